theorem zadI {x y : Int32} (h : -2147483648 ≤ x.toInt + y.toInt ∧ x.toInt + y.toInt ≤ 2147483647) : (x + y).toInt = x.toInt + y.toInt := by
  rw [Int32.toInt_add]
  exact Int.bmod_eq_of_le (by show (-2147483648 : Int) ≤ x.toInt + y.toInt; omega) (by show x.toInt + y.toInt < (2147483648 : Int); omega)
theorem aU_i (f : Nat → Int) (t : Nat) : f t = if t ≤ 0 then aU f t else f t := by
  by_cases h : t ≤ 0
  · rw [if_pos h]
    obtain rfl : t = 0 := by omega
    rfl
  · rw [if_neg h]
theorem wIte {p : Prop} [Decidable p] {x B : Int} (h : 0 ≤ x ∧ x ≤ B) : 0 ≤ (if p then x else 0) ∧ (if p then x else 0) ≤ B := by
  by_cases q : p
  · rw [if_pos q]; exact h
  · rw [if_neg q]; omega
/-- cars of a kind; fires and deaths of a kind -/
noncomputable def wK (h : zH) (k : Int32) (i : Nat) : Int := if tA h 121 i = k then 1 else 0
noncomputable def tK9 (h : zH) (i : Nat) : Int := (tA h 123 i).toInt
noncomputable def wF (h : zH) (k : Int32) (i : Nat) : Int := if tA h 65 i = k ∧ ¬ tA h 71 i = 0 then 1 else 0
noncomputable def wD (h : zH) (k : Int32) (i : Nat) : Int := if tA h 65 i = k ∧ ¬ tA h 71 i = 0 then (tA h 70 i).toInt else 0
noncomputable def tF9 (h : zH) (i : Nat) : Int := (tA h 67 i).toInt
theorem zadU {x y : Int32} {a b : Int} (hx : x.toInt = a) (hy : y.toInt = b) (h : 0 ≤ a ∧ a ≤ 100000000 ∧ 0 ≤ b ∧ b ≤ 100000000) : (x + y).toInt = a + b := by rw [zadI (by omega), hx, hy]
theorem f_fillI {G : zG} (hG : G.1 = zProg) {h : zH} {p : Nat} {x : Int32} (hs : tSh h) (hN : tN h p ≤ 1000) : tC zTt G 282 [.ref p, .int x] h (fun w h2 => w = none ∧ aFr (fun r => r = p) h h2 ∧ ∀ t, t < tN h p → tA h2 p t = x) := by
  refine tC_in (by rw [hG]; rfl) (fun dp => ?_)
  have hl : (Int32.ofNat (tN h p)).toInt = ((tN h p : Nat) : Int) := yofN (by omega)
  refine tw_push rfl ?_
  refine tw_istore rfl ?_
  refine tw_aload rfl rfl ?_
  refine tw_alen rfl ?_
  refine tw_istore rfl ?_
  refine tG_loop (zW_mono zTt G dp) (zW_conj zTt G dp) (V := fun pc L st h9 _ _ => pc = 5 ∧ st = [] ∧ ∃ (h1 : zH) (k : Nat) (z : Int32), h1 = h9 ∧ aFr (fun r => r = p) h h1 ∧ z.toInt = (k : Int) ∧ (∀ t, t < k → tA h1 p t = x) ∧ L = [some (.ref p), some (.int x), some (.int z), some (.int (Int32.ofNat (tN h p)))]) ?_ (⟨rfl, rfl, h, 0, 0, rfl, aFr_r hs, rfl, fun t ht => absurd ht (Nat.not_lt_zero _), rfl⟩)
  rintro _ _ _ _ _ _ ⟨rfl, rfl, h1, k, z, rfl, hF, hz, hall, rfl⟩
  refine tw_iload rfl rfl ?_
  refine tw_iload rfl rfl ?_
  refine tw_ic_ge rfl (fun q1242 => ?_) (fun q1242 => ?_)
  · try dsimp only [tvI_i, tvJ_j, tvR_r] at q1242
    exact tw_vret rfl ⟨rfl, hF, fun t ht => hall t (by omega)⟩
  · try dsimp only [tvI_i, tvJ_j, tvR_r] at q1242
    refine tw_aload rfl rfl ?_
    refine tw_iload rfl rfl ?_
    refine tw_iload rfl rfl ?_
    refine tw_iast rfl (fun f1243 => ?_)
    refine tG_lsi f1243 hF.1 (fun h3 a3 => ?_)
    try dsimp only [tvI_i, tvJ_j, tvR_r] at a3
    have hF3 := aFr_s hF a3 rfl
    refine tw_iinc rfl rfl ?_
    refine tw_goto rfl ?_
    have hk1 : (z + 1).toInt = ((k + 1 : Nat) : Int) := zincN hz (by omega)
    rw [zof_cl hz] at a3
    exact tG_cut (zW_mono zTt G dp) (Or.inr ⟨rfl, rfl, h3, k + 1, z + 1, rfl, hF3, hk1, fun t ht => (Classical.em (t = k)).elim (fun y => by rw [y]; exact mIs_x a3) (fun y => (mIs_o a3 (Or.inr y)).trans (hall t (by omega))), rfl⟩)
theorem f_addUp {G : zG} (hG : G.1 = zProg) {h : zH} {p : Nat} {f : Nat → Int} (hs : tSh h) (hN : 1 ≤ tN h p ∧ tN h p ≤ 1000) (hf : ∀ t, t < tN h p → (tA h p t).toInt = f t) (hb : ∀ t, t < tN h p → 0 ≤ aU f t ∧ aU f t ≤ 100000000) : tC zTt G 169 [.ref p] h (fun w h2 => w = none ∧ aFr (fun r => r = p) h h2 ∧ ∀ t, t < tN h p → (tA h2 p t).toInt = aU f t) := by
  refine tC_in (by rw [hG]; rfl) (fun dp => ?_)
  refine tw_push rfl ?_
  refine tw_istore rfl ?_
  refine tG_loop (zW_mono zTt G dp) (zW_conj zTt G dp) (V := fun pc L st h9 _ _ => pc = 2 ∧ st = [] ∧ ∃ (h1 : zH) (k : Nat) (z : Int32), h1 = h9 ∧ aFr (fun r => r = p) h h1 ∧ z.toInt = ((k + 1 : Nat) : Int) ∧ (∀ t, t < tN h p → (tA h1 p t).toInt = if t ≤ k then aU f t else f t) ∧ L = [some (.ref p), some (.int z)]) ?_ (⟨rfl, rfl, h, 0, 1, rfl, aFr_r hs, rfl, fun t ht => (hf t ht).trans (aU_i f t), rfl⟩)
  rintro _ _ _ _ _ _ ⟨rfl, rfl, h1, k, z, rfl, hF, hz, hall, rfl⟩
  have hl : (Int32.ofNat (tN h1 p)).toInt = ((tN h p : Nat) : Int) := by rw [hF.2.2.2.2.1]; exact yofN (by omega)
  refine tw_iload rfl rfl ?_
  refine tw_aload rfl rfl ?_
  refine tw_alen rfl ?_
  refine tw_ic_ge rfl (fun q1244 => ?_) (fun q1244 => ?_)
  · try dsimp only [tvI_i, tvJ_j, tvR_r] at q1244
    refine tw_vret rfl ⟨rfl, hF, fun t ht => ?_⟩
    rw [hall t ht, if_pos (by omega)]
  · try dsimp only [tvI_i, tvJ_j, tvR_r] at q1244
    have hk9 : k + 1 < tN h p := by omega
    have z0 : z.toNatClampNeg = k + 1 := zof_cl hz
    have z1 : (z - 1).toNatClampNeg = k := zof_cl ((zsbM (b := 1) hz rfl (by omega) (by decide)).trans (by omega))
    have u0 := hall (k + 1) hk9
    rw [if_neg (by omega)] at u0
    have u1 := hall k (by omega)
    rw [if_pos (Nat.le_refl _)] at u1
    have b1 := hb k (by omega)
    have b2 := hb (k + 1) hk9
    have b3 : aU f (k + 1) = aU f k + f (k + 1) := rfl
    refine tw_aload rfl rfl ?_
    refine tw_iload rfl rfl ?_
    refine tw_dup2 rfl ?_
    refine tw_iald rfl (fun f1245 => ?_)
    refine tw_aload rfl rfl ?_
    refine tw_iload rfl rfl ?_
    refine tw_push rfl ?_
    refine tw_isub rfl ?_
    refine tw_iald rfl (fun f1246 => ?_)
    refine tw_iadd rfl ?_
    refine tw_iast rfl (fun f1247 => ?_)
    refine tG_lsi f1247 hF.1 (fun h3 a3 => ?_)
    try dsimp only [tvI_i, tvJ_j, tvR_r] at a3
    have hF3 := aFr_s hF a3 rfl
    refine tw_iinc rfl rfl ?_
    refine tw_goto rfl ?_
    rw [z0, z1] at a3
    have hx9 : (tA h3 p (k + 1)).toInt = aU f (k + 1) := by rw [mIs_x a3, zadI (by omega)]; omega
    have hk1 : (z + 1).toInt = ((k + 1 + 1 : Nat) : Int) := zincN hz (by omega)
    refine tG_cut (zW_mono zTt G dp) (Or.inr ⟨rfl, rfl, h3, k + 1, z + 1, rfl, hF3, hk1, fun t ht => ?_, rfl⟩)
    by_cases y : t = k + 1
    · rw [y, hx9, if_pos (Nat.le_refl _)]
    · rw [mIs_o a3 (Or.inr y), hall t ht]
      by_cases y2 : t ≤ k
      · rw [if_pos y2, if_pos (by omega)]
      · rw [if_neg y2, if_neg (by omega)]
theorem f_countCars {G : zG} (hG : G.1 = zProg) {h : zH} {k : Int32} (hs : tSh h) (hL : R_cl h) (hg : ∀ i r : Nat, (i : Int) < (tvI (tF h 36 4)).toInt → tO h 39 i = some r → 182 ≤ r) (hK : R_ckind h) (hT : R_ctl h) (hn : tN h 107 = 600) (h123 : ∀ i, i < 300 → 0 ≤ (tA h 123 i).toInt ∧ (tA h 123 i).toInt ≤ 599) (h36 : 0 ≤ (tvI (tF h 36 4)).toInt ∧ (tvI (tF h 36 4)).toInt ≤ 300) : tC zTt G 23 [.ref 36, .int k, .ref 107] h (fun w h2 => w = none ∧ aFr (fun r => r = 107) h h2 ∧ ∀ t : Nat, t < 600 → (tA h2 107 t).toInt = bN (wK h k) (tK9 h) (tvI (tF h 36 4)).toNatClampNeg t) := by
  refine tC_in (by rw [hG]; rfl) (fun dp => ?_)
  have hNC : (((tvI (tF h 36 4)).toNatClampNeg : Nat) : Int) = (tvI (tF h 36 4)).toInt := zclx h36.1
  have hw1 : ∀ i, i < (tvI (tF h 36 4)).toNatClampNeg → 0 ≤ wK h k i ∧ wK h k i ≤ 1 := fun i _ => wIte ⟨by decide, by decide⟩
  have ht0 : ∀ i, i < (tvI (tF h 36 4)).toNatClampNeg → 0 ≤ tK9 h i := fun i hi => (h123 i (by rw [zclE] at hi; omega)).1
  refine tw_aload rfl rfl ?_
  refine tw_push rfl ?_
  refine tw_stat2 rfl (f_fillI hG hs (by rw [hn]; decide)) (fun wp1248 hp1248 p1248 => ?_)
  obtain ⟨rfl, Fp1248, Zp1248⟩ := p1248
  rw [hn] at Zp1248
  refine tw_push rfl ?_
  refine tw_istore rfl ?_
  refine tG_loop (zW_mono zTt G dp) (zW_conj zTt G dp) (V := fun pc L st h9 _ _ => pc = 7 ∧ st = [] ∧ ∃ (h1 : zH) (n : Nat) (z : Int32) (l4 : Option Value), h1 = h9 ∧ aFr (fun r => r = 107) h h1 ∧ z.toInt = (n : Int) ∧ (n : Int) ≤ (tvI (tF h 36 4)).toInt ∧ (∀ t, t < 600 → (tA h1 107 t).toInt = cN (wK h k) (tK9 h) n t) ∧ L = [some (.ref 36), some (.int k), some (.ref 107), some (.int z), l4]) ?_ (⟨rfl, rfl, _, 0, 0, none, rfl, Fp1248, rfl, h36.1, fun t ht => by rw [Zp1248 t ht]; rfl, rfl⟩)
  rintro _ _ _ _ _ _ ⟨rfl, rfl, h1, n, z, l4, rfl, hF, hz, hnn, hall, rfl⟩
  have hL1 : R_cl h1 := by unfold R_cl; rw [hF.2.1, hF.2.2.2.1]; exact hL
  have hg1 : ∀ i r : Nat, (i : Int) < (tvI (tF h1 36 4)).toInt → tO h1 39 i = some r → 182 ≤ r := by rw [hF.2.1, hF.2.2.2.1]; exact hg
  have hK1 : R_ckind h1 := fun i r hi hr => by rw [hF.2.1, hF.2.2.2.2.2 121 (by decide)]; rw [hF.2.1] at hi; rw [hF.2.2.2.1] at hr; exact hK i r hi hr
  have hT1 : R_ctl h1 := fun i r hi hr => by rw [hF.2.1, hF.2.2.2.2.2 123 (by decide)]; rw [hF.2.1] at hi; rw [hF.2.2.2.1] at hr; exact hT i r hi hr
  have e36 : (tvI (tF h1 36 4)).toInt = (tvI (tF h 36 4)).toInt := by rw [hF.2.1]
  refine tw_iload rfl rfl ?_
  refine tw_aload rfl rfl ?_
  refine tw_getS rfl (hi_36_4 hF.1) ?_
  refine tw_ic_ge rfl (fun q1249 => ?_) (fun q1249 => ?_)
  · try dsimp only [tvI_i, tvJ_j, tvR_r] at q1249
    refine tw_aload rfl rfl ?_
    have hnN : n = (tvI (tF h 36 4)).toNatClampNeg := by rw [zclE]; omega
    refine tw_stat1 rfl (f_addUp hG hF.1 (f := cN (wK h k) (tK9 h) (tvI (tF h 36 4)).toNatClampNeg) (by rw [hF.2.2.2.2.1, hn]; decide) (by rw [hF.2.2.2.2.1, hn]; exact fun t ht => (hall t ht).trans (by rw [hnN])) (by rw [hF.2.2.2.2.1, hn]; exact fun t ht => by rw [aU_cN ht0]; have y := bN_b (B := 1) (tl := tK9 h) (n := (tvI (tF h 36 4)).toNatClampNeg) hw1 (by decide) (t : Int); omega)) (fun wp1250 hp1250 p1250 => ?_)
    obtain ⟨rfl, Fp1250, Zp1250⟩ := p1250
    rw [hF.2.2.2.2.1, hn] at Zp1250
    exact tw_vret rfl ⟨rfl, aFr_t hF Fp1250, fun t ht => (Zp1250 t ht).trans (aU_cN ht0 t)⟩
  · try dsimp only [tvI_i, tvJ_j, tvR_r] at q1249
    refine tw_aload rfl rfl ?_
    refine tw_iload rfl rfl ?_
    refine tw_virt1 rfl (f_carAtR hG hF.1 hL1 hg1) (fun w9 h9 p1251 => ?_)
    obtain ⟨⟨rp1251, p1251, p1251r, p1251g, rfl⟩ | ⟨p1251, rfl⟩, e9⟩ := p1251
    · obtain rfl := e9.symm
      refine tw_astore rfl ?_
      refine tw_aload rfl rfl ?_
      refine tw_ifnull rfl (fun z => by cases z) (fun _ _ => ?_)
      refine tw_aload rfl rfl ?_
      refine tw_getS rfl (hK1 _ _ p1251.2 p1251r) ?_
      refine tw_iload rfl rfl ?_
      refine tw_ic_ne rfl (fun q1254 => ?_) (fun q1254 => ?_)
      · try dsimp only [tvI_i, tvJ_j, tvR_r] at q1254
        have q1254i := zneq rfl q1254
        refine tw_iinc rfl rfl ?_
        refine tw_goto rfl ?_
        have hz1 : (z + 1).toInt = ((n + 1 : Nat) : Int) := zincN hz (by omega)
        have zn := zof_cl hz
        have e0 : tA h1 121 n = tA h 121 n := congrFun (hF.2.2.2.2.2 121 (by decide)) n
        rw [zn, e0] at q1254
        refine tG_cut (zW_mono zTt G dp) (Or.inr ⟨rfl, rfl, h1, n + 1, z + 1, _, rfl, hF, hz1, by omega, fun t ht => ?_, rfl⟩)
        rw [hall t ht, cN_n (fun _ => if_neg q1254)]
      · try dsimp only [tvI_i, tvJ_j, tvR_r] at q1254
        have q1254i := zeqi rfl q1254
        refine tw_aload rfl rfl ?_
        refine tw_aload rfl rfl ?_
        refine tw_getS rfl (hT1 _ _ p1251.2 p1251r) ?_
        refine tw_dup2 rfl ?_
        refine tw_iald rfl (fun f1255 => ?_)
        refine tw_push rfl ?_
        refine tw_iadd rfl ?_
        refine tw_iast rfl (fun f1256 => ?_)
        refine tG_lsi f1256 hF.1 (fun h3 a3 => ?_)
        try dsimp only [tvI_i, tvJ_j, tvR_r] at a3
        have hF3 := aFr_s hF a3 rfl
        refine tw_iinc rfl rfl ?_
        refine tw_goto rfl ?_
        have hz1 : (z + 1).toInt = ((n + 1 : Nat) : Int) := zincN hz (by omega)
        have zn := zof_cl hz
        have e0 : tA h1 121 n = tA h 121 n := congrFun (hF.2.2.2.2.2 121 (by decide)) n
        rw [zn, e0] at q1254
        have e1 : tA h1 123 n = tA h 123 n := congrFun (hF.2.2.2.2.2 123 (by decide)) n
        rw [zn, e1] at a3
        have b9 := h123 n (by omega)
        have t9 : (((tA h 123 n).toNatClampNeg : Nat) : Int) = tK9 h n := zclx b9.1
        refine tG_cut (zW_mono zTt G dp) (Or.inr ⟨rfl, rfl, h3, n + 1, z + 1, _, rfl, hF3, hz1, by omega, fun t ht => ?_, rfl⟩)
        by_cases y : t = (tA h 123 n).toNatClampNeg
        · rw [y, mIs_x a3, cN_y t9.symm, show wK h k n = 1 from if_pos q1254]
          have b8 := cN_b (B := 1) (tl := tK9 h) (n := n) (fun i hi => hw1 i (by rw [zclE]; omega)) (by decide) (tA h 123 n).toNatClampNeg
          exact zadU (hall _ (by omega)) rfl (by omega)
        · rw [mIs_o a3 (Or.inr y), hall t ht, cN_n (fun y2 => absurd (by omega) y)]
    · obtain rfl := e9.symm
      exact absurd ⟨by omega, by omega⟩ p1251
theorem f_countFires {G : zG} (hG : G.1 = zProg) {h : zH} {k : Int32} (hs : tSh h) (hn108 : tN h 108 = 600) (hn109 : tN h 109 = 600) (h67 : ∀ i, i < 200 → 0 ≤ (tA h 67 i).toInt ∧ (tA h 67 i).toInt ≤ 599) (h70 : ∀ i, i < 200 → 0 ≤ (tA h 70 i).toInt ∧ (tA h 70 i).toInt ≤ 9) (h63 : 0 ≤ (tvI (tF h 63 8)).toInt ∧ (tvI (tF h 63 8)).toInt ≤ 200) : tC zTt G 10 [.ref 63, .int k, .ref 108, .ref 109] h (fun w h2 => w = none ∧ aFr (fun r => r = 108 ∨ r = 109) h h2 ∧ (∀ t : Nat, t < 600 → (tA h2 108 t).toInt = bN (wF h k) (tF9 h) (tvI (tF h 63 8)).toNatClampNeg t) ∧ (∀ t : Nat, t < 600 → (tA h2 109 t).toInt = bN (wD h k) (tF9 h) (tvI (tF h 63 8)).toNatClampNeg t)) := by
  refine tC_in (by rw [hG]; rfl) (fun dp => ?_)
  have hNC : (((tvI (tF h 63 8)).toNatClampNeg : Nat) : Int) = (tvI (tF h 63 8)).toInt := zclx h63.1
  have hw108 : ∀ i, i < (tvI (tF h 63 8)).toNatClampNeg → 0 ≤ wF h k i ∧ wF h k i ≤ 1 := fun i _ => wIte ⟨by decide, by decide⟩
  have hw109 : ∀ i, i < (tvI (tF h 63 8)).toNatClampNeg → 0 ≤ wD h k i ∧ wD h k i ≤ 9 := fun i hi => wIte (h70 i (by rw [zclE] at hi; omega))
  have ht0 : ∀ i, i < (tvI (tF h 63 8)).toNatClampNeg → 0 ≤ tF9 h i := fun i hi => (h67 i (by rw [zclE] at hi; omega)).1
  refine tw_aload rfl rfl ?_
  refine tw_push rfl ?_
  refine tw_stat2 rfl (f_fillI hG hs (by rw [hn108]; decide)) (fun wp1257 hp1257 p1257 => ?_)
  obtain ⟨rfl, FF, Zp1257⟩ := p1257
  rw [hn108] at Zp1257
  refine tw_aload rfl rfl ?_
  refine tw_push rfl ?_
  refine tw_stat2 rfl (f_fillI hG FF.1 (by rw [FF.2.2.2.2.1]; rw [hn109]; decide)) (fun wp1258 hp1258 p1258 => ?_)
  obtain ⟨rfl, Fp1258, Zp1258⟩ := p1258
  rw [FF.2.2.2.2.1, hn109] at Zp1258
  refine tw_push rfl ?_
  refine tw_istore rfl ?_
  refine tG_loop (zW_mono zTt G dp) (zW_conj zTt G dp) (V := fun pc L st h9 _ _ => pc = 13 ∧ st = [] ∧ ∃ (h1 : zH) (n : Nat) (z : Int32), h1 = h9 ∧ aFr (fun r => r = 108 ∨ r = 109) h h1 ∧ z.toInt = (n : Int) ∧ (n : Int) ≤ (tvI (tF h 63 8)).toInt ∧ (∀ t, t < 600 → (tA h1 108 t).toInt = cN (wF h k) (tF9 h) n t) ∧ (∀ t, t < 600 → (tA h1 109 t).toInt = cN (wD h k) (tF9 h) n t) ∧ L = [some (.ref 63), some (.int k), some (.ref 108), some (.ref 109), some (.int z)]) ?_ (⟨rfl, rfl, _, 0, 0, rfl, aFr_t (aFr_m FF (fun _ y => Or.inl y)) (aFr_m Fp1258 (fun _ y => Or.inr y)), rfl, h63.1, fun t ht => by rw [congrFun (Fp1258.2.2.2.2.2 108 (by decide)) t, Zp1257 t ht]; rfl, fun t ht => by rw [Zp1258 t ht]; rfl, rfl⟩)
  rintro _ _ _ _ _ _ ⟨rfl, rfl, h1, n, z, rfl, hF, hz, hnn, hal8, hal9, rfl⟩
  have e63 : (tvI (tF h1 63 8)).toInt = (tvI (tF h 63 8)).toInt := by rw [hF.2.1]
  refine tw_iload rfl rfl ?_
  refine tw_aload rfl rfl ?_
  refine tw_getS rfl (hi_63_8 hF.1) ?_
  refine tw_ic_ge rfl (fun q1259 => ?_) (fun q1259 => ?_)
  · try dsimp only [tvI_i, tvJ_j, tvR_r] at q1259
    refine tw_aload rfl rfl ?_
    have hnN : n = (tvI (tF h 63 8)).toNatClampNeg := by rw [zclE]; omega
    refine tw_stat1 rfl (f_addUp hG hF.1 (f := cN (wF h k) (tF9 h) (tvI (tF h 63 8)).toNatClampNeg) (by rw [hF.2.2.2.2.1, hn108]; decide) (by rw [hF.2.2.2.2.1, hn108]; exact fun t ht => (hal8 t ht).trans (by rw [hnN])) (by rw [hF.2.2.2.2.1, hn108]; exact fun t ht => by rw [aU_cN ht0]; have y := bN_b (B := 1) (tl := tF9 h) (n := (tvI (tF h 63 8)).toNatClampNeg) hw108 (by decide) (t : Int); omega)) (fun wp1260 hp1260 p1260 => ?_)
    obtain ⟨rfl, FB, Z8⟩ := p1260
    rw [hF.2.2.2.2.1, hn108] at Z8
    have FA := aFr_t hF (aFr_m FB (fun _ y => Or.inl y))
    refine tw_aload rfl rfl ?_
    refine tw_stat1 rfl (f_addUp hG FA.1 (f := cN (wD h k) (tF9 h) (tvI (tF h 63 8)).toNatClampNeg) (by rw [FA.2.2.2.2.1, hn109]; decide) (by rw [FA.2.2.2.2.1, hn109]; exact fun t ht => ((congrArg Int32.toInt (congrFun (FB.2.2.2.2.2 109 (by decide)) t)).trans (hal9 t ht)).trans (by rw [hnN])) (by rw [FA.2.2.2.2.1, hn109]; exact fun t ht => by rw [aU_cN ht0]; have y := bN_b (B := 9) (tl := tF9 h) (n := (tvI (tF h 63 8)).toNatClampNeg) hw109 (by decide) (t : Int); omega)) (fun wp1261 hp1261 p1261 => ?_)
    obtain ⟨rfl, FC, Z9⟩ := p1261
    rw [FA.2.2.2.2.1, hn109] at Z9
    exact tw_vret rfl ⟨rfl, aFr_t FA (aFr_m FC (fun _ y => Or.inr y)), fun t ht => (congrArg Int32.toInt (congrFun (FC.2.2.2.2.2 108 (by decide)) t)).trans ((Z8 t ht).trans (aU_cN ht0 t)), fun t ht => (Z9 t ht).trans (aU_cN ht0 t)⟩
  · try dsimp only [tvI_i, tvJ_j, tvR_r] at q1259
    have zn := zof_cl hz
    have e65 : tA h1 65 n = tA h 65 n := congrFun (hF.2.2.2.2.2 65 (by decide)) n
    have e67 : tA h1 67 n = tA h 67 n := congrFun (hF.2.2.2.2.2 67 (by decide)) n
    have e70 : tA h1 70 n = tA h 70 n := congrFun (hF.2.2.2.2.2 70 (by decide)) n
    have e71 : tA h1 71 n = tA h 71 n := congrFun (hF.2.2.2.2.2 71 (by decide)) n
    have b9 := h67 n (by omega)
    have b7 := h70 n (by omega)
    have t9 : (((tA h 67 n).toNatClampNeg : Nat) : Int) = tF9 h n := zclx b9.1
    have hz1 : (z + 1).toInt = ((n + 1 : Nat) : Int) := zincN hz (by omega)
    refine tw_aload rfl rfl ?_
    refine tw_getS rfl (hs_63_1 hF.1) ?_
    refine tw_iload rfl rfl ?_
    refine tw_iald rfl (fun f1262 => ?_)
    refine tw_iload rfl rfl ?_
    refine tw_ic_ne rfl (fun q1263 => ?_) (fun q1263 => ?_)
    · try dsimp only [tvI_i, tvJ_j, tvR_r] at q1263
      have q1263i := zneq rfl q1263
      refine tw_iinc rfl rfl ?_
      refine tw_goto rfl ?_
      rw [zn, e65] at q1263
      refine tG_cut (zW_mono zTt G dp) (Or.inr ⟨rfl, rfl, h1, n + 1, z + 1, rfl, hF, hz1, by omega, fun t ht => ?_, fun t ht => ?_, rfl⟩)
      · rw [hal8 t ht, cN_n (fun _ => if_neg (fun y => q1263 y.1))]
      · rw [hal9 t ht, cN_n (fun _ => if_neg (fun y => q1263 y.1))]
    · try dsimp only [tvI_i, tvJ_j, tvR_r] at q1263
      have q1263i := zeqi rfl q1263
      refine tw_aload rfl rfl ?_
      refine tw_getS rfl (hs_63_7 hF.1) ?_
      refine tw_iload rfl rfl ?_
      refine tw_bald rfl (fun f1264 => ?_)
      refine tw_if_eq rfl (fun q1265 => ?_) (fun q1265 => ?_)
      · try dsimp only [tvI_i, tvJ_j, tvR_r] at q1265
        have q1265i := zeqi (Y := 0) (by decide) q1265
        refine tw_iinc rfl rfl ?_
        refine tw_goto rfl ?_
        rw [zn, e65] at q1263
        rw [zn, e71] at q1265
        refine tG_cut (zW_mono zTt G dp) (Or.inr ⟨rfl, rfl, h1, n + 1, z + 1, rfl, hF, hz1, by omega, fun t ht => ?_, fun t ht => ?_, rfl⟩)
        · rw [hal8 t ht, cN_n (fun _ => if_neg (fun y => y.2 q1265))]
        · rw [hal9 t ht, cN_n (fun _ => if_neg (fun y => y.2 q1265))]
      · try dsimp only [tvI_i, tvJ_j, tvR_r] at q1265
        have q1265i := zneq (Y := 0) (by decide) q1265
        refine tw_aload rfl rfl ?_
        refine tw_aload rfl rfl ?_
        refine tw_getS rfl (hs_63_3 hF.1) ?_
        refine tw_iload rfl rfl ?_
        refine tw_iald rfl (fun f1266 => ?_)
        refine tw_dup2 rfl ?_
        refine tw_iald rfl (fun f1267 => ?_)
        refine tw_push rfl ?_
        refine tw_iadd rfl ?_
        refine tw_iast rfl (fun f1268 => ?_)
        refine tG_lsi f1268 hF.1 (fun h3 a3 => ?_)
        try dsimp only [tvI_i, tvJ_j, tvR_r] at a3
        have hF3 := aFr_s hF a3 (Or.inl rfl)
        refine tw_aload rfl rfl ?_
        refine tw_aload rfl rfl ?_
        refine tw_getS rfl (hs_63_3 hF3.1) ?_
        refine tw_iload rfl rfl ?_
        refine tw_iald rfl (fun f1269 => ?_)
        refine tw_dup2 rfl ?_
        refine tw_iald rfl (fun f1270 => ?_)
        refine tw_aload rfl rfl ?_
        refine tw_getS rfl (hs_63_6 hF3.1) ?_
        refine tw_iload rfl rfl ?_
        refine tw_iald rfl (fun f1271 => ?_)
        refine tw_iadd rfl ?_
        refine tw_iast rfl (fun f1272 => ?_)
        refine tG_lsi f1272 hF3.1 (fun h4 a4 => ?_)
        try dsimp only [tvI_i, tvJ_j, tvR_r] at a4
        have hF4 := aFr_s hF3 a4 (Or.inr rfl)
        refine tw_iinc rfl rfl ?_
        refine tw_goto rfl ?_
        rw [zn, e65] at q1263
        rw [zn, e71] at q1265
        have hw8 : wF h k n = 1 := if_pos ⟨q1263, q1265⟩
        have hw9 : wD h k n = (tA h 70 n).toInt := if_pos ⟨q1263, q1265⟩
        rw [zn, e67] at a3
        have f67 : tA h3 67 n = tA h 67 n := (congrFun (hF3.2.2.2.2.2 67 (by decide)) n)
        have f70 : tA h3 70 n = tA h 70 n := (congrFun (hF3.2.2.2.2.2 70 (by decide)) n)
        rw [zn, f67, f70] at a4
        have b8 := cN_b (B := 1) (tl := tF9 h) (n := n) (fun i hi => hw108 i (by rw [zclE]; omega)) (by decide) (tA h 67 n).toNatClampNeg
        have b6 := cN_b (B := 9) (tl := tF9 h) (n := n) (fun i hi => hw109 i (by rw [zclE]; omega)) (by decide) (tA h 67 n).toNatClampNeg
        refine tG_cut (zW_mono zTt G dp) (Or.inr ⟨rfl, rfl, h4, n + 1, z + 1, rfl, hF4, hz1, by omega, fun t ht => ?_, fun t ht => ?_, rfl⟩)
        · rw [mIs_o a4 (Or.inl (by decide))]
          by_cases y : t = (tA h 67 n).toNatClampNeg
          · rw [y, mIs_x a3, cN_y t9.symm, hw8]
            exact zadU (hal8 _ (by omega)) rfl (by omega)
          · rw [mIs_o a3 (Or.inr y), hal8 t ht, cN_n (fun y2 => absurd (by omega) y)]
        · by_cases y : t = (tA h 67 n).toNatClampNeg
          · rw [y, mIs_x a4, cN_y t9.symm, hw9]
            exact zadU ((congrArg Int32.toInt (mIs_o a3 (Or.inl (by decide)))).trans (hal9 _ (by omega))) rfl (by omega)
          · rw [mIs_o a4 (Or.inr y), mIs_o a3 (Or.inl (by decide)), hal9 t ht, cN_n (fun y2 => absurd (by omega) y)]
theorem f_fillJ {G : zG} (hG : G.1 = zProg) {h : zH} {p : Nat} {x : Int64} (hs : tSh h) (hN : tN h p ≤ 1000) : tC zTt G 281 [.ref p, .long x] h (fun w h2 => w = none ∧ wFr p h h2 ∧ ∀ t, t < tN h p → tJ h2 p t = x) := by
  refine tC_in (by rw [hG]; rfl) (fun dp => ?_)
  have hl : (Int32.ofNat (tN h p)).toInt = ((tN h p : Nat) : Int) := yofN (by omega)
  refine tw_push rfl ?_
  refine tw_istore rfl ?_
  refine tw_aload rfl rfl ?_
  refine tw_alen rfl ?_
  refine tw_istore rfl ?_
  refine tG_loop (zW_mono zTt G dp) (zW_conj zTt G dp) (V := fun pc L st h9 _ _ => pc = 6 ∧ st = [] ∧ ∃ (h1 : zH) (k : Nat) (z : Int32), h1 = h9 ∧ wFr p h h1 ∧ z.toInt = (k : Int) ∧ (∀ t, t < k → tJ h1 p t = x) ∧ L = [some (.ref p), some (.long x), none, some (.int z), some (.int (Int32.ofNat (tN h p)))]) ?_ (⟨rfl, rfl, h, 0, 0, rfl, wFr_r hs, rfl, fun t ht => absurd ht (Nat.not_lt_zero _), rfl⟩)
  rintro _ _ _ _ _ _ ⟨rfl, rfl, h1, k, z, rfl, hF, hz, hall, rfl⟩
  refine tw_iload rfl rfl ?_
  refine tw_iload rfl rfl ?_
  refine tw_ic_ge rfl (fun q1273 => ?_) (fun q1273 => ?_)
  · try dsimp only [tvI_i, tvJ_j, tvR_r] at q1273
    exact tw_vret rfl ⟨rfl, hF, fun t ht => hall t (by omega)⟩
  · try dsimp only [tvI_i, tvJ_j, tvR_r] at q1273
    refine tw_aload rfl rfl ?_
    refine tw_iload rfl rfl ?_
    refine tw_lload rfl rfl ?_
    refine tw_last rfl (fun f1274 => ?_)
    refine tG_lst f1274 hF.1 (fun h3 a3 => ?_)
    try dsimp only [tvI_i, tvJ_j, tvR_r] at a3
    have hF3 := wFr_s hF a3
    refine tw_iinc rfl rfl ?_
    refine tw_goto rfl ?_
    have hk1 : (z + 1).toInt = ((k + 1 : Nat) : Int) := zincN hz (by omega)
    rw [zof_cl hz] at a3
    have ea := mJs_g a3 rfl
    exact tG_cut (zW_mono zTt G dp) (Or.inr ⟨rfl, rfl, h3, k + 1, z + 1, rfl, hF3, hk1, fun t ht => (congrFun ea t).trans ((Classical.em (t = k)).elim (fun y => if_pos y) (fun y => (if_neg y).trans (hall t (by omega)))), rfl⟩)
theorem wF_e {h h2 : zH} {k : Int32} (e1 : tA h2 65 = tA h 65) (e2 : tA h2 71 = tA h 71) : wF h2 k = wF h k := by
  funext i
  unfold wF
  rw [e1, e2]
theorem wD_e {h h2 : zH} {k : Int32} (e1 : tA h2 65 = tA h 65) (e2 : tA h2 71 = tA h 71) (e3 : tA h2 70 = tA h 70) : wD h2 k = wD h k := by
  funext i
  unfold wD
  rw [e1, e2, e3]
theorem tF9_e {h h2 : zH} (e1 : tA h2 67 = tA h 67) : tF9 h2 = tF9 h := by
  funext i
  unfold tF9
  rw [e1]
/-- what the class counts of a kind -/
noncomputable def tly (k : Int32) (h h2 : zH) : Prop := (∀ t : Nat, t < 600 → (tA h2 107 t).toInt = bN (wK h k) (tK9 h) (tvI (tF h 36 4)).toNatClampNeg t) ∧ (∀ t : Nat, t < 600 → (tA h2 108 t).toInt = bN (wF h k) (tF9 h) (tvI (tF h 63 8)).toNatClampNeg t) ∧ ∀ t : Nat, t < 600 → (tA h2 109 t).toInt = bN (wD h k) (tF9 h) (tvI (tF h 63 8)).toNatClampNeg t
theorem f_tally {G : zG} (hG : G.1 = zProg) {h : zH} {k : Int32} (hs : tSh h) (hL : R_cl h) (hg : ∀ i r : Nat, (i : Int) < (tvI (tF h 36 4)).toInt → tO h 39 i = some r → 182 ≤ r) (hK : R_ckind h) (hT : R_ctl h) (hn107 : tN h 107 = 600) (hn108 : tN h 108 = 600) (hn109 : tN h 109 = 600) (h123 : ∀ i, i < 300 → 0 ≤ (tA h 123 i).toInt ∧ (tA h 123 i).toInt ≤ 599) (h36 : 0 ≤ (tvI (tF h 36 4)).toInt ∧ (tvI (tF h 36 4)).toInt ≤ 300) (h67 : ∀ i, i < 200 → 0 ≤ (tA h 67 i).toInt ∧ (tA h 67 i).toInt ≤ 599) (h70 : ∀ i, i < 200 → 0 ≤ (tA h 70 i).toInt ∧ (tA h 70 i).toInt ≤ 9) (h63 : 0 ≤ (tvI (tF h 63 8)).toInt ∧ (tvI (tF h 63 8)).toInt ≤ 200) : tC zTt G 164 [.ref 0, .int k] h (fun w h2 => w = none ∧ aFr (fun r => r = 107 ∨ r = 108 ∨ r = 109) h h2 ∧ tly k h h2) := by
  refine tC_in (by rw [hG]; rfl) (fun dp => ?_)
  refine tw_aload rfl rfl ?_
  refine tw_getS rfl (hs_0_1 hs) ?_
  refine tw_iload rfl rfl ?_
  refine tw_aload rfl rfl ?_
  refine tw_getS rfl (hs_0_10 hs) ?_
  refine tw_virt2 rfl (f_countCars hG hs hL hg hK hT hn107 h123 h36) (fun wp1275 hp1275 p1275 => ?_)
  obtain ⟨rfl, FA, Z7⟩ := p1275
  have eA : ∀ p, p ≠ 107 → tA hp1275 p = tA h p := fun p hp => FA.2.2.2.2.2 p hp
  have eF : tF hp1275 = tF h := FA.2.1
  refine tw_aload rfl rfl ?_
  refine tw_getS rfl (hs_0_5 FA.1) ?_
  refine tw_iload rfl rfl ?_
  refine tw_aload rfl rfl ?_
  refine tw_getS rfl (hs_0_11 FA.1) ?_
  refine tw_aload rfl rfl ?_
  refine tw_getS rfl (hs_0_12 FA.1) ?_
  refine tw_virt3 rfl (f_countFires hG FA.1 (by rw [FA.2.2.2.2.1]; exact hn108) (by rw [FA.2.2.2.2.1]; exact hn109) (by rw [eA 67 (by decide)]; exact h67) (by rw [eA 70 (by decide)]; exact h70) (by rw [eF]; exact h63)) (fun wp1276 hp1276 p1276 => ?_)
  obtain ⟨rfl, FB, Z8, Z9⟩ := p1276
  rw [eF] at Z8 Z9
  rw [wF_e (eA 65 (by decide)) (eA 71 (by decide)), tF9_e (eA 67 (by decide))] at Z8
  rw [wD_e (eA 65 (by decide)) (eA 71 (by decide)) (eA 70 (by decide)), tF9_e (eA 67 (by decide))] at Z9
  exact tw_vret rfl ⟨rfl, aFr_t (aFr_m FA (fun _ y => Or.inl y)) (aFr_m FB (fun _ y => Or.inr y)), fun t ht => (congrArg Int32.toInt (congrFun (FB.2.2.2.2.2 107 (by decide)) t)).trans (Z7 t ht), Z8, Z9⟩
/-- the words of a kind in a month -/
noncomputable def qW (a b c d e f g : Int64) : Nat → Int64
  | 0 => a
  | 1 => b
  | 2 => c
  | 3 => d
  | 4 => e
  | 5 => f
  | 6 => g
  | _ => 0
theorem mJs_7 {h b0 b1 b2 b3 b4 b5 b6 b7 : zH} {x0 x1 x2 x3 x4 x5 x6 : Int64} {p : Nat} (k0 : ∀ t, t < 12 → tJ b0 p t = 0) (k1 : mJs p 0 x0 b0 b1) (k2 : mJs p 1 x1 b1 b2) (k3 : mJs p 2 x2 b2 b3) (k4 : mJs p 3 x3 b3 b4) (k5 : mJs p 4 x4 b4 b5) (k6 : mJs p 5 x5 b5 b6) (k7 : mJs p 6 x6 b6 b7) : ∀ i, i < 12 → tJ b7 p i = qW x0 x1 x2 x3 x4 x5 x6 i := by
  intro i hi
  rw [mJs_g k7 (mJs_g k6 (mJs_g k5 (mJs_g k4 (mJs_g k3 (mJs_g k2 (mJs_g k1 rfl))))))]
  have z := k0 i hi
  rcases (by omega : i = 0 ∨ i = 1 ∨ i = 2 ∨ i = 3 ∨ i = 4 ∨ i = 5 ∨ i = 6 ∨ (7 ≤ i ∧ i < 12)) with rfl | rfl | rfl | rfl | rfl | rfl | rfl | hi7
  · rfl
  · rfl
  · rfl
  · rfl
  · rfl
  · rfl
  · rfl
  · dsimp only
    rw [if_neg (by omega), if_neg (by omega), if_neg (by omega), if_neg (by omega), if_neg (by omega), if_neg (by omega), if_neg (by omega), z]
    rcases (by omega : i = 7 ∨ i = 8 ∨ i = 9 ∨ i = 10 ∨ i = 11) with rfl | rfl | rfl | rfl | rfl <;> rfl
theorem f_askOfKind {G : zG} (hG : G.1 = zProg) {h : zH} {k m y : Int32} (hs : tSh h) (h52 : tN h 52 = 12) : tC zTt G 165 [.ref 0, .int k, .int m, .int y] h (fun w h2 => w = none ∧ wFr 52 h h2 ∧ ∀ i, i < 12 → tJ h2 52 i = (qW m.toInt64 k.toInt64 (tA h 3 k.toNatClampNeg).toInt64 y.toInt64 (tA h 107 m.toNatClampNeg).toInt64 (tA h 108 m.toNatClampNeg).toInt64 (tA h 109 m.toNatClampNeg).toInt64) i) := by
  refine tC_in (by rw [hG]; rfl) (fun dp => ?_)
  refine tw_aload rfl rfl ?_
  refine tw_getS rfl (hs_0_3 hs) ?_
  refine tw_getS rfl (hs_48_4 hs) ?_
  refine tw_astore rfl ?_
  refine tw_aload rfl rfl ?_
  refine tw_push rfl ?_
  refine tw_stat2 rfl (f_fillJ hG hs (by rw [h52]; decide)) (fun wp1277 hp1277 p1277 => ?_)
  obtain ⟨rfl, G0, Z0⟩ := p1277
  rw [h52] at Z0
  refine tw_aload rfl rfl ?_
  refine tw_push rfl ?_
  refine tw_iload rfl rfl ?_
  refine tw_i2l rfl ?_
  refine tw_last rfl (fun f1278 => ?_)
  refine tG_lst f1278 G0.1 (fun b1 a1 => ?_)
  try dsimp only [tvI_i, tvJ_j, tvR_r] at a1
  have G1 := wFr_s G0 a1
  refine tw_aload rfl rfl ?_
  refine tw_push rfl ?_
  refine tw_iload rfl rfl ?_
  refine tw_i2l rfl ?_
  refine tw_last rfl (fun f1279 => ?_)
  refine tG_lst f1279 G1.1 (fun b2 a2 => ?_)
  try dsimp only [tvI_i, tvJ_j, tvR_r] at a2
  have G2 := wFr_s G1 a2
  refine tw_aload rfl rfl ?_
  refine tw_push rfl ?_
  refine tw_aload rfl rfl ?_
  refine tw_getS rfl (hs_0_0 G2.1) ?_
  refine tw_getS rfl (hs_1_1 G2.1) ?_
  refine tw_iload rfl rfl ?_
  refine tw_iald rfl (fun f1280 => ?_)
  refine tw_i2l rfl ?_
  refine tw_last rfl (fun f1281 => ?_)
  refine tG_lst f1281 G2.1 (fun b3 a3 => ?_)
  try dsimp only [tvI_i, tvJ_j, tvR_r] at a3
  have G3 := wFr_s G2 a3
  refine tw_aload rfl rfl ?_
  refine tw_push rfl ?_
  refine tw_iload rfl rfl ?_
  refine tw_i2l rfl ?_
  refine tw_last rfl (fun f1282 => ?_)
  refine tG_lst f1282 G3.1 (fun b4 a4 => ?_)
  try dsimp only [tvI_i, tvJ_j, tvR_r] at a4
  have G4 := wFr_s G3 a4
  refine tw_aload rfl rfl ?_
  refine tw_push rfl ?_
  refine tw_aload rfl rfl ?_
  refine tw_getS rfl (hs_0_10 G4.1) ?_
  refine tw_iload rfl rfl ?_
  refine tw_iald rfl (fun f1283 => ?_)
  refine tw_i2l rfl ?_
  refine tw_last rfl (fun f1284 => ?_)
  refine tG_lst f1284 G4.1 (fun b5 a5 => ?_)
  try dsimp only [tvI_i, tvJ_j, tvR_r] at a5
  have G5 := wFr_s G4 a5
  refine tw_aload rfl rfl ?_
  refine tw_push rfl ?_
  refine tw_aload rfl rfl ?_
  refine tw_getS rfl (hs_0_11 G5.1) ?_
  refine tw_iload rfl rfl ?_
  refine tw_iald rfl (fun f1285 => ?_)
  refine tw_i2l rfl ?_
  refine tw_last rfl (fun f1286 => ?_)
  refine tG_lst f1286 G5.1 (fun b6 a6 => ?_)
  try dsimp only [tvI_i, tvJ_j, tvR_r] at a6
  have G6 := wFr_s G5 a6
  refine tw_aload rfl rfl ?_
  refine tw_push rfl ?_
  refine tw_aload rfl rfl ?_
  refine tw_getS rfl (hs_0_12 G6.1) ?_
  refine tw_iload rfl rfl ?_
  refine tw_iald rfl (fun f1287 => ?_)
  refine tw_i2l rfl ?_
  refine tw_last rfl (fun f1288 => ?_)
  refine tG_lst f1288 G6.1 (fun b7 a7 => ?_)
  try dsimp only [tvI_i, tvJ_j, tvR_r] at a7
  have G7 := wFr_s G6 a7
  rw [congrFun G2.2.2.1 3] at a3
  rw [congrFun G4.2.2.1 107] at a5
  rw [congrFun G5.2.2.1 108] at a6
  rw [congrFun G6.2.2.1 109] at a7
  exact tw_vret rfl ⟨rfl, G7, mJs_7 (h := h) Z0 a1 a2 a3 a4 a5 a6 a7⟩
/-- the rule in force among the first n -/
noncomputable def sRI (fm : Nat → Int32) (m : Int32) : Nat → Int32
  | 0 => -1
  | n + 1 => if (fm n).toInt ≤ m.toInt ∧ (sRI fm m n = -1 ∨ (fm (sRI fm m n).toNatClampNeg).toInt ≤ (fm n).toInt) then Int32.ofNat n else sRI fm m n
section RI9
variable {fm : Nat → Int32} {m x y : Int32} {n : Nat}
theorem sRI_u : sRI fm m (n + 1) = if (fm n).toInt ≤ m.toInt ∧ (sRI fm m n = -1 ∨ (fm (sRI fm m n).toNatClampNeg).toInt ≤ (fm n).toInt) then Int32.ofNat n else sRI fm m n := rfl
theorem sRI_y (hx : x.toInt = n) (hy : y = sRI fm m n) (h1 : (fm x.toNatClampNeg).toInt ≤ m.toInt) (h2 : y = -1 ∨ (fm y.toNatClampNeg).toInt ≤ (fm x.toNatClampNeg).toInt) : x = sRI fm m (n + 1) := by
  rw [zof_cl hx] at h1 h2
  rw [sRI_u, ← hy, if_pos ⟨h1, h2⟩]
  exact zof hx
theorem sRI_n (hx : x.toInt = n) (hy : y = sRI fm m n) (h : ¬ ((fm x.toNatClampNeg).toInt ≤ m.toInt ∧ (y = -1 ∨ (fm y.toNatClampNeg).toInt ≤ (fm x.toNatClampNeg).toInt))) : y = sRI fm m (n + 1) := by
  rw [zof_cl hx] at h
  rw [sRI_u, ← hy, if_neg h]
end RI9
theorem f_ruleIn {G : zG} (hG : G.1 = zProg) {h : zH} {m : Int32} (hs : tSh h) (hn : 0 ≤ (tvI (tF h 48 3)).toInt) : tC zTt G 65 [.ref 48, .int m] h (fun w h2 => w = some (.int (sRI (tA h 49) m (tvI (tF h 48 3)).toNatClampNeg)) ∧ h2 = h) := by
  refine tC_in (by rw [hG]; rfl) (fun dp => ?_)
  refine tw_push rfl ?_
  refine tw_istore rfl ?_
  refine tw_push rfl ?_
  refine tw_istore rfl ?_
  refine tG_loop (zW_mono zTt G dp) (zW_conj zTt G dp) (V := fun pc L st h9 _ _ => pc = 4 ∧ st = [] ∧ h = h9 ∧ ∃ (n : Nat) (x y : Int32), x.toInt = n ∧ (n : Int) ≤ (tvI (tF h 48 3)).toInt ∧ y = sRI (tA h 49) m n ∧ L = [some (.ref 48), some (.int m), some (.int y), some (.int x)]) ?_ (⟨rfl, rfl, rfl, 0, 0, -1, rfl, hn, rfl, rfl⟩)
  rintro _ _ _ _ _ _ ⟨rfl, rfl, rfl, n, x, y, hx, hn, hy, rfl⟩
  refine tw_iload rfl rfl ?_
  refine tw_aload rfl rfl ?_
  refine tw_getS rfl (hi_48_3 hs) ?_
  refine tw_ic_ge rfl (fun q1289 => ?_) (fun q1289 => ?_)
  · try dsimp only [tvI_i, tvJ_j, tvR_r] at q1289
    refine tw_iload rfl rfl ?_
    exact tw_iret rfl ⟨(by rw [show n = (tvI (tF h 48 3)).toNatClampNeg from by rw [zclE]; omega] at hy; exact congrArg (fun z => some (Value.int z)) hy), rfl⟩
  · try dsimp only [tvI_i, tvJ_j, tvR_r] at q1289
    refine tw_aload rfl rfl ?_
    refine tw_getS rfl (hs_48_0 hs) ?_
    refine tw_iload rfl rfl ?_
    refine tw_iald rfl (fun f1290 => ?_)
    refine tw_iload rfl rfl ?_
    refine tw_ic_gt rfl (fun q1291 => ?_) (fun q1291 => ?_)
    · try dsimp only [tvI_i, tvJ_j, tvR_r] at q1291
      refine tw_iinc rfl rfl ?_
      refine tw_goto rfl ?_
      exact tG_cut (zW_mono zTt G dp) (Or.inr ⟨rfl, rfl, rfl, n + 1, x + 1, _, zincL hx q1289, by omega, sRI_n hx hy (fun z => absurd z.1 (by omega)), rfl⟩)
    · try dsimp only [tvI_i, tvJ_j, tvR_r] at q1291
      refine tw_iload rfl rfl ?_
      refine tw_push rfl ?_
      refine tw_ic_eq rfl (fun q1292 => ?_) (fun q1292 => ?_)
      · try dsimp only [tvI_i, tvJ_j, tvR_r] at q1292
        have q1292i := zeqi (Y := (-1)) (by decide) q1292
        refine tw_iload rfl rfl ?_
        refine tw_istore rfl ?_
        refine tw_iinc rfl rfl ?_
        refine tw_goto rfl ?_
        exact tG_cut (zW_mono zTt G dp) (Or.inr ⟨rfl, rfl, rfl, n + 1, x + 1, _, zincL hx q1289, by omega, sRI_y hx hy (by omega) (Or.inl q1292), rfl⟩)
      · try dsimp only [tvI_i, tvJ_j, tvR_r] at q1292
        have q1292i := zneq (Y := (-1)) (by decide) q1292
        refine tw_aload rfl rfl ?_
        refine tw_getS rfl (hs_48_0 hs) ?_
        refine tw_iload rfl rfl ?_
        refine tw_iald rfl (fun f1293 => ?_)
        refine tw_aload rfl rfl ?_
        refine tw_getS rfl (hs_48_0 hs) ?_
        refine tw_iload rfl rfl ?_
        refine tw_iald rfl (fun f1294 => ?_)
        refine tw_ic_lt rfl (fun q1295 => ?_) (fun q1295 => ?_)
        · try dsimp only [tvI_i, tvJ_j, tvR_r] at q1295
          refine tw_iinc rfl rfl ?_
          refine tw_goto rfl ?_
          exact tG_cut (zW_mono zTt G dp) (Or.inr ⟨rfl, rfl, rfl, n + 1, x + 1, _, zincL hx q1289, by omega, sRI_n hx hy (fun z => z.2.elim q1292 (fun z => absurd z (by omega))), rfl⟩)
        · try dsimp only [tvI_i, tvJ_j, tvR_r] at q1295
          refine tw_iload rfl rfl ?_
          refine tw_istore rfl ?_
          refine tw_iinc rfl rfl ?_
          refine tw_goto rfl ?_
          exact tG_cut (zW_mono zTt G dp) (Or.inr ⟨rfl, rfl, rfl, n + 1, x + 1, _, zincL hx q1289, by omega, sRI_y hx hy (by omega) (Or.inr (by omega)), rfl⟩)
theorem g_inForceIn {G : zG} (hG : G.1 = zProg) {h : zH} {m : Int32} (hs : tSh h) (hn : 0 ≤ (tvI (tF h 111 30)).toInt) : tC zTt G 226 [.ref 111, .int m] h (fun w h2 => w = some (.int (sRI (tA h 141) m (tvI (tF h 111 30)).toNatClampNeg)) ∧ h2 = h) := by
  refine tC_in (by rw [hG]; rfl) (fun dp => ?_)
  refine tw_push rfl ?_
  refine tw_istore rfl ?_
  refine tw_push rfl ?_
  refine tw_istore rfl ?_
  refine tG_loop (zW_mono zTt G dp) (zW_conj zTt G dp) (V := fun pc L st h9 _ _ => pc = 4 ∧ st = [] ∧ h = h9 ∧ ∃ (n : Nat) (x y : Int32), x.toInt = n ∧ (n : Int) ≤ (tvI (tF h 111 30)).toInt ∧ y = sRI (tA h 141) m n ∧ L = [some (.ref 111), some (.int m), some (.int y), some (.int x)]) ?_ (⟨rfl, rfl, rfl, 0, 0, -1, rfl, hn, rfl, rfl⟩)
  rintro _ _ _ _ _ _ ⟨rfl, rfl, rfl, n, x, y, hx, hn, hy, rfl⟩
  refine tw_iload rfl rfl ?_
  refine tw_aload rfl rfl ?_
  refine tw_getS rfl (hi_111_30 hs) ?_
  refine tw_ic_ge rfl (fun q1296 => ?_) (fun q1296 => ?_)
  · try dsimp only [tvI_i, tvJ_j, tvR_r] at q1296
    refine tw_iload rfl rfl ?_
    exact tw_iret rfl ⟨(by rw [show n = (tvI (tF h 111 30)).toNatClampNeg from by rw [zclE]; omega] at hy; exact congrArg (fun z => some (Value.int z)) hy), rfl⟩
  · try dsimp only [tvI_i, tvJ_j, tvR_r] at q1296
    refine tw_aload rfl rfl ?_
    refine tw_getS rfl (hs_111_44 hs) ?_
    refine tw_iload rfl rfl ?_
    refine tw_iald rfl (fun f1297 => ?_)
    refine tw_iload rfl rfl ?_
    refine tw_ic_gt rfl (fun q1298 => ?_) (fun q1298 => ?_)
    · try dsimp only [tvI_i, tvJ_j, tvR_r] at q1298
      refine tw_iload rfl rfl ?_
      refine tw_istore rfl ?_
      refine tw_iinc rfl rfl ?_
      refine tw_goto rfl ?_
      exact tG_cut (zW_mono zTt G dp) (Or.inr ⟨rfl, rfl, rfl, n + 1, x + 1, _, zincL hx q1296, by omega, sRI_n hx hy (fun z => absurd z.1 (by omega)), rfl⟩)
    · try dsimp only [tvI_i, tvJ_j, tvR_r] at q1298
      refine tw_iload rfl rfl ?_
      refine tw_push rfl ?_
      refine tw_ic_eq rfl (fun q1299 => ?_) (fun q1299 => ?_)
      · try dsimp only [tvI_i, tvJ_j, tvR_r] at q1299
        have q1299i := zeqi (Y := (-1)) (by decide) q1299
        refine tw_iload rfl rfl ?_
        refine tw_goto rfl ?_
        refine tw_istore rfl ?_
        refine tw_iinc rfl rfl ?_
        refine tw_goto rfl ?_
        exact tG_cut (zW_mono zTt G dp) (Or.inr ⟨rfl, rfl, rfl, n + 1, x + 1, _, zincL hx q1296, by omega, sRI_y hx hy (by omega) (Or.inl q1299), rfl⟩)
      · try dsimp only [tvI_i, tvJ_j, tvR_r] at q1299
        have q1299i := zneq (Y := (-1)) (by decide) q1299
        refine tw_aload rfl rfl ?_
        refine tw_getS rfl (hs_111_44 hs) ?_
        refine tw_iload rfl rfl ?_
        refine tw_iald rfl (fun f1300 => ?_)
        refine tw_aload rfl rfl ?_
        refine tw_getS rfl (hs_111_44 hs) ?_
        refine tw_iload rfl rfl ?_
        refine tw_iald rfl (fun f1301 => ?_)
        refine tw_ic_lt rfl (fun q1302 => ?_) (fun q1302 => ?_)
        · try dsimp only [tvI_i, tvJ_j, tvR_r] at q1302
          refine tw_iload rfl rfl ?_
          refine tw_istore rfl ?_
          refine tw_iinc rfl rfl ?_
          refine tw_goto rfl ?_
          exact tG_cut (zW_mono zTt G dp) (Or.inr ⟨rfl, rfl, rfl, n + 1, x + 1, _, zincL hx q1296, by omega, sRI_n hx hy (fun z => z.2.elim q1299 (fun z => absurd z (by omega))), rfl⟩)
        · try dsimp only [tvI_i, tvJ_j, tvR_r] at q1302
          refine tw_iload rfl rfl ?_
          refine tw_goto rfl ?_
          refine tw_istore rfl ?_
          refine tw_iinc rfl rfl ?_
          refine tw_goto rfl ?_
          exact tG_cut (zW_mono zTt G dp) (Or.inr ⟨rfl, rfl, rfl, n + 1, x + 1, _, zincL hx q1296, by omega, sRI_y hx hy (by omega) (Or.inr (by omega)), rfl⟩)
/-! what a rule tells, whichever words they are -/
theorem ev_w {W W2 : Nat → Int64} (hW : ∀ i, i < 12 → W i = W2 i) {e : List Nat} {S S1 : List Bool} {X : List Int64} (h : tyL S e = some S1) : ev W e X = ev W2 e X := by
  induction e generalizing S X with
  | nil => rfl
  | cons c e ih =>
    obtain ⟨S2, h1, h2⟩ := tyL_c h
    show ev W e (ev1 W c X) = ev W2 e (ev1 W2 c X)
    have e1 : ev1 W c X = ev1 W2 c X := by
      by_cases z : c < 100100
      · rw [ev_v z, ev_v z]
        have hc : c < 100012 := by
          unfold tyS at h1
          split at h1
          · assumption
          · repeat' (split at h1)
            all_goals first | omega | cases h1
        unfold vOf
        by_cases y : 100000 ≤ c
        · rw [if_pos y, if_pos y, hW _ (by omega)]
        · rw [if_neg y, if_neg y]
      · unfold ev1
        rw [if_neg z, if_neg z]
    rw [e1]
    exact ih h2
theorem wv_w {W W2 : Nat → Int64} (hW : ∀ i, i < 12 → W i = W2 i) {e : List Nat} {S1 : List Bool} (h : tyL [] e = some S1) : wv W e = wv W2 e := by
  unfold wv
  rw [ev_w hW h]
theorem hit_w {W W2 : Nat → Int64} (hW : ∀ i, i < 12 → W i = W2 i) {cs : List Nat} {c : rCt} {th : Nat} (ok : rOk cs c) (nv : nVl cs ≤ 80) : hit W cs c th ↔ hit W2 cs c th := by
  unfold hit
  by_cases z : c.2.2.1 = c.2.2.2
  · exact ⟨fun y => ⟨y.1, Or.inl z⟩, fun y => ⟨y.1, Or.inl z⟩⟩
  · rw [wv_w hW (rOk_t ok nv z).2.2.1]
noncomputable def clI (z : Int) : Int := if z < 0 then 0 else if 200 < z then 200 else z
/-- what the first clause of a thing tells, held between 0 and 200; -1 without one -/
noncomputable def muO (W : Nat → Int64) (cs : List Nat) (cl : Nat → rCt) (K th : Nat) (r : Int32) : Prop := (r = -1 ∧ ∀ i, i < K → ¬ hit W cs (cl i) th) ∨ ∃ i, i < K ∧ hit W cs (cl i) th ∧ (∀ j, j < i → ¬ hit W cs (cl j) th) ∧ r.toInt = clI (wv W (slc cs (cl i).2.1 (cl i).2.2.1)).toInt
theorem muO_u {W W2 : Nat → Int64} (hW : ∀ i, i < 12 → W i = W2 i) {cs : List Nat} {cl : Nat → rCt} {K th : Nat} {r r2 : Int32} (ok : ∀ i, i < K → rOk cs (cl i)) (nv : nVl cs ≤ 80) (h15 : th ≠ 15) (h1 : muO W cs cl K th r) (h2 : muO W2 cs cl K th r2) : r2 = r := by
  rcases h1 with ⟨rfl, a1⟩ | ⟨i, a1, a2, a3, a4⟩ <;> rcases h2 with ⟨rfl, b1⟩ | ⟨j, b1, b2, b3, b4⟩
  · rfl
  · exact absurd ((hit_w hW (ok j b1) nv).mpr b2) (a1 j b1)
  · exact absurd ((hit_w hW (ok i a1) nv).mp a2) (b1 i a1)
  · have e : i = j := by
      rcases Nat.lt_trichotomy i j with z | z | z
      · exact absurd ((hit_w hW (ok i a1) nv).mp a2) (b3 i z)
      · exact z
      · exact absurd ((hit_w hW (ok j b1) nv).mpr b2) (a3 j z)
    subst e
    have h15 : (cl i).1 ≠ 15 := fun z => h15 (a2.1.symm.trans z)
    refine Int32.toInt_inj.mp ?_
    rw [a4, b4, wv_w hW (rOk_s (ok i a1) nv h15).2.2.1]
theorem zl2i {x : Int64} (h : 0 ≤ x.toInt ∧ x.toInt ≤ 1000) : x.toInt32.toInt = x.toInt := by
  rw [Int64.toInt_toInt32]
  exact Int.bmod_eq_of_le (by show (-2147483648 : Int) ≤ x.toInt; omega) (by show x.toInt < (2147483648 : Int); omega)
theorem clI_c {S : Int64} : ((if (if S < 200 then S else 200) < 0 then 0 else if S < 200 then S else 200 : Int64)).toInt32.toInt = clI S.toInt := by
  have k2 : (200 : Int64).toInt = 200 := by decide
  have k0 : (0 : Int64).toInt = 0 := by decide
  unfold clI
  by_cases a : S < 200
  · have a2 := Int64.lt_iff_toInt_lt.mp a
    rw [if_pos a]
    by_cases b : S < 0
    · have b2 := Int64.lt_iff_toInt_lt.mp b
      rw [if_pos b, if_pos (by omega)]
      rfl
    · have b2 : ¬ S.toInt < 0 := fun z => b (Int64.lt_iff_toInt_lt.mpr (by omega))
      rw [if_neg b, if_neg b2, if_neg (by omega)]
      exact zl2i (by omega)
  · have a2 : ¬ S.toInt < 200 := fun z => a (Int64.lt_iff_toInt_lt.mpr (by omega))
    rw [if_neg a, if_neg (by decide), if_neg (by omega)]
    by_cases b : 200 < S.toInt
    · rw [if_pos b]; rfl
    · rw [if_neg b, show S.toInt = 200 by omega]; rfl
/-- only words and stacks have changed -/
noncomputable def lFr (h h2 : zH) : Prop := tSh h2 ∧ tF h2 = tF h ∧ tA h2 = tA h ∧ tO h2 = tO h ∧ tN h2 = tN h
theorem lFr_w {h h2 : zH} {p : Nat} (k : wFr p h h2) : lFr h h2 := ⟨k.1, k.2.1, k.2.2.1, k.2.2.2.1, k.2.2.2.2.1⟩
theorem lFr_t {h h1 h2 : zH} (a : lFr h h1) (k : lFr h1 h2) : lFr h h2 := ⟨k.1, k.2.1.trans a.2.1, k.2.2.1.trans a.2.2.1, k.2.2.2.1.trans a.2.2.2.1, k.2.2.2.2.trans a.2.2.2.2⟩
theorem rDt.fr {h h2 : zH} {a b K : Nat} {cs : List Nat} {cl : Nat → rCt} (D : rDt h a b K cs cl) (k : lFr h h2) : rDt h2 a b K cs cl := by
  obtain ⟨h1, h2, h3, h4, h5, h6, h7, h8⟩ := D
  have eN := k.2.2.2.2
  have eA := k.2.2.1
  exact ⟨by rw [eN, eA]; exact h1, by rw [eN]; exact h2, by rw [eN, eA]; exact h3, by rw [eN]; exact h4, h5, by rw [eA]; exact h6, h7, h8⟩
theorem rDm.fr {h h2 : zH} {q K : Nat} {cs : List Nat} {cl : Nat → rCt} (D : rDm h q K cs cl) (k : lFr h h2) : rDm h2 q K cs cl := by
  obtain ⟨h1, h2, h3, h4, h5, h6, h7⟩ := D
  have eA := k.2.2.1
  exact ⟨by rw [eA]; exact h1, h2, by rw [eA]; exact h3, h4, fun i hi => by rw [← h5 i hi]; unfold mRow; rw [eA], h6, h7⟩
/-- the rule that is in force, in the class's arrays -/
noncomputable def rIc (h : zH) (y : Int32) (K : Nat) (cs : List Nat) (cl : Nat → rCt) : Prop := (y = -1 ∧ K = 0) ∨ ∃ q a b : Nat, y.toInt = (q : Int) ∧ (q : Int) < (tvI (tF h 48 3)).toInt ∧ tO h 50 q = some a ∧ tO h 51 q = some b ∧ (182 ≤ a ∧ 182 ≤ b) ∧ rDt h a b K cs cl
theorem rIc.fr {h h2 : zH} {y : Int32} {K : Nat} {cs : List Nat} {cl : Nat → rCt} (D : rIc h y K cs cl) (k : lFr h h2) : rIc h2 y K cs cl := by
  rcases D with D | ⟨q, a, b, h1, h2, h3, h4, h6, h5⟩
  · exact Or.inl D
  · exact Or.inr ⟨q, a, b, h1, by rw [k.2.1]; exact h2, by rw [k.2.2.2.1]; exact h3, by rw [k.2.2.2.1]; exact h4, h6, h5.fr k⟩
theorem rIc_af {h h2 : zH} {P : Nat → Prop} {y : Int32} {K : Nat} {cs : List Nat} {cl : Nat → rCt} (D : rIc h y K cs cl) (k : aFr P h h2) (hP : ∀ q, P q → q < 182) : rIc h2 y K cs cl := by
  rcases D with D | ⟨q, a, b, h1, h2, h3, h4, h6, d1, d2, d3, d4, d5, d6, d7, d8⟩
  · exact Or.inl D
  · have ea := k.2.2.2.2.2 a (fun z => by have := hP a z; omega)
    have eb := k.2.2.2.2.2 b (fun z => by have := hP b z; omega)
    have eN := k.2.2.2.2.1
    refine Or.inr ⟨q, a, b, h1, by rw [k.2.1]; exact h2, by rw [k.2.2.2.1]; exact h3, by rw [k.2.2.2.1]; exact h4, h6, ?_, ?_, ?_, ?_, d5, ?_, d7, d8⟩
    · rw [eN, ea]; exact d1
    · rw [eN]; exact d2
    · rw [eN, ea]; exact d3
    · rw [eN]; exact d4
    · rw [eb]; exact d6
/-- the same in the reference's -/
noncomputable def rIm (h : zH) (y : Int32) (K : Nat) (cs : List Nat) (cl : Nat → rCt) : Prop := (y = -1 ∧ K = 0) ∨ ∃ q : Nat, y.toInt = (q : Int) ∧ q < 10 ∧ rDm h q K cs cl
/-! the reference's words -/
noncomputable def qS (g : Nat → Int64) (a b c d : Int64) (e f i : Int) : Prop := g 0 = a ∧ g 1 = b ∧ g 2 = c ∧ g 3 = d ∧ (g 4).toInt = e ∧ (g 5).toInt = f ∧ (g 6).toInt = i ∧ ∀ t, 7 ≤ t → t < 12 → g t = 0
section QS
variable {g : Nat → Int64} {a b c d x : Int64} {e f i e2 : Int}
theorem qS_0 (h : ∀ t, t < 12 → g t = 0) : qS (fun j => if j = 3 then d else if j = 2 then c else if j = 1 then b else if j = 0 then a else g j) a b c d 0 0 0 := by
  refine ⟨rfl, rfl, rfl, rfl, ?_, ?_, ?_, fun t h1 h2 => ?_⟩
  · show (g 4).toInt = 0
    rw [h 4 (by decide)]; rfl
  · show (g 5).toInt = 0
    rw [h 5 (by decide)]; rfl
  · show (g 6).toInt = 0
    rw [h 6 (by decide)]; rfl
  · dsimp only
    rw [if_neg (by omega), if_neg (by omega), if_neg (by omega), if_neg (by omega)]
    exact h t h2
theorem qS_4 (k : qS g a b c d e f i) (hx : x.toInt = e2) : qS (fun j => if j = 4 then x else g j) a b c d e2 f i := by
  obtain ⟨k0, k1, k2, k3, k4, k5, k6, k7⟩ := k
  exact ⟨k0, k1, k2, k3, hx, k5, k6, fun t h1 h2 => (if_neg (by omega)).trans (k7 t h1 h2)⟩
theorem qS_5 (k : qS g a b c d e f i) (hx : x.toInt = e2) : qS (fun j => if j = 5 then x else g j) a b c d e e2 i := by
  obtain ⟨k0, k1, k2, k3, k4, k5, k6, k7⟩ := k
  exact ⟨k0, k1, k2, k3, k4, hx, k6, fun t h1 h2 => (if_neg (by omega)).trans (k7 t h1 h2)⟩
theorem qS_6 (k : qS g a b c d e f i) (hx : x.toInt = e2) : qS (fun j => if j = 6 then x else g j) a b c d e f e2 := by
  obtain ⟨k0, k1, k2, k3, k4, k5, k6, k7⟩ := k
  exact ⟨k0, k1, k2, k3, k4, k5, hx, fun t h1 h2 => (if_neg (by omega)).trans (k7 t h1 h2)⟩
theorem qS_W {e3 f3 i3 : Int64} (k : qS g a b c d e f i) (h4 : e3.toInt = e) (h5 : f3.toInt = f) (h6 : i3.toInt = i) : ∀ t, t < 12 → qW a b c d e3 f3 i3 t = g t := by
  obtain ⟨k0, k1, k2, k3, k4, k5, k6, k7⟩ := k
  intro t ht
  rcases (by omega : t = 0 ∨ t = 1 ∨ t = 2 ∨ t = 3 ∨ t = 4 ∨ t = 5 ∨ t = 6 ∨ (7 ≤ t ∧ t < 12)) with rfl | rfl | rfl | rfl | rfl | rfl | rfl | h7
  · exact k0.symm
  · exact k1.symm
  · exact k2.symm
  · exact k3.symm
  · exact Int64.toInt_inj.mp (h4.trans k4.symm)
  · exact Int64.toInt_inj.mp (h5.trans k5.symm)
  · exact Int64.toInt_inj.mp (h6.trans k6.symm)
  · rw [k7 t h7.1 h7.2]
    rcases (by omega : t = 7 ∨ t = 8 ∨ t = 9 ∨ t = 10 ∨ t = 11) with rfl | rfl | rfl | rfl | rfl <;> rfl
end QS
theorem zLadJ {x y : Int64} {a b : Int} (hx : x.toInt = a) (hy : y.toInt = b) (h : 0 ≤ a ∧ a ≤ 100000000 ∧ 0 ≤ b ∧ b ≤ 100000000) : (x + y).toInt = a + b := by
  rw [Int64.toInt_add, hx, hy]
  exact Int.bmod_eq_of_le (by show (-9223372036854775808 : Int) ≤ a + b; omega) (by show a + b < (9223372036854775808 : Int); omega)
theorem bN_y {w tl : Nat → Int} {n : Nat} {t x : Int} (h : tl n ≤ t) (hx : w n = x) : bN w tl (n + 1) t = bN w tl n t + x := by
  show bN w tl n t + (if tl n ≤ t then w n else 0) = _
  rw [if_pos h, hx]
theorem bN_n {w tl : Nat → Int} {n : Nat} {t : Int} (h : tl n ≤ t → w n = 0) : bN w tl (n + 1) t = bN w tl n t := by
  show bN w tl n t + (if tl n ≤ t then w n else 0) = _
  by_cases q : tl n ≤ t
  · rw [if_pos q, h q, Int.add_zero]
  · rw [if_neg q, Int.add_zero]
theorem bN_e2 {w w2 tl tl2 : Nat → Int} {n : Nat} {t : Int} (h : ∀ i, i < n → tl i = tl2 i ∧ (tl i ≤ t → w i = w2 i)) : bN w tl n t = bN w2 tl2 n t := by
  induction n with
  | zero => rfl
  | succ n ih =>
    show bN w tl n t + (if tl n ≤ t then w n else 0) = bN w2 tl2 n t + (if tl2 n ≤ t then w2 n else 0)
    rw [ih (fun i hi => h i (by omega)), ← (h n (by omega)).1]
    by_cases q : tl n ≤ t
    · rw [if_pos q, if_pos q, (h n (by omega)).2 q]
    · rw [if_neg q, if_neg q]
/-- the reference's cars of a kind made by a month; its fires and deaths -/
noncomputable def mK9 (h : zH) (k m : Int32) (i : Nat) : Int := if tA h 121 i = k ∧ (tA h 122 i).toInt ≤ m.toInt then 1 else 0
noncomputable def mF9 (h : zH) (k : Int32) (i : Nat) : Int := if tA h 121 (tA h 152 i).toNatClampNeg = k ∧ ¬ tA h 158 i = 0 then 1 else 0
noncomputable def mD9 (h : zH) (k : Int32) (i : Nat) : Int := if tA h 121 (tA h 152 i).toNatClampNeg = k ∧ ¬ tA h 158 i = 0 then (tA h 156 i).toInt else 0
noncomputable def mT9 (h : zH) (i : Nat) : Int := (tA h 157 i).toInt
theorem f_firstTrueN {G : zG} (hG : G.1 = zProg) {h : zH} {y t : Int32} (hy : y = -1) : tC zTt G 66 [.ref 48, .int y, .int t] h (fun w h2 => w = some (.int (-1)) ∧ h2 = h) := by
  refine tC_in (by rw [hG]; rfl) (fun dp => ?_)
  refine tw_iload rfl rfl ?_
  refine tw_if_lt rfl (fun _ => ?_) (fun z => absurd z (by rw [hy]; decide))
  refine tw_push rfl ?_
  exact tw_iret rfl ⟨rfl, rfl⟩
theorem f_firstTrueA {G : zG} (hG : G.1 = zProg) {h : zH} {K th : Nat} {y t : Int32} {cs : List Nat} {cl : Nat → rCt} (hs : tSh h) (h52 : tN h 52 = 12) (h53 : tN h 53 = 80) (D : rIc h y K cs cl) (ht : t.toInt = th) : tC zTt G 66 [.ref 48, .int y, .int t] h (fun w h2 => wFr 53 h h2 ∧ fTr (tJ h 52) cs cl K th (fun i => 4 * i) w) := by
  rcases D with ⟨D, k0⟩ | ⟨q, a, b, d1, d2, d3, d4, -, d5⟩
  · refine (f_firstTrueN hG D).mono (fun w h2 z => ?_)
    obtain ⟨rfl, rfl⟩ := z
    exact ⟨wFr_r hs, Or.inl ⟨rfl, fun i hi => by omega⟩⟩
  · exact f_firstTrue hG hs h52 h53 d5 d1 d2 d3 d4 ht
theorem f_sumOfA {G : zG} (hG : G.1 = zProg) {h : zH} {K i : Nat} {y x : Int32} {cs : List Nat} {cl : Nat → rCt} (hs : tSh h) (h52 : tN h 52 = 12) (h53 : tN h 53 = 80) (D : rIc h y K cs cl) (hx : x.toInt = ((4 * i : Nat) : Int)) (hi : i < K) (h15 : (cl i).1 ≠ 15) : tC zTt G 67 [.ref 48, .int y, .int x] h (fun w h2 => w = some (.long (wv (tJ h 52) (slc cs (cl i).2.1 (cl i).2.2.1))) ∧ wFr 53 h h2) := by
  rcases D with ⟨D, k0⟩ | ⟨q, a, b, d1, d2, d3, d4, -, d5⟩
  · omega
  · exact f_sumOf hG hs h52 h53 d5 d1 d3 d4 hx hi h15
theorem f_mustOf {G : zG} (hG : G.1 = zProg) {h : zH} {k s m : Int32} {K th : Nat} {cs : List Nat} {cl : Nat → rCt} (hs : tSh h) (hn : 0 ≤ (tvI (tF h 48 3)).toInt) (h52 : tN h 52 = 12) (h53 : tN h 53 = 80) (D : rIc h (sRI (tA h 49) m (tvI (tF h 48 3)).toNatClampNeg) K cs cl) (hth : s.toInt = th) (h15 : th ≠ 15) : tC zTt G 167 [.ref 0, .int k, .int s, .int m] h (fun w h2 => lFr h h2 ∧ ∃ (r : Int32) (W : Nat → Int64), w = some (.int r) ∧ (∀ i, i < 12 → W i = (qW m.toInt64 k.toInt64 (tA h 3 k.toNatClampNeg).toInt64 m.toInt64 (tA h 107 m.toNatClampNeg).toInt64 (tA h 108 m.toNatClampNeg).toInt64 (tA h 109 m.toNatClampNeg).toInt64) i) ∧ muO W cs cl K th r) := by
  refine tC_in (by rw [hG]; rfl) (fun dp => ?_)
  refine tw_aload rfl rfl ?_
  refine tw_getS rfl (hs_0_3 hs) ?_
  refine tw_iload rfl rfl ?_
  refine tw_virt1 rfl (f_ruleIn hG hs hn) (fun w9 h9 p1303 => ?_)
  obtain ⟨rfl, e9⟩ := p1303
  obtain rfl := e9.symm
  refine tw_istore rfl ?_
  refine tw_aload rfl rfl ?_
  refine tw_iload rfl rfl ?_
  refine tw_iload rfl rfl ?_
  refine tw_iload rfl rfl ?_
  refine tw_virt3 rfl (f_askOfKind hG hs h52) (fun wp1304 hp1304 p1304 => ?_)
  obtain ⟨rfl, FA, ZW⟩ := p1304
  have LA := lFr_w FA
  refine tw_aload rfl rfl ?_
  refine tw_getS rfl (hs_0_3 FA.1) ?_
  refine tw_iload rfl rfl ?_
  refine tw_iload rfl rfl ?_
  refine tw_virt2 rfl (f_firstTrueA hG FA.1 (by rw [LA.2.2.2.2]; exact h52) (by rw [LA.2.2.2.2]; exact h53) (D.fr LA) hth) (fun w9 hp1305 p1305 => ?_)
  obtain ⟨FB, ⟨rfl, hno⟩ | ⟨i, hi, hit1, hfst, x9, rfl, hx9⟩⟩ := p1305
  · refine tw_istore rfl ?_
    refine tw_iload rfl rfl ?_
    refine tw_push rfl ?_
    refine tw_ic_ne rfl (fun z => absurd z (by decide)) (fun _ => ?_)
    refine tw_push rfl ?_
    exact tw_iret rfl ⟨lFr_t LA (lFr_w FB), -1, _, rfl, ZW, Or.inl ⟨rfl, hno⟩⟩
  · have LB := lFr_t LA (lFr_w FB)
    refine tw_istore rfl ?_
    refine tw_iload rfl rfl ?_
    refine tw_push rfl ?_
    refine tw_ic_ne rfl (fun q1306 => ?_) (fun q1306 => ?_)
    · try dsimp only [tvI_i, tvJ_j, tvR_r] at q1306
      have q1306i := zneq (Y := (-1)) (by decide) q1306
      refine tw_push rfl ?_
      refine tw_push rfl ?_
      refine tw_aload rfl rfl ?_
      refine tw_getS rfl (hs_0_3 FB.1) ?_
      refine tw_iload rfl rfl ?_
      refine tw_iload rfl rfl ?_
      refine tw_virt2 rfl (f_sumOfA hG FB.1 (by rw [LB.2.2.2.2]; exact h52) (by rw [LB.2.2.2.2]; exact h53) (D.fr LB) hx9 hi (fun z => h15 (hit1.1.symm.trans z))) (fun wp1307 hp1307 p1307 => ?_)
      obtain ⟨rfl, FC⟩ := p1307
      refine tw_lmin rfl ?_
      refine tw_lmax rfl ?_
      refine tw_l2i rfl ?_
      rw [FB.2.2.2.2.2 52 (by decide)]
      exact tw_iret rfl ⟨lFr_t LB (lFr_w FC), _, _, rfl, ZW, Or.inr ⟨i, hi, hit1, hfst, clI_c⟩⟩
    · try dsimp only [tvI_i, tvJ_j, tvR_r] at q1306
      have q1306i := zeqi (Y := (-1)) (by decide) q1306
      exfalso
      have k9 : (-1 : Int32).toInt = -1 := rfl
      omega
theorem g_asks {G : zG} (hG : G.1 = zProg) {h : zH} {k m y : Int32} (hs : tSh h) (h5 : 0 ≤ (tvI (tF h 111 5)).toInt ∧ (tvI (tF h 111 5)).toInt ≤ 300) (h59 : 0 ≤ (tvI (tF h 111 59)).toInt ∧ (tvI (tF h 111 59)).toInt ≤ 200) (h156 : ∀ i, i < 200 → 0 ≤ (tA h 156 i).toInt ∧ (tA h 156 i).toInt ≤ 9) : tC zTt G 228 [.ref 111, .int k, .int m, .int y] h (fun w h2 => w = none ∧ wFr 143 h h2 ∧ qS (tJ h2 143) m.toInt64 k.toInt64 (tA h 114 k.toNatClampNeg).toInt64 y.toInt64 (bN (mK9 h k m) (tK9 h) (tvI (tF h 111 5)).toNatClampNeg m.toInt) (bN (mF9 h k) (mT9 h) (tvI (tF h 111 59)).toNatClampNeg m.toInt) (bN (mD9 h k) (mT9 h) (tvI (tF h 111 59)).toNatClampNeg m.toInt)) := by
  refine tC_in (by rw [hG]; rfl) (fun dp => ?_)
  refine tw_push rfl ?_
  refine tw_istore rfl ?_
  refine tG_loop (zW_mono zTt G dp) (zW_conj zTt G dp) (V := fun pc L st h9 _ _ => pc = 3 ∧ st = [] ∧ ∃ (h1 : zH) (n : Nat) (z : Int32) (l5 : Option Value), h1 = h9 ∧ wFr 143 h h1 ∧ z.toInt = (n : Int) ∧ n ≤ 12 ∧ (∀ t, t < n → tJ h1 143 t = 0) ∧ L = [some (.ref 111), some (.int k), some (.int m), some (.int y), some (.int z), l5]) ?_ (⟨rfl, rfl, h, 0, 0, none, rfl, wFr_r hs, rfl, by decide, fun t ht => absurd ht (Nat.not_lt_zero _), rfl⟩)
  rintro _ _ _ _ _ _ ⟨rfl, rfl, h1, n, z, l5, rfl, hF, hz, hn12, hall, rfl⟩
  have k12 : (12 : Int32).toInt = 12 := rfl
  refine tw_iload rfl rfl ?_
  refine tw_push rfl ?_
  refine tw_ic_ge rfl (fun q1308 => ?_) (fun q1308 => ?_)
  · try dsimp only [tvI_i, tvJ_j, tvR_r] at q1308
    refine tw_aload rfl rfl ?_
    refine tw_getS rfl (hs_111_48 hF.1) ?_
    refine tw_push rfl ?_
    refine tw_iload rfl rfl ?_
    refine tw_i2l rfl ?_
    refine tw_last rfl (fun f1309 => ?_)
    refine tG_lst f1309 hF.1 (fun hs0 as0 => ?_)
    try dsimp only [tvI_i, tvJ_j, tvR_r] at as0
    have Fs0 := wFr_s hF as0
    refine tw_aload rfl rfl ?_
    refine tw_getS rfl (hs_111_48 Fs0.1) ?_
    refine tw_push rfl ?_
    refine tw_iload rfl rfl ?_
    refine tw_i2l rfl ?_
    refine tw_last rfl (fun f1310 => ?_)
    refine tG_lst f1310 Fs0.1 (fun hs1 as1 => ?_)
    try dsimp only [tvI_i, tvJ_j, tvR_r] at as1
    have Fs1 := wFr_s Fs0 as1
    refine tw_aload rfl rfl ?_
    refine tw_getS rfl (hs_111_48 Fs1.1) ?_
    refine tw_push rfl ?_
    refine tw_aload rfl rfl ?_
    refine tw_getS rfl (hs_111_9 Fs1.1) ?_
    refine tw_iload rfl rfl ?_
    refine tw_iald rfl (fun f1311 => ?_)
    refine tw_i2l rfl ?_
    refine tw_last rfl (fun f1312 => ?_)
    refine tG_lst f1312 Fs1.1 (fun hs2 as2 => ?_)
    try dsimp only [tvI_i, tvJ_j, tvR_r] at as2
    have Fs2 := wFr_s Fs1 as2
    refine tw_aload rfl rfl ?_
    refine tw_getS rfl (hs_111_48 Fs2.1) ?_
    refine tw_push rfl ?_
    refine tw_iload rfl rfl ?_
    refine tw_i2l rfl ?_
    refine tw_last rfl (fun f1313 => ?_)
    refine tG_lst f1313 Fs2.1 (fun hs3 as3 => ?_)
    try dsimp only [tvI_i, tvJ_j, tvR_r] at as3
    have Fs3 := wFr_s Fs2 as3
    rw [congrFun Fs1.2.2.1 114] at as2
    have qq0 : qS (tJ hs3 143) m.toInt64 k.toInt64 (tA h 114 k.toNatClampNeg).toInt64 y.toInt64 (bN (mK9 h k m) (tK9 h) 0 m.toInt) 0 0 := by rw [mJs_g as3 (mJs_g as2 (mJs_g as1 (mJs_g as0 rfl)))]; exact qS_0 (fun t ht => hall t (by omega))
    refine tw_push rfl ?_
    refine tw_istore rfl ?_
    refine tG_loop (zW_mono zTt G dp) (zW_conj zTt G dp) (V := fun pc L st h9 _ _ => pc = 64 ∧ st = [] ∧ ∃ (h1 : zH) (n : Nat) (z : Int32) (l5 : Option Value), h1 = h9 ∧ wFr 143 h h1 ∧ z.toInt = (n : Int) ∧ (n : Int) ≤ (tvI (tF h 111 5)).toInt ∧ qS (tJ h1 143) m.toInt64 k.toInt64 (tA h 114 k.toNatClampNeg).toInt64 y.toInt64 (bN (mK9 h k m) (tK9 h) n m.toInt) 0 0 ∧ L = [some (.ref 111), some (.int k), some (.int m), some (.int y), some (.int z), l5]) ?_ (⟨rfl, rfl, _, 0, 0, _, rfl, Fs3, rfl, h5.1, qq0, rfl⟩)
    rintro _ _ _ _ _ _ ⟨rfl, rfl, h1, n, z, l5, rfl, hF, hz, hnn, hQ, rfl⟩
    have e5 : (tvI (tF h1 111 5)).toInt = (tvI (tF h 111 5)).toInt := by rw [hF.2.1]
    refine tw_iload rfl rfl ?_
    refine tw_aload rfl rfl ?_
    refine tw_getS rfl (hi_111_5 hF.1) ?_
    refine tw_ic_ge rfl (fun q1314 => ?_) (fun q1314 => ?_)
    · try dsimp only [tvI_i, tvJ_j, tvR_r] at q1314
      have nN : n = (tvI (tF h 111 5)).toNatClampNeg := by rw [zclE]; omega
      have qq3 : qS (tJ h1 143) m.toInt64 k.toInt64 (tA h 114 k.toNatClampNeg).toInt64 y.toInt64 (bN (mK9 h k m) (tK9 h) (tvI (tF h 111 5)).toNatClampNeg m.toInt) (bN (mF9 h k) (mT9 h) 0 m.toInt) (bN (mD9 h k) (mT9 h) 0 m.toInt) := by rw [← nN]; exact hQ
      refine tw_push rfl ?_
      refine tw_istore rfl ?_
      refine tG_loop (zW_mono zTt G dp) (zW_conj zTt G dp) (V := fun pc L st h9 _ _ => pc = 129 ∧ st = [] ∧ ∃ (h1 : zH) (n : Nat) (z : Int32) (l5 : Option Value), h1 = h9 ∧ wFr 143 h h1 ∧ z.toInt = (n : Int) ∧ (n : Int) ≤ (tvI (tF h 111 59)).toInt ∧ qS (tJ h1 143) m.toInt64 k.toInt64 (tA h 114 k.toNatClampNeg).toInt64 y.toInt64 (bN (mK9 h k m) (tK9 h) (tvI (tF h 111 5)).toNatClampNeg m.toInt) (bN (mF9 h k) (mT9 h) n m.toInt) (bN (mD9 h k) (mT9 h) n m.toInt) ∧ L = [some (.ref 111), some (.int k), some (.int m), some (.int y), some (.int z), l5]) ?_ (⟨rfl, rfl, _, 0, 0, _, rfl, hF, rfl, h59.1, qq3, rfl⟩)
      rintro _ _ _ _ _ _ ⟨rfl, rfl, h1, n, z, l5, rfl, hF, hz, hnn, hQ, rfl⟩
      have e59 : (tvI (tF h1 111 59)).toInt = (tvI (tF h 111 59)).toInt := by rw [hF.2.1]
      refine tw_iload rfl rfl ?_
      refine tw_aload rfl rfl ?_
      refine tw_getS rfl (hi_111_59 hF.1) ?_
      refine tw_ic_ge rfl (fun q1315 => ?_) (fun q1315 => ?_)
      · try dsimp only [tvI_i, tvJ_j, tvR_r] at q1315
        have nN : n = (tvI (tF h 111 59)).toNatClampNeg := by rw [zclE]; omega
        rw [nN] at hQ
        exact tw_vret rfl ⟨rfl, hF, hQ⟩
      · try dsimp only [tvI_i, tvJ_j, tvR_r] at q1315
        have zn := zof_cl hz
        have hz1 : (z + 1).toInt = ((n + 1 : Nat) : Int) := zincN hz (by omega)
        have e121 : tA h1 121 = tA h 121 := congrFun hF.2.2.1 121
        have e152 : tA h1 152 = tA h 152 := congrFun hF.2.2.1 152
        have e156 : tA h1 156 = tA h 156 := congrFun hF.2.2.1 156
        have e157 : tA h1 157 = tA h 157 := congrFun hF.2.2.1 157
        have e158 : tA h1 158 = tA h 158 := congrFun hF.2.2.1 158
        have b7 := h156 n (by omega)
        have b5 := bN_b (w := mF9 h k) (B := 1) (tl := mT9 h) (n := n) (fun i hi => (wIte ⟨by decide, by decide⟩ : 0 ≤ mF9 h k i ∧ mF9 h k i ≤ 1)) (by decide) m.toInt
        have b6 := bN_b (w := mD9 h k) (B := 9) (tl := mT9 h) (n := n) (fun i hi => (wIte (h156 i (by omega)) : 0 ≤ mD9 h k i ∧ mD9 h k i ≤ 9)) (by decide) m.toInt
        refine tw_aload rfl rfl ?_
        refine tw_getS rfl (hs_111_16 hF.1) ?_
        refine tw_aload rfl rfl ?_
        refine tw_getS rfl (hs_111_60 hF.1) ?_
        refine tw_iload rfl rfl ?_
        refine tw_iald rfl (fun f1316 => ?_)
        refine tw_iald rfl (fun f1317 => ?_)
        refine tw_iload rfl rfl ?_
        refine tw_ic_ne rfl (fun q1318 => ?_) (fun q1318 => ?_)
        · try dsimp only [tvI_i, tvJ_j, tvR_r] at q1318
          have q1318i := zneq rfl q1318
          refine tw_push rfl ?_
          refine tw_istore rfl ?_
          refine tw_aload rfl rfl ?_
          refine tw_getS rfl (hs_111_48 hF.1) ?_
          refine tw_push rfl ?_
          refine tw_dup2 rfl ?_
          refine tw_lald rfl (fun f1319 => ?_)
          refine tw_iload rfl rfl ?_
          refine tw_if_eq rfl (fun _ => ?_) (fun z => absurd z (by decide))
          refine tw_push rfl ?_
          refine tw_ladd rfl ?_
          refine tw_last rfl (fun f1320 => ?_)
          refine tG_lst f1320 hF.1 (fun h5 a5 => ?_)
          try dsimp only [tvI_i, tvJ_j, tvR_r] at a5
          have F5 := wFr_s hF a5
          refine tw_aload rfl rfl ?_
          refine tw_getS rfl (hs_111_48 F5.1) ?_
          refine tw_push rfl ?_
          refine tw_dup2 rfl ?_
          refine tw_lald rfl (fun f1321 => ?_)
          refine tw_iload rfl rfl ?_
          refine tw_if_eq rfl (fun _ => ?_) (fun z => absurd z (by decide))
          refine tw_push rfl ?_
          refine tw_ladd rfl ?_
          refine tw_last rfl (fun f1322 => ?_)
          refine tG_lst f1322 F5.1 (fun h6 a6 => ?_)
          try dsimp only [tvI_i, tvJ_j, tvR_r] at a6
          have F6 := wFr_s F5 a6
          refine tw_iinc rfl rfl ?_
          refine tw_goto rfl ?_
          rw [zn, e121, e152] at q1318
          have hq5 : qS (tJ h5 143) m.toInt64 k.toInt64 (tA h 114 k.toNatClampNeg).toInt64 y.toInt64 (bN (mK9 h k m) (tK9 h) (tvI (tF h 111 5)).toNatClampNeg m.toInt) (bN (mF9 h k) (mT9 h) (n + 1) m.toInt) (bN (mD9 h k) (mT9 h) n m.toInt) := by
            rw [mJs_g a5 rfl]
            exact qS_5 hQ (by rw [(bN_n (fun _ => if_neg (fun y => q1318 y.1))).trans (Int.add_zero _).symm]; exact zLadJ hQ.2.2.2.2.2.1 rfl (by omega))
          have hq6 : qS (tJ h6 143) m.toInt64 k.toInt64 (tA h 114 k.toNatClampNeg).toInt64 y.toInt64 (bN (mK9 h k m) (tK9 h) (tvI (tF h 111 5)).toNatClampNeg m.toInt) (bN (mF9 h k) (mT9 h) (n + 1) m.toInt) (bN (mD9 h k) (mT9 h) (n + 1) m.toInt) := by
            rw [mJs_g a6 rfl]
            exact qS_6 hq5 (by rw [(bN_n (fun _ => if_neg (fun y => q1318 y.1))).trans (Int.add_zero _).symm]; exact zLadJ hq5.2.2.2.2.2.2.1 rfl (by omega))
          exact tG_cut (zW_mono zTt G dp) (Or.inr ⟨rfl, rfl, h6, n + 1, z + 1, _, rfl, F6, hz1, by omega, hq6, rfl⟩)
        · try dsimp only [tvI_i, tvJ_j, tvR_r] at q1318
          have q1318i := zeqi rfl q1318
          refine tw_aload rfl rfl ?_
          refine tw_getS rfl (hs_111_65 hF.1) ?_
          refine tw_iload rfl rfl ?_
          refine tw_iald rfl (fun f1323 => ?_)
          refine tw_iload rfl rfl ?_
          refine tw_ic_gt rfl (fun q1324 => ?_) (fun q1324 => ?_)
          · try dsimp only [tvI_i, tvJ_j, tvR_r] at q1324
            refine tw_push rfl ?_
            refine tw_istore rfl ?_
            refine tw_aload rfl rfl ?_
            refine tw_getS rfl (hs_111_48 hF.1) ?_
            refine tw_push rfl ?_
            refine tw_dup2 rfl ?_
            refine tw_lald rfl (fun f1325 => ?_)
            refine tw_iload rfl rfl ?_
            refine tw_if_eq rfl (fun _ => ?_) (fun z => absurd z (by decide))
            refine tw_push rfl ?_
            refine tw_ladd rfl ?_
            refine tw_last rfl (fun f1326 => ?_)
            refine tG_lst f1326 hF.1 (fun h5 a5 => ?_)
            try dsimp only [tvI_i, tvJ_j, tvR_r] at a5
            have F5 := wFr_s hF a5
            refine tw_aload rfl rfl ?_
            refine tw_getS rfl (hs_111_48 F5.1) ?_
            refine tw_push rfl ?_
            refine tw_dup2 rfl ?_
            refine tw_lald rfl (fun f1327 => ?_)
            refine tw_iload rfl rfl ?_
            refine tw_if_eq rfl (fun _ => ?_) (fun z => absurd z (by decide))
            refine tw_push rfl ?_
            refine tw_ladd rfl ?_
            refine tw_last rfl (fun f1328 => ?_)
            refine tG_lst f1328 F5.1 (fun h6 a6 => ?_)
            try dsimp only [tvI_i, tvJ_j, tvR_r] at a6
            have F6 := wFr_s F5 a6
            refine tw_iinc rfl rfl ?_
            refine tw_goto rfl ?_
            rw [zn, e121, e152] at q1318
            rw [zn, e157] at q1324
            have hq5 : qS (tJ h5 143) m.toInt64 k.toInt64 (tA h 114 k.toNatClampNeg).toInt64 y.toInt64 (bN (mK9 h k m) (tK9 h) (tvI (tF h 111 5)).toNatClampNeg m.toInt) (bN (mF9 h k) (mT9 h) (n + 1) m.toInt) (bN (mD9 h k) (mT9 h) n m.toInt) := by
              rw [mJs_g a5 rfl]
              exact qS_5 hQ (by rw [(bN_n (fun y => absurd (show (tA h 157 n).toInt ≤ m.toInt from y) (by omega))).trans (Int.add_zero _).symm]; exact zLadJ hQ.2.2.2.2.2.1 rfl (by omega))
            have hq6 : qS (tJ h6 143) m.toInt64 k.toInt64 (tA h 114 k.toNatClampNeg).toInt64 y.toInt64 (bN (mK9 h k m) (tK9 h) (tvI (tF h 111 5)).toNatClampNeg m.toInt) (bN (mF9 h k) (mT9 h) (n + 1) m.toInt) (bN (mD9 h k) (mT9 h) (n + 1) m.toInt) := by
              rw [mJs_g a6 rfl]
              exact qS_6 hq5 (by rw [(bN_n (fun y => absurd (show (tA h 157 n).toInt ≤ m.toInt from y) (by omega))).trans (Int.add_zero _).symm]; exact zLadJ hq5.2.2.2.2.2.2.1 rfl (by omega))
            exact tG_cut (zW_mono zTt G dp) (Or.inr ⟨rfl, rfl, h6, n + 1, z + 1, _, rfl, F6, hz1, by omega, hq6, rfl⟩)
          · try dsimp only [tvI_i, tvJ_j, tvR_r] at q1324
            refine tw_aload rfl rfl ?_
            refine tw_getS rfl (hs_111_66 hF.1) ?_
            refine tw_iload rfl rfl ?_
            refine tw_bald rfl (fun f1329 => ?_)
            refine tw_if_eq rfl (fun q1330 => ?_) (fun q1330 => ?_)
            · try dsimp only [tvI_i, tvJ_j, tvR_r] at q1330
              have q1330i := zeqi (Y := 0) (by decide) q1330
              refine tw_push rfl ?_
              refine tw_istore rfl ?_
              refine tw_aload rfl rfl ?_
              refine tw_getS rfl (hs_111_48 hF.1) ?_
              refine tw_push rfl ?_
              refine tw_dup2 rfl ?_
              refine tw_lald rfl (fun f1331 => ?_)
              refine tw_iload rfl rfl ?_
              refine tw_if_eq rfl (fun _ => ?_) (fun z => absurd z (by decide))
              refine tw_push rfl ?_
              refine tw_ladd rfl ?_
              refine tw_last rfl (fun f1332 => ?_)
              refine tG_lst f1332 hF.1 (fun h5 a5 => ?_)
              try dsimp only [tvI_i, tvJ_j, tvR_r] at a5
              have F5 := wFr_s hF a5
              refine tw_aload rfl rfl ?_
              refine tw_getS rfl (hs_111_48 F5.1) ?_
              refine tw_push rfl ?_
              refine tw_dup2 rfl ?_
              refine tw_lald rfl (fun f1333 => ?_)
              refine tw_iload rfl rfl ?_
              refine tw_if_eq rfl (fun _ => ?_) (fun z => absurd z (by decide))
              refine tw_push rfl ?_
              refine tw_ladd rfl ?_
              refine tw_last rfl (fun f1334 => ?_)
              refine tG_lst f1334 F5.1 (fun h6 a6 => ?_)
              try dsimp only [tvI_i, tvJ_j, tvR_r] at a6
              have F6 := wFr_s F5 a6
              refine tw_iinc rfl rfl ?_
              refine tw_goto rfl ?_
              rw [zn, e121, e152] at q1318
              rw [zn, e157] at q1324
              rw [zn, e158] at q1330
              have hq5 : qS (tJ h5 143) m.toInt64 k.toInt64 (tA h 114 k.toNatClampNeg).toInt64 y.toInt64 (bN (mK9 h k m) (tK9 h) (tvI (tF h 111 5)).toNatClampNeg m.toInt) (bN (mF9 h k) (mT9 h) (n + 1) m.toInt) (bN (mD9 h k) (mT9 h) n m.toInt) := by
                rw [mJs_g a5 rfl]
                exact qS_5 hQ (by rw [(bN_n (fun _ => if_neg (fun y => y.2 q1330))).trans (Int.add_zero _).symm]; exact zLadJ hQ.2.2.2.2.2.1 rfl (by omega))
              have hq6 : qS (tJ h6 143) m.toInt64 k.toInt64 (tA h 114 k.toNatClampNeg).toInt64 y.toInt64 (bN (mK9 h k m) (tK9 h) (tvI (tF h 111 5)).toNatClampNeg m.toInt) (bN (mF9 h k) (mT9 h) (n + 1) m.toInt) (bN (mD9 h k) (mT9 h) (n + 1) m.toInt) := by
                rw [mJs_g a6 rfl]
                exact qS_6 hq5 (by rw [(bN_n (fun _ => if_neg (fun y => y.2 q1330))).trans (Int.add_zero _).symm]; exact zLadJ hq5.2.2.2.2.2.2.1 rfl (by omega))
              exact tG_cut (zW_mono zTt G dp) (Or.inr ⟨rfl, rfl, h6, n + 1, z + 1, _, rfl, F6, hz1, by omega, hq6, rfl⟩)
            · try dsimp only [tvI_i, tvJ_j, tvR_r] at q1330
              have q1330i := zneq (Y := 0) (by decide) q1330
              refine tw_push rfl ?_
              refine tw_goto rfl ?_
              refine tw_istore rfl ?_
              refine tw_aload rfl rfl ?_
              refine tw_getS rfl (hs_111_48 hF.1) ?_
              refine tw_push rfl ?_
              refine tw_dup2 rfl ?_
              refine tw_lald rfl (fun f1335 => ?_)
              refine tw_iload rfl rfl ?_
              refine tw_if_eq rfl (fun z => absurd z (by decide)) (fun _ => ?_)
              refine tw_push rfl ?_
              refine tw_goto rfl ?_
              refine tw_ladd rfl ?_
              refine tw_last rfl (fun f1336 => ?_)
              refine tG_lst f1336 hF.1 (fun h5 a5 => ?_)
              try dsimp only [tvI_i, tvJ_j, tvR_r] at a5
              have F5 := wFr_s hF a5
              refine tw_aload rfl rfl ?_
              refine tw_getS rfl (hs_111_48 F5.1) ?_
              refine tw_push rfl ?_
              refine tw_dup2 rfl ?_
              refine tw_lald rfl (fun f1337 => ?_)
              refine tw_iload rfl rfl ?_
              refine tw_if_eq rfl (fun z => absurd z (by decide)) (fun _ => ?_)
              refine tw_aload rfl rfl ?_
              refine tw_getS rfl (hs_111_64 F5.1) ?_
              refine tw_iload rfl rfl ?_
              refine tw_iald rfl (fun f1338 => ?_)
              refine tw_i2l rfl ?_
              refine tw_goto rfl ?_
              refine tw_ladd rfl ?_
              refine tw_last rfl (fun f1339 => ?_)
              refine tG_lst f1339 F5.1 (fun h6 a6 => ?_)
              try dsimp only [tvI_i, tvJ_j, tvR_r] at a6
              have F6 := wFr_s F5 a6
              refine tw_iinc rfl rfl ?_
              refine tw_goto rfl ?_
              rw [zn, e121, e152] at q1318
              rw [zn, e157] at q1324
              rw [zn, e158] at q1330
              rw [zn, show tA h5 156 = tA h 156 from congrFun F5.2.2.1 156] at a6
              have hq5 : qS (tJ h5 143) m.toInt64 k.toInt64 (tA h 114 k.toNatClampNeg).toInt64 y.toInt64 (bN (mK9 h k m) (tK9 h) (tvI (tF h 111 5)).toNatClampNeg m.toInt) (bN (mF9 h k) (mT9 h) (n + 1) m.toInt) (bN (mD9 h k) (mT9 h) n m.toInt) := by
                rw [mJs_g a5 rfl]
                exact qS_5 hQ (by rw [bN_y (show mT9 h n ≤ m.toInt from q1324) (x := 1) (if_pos ⟨q1318, q1330⟩)]; exact zLadJ hQ.2.2.2.2.2.1 rfl (by omega))
              have hq6 : qS (tJ h6 143) m.toInt64 k.toInt64 (tA h 114 k.toNatClampNeg).toInt64 y.toInt64 (bN (mK9 h k m) (tK9 h) (tvI (tF h 111 5)).toNatClampNeg m.toInt) (bN (mF9 h k) (mT9 h) (n + 1) m.toInt) (bN (mD9 h k) (mT9 h) (n + 1) m.toInt) := by
                rw [mJs_g a6 rfl]
                exact qS_6 hq5 (by rw [bN_y (show mT9 h n ≤ m.toInt from q1324) (x := (tA h 156 n).toInt) (if_pos ⟨q1318, q1330⟩)]; exact zLadJ hq5.2.2.2.2.2.2.1 (Int32.toInt_toInt64 _) (by omega))
              exact tG_cut (zW_mono zTt G dp) (Or.inr ⟨rfl, rfl, h6, n + 1, z + 1, _, rfl, F6, hz1, by omega, hq6, rfl⟩)
    · try dsimp only [tvI_i, tvJ_j, tvR_r] at q1314
      have zn := zof_cl hz
      have hz1 : (z + 1).toInt = ((n + 1 : Nat) : Int) := zincN hz (by omega)
      have e121 : tA h1 121 n = tA h 121 n := congrFun (congrFun hF.2.2.1 121) n
      have e122 : tA h1 122 n = tA h 122 n := congrFun (congrFun hF.2.2.1 122) n
      have e123 : tA h1 123 n = tA h 123 n := congrFun (congrFun hF.2.2.1 123) n
      have b4 := bN_b (w := mK9 h k m) (B := 1) (tl := tK9 h) (n := n) (fun i hi => (wIte ⟨by decide, by decide⟩ : 0 ≤ mK9 h k m i ∧ mK9 h k m i ≤ 1)) (by decide) m.toInt
      refine tw_aload rfl rfl ?_
      refine tw_getS rfl (hs_111_48 hF.1) ?_
      refine tw_push rfl ?_
      refine tw_dup2 rfl ?_
      refine tw_lald rfl (fun f1340 => ?_)
      refine tw_aload rfl rfl ?_
      refine tw_getS rfl (hs_111_16 hF.1) ?_
      refine tw_iload rfl rfl ?_
      refine tw_iald rfl (fun f1341 => ?_)
      refine tw_iload rfl rfl ?_
      refine tw_ic_ne rfl (fun q1342 => ?_) (fun q1342 => ?_)
      · try dsimp only [tvI_i, tvJ_j, tvR_r] at q1342
        have q1342i := zneq rfl q1342
        refine tw_push rfl ?_
        refine tw_ladd rfl ?_
        refine tw_last rfl (fun f1343 => ?_)
        refine tG_lst f1343 hF.1 (fun h2 a2 => ?_)
        try dsimp only [tvI_i, tvJ_j, tvR_r] at a2
        have F2 := wFr_s hF a2
        refine tw_iinc rfl rfl ?_
        refine tw_goto rfl ?_
        rw [zn, e121] at q1342
        have hq2 : qS (tJ h2 143) m.toInt64 k.toInt64 (tA h 114 k.toNatClampNeg).toInt64 y.toInt64 (bN (mK9 h k m) (tK9 h) (n + 1) m.toInt) 0 0 := by
          rw [mJs_g a2 rfl]
          exact qS_4 hQ (by rw [(bN_n (fun _ => if_neg (fun y => q1342 y.1))).trans (Int.add_zero _).symm]; exact zLadJ hQ.2.2.2.2.1 rfl (by omega))
        exact tG_cut (zW_mono zTt G dp) (Or.inr ⟨rfl, rfl, h2, n + 1, z + 1, _, rfl, F2, hz1, by omega, hq2, rfl⟩)
      · try dsimp only [tvI_i, tvJ_j, tvR_r] at q1342
        have q1342i := zeqi rfl q1342
        refine tw_aload rfl rfl ?_
        refine tw_getS rfl (hs_111_17 hF.1) ?_
        refine tw_iload rfl rfl ?_
        refine tw_iald rfl (fun f1344 => ?_)
        refine tw_iload rfl rfl ?_
        refine tw_ic_gt rfl (fun q1345 => ?_) (fun q1345 => ?_)
        · try dsimp only [tvI_i, tvJ_j, tvR_r] at q1345
          refine tw_push rfl ?_
          refine tw_ladd rfl ?_
          refine tw_last rfl (fun f1346 => ?_)
          refine tG_lst f1346 hF.1 (fun h2 a2 => ?_)
          try dsimp only [tvI_i, tvJ_j, tvR_r] at a2
          have F2 := wFr_s hF a2
          refine tw_iinc rfl rfl ?_
          refine tw_goto rfl ?_
          rw [zn, e121] at q1342
          rw [zn, e122] at q1345
          have hq2 : qS (tJ h2 143) m.toInt64 k.toInt64 (tA h 114 k.toNatClampNeg).toInt64 y.toInt64 (bN (mK9 h k m) (tK9 h) (n + 1) m.toInt) 0 0 := by
            rw [mJs_g a2 rfl]
            exact qS_4 hQ (by rw [(bN_n (fun _ => if_neg (fun y => absurd y.2 (by omega)))).trans (Int.add_zero _).symm]; exact zLadJ hQ.2.2.2.2.1 rfl (by omega))
          exact tG_cut (zW_mono zTt G dp) (Or.inr ⟨rfl, rfl, h2, n + 1, z + 1, _, rfl, F2, hz1, by omega, hq2, rfl⟩)
        · try dsimp only [tvI_i, tvJ_j, tvR_r] at q1345
          refine tw_aload rfl rfl ?_
          refine tw_getS rfl (hs_111_18 hF.1) ?_
          refine tw_iload rfl rfl ?_
          refine tw_iald rfl (fun f1347 => ?_)
          refine tw_iload rfl rfl ?_
          refine tw_ic_gt rfl (fun q1348 => ?_) (fun q1348 => ?_)
          · try dsimp only [tvI_i, tvJ_j, tvR_r] at q1348
            refine tw_push rfl ?_
            refine tw_ladd rfl ?_
            refine tw_last rfl (fun f1349 => ?_)
            refine tG_lst f1349 hF.1 (fun h2 a2 => ?_)
            try dsimp only [tvI_i, tvJ_j, tvR_r] at a2
            have F2 := wFr_s hF a2
            refine tw_iinc rfl rfl ?_
            refine tw_goto rfl ?_
            rw [zn, e121] at q1342
            rw [zn, e122] at q1345
            rw [zn, e123] at q1348
            have hq2 : qS (tJ h2 143) m.toInt64 k.toInt64 (tA h 114 k.toNatClampNeg).toInt64 y.toInt64 (bN (mK9 h k m) (tK9 h) (n + 1) m.toInt) 0 0 := by
              rw [mJs_g a2 rfl]
              exact qS_4 hQ (by rw [(bN_n (fun y => absurd (show (tA h 123 n).toInt ≤ m.toInt from y) (by omega))).trans (Int.add_zero _).symm]; exact zLadJ hQ.2.2.2.2.1 rfl (by omega))
            exact tG_cut (zW_mono zTt G dp) (Or.inr ⟨rfl, rfl, h2, n + 1, z + 1, _, rfl, F2, hz1, by omega, hq2, rfl⟩)
          · try dsimp only [tvI_i, tvJ_j, tvR_r] at q1348
            refine tw_push rfl ?_
            refine tw_goto rfl ?_
            refine tw_ladd rfl ?_
            refine tw_last rfl (fun f1350 => ?_)
            refine tG_lst f1350 hF.1 (fun h2 a2 => ?_)
            try dsimp only [tvI_i, tvJ_j, tvR_r] at a2
            have F2 := wFr_s hF a2
            refine tw_iinc rfl rfl ?_
            refine tw_goto rfl ?_
            rw [zn, e121] at q1342
            rw [zn, e122] at q1345
            rw [zn, e123] at q1348
            have hq2 : qS (tJ h2 143) m.toInt64 k.toInt64 (tA h 114 k.toNatClampNeg).toInt64 y.toInt64 (bN (mK9 h k m) (tK9 h) (n + 1) m.toInt) 0 0 := by
              rw [mJs_g a2 rfl]
              exact qS_4 hQ (by rw [bN_y (show tK9 h n ≤ m.toInt from q1348) (x := 1) (if_pos ⟨q1342, q1345⟩)]; exact zLadJ hQ.2.2.2.2.1 rfl (by omega))
            exact tG_cut (zW_mono zTt G dp) (Or.inr ⟨rfl, rfl, h2, n + 1, z + 1, _, rfl, F2, hz1, by omega, hq2, rfl⟩)
  · try dsimp only [tvI_i, tvJ_j, tvR_r] at q1308
    refine tw_aload rfl rfl ?_
    refine tw_getS rfl (hs_111_48 hF.1) ?_
    refine tw_iload rfl rfl ?_
    refine tw_push rfl ?_
    refine tw_last rfl (fun f1351 => ?_)
    refine tG_lst f1351 hF.1 (fun h1 a1 => ?_)
    try dsimp only [tvI_i, tvJ_j, tvR_r] at a1
    have F1 := wFr_s hF a1
    refine tw_iinc rfl rfl ?_
    refine tw_goto rfl ?_
    have hz1 : (z + 1).toInt = ((n + 1 : Nat) : Int) := zincN hz (by omega)
    rw [zof_cl hz] at a1
    have ea := mJs_g a1 rfl
    exact tG_cut (zW_mono zTt G dp) (Or.inr ⟨rfl, rfl, _, n + 1, z + 1, _, rfl, F1, hz1, by omega, fun t ht => (congrFun ea t).trans ((Classical.em (t = n)).elim (fun y => if_pos y) (fun y => (if_neg y).trans (hall t (by omega)))), rfl⟩)
theorem thc_0 {s : Nat} (h : s < 12) : thc 0 s = s := by
  unfold thc
  rw [if_pos ⟨rfl, h⟩]
theorem thc_k {k : Nat} (h : k ≠ 0) : thc k 0 = 12 + k := by
  unfold thc
  rw [if_neg (fun z => h z.1), Nat.mul_zero, Nat.add_zero]
theorem clI_0 {S : Int64} (h : S.toInt < 0) : (0 : Int32).toInt = clI S.toInt := by
  unfold clI
  rw [if_pos h]
  rfl
theorem clI_2 {S : Int64} (h : ¬ S.toInt < 0) (h2 : 200 < S.toInt) : (200 : Int32).toInt = clI S.toInt := by
  unfold clI
  rw [if_neg h, if_pos h2]
  rfl
theorem clI_m {S : Int64} (h : ¬ S.toInt < 0) (h2 : ¬ 200 < S.toInt) : S.toInt32.toInt = clI S.toInt := by
  unfold clI
  rw [if_neg h, if_neg h2]
  exact zl2i (by omega)
theorem g_mustOf {G : zG} (hG : G.1 = zProg) {h : zH} {k s m : Int32} {K th : Nat} {cs : List Nat} {cl : Nat → rCt} (hs : tSh h) (hn : 0 ≤ (tvI (tF h 111 30)).toInt) (D : rIm h (sRI (tA h 141) m (tvI (tF h 111 30)).toNatClampNeg) K cs cl) (hth : s.toInt = th) (hth2 : th ≤ 2) (h5 : 0 ≤ (tvI (tF h 111 5)).toInt ∧ (tvI (tF h 111 5)).toInt ≤ 300) (h59 : 0 ≤ (tvI (tF h 111 59)).toInt ∧ (tvI (tF h 111 59)).toInt ≤ 200) (h156 : ∀ i, i < 200 → 0 ≤ (tA h 156 i).toInt ∧ (tA h 156 i).toInt ≤ 9) (h133 : ∀ i, i < 5000 → 0 ≤ (tA h 133 i).toInt ∧ (tA h 133 i).toInt ≤ 14) (h134 : ∀ i, i < 5000 → 0 ≤ (tA h 134 i).toInt ∧ (tA h 134 i).toInt ≤ 99999) (h135 : ∀ i, i < 120 → 0 ≤ (tA h 135 i).toInt ∧ (tA h 135 i).toInt ≤ 3) (h136 : ∀ i, i < 120 → 0 ≤ (tA h 136 i).toInt ∧ (tA h 136 i).toInt ≤ 99999) (h137 : ∀ i, i < 120 → 0 ≤ (tA h 137 i).toInt ∧ (tA h 137 i).toInt ≤ 410) (h138 : ∀ i, i < 120 → 0 ≤ (tA h 138 i).toInt ∧ (tA h 138 i).toInt ≤ 410) (h139 : ∀ i, i < 120 → 0 ≤ (tA h 139 i).toInt ∧ (tA h 139 i).toInt ≤ 410) : tC zTt G 233 [.ref 111, .int k, .int s, .int m] h (fun w h2 => lFr h h2 ∧ ∃ r : Int32, w = some (.int r) ∧ ((K = 0 ∧ r = -1) ∨ ∃ W, qS W m.toInt64 k.toInt64 (tA h 114 k.toNatClampNeg).toInt64 m.toInt64 (bN (mK9 h k m) (tK9 h) (tvI (tF h 111 5)).toNatClampNeg m.toInt) (bN (mF9 h k) (mT9 h) (tvI (tF h 111 59)).toNatClampNeg m.toInt) (bN (mD9 h k) (mT9 h) (tvI (tF h 111 59)).toNatClampNeg m.toInt) ∧ muO W cs cl K th r)) := by
  refine tC_in (by rw [hG]; rfl) (fun dp => ?_)
  have h15 : th ≠ 15 := by omega
  refine tw_aload rfl rfl ?_
  refine tw_iload rfl rfl ?_
  refine tw_virt1 rfl (g_inForceIn hG hs hn) (fun w9 h9 p1352 => ?_)
  obtain ⟨rfl, e9⟩ := p1352
  obtain rfl := e9.symm
  refine tw_istore rfl ?_
  refine tw_iload rfl rfl ?_
  refine tw_push rfl ?_
  refine tw_ic_ne rfl (fun q1353 => ?_) (fun q1353 => ?_)
  · try dsimp only [tvI_i, tvJ_j, tvR_r] at q1353
    have q1353i := zneq (Y := (-1)) (by decide) q1353
    obtain ⟨q9, d1, d2, d3⟩ := D.resolve_left (fun z => q1353 z.1)
    refine tw_aload rfl rfl ?_
    refine tw_iload rfl rfl ?_
    refine tw_iload rfl rfl ?_
    refine tw_iload rfl rfl ?_
    refine tw_virt3 rfl (g_asks hG hs h5 h59 h156) (fun wp1354 hp1354 p1354 => ?_)
    obtain ⟨rfl, FA, hQ⟩ := p1354
    have LA := lFr_w FA
    have eA := FA.2.2.1
    refine tw_aload rfl rfl ?_
    refine tw_iload rfl rfl ?_
    refine tw_push rfl ?_
    refine tw_iload rfl rfl ?_
    refine tw_virt3 rfl (g_tells hG FA.1 (d3.frame FA) d1 d2 (kd := 0) rfl (by decide) hth (by rw [eA]; exact h133) (by rw [eA]; exact h134) (by rw [eA]; exact h135) (by rw [eA]; exact h136) (by rw [eA]; exact h138) (by rw [eA]; exact h139)) (fun w9 hp1355 p1355 => ?_)
    obtain ⟨FB, ⟨rfl, hno⟩ | ⟨i, hi, hit1, hfst, x9, rfl, hx9⟩⟩ := p1355
    · rw [thc_0 (by omega)] at hno
      refine tw_istore rfl ?_
      refine tw_iload rfl rfl ?_
      refine tw_push rfl ?_
      refine tw_ic_ne rfl (fun z => absurd z (by decide)) (fun _ => ?_)
      refine tw_push rfl ?_
      exact tw_iret rfl ⟨lFr_t LA (lFr_w FB), -1, rfl, Or.inr ⟨_, hQ, Or.inl ⟨rfl, hno⟩⟩⟩
    · rw [thc_0 (by omega)] at hit1 hfst
      have LB := lFr_t LA (lFr_w FB)
      have eB := LB.2.2.1
      have x9n := zof_cl hx9
      obtain ⟨s1, s2, s3, s4, p, qq, s5, s6⟩ := rOk_s (d3.ok i hi) d3.nv (fun z => h15 (hit1.1.symm.trans z))
      have hK12 := d3.few
      have c3 : ((cl i).1, (cl i).2.1, (cl i).2.2.1, (cl i).2.2.2) = (thc (tA h 135 (12 * q9 + i)).toNatClampNeg (tA h 136 (12 * q9 + i)).toNatClampNeg, (tA h 137 (12 * q9 + i)).toNatClampNeg, (tA h 138 (12 * q9 + i)).toNatClampNeg, (tA h 139 (12 * q9 + i)).toNatClampNeg) := by rw [← d3.row i hi]; rfl
      have c5 := congrArg (fun z : rCt => z.2.1) c3
      have c6 := congrArg (fun z : rCt => z.2.2.1) c3
      dsimp only at c5 c6
      have v1 : (tA hp1355 137 x9.toNatClampNeg).toInt = ((cl i).2.1 : Int) := by rw [eB, x9n, c5]; exact (zclx (h137 (12 * q9 + i) (by omega)).1).symm
      have v2 : (tA hp1355 138 x9.toNatClampNeg).toInt = ((cl i).2.2.1 : Int) := by rw [eB, x9n, c6]; exact (zclx (h138 (12 * q9 + i) (by omega)).1).symm
      refine tw_istore rfl ?_
      refine tw_iload rfl rfl ?_
      refine tw_push rfl ?_
      refine tw_ic_ne rfl (fun q1356 => ?_) (fun q1356 => ?_)
      · try dsimp only [tvI_i, tvJ_j, tvR_r] at q1356
        have q1356i := zneq (Y := (-1)) (by decide) q1356
        refine tw_aload rfl rfl ?_
        refine tw_iload rfl rfl ?_
        refine tw_aload rfl rfl ?_
        refine tw_getS rfl (hs_111_40 FB.1) ?_
        refine tw_iload rfl rfl ?_
        refine tw_iald rfl (fun f1357 => ?_)
        refine tw_aload rfl rfl ?_
        refine tw_getS rfl (hs_111_41 FB.1) ?_
        refine tw_iload rfl rfl ?_
        refine tw_iald rfl (fun f1358 => ?_)
        refine tw_virt3 rfl (g_answer hG FB.1 d1 d2 v1 (e := slc cs (cl i).2.1 (cl i).2.2.1) (t := false) (v2.trans (congrArg Nat.cast s1)) (by rw [← s1]; have := d3.big; omega) (by rw [eB]; exact h133) (by rw [eB]; exact h134) (by rw [eB]; exact cdAt_h s5 s6 d3.cod) s3 s4) (fun wp1359 hp1359 p1359 => ?_)
        obtain ⟨rfl, FC⟩ := p1359
        rw [FB.2.2.2.2.2 143 (by decide)]
        have k200 : (200 : Int64).toInt = 200 := by decide
        have k0 : (0 : Int64).toInt = 0 := by decide
        refine tw_lstore rfl ?_
        refine tw_lload rfl rfl ?_
        refine tw_push rfl ?_
        refine tw_lc_ge rfl rfl (fun q1360 => ?_) (fun q1360 => ?_)
        · try dsimp only [tvI_i, tvJ_j, tvR_r] at q1360
          refine tw_lload rfl rfl ?_
          refine tw_push rfl ?_
          refine tw_lc_le rfl rfl (fun q1361 => ?_) (fun q1361 => ?_)
          · try dsimp only [tvI_i, tvJ_j, tvR_r] at q1361
            refine tw_lload rfl rfl ?_
            refine tw_l2i rfl ?_
            exact tw_iret rfl ⟨lFr_t LB (lFr_w FC), _, rfl, Or.inr ⟨_, hQ, Or.inr ⟨i, hi, hit1, hfst, clI_m (S := wv _ (slc cs (cl i).2.1 (cl i).2.2.1)) (by omega) (by omega)⟩⟩⟩
          · try dsimp only [tvI_i, tvJ_j, tvR_r] at q1361
            refine tw_push rfl ?_
            refine tw_goto rfl ?_
            exact tw_iret rfl ⟨lFr_t LB (lFr_w FC), _, rfl, Or.inr ⟨_, hQ, Or.inr ⟨i, hi, hit1, hfst, clI_2 (S := wv _ (slc cs (cl i).2.1 (cl i).2.2.1)) (by omega) (by omega)⟩⟩⟩
        · try dsimp only [tvI_i, tvJ_j, tvR_r] at q1360
          refine tw_push rfl ?_
          refine tw_goto rfl ?_
          exact tw_iret rfl ⟨lFr_t LB (lFr_w FC), _, rfl, Or.inr ⟨_, hQ, Or.inr ⟨i, hi, hit1, hfst, clI_0 q1360⟩⟩⟩
      · try dsimp only [tvI_i, tvJ_j, tvR_r] at q1356
        have q1356i := zeqi (Y := (-1)) (by decide) q1356
        exfalso
        have k9 : (-1 : Int32).toInt = -1 := rfl
        omega
  · try dsimp only [tvI_i, tvJ_j, tvR_r] at q1353
    have q1353i := zeqi (Y := (-1)) (by decide) q1353
    refine tw_push rfl ?_
    exact tw_iret rfl ⟨⟨hs, rfl, rfl, rfl, rfl⟩, -1, rfl, Or.inl ⟨(D.resolve_right (fun z => by obtain ⟨q9, z1, -⟩ := z; rw [q1353] at z1; have k9 : (-1 : Int32).toInt = -1 := rfl; omega)).2, rfl⟩⟩
/-- the rule in force as both hold it: how many clauses, the codes, the clauses -/
noncomputable def rKn (h : zH) (y : Int32) : Nat := if y = -1 then 0 else (tA h 140 y.toNatClampNeg).toNatClampNeg
noncomputable def rCn (h : zH) (y : Int32) : List Nat := cArr h ((tO h 50 y.toNatClampNeg).getD 0)
noncomputable def rLn (h : zH) (y : Int32) (i : Nat) : rCt := mRow h (12 * y.toNatClampNeg + i)
theorem sRI_r {fm : Nat → Int32} {m : Int32} {n : Nat} (hn : n ≤ 10) : sRI fm m n = -1 ∨ ∃ q : Nat, q < n ∧ (sRI fm m n).toInt = (q : Int) := by
  induction n with
  | zero => exact Or.inl rfl
  | succ n ih =>
    rw [sRI_u]
    by_cases c : (fm n).toInt ≤ m.toInt ∧ (sRI fm m n = -1 ∨ (fm (sRI fm m n).toNatClampNeg).toInt ≤ (fm n).toInt)
    · rw [if_pos c]
      exact Or.inr ⟨n, Nat.lt_succ_self _, yofN (by omega)⟩
    · rw [if_neg c]
      rcases ih (by omega) with z | ⟨q, z1, z2⟩
      · exact Or.inl z
      · exact Or.inr ⟨q, by omega, z2⟩
theorem rIn_D {xs : Nat → Int32} {τ : List Nat} {h : zH} {m : Int32} (hB : zBs xs τ h) (hR : R_rcd h) : rIc h (sRI (tA h 49) m (tvI (tF h 48 3)).toNatClampNeg) (rKn h (sRI (tA h 49) m (tvI (tF h 48 3)).toNatClampNeg)) (rCn h (sRI (tA h 49) m (tvI (tF h 48 3)).toNatClampNeg)) (rLn h (sRI (tA h 49) m (tvI (tF h 48 3)).toNatClampNeg)) ∧ rIm h (sRI (tA h 49) m (tvI (tF h 48 3)).toNatClampNeg) (rKn h (sRI (tA h 49) m (tvI (tF h 48 3)).toNatClampNeg)) (rCn h (sRI (tA h 49) m (tvI (tF h 48 3)).toNatClampNeg)) (rLn h (sRI (tA h 49) m (tvI (tF h 48 3)).toNatClampNeg)) := by
  have b := kb_48_3 hB
  have hc : (((tvI (tF h 48 3)).toNatClampNeg : Nat) : Int) = (tvI (tF h 48 3)).toInt := zclx b.1
  generalize hy : sRI (tA h 49) m (tvI (tF h 48 3)).toNatClampNeg = y
  have z := sRI_r (fm := tA h 49) (m := m) (n := (tvI (tF h 48 3)).toNatClampNeg) (by omega)
  rw [hy] at z
  rcases z with z | ⟨q, z1, z2⟩
  · have k0 : rKn h y = 0 := if_pos z
    exact ⟨Or.inl ⟨z, k0⟩, Or.inl ⟨z, k0⟩⟩
  · have zn : y.toNatClampNeg = q := zof_cl z2
    have hne : ¬ y = -1 := fun w => by
      have k9 : (-1 : Int32).toInt = -1 := rfl
      rw [w] at z2
      omega
    obtain ⟨a, a1, a2, a3, k⟩ := hR q (by omega) (by omega)
    have D := rCd_D hB (by omega) a2 a3 k
    have e1 : rKn h y = (tA h 140 q).toNatClampNeg := by unfold rKn; rw [if_neg hne, zn]
    have e2 : rCn h y = cArr h a := by unfold rCn; rw [zn, a2]; rfl
    have e3 : rLn h y = fun i => mRow h (12 * q + i) := by funext i; unfold rLn; rw [zn]
    rw [e1, e2, e3]
    exact ⟨Or.inr ⟨q, a, a + 1, z2, by omega, a2, a3, ⟨a1, by omega⟩, D.1⟩, Or.inr ⟨q, z2, by omega, D.2⟩⟩
theorem rIm_fr {h h2 : zH} {y : Int32} {K : Nat} {cs : List Nat} {cl : Nat → rCt} (D : rIm h y K cs cl) (o : ∀ p, 133 ≤ p → p ≤ 140 → tA h2 p = tA h p) : rIm h2 y K cs cl := by
  rcases D with D | ⟨q, z1, z2, h1, h2, h3, h4, h5, h6, h7⟩
  · exact Or.inl D
  · refine Or.inr ⟨q, z1, z2, ?_, h2, ?_, h4, fun i hi => ?_, h6, h7⟩
    · rw [o 133 (by decide) (by decide), o 134 (by decide) (by decide)]; exact h1
    · rw [o 140 (by decide) (by decide)]; exact h3
    · rw [← h5 i hi]
      exact mRow_e (fun p p1 p2 => congrFun (o p (by omega) (by omega)) _)
theorem rIc_ok {h : zH} {y : Int32} {K : Nat} {cs : List Nat} {cl : Nat → rCt} (D : rIc h y K cs cl) : (K = 0 ∨ nVl cs ≤ 80) ∧ ∀ i, i < K → rOk cs (cl i) := by
  rcases D with ⟨-, k0⟩ | ⟨q, a, b, -, -, -, -, -, d⟩
  · exact ⟨Or.inl k0, fun i hi => by omega⟩
  · exact ⟨Or.inr d.nv, d.ok⟩
theorem qS_u {g1 g2 : Nat → Int64} {a b c d : Int64} {e f i : Int} (k1 : qS g1 a b c d e f i) (k2 : qS g2 a b c d e f i) : ∀ t, t < 12 → g1 t = g2 t := by
  intro t ht
  obtain ⟨k0, k1, k2', k3, k4, k5, k6, k7⟩ := k1
  obtain ⟨l0, l1, l2, l3, l4, l5, l6, l7⟩ := k2
  rcases (by omega : t = 0 ∨ t = 1 ∨ t = 2 ∨ t = 3 ∨ t = 4 ∨ t = 5 ∨ t = 6 ∨ (7 ≤ t ∧ t < 12)) with rfl | rfl | rfl | rfl | rfl | rfl | rfl | h7
  · rw [k0, l0]
  · rw [k1, l1]
  · rw [k2', l2]
  · rw [k3, l3]
  · exact Int64.toInt_inj.mp (k4.trans l4.symm)
  · exact Int64.toInt_inj.mp (k5.trans l5.symm)
  · exact Int64.toInt_inj.mp (k6.trans l6.symm)
  · rw [k7 t h7.1 h7.2, l7 t h7.1 h7.2]
theorem qS_of {W : Nat → Int64} {a b c d e3 f3 i3 : Int64} {e f i : Int} (k : ∀ t, t < 12 → W t = qW a b c d e3 f3 i3 t) (h4 : e3.toInt = e) (h5 : f3.toInt = f) (h6 : i3.toInt = i) : qS W a b c d e f i := by
  refine ⟨k 0 (by decide), k 1 (by decide), k 2 (by decide), k 3 (by decide), ?_, ?_, ?_, fun t h1 h2 => ?_⟩
  · rw [k 4 (by decide)]; exact h4
  · rw [k 5 (by decide)]; exact h5
  · rw [k 6 (by decide)]; exact h6
  · rw [k t h2]
    rcases (by omega : t = 7 ∨ t = 8 ∨ t = 9 ∨ t = 10 ∨ t = 11) with rfl | rfl | rfl | rfl | rfl <;> rfl
/-- the two's counts agree -/
theorem cnt_K {h h2 : zH} {k m : Int32} {n : Nat} (e1 : tA h2 121 = tA h 121) (e2 : tA h2 122 = tA h 122) (e3 : tA h2 123 = tA h 123) (hm : ∀ i, i < n → (tA h 122 i).toInt ≤ (tA h 123 i).toInt) : bN (wK h k) (tK9 h) n m.toInt = bN (mK9 h2 k m) (tK9 h2) n m.toInt := by
  refine bN_e2 (fun i hi => ⟨?_, fun hle => ?_⟩)
  · unfold tK9; rw [e3]
  · unfold wK mK9
    rw [e1, e2]
    have hle : (tA h 123 i).toInt ≤ m.toInt := hle
    have hm := hm i hi
    by_cases z : tA h 121 i = k
    · rw [if_pos z, if_pos ⟨z, by omega⟩]
    · rw [if_neg z, if_neg (fun y => z y.1)]
theorem cnt_F {h h2 : zH} {k : Int32} {t : Int} {n : Nat} (e1 : ∀ i, i < n → tA h 65 i = tA h2 121 (tA h2 152 i).toNatClampNeg) (e2 : tA h2 158 = tA h 71) (e3 : tA h2 157 = tA h 67) (e4 : tA h2 156 = tA h 70) : bN (wF h k) (tF9 h) n t = bN (mF9 h2 k) (mT9 h2) n t ∧ bN (wD h k) (tF9 h) n t = bN (mD9 h2 k) (mT9 h2) n t := by
  have et : ∀ i, tF9 h i = mT9 h2 i := fun i => by unfold tF9 mT9; rw [e3]
  constructor
  · refine bN_e (fun i hi => ⟨?_, et i⟩)
    unfold wF mF9
    rw [e1 i hi, e2]
  · refine bN_e (fun i hi => ⟨?_, et i⟩)
    unfold wD mD9
    rw [e1 i hi, e2, e4]
/-- what is counted and said has changed, nothing else -/
noncomputable def qFr (h h2 : zH) : Prop := tSh h2 ∧ tF h2 = tF h ∧ tO h2 = tO h ∧ tN h2 = tN h ∧ ∀ p, ¬ (p = 107 ∨ p = 108 ∨ p = 109) → tA h2 p = tA h p
theorem qFr_r {h : zH} (hs : tSh h) : qFr h h := ⟨hs, rfl, rfl, rfl, fun _ _ => rfl⟩
theorem qFr_of {h h1 h2 : zH} (a : aFr (fun r => r = 107 ∨ r = 108 ∨ r = 109) h h1) (l : lFr h1 h2) : qFr h h2 := ⟨l.1, l.2.1.trans a.2.1, l.2.2.2.1.trans a.2.2.2.1, l.2.2.2.2.trans a.2.2.2.2.1, fun p hp => (congrFun l.2.2.1 p).trans (a.2.2.2.2.2 p hp)⟩
theorem muO_b {W : Nat → Int64} {cs : List Nat} {cl : Nat → rCt} {K th : Nat} {r : Int32} (h : muO W cs cl K th r) : r = -1 ∨ (0 ≤ r.toInt ∧ r.toInt ≤ 200) := by
  rcases h with ⟨h, -⟩ | ⟨i, -, -, -, h⟩
  · exact Or.inl h
  · right
    unfold clI at h
    split at h
    · omega
    · split at h <;> omega
section TN9
variable {xs : Nat → Int32} {τ : List Nat} {h : zH}
theorem tn_107 (hB : zBs xs τ h) : tN h 107 = 600 := by
  obtain ⟨a, b, -⟩ := tkd_a hB (p := 107) (t := 75) rfl rfl
  omega
theorem tn_108 (hB : zBs xs τ h) : tN h 108 = 600 := by
  obtain ⟨a, b, -⟩ := tkd_a hB (p := 108) (t := 75) rfl rfl
  omega
theorem tn_109 (hB : zBs xs τ h) : tN h 109 = 600 := by
  obtain ⟨a, b, -⟩ := tkd_a hB (p := 109) (t := 75) rfl rfl
  omega
theorem tn_52 (hB : zBs xs τ h) : tN h 52 = 12 := by
  obtain ⟨a, b⟩ := tkd_j hB (p := 52) (t := 28) rfl rfl
  omega
theorem tn_53 (hB : zBs xs τ h) : tN h 53 = 80 := by
  obtain ⟨a, b⟩ := tkd_j hB (p := 53) (t := 29) rfl rfl
  omega
end TN9
theorem f_must {G : zG} (hG : G.1 = zProg) {h : zH} {k s m : Int32} {K : Nat} {cs : List Nat} {cl : Nat → rCt} (hs : tSh h) (hL : R_cl h) (hg : ∀ i r : Nat, (i : Int) < (tvI (tF h 36 4)).toInt → tO h 39 i = some r → 182 ≤ r) (hK : R_ckind h) (hT : R_ctl h) (hn107 : tN h 107 = 600) (hn108 : tN h 108 = 600) (hn109 : tN h 109 = 600) (h123 : ∀ i, i < 300 → 0 ≤ (tA h 123 i).toInt ∧ (tA h 123 i).toInt ≤ 599) (h36 : 0 ≤ (tvI (tF h 36 4)).toInt ∧ (tvI (tF h 36 4)).toInt ≤ 300) (h67 : ∀ i, i < 200 → 0 ≤ (tA h 67 i).toInt ∧ (tA h 67 i).toInt ≤ 599) (h70 : ∀ i, i < 200 → 0 ≤ (tA h 70 i).toInt ∧ (tA h 70 i).toInt ≤ 9) (h63 : 0 ≤ (tvI (tF h 63 8)).toInt ∧ (tvI (tF h 63 8)).toInt ≤ 200) (hn : 0 ≤ (tvI (tF h 48 3)).toInt) (h52 : tN h 52 = 12) (h53 : tN h 53 = 80) (D : rIc h (sRI (tA h 49) m (tvI (tF h 48 3)).toNatClampNeg) K cs cl) : tC zTt G 126 [.ref 0, .int k, .int s, .int m] h (fun w h2 => qFr h h2 ∧ ((((0 ≤ k.toInt ∧ k.toInt < (tvI (tF h 1 6)).toInt) ∧ (0 ≤ s.toInt ∧ s.toInt ≤ 2) ∧ (0 ≤ m.toInt ∧ m.toInt ≤ 599)) ∧ ∃ r W, w = some (.int r) ∧ qS W m.toInt64 k.toInt64 (tA h 3 k.toNatClampNeg).toInt64 m.toInt64 (bN (wK h k) (tK9 h) (tvI (tF h 36 4)).toNatClampNeg m.toInt) (bN (wF h k) (tF9 h) (tvI (tF h 63 8)).toNatClampNeg m.toInt) (bN (wD h k) (tF9 h) (tvI (tF h 63 8)).toNatClampNeg m.toInt) ∧ muO W cs cl K s.toNatClampNeg r) ∨ (¬ ((0 ≤ k.toInt ∧ k.toInt < (tvI (tF h 1 6)).toInt) ∧ (0 ≤ s.toInt ∧ s.toInt ≤ 2) ∧ (0 ≤ m.toInt ∧ m.toInt ≤ 599)) ∧ w = some (.int (-2))))) := by
  refine tC_in (by rw [hG]; rfl) (fun dp => ?_)
  refine tw_aload rfl rfl ?_
  refine tw_getS rfl (hs_0_0 hs) ?_
  refine tw_iload rfl rfl ?_
  refine tw_virt1 rfl (f_hasKind hG hs) (fun w9 h9 p1362 => ?_)
  obtain ⟨⟨p1362, rfl⟩ | ⟨p1362, rfl⟩, e9⟩ := p1362
  · try dsimp only [tvI_i, tvJ_j, tvR_r] at p1362
    obtain rfl := e9.symm
    refine tw_if_eq rfl (fun z => absurd z (by decide)) (fun _ => ?_)
    refine tw_iload rfl rfl ?_
    refine tw_stat1 rfl (f_isSort hG) (fun w9 h9 p1363 => ?_)
    obtain ⟨⟨p1363, rfl⟩ | ⟨p1363, rfl⟩, e9⟩ := p1363
    · try dsimp only [tvI_i, tvJ_j, tvR_r] at p1363
      obtain rfl := e9.symm
      refine tw_if_eq rfl (fun z => absurd z (by decide)) (fun _ => ?_)
      refine tw_iload rfl rfl ?_
      refine tw_stat1 rfl (f_isMonth hG) (fun w9 h9 p1364 => ?_)
      obtain ⟨⟨p1364, rfl⟩ | ⟨p1364, rfl⟩, e9⟩ := p1364
      · try dsimp only [tvI_i, tvJ_j, tvR_r] at p1364
        obtain rfl := e9.symm
        refine tw_if_ne rfl (fun _ => ?_) (fun z => absurd z (by decide))
        refine tw_aload rfl rfl ?_
        refine tw_iload rfl rfl ?_
        refine tw_virt1 rfl (f_tally hG hs hL hg hK hT hn107 hn108 hn109 h123 h36 h67 h70 h63) (fun wp1365 hp1365 p1365 => ?_)
        obtain ⟨rfl, FT, T7, T8, T9⟩ := p1365
        have eA : ∀ p, (p = 3 ∨ p = 49) → tA hp1365 p = tA h p := fun p hp => FT.2.2.2.2.2 p (fun z => by omega)
        have eF : tF hp1365 = tF h := FT.2.1
        refine tw_aload rfl rfl ?_
        refine tw_iload rfl rfl ?_
        refine tw_iload rfl rfl ?_
        refine tw_iload rfl rfl ?_
        refine tw_virt3 rfl (f_mustOf hG FT.1 (by rw [eF]; exact hn) (by rw [FT.2.2.2.2.1]; exact h52) (by rw [FT.2.2.2.2.1]; exact h53) (K := K) (cs := cs) (cl := cl) (th := s.toNatClampNeg) (by rw [eA 49 (Or.inr rfl), eF]; exact rIc_af D FT (fun q z => by omega)) (zclx (by omega)).symm (by rw [zclE]; omega)) (fun wp1366 hp1366 p1366 => ?_)
        obtain ⟨LM, r, W, rfl, hW, hm⟩ := p1366
        rw [eA 3 (Or.inl rfl)] at hW
        have hmc : ((m.toNatClampNeg : Nat) : Int) = m.toInt := zclx (by omega)
        have hmn : m.toNatClampNeg < 600 := by omega
        have u7 := T7 m.toNatClampNeg hmn
        have u8 := T8 m.toNatClampNeg hmn
        have u9 := T9 m.toNatClampNeg hmn
        rw [hmc] at u7 u8 u9
        have hQ : qS W m.toInt64 k.toInt64 (tA h 3 k.toNatClampNeg).toInt64 m.toInt64 (bN (wK h k) (tK9 h) (tvI (tF h 36 4)).toNatClampNeg m.toInt) (bN (wF h k) (tF9 h) (tvI (tF h 63 8)).toNatClampNeg m.toInt) (bN (wD h k) (tF9 h) (tvI (tF h 63 8)).toNatClampNeg m.toInt) := qS_of hW ((Int32.toInt_toInt64 _).trans u7) ((Int32.toInt_toInt64 _).trans u8) ((Int32.toInt_toInt64 _).trans u9)
        exact tw_iret rfl ⟨qFr_of FT LM, Or.inl ⟨by omega, r, W, rfl, hQ, hm⟩⟩
      · try dsimp only [tvI_i, tvJ_j, tvR_r] at p1364
        obtain rfl := e9.symm
        refine tw_if_ne rfl (fun z => absurd z (by decide)) (fun _ => ?_)
        refine tw_push rfl ?_
        exact tw_iret rfl ⟨qFr_r hs, Or.inr ⟨by omega, rfl⟩⟩
    · try dsimp only [tvI_i, tvJ_j, tvR_r] at p1363
      obtain rfl := e9.symm
      refine tw_if_eq rfl (fun _ => ?_) (fun z => absurd z (by decide))
      refine tw_push rfl ?_
      exact tw_iret rfl ⟨qFr_r hs, Or.inr ⟨by omega, rfl⟩⟩
  · try dsimp only [tvI_i, tvJ_j, tvR_r] at p1362
    obtain rfl := e9.symm
    refine tw_if_eq rfl (fun _ => ?_) (fun z => absurd z (by decide))
    refine tw_push rfl ?_
    exact tw_iret rfl ⟨qFr_r hs, Or.inr ⟨by omega, rfl⟩⟩
theorem g_isAsked {G : zG} (hG : G.1 = zProg) {h : zH} {k s m : Int32} (hs : tSh h) (hk3 : 0 ≤ (tvI (tF h 111 3)).toInt) : tC zTt G 234 [.ref 111, .int k, .int s, .int m] h (fun w h2 => tBo ((0 ≤ k.toInt ∧ k.toInt < (tvI (tF h 111 3)).toInt) ∧ (0 ≤ s.toInt ∧ s.toInt ≤ 2) ∧ (0 ≤ m.toInt ∧ m.toInt ≤ 599)) w ∧ h2 = h) := by
  refine tC_in (by rw [hG]; rfl) (fun dp => ?_)
  refine tw_aload rfl rfl ?_
  refine tw_iload rfl rfl ?_
  refine tw_virt1 rfl (g_isKind hG hs hk3) (fun w9 h9 p1367 => ?_)
  obtain ⟨⟨p1367, rfl⟩ | ⟨p1367, rfl⟩, e9⟩ := p1367
  · try dsimp only [tvI_i, tvJ_j, tvR_r] at p1367
    obtain rfl := e9.symm
    refine tw_if_eq rfl (fun z => absurd z (by decide)) (fun _ => ?_)
    refine tw_iload rfl rfl ?_
    refine tw_stat1 rfl (g_isSort hG) (fun w9 h9 p1368 => ?_)
    obtain ⟨⟨p1368, rfl⟩ | ⟨p1368, rfl⟩, e9⟩ := p1368
    · try dsimp only [tvI_i, tvJ_j, tvR_r] at p1368
      obtain rfl := e9.symm
      refine tw_if_eq rfl (fun z => absurd z (by decide)) (fun _ => ?_)
      refine tw_iload rfl rfl ?_
      refine tw_stat1 rfl (g_isMonth hG) (fun w9 h9 p1369 => ?_)
      obtain ⟨⟨p1369, rfl⟩ | ⟨p1369, rfl⟩, e9⟩ := p1369
      · try dsimp only [tvI_i, tvJ_j, tvR_r] at p1369
        obtain rfl := e9.symm
        refine tw_if_eq rfl (fun z => absurd z (by decide)) (fun _ => ?_)
        refine tw_push rfl ?_
        refine tw_goto rfl ?_
        exact tw_iret rfl ⟨Or.inl ⟨by omega, rfl⟩, rfl⟩
      · try dsimp only [tvI_i, tvJ_j, tvR_r] at p1369
        obtain rfl := e9.symm
        refine tw_if_eq rfl (fun _ => ?_) (fun z => absurd z (by decide))
        refine tw_push rfl ?_
        exact tw_iret rfl ⟨Or.inr ⟨by omega, rfl⟩, rfl⟩
    · try dsimp only [tvI_i, tvJ_j, tvR_r] at p1368
      obtain rfl := e9.symm
      refine tw_if_eq rfl (fun _ => ?_) (fun z => absurd z (by decide))
      refine tw_push rfl ?_
      exact tw_iret rfl ⟨Or.inr ⟨by omega, rfl⟩, rfl⟩
  · try dsimp only [tvI_i, tvJ_j, tvR_r] at p1367
    obtain rfl := e9.symm
    refine tw_if_eq rfl (fun _ => ?_) (fun z => absurd z (by decide))
    refine tw_push rfl ?_
    exact tw_iret rfl ⟨Or.inr ⟨by omega, rfl⟩, rfl⟩
theorem g_must {G : zG} (hG : G.1 = zProg) {h : zH} {k s m : Int32} {K : Nat} {cs : List Nat} {cl : Nat → rCt} (hs : tSh h) (hk3 : 0 ≤ (tvI (tF h 111 3)).toInt) (hn : 0 ≤ (tvI (tF h 111 30)).toInt) (D : rIm h (sRI (tA h 141) m (tvI (tF h 111 30)).toNatClampNeg) K cs cl) (h5 : 0 ≤ (tvI (tF h 111 5)).toInt ∧ (tvI (tF h 111 5)).toInt ≤ 300) (h59 : 0 ≤ (tvI (tF h 111 59)).toInt ∧ (tvI (tF h 111 59)).toInt ≤ 200) (h156 : ∀ i, i < 200 → 0 ≤ (tA h 156 i).toInt ∧ (tA h 156 i).toInt ≤ 9) (h133 : ∀ i, i < 5000 → 0 ≤ (tA h 133 i).toInt ∧ (tA h 133 i).toInt ≤ 14) (h134 : ∀ i, i < 5000 → 0 ≤ (tA h 134 i).toInt ∧ (tA h 134 i).toInt ≤ 99999) (h135 : ∀ i, i < 120 → 0 ≤ (tA h 135 i).toInt ∧ (tA h 135 i).toInt ≤ 3) (h136 : ∀ i, i < 120 → 0 ≤ (tA h 136 i).toInt ∧ (tA h 136 i).toInt ≤ 99999) (h137 : ∀ i, i < 120 → 0 ≤ (tA h 137 i).toInt ∧ (tA h 137 i).toInt ≤ 410) (h138 : ∀ i, i < 120 → 0 ≤ (tA h 138 i).toInt ∧ (tA h 138 i).toInt ≤ 410) (h139 : ∀ i, i < 120 → 0 ≤ (tA h 139 i).toInt ∧ (tA h 139 i).toInt ≤ 410) : tC zTt G 235 [.ref 111, .int k, .int s, .int m] h (fun w h2 => (((0 ≤ k.toInt ∧ k.toInt < (tvI (tF h 111 3)).toInt) ∧ (0 ≤ s.toInt ∧ s.toInt ≤ 2) ∧ (0 ≤ m.toInt ∧ m.toInt ≤ 599)) ∧ ∃ r, w = some (.int r) ∧ ((K = 0 ∧ r = -1) ∨ ∃ W, qS W m.toInt64 k.toInt64 (tA h 114 k.toNatClampNeg).toInt64 m.toInt64 (bN (mK9 h k m) (tK9 h) (tvI (tF h 111 5)).toNatClampNeg m.toInt) (bN (mF9 h k) (mT9 h) (tvI (tF h 111 59)).toNatClampNeg m.toInt) (bN (mD9 h k) (mT9 h) (tvI (tF h 111 59)).toNatClampNeg m.toInt) ∧ muO W cs cl K s.toNatClampNeg r)) ∨ (¬ ((0 ≤ k.toInt ∧ k.toInt < (tvI (tF h 111 3)).toInt) ∧ (0 ≤ s.toInt ∧ s.toInt ≤ 2) ∧ (0 ≤ m.toInt ∧ m.toInt ≤ 599)) ∧ w = some (.int (-2)))) := by
  refine tC_in (by rw [hG]; rfl) (fun dp => ?_)
  refine tw_aload rfl rfl ?_
  refine tw_iload rfl rfl ?_
  refine tw_iload rfl rfl ?_
  refine tw_iload rfl rfl ?_
  refine tw_virt3 rfl (g_isAsked hG hs hk3) (fun w9 h9 p1370 => ?_)
  obtain ⟨⟨p1370, rfl⟩ | ⟨p1370, rfl⟩, e9⟩ := p1370
  · try dsimp only [tvI_i, tvJ_j, tvR_r] at p1370
    obtain rfl := e9.symm
    refine tw_if_eq rfl (fun z => absurd z (by decide)) (fun _ => ?_)
    refine tw_aload rfl rfl ?_
    refine tw_iload rfl rfl ?_
    refine tw_iload rfl rfl ?_
    refine tw_iload rfl rfl ?_
    refine tw_virt3 rfl (g_mustOf hG hs hn D (zclx (by omega)).symm (by rw [zclE]; omega) h5 h59 h156 h133 h134 h135 h136 h137 h138 h139) (fun wp1371 hp1371 p1371 => ?_)
    obtain ⟨LM, r, rfl, hm⟩ := p1371
    refine tw_goto rfl ?_
    exact tw_iret rfl (Or.inl ⟨by omega, r, rfl, hm⟩)
  · try dsimp only [tvI_i, tvJ_j, tvR_r] at p1370
    obtain rfl := e9.symm
    refine tw_if_eq rfl (fun _ => ?_) (fun z => absurd z (by decide))
    refine tw_push rfl ?_
    exact tw_iret rfl (Or.inr ⟨by omega, rfl⟩)
noncomputable def ph_muc (k s m : Int32) (h : zH) (w : Option Value) (_h2 : zH) : Prop := ((((0 ≤ k.toInt ∧ k.toInt < (tvI (tF h 1 6)).toInt) ∧ (0 ≤ s.toInt ∧ s.toInt ≤ 2) ∧ (0 ≤ m.toInt ∧ m.toInt ≤ 599)) ∧ ∃ r W, w = some (.int r) ∧ qS W m.toInt64 k.toInt64 (tA h 3 k.toNatClampNeg).toInt64 m.toInt64 (bN (wK h k) (tK9 h) (tvI (tF h 36 4)).toNatClampNeg m.toInt) (bN (wF h k) (tF9 h) (tvI (tF h 63 8)).toNatClampNeg m.toInt) (bN (wD h k) (tF9 h) (tvI (tF h 63 8)).toNatClampNeg m.toInt) ∧ muO W (rCn h (sRI (tA h 49) m (tvI (tF h 48 3)).toNatClampNeg)) (rLn h (sRI (tA h 49) m (tvI (tF h 48 3)).toNatClampNeg)) (rKn h (sRI (tA h 49) m (tvI (tF h 48 3)).toNatClampNeg)) s.toNatClampNeg r) ∨ (¬ ((0 ≤ k.toInt ∧ k.toInt < (tvI (tF h 1 6)).toInt) ∧ (0 ≤ s.toInt ∧ s.toInt ≤ 2) ∧ (0 ≤ m.toInt ∧ m.toInt ≤ 599)) ∧ w = some (.int (-2))))
noncomputable def ph_mum (k s m : Int32) (h : zH) (_w : Option Value) (h2 : zH) (w : Option Value) (_h3 : zH) : Prop := (((0 ≤ k.toInt ∧ k.toInt < (tvI (tF h2 111 3)).toInt) ∧ (0 ≤ s.toInt ∧ s.toInt ≤ 2) ∧ (0 ≤ m.toInt ∧ m.toInt ≤ 599)) ∧ ∃ r, w = some (.int r) ∧ ((rKn h (sRI (tA h 49) m (tvI (tF h 48 3)).toNatClampNeg) = 0 ∧ r = -1) ∨ ∃ W, qS W m.toInt64 k.toInt64 (tA h2 114 k.toNatClampNeg).toInt64 m.toInt64 (bN (mK9 h2 k m) (tK9 h2) (tvI (tF h2 111 5)).toNatClampNeg m.toInt) (bN (mF9 h2 k) (mT9 h2) (tvI (tF h2 111 59)).toNatClampNeg m.toInt) (bN (mD9 h2 k) (mT9 h2) (tvI (tF h2 111 59)).toNatClampNeg m.toInt) ∧ muO W (rCn h (sRI (tA h 49) m (tvI (tF h 48 3)).toNatClampNeg)) (rLn h (sRI (tA h 49) m (tvI (tF h 48 3)).toNatClampNeg)) (rKn h (sRI (tA h 49) m (tvI (tF h 48 3)).toNatClampNeg)) s.toNatClampNeg r)) ∨ (¬ ((0 ≤ k.toInt ∧ k.toInt < (tvI (tF h2 111 3)).toInt) ∧ (0 ≤ s.toInt ∧ s.toInt ≤ 2) ∧ (0 ≤ m.toInt ∧ m.toInt ≤ 599)) ∧ w = some (.int (-2)))
theorem g_mustD {G : zG} (hG : G.1 = zProg) {k s m : Int32} {τ τ2 : List Nat} {h h2 : zH} {w : Option Value} (hB : zBs G.2.2.2 τ h) (hB2 : zBs G.2.2.2 τ2 h2) (hR : R_rcd h) (hN : R_rules h) (hF : R_froms h) (e30 : tF h2 111 30 = tF h 111 30) (e141 : tA h2 141 = tA h 141) (o133 : ∀ p, 133 ≤ p → p ≤ 140 → tA h2 p = tA h p) : tC zTt G 235 [.ref 111, .int k, .int s, .int m] h2 (fun w2 h3 => ph_mum k s m h w h2 w2 h3) := by
  unfold R_rules at hN
  unfold R_froms at hF
  have D := rIm_fr (rIn_D (m := m) hB hR).2 o133
  have ey : sRI (tA h2 141) m (tvI (tF h2 111 30)).toNatClampNeg = (sRI (tA h 49) m (tvI (tF h 48 3)).toNatClampNeg) := by rw [e30, e141, ← hN, ← hF]
  rw [← ey] at D
  refine (g_must hG (zBs_sh hB2) (kb_111_3 hB2).1 (kb_111_30 hB2).1 D (kb_111_5 hB2) (kb_111_59 hB2) (ka_156 hB2).2 (ka_133 hB2).2 (ka_134 hB2).2 (ka_135 hB2).2 (ka_136 hB2).2 (ka_137 hB2).2 (ka_138 hB2).2 (ka_139 hB2).2).mono (fun w2 h3 z => ?_)
  unfold ph_mum
  rw [← ey]
  exact z
theorem a_must {xs : Nat → Int32} {τ : List Nat} {k s m : Int32} {h h2 h3 : zH} {w w2 : Option Value} (hB : zBs xs τ h) (hR : R_rcd h) (hK : R_kinds h) (hC : R_cars h) (hX : R_crashes h) (hf : R_kfirm h) (hM : R_cmt h) (h2k : R_ck2 h) (hct : R_ctold h) (hcd : R_cdead h) (hcb : R_cburn h) (e3 : tF h2 111 3 = tF h 111 3) (e5 : tF h2 111 5 = tF h 111 5) (e59 : tF h2 111 59 = tF h 111 59) (o114 : tA h2 114 = tA h 114) (o121 : tA h2 121 = tA h 121) (o122 : tA h2 122 = tA h 122) (o123 : tA h2 123 = tA h 123) (o152 : tA h2 152 = tA h 152) (o156 : tA h2 156 = tA h 156) (o157 : tA h2 157 = tA h 157) (o158 : tA h2 158 = tA h 158) (k1 : ph_muc k s m h w h2) (k2 : ph_mum k s m h w h2 w2 h3) : w2 = w := by
  unfold R_kinds at hK
  unfold R_cars at hC
  unfold R_crashes at hX
  unfold R_kfirm at hf
  unfold R_ctold at hct
  unfold R_cdead at hcd
  unfold R_cburn at hcb
  unfold ph_mum at k2
  rw [e3, e5, e59, o114, ← hK, ← hC, ← hX, ← hf] at k2
  have b4 := kb_36_4 hB
  have b8 := kb_63_8 hB
  have c1 := cnt_K (h := h) (h2 := h2) (k := k) (m := m) (n := (tvI (tF h 36 4)).toNatClampNeg) o121 o122 o123 (fun i hi => hM i (by rw [← hC]; rw [zclE] at hi; omega))
  have c2 := cnt_F (h := h) (h2 := h2) (k := k) (t := m.toInt) (n := (tvI (tF h 63 8)).toNatClampNeg) (fun i hi => by rw [o121, o152]; exact (h2k i (by rw [← hX]; rw [zclE] at hi; omega)).1) (o158.trans hcb.symm) (o157.trans hct.symm) (o156.trans hcd.symm)
  rw [← c1, ← c2.1, ← c2.2] at k2
  have D := (rIn_D (m := m) hB hR).1
  rcases k1 with ⟨a1, r, W, rfl, a2, a3⟩ | ⟨a1, rfl⟩ <;> rcases k2 with ⟨d1, r2, rfl, d2⟩ | ⟨d1, rfl⟩
  · have e : r2 = r := by
      rcases d2 with ⟨k0, d2⟩ | ⟨W2, d2, d3⟩
      · rcases a3 with ⟨a3, -⟩ | ⟨i, hi, -⟩
        · rw [d2, a3]
        · omega
      · by_cases k0 : rKn h (sRI (tA h 49) m (tvI (tF h 48 3)).toNatClampNeg) = 0
        · rcases a3 with ⟨a3, -⟩ | ⟨i, hi, -⟩
          · rcases d3 with ⟨d3, -⟩ | ⟨j, hj, -⟩
            · rw [d3, a3]
            · omega
          · omega
        · exact muO_u (qS_u a2 d2) (rIc_ok D).2 ((rIc_ok D).1.resolve_left k0) (by rw [zclE]; omega) a3 d3
    rw [e]
  · exact absurd a1 d1
  · exact absurd d1 a1
  · rfl
/-- the best speed that the first n readings tell -/
noncomputable def sK (rt rb ri tk ts tp tb : Nat → Int32) (p k s m z : Int32) : Nat → Int32
  | 0 => -1
  | n + 1 => if (rb n = p ∧ (ri n).toInt ≤ m.toInt ∧ tk (rt n).toNatClampNeg = k ∧ ts (rt n).toNatClampNeg = s ∧ tb (rt n).toNatClampNeg = z) ∧ (sK rt rb ri tk ts tp tb p k s m z n = -1 ∨ (if z = 0 then sK rt rb ri tk ts tp tb p k s m z n < tp (rt n).toNatClampNeg else tp (rt n).toNatClampNeg < sK rt rb ri tk ts tp tb p k s m z n)) then tp (rt n).toNatClampNeg else sK rt rb ri tk ts tp tb p k s m z n
section SK
variable {rt rb ri tk ts tp tb : Nat → Int32} {p k s m z x : Int32} {n N : Nat}
noncomputable abbrev sKc (rt rb ri tk ts tb : Nat → Int32) (p k s m z x : Int32) : Prop := rb x.toNatClampNeg = p ∧ (ri x.toNatClampNeg).toInt ≤ m.toInt ∧ tk (rt x.toNatClampNeg).toNatClampNeg = k ∧ ts (rt x.toNatClampNeg).toNatClampNeg = s ∧ tb (rt x.toNatClampNeg).toNatClampNeg = z
theorem sK_S (hx : x.toNatClampNeg = n) : sK rt rb ri tk ts tp tb p k s m z (n + 1) = if sKc rt rb ri tk ts tb p k s m z x ∧ (sK rt rb ri tk ts tp tb p k s m z n = -1 ∨ (if z = 0 then sK rt rb ri tk ts tp tb p k s m z n < tp (rt x.toNatClampNeg).toNatClampNeg else tp (rt x.toNatClampNeg).toNatClampNeg < sK rt rb ri tk ts tp tb p k s m z n)) then tp (rt x.toNatClampNeg).toNatClampNeg else sK rt rb ri tk ts tp tb p k s m z n := by
  subst hx
  rfl
theorem sK_no (hx : x.toNatClampNeg = n) (h : ¬ sKc rt rb ri tk ts tb p k s m z x) : sK rt rb ri tk ts tp tb p k s m z (n + 1) = sK rt rb ri tk ts tp tb p k s m z n := by
  rw [sK_S hx, if_neg (fun q => h q.1)]
theorem sK_y0 (hx : x.toNatClampNeg = n) (h : sKc rt rb ri tk ts tb p k s m z x) (hb : sK rt rb ri tk ts tp tb p k s m z n = -1) : sK rt rb ri tk ts tp tb p k s m z (n + 1) = tp (rt x.toNatClampNeg).toNatClampNeg := by
  rw [sK_S hx, if_pos ⟨h, Or.inl hb⟩]
theorem sK_mn (hx : x.toNatClampNeg = n) (h : sKc rt rb ri tk ts tb p k s m z x) (hb : ¬ sK rt rb ri tk ts tp tb p k s m z n = -1) (hz : ¬ z = 0) : sK rt rb ri tk ts tp tb p k s m z (n + 1) = if tp (rt x.toNatClampNeg).toNatClampNeg < sK rt rb ri tk ts tp tb p k s m z n then tp (rt x.toNatClampNeg).toNatClampNeg else sK rt rb ri tk ts tp tb p k s m z n := by
  rw [sK_S hx]
  by_cases q : tp (rt x.toNatClampNeg).toNatClampNeg < sK rt rb ri tk ts tp tb p k s m z n
  · rw [if_pos ⟨h, Or.inr (by rw [if_neg hz]; exact q)⟩, if_pos q]
  · rw [if_neg q, if_neg]
    rintro ⟨-, q2 | q2⟩
    · exact hb q2
    · rw [if_neg hz] at q2
      exact q q2
theorem sK_mx (hx : x.toNatClampNeg = n) (h : sKc rt rb ri tk ts tb p k s m z x) (hp : 0 ≤ (tp (rt x.toNatClampNeg).toNatClampNeg).toInt) (hz : z = 0) : sK rt rb ri tk ts tp tb p k s m z (n + 1) = if sK rt rb ri tk ts tp tb p k s m z n < tp (rt x.toNatClampNeg).toNatClampNeg then tp (rt x.toNatClampNeg).toNatClampNeg else sK rt rb ri tk ts tp tb p k s m z n := by
  rw [sK_S hx]
  by_cases q : sK rt rb ri tk ts tp tb p k s m z n < tp (rt x.toNatClampNeg).toNatClampNeg
  · rw [if_pos ⟨h, Or.inr (by rw [if_pos hz]; exact q)⟩, if_pos q]
  · rw [if_neg q, if_neg]
    rintro ⟨-, q2 | q2⟩
    · rw [q2] at q
      refine q (Int32.lt_iff_toInt_lt.mpr ?_)
      have : (-1 : Int32).toInt = -1 := by decide
      omega
    · rw [if_pos hz] at q2
      exact q q2
theorem sK_l1 (hx : x.toNatClampNeg = n) (h : sKc rt rb ri tk ts tb p k s m z x) (hz : ¬ z = 0) (hb : ¬ sK rt rb ri tk ts tp tb p k s m z n = -1) : ((tp (rt x.toNatClampNeg).toNatClampNeg).toInt < (sK rt rb ri tk ts tp tb p k s m z n).toInt → sK rt rb ri tk ts tp tb p k s m z (n + 1) = tp (rt x.toNatClampNeg).toNatClampNeg) ∧ ((sK rt rb ri tk ts tp tb p k s m z n).toInt ≤ (tp (rt x.toNatClampNeg).toNatClampNeg).toInt → sK rt rb ri tk ts tp tb p k s m z (n + 1) = sK rt rb ri tk ts tp tb p k s m z n) := by
  rw [sK_mn hx h hb hz]
  exact ⟨fun q => if_pos (Int32.lt_iff_toInt_lt.mpr q), fun q => if_neg (fun r => by have := Int32.lt_iff_toInt_lt.mp r; omega)⟩
theorem sK_l0 (hx : x.toNatClampNeg = n) (h : sKc rt rb ri tk ts tb p k s m z x) (hz : z = 0) (hb : ¬ sK rt rb ri tk ts tp tb p k s m z n = -1) : ((sK rt rb ri tk ts tp tb p k s m z n).toInt < (tp (rt x.toNatClampNeg).toNatClampNeg).toInt → sK rt rb ri tk ts tp tb p k s m z (n + 1) = tp (rt x.toNatClampNeg).toNatClampNeg) ∧ ((tp (rt x.toNatClampNeg).toNatClampNeg).toInt ≤ (sK rt rb ri tk ts tp tb p k s m z n).toInt → sK rt rb ri tk ts tp tb p k s m z (n + 1) = sK rt rb ri tk ts tp tb p k s m z n) := by
  rw [sK_S hx]
  refine ⟨fun q => if_pos ⟨h, Or.inr (by rw [if_pos hz]; exact Int32.lt_iff_toInt_lt.mpr q)⟩, fun q => if_neg ?_⟩
  rintro ⟨-, q2 | q2⟩
  · exact hb q2
  · rw [if_pos hz] at q2
    have := Int32.lt_iff_toInt_lt.mp q2
    omega
theorem sK_stop (hx : x.toNatClampNeg = n) (hn : n ≤ N) (hS : ∀ i j, i ≤ j → j < N → (ri i).toInt ≤ (ri j).toInt) (q : m.toInt < (ri x.toNatClampNeg).toInt) : sK rt rb ri tk ts tp tb p k s m z n = sK rt rb ri tk ts tp tb p k s m z N := by
  obtain ⟨d, rfl⟩ : ∃ d, N = n + d := ⟨N - n, by omega⟩
  induction d with
  | zero => rfl
  | succ d ih =>
    rw [ih (by omega) (fun i j a b => hS i j a (by omega))]
    show _ = sK rt rb ri tk ts tp tb p k s m z ((n + d) + 1)
    conv => rhs; unfold sK
    rw [if_neg]
    rintro ⟨⟨-, r, -⟩, -⟩
    have := hS n (n + d) (by omega) (by omega)
    rw [hx] at q
    omega
end SK
theorem zone {y : Int32} (h : 0 ≤ y.toInt ∧ y.toInt ≤ 1) (q : ¬ y = 0) : y = 1 := by
  refine Int32.toInt_inj.mp ?_
  have : y.toInt ≠ 0 := fun z => q (Int32.toInt_inj.mp z)
  have e : (1 : Int32).toInt = 1 := by decide
  omega
theorem f_isOf {G : zG} (hG : G.1 = zProg) {h : zH} {t k s : Int32} (hs : tSh h) : tC zTt G 105 [.ref 54, .int t, .int k, .int s] h (fun w h2 => tBo (tA h 55 t.toNatClampNeg = k ∧ tA h 56 t.toNatClampNeg = s) w ∧ h2 = h) := by
  refine tC_in (by rw [hG]; rfl) (fun dp => ?_)
  refine tw_aload rfl rfl ?_
  refine tw_getS rfl (hs_54_0 hs) ?_
  refine tw_iload rfl rfl ?_
  refine tw_iald rfl (fun f1372 => ?_)
  refine tw_iload rfl rfl ?_
  refine tw_ic_ne rfl (fun q1373 => ?_) (fun q1373 => ?_)
  · try dsimp only [tvI_i, tvJ_j, tvR_r] at q1373
    have q1373i := zneq rfl q1373
    refine tw_push rfl ?_
    exact tw_iret rfl ⟨Or.inr ⟨fun z => q1373 z.1, rfl⟩, rfl⟩
  · try dsimp only [tvI_i, tvJ_j, tvR_r] at q1373
    have q1373i := zeqi rfl q1373
    refine tw_aload rfl rfl ?_
    refine tw_getS rfl (hs_54_1 hs) ?_
    refine tw_iload rfl rfl ?_
    refine tw_iald rfl (fun f1374 => ?_)
    refine tw_iload rfl rfl ?_
    refine tw_ic_ne rfl (fun q1375 => ?_) (fun q1375 => ?_)
    · try dsimp only [tvI_i, tvJ_j, tvR_r] at q1375
      have q1375i := zneq rfl q1375
      refine tw_push rfl ?_
      exact tw_iret rfl ⟨Or.inr ⟨fun z => q1375 z.2, rfl⟩, rfl⟩
    · try dsimp only [tvI_i, tvJ_j, tvR_r] at q1375
      have q1375i := zeqi rfl q1375
      refine tw_push rfl ?_
      refine tw_goto rfl ?_
      exact tw_iret rfl ⟨Or.inl ⟨⟨q1373, q1375⟩, rfl⟩, rfl⟩
theorem f_leastBurned {G : zG} (hG : G.1 = zProg) {h : zH} {p k s m : Int32} (hs : tSh h) (h0 : 0 ≤ (tvI (tF h 54 9)).toInt) (hS : ∀ i j, i ≤ j → j < (tvI (tF h 54 9)).toNatClampNeg → (tA h 62 i).toInt ≤ (tA h 62 j).toInt) (hZ : ∀ x : Int32, (0 ≤ x.toInt ∧ x.toInt < (tvI (tF h 54 9)).toInt) → (0 ≤ (tA h 58 (tA h 60 x.toNatClampNeg).toNatClampNeg).toInt ∧ (tA h 58 (tA h 60 x.toNatClampNeg).toNatClampNeg).toInt ≤ 1) ∧ 0 ≤ (tA h 57 (tA h 60 x.toNatClampNeg).toNatClampNeg).toInt) : tC zTt G 106 [.ref 54, .int p, .int k, .int s, .int m] h (fun w h2 => w = some (.int (sK (tA h 60) (tA h 61) (tA h 62) (tA h 55) (tA h 56) (tA h 57) (tA h 58) p k s m 1 (tvI (tF h 54 9)).toNatClampNeg)) ∧ h2 = h) := by
  refine tC_in (by rw [hG]; rfl) (fun dp => ?_)
  refine tw_push rfl ?_
  refine tw_istore rfl ?_
  refine tw_push rfl ?_
  refine tw_istore rfl ?_
  refine tG_loop (zW_mono zTt G dp) (zW_conj zTt G dp) (V := fun pc L st h9 _ _ => pc = 6 ∧ st = [] ∧ h = h9 ∧ ∃ (n : Nat) (x y : Int32) (l7 : Option Value), x.toInt = n ∧ (n : Int) ≤ (tvI (tF h 54 9)).toInt ∧ y = sK (tA h 60) (tA h 61) (tA h 62) (tA h 55) (tA h 56) (tA h 57) (tA h 58) p k s m 1 n ∧ L = [some (.ref 54), some (.int p), some (.int k), some (.int s), some (.int m), some (.int y), some (.int x), l7]) ?_ (⟨rfl, rfl, rfl, 0, 0, _, none, rfl, h0, rfl, rfl⟩)
  rintro _ _ _ _ _ _ ⟨rfl, rfl, rfl, n, x, _, l7, hx, hn, rfl, rfl⟩
  refine tw_iload rfl rfl ?_
  refine tw_aload rfl rfl ?_
  refine tw_getS rfl (hi_54_9 hs) ?_
  refine tw_ic_ge rfl (fun q1376 => ?_) (fun q1376 => ?_)
  · try dsimp only [tvI_i, tvJ_j, tvR_r] at q1376
    refine tw_iload rfl rfl ?_
    have en := zen hx hn q1376
    subst en
    exact tw_iret rfl ⟨rfl, rfl⟩
  · try dsimp only [tvI_i, tvJ_j, tvR_r] at q1376
    refine tw_aload rfl rfl ?_
    refine tw_getS rfl (hs_54_8 hs) ?_
    refine tw_iload rfl rfl ?_
    refine tw_iald rfl (fun f1377 => ?_)
    refine tw_iload rfl rfl ?_
    refine tw_ic_gt rfl (fun q1378 => ?_) (fun q1378 => ?_)
    · try dsimp only [tvI_i, tvJ_j, tvR_r] at q1378
      refine tw_iload rfl rfl ?_
      exact tw_iret rfl ⟨congrArg (fun z => some (Value.int z)) (sK_stop (rt := tA _ 60) (rb := tA _ 61) (ri := tA _ 62) (tk := tA _ 55) (ts := tA _ 56) (tp := tA _ 57) (tb := tA _ 58) (p := p) (k := k) (s := s) (m := m) (z := 1) (x := x) (zof_cl hx) (by rw [zclE]; omega) hS (by omega)), rfl⟩
    · try dsimp only [tvI_i, tvJ_j, tvR_r] at q1378
      refine tw_aload rfl rfl ?_
      refine tw_getS rfl (hs_54_6 hs) ?_
      refine tw_iload rfl rfl ?_
      refine tw_iald rfl (fun f1379 => ?_)
      refine tw_istore rfl ?_
      refine tw_aload rfl rfl ?_
      refine tw_getS rfl (hs_54_7 hs) ?_
      refine tw_iload rfl rfl ?_
      refine tw_iald rfl (fun f1380 => ?_)
      refine tw_iload rfl rfl ?_
      refine tw_ic_ne rfl (fun q1381 => ?_) (fun q1381 => ?_)
      · try dsimp only [tvI_i, tvJ_j, tvR_r] at q1381
        have q1381i := zneq rfl q1381
        refine tw_iinc rfl rfl ?_
        refine tw_goto rfl ?_
        exact tG_cut (zW_mono zTt G dp) (Or.inr ⟨rfl, rfl, rfl, n + 1, _, _, _, zincL hx q1376, by omega, (sK_no (rt := tA _ 60) (rb := tA _ 61) (ri := tA _ 62) (tk := tA _ 55) (ts := tA _ 56) (tp := tA _ 57) (tb := tA _ 58) (p := p) (k := k) (s := s) (m := m) (z := 1) (x := x) (zof_cl hx) (fun z => q1381 z.1)).symm, rfl⟩)
      · try dsimp only [tvI_i, tvJ_j, tvR_r] at q1381
        have q1381i := zeqi rfl q1381
        refine tw_aload rfl rfl ?_
        refine tw_iload rfl rfl ?_
        refine tw_iload rfl rfl ?_
        refine tw_iload rfl rfl ?_
        refine tw_virt3 rfl (f_isOf hG hs) (fun w9 h9 p1382 => ?_)
        obtain ⟨⟨p1382, rfl⟩ | ⟨p1382, rfl⟩, rfl⟩ := p1382
        · try dsimp only [tvI_i, tvJ_j, tvR_r] at p1382
          refine tw_if_eq rfl (fun z => absurd z (by decide)) (fun _ => ?_)
          refine tw_aload rfl rfl ?_
          refine tw_getS rfl (hs_54_3 hs) ?_
          refine tw_iload rfl rfl ?_
          refine tw_bald rfl (fun f1383 => ?_)
          refine tw_if_eq rfl (fun q1384 => ?_) (fun q1384 => ?_)
          · try dsimp only [tvI_i, tvJ_j, tvR_r] at q1384
            have q1384i := zeqi (Y := 0) (by decide) q1384
            refine tw_iinc rfl rfl ?_
            refine tw_goto rfl ?_
            exact tG_cut (zW_mono zTt G dp) (Or.inr ⟨rfl, rfl, rfl, n + 1, _, _, _, zincL hx q1376, by omega, (sK_no (rt := tA _ 60) (rb := tA _ 61) (ri := tA _ 62) (tk := tA _ 55) (ts := tA _ 56) (tp := tA _ 57) (tb := tA _ 58) (p := p) (k := k) (s := s) (m := m) (z := 1) (x := x) (zof_cl hx) (fun z => absurd (z.2.2.2.2.symm.trans q1384) (by decide))).symm, rfl⟩)
          · try dsimp only [tvI_i, tvJ_j, tvR_r] at q1384
            have q1384i := zneq (Y := 0) (by decide) q1384
            refine tw_iload rfl rfl ?_
            refine tw_push rfl ?_
            refine tw_ic_ne rfl (fun q1385 => ?_) (fun q1385 => ?_)
            · try dsimp only [tvI_i, tvJ_j, tvR_r] at q1385
              have q1385i := zneq (Y := (-1)) (by decide) q1385
              refine tw_iload rfl rfl ?_
              refine tw_aload rfl rfl ?_
              refine tw_getS rfl (hs_54_2 hs) ?_
              refine tw_iload rfl rfl ?_
              refine tw_iald rfl (fun f1386 => ?_)
              refine tw_imin rfl ?_
              refine tw_istore rfl ?_
              refine tw_iinc rfl rfl ?_
              refine tw_goto rfl ?_
              exact tG_cut (zW_mono zTt G dp) (Or.inr ⟨rfl, rfl, rfl, n + 1, _, _, _, zincL hx q1376, by omega, (sK_mn (rt := tA _ 60) (rb := tA _ 61) (ri := tA _ 62) (tk := tA _ 55) (ts := tA _ 56) (tp := tA _ 57) (tb := tA _ 58) (p := p) (k := k) (s := s) (m := m) (z := 1) (x := x) (zof_cl hx) ⟨q1381, by omega, p1382.1, p1382.2, zone (hZ x (by omega)).1 q1384⟩ q1385 (by decide)).symm, rfl⟩)
            · try dsimp only [tvI_i, tvJ_j, tvR_r] at q1385
              have q1385i := zeqi (Y := (-1)) (by decide) q1385
              refine tw_aload rfl rfl ?_
              refine tw_getS rfl (hs_54_2 hs) ?_
              refine tw_iload rfl rfl ?_
              refine tw_iald rfl (fun f1387 => ?_)
              refine tw_goto rfl ?_
              refine tw_istore rfl ?_
              refine tw_iinc rfl rfl ?_
              refine tw_goto rfl ?_
              exact tG_cut (zW_mono zTt G dp) (Or.inr ⟨rfl, rfl, rfl, n + 1, _, _, _, zincL hx q1376, by omega, (sK_y0 (rt := tA _ 60) (rb := tA _ 61) (ri := tA _ 62) (tk := tA _ 55) (ts := tA _ 56) (tp := tA _ 57) (tb := tA _ 58) (p := p) (k := k) (s := s) (m := m) (z := 1) (x := x) (zof_cl hx) ⟨q1381, by omega, p1382.1, p1382.2, zone (hZ x (by omega)).1 q1384⟩ q1385).symm, rfl⟩)
        · try dsimp only [tvI_i, tvJ_j, tvR_r] at p1382
          refine tw_if_eq rfl (fun _ => ?_) (fun z => absurd z (by decide))
          refine tw_iinc rfl rfl ?_
          refine tw_goto rfl ?_
          exact tG_cut (zW_mono zTt G dp) (Or.inr ⟨rfl, rfl, rfl, n + 1, _, _, _, zincL hx q1376, by omega, (sK_no (rt := tA _ 60) (rb := tA _ 61) (ri := tA _ 62) (tk := tA _ 55) (ts := tA _ 56) (tp := tA _ 57) (tb := tA _ 58) (p := p) (k := k) (s := s) (m := m) (z := 1) (x := x) (zof_cl hx) (fun z => p1382 ⟨z.2.2.1, z.2.2.2.1⟩)).symm, rfl⟩)
theorem f_greatestUnburned {G : zG} (hG : G.1 = zProg) {h : zH} {p k s m : Int32} (hs : tSh h) (h0 : 0 ≤ (tvI (tF h 54 9)).toInt) (hS : ∀ i j, i ≤ j → j < (tvI (tF h 54 9)).toNatClampNeg → (tA h 62 i).toInt ≤ (tA h 62 j).toInt) (hZ : ∀ x : Int32, (0 ≤ x.toInt ∧ x.toInt < (tvI (tF h 54 9)).toInt) → (0 ≤ (tA h 58 (tA h 60 x.toNatClampNeg).toNatClampNeg).toInt ∧ (tA h 58 (tA h 60 x.toNatClampNeg).toNatClampNeg).toInt ≤ 1) ∧ 0 ≤ (tA h 57 (tA h 60 x.toNatClampNeg).toNatClampNeg).toInt) : tC zTt G 107 [.ref 54, .int p, .int k, .int s, .int m] h (fun w h2 => w = some (.int (sK (tA h 60) (tA h 61) (tA h 62) (tA h 55) (tA h 56) (tA h 57) (tA h 58) p k s m 0 (tvI (tF h 54 9)).toNatClampNeg)) ∧ h2 = h) := by
  refine tC_in (by rw [hG]; rfl) (fun dp => ?_)
  refine tw_push rfl ?_
  refine tw_istore rfl ?_
  refine tw_push rfl ?_
  refine tw_istore rfl ?_
  refine tG_loop (zW_mono zTt G dp) (zW_conj zTt G dp) (V := fun pc L st h9 _ _ => pc = 6 ∧ st = [] ∧ h = h9 ∧ ∃ (n : Nat) (x y : Int32) (l7 : Option Value), x.toInt = n ∧ (n : Int) ≤ (tvI (tF h 54 9)).toInt ∧ y = sK (tA h 60) (tA h 61) (tA h 62) (tA h 55) (tA h 56) (tA h 57) (tA h 58) p k s m 0 n ∧ L = [some (.ref 54), some (.int p), some (.int k), some (.int s), some (.int m), some (.int y), some (.int x), l7]) ?_ (⟨rfl, rfl, rfl, 0, 0, _, none, rfl, h0, rfl, rfl⟩)
  rintro _ _ _ _ _ _ ⟨rfl, rfl, rfl, n, x, _, l7, hx, hn, rfl, rfl⟩
  refine tw_iload rfl rfl ?_
  refine tw_aload rfl rfl ?_
  refine tw_getS rfl (hi_54_9 hs) ?_
  refine tw_ic_ge rfl (fun q1388 => ?_) (fun q1388 => ?_)
  · try dsimp only [tvI_i, tvJ_j, tvR_r] at q1388
    refine tw_iload rfl rfl ?_
    have en := zen hx hn q1388
    subst en
    exact tw_iret rfl ⟨rfl, rfl⟩
  · try dsimp only [tvI_i, tvJ_j, tvR_r] at q1388
    refine tw_aload rfl rfl ?_
    refine tw_getS rfl (hs_54_8 hs) ?_
    refine tw_iload rfl rfl ?_
    refine tw_iald rfl (fun f1389 => ?_)
    refine tw_iload rfl rfl ?_
    refine tw_ic_gt rfl (fun q1390 => ?_) (fun q1390 => ?_)
    · try dsimp only [tvI_i, tvJ_j, tvR_r] at q1390
      refine tw_iload rfl rfl ?_
      exact tw_iret rfl ⟨congrArg (fun z => some (Value.int z)) (sK_stop (rt := tA _ 60) (rb := tA _ 61) (ri := tA _ 62) (tk := tA _ 55) (ts := tA _ 56) (tp := tA _ 57) (tb := tA _ 58) (p := p) (k := k) (s := s) (m := m) (z := 0) (x := x) (zof_cl hx) (by rw [zclE]; omega) hS (by omega)), rfl⟩
    · try dsimp only [tvI_i, tvJ_j, tvR_r] at q1390
      refine tw_aload rfl rfl ?_
      refine tw_getS rfl (hs_54_6 hs) ?_
      refine tw_iload rfl rfl ?_
      refine tw_iald rfl (fun f1391 => ?_)
      refine tw_istore rfl ?_
      refine tw_aload rfl rfl ?_
      refine tw_getS rfl (hs_54_7 hs) ?_
      refine tw_iload rfl rfl ?_
      refine tw_iald rfl (fun f1392 => ?_)
      refine tw_iload rfl rfl ?_
      refine tw_ic_ne rfl (fun q1393 => ?_) (fun q1393 => ?_)
      · try dsimp only [tvI_i, tvJ_j, tvR_r] at q1393
        have q1393i := zneq rfl q1393
        refine tw_iinc rfl rfl ?_
        refine tw_goto rfl ?_
        exact tG_cut (zW_mono zTt G dp) (Or.inr ⟨rfl, rfl, rfl, n + 1, _, _, _, zincL hx q1388, by omega, (sK_no (rt := tA _ 60) (rb := tA _ 61) (ri := tA _ 62) (tk := tA _ 55) (ts := tA _ 56) (tp := tA _ 57) (tb := tA _ 58) (p := p) (k := k) (s := s) (m := m) (z := 0) (x := x) (zof_cl hx) (fun z => q1393 z.1)).symm, rfl⟩)
      · try dsimp only [tvI_i, tvJ_j, tvR_r] at q1393
        have q1393i := zeqi rfl q1393
        refine tw_aload rfl rfl ?_
        refine tw_iload rfl rfl ?_
        refine tw_iload rfl rfl ?_
        refine tw_iload rfl rfl ?_
        refine tw_virt3 rfl (f_isOf hG hs) (fun w9 h9 p1394 => ?_)
        obtain ⟨⟨p1394, rfl⟩ | ⟨p1394, rfl⟩, rfl⟩ := p1394
        · try dsimp only [tvI_i, tvJ_j, tvR_r] at p1394
          refine tw_if_eq rfl (fun z => absurd z (by decide)) (fun _ => ?_)
          refine tw_aload rfl rfl ?_
          refine tw_getS rfl (hs_54_3 hs) ?_
          refine tw_iload rfl rfl ?_
          refine tw_bald rfl (fun f1395 => ?_)
          refine tw_if_ne rfl (fun q1396 => ?_) (fun q1396 => ?_)
          · try dsimp only [tvI_i, tvJ_j, tvR_r] at q1396
            have q1396i := zneq (Y := 0) (by decide) q1396
            refine tw_iinc rfl rfl ?_
            refine tw_goto rfl ?_
            exact tG_cut (zW_mono zTt G dp) (Or.inr ⟨rfl, rfl, rfl, n + 1, _, _, _, zincL hx q1388, by omega, (sK_no (rt := tA _ 60) (rb := tA _ 61) (ri := tA _ 62) (tk := tA _ 55) (ts := tA _ 56) (tp := tA _ 57) (tb := tA _ 58) (p := p) (k := k) (s := s) (m := m) (z := 0) (x := x) (zof_cl hx) (fun z => q1396 z.2.2.2.2)).symm, rfl⟩)
          · try dsimp only [tvI_i, tvJ_j, tvR_r] at q1396
            have q1396i := zeqi (Y := 0) (by decide) q1396
            refine tw_iload rfl rfl ?_
            refine tw_aload rfl rfl ?_
            refine tw_getS rfl (hs_54_2 hs) ?_
            refine tw_iload rfl rfl ?_
            refine tw_iald rfl (fun f1397 => ?_)
            refine tw_imax rfl ?_
            refine tw_istore rfl ?_
            refine tw_iinc rfl rfl ?_
            refine tw_goto rfl ?_
            exact tG_cut (zW_mono zTt G dp) (Or.inr ⟨rfl, rfl, rfl, n + 1, _, _, _, zincL hx q1388, by omega, (sK_mx (rt := tA _ 60) (rb := tA _ 61) (ri := tA _ 62) (tk := tA _ 55) (ts := tA _ 56) (tp := tA _ 57) (tb := tA _ 58) (p := p) (k := k) (s := s) (m := m) (z := 0) (x := x) (zof_cl hx) ⟨q1393, by omega, p1394.1, p1394.2, q1396⟩ (hZ x (by omega)).2 rfl).symm, rfl⟩)
        · try dsimp only [tvI_i, tvJ_j, tvR_r] at p1394
          refine tw_if_eq rfl (fun _ => ?_) (fun z => absurd z (by decide))
          refine tw_iinc rfl rfl ?_
          refine tw_goto rfl ?_
          exact tG_cut (zW_mono zTt G dp) (Or.inr ⟨rfl, rfl, rfl, n + 1, _, _, _, zincL hx q1388, by omega, (sK_no (rt := tA _ 60) (rb := tA _ 61) (ri := tA _ 62) (tk := tA _ 55) (ts := tA _ 56) (tp := tA _ 57) (tb := tA _ 58) (p := p) (k := k) (s := s) (m := m) (z := 0) (x := x) (zof_cl hx) (fun z => p1394 ⟨z.2.2.1, z.2.2.2.1⟩)).symm, rfl⟩)
theorem g_knewOf {G : zG} (hG : G.1 = zProg) {h : zH} {p k s m z : Int32} (hs : tSh h) (h0 : 0 ≤ (tvI (tF h 111 51)).toInt) : tC zTt G 240 [.ref 111, .int p, .int k, .int s, .int m, .int z] h (fun w h2 => w = some (.int (sK (tA h 148) (tA h 149) (tA h 150) (tA h 145) (tA h 146) (tA h 147) (tA h 151) p k s m z (tvI (tF h 111 51)).toNatClampNeg)) ∧ h2 = h) := by
  refine tC_in (by rw [hG]; rfl) (fun dp => ?_)
  refine tw_push rfl ?_
  refine tw_istore rfl ?_
  refine tw_push rfl ?_
  refine tw_istore rfl ?_
  refine tG_loop (zW_mono zTt G dp) (zW_conj zTt G dp) (V := fun pc L st h9 _ _ => pc = 6 ∧ st = [] ∧ h = h9 ∧ ∃ (n : Nat) (x y : Int32) (l8 l9 : Option Value), x.toInt = n ∧ (n : Int) ≤ (tvI (tF h 111 51)).toInt ∧ y = sK (tA h 148) (tA h 149) (tA h 150) (tA h 145) (tA h 146) (tA h 147) (tA h 151) p k s m z n ∧ L = [some (.ref 111), some (.int p), some (.int k), some (.int s), some (.int m), some (.int z), some (.int y), some (.int x), l8, l9]) ?_ (⟨rfl, rfl, rfl, 0, 0, _, none, none, rfl, h0, rfl, rfl⟩)
  rintro _ _ _ _ _ _ ⟨rfl, rfl, rfl, n, x, _, l8, l9, hx, hn, rfl, rfl⟩
  refine tw_iload rfl rfl ?_
  refine tw_aload rfl rfl ?_
  refine tw_getS rfl (hi_111_51 hs) ?_
  refine tw_ic_ge rfl (fun q1398 => ?_) (fun q1398 => ?_)
  · try dsimp only [tvI_i, tvJ_j, tvR_r] at q1398
    refine tw_iload rfl rfl ?_
    have en := zen hx hn q1398
    subst en
    exact tw_iret rfl ⟨rfl, rfl⟩
  · try dsimp only [tvI_i, tvJ_j, tvR_r] at q1398
    refine tw_aload rfl rfl ?_
    refine tw_getS rfl (hs_111_55 hs) ?_
    refine tw_iload rfl rfl ?_
    refine tw_iald rfl (fun f1399 => ?_)
    refine tw_istore rfl ?_
    refine tw_aload rfl rfl ?_
    refine tw_getS rfl (hs_111_56 hs) ?_
    refine tw_iload rfl rfl ?_
    refine tw_iald rfl (fun f1400 => ?_)
    refine tw_iload rfl rfl ?_
    refine tw_ic_ne rfl (fun q1401 => ?_) (fun q1401 => ?_)
    · try dsimp only [tvI_i, tvJ_j, tvR_r] at q1401
      have q1401i := zneq rfl q1401
      refine tw_push rfl ?_
      refine tw_istore rfl ?_
      refine tw_iload rfl rfl ?_
      refine tw_if_eq rfl (fun _ => ?_) (fun z => absurd z (by decide))
      refine tw_iload rfl rfl ?_
      refine tw_istore rfl ?_
      refine tw_iinc rfl rfl ?_
      refine tw_goto rfl ?_
      exact tG_cut (zW_mono zTt G dp) (Or.inr ⟨rfl, rfl, rfl, n + 1, _, _, _, _, zincL hx q1398, by omega, (sK_no (rt := tA _ 148) (rb := tA _ 149) (ri := tA _ 150) (tk := tA _ 145) (ts := tA _ 146) (tp := tA _ 147) (tb := tA _ 151) (p := p) (k := k) (s := s) (m := m) (z := z) (x := x) (zof_cl hx) (fun z => q1401 z.1)).symm, rfl⟩)
    · try dsimp only [tvI_i, tvJ_j, tvR_r] at q1401
      have q1401i := zeqi rfl q1401
      refine tw_aload rfl rfl ?_
      refine tw_getS rfl (hs_111_57 hs) ?_
      refine tw_iload rfl rfl ?_
      refine tw_iald rfl (fun f1402 => ?_)
      refine tw_iload rfl rfl ?_
      refine tw_ic_gt rfl (fun q1403 => ?_) (fun q1403 => ?_)
      · try dsimp only [tvI_i, tvJ_j, tvR_r] at q1403
        refine tw_push rfl ?_
        refine tw_istore rfl ?_
        refine tw_iload rfl rfl ?_
        refine tw_if_eq rfl (fun _ => ?_) (fun z => absurd z (by decide))
        refine tw_iload rfl rfl ?_
        refine tw_istore rfl ?_
        refine tw_iinc rfl rfl ?_
        refine tw_goto rfl ?_
        exact tG_cut (zW_mono zTt G dp) (Or.inr ⟨rfl, rfl, rfl, n + 1, _, _, _, _, zincL hx q1398, by omega, (sK_no (rt := tA _ 148) (rb := tA _ 149) (ri := tA _ 150) (tk := tA _ 145) (ts := tA _ 146) (tp := tA _ 147) (tb := tA _ 151) (p := p) (k := k) (s := s) (m := m) (z := z) (x := x) (zof_cl hx) (fun z => absurd z.2.1 (by omega))).symm, rfl⟩)
      · try dsimp only [tvI_i, tvJ_j, tvR_r] at q1403
        refine tw_aload rfl rfl ?_
        refine tw_getS rfl (hs_111_52 hs) ?_
        refine tw_iload rfl rfl ?_
        refine tw_iald rfl (fun f1404 => ?_)
        refine tw_iload rfl rfl ?_
        refine tw_ic_ne rfl (fun q1405 => ?_) (fun q1405 => ?_)
        · try dsimp only [tvI_i, tvJ_j, tvR_r] at q1405
          have q1405i := zneq rfl q1405
          refine tw_push rfl ?_
          refine tw_istore rfl ?_
          refine tw_iload rfl rfl ?_
          refine tw_if_eq rfl (fun _ => ?_) (fun z => absurd z (by decide))
          refine tw_iload rfl rfl ?_
          refine tw_istore rfl ?_
          refine tw_iinc rfl rfl ?_
          refine tw_goto rfl ?_
          exact tG_cut (zW_mono zTt G dp) (Or.inr ⟨rfl, rfl, rfl, n + 1, _, _, _, _, zincL hx q1398, by omega, (sK_no (rt := tA _ 148) (rb := tA _ 149) (ri := tA _ 150) (tk := tA _ 145) (ts := tA _ 146) (tp := tA _ 147) (tb := tA _ 151) (p := p) (k := k) (s := s) (m := m) (z := z) (x := x) (zof_cl hx) (fun z => q1405 z.2.2.1)).symm, rfl⟩)
        · try dsimp only [tvI_i, tvJ_j, tvR_r] at q1405
          have q1405i := zeqi rfl q1405
          refine tw_aload rfl rfl ?_
          refine tw_getS rfl (hs_111_53 hs) ?_
          refine tw_iload rfl rfl ?_
          refine tw_iald rfl (fun f1406 => ?_)
          refine tw_iload rfl rfl ?_
          refine tw_ic_ne rfl (fun q1407 => ?_) (fun q1407 => ?_)
          · try dsimp only [tvI_i, tvJ_j, tvR_r] at q1407
            have q1407i := zneq rfl q1407
            refine tw_push rfl ?_
            refine tw_istore rfl ?_
            refine tw_iload rfl rfl ?_
            refine tw_if_eq rfl (fun _ => ?_) (fun z => absurd z (by decide))
            refine tw_iload rfl rfl ?_
            refine tw_istore rfl ?_
            refine tw_iinc rfl rfl ?_
            refine tw_goto rfl ?_
            exact tG_cut (zW_mono zTt G dp) (Or.inr ⟨rfl, rfl, rfl, n + 1, _, _, _, _, zincL hx q1398, by omega, (sK_no (rt := tA _ 148) (rb := tA _ 149) (ri := tA _ 150) (tk := tA _ 145) (ts := tA _ 146) (tp := tA _ 147) (tb := tA _ 151) (p := p) (k := k) (s := s) (m := m) (z := z) (x := x) (zof_cl hx) (fun z => q1407 z.2.2.2.1)).symm, rfl⟩)
          · try dsimp only [tvI_i, tvJ_j, tvR_r] at q1407
            have q1407i := zeqi rfl q1407
            refine tw_aload rfl rfl ?_
            refine tw_getS rfl (hs_111_58 hs) ?_
            refine tw_iload rfl rfl ?_
            refine tw_bald rfl (fun f1408 => ?_)
            refine tw_iload rfl rfl ?_
            refine tw_ic_ne rfl (fun q1409 => ?_) (fun q1409 => ?_)
            · try dsimp only [tvI_i, tvJ_j, tvR_r] at q1409
              have q1409i := zneq rfl q1409
              refine tw_push rfl ?_
              refine tw_istore rfl ?_
              refine tw_iload rfl rfl ?_
              refine tw_if_eq rfl (fun _ => ?_) (fun z => absurd z (by decide))
              refine tw_iload rfl rfl ?_
              refine tw_istore rfl ?_
              refine tw_iinc rfl rfl ?_
              refine tw_goto rfl ?_
              exact tG_cut (zW_mono zTt G dp) (Or.inr ⟨rfl, rfl, rfl, n + 1, _, _, _, _, zincL hx q1398, by omega, (sK_no (rt := tA _ 148) (rb := tA _ 149) (ri := tA _ 150) (tk := tA _ 145) (ts := tA _ 146) (tp := tA _ 147) (tb := tA _ 151) (p := p) (k := k) (s := s) (m := m) (z := z) (x := x) (zof_cl hx) (fun z => q1409 z.2.2.2.2)).symm, rfl⟩)
            · try dsimp only [tvI_i, tvJ_j, tvR_r] at q1409
              have q1409i := zeqi rfl q1409
              refine tw_push rfl ?_
              refine tw_goto rfl ?_
              refine tw_istore rfl ?_
              refine tw_iload rfl rfl ?_
              refine tw_if_eq rfl (fun z => absurd z (by decide)) (fun _ => ?_)
              refine tw_iload rfl rfl ?_
              refine tw_push rfl ?_
              refine tw_ic_eq rfl (fun q1410 => ?_) (fun q1410 => ?_)
              · try dsimp only [tvI_i, tvJ_j, tvR_r] at q1410
                have q1410i := zeqi (Y := (-1)) (by decide) q1410
                refine tw_aload rfl rfl ?_
                refine tw_getS rfl (hs_111_54 hs) ?_
                refine tw_iload rfl rfl ?_
                refine tw_iald rfl (fun f1411 => ?_)
                refine tw_goto rfl ?_
                refine tw_istore rfl ?_
                refine tw_iinc rfl rfl ?_
                refine tw_goto rfl ?_
                exact tG_cut (zW_mono zTt G dp) (Or.inr ⟨rfl, rfl, rfl, n + 1, _, _, _, _, zincL hx q1398, by omega, (sK_y0 (rt := tA _ 148) (rb := tA _ 149) (ri := tA _ 150) (tk := tA _ 145) (ts := tA _ 146) (tp := tA _ 147) (tb := tA _ 151) (p := p) (k := k) (s := s) (m := m) (z := z) (x := x) (zof_cl hx) ⟨q1401, by omega, q1405, q1407, q1409⟩ q1410).symm, rfl⟩)
              · try dsimp only [tvI_i, tvJ_j, tvR_r] at q1410
                have q1410i := zneq (Y := (-1)) (by decide) q1410
                refine tw_iload rfl rfl ?_
                refine tw_if_eq rfl (fun q1412 => ?_) (fun q1412 => ?_)
                · try dsimp only [tvI_i, tvJ_j, tvR_r] at q1412
                  have q1412i := zeqi (Y := 0) (by decide) q1412
                  refine tw_aload rfl rfl ?_
                  refine tw_getS rfl (hs_111_54 hs) ?_
                  refine tw_iload rfl rfl ?_
                  refine tw_iald rfl (fun f1413 => ?_)
                  refine tw_iload rfl rfl ?_
                  refine tw_ic_le rfl (fun q1414 => ?_) (fun q1414 => ?_)
                  · try dsimp only [tvI_i, tvJ_j, tvR_r] at q1414
                    refine tw_iload rfl rfl ?_
                    refine tw_istore rfl ?_
                    refine tw_iinc rfl rfl ?_
                    refine tw_goto rfl ?_
                    exact tG_cut (zW_mono zTt G dp) (Or.inr ⟨rfl, rfl, rfl, n + 1, _, _, _, _, zincL hx q1398, by omega, ((sK_l0 (rt := tA _ 148) (rb := tA _ 149) (ri := tA _ 150) (tk := tA _ 145) (ts := tA _ 146) (tp := tA _ 147) (tb := tA _ 151) (p := p) (k := k) (s := s) (m := m) (z := z) (x := x) (zof_cl hx) ⟨q1401, by omega, q1405, q1407, q1409⟩ q1412 q1410).2 (by omega)).symm, rfl⟩)
                  · try dsimp only [tvI_i, tvJ_j, tvR_r] at q1414
                    refine tw_aload rfl rfl ?_
                    refine tw_getS rfl (hs_111_54 hs) ?_
                    refine tw_iload rfl rfl ?_
                    refine tw_iald rfl (fun f1415 => ?_)
                    refine tw_goto rfl ?_
                    refine tw_istore rfl ?_
                    refine tw_iinc rfl rfl ?_
                    refine tw_goto rfl ?_
                    exact tG_cut (zW_mono zTt G dp) (Or.inr ⟨rfl, rfl, rfl, n + 1, _, _, _, _, zincL hx q1398, by omega, ((sK_l0 (rt := tA _ 148) (rb := tA _ 149) (ri := tA _ 150) (tk := tA _ 145) (ts := tA _ 146) (tp := tA _ 147) (tb := tA _ 151) (p := p) (k := k) (s := s) (m := m) (z := z) (x := x) (zof_cl hx) ⟨q1401, by omega, q1405, q1407, q1409⟩ q1412 q1410).1 (by omega)).symm, rfl⟩)
                · try dsimp only [tvI_i, tvJ_j, tvR_r] at q1412
                  have q1412i := zneq (Y := 0) (by decide) q1412
                  refine tw_aload rfl rfl ?_
                  refine tw_getS rfl (hs_111_54 hs) ?_
                  refine tw_iload rfl rfl ?_
                  refine tw_iald rfl (fun f1416 => ?_)
                  refine tw_iload rfl rfl ?_
                  refine tw_ic_ge rfl (fun q1417 => ?_) (fun q1417 => ?_)
                  · try dsimp only [tvI_i, tvJ_j, tvR_r] at q1417
                    refine tw_iload rfl rfl ?_
                    refine tw_istore rfl ?_
                    refine tw_iinc rfl rfl ?_
                    refine tw_goto rfl ?_
                    exact tG_cut (zW_mono zTt G dp) (Or.inr ⟨rfl, rfl, rfl, n + 1, _, _, _, _, zincL hx q1398, by omega, ((sK_l1 (rt := tA _ 148) (rb := tA _ 149) (ri := tA _ 150) (tk := tA _ 145) (ts := tA _ 146) (tp := tA _ 147) (tb := tA _ 151) (p := p) (k := k) (s := s) (m := m) (z := z) (x := x) (zof_cl hx) ⟨q1401, by omega, q1405, q1407, q1409⟩ q1412 q1410).2 (by omega)).symm, rfl⟩)
                  · try dsimp only [tvI_i, tvJ_j, tvR_r] at q1417
                    refine tw_goto rfl ?_
                    refine tw_aload rfl rfl ?_
                    refine tw_getS rfl (hs_111_54 hs) ?_
                    refine tw_iload rfl rfl ?_
                    refine tw_iald rfl (fun f1418 => ?_)
                    refine tw_goto rfl ?_
                    refine tw_istore rfl ?_
                    refine tw_iinc rfl rfl ?_
                    refine tw_goto rfl ?_
                    exact tG_cut (zW_mono zTt G dp) (Or.inr ⟨rfl, rfl, rfl, n + 1, _, _, _, _, zincL hx q1398, by omega, ((sK_l1 (rt := tA _ 148) (rb := tA _ 149) (ri := tA _ 150) (tk := tA _ 145) (ts := tA _ 146) (tp := tA _ 147) (tb := tA _ 151) (p := p) (k := k) (s := s) (m := m) (z := z) (x := x) (zof_cl hx) ⟨q1401, by omega, q1405, q1407, q1409⟩ q1412 q1410).1 (by omega)).symm, rfl⟩)
/-! the least by months -/
noncomputable def mn2 (x y : Int) : Int := if x < y then x else y
noncomputable def mnC (P : Nat → Bool) (tl sp : Nat → Int) : Nat → Nat → Int
  | 0, _ => 201
  | n + 1, t => if P n = true ∧ tl n = (t : Int) then mn2 (sp n) (mnC P tl sp n t) else mnC P tl sp n t
noncomputable def mnB (P : Nat → Bool) (tl sp : Nat → Int) : Nat → Int → Int
  | 0, _ => 201
  | n + 1, t => if P n = true ∧ tl n ≤ t then mn2 (sp n) (mnB P tl sp n t) else mnB P tl sp n t
noncomputable def pM (f : Nat → Int) : Nat → Int
  | 0 => f 0
  | t + 1 => mn2 (pM f t) (f (t + 1))
section MNL
variable {P : Nat → Bool} {tl sp : Nat → Int} {n t : Nat} {f : Nat → Int} {c x : Int}
theorem mnC_y (h : P n = true) (h2 : tl n = (t : Int)) : mnC P tl sp (n + 1) t = mn2 (sp n) (mnC P tl sp n t) := if_pos ⟨h, h2⟩
theorem mnC_n (h : ¬ (P n = true ∧ tl n = (t : Int))) : mnC P tl sp (n + 1) t = mnC P tl sp n t := if_neg h
theorem pM_c (m : Nat) : pM (fun _ => 201) m = 201 := by
  induction m with
  | zero => rfl
  | succ m ih =>
    show mn2 (pM (fun _ => 201) m) 201 = 201
    rw [ih]
    rfl
theorem pM_ite (hc : 0 ≤ c) (m : Nat) : pM (fun t => if c = (t : Int) then mn2 x (f t) else f t) m = if c ≤ (m : Int) then mn2 x (pM f m) else pM f m := by
  induction m with
  | zero =>
    show (if c = ((0 : Nat) : Int) then mn2 x (f 0) else f 0) = if c ≤ ((0 : Nat) : Int) then mn2 x (f 0) else f 0
    by_cases h : c = ((0 : Nat) : Int)
    · rw [if_pos h, if_pos (by omega)]
    · rw [if_neg h, if_neg (by omega)]
  | succ m ih =>
    show mn2 (pM (fun t => if c = (t : Int) then mn2 x (f t) else f t) m) (if c = ((m + 1 : Nat) : Int) then mn2 x (f (m + 1)) else f (m + 1)) = if c ≤ ((m + 1 : Nat) : Int) then mn2 x (mn2 (pM f m) (f (m + 1))) else mn2 (pM f m) (f (m + 1))
    rw [ih]
    by_cases h : c ≤ (m : Int)
    · rw [if_pos h, if_neg (by omega), if_pos (by omega)]
      unfold mn2
      repeat' split
      all_goals omega
    · rw [if_neg h]
      by_cases h2 : c = ((m + 1 : Nat) : Int)
      · rw [if_pos h2, if_pos (by omega)]
        unfold mn2
        repeat' split
        all_goals omega
      · rw [if_neg h2, if_neg (by omega)]
theorem pM_mnC (h : ∀ i, i < n → 0 ≤ tl i) (m : Nat) : pM (mnC P tl sp n) m = mnB P tl sp n (m : Int) := by
  induction n with
  | zero => exact pM_c m
  | succ n ih =>
    have ih := ih (fun i hi => h i (by omega))
    by_cases hP : P n = true
    · have e : mnC P tl sp (n + 1) = fun (t : Nat) => if tl n = (t : Int) then mn2 (sp n) (mnC P tl sp n t) else mnC P tl sp n t := by
        funext t
        by_cases z : tl n = (t : Int)
        · rw [mnC_y hP z, if_pos z]
        · rw [mnC_n (fun y => z y.2), if_neg z]
      rw [e, pM_ite (h n (by omega)), ih]
      show _ = if P n = true ∧ tl n ≤ (m : Int) then mn2 (sp n) (mnB P tl sp n m) else mnB P tl sp n m
      by_cases z : tl n ≤ (m : Int)
      · rw [if_pos z, if_pos ⟨hP, z⟩]
      · rw [if_neg z, if_neg (fun y => z y.2)]
    · have e : mnC P tl sp (n + 1) = mnC P tl sp n := by
        funext t
        exact mnC_n (fun y => hP y.1)
      rw [e, ih]
      exact (if_neg (fun y => hP y.1)).symm
theorem mnB_b (h : ∀ i, i < n → 0 ≤ sp i ∧ sp i ≤ 200) (m : Int) : 0 ≤ mnB P tl sp n m ∧ mnB P tl sp n m ≤ 201 := by
  induction n with
  | zero => exact ⟨show (0 : Int) ≤ 201 by decide, show (201 : Int) ≤ 201 by decide⟩
  | succ n ih =>
    have ih := ih (fun i hi => h i (by omega))
    have z := h n (by omega)
    show 0 ≤ (if P n = true ∧ tl n ≤ m then mn2 (sp n) (mnB P tl sp n m) else mnB P tl sp n m) ∧ (if P n = true ∧ tl n ≤ m then mn2 (sp n) (mnB P tl sp n m) else mnB P tl sp n m) ≤ 201
    unfold mn2
    repeat' split
    all_goals omega
end MNL
theorem mn2_i {x y : Int32} : (if x < y then x else y).toInt = mn2 x.toInt y.toInt := by
  unfold mn2
  by_cases h : x < y
  · rw [if_pos h, if_pos (Int32.lt_iff_toInt_lt.mp h)]
  · rw [if_neg h, if_neg (fun z => h (Int32.lt_iff_toInt_lt.mpr z))]
/-- what the reference's fold finds is the least by the month -/
theorem sK_mnB {rt rb ri tk ts tp tb : Nat → Int32} {p k s m : Int32} {P : Nat → Bool} {tl sp : Nat → Int} {n : Nat} (hP : ∀ i, i < n → (P i = true ↔ rb i = p ∧ tk (rt i).toNatClampNeg = k ∧ ts (rt i).toNatClampNeg = s ∧ tb (rt i).toNatClampNeg = 1)) (ht : ∀ i, i < n → tl i = (ri i).toInt) (hs : ∀ i, i < n → sp i = (tp (rt i).toNatClampNeg).toInt ∧ 0 ≤ sp i ∧ sp i ≤ 200) : (sK rt rb ri tk ts tp tb p k s m 1 n = -1 ∧ mnB P tl sp n m.toInt = 201) ∨ (0 ≤ (sK rt rb ri tk ts tp tb p k s m 1 n).toInt ∧ (sK rt rb ri tk ts tp tb p k s m 1 n).toInt ≤ 200 ∧ mnB P tl sp n m.toInt = (sK rt rb ri tk ts tp tb p k s m 1 n).toInt) := by
  have em : (-1 : Int32).toInt = -1 := rfl
  induction n with
  | zero => exact Or.inl ⟨rfl, rfl⟩
  | succ n ih =>
    have ih := ih (fun i hi => hP i (by omega)) (fun i hi => ht i (by omega)) (fun i hi => hs i (by omega))
    have hP := hP n (by omega)
    have ht := ht n (by omega)
    have hs := hs n (by omega)
    have e : sK rt rb ri tk ts tp tb p k s m 1 (n + 1) = if (rb n = p ∧ (ri n).toInt ≤ m.toInt ∧ tk (rt n).toNatClampNeg = k ∧ ts (rt n).toNatClampNeg = s ∧ tb (rt n).toNatClampNeg = 1) ∧ (sK rt rb ri tk ts tp tb p k s m 1 n = -1 ∨ tp (rt n).toNatClampNeg < sK rt rb ri tk ts tp tb p k s m 1 n) then tp (rt n).toNatClampNeg else sK rt rb ri tk ts tp tb p k s m 1 n := by
      have h10 : ¬ ((1 : Int32) = 0) := by decide
      show ite _ _ _ = _
      by_cases z : (rb n = p ∧ (ri n).toInt ≤ m.toInt ∧ tk (rt n).toNatClampNeg = k ∧ ts (rt n).toNatClampNeg = s ∧ tb (rt n).toNatClampNeg = 1) ∧ (sK rt rb ri tk ts tp tb p k s m 1 n = -1 ∨ tp (rt n).toNatClampNeg < sK rt rb ri tk ts tp tb p k s m 1 n)
      · rw [if_pos z]
        exact if_pos ⟨z.1, z.2.imp id (fun w => Eq.mpr (if_neg h10) w)⟩
      · rw [if_neg z]
        exact if_neg (fun y => z ⟨y.1, y.2.imp id (fun w => Eq.mp (if_neg h10) w)⟩)
    have e2 : mnB P tl sp (n + 1) m.toInt = if P n = true ∧ tl n ≤ m.toInt then mn2 (sp n) (mnB P tl sp n m.toInt) else mnB P tl sp n m.toInt := rfl
    rw [e, e2]
    by_cases z : P n = true ∧ tl n ≤ m.toInt
    · have z1 := hP.mp z.1
      have c : rb n = p ∧ (ri n).toInt ≤ m.toInt ∧ tk (rt n).toNatClampNeg = k ∧ ts (rt n).toNatClampNeg = s ∧ tb (rt n).toNatClampNeg = 1 := ⟨z1.1, by rw [← ht]; exact z.2, z1.2⟩
      rw [if_pos z]
      rcases ih with ⟨i1, i2⟩ | ⟨i1, i2, i3⟩
      · rw [if_pos ⟨c, Or.inl i1⟩, i2]
        right
        unfold mn2
        rw [if_pos (by omega)]
        omega
      · have hne : ¬ sK rt rb ri tk ts tp tb p k s m 1 n = -1 := fun y => by rw [y] at i1; omega
        right
        rw [i3]
        unfold mn2
        by_cases y : tp (rt n).toNatClampNeg < sK rt rb ri tk ts tp tb p k s m 1 n
        · have y2 := Int32.lt_iff_toInt_lt.mp y
          rw [if_pos ⟨c, Or.inr y⟩, if_pos (by omega)]
          omega
        · have y2 : ¬ (tp (rt n).toNatClampNeg).toInt < (sK rt rb ri tk ts tp tb p k s m 1 n).toInt := fun w => y (Int32.lt_iff_toInt_lt.mpr w)
          rw [if_neg (fun w => w.2.elim hne y), if_neg (by omega)]
          omega
    · rw [if_neg z, if_neg (fun w => z ⟨hP.mpr ⟨w.1.1, w.1.2.2⟩, by rw [ht]; exact w.1.2.1⟩)]
      exact ih
theorem zor0 (y : Int64) : (0 : Int64) ||| y = y := by
  rw [← Int64.toBitVec_inj]
  show (0#64 ||| y.toBitVec) = y.toBitVec
  simp
theorem tB_one {p q : Int32} (hp : 0 ≤ p.toInt ∧ p.toInt < 64) (hq : 0 ≤ q.toInt ∧ q.toInt < 64) : tB ((1 : Int64) <<< (p.toInt64 &&& 63)) q ↔ q = p := by
  have z := tB_or (x := 0) (p := q) (q := p) hq hp
  rw [zor0] at z
  rw [z]
  exact ⟨fun y => y.resolve_left (tB_0 hq), Or.inr⟩
/-- which readings tell: of the readers' tests, of this kind and sort, that burned -/
noncomputable abbrev rdP (h : zH) (P : Int64) (k s : Int32) (i : Nat) : Bool := decide (((P >>> ((tA h 61 i).toInt64 &&& 63)) &&& 1 = 1) ∧ (tA h 55 (tA h 60 i).toNatClampNeg = k ∧ tA h 56 (tA h 60 i).toNatClampNeg = s) ∧ ¬ tA h 58 (tA h 60 i).toNatClampNeg = 0)
noncomputable def rdT (h : zH) (i : Nat) : Int := (tA h 62 i).toInt
noncomputable def rdS (h : zH) (i : Nat) : Int := (tA h 57 (tA h 60 i).toNatClampNeg).toInt
/-- what MUST is of a month, in words that the class counted -/
noncomputable def MUc (h : zH) (k : Int32) (e7 e8 e9 : Nat → Int) (K : Int32 → Nat) (cs : Int32 → List Nat) (cl : Int32 → Nat → rCt) (th : Nat) (j : Nat) (r : Int32) : Prop := ∃ W, qS W (Int32.ofNat j).toInt64 k.toInt64 (tA h 3 k.toNatClampNeg).toInt64 (Int32.ofNat j).toInt64 (e7 j) (e8 j) (e9 j) ∧ muO W (cs (Int32.ofNat j)) (cl (Int32.ofNat j)) (K (Int32.ofNat j)) th r
/-- the first month, up to one, in which something is so; or -1 -/
noncomputable def fMo (yes no : Nat → Prop) (now : Int) (w : Option Value) : Prop := (w = some (.int (-1)) ∧ ∀ j : Nat, (j : Int) ≤ now → no j) ∨ ∃ j : Nat, (j : Int) ≤ now ∧ yes j ∧ (∀ i, i < j → no i) ∧ w = some (.int (Int32.ofNat j))
theorem fMo_u {y1 n1 y2 n2 : Nat → Prop} {now : Int} {w w2 : Option Value} (h1 : fMo y1 n1 now w) (h2 : fMo y2 n2 now w2) (a : ∀ j : Nat, (j : Int) ≤ now → y1 j → n2 j → False) (b : ∀ j : Nat, (j : Int) ≤ now → y2 j → n1 j → False) : w2 = w := by
  rcases h1 with ⟨rfl, h1⟩ | ⟨j, h1, h3, h4, rfl⟩ <;> rcases h2 with ⟨rfl, h2⟩ | ⟨i, h2, h5, h6, rfl⟩
  · rfl
  · exact (b i h2 h5 (h1 i h2)).elim
  · exact (a j h1 h3 (h2 j h1)).elim
  · have e : i = j := by
      rcases Nat.lt_trichotomy i j with z | z | z
      · exact (b i h2 h5 (h4 i z)).elim
      · exact z
      · exact (a j h1 h3 (h6 j z)).elim
    rw [e]
theorem pM_i (f : Nat → Int) (t : Nat) : f t = if t ≤ 0 then pM f t else f t := by
  by_cases h : t ≤ 0
  · rw [if_pos h]
    obtain rfl : t = 0 := by omega
    rfl
  · rw [if_neg h]
theorem f_learn {G : zG} (hG : G.1 = zProg) {h : zH} {P : Int64} {k s : Int32} (hs : tSh h) (hn : tN h 110 = 600) (h62 : ∀ i, i < 600 → 0 ≤ (tA h 62 i).toInt ∧ (tA h 62 i).toInt ≤ 599) (h9 : 0 ≤ (tvI (tF h 54 9)).toInt ∧ (tvI (tF h 54 9)).toInt ≤ 600) : tC zTt G 108 [.ref 54, .long P, .int k, .int s, .ref 110] h (fun w h2 => w = none ∧ aFr (fun r => r = 110) h h2 ∧ ∀ t : Nat, t < 600 → (tA h2 110 t).toInt = mnB (rdP h P k s) (rdT h) (rdS h) (tvI (tF h 54 9)).toNatClampNeg t) := by
  refine tC_in (by rw [hG]; rfl) (fun dp => ?_)
  refine tw_aload rfl rfl ?_
  refine tw_push rfl ?_
  refine tw_stat2 rfl (f_fillI hG hs (by rw [hn]; decide)) (fun wp1419 hp1419 p1419 => ?_)
  obtain ⟨rfl, Fp1419, Zp1419⟩ := p1419
  rw [hn] at Zp1419
  refine tw_push rfl ?_
  refine tw_istore rfl ?_
  refine tG_loop (zW_mono zTt G dp) (zW_conj zTt G dp) (V := fun pc L st h9 _ _ => pc = 11 ∧ st = [] ∧ ∃ (h1 : zH) (n : Nat) (z : Int32) (l7 l8 : Option Value), h1 = h9 ∧ aFr (fun r => r = 110) h h1 ∧ z.toInt = (n : Int) ∧ (n : Int) ≤ (tvI (tF h 54 9)).toInt ∧ (∀ t, t < 600 → (tA h1 110 t).toInt = mnC (rdP h P k s) (rdT h) (rdS h) n t) ∧ L = [some (.ref 54), some (.long P), none, some (.int k), some (.int s), some (.ref 110), some (.int z), l7, l8]) ?_ (⟨rfl, rfl, _, 0, 0, _, _, rfl, Fp1419, rfl, h9.1, fun t ht => by rw [Zp1419 t ht]; rfl, rfl⟩)
  rintro _ _ _ _ _ _ ⟨rfl, rfl, h1, n, z, l7, l8, rfl, hF, hz, hnn, hall, rfl⟩
  have e9 : (tvI (tF h1 54 9)).toInt = (tvI (tF h 54 9)).toInt := by rw [hF.2.1]
  refine tw_iload rfl rfl ?_
  refine tw_aload rfl rfl ?_
  refine tw_getS rfl (hi_54_9 hF.1) ?_
  refine tw_ic_ge rfl (fun q1420 => ?_) (fun q1420 => ?_)
  · try dsimp only [tvI_i, tvJ_j, tvR_r] at q1420
    have nN : n = (tvI (tF h 54 9)).toNatClampNeg := by rw [zclE]; omega
    rw [nN] at hall
    refine tw_push rfl ?_
    refine tw_istore rfl ?_
    refine tG_loop (zW_mono zTt G dp) (zW_conj zTt G dp) (V := fun pc L st h9 _ _ => pc = 105 ∧ st = [] ∧ ∃ (h1 : zH) (j : Nat) (z : Int32) (l7 l8 : Option Value), h1 = h9 ∧ aFr (fun r => r = 110) h h1 ∧ z.toInt = ((j + 1 : Nat) : Int) ∧ (∀ t, t < 600 → (tA h1 110 t).toInt = if t ≤ j then pM (mnC (rdP h P k s) (rdT h) (rdS h) (tvI (tF h 54 9)).toNatClampNeg) t else mnC (rdP h P k s) (rdT h) (rdS h) (tvI (tF h 54 9)).toNatClampNeg t) ∧ L = [some (.ref 54), some (.long P), none, some (.int k), some (.int s), some (.ref 110), some (.int z), l7, l8]) ?_ (⟨rfl, rfl, _, 0, 1, _, _, rfl, hF, rfl, fun t ht => (hall t ht).trans (pM_i _ t), rfl⟩)
    rintro _ _ _ _ _ _ ⟨rfl, rfl, h1, j, z, l7, l8, rfl, hF, hz, hall, rfl⟩
    have hl : (Int32.ofNat (tN h1 110)).toInt = 600 := by rw [hF.2.2.2.2.1, hn]; rfl
    refine tw_iload rfl rfl ?_
    refine tw_aload rfl rfl ?_
    refine tw_alen rfl ?_
    refine tw_ic_ge rfl (fun q1421 => ?_) (fun q1421 => ?_)
    · try dsimp only [tvI_i, tvJ_j, tvR_r] at q1421
      refine tw_vret rfl ⟨rfl, hF, fun t ht => ?_⟩
      rw [hall t ht, if_pos (by omega), pM_mnC (P := rdP h P k s) (tl := rdT h) (sp := rdS h) (n := (tvI (tF h 54 9)).toNatClampNeg) (fun i hi => (h62 i (by rw [zclE] at hi; omega)).1)]
    · try dsimp only [tvI_i, tvJ_j, tvR_r] at q1421
      have hj : j + 1 < 600 := by omega
      have zn := zof_cl hz
      have zm : (z - 1).toNatClampNeg = j := zof_cl ((zsbM (b := 1) hz rfl (by omega) (by decide)).trans (by omega))
      have hz1 : (z + 1).toInt = ((j + 1 + 1 : Nat) : Int) := zincN hz (by omega)
      have u0 := hall (j + 1) hj
      rw [if_neg (by omega)] at u0
      have u1 := hall j (by omega)
      rw [if_pos (Nat.le_refl _)] at u1
      refine tw_aload rfl rfl ?_
      refine tw_iload rfl rfl ?_
      refine tw_aload rfl rfl ?_
      refine tw_iload rfl rfl ?_
      refine tw_iald rfl (fun f1422 => ?_)
      refine tw_aload rfl rfl ?_
      refine tw_iload rfl rfl ?_
      refine tw_push rfl ?_
      refine tw_isub rfl ?_
      refine tw_iald rfl (fun f1423 => ?_)
      refine tw_imin rfl ?_
      refine tw_iast rfl (fun f1424 => ?_)
      refine tG_lsi f1424 hF.1 (fun h3 a3 => ?_)
      try dsimp only [tvI_i, tvJ_j, tvR_r] at a3
      have hF3 := aFr_s hF a3 rfl
      refine tw_iinc rfl rfl ?_
      refine tw_goto rfl ?_
      have hx8 : tA h3 110 z.toNatClampNeg = if tA h1 110 (z - 1).toNatClampNeg < tA h1 110 z.toNatClampNeg then tA h1 110 (z - 1).toNatClampNeg else tA h1 110 z.toNatClampNeg := mIs_x a3
      rw [zn, zm] at hx8
      have hx9 : (tA h3 110 (j + 1)).toInt = pM (mnC (rdP h P k s) (rdT h) (rdS h) (tvI (tF h 54 9)).toNatClampNeg) (j + 1) := by rw [hx8, mn2_i, u0, u1]; rfl
      refine tG_cut (zW_mono zTt G dp) (Or.inr ⟨rfl, rfl, h3, j + 1, z + 1, _, _, rfl, hF3, hz1, fun t ht => ?_, rfl⟩)
      by_cases y : t = j + 1
      · rw [y, hx9, if_pos (Nat.le_refl _)]
      · rw [mIs_o a3 (Or.inr (by rw [zn]; exact y)), hall t ht]
        by_cases y2 : t ≤ j
        · rw [if_pos y2, if_pos (by omega)]
        · rw [if_neg y2, if_neg (by omega)]
  · try dsimp only [tvI_i, tvJ_j, tvR_r] at q1420
    have zn := zof_cl hz
    have hz1 : (z + 1).toInt = ((n + 1 : Nat) : Int) := zincN hz (by omega)
    have e55 : tA h1 55 = tA h 55 := hF.2.2.2.2.2 55 (by decide)
    have e56 : tA h1 56 = tA h 56 := hF.2.2.2.2.2 56 (by decide)
    have e57 : tA h1 57 = tA h 57 := hF.2.2.2.2.2 57 (by decide)
    have e58 : tA h1 58 = tA h 58 := hF.2.2.2.2.2 58 (by decide)
    have e60 : tA h1 60 = tA h 60 := hF.2.2.2.2.2 60 (by decide)
    have e61 : tA h1 61 = tA h 61 := hF.2.2.2.2.2 61 (by decide)
    have e62 : tA h1 62 = tA h 62 := hF.2.2.2.2.2 62 (by decide)
    refine tw_aload rfl rfl ?_
    refine tw_getS rfl (hs_54_6 hF.1) ?_
    refine tw_iload rfl rfl ?_
    refine tw_iald rfl (fun f1425 => ?_)
    refine tw_istore rfl ?_
    refine tw_aload rfl rfl ?_
    refine tw_getS rfl (hs_54_8 hF.1) ?_
    refine tw_iload rfl rfl ?_
    refine tw_iald rfl (fun f1426 => ?_)
    refine tw_istore rfl ?_
    refine tw_lload rfl rfl ?_
    refine tw_aload rfl rfl ?_
    refine tw_getS rfl (hs_54_7 hF.1) ?_
    refine tw_iload rfl rfl ?_
    refine tw_iald rfl (fun f1427 => ?_)
    refine tw_lshr rfl ?_
    refine tw_push rfl ?_
    refine tw_land rfl ?_
    refine tw_push rfl ?_
    refine tw_lc_ne rfl rfl (fun q1428 => ?_) (fun q1428 => ?_)
    · try dsimp only [tvI_i, tvJ_j, tvR_r] at q1428
      refine tw_iinc rfl rfl ?_
      refine tw_goto rfl ?_
      rw [zn, e61] at q1428
      refine tG_cut (zW_mono zTt G dp) (Or.inr ⟨rfl, rfl, h1, n + 1, z + 1, _, _, rfl, hF, hz1, by omega, fun t ht => ?_, rfl⟩)
      rw [hall t ht, mnC_n (fun w => q1428 (of_decide_eq_true w.1).1)]
    · try dsimp only [tvI_i, tvJ_j, tvR_r] at q1428
      refine tw_aload rfl rfl ?_
      refine tw_iload rfl rfl ?_
      refine tw_iload rfl rfl ?_
      refine tw_iload rfl rfl ?_
      refine tw_virt3 rfl (f_isOf hG hF.1) (fun w9 h9 p1429 => ?_)
      obtain ⟨⟨p1429, rfl⟩ | ⟨p1429, rfl⟩, e9⟩ := p1429
      · try dsimp only [tvI_i, tvJ_j, tvR_r] at p1429
        obtain rfl := e9.symm
        refine tw_if_eq rfl (fun z => absurd z (by decide)) (fun _ => ?_)
        refine tw_aload rfl rfl ?_
        refine tw_getS rfl (hs_54_3 hF.1) ?_
        refine tw_iload rfl rfl ?_
        refine tw_bald rfl (fun f1430 => ?_)
        refine tw_if_eq rfl (fun q1431 => ?_) (fun q1431 => ?_)
        · try dsimp only [tvI_i, tvJ_j, tvR_r] at q1431
          have q1431i := zeqi (Y := 0) (by decide) q1431
          refine tw_iinc rfl rfl ?_
          refine tw_goto rfl ?_
          rw [zn, e61] at q1428
          rw [zn, e60, e55, e56] at p1429
          rw [zn, e60, e58] at q1431
          refine tG_cut (zW_mono zTt G dp) (Or.inr ⟨rfl, rfl, h1, n + 1, z + 1, _, _, rfl, hF, hz1, by omega, fun t ht => ?_, rfl⟩)
          rw [hall t ht, mnC_n (fun w => (of_decide_eq_true w.1).2.2 q1431)]
        · try dsimp only [tvI_i, tvJ_j, tvR_r] at q1431
          have q1431i := zneq (Y := 0) (by decide) q1431
          refine tw_aload rfl rfl ?_
          refine tw_iload rfl rfl ?_
          refine tw_aload rfl rfl ?_
          refine tw_iload rfl rfl ?_
          refine tw_iald rfl (fun f1432 => ?_)
          refine tw_aload rfl rfl ?_
          refine tw_getS rfl (hs_54_2 hF.1) ?_
          refine tw_iload rfl rfl ?_
          refine tw_iald rfl (fun f1433 => ?_)
          refine tw_imin rfl ?_
          refine tw_iast rfl (fun f1434 => ?_)
          refine tG_lsi f1434 hF.1 (fun h3 a3 => ?_)
          try dsimp only [tvI_i, tvJ_j, tvR_r] at a3
          have hF3 := aFr_s hF a3 rfl
          refine tw_iinc rfl rfl ?_
          refine tw_goto rfl ?_
          rw [zn, e61] at q1428
          rw [zn, e60, e55, e56] at p1429
          rw [zn, e60, e58] at q1431
          have hP : rdP h P k s n = true := decide_eq_true ⟨q1428, p1429, q1431⟩
          have b9 := h62 n (by omega)
          have t9 : rdT h n = (((tA h 62 n).toNatClampNeg : Nat) : Int) := (zclx b9.1).symm
          have p3 : (tA h1 62 z.toNatClampNeg).toNatClampNeg = (tA h 62 n).toNatClampNeg := by rw [zn, e62]
          have x3 : tA h3 110 (tA h1 62 z.toNatClampNeg).toNatClampNeg = if tA h1 57 (tA h1 60 z.toNatClampNeg).toNatClampNeg < tA h1 110 (tA h1 62 z.toNatClampNeg).toNatClampNeg then tA h1 57 (tA h1 60 z.toNatClampNeg).toNatClampNeg else tA h1 110 (tA h1 62 z.toNatClampNeg).toNatClampNeg := mIs_x a3
          rw [zn, e60, e62, e57] at x3
          refine tG_cut (zW_mono zTt G dp) (Or.inr ⟨rfl, rfl, h3, n + 1, z + 1, _, _, rfl, hF3, hz1, by omega, fun t ht => ?_, rfl⟩)
          by_cases y : t = (tA h 62 n).toNatClampNeg
          · rw [y, x3, mnC_y hP t9, mn2_i, hall _ (by omega)]
            rfl
          · rw [mIs_o a3 (Or.inr (by rw [p3]; exact y)), hall t ht, mnC_n (fun w => y (by have := w.2; omega))]
      · try dsimp only [tvI_i, tvJ_j, tvR_r] at p1429
        obtain rfl := e9.symm
        refine tw_if_eq rfl (fun _ => ?_) (fun z => absurd z (by decide))
        refine tw_iinc rfl rfl ?_
        refine tw_goto rfl ?_
        rw [zn, e61] at q1428
        rw [zn, e60, e55, e56] at p1429
        refine tG_cut (zW_mono zTt G dp) (Or.inr ⟨rfl, rfl, h1, n + 1, z + 1, _, _, rfl, hF, hz1, by omega, fun t ht => ?_, rfl⟩)
        rw [hall t ht, mnC_n (fun w => p1429 (of_decide_eq_true w.1).2.1)]
theorem f_partsFitted {G : zG} (hG : G.1 = zProg) {h : zH} {k m : Int32} (hs : tSh h) (hr : tRw h) (hp : 0 ≤ (tvI (tF h 1 7)).toInt) : tC zTt G 32 [.ref 1, .int k, .int m] h (fun w h2 => w = some (.int (sPB (tA h (28 + k.toNatClampNeg)) m (tvI (tF h 1 7)).toNatClampNeg)) ∧ h2 = h) := by
  refine tC_in (by rw [hG]; rfl) (fun dp => ?_)
  refine tw_push rfl ?_
  refine tw_istore rfl ?_
  refine tw_push rfl ?_
  refine tw_istore rfl ?_
  refine tG_loop (zW_mono zTt G dp) (zW_conj zTt G dp) (V := fun pc L st h9 _ _ => pc = 5 ∧ st = [] ∧ h = h9 ∧ ∃ (n : Nat) (x y : Int32), x.toInt = n ∧ (n : Int) ≤ (tvI (tF h 1 7)).toInt ∧ y = sPB (tA h (28 + k.toNatClampNeg)) m n ∧ L = [some (.ref 1), some (.int k), some (.int m), some (.int y), some (.int x)]) ?_ (⟨rfl, rfl, rfl, 0, 0, 0, rfl, hp, rfl, rfl⟩)
  rintro _ _ _ _ _ _ ⟨rfl, rfl, rfl, n, x, y, hx, hn, hy, rfl⟩
  refine tw_iload rfl rfl ?_
  refine tw_aload rfl rfl ?_
  refine tw_getS rfl (hi_1_7 hs) ?_
  refine tw_ic_ge rfl (fun q1435 => ?_) (fun q1435 => ?_)
  · try dsimp only [tvI_i, tvJ_j, tvR_r] at q1435
    refine tw_iload rfl rfl ?_
    exact tw_iret rfl ⟨(by rw [show n = (tvI (tF h 1 7)).toNatClampNeg from by rw [zclE]; omega] at hy; exact congrArg (fun z => some (Value.int z)) hy), rfl⟩
  · try dsimp only [tvI_i, tvJ_j, tvR_r] at q1435
    refine tw_aload rfl rfl ?_
    refine tw_getS rfl (hs_1_5 hs) ?_
    refine tw_iload rfl rfl ?_
    refine tw_aaldS rfl (fun z => tRw_at hr (p := 27) (q := 28) (by decide) z) ?_
    refine tw_iload rfl rfl ?_
    refine tw_iald rfl (fun f1437 => ?_)
    refine tw_iload rfl rfl ?_
    refine tw_ic_gt rfl (fun q1438 => ?_) (fun q1438 => ?_)
    · try dsimp only [tvI_i, tvJ_j, tvR_r] at q1438
      refine tw_iinc rfl rfl ?_
      refine tw_goto rfl ?_
      rw [zof_cl hx] at q1438
      exact tG_cut (zW_mono zTt G dp) (Or.inr ⟨rfl, rfl, rfl, n + 1, x + 1, _, zincL hx q1435, by omega, sPB_n hy q1438, rfl⟩)
    · try dsimp only [tvI_i, tvJ_j, tvR_r] at q1438
      refine tw_iload rfl rfl ?_
      refine tw_push rfl ?_
      refine tw_iload rfl rfl ?_
      refine tw_ishl rfl ?_
      refine tw_ior rfl ?_
      refine tw_istore rfl ?_
      refine tw_iinc rfl rfl ?_
      refine tw_goto rfl ?_
      rw [zof_cl hx] at q1438
      exact tG_cut (zW_mono zTt G dp) (Or.inr ⟨rfl, rfl, rfl, n + 1, x + 1, _, zincL hx q1435, by omega, sPB_y hx hy q1438, rfl⟩)
theorem g_partsOf {G : zG} (hG : G.1 = zProg) {h : zH} {k m : Int32} (hs : tSh h) (hm4 : 0 ≤ (tvI (tF h 111 4)).toInt ∧ (tvI (tF h 111 4)).toInt ≤ 12) (hk : 0 ≤ k.toInt ∧ k.toInt ≤ 7) : tC zTt G 188 [.ref 111, .int k, .int m] h (fun w h2 => w = some (.int (sPB (fun p => tA h 118 (12 * k.toNatClampNeg + p)) m (tvI (tF h 111 4)).toNatClampNeg)) ∧ h2 = h) := by
  refine tC_in (by rw [hG]; rfl) (fun dp => ?_)
  refine tw_push rfl ?_
  refine tw_istore rfl ?_
  refine tw_push rfl ?_
  refine tw_istore rfl ?_
  refine tG_loop (zW_mono zTt G dp) (zW_conj zTt G dp) (V := fun pc L st h9 _ _ => pc = 5 ∧ st = [] ∧ h = h9 ∧ ∃ (n : Nat) (x y : Int32), x.toInt = n ∧ (n : Int) ≤ (tvI (tF h 111 4)).toInt ∧ y = sPB (fun p => tA h 118 (12 * k.toNatClampNeg + p)) m n ∧ L = [some (.ref 111), some (.int k), some (.int m), some (.int y), some (.int x)]) ?_ (⟨rfl, rfl, rfl, 0, 0, 0, rfl, hm4.1, rfl, rfl⟩)
  rintro _ _ _ _ _ _ ⟨rfl, rfl, rfl, n, x, y, hx, hn, hy, rfl⟩
  refine tw_iload rfl rfl ?_
  refine tw_aload rfl rfl ?_
  refine tw_getS rfl (hi_111_4 hs) ?_
  refine tw_ic_ge rfl (fun q1439 => ?_) (fun q1439 => ?_)
  · try dsimp only [tvI_i, tvJ_j, tvR_r] at q1439
    refine tw_iload rfl rfl ?_
    exact tw_iret rfl ⟨(by rw [show n = (tvI (tF h 111 4)).toNatClampNeg from by rw [zclE]; omega] at hy; exact congrArg (fun z => some (Value.int z)) hy), rfl⟩
  · try dsimp only [tvI_i, tvJ_j, tvR_r] at q1439
    refine tw_iload rfl rfl ?_
    refine tw_aload rfl rfl ?_
    refine tw_getS rfl (hs_111_13 hs) ?_
    refine tw_push rfl ?_
    refine tw_iload rfl rfl ?_
    refine tw_imul rfl ?_
    refine tw_iload rfl rfl ?_
    refine tw_iadd rfl ?_
    refine tw_iald rfl (fun f1440 => ?_)
    refine tw_iload rfl rfl ?_
    refine tw_ic_gt rfl (fun q1441 => ?_) (fun q1441 => ?_)
    · try dsimp only [tvI_i, tvJ_j, tvR_r] at q1441
      refine tw_push rfl ?_
      refine tw_ior rfl ?_
      refine tw_istore rfl ?_
      refine tw_iinc rfl rfl ?_
      refine tw_goto rfl ?_
      have e9 := (zmulc (c := 12) (K := 12) (k := k) (p := x) rfl (by decide) (by omega) (by omega)).1
      rw [zof_cl hx] at e9
      rw [e9] at q1441
      exact tG_cut (zW_mono zTt G dp) (Or.inr ⟨rfl, rfl, rfl, n + 1, x + 1, _, zincL hx q1439, by omega, sPB_0 hy q1441, rfl⟩)
    · try dsimp only [tvI_i, tvJ_j, tvR_r] at q1441
      refine tw_push rfl ?_
      refine tw_iload rfl rfl ?_
      refine tw_ishl rfl ?_
      refine tw_goto rfl ?_
      refine tw_ior rfl ?_
      refine tw_istore rfl ?_
      refine tw_iinc rfl rfl ?_
      refine tw_goto rfl ?_
      have e9 := (zmulc (c := 12) (K := 12) (k := k) (p := x) rfl (by decide) (by omega) (by omega)).1
      rw [zof_cl hx] at e9
      rw [e9] at q1441
      exact tG_cut (zW_mono zTt G dp) (Or.inr ⟨rfl, rfl, rfl, n + 1, x + 1, _, zincL hx q1439, by omega, sPB_y hx hy q1441, rfl⟩)
theorem f_forceAt {G : zG} (hG : G.1 = zProg) {h : zH} {s v : Int32} (hs : tSh h) : tC zTt G 33 [.ref 1, .int s, .int v] h (fun w h2 => w = some (.int (v * v * tA h 2 s.toNatClampNeg / 100)) ∧ h2 = h) := by
  refine tC_in (by rw [hG]; rfl) (fun dp => ?_)
  refine tw_iload rfl rfl ?_
  refine tw_iload rfl rfl ?_
  refine tw_imul rfl ?_
  refine tw_aload rfl rfl ?_
  refine tw_getS rfl (hs_1_0 hs) ?_
  refine tw_iload rfl rfl ?_
  refine tw_iald rfl (fun f1442 => ?_)
  refine tw_imul rfl ?_
  refine tw_push rfl ?_
  refine tw_idiv rfl (fun _ => ?_)
  exact tw_iret rfl ⟨rfl, rfl⟩
theorem g_forceOf {G : zG} (hG : G.1 = zProg) {h : zH} {s v : Int32} (hs : tSh h) : tC zTt G 190 [.ref 111, .int s, .int v] h (fun w h2 => w = some (.int (v * v * tA h 113 s.toNatClampNeg / 100)) ∧ h2 = h) := by
  refine tC_in (by rw [hG]; rfl) (fun dp => ?_)
  refine tw_iload rfl rfl ?_
  refine tw_iload rfl rfl ?_
  refine tw_imul rfl ?_
  refine tw_aload rfl rfl ?_
  refine tw_getS rfl (hs_111_8 hs) ?_
  refine tw_iload rfl rfl ?_
  refine tw_iald rfl (fun f1443 => ?_)
  refine tw_imul rfl ?_
  refine tw_push rfl ?_
  refine tw_idiv rfl (fun _ => ?_)
  exact tw_iret rfl ⟨rfl, rfl⟩
theorem f_burnsWith {G : zG} (hG : G.1 = zProg) {h : zH} {k b s v : Int32} (hs : tSh h) (hr : tRw h) (hp : 0 ≤ (tvI (tF h 1 7)).toInt) : tC zTt G 34 [.ref 1, .int k, .int b, .int s, .int v] h (fun w h2 => tBo ((sBn (fun p => tA h (15 + p) s.toNatClampNeg) b (tA h (5 + k.toNatClampNeg) s.toNatClampNeg) (tvI (tF h 1 7)).toNatClampNeg).toInt < (v * v * tA h 2 s.toNatClampNeg / 100).toInt) w ∧ h2 = h) := by
  refine tC_in (by rw [hG]; rfl) (fun dp => ?_)
  refine tw_aload rfl rfl ?_
  refine tw_getS rfl (hs_1_2 hs) ?_
  refine tw_iload rfl rfl ?_
  refine tw_aaldS rfl (fun z => tRw_at hr (p := 4) (q := 5) (by decide) z) ?_
  refine tw_iload rfl rfl ?_
  refine tw_iald rfl (fun f1445 => ?_)
  refine tw_istore rfl ?_
  refine tw_push rfl ?_
  refine tw_istore rfl ?_
  refine tG_loop (zW_mono zTt G dp) (zW_conj zTt G dp) (V := fun pc L st h9 _ _ => pc = 13 ∧ st = [] ∧ h = h9 ∧ ∃ (n : Nat) (x y : Int32), x.toInt = n ∧ (n : Int) ≤ (tvI (tF h 1 7)).toInt ∧ y = sBn (fun p => tA h (15 + p) s.toNatClampNeg) b (tA h (5 + k.toNatClampNeg) s.toNatClampNeg) n ∧ L = [some (.ref 1), some (.int k), some (.int b), some (.int s), some (.int v), some (.int y), some (.int x)]) ?_ (⟨rfl, rfl, rfl, 0, 0, _, rfl, hp, rfl, rfl⟩)
  rintro _ _ _ _ _ _ ⟨rfl, rfl, rfl, n, x, y, hx, hn, hy, rfl⟩
  refine tw_iload rfl rfl ?_
  refine tw_aload rfl rfl ?_
  refine tw_getS rfl (hi_1_7 hs) ?_
  refine tw_ic_ge rfl (fun q1446 => ?_) (fun q1446 => ?_)
  · try dsimp only [tvI_i, tvJ_j, tvR_r] at q1446
    refine tw_aload rfl rfl ?_
    refine tw_iload rfl rfl ?_
    refine tw_iload rfl rfl ?_
    refine tw_virt2 rfl (f_forceAt hG hs) (fun w9 h9 p1447 => ?_)
    obtain ⟨rfl, e9⟩ := p1447
    obtain rfl := e9.symm
    refine tw_iload rfl rfl ?_
    refine tw_ic_le rfl (fun q1448 => ?_) (fun q1448 => ?_)
    · try dsimp only [tvI_i, tvJ_j, tvR_r] at q1448
      refine tw_push rfl ?_
      rw [show n = (tvI (tF h 1 7)).toNatClampNeg from by rw [zclE]; omega] at hy
      rw [hy] at q1448
      exact tw_iret rfl ⟨Or.inr ⟨fun z => absurd z (by omega), rfl⟩, rfl⟩
    · try dsimp only [tvI_i, tvJ_j, tvR_r] at q1448
      refine tw_push rfl ?_
      refine tw_goto rfl ?_
      rw [show n = (tvI (tF h 1 7)).toNatClampNeg from by rw [zclE]; omega] at hy
      rw [hy] at q1448
      exact tw_iret rfl ⟨Or.inl ⟨q1448, rfl⟩, rfl⟩
  · try dsimp only [tvI_i, tvJ_j, tvR_r] at q1446
    refine tw_iload rfl rfl ?_
    refine tw_iload rfl rfl ?_
    refine tw_ishr rfl ?_
    refine tw_push rfl ?_
    refine tw_iand rfl ?_
    refine tw_push rfl ?_
    refine tw_ic_ne rfl (fun q1449 => ?_) (fun q1449 => ?_)
    · try dsimp only [tvI_i, tvJ_j, tvR_r] at q1449
      have q1449i := zneq (Y := 1) (by decide) q1449
      refine tw_iinc rfl rfl ?_
      refine tw_goto rfl ?_
      exact tG_cut (zW_mono zTt G dp) (Or.inr ⟨rfl, rfl, rfl, n + 1, x + 1, _, zincL hx q1446, by omega, sBn_n hx hy q1449, rfl⟩)
    · try dsimp only [tvI_i, tvJ_j, tvR_r] at q1449
      have q1449i := zeqi (Y := 1) (by decide) q1449
      refine tw_iload rfl rfl ?_
      refine tw_aload rfl rfl ?_
      refine tw_getS rfl (hs_1_4 hs) ?_
      refine tw_iload rfl rfl ?_
      refine tw_aaldS rfl (fun z => tRw_at hr (p := 14) (q := 15) (by decide) z) ?_
      refine tw_iload rfl rfl ?_
      refine tw_iald rfl (fun f1451 => ?_)
      refine tw_iadd rfl ?_
      refine tw_istore rfl ?_
      refine tw_iinc rfl rfl ?_
      refine tw_goto rfl ?_
      exact tG_cut (zW_mono zTt G dp) (Or.inr ⟨rfl, rfl, rfl, n + 1, x + 1, _, zincL hx q1446, by omega, sBn_y hx hy q1449 (by show tA h (15 + x.toNatClampNeg) s.toNatClampNeg = _; rw [zof_cl hx]), rfl⟩)
theorem g_burnsWith {G : zG} (hG : G.1 = zProg) {h : zH} {k b s v : Int32} (hs : tSh h) (hm4 : 0 ≤ (tvI (tF h 111 4)).toInt ∧ (tvI (tF h 111 4)).toInt ≤ 12) (hk : 0 ≤ k.toInt ∧ k.toInt ≤ 7) (hS : 0 ≤ s.toInt ∧ s.toInt ≤ 2) : tC zTt G 191 [.ref 111, .int k, .int b, .int s, .int v] h (fun w h2 => tBo ((sBn (fun p => tA h 117 (3 * p + s.toNatClampNeg)) b (tA h 115 (3 * k.toNatClampNeg + s.toNatClampNeg)) (tvI (tF h 111 4)).toNatClampNeg).toInt < (v * v * tA h 113 s.toNatClampNeg / 100).toInt) w ∧ h2 = h) := by
  refine tC_in (by rw [hG]; rfl) (fun dp => ?_)
  refine tw_aload rfl rfl ?_
  refine tw_getS rfl (hs_111_10 hs) ?_
  refine tw_push rfl ?_
  refine tw_iload rfl rfl ?_
  refine tw_imul rfl ?_
  refine tw_iload rfl rfl ?_
  refine tw_iadd rfl ?_
  refine tw_iald rfl (fun f1452 => ?_)
  refine tw_istore rfl ?_
  refine tw_push rfl ?_
  refine tw_istore rfl ?_
  refine tG_loop (zW_mono zTt G dp) (zW_conj zTt G dp) (V := fun pc L st h9 _ _ => pc = 15 ∧ st = [] ∧ h = h9 ∧ ∃ (n : Nat) (x y : Int32), x.toInt = n ∧ (n : Int) ≤ (tvI (tF h 111 4)).toInt ∧ y = sBn (fun p => tA h 117 (3 * p + s.toNatClampNeg)) b (tA h 115 (3 * k.toNatClampNeg + s.toNatClampNeg)) n ∧ L = [some (.ref 111), some (.int k), some (.int b), some (.int s), some (.int v), some (.int y), some (.int x)]) ?_ (⟨rfl, rfl, rfl, 0, 0, _, rfl, hm4.1, (by show tA h 115 (3 * k + s).toNatClampNeg = _; rw [(zmulc (c := 3) (K := 3) (k := k) (p := s) rfl (by decide) (by omega) (by omega)).1]; rfl), rfl⟩)
  rintro _ _ _ _ _ _ ⟨rfl, rfl, rfl, n, x, y, hx, hn, hy, rfl⟩
  refine tw_iload rfl rfl ?_
  refine tw_aload rfl rfl ?_
  refine tw_getS rfl (hi_111_4 hs) ?_
  refine tw_ic_ge rfl (fun q1453 => ?_) (fun q1453 => ?_)
  · try dsimp only [tvI_i, tvJ_j, tvR_r] at q1453
    refine tw_aload rfl rfl ?_
    refine tw_iload rfl rfl ?_
    refine tw_iload rfl rfl ?_
    refine tw_virt2 rfl (g_forceOf hG hs) (fun w9 h9 p1454 => ?_)
    obtain ⟨rfl, e9⟩ := p1454
    obtain rfl := e9.symm
    refine tw_iload rfl rfl ?_
    refine tw_ic_le rfl (fun q1455 => ?_) (fun q1455 => ?_)
    · try dsimp only [tvI_i, tvJ_j, tvR_r] at q1455
      refine tw_push rfl ?_
      rw [show n = (tvI (tF h 111 4)).toNatClampNeg from by rw [zclE]; omega] at hy
      rw [hy] at q1455
      exact tw_iret rfl ⟨Or.inr ⟨fun z => absurd z (by omega), rfl⟩, rfl⟩
    · try dsimp only [tvI_i, tvJ_j, tvR_r] at q1455
      refine tw_push rfl ?_
      refine tw_goto rfl ?_
      rw [show n = (tvI (tF h 111 4)).toNatClampNeg from by rw [zclE]; omega] at hy
      rw [hy] at q1455
      exact tw_iret rfl ⟨Or.inl ⟨q1455, rfl⟩, rfl⟩
  · try dsimp only [tvI_i, tvJ_j, tvR_r] at q1453
    refine tw_iload rfl rfl ?_
    refine tw_iload rfl rfl ?_
    refine tw_iload rfl rfl ?_
    refine tw_ishr rfl ?_
    refine tw_push rfl ?_
    refine tw_iand rfl ?_
    refine tw_push rfl ?_
    refine tw_ic_ne rfl (fun q1456 => ?_) (fun q1456 => ?_)
    · try dsimp only [tvI_i, tvJ_j, tvR_r] at q1456
      have q1456i := zneq (Y := 1) (by decide) q1456
      refine tw_push rfl ?_
      refine tw_iadd rfl ?_
      refine tw_istore rfl ?_
      refine tw_iinc rfl rfl ?_
      refine tw_goto rfl ?_
      exact tG_cut (zW_mono zTt G dp) (Or.inr ⟨rfl, rfl, rfl, n + 1, x + 1, _, zincL hx q1453, by omega, sBn_0 hx hy q1456, rfl⟩)
    · try dsimp only [tvI_i, tvJ_j, tvR_r] at q1456
      have q1456i := zeqi (Y := 1) (by decide) q1456
      refine tw_aload rfl rfl ?_
      refine tw_getS rfl (hs_111_12 hs) ?_
      refine tw_push rfl ?_
      refine tw_iload rfl rfl ?_
      refine tw_imul rfl ?_
      refine tw_iload rfl rfl ?_
      refine tw_iadd rfl ?_
      refine tw_iald rfl (fun f1457 => ?_)
      refine tw_goto rfl ?_
      refine tw_iadd rfl ?_
      refine tw_istore rfl ?_
      refine tw_iinc rfl rfl ?_
      refine tw_goto rfl ?_
      exact tG_cut (zW_mono zTt G dp) (Or.inr ⟨rfl, rfl, rfl, n + 1, x + 1, _, zincL hx q1453, by omega, sBn_y hx hy q1456 (by show tA h 117 (3 * x + s).toNatClampNeg = _; rw [(zmulc (c := 3) (K := 3) (k := x) (p := s) rfl (by decide) (by omega) (by omega)).1, zof_cl hx]), rfl⟩)
theorem burn_eq {xs : Nat → Int32} {τ : List Nat} {h : zH} {k s v b b2 : Int32} (hB : zBs xs τ h) (hP : R_parts h) (hE : R_bears h) (hA : R_adds h) (hF : R_factor h) (hk : 0 ≤ k.toInt ∧ k.toInt ≤ 7) (hs : 0 ≤ s.toInt ∧ s.toInt ≤ 2) (e : b = b2) : ((sBn (fun p => tA h (15 + p) s.toNatClampNeg) b (tA h (5 + k.toNatClampNeg) s.toNatClampNeg) (tvI (tF h 1 7)).toNatClampNeg).toInt < (v * v * tA h 2 s.toNatClampNeg / 100).toInt) ↔ ((sBn (fun p => tA h 117 (3 * p + s.toNatClampNeg)) b2 (tA h 115 (3 * k.toNatClampNeg + s.toNatClampNeg)) (tvI (tF h 111 4)).toNatClampNeg).toInt < (v * v * tA h 113 s.toNatClampNeg / 100).toInt) := by
  subst e
  have h7 := kb_1_7 hB
  have hs3 : s.toNatClampNeg < 3 := by rw [zclE]; omega
  unfold R_parts at hP
  rw [hE _ (by rw [zclE]; omega) _ hs3, hF _ hs3, hP, sBn_congr (ad := fun p => tA h (15 + p) s.toNatClampNeg) (ad2 := fun p => tA h 117 (3 * p + s.toNatClampNeg)) (fun i hi => by
    rw [← hP, zclE] at hi
    exact hA i (by omega) _ hs3)]
/-! a jury's: what its words are, what it gives -/
noncomputable def jS (g : Nat → Int64) (a b c d : Int64) (e f i : Int) (x7 x8 x9 x10 x11 : Int64) : Prop := (g 0 = a ∧ g 1 = b ∧ g 2 = c ∧ g 3 = d ∧ (g 4).toInt = e ∧ (g 5).toInt = f ∧ (g 6).toInt = i) ∧ g 7 = x7 ∧ g 8 = x8 ∧ g 9 = x9 ∧ g 10 = x10 ∧ g 11 = x11
theorem jS_5 {g : Nat → Int64} {a b c d x7 x8 x9 x10 x11 : Int64} {e f i : Int} (k : qS g a b c d e f i) : jS (fun j => if j = 11 then x11 else if j = 10 then x10 else if j = 9 then x9 else if j = 8 then x8 else if j = 7 then x7 else g j) a b c d e f i x7 x8 x9 x10 x11 := by
  obtain ⟨k0, k1, k2, k3, k4, k5, k6, -⟩ := k
  exact ⟨⟨k0, k1, k2, k3, k4, k5, k6⟩, rfl, rfl, rfl, rfl, rfl⟩
theorem jS_u {g1 g2 : Nat → Int64} {a b c d x7 x8 x9 x10 x11 : Int64} {e f i : Int} (k1 : jS g1 a b c d e f i x7 x8 x9 x10 x11) (k2 : jS g2 a b c d e f i x7 x8 x9 x10 x11) : ∀ t, t < 12 → g1 t = g2 t := by
  intro t ht
  obtain ⟨⟨k0, k1, k2', k3, k4, k5, k6⟩, k7, k8, k9, k10, k11⟩ := k1
  obtain ⟨⟨l0, l1, l2, l3, l4, l5, l6⟩, l7, l8, l9, l10, l11⟩ := k2
  rcases (by omega : t = 0 ∨ t = 1 ∨ t = 2 ∨ t = 3 ∨ t = 4 ∨ t = 5 ∨ t = 6 ∨ t = 7 ∨ t = 8 ∨ t = 9 ∨ t = 10 ∨ t = 11) with rfl | rfl | rfl | rfl | rfl | rfl | rfl | rfl | rfl | rfl | rfl | rfl
  · rw [k0, l0]
  · rw [k1, l1]
  · rw [k2', l2]
  · rw [k3, l3]
  · exact Int64.toInt_inj.mp (k4.trans l4.symm)
  · exact Int64.toInt_inj.mp (k5.trans l5.symm)
  · exact Int64.toInt_inj.mp (k6.trans l6.symm)
  · rw [k7, l7]
  · rw [k8, l8]
  · rw [k9, l9]
  · rw [k10, l10]
  · rw [k11, l11]
/-- what the first clause of a thing tells, if one does -/
noncomputable def jT (W : Nat → Int64) (cs : List Nat) (cl : Nat → rCt) (K th : Nat) (r : Option Int64) : Prop := (r = none ∧ ∀ i, i < K → ¬ hit W cs (cl i) th) ∨ ∃ i, i < K ∧ hit W cs (cl i) th ∧ (∀ j, j < i → ¬ hit W cs (cl j) th) ∧ r = some (wv W (slc cs (cl i).2.1 (cl i).2.2.1))
theorem jT_u {W W2 : Nat → Int64} (hW : ∀ i, i < 12 → W i = W2 i) {cs : List Nat} {cl : Nat → rCt} {K th : Nat} {r r2 : Option Int64} (ok : ∀ i, i < K → rOk cs (cl i)) (nv : nVl cs ≤ 80) (h15 : th ≠ 15) (h1 : jT W cs cl K th r) (h2 : jT W2 cs cl K th r2) : r2 = r := by
  rcases h1 with ⟨rfl, a1⟩ | ⟨i, a1, a2, a3, a4⟩ <;> rcases h2 with ⟨rfl, b1⟩ | ⟨j, b1, b2, b3, b4⟩
  · rfl
  · exact absurd ((hit_w hW (ok j b1) nv).mpr b2) (a1 j b1)
  · exact absurd ((hit_w hW (ok i a1) nv).mp a2) (b1 i a1)
  · have e : i = j := by
      rcases Nat.lt_trichotomy i j with z | z | z
      · exact absurd ((hit_w hW (ok i a1) nv).mp a2) (b3 i z)
      · exact z
      · exact absurd ((hit_w hW (ok j b1) nv).mpr b2) (a3 j z)
    subst e
    have h15 : (cl i).1 ≠ 15 := fun z => h15 (a2.1.symm.trans z)
    rw [a4, b4, wv_w hW (rOk_s (ok i a1) nv h15).2.2.1]
noncomputable def mx0 (S : Int64) : Int64 := if S < 0 then 0 else S
/-- what is given, and not above the most -/
noncomputable def jV (S : Int64) : Option Int64 → Int64
  | none => mx0 S
  | some T => if mx0 T < mx0 S then mx0 T else mx0 S
section JV
variable {S T : Int64}
theorem mx0_i : (mx0 S).toInt = max S.toInt 0 := by
  have k0 : (0 : Int64).toInt = 0 := by decide
  unfold mx0
  by_cases a : S < 0
  · have a2 := Int64.lt_iff_toInt_lt.mp a
    rw [if_pos a]
    omega
  · have a2 : ¬ S.toInt < 0 := fun z => a (Int64.lt_iff_toInt_lt.mpr (by omega))
    rw [if_neg a]
    omega
theorem jV_n : (jV S none).toInt = max S.toInt 0 := mx0_i
theorem jV_i : (jV S (some T)).toInt = min (max S.toInt 0) (max T.toInt 0) := by
  have s := mx0_i (S := S)
  have t := mx0_i (S := T)
  show (if mx0 T < mx0 S then mx0 T else mx0 S).toInt = _
  by_cases a : mx0 T < mx0 S
  · have a2 := Int64.lt_iff_toInt_lt.mp a
    rw [if_pos a]
    omega
  · have a2 : ¬ (mx0 T).toInt < (mx0 S).toInt := fun z => a (Int64.lt_iff_toInt_lt.mpr z)
    rw [if_neg a]
    omega
end JV
/-- the least coins of a part with which it would not have burned; -1 without -/
noncomputable def lcS (F : Int32) (sB co : Nat → Int32) : Nat → Int32
  | 0 => -1
  | n + 1 => if ¬ (sB n).toInt < F.toInt ∧ (lcS F sB co n = -1 ∨ (co n).toInt < (lcS F sB co n).toInt) then co n else lcS F sB co n
noncomputable def lcV (y : Int32) : Int32 := if y = -1 then 0 else y
section LC
variable {F : Int32} {sB co : Nat → Int32} {n : Nat} {y z : Int32}
theorem lcS_y (hy : y = lcS F sB co n) (h1 : ¬ (sB n).toInt < F.toInt) (h2 : y = -1 ∨ (co n).toInt < y.toInt) : co n = lcS F sB co (n + 1) := by
  rw [hy] at h2
  exact (if_pos ⟨h1, h2⟩).symm
theorem lcS_n (hy : y = lcS F sB co n) (h : ¬ (¬ (sB n).toInt < F.toInt ∧ (y = -1 ∨ (co n).toInt < y.toInt))) : y = lcS F sB co (n + 1) := by
  rw [hy] at h
  exact hy.trans (if_neg h).symm
theorem lcV_1 (hy : y = z) (q : y = -1) : (0 : Int32) = lcV z := by rw [← hy]; exact (if_pos q).symm
theorem lcV_2 (hy : y = z) (q : ¬ y = -1) : y = lcV z := by rw [← hy]; exact (if_neg q).symm
theorem lcS_congr {F2 : Int32} {sB2 co2 : Nat → Int32} (h : ∀ i, i < n → (((sB i).toInt < F.toInt ↔ (sB2 i).toInt < F2.toInt) ∧ co i = co2 i)) : lcS F sB co n = lcS F2 sB2 co2 n := by
  induction n with
  | zero => rfl
  | succ n ih =>
    have ih := ih (fun i hi => h i (by omega))
    have e := h n (by omega)
    show (if ¬ (sB n).toInt < F.toInt ∧ (lcS F sB co n = -1 ∨ (co n).toInt < (lcS F sB co n).toInt) then co n else lcS F sB co n) = if ¬ (sB2 n).toInt < F2.toInt ∧ (lcS F2 sB2 co2 n = -1 ∨ (co2 n).toInt < (lcS F2 sB2 co2 n).toInt) then co2 n else lcS F2 sB2 co2 n
    rw [ih, e.2]
    by_cases c : (sB n).toInt < F.toInt
    · rw [if_neg (fun w => w.1 c), if_neg (fun w => w.1 (e.1.mp c))]
    · by_cases d : lcS F2 sB2 co2 n = -1 ∨ (co2 n).toInt < (lcS F2 sB2 co2 n).toInt
      · rw [if_pos ⟨c, d⟩, if_pos ⟨fun w => c (e.1.mpr w), d⟩]
      · rw [if_neg (fun w => d w.2), if_neg (fun w => d w.2)]
end LC
/-- nothing has changed but what is counted, said and learnt -/
noncomputable def jFr (h h2 : zH) : Prop := tSh h2 ∧ tF h2 = tF h ∧ tO h2 = tO h ∧ tN h2 = tN h ∧ ∀ p, ¬ (107 ≤ p ∧ p ≤ 110) → tA h2 p = tA h p
theorem jFr_l {h h1 h2 : zH} (a : jFr h h1) (l : lFr h1 h2) : jFr h h2 := ⟨l.1, l.2.1.trans a.2.1, l.2.2.2.1.trans a.2.2.1, l.2.2.2.2.trans a.2.2.2.1, fun p hp => (congrFun l.2.2.1 p).trans (a.2.2.2.2 p hp)⟩
theorem rIc_jf {h h2 : zH} {y : Int32} {K : Nat} {cs : List Nat} {cl : Nat → rCt} (D : rIc h y K cs cl) (k : jFr h h2) : rIc h2 y K cs cl := by
  rcases D with D | ⟨q, a, b, h1, h2, h3, h4, h6, d1, d2, d3, d4, d5, d6, d7, d8⟩
  · exact Or.inl D
  · have ea := k.2.2.2.2 a (fun z => by omega)
    have eb := k.2.2.2.2 b (fun z => by omega)
    have eN := k.2.2.2.1
    refine Or.inr ⟨q, a, b, h1, by rw [k.2.1]; exact h2, by rw [k.2.2.1]; exact h3, by rw [k.2.2.1]; exact h4, h6, ?_, ?_, ?_, ?_, d5, ?_, d7, d8⟩
    · rw [eN, ea]; exact d1
    · rw [eN]; exact d2
    · rw [eN, ea]; exact d3
    · rw [eN]; exact d4
    · rw [eb]; exact d6
/-- whether it was known by then -/
noncomputable def kwW (x m : Int32) : Int64 := if ¬ x = -1 ∧ x.toInt ≤ m.toInt then 1 else 0
theorem kwW_1 {x m : Int32} (a : ¬ x = -1) (b : x.toInt ≤ m.toInt) : kwW x m = 1 := if_pos ⟨a, b⟩
theorem kwW_0 {x m : Int32} (a : ¬ (¬ x = -1 ∧ x.toInt ≤ m.toInt)) : kwW x m = 0 := if_neg a
noncomputable def kbW (b : Int32) : Int64 := if b = 0 then 0 else 1
/-- whether one of the first n of a firm knew -/
noncomputable def kbP (h : zH) (F : Int32) (m : Int) (Y N : Nat → Nat → Prop) (n : Nat) (b : Int32) : Prop := (b = 1 ∧ ∃ who : Nat, who < n ∧ tA h 112 who = F ∧ ∃ j : Nat, (j : Int) ≤ (tvI (tF h 111 1)).toInt ∧ (j : Int) ≤ m ∧ Y who j) ∨ (b = 0 ∧ ∀ who : Nat, who < n → tA h 112 who = F → ∀ j : Nat, (j : Int) ≤ (tvI (tF h 111 1)).toInt → (j : Int) ≤ m → N who j)
section KB
variable {h : zH} {F b : Int32} {m : Int} {Y N : Nat → Nat → Prop} {n : Nat}
theorem kbP_0 : kbP h F m Y N 0 0 := Or.inr ⟨rfl, fun _ a => absurd a (Nat.not_lt_zero _)⟩
theorem kbP_k (k : kbP h F m Y N n b) (q : ¬ b = 0) : kbP h F m Y N (n + 1) 1 := by
  rcases k with ⟨-, who, a, z⟩ | ⟨a, -⟩
  · exact Or.inl ⟨rfl, who, by omega, z⟩
  · exact absurd a q
theorem kbP_y {j : Nat} (e : tA h 112 n = F) (a : (j : Int) ≤ (tvI (tF h 111 1)).toInt) (c : (j : Int) ≤ m) (y : Y n j) : kbP h F m Y N (n + 1) 1 := Or.inl ⟨rfl, n, by omega, e, j, a, c, y⟩
theorem kbP_n (k : kbP h F m Y N n b) (q : b = 0) (z : tA h 112 n = F → ∀ j : Nat, (j : Int) ≤ (tvI (tF h 111 1)).toInt → (j : Int) ≤ m → N n j) : kbP h F m Y N (n + 1) 0 := by
  rcases k with ⟨a, -⟩ | ⟨-, k⟩
  · rw [q] at a
    exact absurd a (by decide)
  · refine Or.inr ⟨rfl, fun who hw e => ?_⟩
    by_cases w : who = n
    · subst w
      exact z e
    · exact k who (by omega) e
end KB
/-! the least by a month, from more readings, from one -/
section MNM
variable {P Q : Nat → Bool} {tl sp : Nat → Int} {n : Nat} {t : Int}
theorem mnB_le (h : ∀ i, i < n → Q i = true → P i = true) : mnB P tl sp n t ≤ mnB Q tl sp n t := by
  induction n with
  | zero => exact Int.le_refl _
  | succ n ih =>
    have ih := ih (fun i hi => h i (by omega))
    have z := h n (by omega)
    show (if P n = true ∧ tl n ≤ t then mn2 (sp n) (mnB P tl sp n t) else mnB P tl sp n t) ≤ (if Q n = true ∧ tl n ≤ t then mn2 (sp n) (mnB Q tl sp n t) else mnB Q tl sp n t)
    by_cases q : Q n = true ∧ tl n ≤ t
    · rw [if_pos q, if_pos ⟨z q.1, q.2⟩]
      unfold mn2
      repeat' split
      all_goals omega
    · rw [if_neg q]
      by_cases p : P n = true ∧ tl n ≤ t
      · rw [if_pos p]
        unfold mn2
        split <;> omega
      · rw [if_neg p]
        exact ih
theorem mnB_at {i : Nat} (hi : i < n) (h : P i = true) (ht : tl i ≤ t) : mnB P tl sp n t ≤ sp i := by
  induction n with
  | zero => omega
  | succ n ih =>
    show (if P n = true ∧ tl n ≤ t then mn2 (sp n) (mnB P tl sp n t) else mnB P tl sp n t) ≤ sp i
    by_cases e : i = n
    · subst e
      rw [if_pos ⟨h, ht⟩]
      unfold mn2
      split <;> omega
    · have ih := ih (by omega)
      by_cases p : P n = true ∧ tl n ≤ t
      · rw [if_pos p]
        unfold mn2
        split <;> omega
      · rw [if_neg p]
        exact ih
theorem mnB_ex (h : mnB P tl sp n t ≤ 200) : ∃ i, i < n ∧ P i = true ∧ tl i ≤ t ∧ sp i = mnB P tl sp n t := by
  induction n with
  | zero => exact absurd h (by show ¬ ((201 : Int) ≤ 200); omega)
  | succ n ih =>
    have e : mnB P tl sp (n + 1) t = if P n = true ∧ tl n ≤ t then mn2 (sp n) (mnB P tl sp n t) else mnB P tl sp n t := rfl
    rw [e] at h
    rw [e]
    by_cases p : P n = true ∧ tl n ≤ t
    · rw [if_pos p] at h ⊢
      unfold mn2 at h ⊢
      by_cases c : sp n < mnB P tl sp n t
      · rw [if_pos c]
        exact ⟨n, by omega, p.1, p.2, rfl⟩
      · rw [if_neg c] at h ⊢
        obtain ⟨i, a, b⟩ := ih h
        exact ⟨i, by omega, b⟩
    · rw [if_neg p] at h ⊢
      obtain ⟨i, a, b⟩ := ih h
      exact ⟨i, by omega, b⟩
end MNM
theorem f_peopleOf {G : zG} (hG : G.1 = zProg) {h : zH} {f : Int32} (hs : tSh h) (hp : 0 ≤ (tvI (tF h 36 2)).toInt ∧ (tvI (tF h 36 2)).toInt ≤ 60) : tC zTt G 18 [.ref 36, .int f] h (fun w h2 => (∃ x : Int64, w = some (.long x) ∧ (∀ q : Int32, 0 ≤ q.toInt ∧ q.toInt < 64 → (tB x q ↔ q.toInt < (tvI (tF h 36 2)).toInt ∧ tA h 37 q.toNatClampNeg = f))) ∧ h2 = h) := by
  refine tC_in (by rw [hG]; rfl) (fun dp => ?_)
  refine tw_push rfl ?_
  refine tw_lstore rfl ?_
  refine tw_push rfl ?_
  refine tw_istore rfl ?_
  refine tG_loop (zW_mono zTt G dp) (zW_conj zTt G dp) (V := fun pc L st h9 _ _ => pc = 5 ∧ st = [] ∧ h = h9 ∧ ∃ (n : Nat) (z : Int32) (x : Int64), z.toInt = (n : Int) ∧ (n : Int) ≤ (tvI (tF h 36 2)).toInt ∧ (∀ q : Int32, 0 ≤ q.toInt ∧ q.toInt < 64 → (tB x q ↔ q.toInt < (n : Int) ∧ tA h 37 q.toNatClampNeg = f)) ∧ L = [some (.ref 36), some (.int f), some (.long x), none, some (.int z)]) ?_ (⟨rfl, rfl, rfl, 0, 0, 0, rfl, hp.1, fun q hq => ⟨fun w => absurd w (tB_0 hq), fun w => absurd w.1 (by omega)⟩, rfl⟩)
  rintro _ _ _ _ _ _ ⟨rfl, rfl, rfl, n, z, x, hz, hnn, hall, rfl⟩
  refine tw_iload rfl rfl ?_
  refine tw_aload rfl rfl ?_
  refine tw_getS rfl (hi_36_2 hs) ?_
  refine tw_ic_ge rfl (fun q1458 => ?_) (fun q1458 => ?_)
  · try dsimp only [tvI_i, tvJ_j, tvR_r] at q1458
    refine tw_lload rfl rfl ?_
    have nN : (n : Int) = (tvI (tF h 36 2)).toInt := by omega
    rw [nN] at hall
    exact tw_lret rfl ⟨⟨x, rfl, hall⟩, rfl⟩
  · try dsimp only [tvI_i, tvJ_j, tvR_r] at q1458
    refine tw_aload rfl rfl ?_
    refine tw_getS rfl (hs_36_0 hs) ?_
    refine tw_iload rfl rfl ?_
    refine tw_iald rfl (fun f1459 => ?_)
    refine tw_iload rfl rfl ?_
    refine tw_ic_ne rfl (fun q1460 => ?_) (fun q1460 => ?_)
    · try dsimp only [tvI_i, tvJ_j, tvR_r] at q1460
      have q1460i := zneq rfl q1460
      refine tw_iinc rfl rfl ?_
      refine tw_goto rfl ?_
      have hz1 : (z + 1).toInt = ((n + 1 : Nat) : Int) := zincN hz (by omega)
      have zn := zof_cl hz
      rw [zn] at q1460
      refine tG_cut (zW_mono zTt G dp) (Or.inr ⟨rfl, rfl, rfl, n + 1, z + 1, _, hz1, by omega, fun q hq => ?_, rfl⟩)
      rw [hall q hq]
      constructor
      · rintro ⟨a, b⟩
        exact ⟨by omega, b⟩
      · rintro ⟨a, b⟩
        by_cases e : q.toInt = (n : Int)
        · have e2 : q = z := Int32.toInt_inj.mp (e.trans hz.symm)
          exact absurd (by rw [← zn, ← e2]; exact b) q1460
        · exact ⟨by omega, b⟩
    · try dsimp only [tvI_i, tvJ_j, tvR_r] at q1460
      have q1460i := zeqi rfl q1460
      refine tw_lload rfl rfl ?_
      refine tw_push rfl ?_
      refine tw_iload rfl rfl ?_
      refine tw_lshl rfl ?_
      refine tw_lor rfl ?_
      refine tw_lstore rfl ?_
      refine tw_iinc rfl rfl ?_
      refine tw_goto rfl ?_
      have hz1 : (z + 1).toInt = ((n + 1 : Nat) : Int) := zincN hz (by omega)
      have zn := zof_cl hz
      rw [zn] at q1460
      refine tG_cut (zW_mono zTt G dp) (Or.inr ⟨rfl, rfl, rfl, n + 1, z + 1, _, hz1, by omega, fun q hq => ?_, rfl⟩)
      show tB (x ||| ((1 : Int64) <<< (z.toInt64 &&& 63))) q ↔ _
      rw [tB_or hq (by omega), hall q hq]
      constructor
      · rintro (⟨a, b⟩ | e)
        · exact ⟨by omega, b⟩
        · exact ⟨by rw [e]; omega, by rw [e, zn]; exact q1460⟩
      · rintro ⟨a, b⟩
        by_cases e : q = z
        · exact Or.inr e
        · exact Or.inl ⟨by have e2 : q.toInt ≠ z.toInt := fun w => e (Int32.toInt_inj.mp w); omega, b⟩
noncomputable def lcC (h : zH) (k b s v : Int32) : Int32 := lcV (lcS (v * v * tA h 2 s.toNatClampNeg / 100) (fun i => sBn (fun p => tA h (15 + p) s.toNatClampNeg) (b ||| ((1 : Int32) <<< (Int32.ofNat i &&& 31))) (tA h (5 + k.toNatClampNeg) s.toNatClampNeg) (tvI (tF h 1 7)).toNatClampNeg) (tA h 13) (tvI (tF h 1 7)).toNatClampNeg)
noncomputable def lcM (h : zH) (k b s v : Int32) : Int32 := lcS (v * v * tA h 113 s.toNatClampNeg / 100) (fun i => sBn (fun p => tA h 117 (3 * p + s.toNatClampNeg)) (b ||| exP (Int32.ofNat i)) (tA h 115 (3 * k.toNatClampNeg + s.toNatClampNeg)) (tvI (tF h 111 4)).toNatClampNeg) (tA h 116) (tvI (tF h 111 4)).toNatClampNeg
theorem lcC_e {a h : zH} {k b s v : Int32} (e : ∀ p, p < 100 → tA a p = tA h p) (eF : tF a = tF h) (hk : 0 ≤ k.toInt ∧ k.toInt ≤ 7) (h7 : 0 ≤ (tvI (tF h 1 7)).toInt ∧ (tvI (tF h 1 7)).toInt ≤ 12) : lcC a k b s v = lcC h k b s v := by
  unfold lcC
  rw [eF, e 2 (by decide), e 13 (by decide), e (5 + k.toNatClampNeg) (by rw [zclE]; omega)]
  refine congrArg lcV (lcS_congr (fun i _ => ⟨?_, rfl⟩))
  try dsimp only
  rw [sBn_congr (ad := fun p => tA a (15 + p) s.toNatClampNeg) (ad2 := fun p => tA h (15 + p) s.toNatClampNeg) (fun j hj => by show tA a (15 + j) s.toNatClampNeg = tA h (15 + j) s.toNatClampNeg; rw [e (15 + j) (by rw [zclE] at hj; omega)])]
theorem f_leastCoins {G : zG} (hG : G.1 = zProg) {h : zH} {k b s v : Int32} (hs : tSh h) (hr : tRw h) (hp : 0 ≤ (tvI (tF h 1 7)).toInt) : tC zTt G 35 [.ref 1, .int k, .int b, .int s, .int v] h (fun w h2 => w = some (.int (lcC h k b s v)) ∧ h2 = h) := by
  refine tC_in (by rw [hG]; rfl) (fun dp => ?_)
  refine tw_push rfl ?_
  refine tw_istore rfl ?_
  refine tw_push rfl ?_
  refine tw_istore rfl ?_
  refine tG_loop (zW_mono zTt G dp) (zW_conj zTt G dp) (V := fun pc L st h9 _ _ => pc = 6 ∧ st = [] ∧ h = h9 ∧ ∃ (n : Nat) (x y : Int32) (l7 : Option Value), x.toInt = (n : Int) ∧ (n : Int) ≤ (tvI (tF h 1 7)).toInt ∧ y = lcS (v * v * tA h 2 s.toNatClampNeg / 100) (fun i => sBn (fun p => tA h (15 + p) s.toNatClampNeg) (b ||| ((1 : Int32) <<< (Int32.ofNat i &&& 31))) (tA h (5 + k.toNatClampNeg) s.toNatClampNeg) (tvI (tF h 1 7)).toNatClampNeg) (tA h 13) n ∧ L = [some (.ref 1), some (.int k), some (.int b), some (.int s), some (.int v), some (.int y), some (.int x), l7]) ?_ (⟨rfl, rfl, rfl, 0, 0, -1, _, rfl, hp, rfl, rfl⟩)
  rintro _ _ _ _ _ _ ⟨rfl, rfl, rfl, n, x, y, l7, hx, hnn, hy, rfl⟩
  refine tw_iload rfl rfl ?_
  refine tw_aload rfl rfl ?_
  refine tw_getS rfl (hi_1_7 hs) ?_
  refine tw_ic_ge rfl (fun q1461 => ?_) (fun q1461 => ?_)
  · try dsimp only [tvI_i, tvJ_j, tvR_r] at q1461
    refine tw_iload rfl rfl ?_
    refine tw_push rfl ?_
    refine tw_ic_ne rfl (fun q1462 => ?_) (fun q1462 => ?_)
    · try dsimp only [tvI_i, tvJ_j, tvR_r] at q1462
      have q1462i := zneq (Y := (-1)) (by decide) q1462
      refine tw_iload rfl rfl ?_
      have nN : n = (tvI (tF h 1 7)).toNatClampNeg := by rw [zclE]; omega
      rw [nN] at hy
      exact tw_iret rfl ⟨congrArg (fun z => some (Value.int z)) (lcV_2 hy q1462), rfl⟩
    · try dsimp only [tvI_i, tvJ_j, tvR_r] at q1462
      have q1462i := zeqi (Y := (-1)) (by decide) q1462
      refine tw_push rfl ?_
      refine tw_goto rfl ?_
      have nN : n = (tvI (tF h 1 7)).toNatClampNeg := by rw [zclE]; omega
      rw [nN] at hy
      exact tw_iret rfl ⟨congrArg (fun z => some (Value.int z)) (lcV_1 hy q1462), rfl⟩
  · try dsimp only [tvI_i, tvJ_j, tvR_r] at q1461
    refine tw_iload rfl rfl ?_
    refine tw_push rfl ?_
    refine tw_ic_eq rfl (fun q1463 => ?_) (fun q1463 => ?_)
    · try dsimp only [tvI_i, tvJ_j, tvR_r] at q1463
      have q1463i := zeqi (Y := (-1)) (by decide) q1463
      refine tw_push rfl ?_
      refine tw_goto rfl ?_
      refine tw_istore rfl ?_
      refine tw_iload rfl rfl ?_
      refine tw_if_eq rfl (fun z => absurd z (by decide)) (fun _ => ?_)
      refine tw_aload rfl rfl ?_
      refine tw_iload rfl rfl ?_
      refine tw_iload rfl rfl ?_
      refine tw_push rfl ?_
      refine tw_iload rfl rfl ?_
      refine tw_ishl rfl ?_
      refine tw_ior rfl ?_
      refine tw_iload rfl rfl ?_
      refine tw_iload rfl rfl ?_
      refine tw_virt4 rfl (f_burnsWith hG hs hr hp) (fun w9 h9 p1464 => ?_)
      obtain ⟨⟨p1464, rfl⟩ | ⟨p1464, rfl⟩, e9⟩ := p1464
      · try dsimp only [tvI_i, tvJ_j, tvR_r] at p1464
        obtain rfl := e9.symm
        refine tw_if_ne rfl (fun _ => ?_) (fun z => absurd z (by decide))
        refine tw_iinc rfl rfl ?_
        refine tw_goto rfl ?_
        have zo : x = Int32.ofNat n := zof hx
        have zn := zof_cl hx
        have hx1 : (x + 1).toInt = ((n + 1 : Nat) : Int) := zincL hx q1461
        exact tG_cut (zW_mono zTt G dp) (Or.inr ⟨rfl, rfl, rfl, n + 1, x + 1, _, _, hx1, by omega, lcS_n hy (fun w => w.1 (by have y9 := p1464; rw [zo] at y9; exact y9)), rfl⟩)
      · try dsimp only [tvI_i, tvJ_j, tvR_r] at p1464
        obtain rfl := e9.symm
        refine tw_if_ne rfl (fun z => absurd z (by decide)) (fun _ => ?_)
        refine tw_aload rfl rfl ?_
        refine tw_getS rfl (hs_1_3 hs) ?_
        refine tw_iload rfl rfl ?_
        refine tw_iald rfl (fun f1465 => ?_)
        refine tw_istore rfl ?_
        refine tw_iinc rfl rfl ?_
        refine tw_goto rfl ?_
        have zo : x = Int32.ofNat n := zof hx
        have zn := zof_cl hx
        have hx1 : (x + 1).toInt = ((n + 1 : Nat) : Int) := zincL hx q1461
        exact tG_cut (zW_mono zTt G dp) (Or.inr ⟨rfl, rfl, rfl, n + 1, x + 1, _, _, hx1, by omega, (by show tA h 13 x.toNatClampNeg = _; rw [zn]; exact lcS_y hy (fun w => p1464 (by rw [zo]; exact w)) (Or.inl q1463)), rfl⟩)
    · try dsimp only [tvI_i, tvJ_j, tvR_r] at q1463
      have q1463i := zneq (Y := (-1)) (by decide) q1463
      refine tw_aload rfl rfl ?_
      refine tw_getS rfl (hs_1_3 hs) ?_
      refine tw_iload rfl rfl ?_
      refine tw_iald rfl (fun f1466 => ?_)
      refine tw_iload rfl rfl ?_
      refine tw_ic_ge rfl (fun q1467 => ?_) (fun q1467 => ?_)
      · try dsimp only [tvI_i, tvJ_j, tvR_r] at q1467
        refine tw_push rfl ?_
        refine tw_istore rfl ?_
        refine tw_iload rfl rfl ?_
        refine tw_if_eq rfl (fun _ => ?_) (fun z => absurd z (by decide))
        refine tw_iinc rfl rfl ?_
        refine tw_goto rfl ?_
        have zo : x = Int32.ofNat n := zof hx
        have zn := zof_cl hx
        have hx1 : (x + 1).toInt = ((n + 1 : Nat) : Int) := zincL hx q1461
        rw [zn] at q1467
        exact tG_cut (zW_mono zTt G dp) (Or.inr ⟨rfl, rfl, rfl, n + 1, x + 1, _, _, hx1, by omega, lcS_n hy (fun w => w.2.elim q1463 (fun w2 => absurd w2 (by omega))), rfl⟩)
      · try dsimp only [tvI_i, tvJ_j, tvR_r] at q1467
        refine tw_push rfl ?_
        refine tw_goto rfl ?_
        refine tw_istore rfl ?_
        refine tw_iload rfl rfl ?_
        refine tw_if_eq rfl (fun z => absurd z (by decide)) (fun _ => ?_)
        refine tw_aload rfl rfl ?_
        refine tw_iload rfl rfl ?_
        refine tw_iload rfl rfl ?_
        refine tw_push rfl ?_
        refine tw_iload rfl rfl ?_
        refine tw_ishl rfl ?_
        refine tw_ior rfl ?_
        refine tw_iload rfl rfl ?_
        refine tw_iload rfl rfl ?_
        refine tw_virt4 rfl (f_burnsWith hG hs hr hp) (fun w9 h9 p1468 => ?_)
        obtain ⟨⟨p1468, rfl⟩ | ⟨p1468, rfl⟩, e9⟩ := p1468
        · try dsimp only [tvI_i, tvJ_j, tvR_r] at p1468
          obtain rfl := e9.symm
          refine tw_if_ne rfl (fun _ => ?_) (fun z => absurd z (by decide))
          refine tw_iinc rfl rfl ?_
          refine tw_goto rfl ?_
          have zo : x = Int32.ofNat n := zof hx
          have zn := zof_cl hx
          have hx1 : (x + 1).toInt = ((n + 1 : Nat) : Int) := zincL hx q1461
          rw [zn] at q1467
          exact tG_cut (zW_mono zTt G dp) (Or.inr ⟨rfl, rfl, rfl, n + 1, x + 1, _, _, hx1, by omega, lcS_n hy (fun w => w.1 (by have y9 := p1468; rw [zo] at y9; exact y9)), rfl⟩)
        · try dsimp only [tvI_i, tvJ_j, tvR_r] at p1468
          obtain rfl := e9.symm
          refine tw_if_ne rfl (fun z => absurd z (by decide)) (fun _ => ?_)
          refine tw_aload rfl rfl ?_
          refine tw_getS rfl (hs_1_3 hs) ?_
          refine tw_iload rfl rfl ?_
          refine tw_iald rfl (fun f1469 => ?_)
          refine tw_istore rfl ?_
          refine tw_iinc rfl rfl ?_
          refine tw_goto rfl ?_
          have zo : x = Int32.ofNat n := zof hx
          have zn := zof_cl hx
          have hx1 : (x + 1).toInt = ((n + 1 : Nat) : Int) := zincL hx q1461
          rw [zn] at q1467
          exact tG_cut (zW_mono zTt G dp) (Or.inr ⟨rfl, rfl, rfl, n + 1, x + 1, _, _, hx1, by omega, (by show tA h 13 x.toNatClampNeg = _; rw [zn]; exact lcS_y hy (fun w => p1468 (by rw [zo]; exact w)) (Or.inr q1467)), rfl⟩)
/-- the class finds that it fails, or does not -/
noncomputable def kfY (h : zH) (P : Int64) (k s : Int32) (e7 e8 e9 : Nat → Int) (K : Int32 → Nat) (cs : Int32 → List Nat) (cl : Int32 → Nat → rCt) (j : Nat) : Prop := (mnB (rdP h P k s) (rdT h) (rdS h) (tvI (tF h 54 9)).toNatClampNeg (j : Int) ≤ 200 ∧ ∃ r : Int32, MUc h k e7 e8 e9 K cs cl s.toNatClampNeg j r ∧ mnB (rdP h P k s) (rdT h) (rdS h) (tvI (tF h 54 9)).toNatClampNeg (j : Int) ≤ r.toInt)
noncomputable def kfN (h : zH) (P : Int64) (k s : Int32) (e7 e8 e9 : Nat → Int) (K : Int32 → Nat) (cs : Int32 → List Nat) (cl : Int32 → Nat → rCt) (j : Nat) : Prop := (¬ mnB (rdP h P k s) (rdT h) (rdS h) (tvI (tF h 54 9)).toNatClampNeg (j : Int) ≤ 200 ∨ ∃ r : Int32, MUc h k e7 e8 e9 K cs cl s.toNatClampNeg j r ∧ ¬ mnB (rdP h P k s) (rdT h) (rdS h) (tvI (tF h 54 9)).toNatClampNeg (j : Int) ≤ r.toInt)
noncomputable def kFr (h h2 : zH) : Prop := tSh h2 ∧ tF h2 = tF h ∧ tO h2 = tO h ∧ tN h2 = tN h ∧ ∀ p, ¬ p = 110 → tA h2 p = tA h p
theorem kFr_of {h h1 h2 : zH} (a : aFr (fun r => r = 110) h h1) (l : lFr h1 h2) : kFr h h2 := ⟨l.1, l.2.1.trans a.2.1, l.2.2.2.1.trans a.2.2.2.1, l.2.2.2.2.trans a.2.2.2.2.1, fun p hp => (congrFun l.2.2.1 p).trans (a.2.2.2.2.2 p hp)⟩
theorem f_firstKF {G : zG} (hG : G.1 = zProg) {h : zH} {P : Int64} {k s : Int32} {e7 e8 e9 : Nat → Int} {K : Int32 → Nat} {cs : Int32 → List Nat} {cl : Int32 → Nat → rCt} (hs : tSh h) (hn110 : tN h 110 = 600) (h62 : ∀ i, i < 600 → 0 ≤ (tA h 62 i).toInt ∧ (tA h 62 i).toInt ≤ 599) (h9 : 0 ≤ (tvI (tF h 54 9)).toInt ∧ (tvI (tF h 54 9)).toInt ≤ 600) (hnow : 0 ≤ (tvI (tF h 0 14)).toInt ∧ (tvI (tF h 0 14)).toInt ≤ 599) (hn : 0 ≤ (tvI (tF h 48 3)).toInt) (h52 : tN h 52 = 12) (h53 : tN h 53 = 80) (hss : 0 ≤ s.toInt ∧ s.toInt ≤ 2) (h107 : ∀ t : Nat, t < 600 → (tA h 107 t).toInt = e7 t) (h108 : ∀ t : Nat, t < 600 → (tA h 108 t).toInt = e8 t) (h109 : ∀ t : Nat, t < 600 → (tA h 109 t).toInt = e9 t) (D : ∀ m : Int32, rIc h (sRI (tA h 49) m (tvI (tF h 48 3)).toNatClampNeg) (K m) (cs m) (cl m)) : tC zTt G 168 [.ref 0, .long P, .int k, .int s] h (fun w h2 => kFr h h2 ∧ fMo (kfY h P k s e7 e8 e9 K cs cl) (kfN h P k s e7 e8 e9 K cs cl) (tvI (tF h 0 14)).toInt w) := by
  refine tC_in (by rw [hG]; rfl) (fun dp => ?_)
  refine tw_aload rfl rfl ?_
  refine tw_getS rfl (hs_0_4 hs) ?_
  refine tw_lload rfl rfl ?_
  refine tw_iload rfl rfl ?_
  refine tw_iload rfl rfl ?_
  refine tw_aload rfl rfl ?_
  refine tw_getS rfl (hs_0_13 hs) ?_
  refine tw_virt4 rfl (f_learn hG hs hn110 h62 h9) (fun wp1470 hp1470 p1470 => ?_)
  obtain ⟨rfl, FL, ZL⟩ := p1470
  refine tw_push rfl ?_
  refine tw_istore rfl ?_
  refine tG_loop (zW_mono zTt G dp) (zW_conj zTt G dp) (V := fun pc L st h9 _ _ => pc = 18 ∧ st = [] ∧ ∃ (h1 : zH) (j : Nat) (z : Int32), h1 = h9 ∧ lFr hp1470 h1 ∧ z.toInt = (j : Int) ∧ (j : Int) ≤ (tvI (tF h 0 14)).toInt + 1 ∧ (∀ i, i < j → kfN h P k s e7 e8 e9 K cs cl i) ∧ L = [some (.ref 0), some (.long P), none, some (.int k), some (.int s), some (.int z)]) ?_ (⟨rfl, rfl, _, 0, 0, rfl, ⟨FL.1, rfl, rfl, rfl, rfl⟩, rfl, by show (0 : Int) ≤ _; omega, fun i hi => absurd hi (Nat.not_lt_zero _), rfl⟩)
  rintro _ _ _ _ _ _ ⟨rfl, rfl, h1, j, z, rfl, hF, hz, hjn, hall, rfl⟩
  have e14 : (tvI (tF h1 0 14)).toInt = (tvI (tF h 0 14)).toInt := by rw [hF.2.1, FL.2.1]
  refine tw_iload rfl rfl ?_
  refine tw_aload rfl rfl ?_
  refine tw_getS rfl (hi_0_14 hF.1) ?_
  refine tw_ic_gt rfl (fun q1471 => ?_) (fun q1471 => ?_)
  · try dsimp only [tvI_i, tvJ_j, tvR_r] at q1471
    refine tw_push rfl ?_
    exact tw_iret rfl ⟨kFr_of FL hF, Or.inl ⟨rfl, fun i hi => hall i (by omega)⟩⟩
  · try dsimp only [tvI_i, tvJ_j, tvR_r] at q1471
    have zo : z = Int32.ofNat j := zof hz
    have zn := zof_cl hz
    have hj6 : j < 600 := by omega
    have hz1 : (z + 1).toInt = ((j + 1 : Nat) : Int) := zincN hz (by omega)
    have eb : tA h1 = tA hp1470 := hF.2.2.1
    have eF9 : tF h1 = tF h := hF.2.1.trans FL.2.1
    have u0 : (tA h1 110 z.toNatClampNeg).toInt = mnB (rdP h P k s) (rdT h) (rdS h) (tvI (tF h 54 9)).toNatClampNeg (j : Int) := by rw [zn, eb]; exact ZL j hj6
    have e49 : tA h1 49 = tA h 49 := by rw [eb]; exact FL.2.2.2.2.2 49 (by decide)
    have e3 : tA h1 3 = tA h 3 := by rw [eb]; exact FL.2.2.2.2.2 3 (by decide)
    have e107 : tA h1 107 = tA h 107 := by rw [eb]; exact FL.2.2.2.2.2 107 (by decide)
    have e108 : tA h1 108 = tA h 108 := by rw [eb]; exact FL.2.2.2.2.2 108 (by decide)
    have e109 : tA h1 109 = tA h 109 := by rw [eb]; exact FL.2.2.2.2.2 109 (by decide)
    have hn2 : 0 ≤ (tvI (tF h1 48 3)).toInt := by rw [eF9]; exact hn
    have eN9 : tN h1 = tN h := hF.2.2.2.2.trans FL.2.2.2.2.1
    have k200 : (200 : Int32).toInt = 200 := rfl
    refine tw_aload rfl rfl ?_
    refine tw_getS rfl (hs_0_13 hF.1) ?_
    refine tw_iload rfl rfl ?_
    refine tw_iald rfl (fun f1472 => ?_)
    refine tw_push rfl ?_
    refine tw_ic_gt rfl (fun q1473 => ?_) (fun q1473 => ?_)
    · try dsimp only [tvI_i, tvJ_j, tvR_r] at q1473
      refine tw_iinc rfl rfl ?_
      refine tw_goto rfl ?_
      have hno : kfN h P k s e7 e8 e9 K cs cl j := Or.inl (by omega)
      exact tG_cut (zW_mono zTt G dp) (Or.inr ⟨rfl, rfl, _, j + 1, z + 1, rfl, hF, hz1, by omega, fun i hi => (Classical.em (i = j)).elim (fun w => by rw [w]; exact hno) (fun w => hall i (by omega)), rfl⟩)
    · try dsimp only [tvI_i, tvJ_j, tvR_r] at q1473
      refine tw_aload rfl rfl ?_
      refine tw_getS rfl (hs_0_13 hF.1) ?_
      refine tw_iload rfl rfl ?_
      refine tw_iald rfl (fun f1474 => ?_)
      refine tw_aload rfl rfl ?_
      refine tw_iload rfl rfl ?_
      refine tw_iload rfl rfl ?_
      refine tw_iload rfl rfl ?_
      refine tw_virt3 rfl (f_mustOf hG hF.1 hn2 (by rw [eN9]; exact h52) (by rw [eN9]; exact h53) (K := K z) (cs := cs z) (cl := cl z) (th := s.toNatClampNeg) (by rw [e49, eF9]; exact (rIc_af (D z) FL (fun q w => by omega)).fr hF) (zclx (by omega)).symm (by rw [zclE]; omega)) (fun wp1475 hp1475 p1475 => ?_)
      obtain ⟨LM, r, W, rfl, hW, hm⟩ := p1475
      rw [e3, e107, e108, e109, zn, zo] at hW
      rw [zo] at hm
      have hF2 := lFr_t hF LM
      have hMU : MUc h k e7 e8 e9 K cs cl s.toNatClampNeg j r := ⟨W, qS_of hW ((Int32.toInt_toInt64 _).trans (h107 j hj6)) ((Int32.toInt_toInt64 _).trans (h108 j hj6)) ((Int32.toInt_toInt64 _).trans (h109 j hj6)), hm⟩
      refine tw_ic_gt rfl (fun q1476 => ?_) (fun q1476 => ?_)
      · try dsimp only [tvI_i, tvJ_j, tvR_r] at q1476
        refine tw_iinc rfl rfl ?_
        refine tw_goto rfl ?_
        have hno : kfN h P k s e7 e8 e9 K cs cl j := Or.inr ⟨r, hMU, by omega⟩
        exact tG_cut (zW_mono zTt G dp) (Or.inr ⟨rfl, rfl, _, j + 1, z + 1, rfl, hF2, hz1, by omega, fun i hi => (Classical.em (i = j)).elim (fun w => by rw [w]; exact hno) (fun w => hall i (by omega)), rfl⟩)
      · try dsimp only [tvI_i, tvJ_j, tvR_r] at q1476
        refine tw_iload rfl rfl ?_
        exact tw_iret rfl ⟨kFr_of FL hF2, Or.inr ⟨j, by omega, ⟨by omega, r, hMU, by omega⟩, hall, congrArg (fun x => some (Value.int x)) zo⟩⟩
theorem rd_e {a h : zH} (e : ∀ p, p < 107 → tA a p = tA h p) : rdP a = rdP h ∧ rdT a = rdT h ∧ rdS a = rdS h := by
  refine ⟨?_, ?_, ?_⟩
  · funext P k s i
    unfold rdP
    rw [e 61 (by decide), e 60 (by decide), e 55 (by decide), e 56 (by decide), e 58 (by decide)]
  · funext i
    unfold rdT
    rw [e 62 (by decide)]
  · funext i
    unfold rdS
    rw [e 57 (by decide), e 60 (by decide)]
theorem kf_e {a h : zH} (e : ∀ p, p < 107 → tA a p = tA h p) (eF : tF a = tF h) : kfY a = kfY h ∧ kfN a = kfN h := by
  obtain ⟨r1, r2, r3⟩ := rd_e e
  constructor
  · funext P k s e7 e8 e9 K cs cl j
    unfold kfY MUc
    rw [r1, r2, r3, eF, e 3 (by decide)]
  · funext P k s e7 e8 e9 K cs cl j
    unfold kfN MUc
    rw [r1, r2, r3, eF, e 3 (by decide)]
theorem f_knewFails {G : zG} (hG : G.1 = zProg) {h : zH} {p k s : Int32} {K : Int32 → Nat} {cs : Int32 → List Nat} {cl : Int32 → Nat → rCt} (hs : tSh h) (hL : R_cl h) (hg : ∀ i r : Nat, (i : Int) < (tvI (tF h 36 4)).toInt → tO h 39 i = some r → 182 ≤ r) (hK : R_ckind h) (hT : R_ctl h) (hn107 : tN h 107 = 600) (hn108 : tN h 108 = 600) (hn109 : tN h 109 = 600) (h123 : ∀ i, i < 300 → 0 ≤ (tA h 123 i).toInt ∧ (tA h 123 i).toInt ≤ 599) (h36 : 0 ≤ (tvI (tF h 36 4)).toInt ∧ (tvI (tF h 36 4)).toInt ≤ 300) (h67 : ∀ i, i < 200 → 0 ≤ (tA h 67 i).toInt ∧ (tA h 67 i).toInt ≤ 599) (h70 : ∀ i, i < 200 → 0 ≤ (tA h 70 i).toInt ∧ (tA h 70 i).toInt ≤ 9) (h63 : 0 ≤ (tvI (tF h 63 8)).toInt ∧ (tvI (tF h 63 8)).toInt ≤ 200) (hn110 : tN h 110 = 600) (h62 : ∀ i, i < 600 → 0 ≤ (tA h 62 i).toInt ∧ (tA h 62 i).toInt ≤ 599) (h9 : 0 ≤ (tvI (tF h 54 9)).toInt ∧ (tvI (tF h 54 9)).toInt ≤ 600) (hnow : 0 ≤ (tvI (tF h 0 14)).toInt ∧ (tvI (tF h 0 14)).toInt ≤ 599) (hn : 0 ≤ (tvI (tF h 48 3)).toInt) (h52 : tN h 52 = 12) (h53 : tN h 53 = 80) (D : ∀ m : Int32, rIc h (sRI (tA h 49) m (tvI (tF h 48 3)).toNatClampNeg) (K m) (cs m) (cl m)) : tC zTt G 132 [.ref 0, .int p, .int k, .int s] h (fun w h2 => (((0 ≤ p.toInt ∧ p.toInt < (tvI (tF h 36 2)).toInt) ∧ (0 ≤ k.toInt ∧ k.toInt < (tvI (tF h 1 6)).toInt) ∧ (0 ≤ s.toInt ∧ s.toInt ≤ 2)) ∧ fMo (kfY h ((1 : Int64) <<< (p.toInt64 &&& 63)) k s (fun j => bN (wK h k) (tK9 h) (tvI (tF h 36 4)).toNatClampNeg (j : Int)) (fun j => bN (wF h k) (tF9 h) (tvI (tF h 63 8)).toNatClampNeg (j : Int)) (fun j => bN (wD h k) (tF9 h) (tvI (tF h 63 8)).toNatClampNeg (j : Int)) K cs cl) (kfN h ((1 : Int64) <<< (p.toInt64 &&& 63)) k s (fun j => bN (wK h k) (tK9 h) (tvI (tF h 36 4)).toNatClampNeg (j : Int)) (fun j => bN (wF h k) (tF9 h) (tvI (tF h 63 8)).toNatClampNeg (j : Int)) (fun j => bN (wD h k) (tF9 h) (tvI (tF h 63 8)).toNatClampNeg (j : Int)) K cs cl) (tvI (tF h 0 14)).toInt w) ∨ (¬ ((0 ≤ p.toInt ∧ p.toInt < (tvI (tF h 36 2)).toInt) ∧ (0 ≤ k.toInt ∧ k.toInt < (tvI (tF h 1 6)).toInt) ∧ (0 ≤ s.toInt ∧ s.toInt ≤ 2)) ∧ w = some (.int (-2)))) := by
  refine tC_in (by rw [hG]; rfl) (fun dp => ?_)
  refine tw_aload rfl rfl ?_
  refine tw_getS rfl (hs_0_1 hs) ?_
  refine tw_iload rfl rfl ?_
  refine tw_virt1 rfl (f_hasPerson hG hs) (fun w9 h9 p1477 => ?_)
  obtain ⟨⟨p1477, rfl⟩ | ⟨p1477, rfl⟩, e9⟩ := p1477
  · try dsimp only [tvI_i, tvJ_j, tvR_r] at p1477
    obtain rfl := e9.symm
    refine tw_if_eq rfl (fun z => absurd z (by decide)) (fun _ => ?_)
    refine tw_aload rfl rfl ?_
    refine tw_getS rfl (hs_0_0 hs) ?_
    refine tw_iload rfl rfl ?_
    refine tw_virt1 rfl (f_hasKind hG hs) (fun w9 h9 p1478 => ?_)
    obtain ⟨⟨p1478, rfl⟩ | ⟨p1478, rfl⟩, e9⟩ := p1478
    · try dsimp only [tvI_i, tvJ_j, tvR_r] at p1478
      obtain rfl := e9.symm
      refine tw_if_eq rfl (fun z => absurd z (by decide)) (fun _ => ?_)
      refine tw_iload rfl rfl ?_
      refine tw_stat1 rfl (f_isSort hG) (fun w9 h9 p1479 => ?_)
      obtain ⟨⟨p1479, rfl⟩ | ⟨p1479, rfl⟩, e9⟩ := p1479
      · try dsimp only [tvI_i, tvJ_j, tvR_r] at p1479
        obtain rfl := e9.symm
        refine tw_if_ne rfl (fun _ => ?_) (fun z => absurd z (by decide))
        refine tw_aload rfl rfl ?_
        refine tw_iload rfl rfl ?_
        refine tw_virt1 rfl (f_tally hG hs hL hg hK hT hn107 hn108 hn109 h123 h36 h67 h70 h63) (fun wp1480 hp1480 p1480 => ?_)
        obtain ⟨rfl, FT, T7, T8, T9⟩ := p1480
        have eA : ∀ p, p < 107 → tA hp1480 p = tA h p := fun p hp => FT.2.2.2.2.2 p (fun z => by omega)
        have eF : tF hp1480 = tF h := FT.2.1
        have eN : tN hp1480 = tN h := FT.2.2.2.2.1
        refine tw_aload rfl rfl ?_
        refine tw_push rfl ?_
        refine tw_iload rfl rfl ?_
        refine tw_lshl rfl ?_
        refine tw_iload rfl rfl ?_
        refine tw_iload rfl rfl ?_
        refine tw_virt3 rfl (f_firstKF hG FT.1 (e7 := (fun j => bN (wK h k) (tK9 h) (tvI (tF h 36 4)).toNatClampNeg (j : Int))) (e8 := (fun j => bN (wF h k) (tF9 h) (tvI (tF h 63 8)).toNatClampNeg (j : Int))) (e9 := (fun j => bN (wD h k) (tF9 h) (tvI (tF h 63 8)).toNatClampNeg (j : Int))) (K := K) (cs := cs) (cl := cl) (by rw [eN]; exact hn110) (by rw [eA 62 (by decide)]; exact h62) (by rw [eF]; exact h9) (by rw [eF]; exact hnow) (by rw [eF]; exact hn) (by rw [eN]; exact h52) (by rw [eN]; exact h53) (by omega) T7 T8 T9 (fun m => by rw [eA 49 (by decide), eF]; exact rIc_af (D m) FT (fun q z => by omega))) (fun wp1481 hp1481 p1481 => ?_)
        obtain ⟨KF, hw⟩ := p1481
        rw [(kf_e eA eF).1, (kf_e eA eF).2, eF] at hw
        obtain ⟨x9, rfl⟩ : ∃ x9, wp1481 = some (.int x9) := by rcases hw with ⟨z, -⟩ | ⟨j, -, -, -, z⟩ <;> exact ⟨_, z⟩
        exact tw_iret rfl (Or.inl ⟨by omega, hw⟩)
      · try dsimp only [tvI_i, tvJ_j, tvR_r] at p1479
        obtain rfl := e9.symm
        refine tw_if_ne rfl (fun z => absurd z (by decide)) (fun _ => ?_)
        refine tw_push rfl ?_
        exact tw_iret rfl (Or.inr ⟨by omega, rfl⟩)
    · try dsimp only [tvI_i, tvJ_j, tvR_r] at p1478
      obtain rfl := e9.symm
      refine tw_if_eq rfl (fun _ => ?_) (fun z => absurd z (by decide))
      refine tw_push rfl ?_
      exact tw_iret rfl (Or.inr ⟨by omega, rfl⟩)
  · try dsimp only [tvI_i, tvJ_j, tvR_r] at p1477
    obtain rfl := e9.symm
    refine tw_if_eq rfl (fun _ => ?_) (fun z => absurd z (by decide))
    refine tw_push rfl ?_
    exact tw_iret rfl (Or.inr ⟨by omega, rfl⟩)
noncomputable def MUm (h : zH) (k : Int32) (K : Int32 → Nat) (cs : Int32 → List Nat) (cl : Int32 → Nat → rCt) (th j : Nat) (r : Int32) : Prop := (K (Int32.ofNat j) = 0 ∧ r = -1) ∨ ∃ W, qS W (Int32.ofNat j).toInt64 k.toInt64 (tA h 114 k.toNatClampNeg).toInt64 (Int32.ofNat j).toInt64 (bN (mK9 h k (Int32.ofNat j)) (tK9 h) (tvI (tF h 111 5)).toNatClampNeg (Int32.ofNat j).toInt) (bN (mF9 h k) (mT9 h) (tvI (tF h 111 59)).toNatClampNeg (Int32.ofNat j).toInt) (bN (mD9 h k) (mT9 h) (tvI (tF h 111 59)).toNatClampNeg (Int32.ofNat j).toInt) ∧ muO W (cs (Int32.ofNat j)) (cl (Int32.ofNat j)) (K (Int32.ofNat j)) th r
noncomputable def kmY (h : zH) (p k s : Int32) (K : Int32 → Nat) (cs : Int32 → List Nat) (cl : Int32 → Nat → rCt) (j : Nat) : Prop := ¬ sK (tA h 148) (tA h 149) (tA h 150) (tA h 145) (tA h 146) (tA h 147) (tA h 151) p k s (Int32.ofNat j) 1 (tvI (tF h 111 51)).toNatClampNeg = -1 ∧ ∃ r : Int32, MUm h k K cs cl s.toNatClampNeg j r ∧ (sK (tA h 148) (tA h 149) (tA h 150) (tA h 145) (tA h 146) (tA h 147) (tA h 151) p k s (Int32.ofNat j) 1 (tvI (tF h 111 51)).toNatClampNeg).toInt ≤ r.toInt
noncomputable def kmN (h : zH) (p k s : Int32) (K : Int32 → Nat) (cs : Int32 → List Nat) (cl : Int32 → Nat → rCt) (j : Nat) : Prop := sK (tA h 148) (tA h 149) (tA h 150) (tA h 145) (tA h 146) (tA h 147) (tA h 151) p k s (Int32.ofNat j) 1 (tvI (tF h 111 51)).toNatClampNeg = -1 ∨ ∃ r : Int32, MUm h k K cs cl s.toNatClampNeg j r ∧ ¬ (sK (tA h 148) (tA h 149) (tA h 150) (tA h 145) (tA h 146) (tA h 147) (tA h 151) p k s (Int32.ofNat j) 1 (tvI (tF h 111 51)).toNatClampNeg).toInt ≤ r.toInt
theorem rIm.fr {h h2 : zH} {y : Int32} {K : Nat} {cs : List Nat} {cl : Nat → rCt} (D : rIm h y K cs cl) (k : lFr h h2) : rIm h2 y K cs cl := rIm_fr D (fun p _ _ => congrFun k.2.2.1 p)
theorem MU_fr {h h1 : zH} {k : Int32} (e1 : tA h1 = tA h) (e2 : tF h1 = tF h) : mK9 h1 = mK9 h ∧ tK9 h1 = tK9 h ∧ mF9 h1 = mF9 h ∧ mD9 h1 = mD9 h ∧ mT9 h1 = mT9 h := by
  refine ⟨?_, ?_, ?_, ?_, ?_⟩ <;> funext
  · unfold mK9; rw [e1]
  · unfold tK9; rw [e1]
  · unfold mF9; rw [e1]
  · unfold mD9; rw [e1]
  · unfold mT9; rw [e1]
theorem g_knewThat {G : zG} (hG : G.1 = zProg) {h : zH} {p k s : Int32} {K : Int32 → Nat} {cs : Int32 → List Nat} {cl : Int32 → Nat → rCt} (hs : tSh h) (hss : 0 ≤ s.toInt ∧ s.toInt ≤ 2) (h1n : 0 ≤ (tvI (tF h 111 1)).toInt ∧ (tvI (tF h 111 1)).toInt ≤ 599) (h51 : 0 ≤ (tvI (tF h 111 51)).toInt) (hn : 0 ≤ (tvI (tF h 111 30)).toInt) (h5 : 0 ≤ (tvI (tF h 111 5)).toInt ∧ (tvI (tF h 111 5)).toInt ≤ 300) (h59 : 0 ≤ (tvI (tF h 111 59)).toInt ∧ (tvI (tF h 111 59)).toInt ≤ 200) (h156 : ∀ i, i < 200 → 0 ≤ (tA h 156 i).toInt ∧ (tA h 156 i).toInt ≤ 9) (h133 : ∀ i, i < 5000 → 0 ≤ (tA h 133 i).toInt ∧ (tA h 133 i).toInt ≤ 14) (h134 : ∀ i, i < 5000 → 0 ≤ (tA h 134 i).toInt ∧ (tA h 134 i).toInt ≤ 99999) (h135 : ∀ i, i < 120 → 0 ≤ (tA h 135 i).toInt ∧ (tA h 135 i).toInt ≤ 3) (h136 : ∀ i, i < 120 → 0 ≤ (tA h 136 i).toInt ∧ (tA h 136 i).toInt ≤ 99999) (h137 : ∀ i, i < 120 → 0 ≤ (tA h 137 i).toInt ∧ (tA h 137 i).toInt ≤ 410) (h138 : ∀ i, i < 120 → 0 ≤ (tA h 138 i).toInt ∧ (tA h 138 i).toInt ≤ 410) (h139 : ∀ i, i < 120 → 0 ≤ (tA h 139 i).toInt ∧ (tA h 139 i).toInt ≤ 410) (D : ∀ m : Int32, rIm h (sRI (tA h 141) m (tvI (tF h 111 30)).toNatClampNeg) (K m) (cs m) (cl m)) : tC zTt G 242 [.ref 111, .int p, .int k, .int s] h (fun w h2 => lFr h h2 ∧ fMo (kmY h p k s K cs cl) (kmN h p k s K cs cl) (tvI (tF h 111 1)).toInt w) := by
  refine tC_in (by rw [hG]; rfl) (fun dp => ?_)
  refine tw_push rfl ?_
  refine tw_istore rfl ?_
  refine tG_loop (zW_mono zTt G dp) (zW_conj zTt G dp) (V := fun pc L st h9 _ _ => pc = 3 ∧ st = [] ∧ ∃ (h1 : zH) (j : Nat) (z : Int32) (l5 : Option Value), h1 = h9 ∧ lFr h h1 ∧ z.toInt = (j : Int) ∧ (j : Int) ≤ (tvI (tF h 111 1)).toInt + 1 ∧ (∀ i, i < j → kmN h p k s K cs cl i) ∧ L = [some (.ref 111), some (.int p), some (.int k), some (.int s), some (.int z), l5]) ?_ (⟨rfl, rfl, h, 0, 0, _, rfl, ⟨hs, rfl, rfl, rfl, rfl⟩, rfl, by show (0 : Int) ≤ _; omega, fun i hi => absurd hi (Nat.not_lt_zero _), rfl⟩)
  rintro _ _ _ _ _ _ ⟨rfl, rfl, h1, j, z, l5, rfl, hF, hz, hjn, hall, rfl⟩
  have e14 : (tvI (tF h1 111 1)).toInt = (tvI (tF h 111 1)).toInt := by rw [hF.2.1]
  refine tw_iload rfl rfl ?_
  refine tw_aload rfl rfl ?_
  refine tw_getS rfl (hi_111_1 hF.1) ?_
  refine tw_ic_gt rfl (fun q1482 => ?_) (fun q1482 => ?_)
  · try dsimp only [tvI_i, tvJ_j, tvR_r] at q1482
    refine tw_push rfl ?_
    exact tw_iret rfl ⟨hF, Or.inl ⟨rfl, fun i hi => hall i (by omega)⟩⟩
  · try dsimp only [tvI_i, tvJ_j, tvR_r] at q1482
    have zo : z = Int32.ofNat j := zof hz
    have hj6 : j < 600 := by omega
    have hz1 : (z + 1).toInt = ((j + 1 : Nat) : Int) := zincN hz (by omega)
    have eA := hF.2.2.1
    have eF := hF.2.1
    have hr0 : 0 ≤ (tvI (tF h1 111 51)).toInt := by rw [eF]; exact h51
    refine tw_aload rfl rfl ?_
    refine tw_iload rfl rfl ?_
    refine tw_iload rfl rfl ?_
    refine tw_iload rfl rfl ?_
    refine tw_iload rfl rfl ?_
    refine tw_push rfl ?_
    refine tw_virt5 rfl (g_knewOf hG hF.1 hr0) (fun wp1483 hp1483 p1483 => ?_)
    obtain ⟨rfl, e9⟩ := p1483
    obtain rfl := e9.symm
    rw [eA, eF]
    refine tw_istore rfl ?_
    refine tw_iload rfl rfl ?_
    refine tw_push rfl ?_
    refine tw_ic_eq rfl (fun q1484 => ?_) (fun q1484 => ?_)
    · try dsimp only [tvI_i, tvJ_j, tvR_r] at q1484
      have q1484i := zeqi (Y := (-1)) (by decide) q1484
      refine tw_iinc rfl rfl ?_
      refine tw_goto rfl ?_
      have hno : kmN h p k s K cs cl j := Or.inl (by rw [← zo]; exact q1484)
      exact tG_cut (zW_mono zTt G dp) (Or.inr ⟨rfl, rfl, _, j + 1, z + 1, _, rfl, hF, hz1, by omega, fun i hi => (Classical.em (i = j)).elim (fun w => by rw [w]; exact hno) (fun w => hall i (by omega)), rfl⟩)
    · try dsimp only [tvI_i, tvJ_j, tvR_r] at q1484
      have q1484i := zneq (Y := (-1)) (by decide) q1484
      refine tw_iload rfl rfl ?_
      refine tw_aload rfl rfl ?_
      refine tw_iload rfl rfl ?_
      refine tw_iload rfl rfl ?_
      refine tw_iload rfl rfl ?_
      refine tw_virt3 rfl (g_mustOf hG hF.1 (K := K z) (cs := cs z) (cl := cl z) (th := s.toNatClampNeg) (by rw [eF]; exact hn) (by rw [eA, eF]; exact (D z).fr hF) (zclx (by omega)).symm (by rw [zclE]; omega) (by rw [eF]; exact h5) (by rw [eF]; exact h59) (by rw [eA]; exact h156) (by rw [eA]; exact h133) (by rw [eA]; exact h134) (by rw [eA]; exact h135) (by rw [eA]; exact h136) (by rw [eA]; exact h137) (by rw [eA]; exact h138) (by rw [eA]; exact h139)) (fun wp1485 hp1485 p1485 => ?_)
      obtain ⟨LM, r, rfl, hm⟩ := p1485
      have hF2 := lFr_t hF LM
      obtain ⟨f1, f2, f3, f4, f5⟩ := MU_fr (k := k) eA eF
      rw [f1, f2, f3, f4, f5, eA, eF, zo] at hm
      have hMU : MUm h k K cs cl s.toNatClampNeg j r := hm
      refine tw_ic_gt rfl (fun q1486 => ?_) (fun q1486 => ?_)
      · try dsimp only [tvI_i, tvJ_j, tvR_r] at q1486
        refine tw_iinc rfl rfl ?_
        refine tw_goto rfl ?_
        have hno : kmN h p k s K cs cl j := Or.inr ⟨r, hMU, by rw [← zo]; omega⟩
        exact tG_cut (zW_mono zTt G dp) (Or.inr ⟨rfl, rfl, _, j + 1, z + 1, _, rfl, hF2, hz1, by omega, fun i hi => (Classical.em (i = j)).elim (fun w => by rw [w]; exact hno) (fun w => hall i (by omega)), rfl⟩)
      · try dsimp only [tvI_i, tvJ_j, tvR_r] at q1486
        refine tw_iload rfl rfl ?_
        exact tw_iret rfl ⟨hF2, Or.inr ⟨j, by omega, ⟨by rw [← zo]; exact q1484, r, hMU, by rw [← zo]; omega⟩, hall, congrArg (fun x => some (Value.int x)) zo⟩⟩
theorem g_knewFails {G : zG} (hG : G.1 = zProg) {h : zH} {p k s : Int32} {K : Int32 → Nat} {cs : Int32 → List Nat} {cl : Int32 → Nat → rCt} (hs : tSh h) (hk2 : 0 ≤ (tvI (tF h 111 2)).toInt) (hk3 : 0 ≤ (tvI (tF h 111 3)).toInt) (h1n : 0 ≤ (tvI (tF h 111 1)).toInt ∧ (tvI (tF h 111 1)).toInt ≤ 599) (h51 : 0 ≤ (tvI (tF h 111 51)).toInt) (hn : 0 ≤ (tvI (tF h 111 30)).toInt) (h5 : 0 ≤ (tvI (tF h 111 5)).toInt ∧ (tvI (tF h 111 5)).toInt ≤ 300) (h59 : 0 ≤ (tvI (tF h 111 59)).toInt ∧ (tvI (tF h 111 59)).toInt ≤ 200) (h156 : ∀ i, i < 200 → 0 ≤ (tA h 156 i).toInt ∧ (tA h 156 i).toInt ≤ 9) (h133 : ∀ i, i < 5000 → 0 ≤ (tA h 133 i).toInt ∧ (tA h 133 i).toInt ≤ 14) (h134 : ∀ i, i < 5000 → 0 ≤ (tA h 134 i).toInt ∧ (tA h 134 i).toInt ≤ 99999) (h135 : ∀ i, i < 120 → 0 ≤ (tA h 135 i).toInt ∧ (tA h 135 i).toInt ≤ 3) (h136 : ∀ i, i < 120 → 0 ≤ (tA h 136 i).toInt ∧ (tA h 136 i).toInt ≤ 99999) (h137 : ∀ i, i < 120 → 0 ≤ (tA h 137 i).toInt ∧ (tA h 137 i).toInt ≤ 410) (h138 : ∀ i, i < 120 → 0 ≤ (tA h 138 i).toInt ∧ (tA h 138 i).toInt ≤ 410) (h139 : ∀ i, i < 120 → 0 ≤ (tA h 139 i).toInt ∧ (tA h 139 i).toInt ≤ 410) (D : ∀ m : Int32, rIm h (sRI (tA h 141) m (tvI (tF h 111 30)).toNatClampNeg) (K m) (cs m) (cl m)) : tC zTt G 243 [.ref 111, .int p, .int k, .int s] h (fun w h2 => (((0 ≤ p.toInt ∧ p.toInt < (tvI (tF h 111 2)).toInt) ∧ (0 ≤ k.toInt ∧ k.toInt < (tvI (tF h 111 3)).toInt) ∧ (0 ≤ s.toInt ∧ s.toInt ≤ 2)) ∧ fMo (kmY h p k s K cs cl) (kmN h p k s K cs cl) (tvI (tF h 111 1)).toInt w) ∨ (¬ ((0 ≤ p.toInt ∧ p.toInt < (tvI (tF h 111 2)).toInt) ∧ (0 ≤ k.toInt ∧ k.toInt < (tvI (tF h 111 3)).toInt) ∧ (0 ≤ s.toInt ∧ s.toInt ≤ 2)) ∧ w = some (.int (-2)))) := by
  refine tC_in (by rw [hG]; rfl) (fun dp => ?_)
  refine tw_aload rfl rfl ?_
  refine tw_iload rfl rfl ?_
  refine tw_virt1 rfl (g_isPerson hG hs hk2) (fun w9 h9 p1487 => ?_)
  obtain ⟨⟨p1487, rfl⟩ | ⟨p1487, rfl⟩, e9⟩ := p1487
  · try dsimp only [tvI_i, tvJ_j, tvR_r] at p1487
    obtain rfl := e9.symm
    refine tw_if_eq rfl (fun z => absurd z (by decide)) (fun _ => ?_)
    refine tw_aload rfl rfl ?_
    refine tw_iload rfl rfl ?_
    refine tw_virt1 rfl (g_isKind hG hs hk3) (fun w9 h9 p1488 => ?_)
    obtain ⟨⟨p1488, rfl⟩ | ⟨p1488, rfl⟩, e9⟩ := p1488
    · try dsimp only [tvI_i, tvJ_j, tvR_r] at p1488
      obtain rfl := e9.symm
      refine tw_if_eq rfl (fun z => absurd z (by decide)) (fun _ => ?_)
      refine tw_iload rfl rfl ?_
      refine tw_stat1 rfl (g_isSort hG) (fun w9 h9 p1489 => ?_)
      obtain ⟨⟨p1489, rfl⟩ | ⟨p1489, rfl⟩, e9⟩ := p1489
      · try dsimp only [tvI_i, tvJ_j, tvR_r] at p1489
        obtain rfl := e9.symm
        refine tw_if_eq rfl (fun z => absurd z (by decide)) (fun _ => ?_)
        refine tw_aload rfl rfl ?_
        refine tw_iload rfl rfl ?_
        refine tw_iload rfl rfl ?_
        refine tw_iload rfl rfl ?_
        refine tw_virt3 rfl (g_knewThat hG hs (by omega) h1n h51 hn h5 h59 h156 h133 h134 h135 h136 h137 h138 h139 D) (fun wp1490 hp1490 p1490 => ?_)
        obtain ⟨-, p1490⟩ := p1490
        obtain ⟨x9, rfl⟩ : ∃ x9, wp1490 = some (.int x9) := by rcases p1490 with ⟨z, -⟩ | ⟨j, -, -, -, z⟩ <;> exact ⟨_, z⟩
        refine tw_goto rfl ?_
        exact tw_iret rfl (Or.inl ⟨by omega, p1490⟩)
      · try dsimp only [tvI_i, tvJ_j, tvR_r] at p1489
        obtain rfl := e9.symm
        refine tw_if_eq rfl (fun _ => ?_) (fun z => absurd z (by decide))
        refine tw_push rfl ?_
        exact tw_iret rfl (Or.inr ⟨by omega, rfl⟩)
    · try dsimp only [tvI_i, tvJ_j, tvR_r] at p1488
      obtain rfl := e9.symm
      refine tw_if_eq rfl (fun _ => ?_) (fun z => absurd z (by decide))
      refine tw_push rfl ?_
      exact tw_iret rfl (Or.inr ⟨by omega, rfl⟩)
  · try dsimp only [tvI_i, tvJ_j, tvR_r] at p1487
    obtain rfl := e9.symm
    refine tw_if_eq rfl (fun _ => ?_) (fun z => absurd z (by decide))
    refine tw_push rfl ?_
    exact tw_iret rfl (Or.inr ⟨by omega, rfl⟩)
noncomputable def ph_kfc (p k s : Int32) (h : zH) (w : Option Value) (_h2 : zH) : Prop := (((0 ≤ p.toInt ∧ p.toInt < (tvI (tF h 36 2)).toInt) ∧ (0 ≤ k.toInt ∧ k.toInt < (tvI (tF h 1 6)).toInt) ∧ (0 ≤ s.toInt ∧ s.toInt ≤ 2)) ∧ fMo (kfY h ((1 : Int64) <<< (p.toInt64 &&& 63)) k s (fun j => bN (wK h k) (tK9 h) (tvI (tF h 36 4)).toNatClampNeg (j : Int)) (fun j => bN (wF h k) (tF9 h) (tvI (tF h 63 8)).toNatClampNeg (j : Int)) (fun j => bN (wD h k) (tF9 h) (tvI (tF h 63 8)).toNatClampNeg (j : Int)) (fun m => rKn h (sRI (tA h 49) m (tvI (tF h 48 3)).toNatClampNeg)) (fun m => rCn h (sRI (tA h 49) m (tvI (tF h 48 3)).toNatClampNeg)) (fun m => rLn h (sRI (tA h 49) m (tvI (tF h 48 3)).toNatClampNeg))) (kfN h ((1 : Int64) <<< (p.toInt64 &&& 63)) k s (fun j => bN (wK h k) (tK9 h) (tvI (tF h 36 4)).toNatClampNeg (j : Int)) (fun j => bN (wF h k) (tF9 h) (tvI (tF h 63 8)).toNatClampNeg (j : Int)) (fun j => bN (wD h k) (tF9 h) (tvI (tF h 63 8)).toNatClampNeg (j : Int)) (fun m => rKn h (sRI (tA h 49) m (tvI (tF h 48 3)).toNatClampNeg)) (fun m => rCn h (sRI (tA h 49) m (tvI (tF h 48 3)).toNatClampNeg)) (fun m => rLn h (sRI (tA h 49) m (tvI (tF h 48 3)).toNatClampNeg))) (tvI (tF h 0 14)).toInt w) ∨ (¬ ((0 ≤ p.toInt ∧ p.toInt < (tvI (tF h 36 2)).toInt) ∧ (0 ≤ k.toInt ∧ k.toInt < (tvI (tF h 1 6)).toInt) ∧ (0 ≤ s.toInt ∧ s.toInt ≤ 2)) ∧ w = some (.int (-2)))
noncomputable def ph_kfm (p k s : Int32) (h : zH) (_w : Option Value) (h2 : zH) (w : Option Value) (_h3 : zH) : Prop := (((0 ≤ p.toInt ∧ p.toInt < (tvI (tF h2 111 2)).toInt) ∧ (0 ≤ k.toInt ∧ k.toInt < (tvI (tF h2 111 3)).toInt) ∧ (0 ≤ s.toInt ∧ s.toInt ≤ 2)) ∧ fMo (kmY h2 p k s (fun m => rKn h (sRI (tA h 49) m (tvI (tF h 48 3)).toNatClampNeg)) (fun m => rCn h (sRI (tA h 49) m (tvI (tF h 48 3)).toNatClampNeg)) (fun m => rLn h (sRI (tA h 49) m (tvI (tF h 48 3)).toNatClampNeg))) (kmN h2 p k s (fun m => rKn h (sRI (tA h 49) m (tvI (tF h 48 3)).toNatClampNeg)) (fun m => rCn h (sRI (tA h 49) m (tvI (tF h 48 3)).toNatClampNeg)) (fun m => rLn h (sRI (tA h 49) m (tvI (tF h 48 3)).toNatClampNeg))) (tvI (tF h2 111 1)).toInt w) ∨ (¬ ((0 ≤ p.toInt ∧ p.toInt < (tvI (tF h2 111 2)).toInt) ∧ (0 ≤ k.toInt ∧ k.toInt < (tvI (tF h2 111 3)).toInt) ∧ (0 ≤ s.toInt ∧ s.toInt ≤ 2)) ∧ w = some (.int (-2)))
theorem g_knewFD {G : zG} (hG : G.1 = zProg) {p k s : Int32} {τ τ2 : List Nat} {h h2 : zH} {w : Option Value} (hB : zBs G.2.2.2 τ h) (hB2 : zBs G.2.2.2 τ2 h2) (hR : R_rcd h) (hN : R_rules h) (hF : R_froms h) (e30 : tF h2 111 30 = tF h 111 30) (e141 : tA h2 141 = tA h 141) (o133 : ∀ p, 133 ≤ p → p ≤ 140 → tA h2 p = tA h p) : tC zTt G 243 [.ref 111, .int p, .int k, .int s] h2 (fun w2 h3 => ph_kfm p k s h w h2 w2 h3) := by
  unfold R_rules at hN
  unfold R_froms at hF
  refine (g_knewFails hG (zBs_sh hB2) (kb_111_2 hB2).1 (kb_111_3 hB2).1 (kb_111_1 hB2) (kb_111_51 hB2).1 (kb_111_30 hB2).1 (kb_111_5 hB2) (kb_111_59 hB2) (ka_156 hB2).2 (ka_133 hB2).2 (ka_134 hB2).2 (ka_135 hB2).2 (ka_136 hB2).2 (ka_137 hB2).2 (ka_138 hB2).2 (ka_139 hB2).2 (K := fun m => rKn h (sRI (tA h 49) m (tvI (tF h 48 3)).toNatClampNeg)) (cs := fun m => rCn h (sRI (tA h 49) m (tvI (tF h 48 3)).toNatClampNeg)) (cl := fun m => rLn h (sRI (tA h 49) m (tvI (tF h 48 3)).toNatClampNeg)) (fun m => ?_)).mono (fun w2 h3 z => z)
  have ey : sRI (tA h2 141) m (tvI (tF h2 111 30)).toNatClampNeg = (sRI (tA h 49) m (tvI (tF h 48 3)).toNatClampNeg) := by rw [e30, e141, ← hN, ← hF]
  rw [ey]
  exact rIm_fr (rIn_D (m := m) hB hR).2 o133
theorem a_knewF {xs : Nat → Int32} {τ : List Nat} {p k s : Int32} {h h2 h3 : zH} {w w2 : Option Value} (hB : zBs xs τ h) (hR : R_rcd h) (hPe : R_people h) (hK : R_kinds h) (hC : R_cars h) (hX : R_crashes h) (hNo : R_now h) (hRe : R_readings h) (hf : R_kfirm h) (hM : R_cmt h) (h2k : R_ck2 h) (hct : R_ctold h) (hcd : R_cdead h) (hcb : R_cburn h) (q1 : R_rtest h) (q2 : R_rby h) (q3 : R_rin h) (q4 : R_tkind h) (q5 : R_tsort h) (q6 : R_tspeed h) (q7 : R_tburn h) (e1 : tF h2 111 1 = tF h 111 1) (e2 : tF h2 111 2 = tF h 111 2) (e3 : tF h2 111 3 = tF h 111 3) (e5 : tF h2 111 5 = tF h 111 5) (e51 : tF h2 111 51 = tF h 111 51) (e59 : tF h2 111 59 = tF h 111 59) (o114 : tA h2 114 = tA h 114) (o121 : tA h2 121 = tA h 121) (o122 : tA h2 122 = tA h 122) (o123 : tA h2 123 = tA h 123) (o145 : tA h2 145 = tA h 145) (o146 : tA h2 146 = tA h 146) (o147 : tA h2 147 = tA h 147) (o148 : tA h2 148 = tA h 148) (o149 : tA h2 149 = tA h 149) (o150 : tA h2 150 = tA h 150) (o151 : tA h2 151 = tA h 151) (o152 : tA h2 152 = tA h 152) (o156 : tA h2 156 = tA h 156) (o157 : tA h2 157 = tA h 157) (o158 : tA h2 158 = tA h 158) (k1 : ph_kfc p k s h w h2) (k2 : ph_kfm p k s h w h2 w2 h3) : w2 = w := by
  unfold R_people at hPe
  unfold R_kinds at hK
  unfold R_cars at hC
  unfold R_crashes at hX
  unfold R_now at hNo
  unfold R_readings at hRe
  unfold R_kfirm at hf
  unfold R_ctold at hct
  unfold R_cdead at hcd
  unfold R_cburn at hcb
  unfold R_rtest at q1
  unfold R_rby at q2
  unfold R_rin at q3
  unfold R_tkind at q4
  unfold R_tsort at q5
  unfold R_tspeed at q6
  unfold R_tburn at q7
  have b4 := kb_36_4 hB
  have b8 := kb_63_8 hB
  have b14 := kb_0_14 hB
  have b54 := kb_54_9 hB
  have b362 := kb_36_2 hB
  unfold ph_kfm at k2
  rw [e1, e2, e3, ← hPe, ← hK, ← hNo] at k2
  rcases k1 with ⟨a1, k1⟩ | ⟨a1, rfl⟩ <;> rcases k2 with ⟨d1, k2⟩ | ⟨d1, rfl⟩
  · -- the same number for a month
    have uq : ∀ (j : Nat) (r r2 : Int32), (j : Int) ≤ (tvI (tF h 0 14)).toInt → MUc h k (fun j => bN (wK h k) (tK9 h) (tvI (tF h 36 4)).toNatClampNeg (j : Int)) (fun j => bN (wF h k) (tF9 h) (tvI (tF h 63 8)).toNatClampNeg (j : Int)) (fun j => bN (wD h k) (tF9 h) (tvI (tF h 63 8)).toNatClampNeg (j : Int)) (fun m => rKn h (sRI (tA h 49) m (tvI (tF h 48 3)).toNatClampNeg)) (fun m => rCn h (sRI (tA h 49) m (tvI (tF h 48 3)).toNatClampNeg)) (fun m => rLn h (sRI (tA h 49) m (tvI (tF h 48 3)).toNatClampNeg)) s.toNatClampNeg j r → MUm h2 k (fun m => rKn h (sRI (tA h 49) m (tvI (tF h 48 3)).toNatClampNeg)) (fun m => rCn h (sRI (tA h 49) m (tvI (tF h 48 3)).toNatClampNeg)) (fun m => rLn h (sRI (tA h 49) m (tvI (tF h 48 3)).toNatClampNeg)) s.toNatClampNeg j r2 → r2 = r := by
      intro j r r2 hj m1 m2
      have hjo : (Int32.ofNat j).toInt = (j : Int) := yofN (by omega)
      obtain ⟨W, a2, a3⟩ := m1
      have c1 := cnt_K (h := h) (h2 := h2) (k := k) (m := Int32.ofNat j) (n := (tvI (tF h 36 4)).toNatClampNeg) o121 o122 o123 (fun i hi => hM i (by rw [← hC]; rw [zclE] at hi; omega))
      have c2 := cnt_F (h := h) (h2 := h2) (k := k) (t := (Int32.ofNat j).toInt) (n := (tvI (tF h 63 8)).toNatClampNeg) (fun i hi => by rw [o121, o152]; exact (h2k i (by rw [← hX]; rw [zclE] at hi; omega)).1) (o158.trans hcb.symm) (o157.trans hct.symm) (o156.trans hcd.symm)
      have D := (rIn_D (m := Int32.ofNat j) hB hR).1
      unfold MUm at m2
      rw [e5, e59, o114, ← hC, ← hX, ← hf, ← c1, ← c2.1, ← c2.2, hjo] at m2
      dsimp only at a2 a3 m2
      rcases m2 with ⟨k0, d2⟩ | ⟨W2, d2, d3⟩
      · rcases a3 with ⟨a3, -⟩ | ⟨i, hi, -⟩
        · rw [d2, a3]
        · omega
      · by_cases k0 : rKn h (sRI (tA h 49) (Int32.ofNat j) (tvI (tF h 48 3)).toNatClampNeg) = 0
        · rcases a3 with ⟨a3, -⟩ | ⟨i, hi, -⟩
          · rcases d3 with ⟨d3, -⟩ | ⟨i, hi, -⟩
            · rw [d3, a3]
            · omega
          · omega
        · exact muO_u (qS_u a2 d2) (rIc_ok D).2 ((rIc_ok D).1.resolve_left k0) (by rw [zclE]; omega) a3 d3
    -- the least of the readings
    have ls : ∀ j : Nat, (j : Int) ≤ (tvI (tF h 0 14)).toInt → (sK (tA h2 148) (tA h2 149) (tA h2 150) (tA h2 145) (tA h2 146) (tA h2 147) (tA h2 151) p k s (Int32.ofNat j) 1 (tvI (tF h2 111 51)).toNatClampNeg = -1 ∧ mnB (rdP h ((1 : Int64) <<< (p.toInt64 &&& 63)) k s) (rdT h) (rdS h) (tvI (tF h 54 9)).toNatClampNeg (j : Int) = 201) ∨ (0 ≤ (sK (tA h2 148) (tA h2 149) (tA h2 150) (tA h2 145) (tA h2 146) (tA h2 147) (tA h2 151) p k s (Int32.ofNat j) 1 (tvI (tF h2 111 51)).toNatClampNeg).toInt ∧ (sK (tA h2 148) (tA h2 149) (tA h2 150) (tA h2 145) (tA h2 146) (tA h2 147) (tA h2 151) p k s (Int32.ofNat j) 1 (tvI (tF h2 111 51)).toNatClampNeg).toInt ≤ 200 ∧ mnB (rdP h ((1 : Int64) <<< (p.toInt64 &&& 63)) k s) (rdT h) (rdS h) (tvI (tF h 54 9)).toNatClampNeg (j : Int) = (sK (tA h2 148) (tA h2 149) (tA h2 150) (tA h2 145) (tA h2 146) (tA h2 147) (tA h2 151) p k s (Int32.ofNat j) 1 (tvI (tF h2 111 51)).toNatClampNeg).toInt) := by
      intro j hj
      have hjo : (Int32.ofNat j).toInt = (j : Int) := yofN (by omega)
      rw [e51, o145, o146, o147, o148, o149, o150, o151, ← hRe, ← q1, ← q2, ← q3, ← q4, ← q5, ← q6, ← q7, ← hjo]
      refine sK_mnB (fun i hi => ?_) (fun i _ => rfl) (fun i hi => ?_)
      · have hi : i < 600 := by rw [zclE] at hi; omega
        have r61 := (ka_61 hB).2 i hi
        have r60 := (ka_60 hB).2 i hi
        have r58 := (ka_58 hB).2 (tA h 60 i).toNatClampNeg (by rw [zclE]; omega)
        have tb := tB_one (p := p) (q := tA h 61 i) (by omega) (by omega)
        unfold tB at tb
        rw [decide_eq_true_eq, tb]
        constructor
        · rintro ⟨u1, ⟨u2, u3⟩, u4⟩
          exact ⟨u1, u2, u3, zone r58 u4⟩
        · rintro ⟨u1, u2, u3, u4⟩
          exact ⟨u1, ⟨u2, u3⟩, by rw [u4]; decide⟩
      · have hi : i < 600 := by rw [zclE] at hi; omega
        have r60 := (ka_60 hB).2 i hi
        exact ⟨rfl, (ka_57 hB).2 _ (by rw [zclE]; omega)⟩
    refine fMo_u k1 k2 (fun j hj y1 n2 => ?_) (fun j hj y2 n1 => ?_)
    · obtain ⟨y1, r, y2, y3⟩ := y1
      rcases n2 with n2 | ⟨r2, n2, n3⟩
      · rcases ls j hj with ⟨-, l2⟩ | ⟨l1, -, -⟩
        · omega
        · rw [n2] at l1
          exact absurd l1 (by decide)
      · have e := uq j r r2 hj y2 n2
        subst e
        rcases ls j hj with ⟨l1, l2⟩ | ⟨-, -, l3⟩ <;> omega
    · obtain ⟨y1, r2, y2, y3⟩ := y2
      rcases n1 with n1 | ⟨r, n2, n3⟩
      · rcases ls j hj with ⟨l1, -⟩ | ⟨-, l2, l3⟩
        · exact y1 l1
        · omega
      · have e := uq j r r2 hj n2 y2
        subst e
        rcases ls j hj with ⟨l1, -⟩ | ⟨-, -, l3⟩
        · exact y1 l1
        · omega
  · exact absurd a1 d1
  · exact absurd d1 a1
  · rfl
theorem tn_110 {xs : Nat → Int32} {τ : List Nat} {h : zH} (hB : zBs xs τ h) : tN h 110 = 600 := by
  obtain ⟨a, b, -⟩ := tkd_a hB (p := 110) (t := 78) rfl rfl
  omega
theorem f_partsMended {G : zG} (hG : G.1 = zProg) {h : zH} {r q : Nat} {m : Int32} (h10 : tF h r 10 = .ref q) : tC zTt G 1 [.ref r, .int m] h (fun w h2 => w = some (.int (sPB (tA h q) m 12)) ∧ h2 = h) := by
  refine tC_in (by rw [hG]; rfl) (fun dp => ?_)
  have h12 : (12 : Int32).toInt = 12 := rfl
  refine tw_push rfl ?_
  refine tw_istore rfl ?_
  refine tw_push rfl ?_
  refine tw_istore rfl ?_
  refine tG_loop (zW_mono zTt G dp) (zW_conj zTt G dp) (V := fun pc L st h9 _ _ => pc = 4 ∧ st = [] ∧ h = h9 ∧ ∃ (n : Nat) (x y : Int32), x.toInt = n ∧ (n : Int) ≤ 12 ∧ y = sPB (tA h q) m n ∧ L = [some (.ref r), some (.int m), some (.int y), some (.int x)]) ?_ (⟨rfl, rfl, rfl, 0, 0, 0, rfl, by decide, rfl, rfl⟩)
  rintro _ _ _ _ _ _ ⟨rfl, rfl, rfl, n, x, y, hx, hn, hy, rfl⟩
  refine tw_iload rfl rfl ?_
  refine tw_push rfl ?_
  refine tw_ic_ge rfl (fun q1491 => ?_) (fun q1491 => ?_)
  · try dsimp only [tvI_i, tvJ_j, tvR_r] at q1491
    refine tw_iload rfl rfl ?_
    exact tw_iret rfl ⟨(by rw [show n = 12 from by omega] at hy; exact congrArg (fun z => some (Value.int z)) hy), rfl⟩
  · try dsimp only [tvI_i, tvJ_j, tvR_r] at q1491
    refine tw_aload rfl rfl ?_
    refine tw_getS rfl h10 ?_
    refine tw_iload rfl rfl ?_
    refine tw_iald rfl (fun f1492 => ?_)
    refine tw_iload rfl rfl ?_
    refine tw_ic_gt rfl (fun q1493 => ?_) (fun q1493 => ?_)
    · try dsimp only [tvI_i, tvJ_j, tvR_r] at q1493
      refine tw_iinc rfl rfl ?_
      refine tw_goto rfl ?_
      rw [zof_cl hx] at q1493
      exact tG_cut (zW_mono zTt G dp) (Or.inr ⟨rfl, rfl, rfl, n + 1, x + 1, _, zincL hx q1491, by omega, sPB_n hy q1493, rfl⟩)
    · try dsimp only [tvI_i, tvJ_j, tvR_r] at q1493
      refine tw_iload rfl rfl ?_
      refine tw_push rfl ?_
      refine tw_iload rfl rfl ?_
      refine tw_ishl rfl ?_
      refine tw_ior rfl ?_
      refine tw_istore rfl ?_
      refine tw_iinc rfl rfl ?_
      refine tw_goto rfl ?_
      rw [zof_cl hx] at q1493
      exact tG_cut (zW_mono zTt G dp) (Or.inr ⟨rfl, rfl, rfl, n + 1, x + 1, _, zincL hx q1491, by omega, sPB_y hx hy q1493, rfl⟩)
theorem f_partsOf {G : zG} (hG : G.1 = zProg) {h : zH} {r q : Nat} {k md m : Int32} (hs : tSh h) (hr : tRw h) (hp : 0 ≤ (tvI (tF h 1 7)).toInt) (h0 : tF h r 0 = .int k) (h1 : tF h r 1 = .int md) (h10 : tF h r 10 = .ref q) : tC zTt G 163 [.ref 0, .ref r, .int m] h (fun w h2 => w = some (.int (sPB (tA h (28 + (k).toNatClampNeg)) (md) (tvI (tF h 1 7)).toNatClampNeg ||| sPB (tA h (q)) (m) 12)) ∧ h2 = h) := by
  refine tC_in (by rw [hG]; rfl) (fun dp => ?_)
  refine tw_aload rfl rfl ?_
  refine tw_getS rfl (hs_0_0 hs) ?_
  refine tw_aload rfl rfl ?_
  refine tw_getS rfl h0 ?_
  refine tw_aload rfl rfl ?_
  refine tw_getS rfl h1 ?_
  refine tw_virt2 rfl (f_partsFitted hG hs hr hp) (fun w9 h9 p1494 => ?_)
  obtain ⟨rfl, e9⟩ := p1494
  obtain rfl := e9.symm
  refine tw_aload rfl rfl ?_
  refine tw_iload rfl rfl ?_
  refine tw_virt1 rfl (f_partsMended hG h10) (fun w9 h9 p1495 => ?_)
  obtain ⟨rfl, e9⟩ := p1495
  obtain rfl := e9.symm
  refine tw_ior rfl ?_
  exact tw_iret rfl ⟨rfl, rfl⟩
theorem g_partsOfCar {G : zG} (hG : G.1 = zProg) {h : zH} {c m : Int32} (hs : tSh h) (hm4 : 0 ≤ (tvI (tF h 111 4)).toInt ∧ (tvI (tF h 111 4)).toInt ≤ 12) (h83 : 0 ≤ (tvI (tF h 111 83)).toInt ∧ (tvI (tF h 111 83)).toInt ≤ 20) (hc : 0 ≤ c.toInt ∧ c.toInt < 300) (hK : 0 ≤ (tA h 121 c.toNatClampNeg).toInt ∧ (tA h 121 c.toNatClampNeg).toInt ≤ 7) : tC zTt G 189 [.ref 111, .int c, .int m] h (fun w h2 => w = some (.int (sPM (tA h 177) (tA h 176) (c).toNatClampNeg (m) (sPB (fun p => tA h 118 (12 * (tA h 121 (c).toNatClampNeg).toNatClampNeg + p)) (tA h 122 (c).toNatClampNeg) (tvI (tF h 111 4)).toNatClampNeg) (tvI (tF h 111 83)).toNatClampNeg)) ∧ h2 = h) := by
  refine tC_in (by rw [hG]; rfl) (fun dp => ?_)
  refine tw_aload rfl rfl ?_
  refine tw_aload rfl rfl ?_
  refine tw_getS rfl (hs_111_16 hs) ?_
  refine tw_iload rfl rfl ?_
  refine tw_iald rfl (fun f1496 => ?_)
  refine tw_aload rfl rfl ?_
  refine tw_getS rfl (hs_111_17 hs) ?_
  refine tw_iload rfl rfl ?_
  refine tw_iald rfl (fun f1497 => ?_)
  refine tw_virt2 rfl (g_partsOf hG hs hm4 hK) (fun w9 h9 p1498 => ?_)
  obtain ⟨rfl, e9⟩ := p1498
  obtain rfl := e9.symm
  refine tw_istore rfl ?_
  refine tw_push rfl ?_
  refine tw_istore rfl ?_
  refine tG_loop (zW_mono zTt G dp) (zW_conj zTt G dp) (V := fun pc L st h9 _ _ => pc = 20 ∧ st = [] ∧ h = h9 ∧ ∃ (n : Nat) (x y : Int32), x.toInt = n ∧ (n : Int) ≤ (tvI (tF h 111 83)).toInt ∧ y = sPM (tA h 177) (tA h 176) c.toNatClampNeg m (sPB (fun p => tA h 118 (12 * (tA h 121 c.toNatClampNeg).toNatClampNeg + p)) (tA h 122 c.toNatClampNeg) (tvI (tF h 111 4)).toNatClampNeg) n ∧ L = [some (.ref 111), some (.int c), some (.int m), some (.int y), some (.int x)]) ?_ (⟨rfl, rfl, rfl, 0, 0, _, rfl, h83.1, rfl, rfl⟩)
  rintro _ _ _ _ _ _ ⟨rfl, rfl, rfl, n, x, y, hx, hn, hy, rfl⟩
  refine tw_iload rfl rfl ?_
  refine tw_aload rfl rfl ?_
  refine tw_getS rfl (hi_111_83 hs) ?_
  refine tw_ic_ge rfl (fun q1499 => ?_) (fun q1499 => ?_)
  · try dsimp only [tvI_i, tvJ_j, tvR_r] at q1499
    refine tw_iload rfl rfl ?_
    exact tw_iret rfl ⟨(by rw [show n = (tvI (tF h 111 83)).toNatClampNeg from by rw [zclE]; omega] at hy; exact congrArg (fun z => some (Value.int z)) hy), rfl⟩
  · try dsimp only [tvI_i, tvJ_j, tvR_r] at q1499
    refine tw_iload rfl rfl ?_
    refine tw_aload rfl rfl ?_
    refine tw_getS rfl (hs_111_88 hs) ?_
    refine tw_push rfl ?_
    refine tw_iload rfl rfl ?_
    refine tw_imul rfl ?_
    refine tw_iload rfl rfl ?_
    refine tw_iadd rfl ?_
    refine tw_iald rfl (fun f1500 => ?_)
    refine tw_if_le rfl (fun q1501 => ?_) (fun q1501 => ?_)
    · try dsimp only [tvI_i, tvJ_j, tvR_r] at q1501
      refine tw_push rfl ?_
      refine tw_ior rfl ?_
      refine tw_istore rfl ?_
      refine tw_iinc rfl rfl ?_
      refine tw_goto rfl ?_
      have e9 : (300 * x + c).toNatClampNeg = 300 * n + c.toNatClampNeg := by rw [zmul3 (by omega) (by omega), zof_cl hx]
      rw [e9] at q1501
      exact tG_cut (zW_mono zTt G dp) (Or.inr ⟨rfl, rfl, rfl, n + 1, x + 1, _, zincL hx q1499, by omega, sPM_n hy (fun z => absurd z.1 (by omega)), rfl⟩)
    · try dsimp only [tvI_i, tvJ_j, tvR_r] at q1501
      refine tw_aload rfl rfl ?_
      refine tw_getS rfl (hs_111_88 hs) ?_
      refine tw_push rfl ?_
      refine tw_iload rfl rfl ?_
      refine tw_imul rfl ?_
      refine tw_iload rfl rfl ?_
      refine tw_iadd rfl ?_
      refine tw_iald rfl (fun f1502 => ?_)
      refine tw_push rfl ?_
      refine tw_isub rfl ?_
      refine tw_iload rfl rfl ?_
      refine tw_ic_gt rfl (fun q1503 => ?_) (fun q1503 => ?_)
      · try dsimp only [tvI_i, tvJ_j, tvR_r] at q1503
        refine tw_push rfl ?_
        refine tw_ior rfl ?_
        refine tw_istore rfl ?_
        refine tw_iinc rfl rfl ?_
        refine tw_goto rfl ?_
        have e9 : (300 * x + c).toNatClampNeg = 300 * n + c.toNatClampNeg := by rw [zmul3 (by omega) (by omega), zof_cl hx]
        rw [e9] at q1501
        rw [e9] at q1503
        exact tG_cut (zW_mono zTt G dp) (Or.inr ⟨rfl, rfl, rfl, n + 1, x + 1, _, zincL hx q1499, by omega, sPM_n hy (fun z => absurd z.2 (by omega)), rfl⟩)
      · try dsimp only [tvI_i, tvJ_j, tvR_r] at q1503
        refine tw_push rfl ?_
        refine tw_aload rfl rfl ?_
        refine tw_getS rfl (hs_111_87 hs) ?_
        refine tw_iload rfl rfl ?_
        refine tw_iald rfl (fun f1504 => ?_)
        refine tw_ishl rfl ?_
        refine tw_goto rfl ?_
        refine tw_ior rfl ?_
        refine tw_istore rfl ?_
        refine tw_iinc rfl rfl ?_
        refine tw_goto rfl ?_
        have e9 : (300 * x + c).toNatClampNeg = 300 * n + c.toNatClampNeg := by rw [zmul3 (by omega) (by omega), zof_cl hx]
        rw [e9] at q1501
        rw [e9] at q1503
        exact tG_cut (zW_mono zTt G dp) (Or.inr ⟨rfl, rfl, rfl, n + 1, x + 1, _, zincL hx q1499, by omega, sPM_y hx hy q1501 q1503, rfl⟩)
/-- the parts of a car, the class's and the reference's -/
theorem car_parts {xs : Nat → Int32} {τ : List Nat} {h : zH} {c m : Int32} {r : Nat} (hB : zBs xs τ h) (hC : R_cars h) (hP : R_parts h) (hF : R_fitted h) (hcmp : R_cmp h) (hc : 0 ≤ c.toInt ∧ c.toInt < (tvI (tF h 36 4)).toInt) (hr : tO h 39 c.toNatClampNeg = some r) (hm : m.toInt ≤ 599) : (sPB (tA h (28 + (tA h 121 c.toNatClampNeg).toNatClampNeg)) (tA h 122 c.toNatClampNeg) (tvI (tF h 1 7)).toNatClampNeg ||| sPB (tA h (r + 1)) (m) 12) = (sPM (tA h 177) (tA h 176) (c).toNatClampNeg (m) (sPB (fun p => tA h 118 (12 * (tA h 121 (c).toNatClampNeg).toNatClampNeg + p)) (tA h 122 (c).toNatClampNeg) (tvI (tF h 111 4)).toNatClampNeg) (tvI (tF h 111 83)).toNatClampNeg) := by
  have hn := kb_36_4 hB
  have h7 := kb_1_7 hB
  have h83 := kb_111_83 hB
  have hci : c.toNatClampNeg < 300 := by rw [zclE]; omega
  have a1 := (ka_121 hB).2 c.toNatClampNeg hci
  have a2 := (ka_122 hB).2 c.toNatClampNeg hci
  have hci2 : ((c.toNatClampNeg : Nat) : Int) < (tvI (tF h 36 4)).toInt := by rw [zclE]; omega
  unfold R_parts at hP
  rw [hP]
  have h4 := kb_111_4 hB
  refine parts_eq (by rw [zclE]; omega) (by rw [zclE]; omega) (fun p hp => hF _ (by rw [zclE]; omega) p hp) a2.2 hm (ka_176 hB).2 (fun p hp m2 hm2 => ?_)
  rw [show (((tvI (tF h 111 83)).toNatClampNeg : Nat) : Int) = (tvI (tF h 111 83)).toInt from zclx h83.1]
  exact (hcmp _ r hci2 hr).2 p hp m2 hm2
theorem f_askOfCrash {G : zG} (hG : G.1 = zProg) {h : zH} {c : Int32} {r q : Nat} {k md : Int32} {K : Int32 → Nat} {cs : Int32 → List Nat} {cl : Int32 → Nat → rCt} (hs : tSh h) (hL : R_cl h) (hg : ∀ i r : Nat, (i : Int) < (tvI (tF h 36 4)).toInt → tO h 39 i = some r → 182 ≤ r) (hK : R_ckind h) (hT : R_ctl h) (hn107 : tN h 107 = 600) (hn108 : tN h 108 = 600) (hn109 : tN h 109 = 600) (h123 : ∀ i, i < 300 → 0 ≤ (tA h 123 i).toInt ∧ (tA h 123 i).toInt ≤ 599) (h36 : 0 ≤ (tvI (tF h 36 4)).toInt ∧ (tvI (tF h 36 4)).toInt ≤ 300) (h67 : ∀ i, i < 200 → 0 ≤ (tA h 67 i).toInt ∧ (tA h 67 i).toInt ≤ 599) (h70 : ∀ i, i < 200 → 0 ≤ (tA h 70 i).toInt ∧ (tA h 70 i).toInt ≤ 9) (h63 : 0 ≤ (tvI (tF h 63 8)).toInt ∧ (tvI (tF h 63 8)).toInt ≤ 200) (hn110 : tN h 110 = 600) (h62 : ∀ i, i < 600 → 0 ≤ (tA h 62 i).toInt ∧ (tA h 62 i).toInt ≤ 599) (h9 : 0 ≤ (tvI (tF h 54 9)).toInt ∧ (tvI (tF h 54 9)).toInt ≤ 600) (hnow : 0 ≤ (tvI (tF h 0 14)).toInt ∧ (tvI (tF h 0 14)).toInt ≤ 599) (hn : 0 ≤ (tvI (tF h 48 3)).toInt) (h52 : tN h 52 = 12) (h53 : tN h 53 = 80) (hpe : 0 ≤ (tvI (tF h 36 2)).toInt ∧ (tvI (tF h 36 2)).toInt ≤ 60) (hrw0 : tRw h) (hp7 : 0 ≤ (tvI (tF h 1 7)).toInt ∧ (tvI (tF h 1 7)).toInt ≤ 12) (D : ∀ m : Int32, rIc h (sRI (tA h 49) m (tvI (tF h 48 3)).toNatClampNeg) (K m) (cs m) (cl m)) (hk8 : 0 ≤ k.toInt ∧ k.toInt ≤ 7) (hq : 110 < q) (h68 : 0 ≤ (tA h 68 c.toNatClampNeg).toInt ∧ (tA h 68 c.toNatClampNeg).toInt ≤ 2) (h0 : tF h r 0 = .int k) (h1 : tF h r 1 = .int md) (h10 : tF h r 10 = .ref q) : tC zTt G 166 [.ref 0, .int c, .ref r] h (fun w h2 => w = none ∧ jFr h h2 ∧ ∃ (P : Int64) (x9 : Int32), (∀ q : Int32, 0 ≤ q.toInt ∧ q.toInt < 64 → (tB P q ↔ q.toInt < (tvI (tF h 36 2)).toInt ∧ tA h 37 q.toNatClampNeg = tA h 3 (k).toNatClampNeg)) ∧ fMo (kfY h P k (tA h 68 c.toNatClampNeg) (fun j => bN (wK h k) (tK9 h) (tvI (tF h 36 4)).toNatClampNeg (j : Int)) (fun j => bN (wF h k) (tF9 h) (tvI (tF h 63 8)).toNatClampNeg (j : Int)) (fun j => bN (wD h k) (tF9 h) (tvI (tF h 63 8)).toNatClampNeg (j : Int)) K cs cl) (kfN h P k (tA h 68 c.toNatClampNeg) (fun j => bN (wK h k) (tK9 h) (tvI (tF h 36 4)).toNatClampNeg (j : Int)) (fun j => bN (wF h k) (tF9 h) (tvI (tF h 63 8)).toNatClampNeg (j : Int)) (fun j => bN (wD h k) (tF9 h) (tvI (tF h 63 8)).toNatClampNeg (j : Int)) K cs cl) (tvI (tF h 0 14)).toInt (some (.int x9)) ∧ jS (tJ h2 52) (tvI (tF h 0 14)).toInt64 k.toInt64 (tA h 3 (k).toNatClampNeg).toInt64 md.toInt64 (bN (wK h k) (tK9 h) (tvI (tF h 36 4)).toNatClampNeg (tvI (tF h 0 14)).toInt) (bN (wF h k) (tF9 h) (tvI (tF h 63 8)).toNatClampNeg (tvI (tF h 0 14)).toInt) (bN (wD h k) (tF9 h) (tvI (tF h 63 8)).toNatClampNeg (tvI (tF h 0 14)).toInt) (tA h 70 c.toNatClampNeg).toInt64 (tA h 69 c.toNatClampNeg).toInt64 (tA h 68 c.toNatClampNeg).toInt64 (kwW x9 (tA h 66 c.toNatClampNeg)) (lcC h k (sPB (tA h (28 + (k).toNatClampNeg)) (md) (tvI (tF h 1 7)).toNatClampNeg ||| sPB (tA h (q)) ((tA h 66 c.toNatClampNeg)) 12) (tA h 68 c.toNatClampNeg) (tA h 69 c.toNatClampNeg)).toInt64) := by
  refine tC_in (by rw [hG]; rfl) (fun dp => ?_)
  have g0 := h0
  have g1 := h1
  have g10 := h10
  refine tw_aload rfl rfl ?_
  refine tw_getS rfl (hs_0_5 hs) ?_
  refine tw_getS rfl (hs_63_4 hs) ?_
  refine tw_iload rfl rfl ?_
  refine tw_iald rfl (fun f1505 => ?_)
  refine tw_istore rfl ?_
  refine tw_aload rfl rfl ?_
  refine tw_getS rfl (hs_0_5 hs) ?_
  refine tw_getS rfl (hs_63_5 hs) ?_
  refine tw_iload rfl rfl ?_
  refine tw_iald rfl (fun f1506 => ?_)
  refine tw_istore rfl ?_
  refine tw_aload rfl rfl ?_
  refine tw_aload rfl rfl ?_
  refine tw_getS rfl g0 ?_
  refine tw_virt1 rfl (f_tally hG hs hL hg hK hT hn107 hn108 hn109 h123 h36 h67 h70 h63) (fun wp1507 hp1507 p1507 => ?_)
  obtain ⟨rfl, FT, T7, T8, T9⟩ := p1507
  have eA : ∀ p, p < 107 → tA hp1507 p = tA h p := fun p hp => FT.2.2.2.2.2 p (fun z => by omega)
  have eF : tF hp1507 = tF h := FT.2.1
  have eN : tN hp1507 = tN h := FT.2.2.2.2.1
  have g0 : tF hp1507 r 0 = .int k := by rw [eF]; exact h0
  have g1 : tF hp1507 r 1 = .int md := by rw [eF]; exact h1
  have g10 : tF hp1507 r 10 = .ref q := by rw [eF]; exact h10
  refine tw_aload rfl rfl ?_
  refine tw_aload rfl rfl ?_
  refine tw_getS rfl (hs_0_1 FT.1) ?_
  refine tw_aload rfl rfl ?_
  refine tw_getS rfl (hs_0_0 FT.1) ?_
  refine tw_getS rfl (hs_1_1 FT.1) ?_
  refine tw_aload rfl rfl ?_
  refine tw_getS rfl g0 ?_
  refine tw_iald rfl (fun f1508 => ?_)
  refine tw_virt1 rfl (f_peopleOf hG FT.1 (by rw [eF]; exact hpe)) (fun wp1509 hp1509 p1509 => ?_)
  obtain ⟨⟨P, rfl, hP⟩, e9⟩ := p1509
  obtain rfl := e9.symm
  try dsimp only [tvI_i, tvJ_j, tvR_r] at hP
  rw [eF, eA 37 (by decide), eA 3 (by decide)] at hP
  refine tw_aload rfl rfl ?_
  refine tw_getS rfl g0 ?_
  refine tw_iload rfl rfl ?_
  refine tw_virt3 rfl (f_firstKF hG FT.1 (e7 := (fun j => bN (wK h k) (tK9 h) (tvI (tF h 36 4)).toNatClampNeg (j : Int))) (e8 := (fun j => bN (wF h k) (tF9 h) (tvI (tF h 63 8)).toNatClampNeg (j : Int))) (e9 := (fun j => bN (wD h k) (tF9 h) (tvI (tF h 63 8)).toNatClampNeg (j : Int))) (K := K) (cs := cs) (cl := cl) (by rw [eN]; exact hn110) (by rw [eA 62 (by decide)]; exact h62) (by rw [eF]; exact h9) (by rw [eF]; exact hnow) (by rw [eF]; exact hn) (by rw [eN]; exact h52) (by rw [eN]; exact h53) h68 T7 T8 T9 (fun m => by rw [eA 49 (by decide), eF]; exact rIc_af (D m) FT (fun q z => by omega))) (fun wp1510 hp1510 p1510 => ?_)
  obtain ⟨KF, hw⟩ := p1510
  rw [(kf_e eA eF).1, (kf_e eA eF).2, eF] at hw
  obtain ⟨x9, rfl⟩ : ∃ x9, wp1510 = some (.int x9) := by rcases hw with ⟨z, -⟩ | ⟨j, -, -, -, z⟩ <;> exact ⟨_, z⟩
  have JF : jFr h hp1510 := ⟨KF.1, KF.2.1.trans eF, KF.2.2.1.trans FT.2.2.2.1, KF.2.2.2.1.trans eN, fun p hp => (KF.2.2.2.2 p (fun w => by omega)).trans (FT.2.2.2.2.2 p (fun w => by omega))⟩
  have g0 : tF hp1510 r 0 = .int k := by rw [JF.2.1]; exact h0
  have g1 : tF hp1510 r 1 = .int md := by rw [JF.2.1]; exact h1
  have g10 : tF hp1510 r 10 = .ref q := by rw [JF.2.1]; exact h10
  refine tw_istore rfl ?_
  refine tw_aload rfl rfl ?_
  refine tw_aload rfl rfl ?_
  refine tw_getS rfl g0 ?_
  refine tw_aload rfl rfl ?_
  refine tw_getS rfl (hi_0_14 KF.1) ?_
  refine tw_aload rfl rfl ?_
  refine tw_getS rfl g1 ?_
  refine tw_virt3 rfl (f_askOfKind hG KF.1 (by rw [JF.2.2.2.1]; exact h52)) (fun wp1511 hp1511 p1511 => ?_)
  obtain ⟨rfl, FA, hW⟩ := p1511
  rw [JF.2.1, JF.2.2.2.2 3 (by omega), KF.2.2.2.2 107 (by decide), KF.2.2.2.2 108 (by decide), KF.2.2.2.2 109 (by decide)] at hW
  have hmc : ((((tvI (tF h 0 14))).toNatClampNeg : Nat) : Int) = (tvI (tF h 0 14)).toInt := zclx hnow.1
  have hmn : (tvI (tF h 0 14)).toNatClampNeg < 600 := by omega
  have u7 := T7 _ hmn
  have u8 := T8 _ hmn
  have u9 := T9 _ hmn
  rw [hmc] at u7 u8 u9
  have hQ := qS_of hW ((Int32.toInt_toInt64 _).trans u7) ((Int32.toInt_toInt64 _).trans u8) ((Int32.toInt_toInt64 _).trans u9)
  have ea70 : tA hp1511 70 = tA h 70 := (congrFun FA.2.2.1 70).trans (JF.2.2.2.2 70 (by omega))
  refine tw_aload rfl rfl ?_
  refine tw_getS rfl (hs_0_3 FA.1) ?_
  refine tw_getS rfl (hs_48_4 FA.1) ?_
  refine tw_astore rfl ?_
  refine tw_aload rfl rfl ?_
  refine tw_push rfl ?_
  refine tw_aload rfl rfl ?_
  refine tw_getS rfl (hs_0_5 FA.1) ?_
  refine tw_getS rfl (hs_63_6 FA.1) ?_
  refine tw_iload rfl rfl ?_
  refine tw_iald rfl (fun f1512 => ?_)
  refine tw_i2l rfl ?_
  refine tw_last rfl (fun f1513 => ?_)
  refine tG_lst f1513 FA.1 (fun b1 a1 => ?_)
  try dsimp only [tvI_i, tvJ_j, tvR_r] at a1
  have G1 := wFr_s FA a1
  refine tw_aload rfl rfl ?_
  refine tw_push rfl ?_
  refine tw_iload rfl rfl ?_
  refine tw_i2l rfl ?_
  refine tw_last rfl (fun f1514 => ?_)
  refine tG_lst f1514 G1.1 (fun b2 a2 => ?_)
  try dsimp only [tvI_i, tvJ_j, tvR_r] at a2
  have G2 := wFr_s G1 a2
  refine tw_aload rfl rfl ?_
  refine tw_push rfl ?_
  refine tw_iload rfl rfl ?_
  refine tw_i2l rfl ?_
  refine tw_last rfl (fun f1515 => ?_)
  refine tG_lst f1515 G2.1 (fun b3 a3 => ?_)
  try dsimp only [tvI_i, tvJ_j, tvR_r] at a3
  have G3 := wFr_s G2 a3
  refine tw_aload rfl rfl ?_
  refine tw_push rfl ?_
  refine tw_iload rfl rfl ?_
  refine tw_push rfl ?_
  refine tw_ic_eq rfl (fun q1516 => ?_) (fun q1516 => ?_)
  · try dsimp only [tvI_i, tvJ_j, tvR_r] at q1516
    have q1516i := zeqi (Y := (-1)) (by decide) q1516
    refine tw_push rfl ?_
    refine tw_last rfl (fun f1517 => ?_)
    refine tG_lst f1517 G3.1 (fun b4 a4 => ?_)
    try dsimp only [tvI_i, tvJ_j, tvR_r] at a4
    have G4 := wFr_s G3 a4
    have g0 : tF b4 r 0 = .int k := by rw [G4.2.1, JF.2.1]; exact h0
    have g1 : tF b4 r 1 = .int md := by rw [G4.2.1, JF.2.1]; exact h1
    have g10 : tF b4 r 10 = .ref q := by rw [G4.2.1, JF.2.1]; exact h10
    have ef : tF b4 = tF h := G4.2.1.trans JF.2.1
    have eA9 : ∀ p, ¬ (107 ≤ p ∧ p ≤ 110) → tA b4 p = tA h p := fun p hp => (congrFun G4.2.2.1 p).trans (JF.2.2.2.2 p hp)
    have hrw9 : tRw b4 := by unfold tRw; rw [G4.2.2.2.1, G4.2.2.2.2.1, JF.2.2.1, JF.2.2.2.1]; exact hrw0
    have hp9 : 0 ≤ (tvI (tF b4 1 7)).toInt := by rw [ef]; exact hp7.1
    refine tw_aload rfl rfl ?_
    refine tw_push rfl ?_
    refine tw_aload rfl rfl ?_
    refine tw_getS rfl (hs_0_0 G4.1) ?_
    refine tw_aload rfl rfl ?_
    refine tw_getS rfl g0 ?_
    refine tw_aload rfl rfl ?_
    refine tw_aload rfl rfl ?_
    refine tw_aload rfl rfl ?_
    refine tw_getS rfl (hs_0_5 G4.1) ?_
    refine tw_getS rfl (hs_63_2 G4.1) ?_
    refine tw_iload rfl rfl ?_
    refine tw_iald rfl (fun f1518 => ?_)
    refine tw_virt2 rfl (f_partsOf hG G4.1 hrw9 hp9 g0 g1 g10) (fun wp1519 hp1519 p1519 => ?_)
    obtain ⟨rfl, e9⟩ := p1519
    obtain rfl := e9.symm
    rw [eA9 (28 + k.toNatClampNeg) (by rw [zclE]; omega), eA9 q (by omega), ef, show tA b4 (tvR (.ref 66)) = tA h 66 from eA9 66 (by omega)]
    refine tw_iload rfl rfl ?_
    refine tw_iload rfl rfl ?_
    refine tw_virt4 rfl (f_leastCoins hG G4.1 hrw9 hp9) (fun wp1520 hp1520 p1520 => ?_)
    obtain ⟨rfl, e9⟩ := p1520
    obtain rfl := e9.symm
    rw [lcC_e (fun p hp => eA9 p (by omega)) ef hk8 hp7]
    refine tw_i2l rfl ?_
    refine tw_last rfl (fun f1521 => ?_)
    refine tG_lst f1521 G4.1 (fun b5 a5 => ?_)
    try dsimp only [tvI_i, tvJ_j, tvR_r] at a5
    have G5 := wFr_s G4 a5
    rw [ea70] at a1
    have eW := mJs_g a5 (mJs_g a4 (mJs_g a3 (mJs_g a2 (mJs_g a1 rfl))))
    have hk1 : (-1 : Int32).toInt = -1 := rfl
    exact tw_vret rfl ⟨rfl, jFr_l JF (lFr_w G5), P, x9, hP, hw, by rw [show kwW x9 (tA h 66 c.toNatClampNeg) = _ from kwW_0 (fun w => w.1 q1516), eW]; exact jS_5 hQ⟩
  · try dsimp only [tvI_i, tvJ_j, tvR_r] at q1516
    have q1516i := zneq (Y := (-1)) (by decide) q1516
    refine tw_iload rfl rfl ?_
    refine tw_aload rfl rfl ?_
    refine tw_getS rfl (hs_0_5 G3.1) ?_
    refine tw_getS rfl (hs_63_2 G3.1) ?_
    refine tw_iload rfl rfl ?_
    refine tw_iald rfl (fun f1522 => ?_)
    refine tw_ic_gt rfl (fun q1523 => ?_) (fun q1523 => ?_)
    · try dsimp only [tvI_i, tvJ_j, tvR_r] at q1523
      refine tw_push rfl ?_
      refine tw_last rfl (fun f1524 => ?_)
      refine tG_lst f1524 G3.1 (fun b4 a4 => ?_)
      try dsimp only [tvI_i, tvJ_j, tvR_r] at a4
      have G4 := wFr_s G3 a4
      have g0 : tF b4 r 0 = .int k := by rw [G4.2.1, JF.2.1]; exact h0
      have g1 : tF b4 r 1 = .int md := by rw [G4.2.1, JF.2.1]; exact h1
      have g10 : tF b4 r 10 = .ref q := by rw [G4.2.1, JF.2.1]; exact h10
      have ef : tF b4 = tF h := G4.2.1.trans JF.2.1
      have eA9 : ∀ p, ¬ (107 ≤ p ∧ p ≤ 110) → tA b4 p = tA h p := fun p hp => (congrFun G4.2.2.1 p).trans (JF.2.2.2.2 p hp)
      have hrw9 : tRw b4 := by unfold tRw; rw [G4.2.2.2.1, G4.2.2.2.2.1, JF.2.2.1, JF.2.2.2.1]; exact hrw0
      have hp9 : 0 ≤ (tvI (tF b4 1 7)).toInt := by rw [ef]; exact hp7.1
      refine tw_aload rfl rfl ?_
      refine tw_push rfl ?_
      refine tw_aload rfl rfl ?_
      refine tw_getS rfl (hs_0_0 G4.1) ?_
      refine tw_aload rfl rfl ?_
      refine tw_getS rfl g0 ?_
      refine tw_aload rfl rfl ?_
      refine tw_aload rfl rfl ?_
      refine tw_aload rfl rfl ?_
      refine tw_getS rfl (hs_0_5 G4.1) ?_
      refine tw_getS rfl (hs_63_2 G4.1) ?_
      refine tw_iload rfl rfl ?_
      refine tw_iald rfl (fun f1525 => ?_)
      refine tw_virt2 rfl (f_partsOf hG G4.1 hrw9 hp9 g0 g1 g10) (fun wp1526 hp1526 p1526 => ?_)
      obtain ⟨rfl, e9⟩ := p1526
      obtain rfl := e9.symm
      rw [eA9 (28 + k.toNatClampNeg) (by rw [zclE]; omega), eA9 q (by omega), ef, show tA b4 (tvR (.ref 66)) = tA h 66 from eA9 66 (by omega)]
      refine tw_iload rfl rfl ?_
      refine tw_iload rfl rfl ?_
      refine tw_virt4 rfl (f_leastCoins hG G4.1 hrw9 hp9) (fun wp1527 hp1527 p1527 => ?_)
      obtain ⟨rfl, e9⟩ := p1527
      obtain rfl := e9.symm
      rw [lcC_e (fun p hp => eA9 p (by omega)) ef hk8 hp7]
      refine tw_i2l rfl ?_
      refine tw_last rfl (fun f1528 => ?_)
      refine tG_lst f1528 G4.1 (fun b5 a5 => ?_)
      try dsimp only [tvI_i, tvJ_j, tvR_r] at a5
      have G5 := wFr_s G4 a5
      rw [ea70] at a1
      have eW := mJs_g a5 (mJs_g a4 (mJs_g a3 (mJs_g a2 (mJs_g a1 rfl))))
      have hk1 : (-1 : Int32).toInt = -1 := rfl
      rw [(congrFun G3.2.2.1 66).trans (JF.2.2.2.2 66 (by omega))] at q1523
      exact tw_vret rfl ⟨rfl, jFr_l JF (lFr_w G5), P, x9, hP, hw, by rw [show kwW x9 (tA h 66 c.toNatClampNeg) = _ from kwW_0 (fun w => absurd w.2 (by omega)), eW]; exact jS_5 hQ⟩
    · try dsimp only [tvI_i, tvJ_j, tvR_r] at q1523
      refine tw_push rfl ?_
      refine tw_goto rfl ?_
      refine tw_last rfl (fun f1529 => ?_)
      refine tG_lst f1529 G3.1 (fun b4 a4 => ?_)
      try dsimp only [tvI_i, tvJ_j, tvR_r] at a4
      have G4 := wFr_s G3 a4
      have g0 : tF b4 r 0 = .int k := by rw [G4.2.1, JF.2.1]; exact h0
      have g1 : tF b4 r 1 = .int md := by rw [G4.2.1, JF.2.1]; exact h1
      have g10 : tF b4 r 10 = .ref q := by rw [G4.2.1, JF.2.1]; exact h10
      have ef : tF b4 = tF h := G4.2.1.trans JF.2.1
      have eA9 : ∀ p, ¬ (107 ≤ p ∧ p ≤ 110) → tA b4 p = tA h p := fun p hp => (congrFun G4.2.2.1 p).trans (JF.2.2.2.2 p hp)
      have hrw9 : tRw b4 := by unfold tRw; rw [G4.2.2.2.1, G4.2.2.2.2.1, JF.2.2.1, JF.2.2.2.1]; exact hrw0
      have hp9 : 0 ≤ (tvI (tF b4 1 7)).toInt := by rw [ef]; exact hp7.1
      refine tw_aload rfl rfl ?_
      refine tw_push rfl ?_
      refine tw_aload rfl rfl ?_
      refine tw_getS rfl (hs_0_0 G4.1) ?_
      refine tw_aload rfl rfl ?_
      refine tw_getS rfl g0 ?_
      refine tw_aload rfl rfl ?_
      refine tw_aload rfl rfl ?_
      refine tw_aload rfl rfl ?_
      refine tw_getS rfl (hs_0_5 G4.1) ?_
      refine tw_getS rfl (hs_63_2 G4.1) ?_
      refine tw_iload rfl rfl ?_
      refine tw_iald rfl (fun f1530 => ?_)
      refine tw_virt2 rfl (f_partsOf hG G4.1 hrw9 hp9 g0 g1 g10) (fun wp1531 hp1531 p1531 => ?_)
      obtain ⟨rfl, e9⟩ := p1531
      obtain rfl := e9.symm
      rw [eA9 (28 + k.toNatClampNeg) (by rw [zclE]; omega), eA9 q (by omega), ef, show tA b4 (tvR (.ref 66)) = tA h 66 from eA9 66 (by omega)]
      refine tw_iload rfl rfl ?_
      refine tw_iload rfl rfl ?_
      refine tw_virt4 rfl (f_leastCoins hG G4.1 hrw9 hp9) (fun wp1532 hp1532 p1532 => ?_)
      obtain ⟨rfl, e9⟩ := p1532
      obtain rfl := e9.symm
      rw [lcC_e (fun p hp => eA9 p (by omega)) ef hk8 hp7]
      refine tw_i2l rfl ?_
      refine tw_last rfl (fun f1533 => ?_)
      refine tG_lst f1533 G4.1 (fun b5 a5 => ?_)
      try dsimp only [tvI_i, tvJ_j, tvR_r] at a5
      have G5 := wFr_s G4 a5
      rw [ea70] at a1
      have eW := mJs_g a5 (mJs_g a4 (mJs_g a3 (mJs_g a2 (mJs_g a1 rfl))))
      have hk1 : (-1 : Int32).toInt = -1 := rfl
      rw [(congrFun G3.2.2.1 66).trans (JF.2.2.2.2 66 (by omega))] at q1523
      exact tw_vret rfl ⟨rfl, jFr_l JF (lFr_w G5), P, x9, hP, hw, by rw [show kwW x9 (tA h 66 c.toNatClampNeg) = _ from kwW_1 q1516 (by omega), eW]; exact jS_5 hQ⟩
theorem f_jury {G : zG} (hG : G.1 = zProg) {h : zH} {c : Int32} {K : Int32 → Nat} {cs : Int32 → List Nat} {cl : Int32 → Nat → rCt} (hs : tSh h) (hL : R_cl h) (hg : ∀ i r : Nat, (i : Int) < (tvI (tF h 36 4)).toInt → tO h 39 i = some r → 182 ≤ r) (hK : R_ckind h) (hT : R_ctl h) (hn107 : tN h 107 = 600) (hn108 : tN h 108 = 600) (hn109 : tN h 109 = 600) (h123 : ∀ i, i < 300 → 0 ≤ (tA h 123 i).toInt ∧ (tA h 123 i).toInt ≤ 599) (h36 : 0 ≤ (tvI (tF h 36 4)).toInt ∧ (tvI (tF h 36 4)).toInt ≤ 300) (h67 : ∀ i, i < 200 → 0 ≤ (tA h 67 i).toInt ∧ (tA h 67 i).toInt ≤ 599) (h70 : ∀ i, i < 200 → 0 ≤ (tA h 70 i).toInt ∧ (tA h 70 i).toInt ≤ 9) (h63 : 0 ≤ (tvI (tF h 63 8)).toInt ∧ (tvI (tF h 63 8)).toInt ≤ 200) (hn110 : tN h 110 = 600) (h62 : ∀ i, i < 600 → 0 ≤ (tA h 62 i).toInt ∧ (tA h 62 i).toInt ≤ 599) (h9 : 0 ≤ (tvI (tF h 54 9)).toInt ∧ (tvI (tF h 54 9)).toInt ≤ 600) (hnow : 0 ≤ (tvI (tF h 0 14)).toInt ∧ (tvI (tF h 0 14)).toInt ≤ 599) (hn : 0 ≤ (tvI (tF h 48 3)).toInt) (h52 : tN h 52 = 12) (h53 : tN h 53 = 80) (hpe : 0 ≤ (tvI (tF h 36 2)).toInt ∧ (tvI (tF h 36 2)).toInt ≤ 60) (hrw0 : tRw h) (hp7 : 0 ≤ (tvI (tF h 1 7)).toInt ∧ (tvI (tF h 1 7)).toInt ≤ 12) (D : ∀ m : Int32, rIc h (sRI (tA h 49) m (tvI (tF h 48 3)).toNatClampNeg) (K m) (cs m) (cl m)) (hM : R_cmade h) (hPP : R_cmp h) (hCC : R_ccl h) (h64 : ∀ i, i < 200 → 0 ≤ (tA h 64 i).toInt ∧ (tA h 64 i).toInt ≤ 299) (h68 : ∀ i, i < 200 → 0 ≤ (tA h 68 i).toInt ∧ (tA h 68 i).toInt ≤ 2) (h121 : ∀ i, i < 300 → 0 ≤ (tA h 121 i).toInt ∧ (tA h 121 i).toInt ≤ 7) : tC zTt G 152 [.ref 0, .int c] h (fun w h2 => (((0 ≤ c.toInt ∧ c.toInt < (tvI (tF h 63 8)).toInt) ∧ ¬ (tA h 71 c.toNatClampNeg).toInt = 0) ∧ ∃ (r : Nat) (W : Nat → Int64), tO h 39 (tA h 64 c.toNatClampNeg).toNatClampNeg = some r ∧ (∃ (P : Int64) (x9 : Int32), (∀ q : Int32, 0 ≤ q.toInt ∧ q.toInt < 64 → (tB P q ↔ q.toInt < (tvI (tF h 36 2)).toInt ∧ tA h 37 q.toNatClampNeg = tA h 3 ((tA h 121 (tA h 64 c.toNatClampNeg).toNatClampNeg)).toNatClampNeg)) ∧ fMo (kfY h P (tA h 121 (tA h 64 c.toNatClampNeg).toNatClampNeg) (tA h 68 c.toNatClampNeg) (fun j => bN (wK h (tA h 121 (tA h 64 c.toNatClampNeg).toNatClampNeg)) (tK9 h) (tvI (tF h 36 4)).toNatClampNeg (j : Int)) (fun j => bN (wF h (tA h 121 (tA h 64 c.toNatClampNeg).toNatClampNeg)) (tF9 h) (tvI (tF h 63 8)).toNatClampNeg (j : Int)) (fun j => bN (wD h (tA h 121 (tA h 64 c.toNatClampNeg).toNatClampNeg)) (tF9 h) (tvI (tF h 63 8)).toNatClampNeg (j : Int)) K cs cl) (kfN h P (tA h 121 (tA h 64 c.toNatClampNeg).toNatClampNeg) (tA h 68 c.toNatClampNeg) (fun j => bN (wK h (tA h 121 (tA h 64 c.toNatClampNeg).toNatClampNeg)) (tK9 h) (tvI (tF h 36 4)).toNatClampNeg (j : Int)) (fun j => bN (wF h (tA h 121 (tA h 64 c.toNatClampNeg).toNatClampNeg)) (tF9 h) (tvI (tF h 63 8)).toNatClampNeg (j : Int)) (fun j => bN (wD h (tA h 121 (tA h 64 c.toNatClampNeg).toNatClampNeg)) (tF9 h) (tvI (tF h 63 8)).toNatClampNeg (j : Int)) K cs cl) (tvI (tF h 0 14)).toInt (some (.int x9)) ∧ jS W (tvI (tF h 0 14)).toInt64 (tA h 121 (tA h 64 c.toNatClampNeg).toNatClampNeg).toInt64 (tA h 3 ((tA h 121 (tA h 64 c.toNatClampNeg).toNatClampNeg)).toNatClampNeg).toInt64 (tA h 122 (tA h 64 c.toNatClampNeg).toNatClampNeg).toInt64 (bN (wK h (tA h 121 (tA h 64 c.toNatClampNeg).toNatClampNeg)) (tK9 h) (tvI (tF h 36 4)).toNatClampNeg (tvI (tF h 0 14)).toInt) (bN (wF h (tA h 121 (tA h 64 c.toNatClampNeg).toNatClampNeg)) (tF9 h) (tvI (tF h 63 8)).toNatClampNeg (tvI (tF h 0 14)).toInt) (bN (wD h (tA h 121 (tA h 64 c.toNatClampNeg).toNatClampNeg)) (tF9 h) (tvI (tF h 63 8)).toNatClampNeg (tvI (tF h 0 14)).toInt) (tA h 70 c.toNatClampNeg).toInt64 (tA h 69 c.toNatClampNeg).toInt64 (tA h 68 c.toNatClampNeg).toInt64 (kwW x9 (tA h 66 c.toNatClampNeg)) (lcC h (tA h 121 (tA h 64 c.toNatClampNeg).toNatClampNeg) (sPB (tA h (28 + ((tA h 121 (tA h 64 c.toNatClampNeg).toNatClampNeg)).toNatClampNeg)) ((tA h 122 (tA h 64 c.toNatClampNeg).toNatClampNeg)) (tvI (tF h 1 7)).toNatClampNeg ||| sPB (tA h ((r + 1))) ((tA h 66 c.toNatClampNeg)) 12) (tA h 68 c.toNatClampNeg) (tA h 69 c.toNatClampNeg)).toInt64) ∧ ∃ g, jT W (cs (tvI (tF h 0 14))) (cl (tvI (tF h 0 14))) (K (tvI (tF h 0 14))) 13 g ∧ ((g = none ∧ w = some (.long 0)) ∨ ∃ g9 t, g = some g9 ∧ jT W (cs (tvI (tF h 0 14))) (cl (tvI (tF h 0 14))) (K (tvI (tF h 0 14))) 14 t ∧ w = some (.long (jV g9 t)))) ∨ (¬ ((0 ≤ c.toInt ∧ c.toInt < (tvI (tF h 63 8)).toInt) ∧ ¬ (tA h 71 c.toNatClampNeg).toInt = 0) ∧ w = some (.long (-1)))) := by
  refine tC_in (by rw [hG]; rfl) (fun dp => ?_)
  refine tw_aload rfl rfl ?_
  refine tw_getS rfl (hs_0_5 hs) ?_
  refine tw_iload rfl rfl ?_
  refine tw_virt1 rfl (f_hasCrash hG hs) (fun w9 h9 p1534 => ?_)
  obtain ⟨⟨p1534, rfl⟩ | ⟨p1534, rfl⟩, e9⟩ := p1534
  · try dsimp only [tvI_i, tvJ_j, tvR_r] at p1534
    obtain rfl := e9.symm
    refine tw_if_eq rfl (fun z => absurd z (by decide)) (fun _ => ?_)
    refine tw_aload rfl rfl ?_
    refine tw_getS rfl (hs_0_5 hs) ?_
    refine tw_getS rfl (hs_63_7 hs) ?_
    refine tw_iload rfl rfl ?_
    refine tw_bald rfl (fun f1535 => ?_)
    refine tw_if_ne rfl (fun q1536 => ?_) (fun q1536 => ?_)
    · try dsimp only [tvI_i, tvJ_j, tvR_r] at q1536
      have q1536i := zneq (Y := 0) (by decide) q1536
      refine tw_aload rfl rfl ?_
      refine tw_getS rfl (hs_0_1 hs) ?_
      refine tw_aload rfl rfl ?_
      refine tw_getS rfl (hs_0_5 hs) ?_
      refine tw_getS rfl (hs_63_0 hs) ?_
      refine tw_iload rfl rfl ?_
      refine tw_iald rfl (fun f1537 => ?_)
      refine tw_virt1 rfl (f_carAtR hG hs hL hg) (fun w9 h9 p1538 => ?_)
      obtain ⟨⟨rp1538, p1538, p1538r, p1538g, rfl⟩ | ⟨p1538, rfl⟩, e9⟩ := p1538
      · obtain rfl := e9.symm
        refine tw_astore rfl ?_
        refine tw_aload rfl rfl ?_
        refine tw_ifnn rfl (fun z => by cases z) (fun _ _ => ?_)
        refine tw_aload rfl rfl ?_
        refine tw_getS rfl (hs_0_3 hs) ?_
        refine tw_aload rfl rfl ?_
        refine tw_getS rfl (hi_0_14 hs) ?_
        refine tw_virt1 rfl (f_ruleIn hG hs hn) (fun w9 h9 p1541 => ?_)
        obtain ⟨rfl, e9⟩ := p1541
        obtain rfl := e9.symm
        refine tw_istore rfl ?_
        refine tw_aload rfl rfl ?_
        refine tw_iload rfl rfl ?_
        refine tw_aload rfl rfl ?_
        refine tw_virt2 rfl (f_askOfCrash hG hs hL hg hK hT hn107 hn108 hn109 h123 h36 h67 h70 h63 hn110 h62 h9 hnow hn h52 h53 hpe hrw0 hp7 (K := K) (cs := cs) (cl := cl) D (h121 _ (by rw [zclE]; omega)) (by omega) (h68 _ (by rw [zclE]; omega)) (hK _ _ p1538.2 p1538r) (hM _ _ p1538.2 p1538r) (hPP _ _ p1538.2 p1538r).1) (fun wp1542 hp1542 p1542 => ?_)
        obtain ⟨rfl, JF, P, x9, hP, hw, hJ⟩ := p1542
        have D9 := rIc_jf (D (tvI (tF h 0 14))) JF
        have n52 : tN hp1542 52 = 12 := by rw [JF.2.2.2.1]; exact h52
        have n53 : tN hp1542 53 = 80 := by rw [JF.2.2.2.1]; exact h53
        refine tw_aload rfl rfl ?_
        refine tw_getS rfl (hs_0_3 JF.1) ?_
        refine tw_iload rfl rfl ?_
        refine tw_push rfl ?_
        refine tw_virt2 rfl (f_firstTrueA hG JF.1 n52 n53 D9 (th := 13) rfl) (fun w9 hp1543 p1543 => ?_)
        obtain ⟨FB1, ⟨rfl, hno1⟩ | ⟨i1, hi1, hit1, hfst1, xx1, rfl, hx1⟩⟩ := p1543
        · refine tw_istore rfl ?_
          refine tw_iload rfl rfl ?_
          refine tw_push rfl ?_
          refine tw_ic_ne rfl (fun z => absurd z (by decide)) (fun _ => ?_)
          refine tw_push rfl ?_
          exact tw_lret rfl (Or.inl ⟨⟨by omega, by omega⟩, _, _, p1538r, ⟨P, x9, hP, hw, hJ⟩, none, Or.inl ⟨rfl, hno1⟩, Or.inl ⟨rfl, rfl⟩⟩)
        · refine tw_istore rfl ?_
          refine tw_iload rfl rfl ?_
          refine tw_push rfl ?_
          refine tw_ic_ne rfl (fun q1544 => ?_) (fun q1544 => ?_)
          · try dsimp only [tvI_i, tvJ_j, tvR_r] at q1544
            have q1544i := zneq (Y := (-1)) (by decide) q1544
            refine tw_push rfl ?_
            refine tw_aload rfl rfl ?_
            refine tw_getS rfl (hs_0_3 FB1.1) ?_
            refine tw_iload rfl rfl ?_
            refine tw_iload rfl rfl ?_
            refine tw_virt2 rfl (f_sumOfA hG FB1.1 (by rw [FB1.2.2.2.2.1]; exact n52) (by rw [FB1.2.2.2.2.1]; exact n53) (D9.fr (lFr_w FB1)) hx1 hi1 (fun z => absurd (hit1.1.symm.trans z) (by decide))) (fun wp1545 hp1545 p1545 => ?_)
            obtain ⟨rfl, FC1⟩ := p1545
            rw [FB1.2.2.2.2.2 52 (by decide)]
            have L1 := lFr_t (lFr_w FB1) (lFr_w FC1)
            refine tw_lmax rfl ?_
            refine tw_lstore rfl ?_
            refine tw_aload rfl rfl ?_
            refine tw_getS rfl (hs_0_3 FC1.1) ?_
            refine tw_iload rfl rfl ?_
            refine tw_push rfl ?_
            refine tw_virt2 rfl (f_firstTrueA hG FC1.1 (by rw [L1.2.2.2.2]; exact n52) (by rw [L1.2.2.2.2]; exact n53) (D9.fr L1) (th := 14) rfl) (fun w9 hp1546 p1546 => ?_)
            obtain ⟨FB2, ⟨rfl, hno2⟩ | ⟨i2, hi2, hit2, hfst2, xx2, rfl, hx2⟩⟩ := p1546
            · have hno2 : ∀ j, j < K (tvI (tF h 0 14)) → ¬ hit (tJ hp1542 52) (cs (tvI (tF h 0 14))) (cl (tvI (tF h 0 14)) j) 14 := fun j hj => by have z9 := hno2 j hj; rw [FC1.2.2.2.2.2 52 (by decide), FB1.2.2.2.2.2 52 (by decide)] at z9; exact z9
              refine tw_istore rfl ?_
              refine tw_iload rfl rfl ?_
              refine tw_push rfl ?_
              refine tw_ic_ne rfl (fun z => absurd z (by decide)) (fun _ => ?_)
              refine tw_lload rfl rfl ?_
              refine tw_goto rfl ?_
              exact tw_lret rfl (Or.inl ⟨⟨by omega, by omega⟩, _, _, p1538r, ⟨P, x9, hP, hw, hJ⟩, some _, Or.inr ⟨i1, hi1, hit1, hfst1, rfl⟩, Or.inr ⟨_, none, rfl, Or.inl ⟨rfl, hno2⟩, rfl⟩⟩)
            · rw [FC1.2.2.2.2.2 52 (by decide), FB1.2.2.2.2.2 52 (by decide)] at hit2
              have hfst2 : ∀ j, j < i2 → ¬ hit (tJ hp1542 52) (cs (tvI (tF h 0 14))) (cl (tvI (tF h 0 14)) j) 14 := fun j hj => by have z9 := hfst2 j hj; rw [FC1.2.2.2.2.2 52 (by decide), FB1.2.2.2.2.2 52 (by decide)] at z9; exact z9
              refine tw_istore rfl ?_
              refine tw_iload rfl rfl ?_
              refine tw_push rfl ?_
              refine tw_ic_ne rfl (fun q1547 => ?_) (fun q1547 => ?_)
              · try dsimp only [tvI_i, tvJ_j, tvR_r] at q1547
                have q1547i := zneq (Y := (-1)) (by decide) q1547
                refine tw_lload rfl rfl ?_
                refine tw_push rfl ?_
                refine tw_aload rfl rfl ?_
                refine tw_getS rfl (hs_0_3 FB2.1) ?_
                refine tw_iload rfl rfl ?_
                refine tw_iload rfl rfl ?_
                refine tw_virt2 rfl (f_sumOfA hG FB2.1 (by rw [FB2.2.2.2.2.1, L1.2.2.2.2]; exact n52) (by rw [FB2.2.2.2.2.1, L1.2.2.2.2]; exact n53) (D9.fr (lFr_t L1 (lFr_w FB2))) hx2 hi2 (fun z => absurd (hit2.1.symm.trans z) (by decide))) (fun wp1548 hp1548 p1548 => ?_)
                obtain ⟨rfl, FC2⟩ := p1548
                rw [FB2.2.2.2.2.2 52 (by decide), FC1.2.2.2.2.2 52 (by decide), FB1.2.2.2.2.2 52 (by decide)]
                refine tw_lmax rfl ?_
                refine tw_lmin rfl ?_
                exact tw_lret rfl (Or.inl ⟨⟨by omega, by omega⟩, _, _, p1538r, ⟨P, x9, hP, hw, hJ⟩, some _, Or.inr ⟨i1, hi1, hit1, hfst1, rfl⟩, Or.inr ⟨_, some _, rfl, Or.inr ⟨i2, hi2, hit2, hfst2, rfl⟩, rfl⟩⟩)
              · try dsimp only [tvI_i, tvJ_j, tvR_r] at q1547
                have q1547i := zeqi (Y := (-1)) (by decide) q1547
                exfalso
                have k9 : (-1 : Int32).toInt = -1 := rfl
                omega
          · try dsimp only [tvI_i, tvJ_j, tvR_r] at q1544
            have q1544i := zeqi (Y := (-1)) (by decide) q1544
            exfalso
            have k9 : (-1 : Int32).toInt = -1 := rfl
            omega
      · obtain rfl := e9.symm
        refine tw_astoreN rfl ?_
        refine tw_aload rfl rfl ?_
        refine tw_ifnn rfl (fun _ => ?_) (fun _ z => by cases z)
        refine tw_push rfl ?_
        exact absurd ⟨(h64 c.toNatClampNeg (by rw [zclE]; omega)).1, hCC c.toNatClampNeg (by rw [zclE]; omega)⟩ p1538
    · try dsimp only [tvI_i, tvJ_j, tvR_r] at q1536
      have q1536i := zeqi (Y := 0) (by decide) q1536
      refine tw_push rfl ?_
      exact tw_lret rfl (Or.inr ⟨by omega, rfl⟩)
  · try dsimp only [tvI_i, tvJ_j, tvR_r] at p1534
    obtain rfl := e9.symm
    refine tw_if_eq rfl (fun _ => ?_) (fun z => absurd z (by decide))
    refine tw_push rfl ?_
    exact tw_lret rfl (Or.inr ⟨by omega, rfl⟩)
theorem g_burnsIn {G : zG} (hG : G.1 = zProg) {h : zH} {c m s v p : Int32} (hs : tSh h) (hm4 : 0 ≤ (tvI (tF h 111 4)).toInt ∧ (tvI (tF h 111 4)).toInt ≤ 12) (h83 : 0 ≤ (tvI (tF h 111 83)).toInt ∧ (tvI (tF h 111 83)).toInt ≤ 20) (hn5 : (tvI (tF h 111 5)).toInt ≤ 300) (hKK : ∀ i, i < 300 → 0 ≤ (tA h 121 i).toInt ∧ (tA h 121 i).toInt ≤ 7) (hc : 0 ≤ c.toInt ∧ c.toInt < 300) (hS : 0 ≤ s.toInt ∧ s.toInt ≤ 2) : tC zTt G 194 [.ref 111, .int c, .int m, .int s, .int v, .int p] h (fun w h2 => tBo ((sBn (fun p => tA h 117 (3 * p + (s).toNatClampNeg)) ((sPM (tA h 177) (tA h 176) (c).toNatClampNeg (m) (sPB (fun p => tA h 118 (12 * (tA h 121 (c).toNatClampNeg).toNatClampNeg + p)) (tA h 122 (c).toNatClampNeg) (tvI (tF h 111 4)).toNatClampNeg) (tvI (tF h 111 83)).toNatClampNeg) ||| exP p) (tA h 115 (3 * (tA h 121 c.toNatClampNeg).toNatClampNeg + (s).toNatClampNeg)) (tvI (tF h 111 4)).toNatClampNeg).toInt < ((v) * (v) * tA h 113 (s).toNatClampNeg / 100).toInt) w ∧ h2 = h) := by
  refine tC_in (by rw [hG]; rfl) (fun dp => ?_)
  have hK9 := hKK c.toNatClampNeg (by rw [zclE]; omega)
  refine tw_aload rfl rfl ?_
  refine tw_aload rfl rfl ?_
  refine tw_getS rfl (hs_111_16 hs) ?_
  refine tw_iload rfl rfl ?_
  refine tw_iald rfl (fun f1551 => ?_)
  refine tw_aload rfl rfl ?_
  refine tw_iload rfl rfl ?_
  refine tw_iload rfl rfl ?_
  refine tw_virt2 rfl (g_partsOfCar hG hs hm4 h83 (by omega) (hKK _ (by rw [zclE]; omega))) (fun w9 h9 p1552 => ?_)
  obtain ⟨rfl, e9⟩ := p1552
  obtain rfl := e9.symm
  refine tw_iload rfl rfl ?_
  refine tw_push rfl ?_
  refine tw_ic_ne rfl (fun q1553 => ?_) (fun q1553 => ?_)
  · try dsimp only [tvI_i, tvJ_j, tvR_r] at q1553
    have q1553i := zneq (Y := (-1)) (by decide) q1553
    refine tw_push rfl ?_
    refine tw_iload rfl rfl ?_
    refine tw_ishl rfl ?_
    refine tw_ior rfl ?_
    refine tw_iload rfl rfl ?_
    refine tw_iload rfl rfl ?_
    refine tw_virt4 rfl (g_burnsWith hG hs hm4 hK9 hS) (fun w9 h9 p1554 => ?_)
    obtain ⟨⟨p1554, rfl⟩ | ⟨p1554, rfl⟩, e9⟩ := p1554
    · try dsimp only [tvI_i, tvJ_j, tvR_r] at p1554
      obtain rfl := e9.symm
      exact tw_iret rfl ⟨by rw [← exP_2 q1553]; exact Or.inl ⟨p1554, rfl⟩, rfl⟩
    · try dsimp only [tvI_i, tvJ_j, tvR_r] at p1554
      obtain rfl := e9.symm
      exact tw_iret rfl ⟨by rw [← exP_2 q1553]; exact Or.inr ⟨p1554, rfl⟩, rfl⟩
  · try dsimp only [tvI_i, tvJ_j, tvR_r] at q1553
    have q1553i := zeqi (Y := (-1)) (by decide) q1553
    refine tw_push rfl ?_
    refine tw_goto rfl ?_
    refine tw_ior rfl ?_
    refine tw_iload rfl rfl ?_
    refine tw_iload rfl rfl ?_
    refine tw_virt4 rfl (g_burnsWith hG hs hm4 hK9 hS) (fun w9 h9 p1555 => ?_)
    obtain ⟨⟨p1555, rfl⟩ | ⟨p1555, rfl⟩, e9⟩ := p1555
    · try dsimp only [tvI_i, tvJ_j, tvR_r] at p1555
      obtain rfl := e9.symm
      exact tw_iret rfl ⟨by rw [← exP_1 q1553]; exact Or.inl ⟨p1555, rfl⟩, rfl⟩
    · try dsimp only [tvI_i, tvJ_j, tvR_r] at p1555
      obtain rfl := e9.symm
      exact tw_iret rfl ⟨by rw [← exP_1 q1553]; exact Or.inr ⟨p1555, rfl⟩, rfl⟩
theorem km_e {a h : zH} (eA : tA a = tA h) (eF : tF a = tF h) : kmY a = kmY h ∧ kmN a = kmN h := by
  constructor
  · funext p k s K cs cl j
    obtain ⟨f1, f2, f3, f4, f5⟩ := MU_fr (k := k) eA eF
    unfold kmY MUm
    rw [f1, f2, f3, f4, f5, eA, eF]
  · funext p k s K cs cl j
    obtain ⟨f1, f2, f3, f4, f5⟩ := MU_fr (k := k) eA eF
    unfold kmN MUm
    rw [f1, f2, f3, f4, f5, eA, eF]
set_option maxRecDepth 10000 in
theorem g_jury {G : zG} (hG : G.1 = zProg) {h : zH} {c : Int32} {K : Int32 → Nat} {cs : Int32 → List Nat} {cl : Int32 → Nat → rCt} (hs : tSh h) (hm4 : 0 ≤ (tvI (tF h 111 4)).toInt ∧ (tvI (tF h 111 4)).toInt ≤ 12) (h83 : 0 ≤ (tvI (tF h 111 83)).toInt ∧ (tvI (tF h 111 83)).toInt ≤ 20) (hn5 : (tvI (tF h 111 5)).toInt ≤ 300) (hKK : ∀ i, i < 300 → 0 ≤ (tA h 121 i).toInt ∧ (tA h 121 i).toInt ≤ 7) (h1n : 0 ≤ (tvI (tF h 111 1)).toInt ∧ (tvI (tF h 111 1)).toInt ≤ 599) (h2p : 0 ≤ (tvI (tF h 111 2)).toInt ∧ (tvI (tF h 111 2)).toInt ≤ 60) (h51 : 0 ≤ (tvI (tF h 111 51)).toInt) (hn : 0 ≤ (tvI (tF h 111 30)).toInt) (h5 : 0 ≤ (tvI (tF h 111 5)).toInt ∧ (tvI (tF h 111 5)).toInt ≤ 300) (h59 : 0 ≤ (tvI (tF h 111 59)).toInt ∧ (tvI (tF h 111 59)).toInt ≤ 200) (h156 : ∀ i, i < 200 → 0 ≤ (tA h 156 i).toInt ∧ (tA h 156 i).toInt ≤ 9) (h133 : ∀ i, i < 5000 → 0 ≤ (tA h 133 i).toInt ∧ (tA h 133 i).toInt ≤ 14) (h134 : ∀ i, i < 5000 → 0 ≤ (tA h 134 i).toInt ∧ (tA h 134 i).toInt ≤ 99999) (h135 : ∀ i, i < 120 → 0 ≤ (tA h 135 i).toInt ∧ (tA h 135 i).toInt ≤ 3) (h136 : ∀ i, i < 120 → 0 ≤ (tA h 136 i).toInt ∧ (tA h 136 i).toInt ≤ 99999) (h137 : ∀ i, i < 120 → 0 ≤ (tA h 137 i).toInt ∧ (tA h 137 i).toInt ≤ 410) (h138 : ∀ i, i < 120 → 0 ≤ (tA h 138 i).toInt ∧ (tA h 138 i).toInt ≤ 410) (h139 : ∀ i, i < 120 → 0 ≤ (tA h 139 i).toInt ∧ (tA h 139 i).toInt ≤ 410) (D : ∀ m : Int32, rIm h (sRI (tA h 141) m (tvI (tF h 111 30)).toNatClampNeg) (K m) (cs m) (cl m)) (h152 : ∀ i, i < 200 → 0 ≤ (tA h 152 i).toInt ∧ (tA h 152 i).toInt ≤ 299) (h154 : ∀ i, i < 200 → 0 ≤ (tA h 154 i).toInt ∧ (tA h 154 i).toInt ≤ 2) : tC zTt G 274 [.ref 111, .int c] h (fun w h2 => (((0 ≤ c.toInt ∧ c.toInt < (tvI (tF h 111 59)).toInt) ∧ ¬ (tA h 158 c.toNatClampNeg).toInt = 0) ∧ ((K (tvI (tF h 111 1)) = 0 ∧ w = some (.long 0)) ∨ ∃ (b : Int32) (W : Nat → Int64), kbP h (tA h 114 (tA h 121 (tA h 152 c.toNatClampNeg).toNatClampNeg).toNatClampNeg) (tA h 153 c.toNatClampNeg).toInt (fun who j => kmY h (Int32.ofNat who) (tA h 121 (tA h 152 c.toNatClampNeg).toNatClampNeg) (tA h 154 c.toNatClampNeg) K cs cl j) (fun who j => kmN h (Int32.ofNat who) (tA h 121 (tA h 152 c.toNatClampNeg).toNatClampNeg) (tA h 154 c.toNatClampNeg) K cs cl j) (tvI (tF h 111 2)).toNatClampNeg b ∧ jS W (tvI (tF h 111 1)).toInt64 (tA h 121 (tA h 152 c.toNatClampNeg).toNatClampNeg).toInt64 (tA h 114 (tA h 121 (tA h 152 c.toNatClampNeg).toNatClampNeg).toNatClampNeg).toInt64 (tA h 122 (tA h 152 c.toNatClampNeg).toNatClampNeg).toInt64 (bN (mK9 h (tA h 121 (tA h 152 c.toNatClampNeg).toNatClampNeg) (tvI (tF h 111 1))) (tK9 h) (tvI (tF h 111 5)).toNatClampNeg (tvI (tF h 111 1)).toInt) (bN (mF9 h (tA h 121 (tA h 152 c.toNatClampNeg).toNatClampNeg)) (mT9 h) (tvI (tF h 111 59)).toNatClampNeg (tvI (tF h 111 1)).toInt) (bN (mD9 h (tA h 121 (tA h 152 c.toNatClampNeg).toNatClampNeg)) (mT9 h) (tvI (tF h 111 59)).toNatClampNeg (tvI (tF h 111 1)).toInt) (tA h 156 c.toNatClampNeg).toInt64 (tA h 155 c.toNatClampNeg).toInt64 (tA h 154 c.toNatClampNeg).toInt64 (kbW b) (lcV (lcM h (tA h 121 (tA h 152 c.toNatClampNeg).toNatClampNeg) (sPM (tA h 177) (tA h 176) ((tA h 152 c.toNatClampNeg)).toNatClampNeg ((tA h 153 c.toNatClampNeg)) (sPB (fun p => tA h 118 (12 * (tA h 121 ((tA h 152 c.toNatClampNeg)).toNatClampNeg).toNatClampNeg + p)) (tA h 122 ((tA h 152 c.toNatClampNeg)).toNatClampNeg) (tvI (tF h 111 4)).toNatClampNeg) (tvI (tF h 111 83)).toNatClampNeg) (tA h 154 c.toNatClampNeg) (tA h 155 c.toNatClampNeg))).toInt64 ∧ ∃ g, jT W (cs (tvI (tF h 111 1))) (cl (tvI (tF h 111 1))) (K (tvI (tF h 111 1))) 13 g ∧ ((g = none ∧ w = some (.long 0)) ∨ ∃ g9 t, g = some g9 ∧ jT W (cs (tvI (tF h 111 1))) (cl (tvI (tF h 111 1))) (K (tvI (tF h 111 1))) 14 t ∧ w = some (.long (jV g9 t))))) ∨ (¬ ((0 ≤ c.toInt ∧ c.toInt < (tvI (tF h 111 59)).toInt) ∧ ¬ (tA h 158 c.toNatClampNeg).toInt = 0) ∧ w = some (.long (-1)))) := by
  refine tC_in (by rw [hG]; rfl) (fun dp => ?_)
  have hk59 := h59.1
  have e59 := zsub1 hk59
  refine tw_iload rfl rfl ?_
  refine tw_i2l rfl ?_
  refine tw_push rfl ?_
  refine tw_aload rfl rfl ?_
  refine tw_getS rfl (hi_111_59 hs) ?_
  refine tw_push rfl ?_
  refine tw_isub rfl ?_
  refine tw_i2l rfl ?_
  refine tw_stat3 rfl (f_in hG  (LO := 0)  (Int32.toInt_toInt64 _) (by decide) (Int32.toInt_toInt64 _)) (fun w9 h9 p1556 => ?_)
  obtain ⟨⟨p1556, rfl⟩ | ⟨p1556, rfl⟩, e9⟩ := p1556
  · try dsimp only [tvI_i, tvJ_j, tvR_r] at p1556
    obtain rfl := e9.symm
    refine tw_if_eq rfl (fun z => absurd z (by decide)) (fun _ => ?_)
    refine tw_aload rfl rfl ?_
    refine tw_getS rfl (hs_111_66 hs) ?_
    refine tw_iload rfl rfl ?_
    refine tw_bald rfl (fun f1557 => ?_)
    refine tw_if_ne rfl (fun q1558 => ?_) (fun q1558 => ?_)
    · try dsimp only [tvI_i, tvJ_j, tvR_r] at q1558
      have q1558i := zneq (Y := 0) (by decide) q1558
      refine tw_aload rfl rfl ?_
      refine tw_aload rfl rfl ?_
      refine tw_getS rfl (hi_111_1 hs) ?_
      refine tw_virt1 rfl (g_inForceIn hG hs hn) (fun w9 h9 p1559 => ?_)
      obtain ⟨rfl, e9⟩ := p1559
      obtain rfl := e9.symm
      refine tw_istore rfl ?_
      refine tw_iload rfl rfl ?_
      refine tw_push rfl ?_
      refine tw_ic_ne rfl (fun q1560 => ?_) (fun q1560 => ?_)
      · try dsimp only [tvI_i, tvJ_j, tvR_r] at q1560
        have q1560i := zneq (Y := (-1)) (by decide) q1560
        obtain ⟨q9, d1, d2, d3⟩ := (D (tvI (tF h 111 1))).resolve_left (fun z => q1560 z.1)
        refine tw_aload rfl rfl ?_
        refine tw_getS rfl (hs_111_60 hs) ?_
        refine tw_iload rfl rfl ?_
        refine tw_iald rfl (fun f1561 => ?_)
        refine tw_istore rfl ?_
        refine tw_aload rfl rfl ?_
        refine tw_getS rfl (hs_111_16 hs) ?_
        refine tw_iload rfl rfl ?_
        refine tw_iald rfl (fun f1562 => ?_)
        refine tw_istore rfl ?_
        refine tw_push rfl ?_
        refine tw_istore rfl ?_
        refine tw_push rfl ?_
        refine tw_istore rfl ?_
        refine tG_loop (zW_mono zTt G dp) (zW_conj zTt G dp) (V := fun pc L st h9 _ _ => pc = 66 ∧ st = [] ∧ ∃ (h1 : zH) (n : Nat) (z b : Int32) (l7 l8 l9 l10 l11 l12 : Option Value), h1 = h9 ∧ lFr h h1 ∧ z.toInt = (n : Int) ∧ (n : Int) ≤ (tvI (tF h 111 2)).toInt ∧ kbP h (tA h 114 (tA h 121 (tA h 152 c.toNatClampNeg).toNatClampNeg).toNatClampNeg) (tA h 153 c.toNatClampNeg).toInt (fun who j => kmY h (Int32.ofNat who) (tA h 121 (tA h 152 c.toNatClampNeg).toNatClampNeg) (tA h 154 c.toNatClampNeg) K cs cl j) (fun who j => kmN h (Int32.ofNat who) (tA h 121 (tA h 152 c.toNatClampNeg).toNatClampNeg) (tA h 154 c.toNatClampNeg) K cs cl j) n b ∧ L = [some (.ref 111), some (.int c), some (.int (sRI (tA h 141) (tvI (tF h 111 1)) (tvI (tF h 111 30)).toNatClampNeg)), some (.int (tA h 152 c.toNatClampNeg)), some (.int (tA h 121 (tA h 152 c.toNatClampNeg).toNatClampNeg)), some (.int b), some (.int z), l7, l8, l9, l10, l11, l12]) ?_ (⟨rfl, rfl, h, 0, 0, 0, _, _, _, _, _, _, rfl, ⟨hs, rfl, rfl, rfl, rfl⟩, rfl, h2p.1, kbP_0, rfl⟩)
        rintro _ _ _ _ _ _ ⟨rfl, rfl, h1, n, z, b, l7, l8, l9, l10, l11, l12, rfl, hF, hz, hnn, hkb, rfl⟩
        have e2 : (tvI (tF h1 111 2)).toInt = (tvI (tF h 111 2)).toInt := by rw [hF.2.1]
        refine tw_iload rfl rfl ?_
        refine tw_aload rfl rfl ?_
        refine tw_getS rfl (hi_111_2 hF.1) ?_
        refine tw_ic_ge rfl (fun q1563 => ?_) (fun q1563 => ?_)
        · try dsimp only [tvI_i, tvJ_j, tvR_r] at q1563
          have nN : n = (tvI (tF h 111 2)).toNatClampNeg := by rw [zclE]; omega
          rw [nN] at hkb
          have eA := hF.2.2.1
          have eF := hF.2.1
          have hm4b : 0 ≤ (tvI (tF h1 111 4)).toInt ∧ (tvI (tF h1 111 4)).toInt ≤ 12 := by rw [eF]; exact hm4
          have h83b : 0 ≤ (tvI (tF h1 111 83)).toInt ∧ (tvI (tF h1 111 83)).toInt ≤ 20 := by rw [eF]; exact h83
          have hn5b : (tvI (tF h1 111 5)).toInt ≤ 300 := by rw [eF]; exact hn5
          have hKKb : ∀ i, i < 300 → 0 ≤ (tA h1 121 i).toInt ∧ (tA h1 121 i).toInt ≤ 7 := by rw [eA]; exact hKK
          refine tw_push rfl ?_
          refine tw_istore rfl ?_
          refine tw_push rfl ?_
          refine tw_istore rfl ?_
          refine tG_loop (zW_mono zTt G dp) (zW_conj zTt G dp) (V := fun pc L st h9 _ _ => pc = 153 ∧ st = [] ∧ h1 = h9 ∧ ∃ (n : Nat) (z y : Int32) (l8 l9 l10 l11 l12 : Option Value), z.toInt = (n : Int) ∧ (n : Int) ≤ (tvI (tF h 111 4)).toInt ∧ y = lcS ((tA h 155 c.toNatClampNeg) * (tA h 155 c.toNatClampNeg) * tA h 113 (tA h 154 c.toNatClampNeg).toNatClampNeg / 100) (fun i => sBn (fun p => tA h 117 (3 * p + (tA h 154 c.toNatClampNeg).toNatClampNeg)) ((sPM (tA h 177) (tA h 176) ((tA h 152 c.toNatClampNeg)).toNatClampNeg ((tA h 153 c.toNatClampNeg)) (sPB (fun p => tA h 118 (12 * (tA h 121 ((tA h 152 c.toNatClampNeg)).toNatClampNeg).toNatClampNeg + p)) (tA h 122 ((tA h 152 c.toNatClampNeg)).toNatClampNeg) (tvI (tF h 111 4)).toNatClampNeg) (tvI (tF h 111 83)).toNatClampNeg) ||| exP (Int32.ofNat i)) (tA h 115 (3 * (tA h 121 (tA h 152 c.toNatClampNeg).toNatClampNeg).toNatClampNeg + (tA h 154 c.toNatClampNeg).toNatClampNeg)) (tvI (tF h 111 4)).toNatClampNeg) (tA h 116) n ∧ L = [some (.ref 111), some (.int c), some (.int (sRI (tA h 141) (tvI (tF h 111 1)) (tvI (tF h 111 30)).toNatClampNeg)), some (.int (tA h 152 c.toNatClampNeg)), some (.int (tA h 121 (tA h 152 c.toNatClampNeg).toNatClampNeg)), some (.int b), some (.int y), some (.int z), l8, l9, l10, l11, l12]) ?_ (⟨rfl, rfl, rfl, 0, 0, -1, _, _, _, _, _, rfl, hm4.1, rfl, rfl⟩)
          rintro _ _ _ _ _ _ ⟨rfl, rfl, rfl, n, z, y, l8, l9, l10, l11, l12, hz, hnn, hy, rfl⟩
          have e4 : (tvI (tF h1 111 4)).toInt = (tvI (tF h 111 4)).toInt := by rw [hF.2.1]
          refine tw_iload rfl rfl ?_
          refine tw_aload rfl rfl ?_
          refine tw_getS rfl (hi_111_4 hF.1) ?_
          refine tw_ic_ge rfl (fun q1564 => ?_) (fun q1564 => ?_)
          · try dsimp only [tvI_i, tvJ_j, tvR_r] at q1564
            have nN2 : n = (tvI (tF h 111 4)).toNatClampNeg := by rw [zclE]; omega
            rw [nN2] at hy
            have hy : y = (lcM h (tA h 121 (tA h 152 c.toNatClampNeg).toNatClampNeg) (sPM (tA h 177) (tA h 176) ((tA h 152 c.toNatClampNeg)).toNatClampNeg ((tA h 153 c.toNatClampNeg)) (sPB (fun p => tA h 118 (12 * (tA h 121 ((tA h 152 c.toNatClampNeg)).toNatClampNeg).toNatClampNeg + p)) (tA h 122 ((tA h 152 c.toNatClampNeg)).toNatClampNeg) (tvI (tF h 111 4)).toNatClampNeg) (tvI (tF h 111 83)).toNatClampNeg) (tA h 154 c.toNatClampNeg) (tA h 155 c.toNatClampNeg)) := hy
            refine tw_aload rfl rfl ?_
            refine tw_iload rfl rfl ?_
            refine tw_aload rfl rfl ?_
            refine tw_getS rfl (hi_111_1 hF.1) ?_
            refine tw_aload rfl rfl ?_
            refine tw_getS rfl (hs_111_17 hF.1) ?_
            refine tw_iload rfl rfl ?_
            refine tw_iald rfl (fun f1565 => ?_)
            refine tw_virt3 rfl (g_asks hG hF.1 (by rw [eF]; exact h5) (by rw [eF]; exact h59) (by rw [eA]; exact h156)) (fun wp1566 hp1566 p1566 => ?_)
            obtain ⟨rfl, FA, hQ⟩ := p1566
            obtain ⟨f1, f2, f3, f4, f5⟩ := MU_fr (k := (tA h 121 (tA h 152 c.toNatClampNeg).toNatClampNeg)) eA eF
            rw [f1, f2, f3, f4, f5, eA, eF] at hQ
            have ea156 : tA hp1566 156 = tA h 156 := by rw [FA.2.2.1, eA]
            refine tw_aload rfl rfl ?_
            refine tw_getS rfl (hs_111_48 FA.1) ?_
            refine tw_push rfl ?_
            refine tw_aload rfl rfl ?_
            refine tw_getS rfl (hs_111_64 FA.1) ?_
            refine tw_iload rfl rfl ?_
            refine tw_iald rfl (fun f1567 => ?_)
            refine tw_i2l rfl ?_
            refine tw_last rfl (fun f1568 => ?_)
            refine tG_lst f1568 FA.1 (fun b1 a1 => ?_)
            try dsimp only [tvI_i, tvJ_j, tvR_r] at a1
            have G1 := wFr_s FA a1
            refine tw_aload rfl rfl ?_
            refine tw_getS rfl (hs_111_48 G1.1) ?_
            refine tw_push rfl ?_
            refine tw_aload rfl rfl ?_
            refine tw_getS rfl (hs_111_63 G1.1) ?_
            refine tw_iload rfl rfl ?_
            refine tw_iald rfl (fun f1569 => ?_)
            refine tw_i2l rfl ?_
            refine tw_last rfl (fun f1570 => ?_)
            refine tG_lst f1570 G1.1 (fun b2 a2 => ?_)
            try dsimp only [tvI_i, tvJ_j, tvR_r] at a2
            have G2 := wFr_s G1 a2
            refine tw_aload rfl rfl ?_
            refine tw_getS rfl (hs_111_48 G2.1) ?_
            refine tw_push rfl ?_
            refine tw_aload rfl rfl ?_
            refine tw_getS rfl (hs_111_62 G2.1) ?_
            refine tw_iload rfl rfl ?_
            refine tw_iald rfl (fun f1571 => ?_)
            refine tw_i2l rfl ?_
            refine tw_last rfl (fun f1572 => ?_)
            refine tG_lst f1572 G2.1 (fun b3 a3 => ?_)
            try dsimp only [tvI_i, tvJ_j, tvR_r] at a3
            have G3 := wFr_s G2 a3
            refine tw_aload rfl rfl ?_
            refine tw_getS rfl (hs_111_48 G3.1) ?_
            refine tw_push rfl ?_
            refine tw_iload rfl rfl ?_
            refine tw_if_eq rfl (fun q1573 => ?_) (fun q1573 => ?_)
            · try dsimp only [tvI_i, tvJ_j, tvR_r] at q1573
              have q1573i := zeqi (Y := 0) (by decide) q1573
              refine tw_push rfl ?_
              refine tw_last rfl (fun f1574 => ?_)
              refine tG_lst f1574 G3.1 (fun b4 a4 => ?_)
              try dsimp only [tvI_i, tvJ_j, tvR_r] at a4
              have G4 := wFr_s G3 a4
              refine tw_aload rfl rfl ?_
              refine tw_getS rfl (hs_111_48 G4.1) ?_
              refine tw_push rfl ?_
              refine tw_iload rfl rfl ?_
              refine tw_push rfl ?_
              refine tw_ic_ne rfl (fun q1575 => ?_) (fun q1575 => ?_)
              · try dsimp only [tvI_i, tvJ_j, tvR_r] at q1575
                have q1575i := zneq (Y := (-1)) (by decide) q1575
                refine tw_iload rfl rfl ?_
                refine tw_i2l rfl ?_
                refine tw_last rfl (fun f1576 => ?_)
                refine tG_lst f1576 G4.1 (fun b5 a5 => ?_)
                try dsimp only [tvI_i, tvJ_j, tvR_r] at a5
                have G5 := wFr_s G4 a5
                have LG := lFr_t hF (lFr_w G5)
                have eG := LG.2.2.1
                refine tw_aload rfl rfl ?_
                refine tw_iload rfl rfl ?_
                refine tw_push rfl ?_
                refine tw_push rfl ?_
                refine tw_virt3 rfl (g_tells hG G5.1 (d3.fr LG) d1 d2 (kd := 1) rfl (by decide) (t0 := 0) rfl (by rw [LG.2.2.1]; exact h133) (by rw [LG.2.2.1]; exact h134) (by rw [LG.2.2.1]; exact h135) (by rw [LG.2.2.1]; exact h136) (by rw [LG.2.2.1]; exact h138) (by rw [LG.2.2.1]; exact h139)) (fun w9 hp1577 p1577 => ?_)
                obtain ⟨FB1, ⟨rfl, hno1⟩ | ⟨i1, hi1, hit1, hfst1, xx1, rfl, hx1⟩⟩ := p1577
                · have LB1 := lFr_t LG (lFr_w FB1)
                  have hno1 : ∀ j, j < K (tvI (tF h 111 1)) → ¬ hit (tJ b5 143) (cs (tvI (tF h 111 1))) (cl (tvI (tF h 111 1)) j) 13 := fun j hj => by have z9 := hno1 j hj; rw [thc_k (by decide)] at z9; exact z9
                  refine tw_istore rfl ?_
                  refine tw_aload rfl rfl ?_
                  refine tw_iload rfl rfl ?_
                  refine tw_push rfl ?_
                  refine tw_push rfl ?_
                  refine tw_virt3 rfl (g_tells hG FB1.1 (d3.fr LB1) d1 d2 (kd := 2) rfl (by decide) (t0 := 0) rfl (by rw [LB1.2.2.1]; exact h133) (by rw [LB1.2.2.1]; exact h134) (by rw [LB1.2.2.1]; exact h135) (by rw [LB1.2.2.1]; exact h136) (by rw [LB1.2.2.1]; exact h138) (by rw [LB1.2.2.1]; exact h139)) (fun w9 hp1578 p1578 => ?_)
                  obtain ⟨FB2, ⟨rfl, hno2⟩ | ⟨i2, hi2, hit2, hfst2, xx2, rfl, hx2⟩⟩ := p1578
                  · have LB2 := lFr_t LB1 (lFr_w FB2)
                    have hno2 : ∀ j, j < K (tvI (tF h 111 1)) → ¬ hit (tJ b5 143) (cs (tvI (tF h 111 1))) (cl (tvI (tF h 111 1)) j) 14 := fun j hj => by have z9 := hno2 j hj; rw [thc_k (by decide), FB1.2.2.2.2.2 143 (by decide)] at z9; exact z9
                    refine tw_istore rfl ?_
                    refine tw_iload rfl rfl ?_
                    refine tw_push rfl ?_
                    refine tw_ic_ne rfl (fun z => absurd z (by decide)) (fun _ => ?_)
                    refine tw_push rfl ?_
                    refine tw_goto rfl ?_
                    refine tw_lstore rfl ?_
                    refine tw_lload rfl rfl ?_
                    refine tw_push rfl ?_
                    refine tw_lc_ge rfl rfl (fun _ => ?_) (fun z => absurd z (by decide))
                    refine tw_lload rfl rfl ?_
                    refine tw_lstore rfl ?_
                    refine tw_iload rfl rfl ?_
                    refine tw_push rfl ?_
                    refine tw_ic_ne rfl (fun z => absurd z (by decide)) (fun _ => ?_)
                    refine tw_lload rfl rfl ?_
                    rw [ea156] at a1
                    rw [G1.2.2.1, eA] at a2
                    rw [G2.2.2.1, eA] at a3
                    try dsimp only [tvI_i, tvJ_j, tvR_r] at hQ
                    have eW := mJs_g a5 (mJs_g a4 (mJs_g a3 (mJs_g a2 (mJs_g a1 rfl))))
                    have hJ : jS (tJ b5 143) (tvI (tF h 111 1)).toInt64 (tA h 121 (tA h 152 c.toNatClampNeg).toNatClampNeg).toInt64 (tA h 114 (tA h 121 (tA h 152 c.toNatClampNeg).toNatClampNeg).toNatClampNeg).toInt64 (tA h 122 (tA h 152 c.toNatClampNeg).toNatClampNeg).toInt64 (bN (mK9 h (tA h 121 (tA h 152 c.toNatClampNeg).toNatClampNeg) (tvI (tF h 111 1))) (tK9 h) (tvI (tF h 111 5)).toNatClampNeg (tvI (tF h 111 1)).toInt) (bN (mF9 h (tA h 121 (tA h 152 c.toNatClampNeg).toNatClampNeg)) (mT9 h) (tvI (tF h 111 59)).toNatClampNeg (tvI (tF h 111 1)).toInt) (bN (mD9 h (tA h 121 (tA h 152 c.toNatClampNeg).toNatClampNeg)) (mT9 h) (tvI (tF h 111 59)).toNatClampNeg (tvI (tF h 111 1)).toInt) (tA h 156 c.toNatClampNeg).toInt64 (tA h 155 c.toNatClampNeg).toInt64 (tA h 154 c.toNatClampNeg).toInt64 (kbW b) (lcV (lcM h (tA h 121 (tA h 152 c.toNatClampNeg).toNatClampNeg) (sPM (tA h 177) (tA h 176) ((tA h 152 c.toNatClampNeg)).toNatClampNeg ((tA h 153 c.toNatClampNeg)) (sPB (fun p => tA h 118 (12 * (tA h 121 ((tA h 152 c.toNatClampNeg)).toNatClampNeg).toNatClampNeg + p)) (tA h 122 ((tA h 152 c.toNatClampNeg)).toNatClampNeg) (tvI (tF h 111 4)).toNatClampNeg) (tvI (tF h 111 83)).toNatClampNeg) (tA h 154 c.toNatClampNeg) (tA h 155 c.toNatClampNeg))).toInt64 := by
                      rw [(show kbW b = _ from if_pos q1573), (show (lcV (lcM h (tA h 121 (tA h 152 c.toNatClampNeg).toNatClampNeg) (sPM (tA h 177) (tA h 176) ((tA h 152 c.toNatClampNeg)).toNatClampNeg ((tA h 153 c.toNatClampNeg)) (sPB (fun p => tA h 118 (12 * (tA h 121 ((tA h 152 c.toNatClampNeg)).toNatClampNeg).toNatClampNeg + p)) (tA h 122 ((tA h 152 c.toNatClampNeg)).toNatClampNeg) (tvI (tF h 111 4)).toNatClampNeg) (tvI (tF h 111 83)).toNatClampNeg) (tA h 154 c.toNatClampNeg) (tA h 155 c.toNatClampNeg))).toInt64 = _ from congrArg Int32.toInt64 (lcV_2 hy q1575).symm), eW]
                      exact jS_5 hQ
                    have k0 : (0 : Int64).toInt = 0 := by decide
                    exact tw_lret rfl (Or.inl ⟨⟨by omega, by omega⟩, Or.inr ⟨b, _, hkb, hJ, none, Or.inl ⟨rfl, hno1⟩, Or.inl ⟨rfl, rfl⟩⟩⟩)
                  · have LB2 := lFr_t LB1 (lFr_w FB2)
                    rw [thc_k (by decide)] at hit2
                    rw [FB1.2.2.2.2.2 143 (by decide)] at hit2
                    have hfst2 : ∀ j, j < i2 → ¬ hit (tJ b5 143) (cs (tvI (tF h 111 1))) (cl (tvI (tF h 111 1)) j) 14 := fun j hj => by have z9 := hfst2 j hj; rw [thc_k (by decide), FB1.2.2.2.2.2 143 (by decide)] at z9; exact z9
                    have x2n := zof_cl hx2
                    obtain ⟨s12, s22, s32, s42, p2, qq2, s52, s62⟩ := rOk_s (d3.ok i2 hi2) d3.nv (fun z => absurd (hit2.1.symm.trans z) (by decide))
                    have hK12 := d3.few
                    have c3 : ((cl (tvI (tF h 111 1)) i2).1, (cl (tvI (tF h 111 1)) i2).2.1, (cl (tvI (tF h 111 1)) i2).2.2.1, (cl (tvI (tF h 111 1)) i2).2.2.2) = (thc (tA h 135 (12 * q9 + i2)).toNatClampNeg (tA h 136 (12 * q9 + i2)).toNatClampNeg, (tA h 137 (12 * q9 + i2)).toNatClampNeg, (tA h 138 (12 * q9 + i2)).toNatClampNeg, (tA h 139 (12 * q9 + i2)).toNatClampNeg) := by rw [← d3.row i2 hi2]; rfl
                    have c52 := congrArg (fun z : rCt => z.2.1) c3
                    have c62 := congrArg (fun z : rCt => z.2.2.1) c3
                    dsimp only at c52 c62
                    have v12 : ∀ X, tA X = tA h → (tA X 137 xx2.toNatClampNeg).toInt = ((cl (tvI (tF h 111 1)) i2).2.1 : Int) := fun X eX => by rw [eX, x2n, c52]; exact (zclx (h137 (12 * q9 + i2) (by omega)).1).symm
                    have v22 : ∀ X, tA X = tA h → (tA X 138 xx2.toNatClampNeg).toInt = ((cl (tvI (tF h 111 1)) i2).2.2.1 : Int) := fun X eX => by rw [eX, x2n, c62]; exact (zclx (h138 (12 * q9 + i2) (by omega)).1).symm
                    refine tw_istore rfl ?_
                    refine tw_iload rfl rfl ?_
                    refine tw_push rfl ?_
                    refine tw_ic_ne rfl (fun z => absurd z (by decide)) (fun _ => ?_)
                    refine tw_push rfl ?_
                    refine tw_goto rfl ?_
                    refine tw_lstore rfl ?_
                    refine tw_lload rfl rfl ?_
                    refine tw_push rfl ?_
                    refine tw_lc_ge rfl rfl (fun _ => ?_) (fun z => absurd z (by decide))
                    refine tw_lload rfl rfl ?_
                    refine tw_lstore rfl ?_
                    refine tw_iload rfl rfl ?_
                    refine tw_push rfl ?_
                    refine tw_ic_ne rfl (fun q1579 => ?_) (fun q1579 => ?_)
                    · try dsimp only [tvI_i, tvJ_j, tvR_r] at q1579
                      have q1579i := zneq (Y := (-1)) (by decide) q1579
                      refine tw_aload rfl rfl ?_
                      refine tw_iload rfl rfl ?_
                      refine tw_aload rfl rfl ?_
                      refine tw_getS rfl (hs_111_40 FB2.1) ?_
                      refine tw_iload rfl rfl ?_
                      refine tw_iald rfl (fun f1580 => ?_)
                      refine tw_aload rfl rfl ?_
                      refine tw_getS rfl (hs_111_41 FB2.1) ?_
                      refine tw_iload rfl rfl ?_
                      refine tw_iald rfl (fun f1581 => ?_)
                      refine tw_virt3 rfl (g_answer hG FB2.1 d1 d2 (v12 _ LB2.2.2.1) (e := slc (cs (tvI (tF h 111 1))) (cl (tvI (tF h 111 1)) i2).2.1 (cl (tvI (tF h 111 1)) i2).2.2.1) (t := false) ((v22 _ LB2.2.2.1).trans (congrArg Nat.cast s12)) (by rw [← s12]; have := d3.big; omega) (by rw [LB2.2.2.1]; exact h133) (by rw [LB2.2.2.1]; exact h134) (by rw [LB2.2.2.1]; exact cdAt_h s52 s62 d3.cod) s32 s42) (fun wp1582 hp1582 p1582 => ?_)
                      obtain ⟨rfl, FC2⟩ := p1582
                      rw [FB2.2.2.2.2.2 143 (by decide), FB1.2.2.2.2.2 143 (by decide)]
                      have k0 : (0 : Int64).toInt = 0 := by decide
                      refine tw_lstore rfl ?_
                      refine tw_lload rfl rfl ?_
                      refine tw_push rfl ?_
                      refine tw_lc_ge rfl rfl (fun q1583 => ?_) (fun q1583 => ?_)
                      · try dsimp only [tvI_i, tvJ_j, tvR_r] at q1583
                        refine tw_lload rfl rfl ?_
                        refine tw_lstore rfl ?_
                        refine tw_lload rfl rfl ?_
                        refine tw_lload rfl rfl ?_
                        refine tw_lc_le rfl rfl (fun q1584 => ?_) (fun q1584 => ?_)
                        · try dsimp only [tvI_i, tvJ_j, tvR_r] at q1584
                          refine tw_lload rfl rfl ?_
                          rw [ea156] at a1
                          rw [G1.2.2.1, eA] at a2
                          rw [G2.2.2.1, eA] at a3
                          try dsimp only [tvI_i, tvJ_j, tvR_r] at hQ
                          have eW := mJs_g a5 (mJs_g a4 (mJs_g a3 (mJs_g a2 (mJs_g a1 rfl))))
                          have hJ : jS (tJ b5 143) (tvI (tF h 111 1)).toInt64 (tA h 121 (tA h 152 c.toNatClampNeg).toNatClampNeg).toInt64 (tA h 114 (tA h 121 (tA h 152 c.toNatClampNeg).toNatClampNeg).toNatClampNeg).toInt64 (tA h 122 (tA h 152 c.toNatClampNeg).toNatClampNeg).toInt64 (bN (mK9 h (tA h 121 (tA h 152 c.toNatClampNeg).toNatClampNeg) (tvI (tF h 111 1))) (tK9 h) (tvI (tF h 111 5)).toNatClampNeg (tvI (tF h 111 1)).toInt) (bN (mF9 h (tA h 121 (tA h 152 c.toNatClampNeg).toNatClampNeg)) (mT9 h) (tvI (tF h 111 59)).toNatClampNeg (tvI (tF h 111 1)).toInt) (bN (mD9 h (tA h 121 (tA h 152 c.toNatClampNeg).toNatClampNeg)) (mT9 h) (tvI (tF h 111 59)).toNatClampNeg (tvI (tF h 111 1)).toInt) (tA h 156 c.toNatClampNeg).toInt64 (tA h 155 c.toNatClampNeg).toInt64 (tA h 154 c.toNatClampNeg).toInt64 (kbW b) (lcV (lcM h (tA h 121 (tA h 152 c.toNatClampNeg).toNatClampNeg) (sPM (tA h 177) (tA h 176) ((tA h 152 c.toNatClampNeg)).toNatClampNeg ((tA h 153 c.toNatClampNeg)) (sPB (fun p => tA h 118 (12 * (tA h 121 ((tA h 152 c.toNatClampNeg)).toNatClampNeg).toNatClampNeg + p)) (tA h 122 ((tA h 152 c.toNatClampNeg)).toNatClampNeg) (tvI (tF h 111 4)).toNatClampNeg) (tvI (tF h 111 83)).toNatClampNeg) (tA h 154 c.toNatClampNeg) (tA h 155 c.toNatClampNeg))).toInt64 := by
                            rw [(show kbW b = _ from if_pos q1573), (show (lcV (lcM h (tA h 121 (tA h 152 c.toNatClampNeg).toNatClampNeg) (sPM (tA h 177) (tA h 176) ((tA h 152 c.toNatClampNeg)).toNatClampNeg ((tA h 153 c.toNatClampNeg)) (sPB (fun p => tA h 118 (12 * (tA h 121 ((tA h 152 c.toNatClampNeg)).toNatClampNeg).toNatClampNeg + p)) (tA h 122 ((tA h 152 c.toNatClampNeg)).toNatClampNeg) (tvI (tF h 111 4)).toNatClampNeg) (tvI (tF h 111 83)).toNatClampNeg) (tA h 154 c.toNatClampNeg) (tA h 155 c.toNatClampNeg))).toInt64 = _ from congrArg Int32.toInt64 (lcV_2 hy q1575).symm), eW]
                            exact jS_5 hQ
                          have k0 : (0 : Int64).toInt = 0 := by decide
                          exact tw_lret rfl (Or.inl ⟨⟨by omega, by omega⟩, Or.inr ⟨b, _, hkb, hJ, none, Or.inl ⟨rfl, hno1⟩, Or.inl ⟨rfl, rfl⟩⟩⟩)
                        · try dsimp only [tvI_i, tvJ_j, tvR_r] at q1584
                          refine tw_lload rfl rfl ?_
                          refine tw_goto rfl ?_
                          rw [ea156] at a1
                          rw [G1.2.2.1, eA] at a2
                          rw [G2.2.2.1, eA] at a3
                          try dsimp only [tvI_i, tvJ_j, tvR_r] at hQ
                          have eW := mJs_g a5 (mJs_g a4 (mJs_g a3 (mJs_g a2 (mJs_g a1 rfl))))
                          have hJ : jS (tJ b5 143) (tvI (tF h 111 1)).toInt64 (tA h 121 (tA h 152 c.toNatClampNeg).toNatClampNeg).toInt64 (tA h 114 (tA h 121 (tA h 152 c.toNatClampNeg).toNatClampNeg).toNatClampNeg).toInt64 (tA h 122 (tA h 152 c.toNatClampNeg).toNatClampNeg).toInt64 (bN (mK9 h (tA h 121 (tA h 152 c.toNatClampNeg).toNatClampNeg) (tvI (tF h 111 1))) (tK9 h) (tvI (tF h 111 5)).toNatClampNeg (tvI (tF h 111 1)).toInt) (bN (mF9 h (tA h 121 (tA h 152 c.toNatClampNeg).toNatClampNeg)) (mT9 h) (tvI (tF h 111 59)).toNatClampNeg (tvI (tF h 111 1)).toInt) (bN (mD9 h (tA h 121 (tA h 152 c.toNatClampNeg).toNatClampNeg)) (mT9 h) (tvI (tF h 111 59)).toNatClampNeg (tvI (tF h 111 1)).toInt) (tA h 156 c.toNatClampNeg).toInt64 (tA h 155 c.toNatClampNeg).toInt64 (tA h 154 c.toNatClampNeg).toInt64 (kbW b) (lcV (lcM h (tA h 121 (tA h 152 c.toNatClampNeg).toNatClampNeg) (sPM (tA h 177) (tA h 176) ((tA h 152 c.toNatClampNeg)).toNatClampNeg ((tA h 153 c.toNatClampNeg)) (sPB (fun p => tA h 118 (12 * (tA h 121 ((tA h 152 c.toNatClampNeg)).toNatClampNeg).toNatClampNeg + p)) (tA h 122 ((tA h 152 c.toNatClampNeg)).toNatClampNeg) (tvI (tF h 111 4)).toNatClampNeg) (tvI (tF h 111 83)).toNatClampNeg) (tA h 154 c.toNatClampNeg) (tA h 155 c.toNatClampNeg))).toInt64 := by
                            rw [(show kbW b = _ from if_pos q1573), (show (lcV (lcM h (tA h 121 (tA h 152 c.toNatClampNeg).toNatClampNeg) (sPM (tA h 177) (tA h 176) ((tA h 152 c.toNatClampNeg)).toNatClampNeg ((tA h 153 c.toNatClampNeg)) (sPB (fun p => tA h 118 (12 * (tA h 121 ((tA h 152 c.toNatClampNeg)).toNatClampNeg).toNatClampNeg + p)) (tA h 122 ((tA h 152 c.toNatClampNeg)).toNatClampNeg) (tvI (tF h 111 4)).toNatClampNeg) (tvI (tF h 111 83)).toNatClampNeg) (tA h 154 c.toNatClampNeg) (tA h 155 c.toNatClampNeg))).toInt64 = _ from congrArg Int32.toInt64 (lcV_2 hy q1575).symm), eW]
                            exact jS_5 hQ
                          have k0 : (0 : Int64).toInt = 0 := by decide
                          exact tw_lret rfl (Or.inl ⟨⟨by omega, by omega⟩, Or.inr ⟨b, _, hkb, hJ, none, Or.inl ⟨rfl, hno1⟩, Or.inl ⟨rfl, congrArg (fun z => some (Value.long z)) (Int64.toInt_inj.mp (by (try dsimp only [tvI_i, tvJ_j, tvR_r]); omega))⟩⟩⟩)
                      · try dsimp only [tvI_i, tvJ_j, tvR_r] at q1583
                        refine tw_push rfl ?_
                        refine tw_goto rfl ?_
                        refine tw_lstore rfl ?_
                        refine tw_lload rfl rfl ?_
                        refine tw_lload rfl rfl ?_
                        refine tw_lc_le rfl rfl (fun _ => ?_) (fun z => absurd z (by decide))
                        refine tw_lload rfl rfl ?_
                        rw [ea156] at a1
                        rw [G1.2.2.1, eA] at a2
                        rw [G2.2.2.1, eA] at a3
                        try dsimp only [tvI_i, tvJ_j, tvR_r] at hQ
                        have eW := mJs_g a5 (mJs_g a4 (mJs_g a3 (mJs_g a2 (mJs_g a1 rfl))))
                        have hJ : jS (tJ b5 143) (tvI (tF h 111 1)).toInt64 (tA h 121 (tA h 152 c.toNatClampNeg).toNatClampNeg).toInt64 (tA h 114 (tA h 121 (tA h 152 c.toNatClampNeg).toNatClampNeg).toNatClampNeg).toInt64 (tA h 122 (tA h 152 c.toNatClampNeg).toNatClampNeg).toInt64 (bN (mK9 h (tA h 121 (tA h 152 c.toNatClampNeg).toNatClampNeg) (tvI (tF h 111 1))) (tK9 h) (tvI (tF h 111 5)).toNatClampNeg (tvI (tF h 111 1)).toInt) (bN (mF9 h (tA h 121 (tA h 152 c.toNatClampNeg).toNatClampNeg)) (mT9 h) (tvI (tF h 111 59)).toNatClampNeg (tvI (tF h 111 1)).toInt) (bN (mD9 h (tA h 121 (tA h 152 c.toNatClampNeg).toNatClampNeg)) (mT9 h) (tvI (tF h 111 59)).toNatClampNeg (tvI (tF h 111 1)).toInt) (tA h 156 c.toNatClampNeg).toInt64 (tA h 155 c.toNatClampNeg).toInt64 (tA h 154 c.toNatClampNeg).toInt64 (kbW b) (lcV (lcM h (tA h 121 (tA h 152 c.toNatClampNeg).toNatClampNeg) (sPM (tA h 177) (tA h 176) ((tA h 152 c.toNatClampNeg)).toNatClampNeg ((tA h 153 c.toNatClampNeg)) (sPB (fun p => tA h 118 (12 * (tA h 121 ((tA h 152 c.toNatClampNeg)).toNatClampNeg).toNatClampNeg + p)) (tA h 122 ((tA h 152 c.toNatClampNeg)).toNatClampNeg) (tvI (tF h 111 4)).toNatClampNeg) (tvI (tF h 111 83)).toNatClampNeg) (tA h 154 c.toNatClampNeg) (tA h 155 c.toNatClampNeg))).toInt64 := by
                          rw [(show kbW b = _ from if_pos q1573), (show (lcV (lcM h (tA h 121 (tA h 152 c.toNatClampNeg).toNatClampNeg) (sPM (tA h 177) (tA h 176) ((tA h 152 c.toNatClampNeg)).toNatClampNeg ((tA h 153 c.toNatClampNeg)) (sPB (fun p => tA h 118 (12 * (tA h 121 ((tA h 152 c.toNatClampNeg)).toNatClampNeg).toNatClampNeg + p)) (tA h 122 ((tA h 152 c.toNatClampNeg)).toNatClampNeg) (tvI (tF h 111 4)).toNatClampNeg) (tvI (tF h 111 83)).toNatClampNeg) (tA h 154 c.toNatClampNeg) (tA h 155 c.toNatClampNeg))).toInt64 = _ from congrArg Int32.toInt64 (lcV_2 hy q1575).symm), eW]
                          exact jS_5 hQ
                        have k0 : (0 : Int64).toInt = 0 := by decide
                        exact tw_lret rfl (Or.inl ⟨⟨by omega, by omega⟩, Or.inr ⟨b, _, hkb, hJ, none, Or.inl ⟨rfl, hno1⟩, Or.inl ⟨rfl, rfl⟩⟩⟩)
                    · try dsimp only [tvI_i, tvJ_j, tvR_r] at q1579
                      have q1579i := zeqi (Y := (-1)) (by decide) q1579
                      exfalso
                      have k9 : (-1 : Int32).toInt = -1 := rfl
                      omega
                · have LB1 := lFr_t LG (lFr_w FB1)
                  rw [thc_k (by decide)] at hit1
                  have hfst1 : ∀ j, j < i1 → ¬ hit (tJ b5 143) (cs (tvI (tF h 111 1))) (cl (tvI (tF h 111 1)) j) 13 := fun j hj => by have z9 := hfst1 j hj; rw [thc_k (by decide)] at z9; exact z9
                  have x1n := zof_cl hx1
                  obtain ⟨s11, s21, s31, s41, p1, qq1, s51, s61⟩ := rOk_s (d3.ok i1 hi1) d3.nv (fun z => absurd (hit1.1.symm.trans z) (by decide))
                  have hK12 := d3.few
                  have c3 : ((cl (tvI (tF h 111 1)) i1).1, (cl (tvI (tF h 111 1)) i1).2.1, (cl (tvI (tF h 111 1)) i1).2.2.1, (cl (tvI (tF h 111 1)) i1).2.2.2) = (thc (tA h 135 (12 * q9 + i1)).toNatClampNeg (tA h 136 (12 * q9 + i1)).toNatClampNeg, (tA h 137 (12 * q9 + i1)).toNatClampNeg, (tA h 138 (12 * q9 + i1)).toNatClampNeg, (tA h 139 (12 * q9 + i1)).toNatClampNeg) := by rw [← d3.row i1 hi1]; rfl
                  have c51 := congrArg (fun z : rCt => z.2.1) c3
                  have c61 := congrArg (fun z : rCt => z.2.2.1) c3
                  dsimp only at c51 c61
                  have v11 : ∀ X, tA X = tA h → (tA X 137 xx1.toNatClampNeg).toInt = ((cl (tvI (tF h 111 1)) i1).2.1 : Int) := fun X eX => by rw [eX, x1n, c51]; exact (zclx (h137 (12 * q9 + i1) (by omega)).1).symm
                  have v21 : ∀ X, tA X = tA h → (tA X 138 xx1.toNatClampNeg).toInt = ((cl (tvI (tF h 111 1)) i1).2.2.1 : Int) := fun X eX => by rw [eX, x1n, c61]; exact (zclx (h138 (12 * q9 + i1) (by omega)).1).symm
                  refine tw_istore rfl ?_
                  refine tw_aload rfl rfl ?_
                  refine tw_iload rfl rfl ?_
                  refine tw_push rfl ?_
                  refine tw_push rfl ?_
                  refine tw_virt3 rfl (g_tells hG FB1.1 (d3.fr LB1) d1 d2 (kd := 2) rfl (by decide) (t0 := 0) rfl (by rw [LB1.2.2.1]; exact h133) (by rw [LB1.2.2.1]; exact h134) (by rw [LB1.2.2.1]; exact h135) (by rw [LB1.2.2.1]; exact h136) (by rw [LB1.2.2.1]; exact h138) (by rw [LB1.2.2.1]; exact h139)) (fun w9 hp1585 p1585 => ?_)
                  obtain ⟨FB2, ⟨rfl, hno2⟩ | ⟨i2, hi2, hit2, hfst2, xx2, rfl, hx2⟩⟩ := p1585
                  · have LB2 := lFr_t LB1 (lFr_w FB2)
                    have hno2 : ∀ j, j < K (tvI (tF h 111 1)) → ¬ hit (tJ b5 143) (cs (tvI (tF h 111 1))) (cl (tvI (tF h 111 1)) j) 14 := fun j hj => by have z9 := hno2 j hj; rw [thc_k (by decide), FB1.2.2.2.2.2 143 (by decide)] at z9; exact z9
                    refine tw_istore rfl ?_
                    refine tw_iload rfl rfl ?_
                    refine tw_push rfl ?_
                    refine tw_ic_ne rfl (fun q1586 => ?_) (fun q1586 => ?_)
                    · try dsimp only [tvI_i, tvJ_j, tvR_r] at q1586
                      have q1586i := zneq (Y := (-1)) (by decide) q1586
                      refine tw_aload rfl rfl ?_
                      refine tw_iload rfl rfl ?_
                      refine tw_aload rfl rfl ?_
                      refine tw_getS rfl (hs_111_40 FB2.1) ?_
                      refine tw_iload rfl rfl ?_
                      refine tw_iald rfl (fun f1587 => ?_)
                      refine tw_aload rfl rfl ?_
                      refine tw_getS rfl (hs_111_41 FB2.1) ?_
                      refine tw_iload rfl rfl ?_
                      refine tw_iald rfl (fun f1588 => ?_)
                      refine tw_virt3 rfl (g_answer hG FB2.1 d1 d2 (v11 _ LB2.2.2.1) (e := slc (cs (tvI (tF h 111 1))) (cl (tvI (tF h 111 1)) i1).2.1 (cl (tvI (tF h 111 1)) i1).2.2.1) (t := false) ((v21 _ LB2.2.2.1).trans (congrArg Nat.cast s11)) (by rw [← s11]; have := d3.big; omega) (by rw [LB2.2.2.1]; exact h133) (by rw [LB2.2.2.1]; exact h134) (by rw [LB2.2.2.1]; exact cdAt_h s51 s61 d3.cod) s31 s41) (fun wp1589 hp1589 p1589 => ?_)
                      obtain ⟨rfl, FC1⟩ := p1589
                      rw [FB2.2.2.2.2.2 143 (by decide), FB1.2.2.2.2.2 143 (by decide)]
                      have LC1 := lFr_t LB2 (lFr_w FC1)
                      have k0 : (0 : Int64).toInt = 0 := by decide
                      refine tw_lstore rfl ?_
                      refine tw_lload rfl rfl ?_
                      refine tw_push rfl ?_
                      refine tw_lc_ge rfl rfl (fun q1590 => ?_) (fun q1590 => ?_)
                      · try dsimp only [tvI_i, tvJ_j, tvR_r] at q1590
                        refine tw_lload rfl rfl ?_
                        refine tw_lstore rfl ?_
                        refine tw_iload rfl rfl ?_
                        refine tw_push rfl ?_
                        refine tw_ic_ne rfl (fun z => absurd z (by decide)) (fun _ => ?_)
                        refine tw_lload rfl rfl ?_
                        rw [ea156] at a1
                        rw [G1.2.2.1, eA] at a2
                        rw [G2.2.2.1, eA] at a3
                        try dsimp only [tvI_i, tvJ_j, tvR_r] at hQ
                        have eW := mJs_g a5 (mJs_g a4 (mJs_g a3 (mJs_g a2 (mJs_g a1 rfl))))
                        have hJ : jS (tJ b5 143) (tvI (tF h 111 1)).toInt64 (tA h 121 (tA h 152 c.toNatClampNeg).toNatClampNeg).toInt64 (tA h 114 (tA h 121 (tA h 152 c.toNatClampNeg).toNatClampNeg).toNatClampNeg).toInt64 (tA h 122 (tA h 152 c.toNatClampNeg).toNatClampNeg).toInt64 (bN (mK9 h (tA h 121 (tA h 152 c.toNatClampNeg).toNatClampNeg) (tvI (tF h 111 1))) (tK9 h) (tvI (tF h 111 5)).toNatClampNeg (tvI (tF h 111 1)).toInt) (bN (mF9 h (tA h 121 (tA h 152 c.toNatClampNeg).toNatClampNeg)) (mT9 h) (tvI (tF h 111 59)).toNatClampNeg (tvI (tF h 111 1)).toInt) (bN (mD9 h (tA h 121 (tA h 152 c.toNatClampNeg).toNatClampNeg)) (mT9 h) (tvI (tF h 111 59)).toNatClampNeg (tvI (tF h 111 1)).toInt) (tA h 156 c.toNatClampNeg).toInt64 (tA h 155 c.toNatClampNeg).toInt64 (tA h 154 c.toNatClampNeg).toInt64 (kbW b) (lcV (lcM h (tA h 121 (tA h 152 c.toNatClampNeg).toNatClampNeg) (sPM (tA h 177) (tA h 176) ((tA h 152 c.toNatClampNeg)).toNatClampNeg ((tA h 153 c.toNatClampNeg)) (sPB (fun p => tA h 118 (12 * (tA h 121 ((tA h 152 c.toNatClampNeg)).toNatClampNeg).toNatClampNeg + p)) (tA h 122 ((tA h 152 c.toNatClampNeg)).toNatClampNeg) (tvI (tF h 111 4)).toNatClampNeg) (tvI (tF h 111 83)).toNatClampNeg) (tA h 154 c.toNatClampNeg) (tA h 155 c.toNatClampNeg))).toInt64 := by
                          rw [(show kbW b = _ from if_pos q1573), (show (lcV (lcM h (tA h 121 (tA h 152 c.toNatClampNeg).toNatClampNeg) (sPM (tA h 177) (tA h 176) ((tA h 152 c.toNatClampNeg)).toNatClampNeg ((tA h 153 c.toNatClampNeg)) (sPB (fun p => tA h 118 (12 * (tA h 121 ((tA h 152 c.toNatClampNeg)).toNatClampNeg).toNatClampNeg + p)) (tA h 122 ((tA h 152 c.toNatClampNeg)).toNatClampNeg) (tvI (tF h 111 4)).toNatClampNeg) (tvI (tF h 111 83)).toNatClampNeg) (tA h 154 c.toNatClampNeg) (tA h 155 c.toNatClampNeg))).toInt64 = _ from congrArg Int32.toInt64 (lcV_2 hy q1575).symm), eW]
                          exact jS_5 hQ
                        exact tw_lret rfl (Or.inl ⟨⟨by omega, by omega⟩, Or.inr ⟨b, _, hkb, hJ, some _, Or.inr ⟨i1, hi1, hit1, hfst1, rfl⟩, Or.inr ⟨_, none, rfl, Or.inl ⟨rfl, hno2⟩, congrArg (fun z => some (Value.long z)) (Int64.toInt_inj.mp (by (try dsimp only [tvI_i, tvJ_j, tvR_r]); rw [jV_n]; omega))⟩⟩⟩)
                      · try dsimp only [tvI_i, tvJ_j, tvR_r] at q1590
                        refine tw_push rfl ?_
                        refine tw_goto rfl ?_
                        refine tw_lstore rfl ?_
                        refine tw_iload rfl rfl ?_
                        refine tw_push rfl ?_
                        refine tw_ic_ne rfl (fun z => absurd z (by decide)) (fun _ => ?_)
                        refine tw_lload rfl rfl ?_
                        rw [ea156] at a1
                        rw [G1.2.2.1, eA] at a2
                        rw [G2.2.2.1, eA] at a3
                        try dsimp only [tvI_i, tvJ_j, tvR_r] at hQ
                        have eW := mJs_g a5 (mJs_g a4 (mJs_g a3 (mJs_g a2 (mJs_g a1 rfl))))
                        have hJ : jS (tJ b5 143) (tvI (tF h 111 1)).toInt64 (tA h 121 (tA h 152 c.toNatClampNeg).toNatClampNeg).toInt64 (tA h 114 (tA h 121 (tA h 152 c.toNatClampNeg).toNatClampNeg).toNatClampNeg).toInt64 (tA h 122 (tA h 152 c.toNatClampNeg).toNatClampNeg).toInt64 (bN (mK9 h (tA h 121 (tA h 152 c.toNatClampNeg).toNatClampNeg) (tvI (tF h 111 1))) (tK9 h) (tvI (tF h 111 5)).toNatClampNeg (tvI (tF h 111 1)).toInt) (bN (mF9 h (tA h 121 (tA h 152 c.toNatClampNeg).toNatClampNeg)) (mT9 h) (tvI (tF h 111 59)).toNatClampNeg (tvI (tF h 111 1)).toInt) (bN (mD9 h (tA h 121 (tA h 152 c.toNatClampNeg).toNatClampNeg)) (mT9 h) (tvI (tF h 111 59)).toNatClampNeg (tvI (tF h 111 1)).toInt) (tA h 156 c.toNatClampNeg).toInt64 (tA h 155 c.toNatClampNeg).toInt64 (tA h 154 c.toNatClampNeg).toInt64 (kbW b) (lcV (lcM h (tA h 121 (tA h 152 c.toNatClampNeg).toNatClampNeg) (sPM (tA h 177) (tA h 176) ((tA h 152 c.toNatClampNeg)).toNatClampNeg ((tA h 153 c.toNatClampNeg)) (sPB (fun p => tA h 118 (12 * (tA h 121 ((tA h 152 c.toNatClampNeg)).toNatClampNeg).toNatClampNeg + p)) (tA h 122 ((tA h 152 c.toNatClampNeg)).toNatClampNeg) (tvI (tF h 111 4)).toNatClampNeg) (tvI (tF h 111 83)).toNatClampNeg) (tA h 154 c.toNatClampNeg) (tA h 155 c.toNatClampNeg))).toInt64 := by
                          rw [(show kbW b = _ from if_pos q1573), (show (lcV (lcM h (tA h 121 (tA h 152 c.toNatClampNeg).toNatClampNeg) (sPM (tA h 177) (tA h 176) ((tA h 152 c.toNatClampNeg)).toNatClampNeg ((tA h 153 c.toNatClampNeg)) (sPB (fun p => tA h 118 (12 * (tA h 121 ((tA h 152 c.toNatClampNeg)).toNatClampNeg).toNatClampNeg + p)) (tA h 122 ((tA h 152 c.toNatClampNeg)).toNatClampNeg) (tvI (tF h 111 4)).toNatClampNeg) (tvI (tF h 111 83)).toNatClampNeg) (tA h 154 c.toNatClampNeg) (tA h 155 c.toNatClampNeg))).toInt64 = _ from congrArg Int32.toInt64 (lcV_2 hy q1575).symm), eW]
                          exact jS_5 hQ
                        exact tw_lret rfl (Or.inl ⟨⟨by omega, by omega⟩, Or.inr ⟨b, _, hkb, hJ, some _, Or.inr ⟨i1, hi1, hit1, hfst1, rfl⟩, Or.inr ⟨_, none, rfl, Or.inl ⟨rfl, hno2⟩, congrArg (fun z => some (Value.long z)) (Int64.toInt_inj.mp (by (try dsimp only [tvI_i, tvJ_j, tvR_r]); rw [jV_n]; omega))⟩⟩⟩)
                    · try dsimp only [tvI_i, tvJ_j, tvR_r] at q1586
                      have q1586i := zeqi (Y := (-1)) (by decide) q1586
                      exfalso
                      have k9 : (-1 : Int32).toInt = -1 := rfl
                      omega
                  · have LB2 := lFr_t LB1 (lFr_w FB2)
                    rw [thc_k (by decide)] at hit2
                    rw [FB1.2.2.2.2.2 143 (by decide)] at hit2
                    have hfst2 : ∀ j, j < i2 → ¬ hit (tJ b5 143) (cs (tvI (tF h 111 1))) (cl (tvI (tF h 111 1)) j) 14 := fun j hj => by have z9 := hfst2 j hj; rw [thc_k (by decide), FB1.2.2.2.2.2 143 (by decide)] at z9; exact z9
                    have x2n := zof_cl hx2
                    obtain ⟨s12, s22, s32, s42, p2, qq2, s52, s62⟩ := rOk_s (d3.ok i2 hi2) d3.nv (fun z => absurd (hit2.1.symm.trans z) (by decide))
                    have hK12 := d3.few
                    have c3 : ((cl (tvI (tF h 111 1)) i2).1, (cl (tvI (tF h 111 1)) i2).2.1, (cl (tvI (tF h 111 1)) i2).2.2.1, (cl (tvI (tF h 111 1)) i2).2.2.2) = (thc (tA h 135 (12 * q9 + i2)).toNatClampNeg (tA h 136 (12 * q9 + i2)).toNatClampNeg, (tA h 137 (12 * q9 + i2)).toNatClampNeg, (tA h 138 (12 * q9 + i2)).toNatClampNeg, (tA h 139 (12 * q9 + i2)).toNatClampNeg) := by rw [← d3.row i2 hi2]; rfl
                    have c52 := congrArg (fun z : rCt => z.2.1) c3
                    have c62 := congrArg (fun z : rCt => z.2.2.1) c3
                    dsimp only at c52 c62
                    have v12 : ∀ X, tA X = tA h → (tA X 137 xx2.toNatClampNeg).toInt = ((cl (tvI (tF h 111 1)) i2).2.1 : Int) := fun X eX => by rw [eX, x2n, c52]; exact (zclx (h137 (12 * q9 + i2) (by omega)).1).symm
                    have v22 : ∀ X, tA X = tA h → (tA X 138 xx2.toNatClampNeg).toInt = ((cl (tvI (tF h 111 1)) i2).2.2.1 : Int) := fun X eX => by rw [eX, x2n, c62]; exact (zclx (h138 (12 * q9 + i2) (by omega)).1).symm
                    refine tw_istore rfl ?_
                    refine tw_iload rfl rfl ?_
                    refine tw_push rfl ?_
                    refine tw_ic_ne rfl (fun q1591 => ?_) (fun q1591 => ?_)
                    · try dsimp only [tvI_i, tvJ_j, tvR_r] at q1591
                      have q1591i := zneq (Y := (-1)) (by decide) q1591
                      refine tw_aload rfl rfl ?_
                      refine tw_iload rfl rfl ?_
                      refine tw_aload rfl rfl ?_
                      refine tw_getS rfl (hs_111_40 FB2.1) ?_
                      refine tw_iload rfl rfl ?_
                      refine tw_iald rfl (fun f1592 => ?_)
                      refine tw_aload rfl rfl ?_
                      refine tw_getS rfl (hs_111_41 FB2.1) ?_
                      refine tw_iload rfl rfl ?_
                      refine tw_iald rfl (fun f1593 => ?_)
                      refine tw_virt3 rfl (g_answer hG FB2.1 d1 d2 (v11 _ LB2.2.2.1) (e := slc (cs (tvI (tF h 111 1))) (cl (tvI (tF h 111 1)) i1).2.1 (cl (tvI (tF h 111 1)) i1).2.2.1) (t := false) ((v21 _ LB2.2.2.1).trans (congrArg Nat.cast s11)) (by rw [← s11]; have := d3.big; omega) (by rw [LB2.2.2.1]; exact h133) (by rw [LB2.2.2.1]; exact h134) (by rw [LB2.2.2.1]; exact cdAt_h s51 s61 d3.cod) s31 s41) (fun wp1594 hp1594 p1594 => ?_)
                      obtain ⟨rfl, FC1⟩ := p1594
                      rw [FB2.2.2.2.2.2 143 (by decide), FB1.2.2.2.2.2 143 (by decide)]
                      have LC1 := lFr_t LB2 (lFr_w FC1)
                      have k0 : (0 : Int64).toInt = 0 := by decide
                      refine tw_lstore rfl ?_
                      refine tw_lload rfl rfl ?_
                      refine tw_push rfl ?_
                      refine tw_lc_ge rfl rfl (fun q1595 => ?_) (fun q1595 => ?_)
                      · try dsimp only [tvI_i, tvJ_j, tvR_r] at q1595
                        refine tw_lload rfl rfl ?_
                        refine tw_lstore rfl ?_
                        refine tw_iload rfl rfl ?_
                        refine tw_push rfl ?_
                        refine tw_ic_ne rfl (fun q1596 => ?_) (fun q1596 => ?_)
                        · try dsimp only [tvI_i, tvJ_j, tvR_r] at q1596
                          have q1596i := zneq (Y := (-1)) (by decide) q1596
                          refine tw_aload rfl rfl ?_
                          refine tw_iload rfl rfl ?_
                          refine tw_aload rfl rfl ?_
                          refine tw_getS rfl (hs_111_40 FC1.1) ?_
                          refine tw_iload rfl rfl ?_
                          refine tw_iald rfl (fun f1597 => ?_)
                          refine tw_aload rfl rfl ?_
                          refine tw_getS rfl (hs_111_41 FC1.1) ?_
                          refine tw_iload rfl rfl ?_
                          refine tw_iald rfl (fun f1598 => ?_)
                          refine tw_virt3 rfl (g_answer hG FC1.1 d1 d2 (v12 _ LC1.2.2.1) (e := slc (cs (tvI (tF h 111 1))) (cl (tvI (tF h 111 1)) i2).2.1 (cl (tvI (tF h 111 1)) i2).2.2.1) (t := false) ((v22 _ LC1.2.2.1).trans (congrArg Nat.cast s12)) (by rw [← s12]; have := d3.big; omega) (by rw [LC1.2.2.1]; exact h133) (by rw [LC1.2.2.1]; exact h134) (by rw [LC1.2.2.1]; exact cdAt_h s52 s62 d3.cod) s32 s42) (fun wp1599 hp1599 p1599 => ?_)
                          obtain ⟨rfl, FC2⟩ := p1599
                          rw [FC1.2.2.2.2.2 143 (by decide), FB2.2.2.2.2.2 143 (by decide), FB1.2.2.2.2.2 143 (by decide)]
                          have k0 : (0 : Int64).toInt = 0 := by decide
                          refine tw_lstore rfl ?_
                          refine tw_lload rfl rfl ?_
                          refine tw_push rfl ?_
                          refine tw_lc_ge rfl rfl (fun q1600 => ?_) (fun q1600 => ?_)
                          · try dsimp only [tvI_i, tvJ_j, tvR_r] at q1600
                            refine tw_lload rfl rfl ?_
                            refine tw_lstore rfl ?_
                            refine tw_lload rfl rfl ?_
                            refine tw_lload rfl rfl ?_
                            refine tw_lc_le rfl rfl (fun q1601 => ?_) (fun q1601 => ?_)
                            · try dsimp only [tvI_i, tvJ_j, tvR_r] at q1601
                              refine tw_lload rfl rfl ?_
                              rw [ea156] at a1
                              rw [G1.2.2.1, eA] at a2
                              rw [G2.2.2.1, eA] at a3
                              try dsimp only [tvI_i, tvJ_j, tvR_r] at hQ
                              have eW := mJs_g a5 (mJs_g a4 (mJs_g a3 (mJs_g a2 (mJs_g a1 rfl))))
                              have hJ : jS (tJ b5 143) (tvI (tF h 111 1)).toInt64 (tA h 121 (tA h 152 c.toNatClampNeg).toNatClampNeg).toInt64 (tA h 114 (tA h 121 (tA h 152 c.toNatClampNeg).toNatClampNeg).toNatClampNeg).toInt64 (tA h 122 (tA h 152 c.toNatClampNeg).toNatClampNeg).toInt64 (bN (mK9 h (tA h 121 (tA h 152 c.toNatClampNeg).toNatClampNeg) (tvI (tF h 111 1))) (tK9 h) (tvI (tF h 111 5)).toNatClampNeg (tvI (tF h 111 1)).toInt) (bN (mF9 h (tA h 121 (tA h 152 c.toNatClampNeg).toNatClampNeg)) (mT9 h) (tvI (tF h 111 59)).toNatClampNeg (tvI (tF h 111 1)).toInt) (bN (mD9 h (tA h 121 (tA h 152 c.toNatClampNeg).toNatClampNeg)) (mT9 h) (tvI (tF h 111 59)).toNatClampNeg (tvI (tF h 111 1)).toInt) (tA h 156 c.toNatClampNeg).toInt64 (tA h 155 c.toNatClampNeg).toInt64 (tA h 154 c.toNatClampNeg).toInt64 (kbW b) (lcV (lcM h (tA h 121 (tA h 152 c.toNatClampNeg).toNatClampNeg) (sPM (tA h 177) (tA h 176) ((tA h 152 c.toNatClampNeg)).toNatClampNeg ((tA h 153 c.toNatClampNeg)) (sPB (fun p => tA h 118 (12 * (tA h 121 ((tA h 152 c.toNatClampNeg)).toNatClampNeg).toNatClampNeg + p)) (tA h 122 ((tA h 152 c.toNatClampNeg)).toNatClampNeg) (tvI (tF h 111 4)).toNatClampNeg) (tvI (tF h 111 83)).toNatClampNeg) (tA h 154 c.toNatClampNeg) (tA h 155 c.toNatClampNeg))).toInt64 := by
                                rw [(show kbW b = _ from if_pos q1573), (show (lcV (lcM h (tA h 121 (tA h 152 c.toNatClampNeg).toNatClampNeg) (sPM (tA h 177) (tA h 176) ((tA h 152 c.toNatClampNeg)).toNatClampNeg ((tA h 153 c.toNatClampNeg)) (sPB (fun p => tA h 118 (12 * (tA h 121 ((tA h 152 c.toNatClampNeg)).toNatClampNeg).toNatClampNeg + p)) (tA h 122 ((tA h 152 c.toNatClampNeg)).toNatClampNeg) (tvI (tF h 111 4)).toNatClampNeg) (tvI (tF h 111 83)).toNatClampNeg) (tA h 154 c.toNatClampNeg) (tA h 155 c.toNatClampNeg))).toInt64 = _ from congrArg Int32.toInt64 (lcV_2 hy q1575).symm), eW]
                                exact jS_5 hQ
                              exact tw_lret rfl (Or.inl ⟨⟨by omega, by omega⟩, Or.inr ⟨b, _, hkb, hJ, some _, Or.inr ⟨i1, hi1, hit1, hfst1, rfl⟩, Or.inr ⟨_, some _, rfl, Or.inr ⟨i2, hi2, hit2, hfst2, rfl⟩, congrArg (fun z => some (Value.long z)) (Int64.toInt_inj.mp (by (try dsimp only [tvI_i, tvJ_j, tvR_r]); rw [jV_i]; omega))⟩⟩⟩)
                            · try dsimp only [tvI_i, tvJ_j, tvR_r] at q1601
                              refine tw_lload rfl rfl ?_
                              refine tw_goto rfl ?_
                              rw [ea156] at a1
                              rw [G1.2.2.1, eA] at a2
                              rw [G2.2.2.1, eA] at a3
                              try dsimp only [tvI_i, tvJ_j, tvR_r] at hQ
                              have eW := mJs_g a5 (mJs_g a4 (mJs_g a3 (mJs_g a2 (mJs_g a1 rfl))))
                              have hJ : jS (tJ b5 143) (tvI (tF h 111 1)).toInt64 (tA h 121 (tA h 152 c.toNatClampNeg).toNatClampNeg).toInt64 (tA h 114 (tA h 121 (tA h 152 c.toNatClampNeg).toNatClampNeg).toNatClampNeg).toInt64 (tA h 122 (tA h 152 c.toNatClampNeg).toNatClampNeg).toInt64 (bN (mK9 h (tA h 121 (tA h 152 c.toNatClampNeg).toNatClampNeg) (tvI (tF h 111 1))) (tK9 h) (tvI (tF h 111 5)).toNatClampNeg (tvI (tF h 111 1)).toInt) (bN (mF9 h (tA h 121 (tA h 152 c.toNatClampNeg).toNatClampNeg)) (mT9 h) (tvI (tF h 111 59)).toNatClampNeg (tvI (tF h 111 1)).toInt) (bN (mD9 h (tA h 121 (tA h 152 c.toNatClampNeg).toNatClampNeg)) (mT9 h) (tvI (tF h 111 59)).toNatClampNeg (tvI (tF h 111 1)).toInt) (tA h 156 c.toNatClampNeg).toInt64 (tA h 155 c.toNatClampNeg).toInt64 (tA h 154 c.toNatClampNeg).toInt64 (kbW b) (lcV (lcM h (tA h 121 (tA h 152 c.toNatClampNeg).toNatClampNeg) (sPM (tA h 177) (tA h 176) ((tA h 152 c.toNatClampNeg)).toNatClampNeg ((tA h 153 c.toNatClampNeg)) (sPB (fun p => tA h 118 (12 * (tA h 121 ((tA h 152 c.toNatClampNeg)).toNatClampNeg).toNatClampNeg + p)) (tA h 122 ((tA h 152 c.toNatClampNeg)).toNatClampNeg) (tvI (tF h 111 4)).toNatClampNeg) (tvI (tF h 111 83)).toNatClampNeg) (tA h 154 c.toNatClampNeg) (tA h 155 c.toNatClampNeg))).toInt64 := by
                                rw [(show kbW b = _ from if_pos q1573), (show (lcV (lcM h (tA h 121 (tA h 152 c.toNatClampNeg).toNatClampNeg) (sPM (tA h 177) (tA h 176) ((tA h 152 c.toNatClampNeg)).toNatClampNeg ((tA h 153 c.toNatClampNeg)) (sPB (fun p => tA h 118 (12 * (tA h 121 ((tA h 152 c.toNatClampNeg)).toNatClampNeg).toNatClampNeg + p)) (tA h 122 ((tA h 152 c.toNatClampNeg)).toNatClampNeg) (tvI (tF h 111 4)).toNatClampNeg) (tvI (tF h 111 83)).toNatClampNeg) (tA h 154 c.toNatClampNeg) (tA h 155 c.toNatClampNeg))).toInt64 = _ from congrArg Int32.toInt64 (lcV_2 hy q1575).symm), eW]
                                exact jS_5 hQ
                              exact tw_lret rfl (Or.inl ⟨⟨by omega, by omega⟩, Or.inr ⟨b, _, hkb, hJ, some _, Or.inr ⟨i1, hi1, hit1, hfst1, rfl⟩, Or.inr ⟨_, some _, rfl, Or.inr ⟨i2, hi2, hit2, hfst2, rfl⟩, congrArg (fun z => some (Value.long z)) (Int64.toInt_inj.mp (by (try dsimp only [tvI_i, tvJ_j, tvR_r]); rw [jV_i]; omega))⟩⟩⟩)
                          · try dsimp only [tvI_i, tvJ_j, tvR_r] at q1600
                            refine tw_push rfl ?_
                            refine tw_goto rfl ?_
                            refine tw_lstore rfl ?_
                            refine tw_lload rfl rfl ?_
                            refine tw_lload rfl rfl ?_
                            refine tw_lc_le rfl rfl (fun q1602 => ?_) (fun q1602 => ?_)
                            · try dsimp only [tvI_i, tvJ_j, tvR_r] at q1602
                              refine tw_lload rfl rfl ?_
                              rw [ea156] at a1
                              rw [G1.2.2.1, eA] at a2
                              rw [G2.2.2.1, eA] at a3
                              try dsimp only [tvI_i, tvJ_j, tvR_r] at hQ
                              have eW := mJs_g a5 (mJs_g a4 (mJs_g a3 (mJs_g a2 (mJs_g a1 rfl))))
                              have hJ : jS (tJ b5 143) (tvI (tF h 111 1)).toInt64 (tA h 121 (tA h 152 c.toNatClampNeg).toNatClampNeg).toInt64 (tA h 114 (tA h 121 (tA h 152 c.toNatClampNeg).toNatClampNeg).toNatClampNeg).toInt64 (tA h 122 (tA h 152 c.toNatClampNeg).toNatClampNeg).toInt64 (bN (mK9 h (tA h 121 (tA h 152 c.toNatClampNeg).toNatClampNeg) (tvI (tF h 111 1))) (tK9 h) (tvI (tF h 111 5)).toNatClampNeg (tvI (tF h 111 1)).toInt) (bN (mF9 h (tA h 121 (tA h 152 c.toNatClampNeg).toNatClampNeg)) (mT9 h) (tvI (tF h 111 59)).toNatClampNeg (tvI (tF h 111 1)).toInt) (bN (mD9 h (tA h 121 (tA h 152 c.toNatClampNeg).toNatClampNeg)) (mT9 h) (tvI (tF h 111 59)).toNatClampNeg (tvI (tF h 111 1)).toInt) (tA h 156 c.toNatClampNeg).toInt64 (tA h 155 c.toNatClampNeg).toInt64 (tA h 154 c.toNatClampNeg).toInt64 (kbW b) (lcV (lcM h (tA h 121 (tA h 152 c.toNatClampNeg).toNatClampNeg) (sPM (tA h 177) (tA h 176) ((tA h 152 c.toNatClampNeg)).toNatClampNeg ((tA h 153 c.toNatClampNeg)) (sPB (fun p => tA h 118 (12 * (tA h 121 ((tA h 152 c.toNatClampNeg)).toNatClampNeg).toNatClampNeg + p)) (tA h 122 ((tA h 152 c.toNatClampNeg)).toNatClampNeg) (tvI (tF h 111 4)).toNatClampNeg) (tvI (tF h 111 83)).toNatClampNeg) (tA h 154 c.toNatClampNeg) (tA h 155 c.toNatClampNeg))).toInt64 := by
                                rw [(show kbW b = _ from if_pos q1573), (show (lcV (lcM h (tA h 121 (tA h 152 c.toNatClampNeg).toNatClampNeg) (sPM (tA h 177) (tA h 176) ((tA h 152 c.toNatClampNeg)).toNatClampNeg ((tA h 153 c.toNatClampNeg)) (sPB (fun p => tA h 118 (12 * (tA h 121 ((tA h 152 c.toNatClampNeg)).toNatClampNeg).toNatClampNeg + p)) (tA h 122 ((tA h 152 c.toNatClampNeg)).toNatClampNeg) (tvI (tF h 111 4)).toNatClampNeg) (tvI (tF h 111 83)).toNatClampNeg) (tA h 154 c.toNatClampNeg) (tA h 155 c.toNatClampNeg))).toInt64 = _ from congrArg Int32.toInt64 (lcV_2 hy q1575).symm), eW]
                                exact jS_5 hQ
                              exact tw_lret rfl (Or.inl ⟨⟨by omega, by omega⟩, Or.inr ⟨b, _, hkb, hJ, some _, Or.inr ⟨i1, hi1, hit1, hfst1, rfl⟩, Or.inr ⟨_, some _, rfl, Or.inr ⟨i2, hi2, hit2, hfst2, rfl⟩, congrArg (fun z => some (Value.long z)) (Int64.toInt_inj.mp (by (try dsimp only [tvI_i, tvJ_j, tvR_r]); rw [jV_i]; omega))⟩⟩⟩)
                            · try dsimp only [tvI_i, tvJ_j, tvR_r] at q1602
                              refine tw_lload rfl rfl ?_
                              refine tw_goto rfl ?_
                              rw [ea156] at a1
                              rw [G1.2.2.1, eA] at a2
                              rw [G2.2.2.1, eA] at a3
                              try dsimp only [tvI_i, tvJ_j, tvR_r] at hQ
                              have eW := mJs_g a5 (mJs_g a4 (mJs_g a3 (mJs_g a2 (mJs_g a1 rfl))))
                              have hJ : jS (tJ b5 143) (tvI (tF h 111 1)).toInt64 (tA h 121 (tA h 152 c.toNatClampNeg).toNatClampNeg).toInt64 (tA h 114 (tA h 121 (tA h 152 c.toNatClampNeg).toNatClampNeg).toNatClampNeg).toInt64 (tA h 122 (tA h 152 c.toNatClampNeg).toNatClampNeg).toInt64 (bN (mK9 h (tA h 121 (tA h 152 c.toNatClampNeg).toNatClampNeg) (tvI (tF h 111 1))) (tK9 h) (tvI (tF h 111 5)).toNatClampNeg (tvI (tF h 111 1)).toInt) (bN (mF9 h (tA h 121 (tA h 152 c.toNatClampNeg).toNatClampNeg)) (mT9 h) (tvI (tF h 111 59)).toNatClampNeg (tvI (tF h 111 1)).toInt) (bN (mD9 h (tA h 121 (tA h 152 c.toNatClampNeg).toNatClampNeg)) (mT9 h) (tvI (tF h 111 59)).toNatClampNeg (tvI (tF h 111 1)).toInt) (tA h 156 c.toNatClampNeg).toInt64 (tA h 155 c.toNatClampNeg).toInt64 (tA h 154 c.toNatClampNeg).toInt64 (kbW b) (lcV (lcM h (tA h 121 (tA h 152 c.toNatClampNeg).toNatClampNeg) (sPM (tA h 177) (tA h 176) ((tA h 152 c.toNatClampNeg)).toNatClampNeg ((tA h 153 c.toNatClampNeg)) (sPB (fun p => tA h 118 (12 * (tA h 121 ((tA h 152 c.toNatClampNeg)).toNatClampNeg).toNatClampNeg + p)) (tA h 122 ((tA h 152 c.toNatClampNeg)).toNatClampNeg) (tvI (tF h 111 4)).toNatClampNeg) (tvI (tF h 111 83)).toNatClampNeg) (tA h 154 c.toNatClampNeg) (tA h 155 c.toNatClampNeg))).toInt64 := by
                                rw [(show kbW b = _ from if_pos q1573), (show (lcV (lcM h (tA h 121 (tA h 152 c.toNatClampNeg).toNatClampNeg) (sPM (tA h 177) (tA h 176) ((tA h 152 c.toNatClampNeg)).toNatClampNeg ((tA h 153 c.toNatClampNeg)) (sPB (fun p => tA h 118 (12 * (tA h 121 ((tA h 152 c.toNatClampNeg)).toNatClampNeg).toNatClampNeg + p)) (tA h 122 ((tA h 152 c.toNatClampNeg)).toNatClampNeg) (tvI (tF h 111 4)).toNatClampNeg) (tvI (tF h 111 83)).toNatClampNeg) (tA h 154 c.toNatClampNeg) (tA h 155 c.toNatClampNeg))).toInt64 = _ from congrArg Int32.toInt64 (lcV_2 hy q1575).symm), eW]
                                exact jS_5 hQ
                              exact tw_lret rfl (Or.inl ⟨⟨by omega, by omega⟩, Or.inr ⟨b, _, hkb, hJ, some _, Or.inr ⟨i1, hi1, hit1, hfst1, rfl⟩, Or.inr ⟨_, some _, rfl, Or.inr ⟨i2, hi2, hit2, hfst2, rfl⟩, congrArg (fun z => some (Value.long z)) (Int64.toInt_inj.mp (by (try dsimp only [tvI_i, tvJ_j, tvR_r]); rw [jV_i]; omega))⟩⟩⟩)
                        · try dsimp only [tvI_i, tvJ_j, tvR_r] at q1596
                          have q1596i := zeqi (Y := (-1)) (by decide) q1596
                          exfalso
                          have k9 : (-1 : Int32).toInt = -1 := rfl
                          omega
                      · try dsimp only [tvI_i, tvJ_j, tvR_r] at q1595
                        refine tw_push rfl ?_
                        refine tw_goto rfl ?_
                        refine tw_lstore rfl ?_
                        refine tw_iload rfl rfl ?_
                        refine tw_push rfl ?_
                        refine tw_ic_ne rfl (fun q1603 => ?_) (fun q1603 => ?_)
                        · try dsimp only [tvI_i, tvJ_j, tvR_r] at q1603
                          have q1603i := zneq (Y := (-1)) (by decide) q1603
                          refine tw_aload rfl rfl ?_
                          refine tw_iload rfl rfl ?_
                          refine tw_aload rfl rfl ?_
                          refine tw_getS rfl (hs_111_40 FC1.1) ?_
                          refine tw_iload rfl rfl ?_
                          refine tw_iald rfl (fun f1604 => ?_)
                          refine tw_aload rfl rfl ?_
                          refine tw_getS rfl (hs_111_41 FC1.1) ?_
                          refine tw_iload rfl rfl ?_
                          refine tw_iald rfl (fun f1605 => ?_)
                          refine tw_virt3 rfl (g_answer hG FC1.1 d1 d2 (v12 _ LC1.2.2.1) (e := slc (cs (tvI (tF h 111 1))) (cl (tvI (tF h 111 1)) i2).2.1 (cl (tvI (tF h 111 1)) i2).2.2.1) (t := false) ((v22 _ LC1.2.2.1).trans (congrArg Nat.cast s12)) (by rw [← s12]; have := d3.big; omega) (by rw [LC1.2.2.1]; exact h133) (by rw [LC1.2.2.1]; exact h134) (by rw [LC1.2.2.1]; exact cdAt_h s52 s62 d3.cod) s32 s42) (fun wp1606 hp1606 p1606 => ?_)
                          obtain ⟨rfl, FC2⟩ := p1606
                          rw [FC1.2.2.2.2.2 143 (by decide), FB2.2.2.2.2.2 143 (by decide), FB1.2.2.2.2.2 143 (by decide)]
                          have k0 : (0 : Int64).toInt = 0 := by decide
                          refine tw_lstore rfl ?_
                          refine tw_lload rfl rfl ?_
                          refine tw_push rfl ?_
                          refine tw_lc_ge rfl rfl (fun q1607 => ?_) (fun q1607 => ?_)
                          · try dsimp only [tvI_i, tvJ_j, tvR_r] at q1607
                            refine tw_lload rfl rfl ?_
                            refine tw_lstore rfl ?_
                            refine tw_lload rfl rfl ?_
                            refine tw_lload rfl rfl ?_
                            refine tw_lc_le rfl rfl (fun q1608 => ?_) (fun q1608 => ?_)
                            · try dsimp only [tvI_i, tvJ_j, tvR_r] at q1608
                              refine tw_lload rfl rfl ?_
                              rw [ea156] at a1
                              rw [G1.2.2.1, eA] at a2
                              rw [G2.2.2.1, eA] at a3
                              try dsimp only [tvI_i, tvJ_j, tvR_r] at hQ
                              have eW := mJs_g a5 (mJs_g a4 (mJs_g a3 (mJs_g a2 (mJs_g a1 rfl))))
                              have hJ : jS (tJ b5 143) (tvI (tF h 111 1)).toInt64 (tA h 121 (tA h 152 c.toNatClampNeg).toNatClampNeg).toInt64 (tA h 114 (tA h 121 (tA h 152 c.toNatClampNeg).toNatClampNeg).toNatClampNeg).toInt64 (tA h 122 (tA h 152 c.toNatClampNeg).toNatClampNeg).toInt64 (bN (mK9 h (tA h 121 (tA h 152 c.toNatClampNeg).toNatClampNeg) (tvI (tF h 111 1))) (tK9 h) (tvI (tF h 111 5)).toNatClampNeg (tvI (tF h 111 1)).toInt) (bN (mF9 h (tA h 121 (tA h 152 c.toNatClampNeg).toNatClampNeg)) (mT9 h) (tvI (tF h 111 59)).toNatClampNeg (tvI (tF h 111 1)).toInt) (bN (mD9 h (tA h 121 (tA h 152 c.toNatClampNeg).toNatClampNeg)) (mT9 h) (tvI (tF h 111 59)).toNatClampNeg (tvI (tF h 111 1)).toInt) (tA h 156 c.toNatClampNeg).toInt64 (tA h 155 c.toNatClampNeg).toInt64 (tA h 154 c.toNatClampNeg).toInt64 (kbW b) (lcV (lcM h (tA h 121 (tA h 152 c.toNatClampNeg).toNatClampNeg) (sPM (tA h 177) (tA h 176) ((tA h 152 c.toNatClampNeg)).toNatClampNeg ((tA h 153 c.toNatClampNeg)) (sPB (fun p => tA h 118 (12 * (tA h 121 ((tA h 152 c.toNatClampNeg)).toNatClampNeg).toNatClampNeg + p)) (tA h 122 ((tA h 152 c.toNatClampNeg)).toNatClampNeg) (tvI (tF h 111 4)).toNatClampNeg) (tvI (tF h 111 83)).toNatClampNeg) (tA h 154 c.toNatClampNeg) (tA h 155 c.toNatClampNeg))).toInt64 := by
                                rw [(show kbW b = _ from if_pos q1573), (show (lcV (lcM h (tA h 121 (tA h 152 c.toNatClampNeg).toNatClampNeg) (sPM (tA h 177) (tA h 176) ((tA h 152 c.toNatClampNeg)).toNatClampNeg ((tA h 153 c.toNatClampNeg)) (sPB (fun p => tA h 118 (12 * (tA h 121 ((tA h 152 c.toNatClampNeg)).toNatClampNeg).toNatClampNeg + p)) (tA h 122 ((tA h 152 c.toNatClampNeg)).toNatClampNeg) (tvI (tF h 111 4)).toNatClampNeg) (tvI (tF h 111 83)).toNatClampNeg) (tA h 154 c.toNatClampNeg) (tA h 155 c.toNatClampNeg))).toInt64 = _ from congrArg Int32.toInt64 (lcV_2 hy q1575).symm), eW]
                                exact jS_5 hQ
                              exact tw_lret rfl (Or.inl ⟨⟨by omega, by omega⟩, Or.inr ⟨b, _, hkb, hJ, some _, Or.inr ⟨i1, hi1, hit1, hfst1, rfl⟩, Or.inr ⟨_, some _, rfl, Or.inr ⟨i2, hi2, hit2, hfst2, rfl⟩, congrArg (fun z => some (Value.long z)) (Int64.toInt_inj.mp (by (try dsimp only [tvI_i, tvJ_j, tvR_r]); rw [jV_i]; omega))⟩⟩⟩)
                            · try dsimp only [tvI_i, tvJ_j, tvR_r] at q1608
                              refine tw_lload rfl rfl ?_
                              refine tw_goto rfl ?_
                              rw [ea156] at a1
                              rw [G1.2.2.1, eA] at a2
                              rw [G2.2.2.1, eA] at a3
                              try dsimp only [tvI_i, tvJ_j, tvR_r] at hQ
                              have eW := mJs_g a5 (mJs_g a4 (mJs_g a3 (mJs_g a2 (mJs_g a1 rfl))))
                              have hJ : jS (tJ b5 143) (tvI (tF h 111 1)).toInt64 (tA h 121 (tA h 152 c.toNatClampNeg).toNatClampNeg).toInt64 (tA h 114 (tA h 121 (tA h 152 c.toNatClampNeg).toNatClampNeg).toNatClampNeg).toInt64 (tA h 122 (tA h 152 c.toNatClampNeg).toNatClampNeg).toInt64 (bN (mK9 h (tA h 121 (tA h 152 c.toNatClampNeg).toNatClampNeg) (tvI (tF h 111 1))) (tK9 h) (tvI (tF h 111 5)).toNatClampNeg (tvI (tF h 111 1)).toInt) (bN (mF9 h (tA h 121 (tA h 152 c.toNatClampNeg).toNatClampNeg)) (mT9 h) (tvI (tF h 111 59)).toNatClampNeg (tvI (tF h 111 1)).toInt) (bN (mD9 h (tA h 121 (tA h 152 c.toNatClampNeg).toNatClampNeg)) (mT9 h) (tvI (tF h 111 59)).toNatClampNeg (tvI (tF h 111 1)).toInt) (tA h 156 c.toNatClampNeg).toInt64 (tA h 155 c.toNatClampNeg).toInt64 (tA h 154 c.toNatClampNeg).toInt64 (kbW b) (lcV (lcM h (tA h 121 (tA h 152 c.toNatClampNeg).toNatClampNeg) (sPM (tA h 177) (tA h 176) ((tA h 152 c.toNatClampNeg)).toNatClampNeg ((tA h 153 c.toNatClampNeg)) (sPB (fun p => tA h 118 (12 * (tA h 121 ((tA h 152 c.toNatClampNeg)).toNatClampNeg).toNatClampNeg + p)) (tA h 122 ((tA h 152 c.toNatClampNeg)).toNatClampNeg) (tvI (tF h 111 4)).toNatClampNeg) (tvI (tF h 111 83)).toNatClampNeg) (tA h 154 c.toNatClampNeg) (tA h 155 c.toNatClampNeg))).toInt64 := by
                                rw [(show kbW b = _ from if_pos q1573), (show (lcV (lcM h (tA h 121 (tA h 152 c.toNatClampNeg).toNatClampNeg) (sPM (tA h 177) (tA h 176) ((tA h 152 c.toNatClampNeg)).toNatClampNeg ((tA h 153 c.toNatClampNeg)) (sPB (fun p => tA h 118 (12 * (tA h 121 ((tA h 152 c.toNatClampNeg)).toNatClampNeg).toNatClampNeg + p)) (tA h 122 ((tA h 152 c.toNatClampNeg)).toNatClampNeg) (tvI (tF h 111 4)).toNatClampNeg) (tvI (tF h 111 83)).toNatClampNeg) (tA h 154 c.toNatClampNeg) (tA h 155 c.toNatClampNeg))).toInt64 = _ from congrArg Int32.toInt64 (lcV_2 hy q1575).symm), eW]
                                exact jS_5 hQ
                              exact tw_lret rfl (Or.inl ⟨⟨by omega, by omega⟩, Or.inr ⟨b, _, hkb, hJ, some _, Or.inr ⟨i1, hi1, hit1, hfst1, rfl⟩, Or.inr ⟨_, some _, rfl, Or.inr ⟨i2, hi2, hit2, hfst2, rfl⟩, congrArg (fun z => some (Value.long z)) (Int64.toInt_inj.mp (by (try dsimp only [tvI_i, tvJ_j, tvR_r]); rw [jV_i]; omega))⟩⟩⟩)
                          · try dsimp only [tvI_i, tvJ_j, tvR_r] at q1607
                            refine tw_push rfl ?_
                            refine tw_goto rfl ?_
                            refine tw_lstore rfl ?_
                            refine tw_lload rfl rfl ?_
                            refine tw_lload rfl rfl ?_
                            refine tw_lc_le rfl rfl (fun _ => ?_) (fun z => absurd z (by decide))
                            refine tw_lload rfl rfl ?_
                            rw [ea156] at a1
                            rw [G1.2.2.1, eA] at a2
                            rw [G2.2.2.1, eA] at a3
                            try dsimp only [tvI_i, tvJ_j, tvR_r] at hQ
                            have eW := mJs_g a5 (mJs_g a4 (mJs_g a3 (mJs_g a2 (mJs_g a1 rfl))))
                            have hJ : jS (tJ b5 143) (tvI (tF h 111 1)).toInt64 (tA h 121 (tA h 152 c.toNatClampNeg).toNatClampNeg).toInt64 (tA h 114 (tA h 121 (tA h 152 c.toNatClampNeg).toNatClampNeg).toNatClampNeg).toInt64 (tA h 122 (tA h 152 c.toNatClampNeg).toNatClampNeg).toInt64 (bN (mK9 h (tA h 121 (tA h 152 c.toNatClampNeg).toNatClampNeg) (tvI (tF h 111 1))) (tK9 h) (tvI (tF h 111 5)).toNatClampNeg (tvI (tF h 111 1)).toInt) (bN (mF9 h (tA h 121 (tA h 152 c.toNatClampNeg).toNatClampNeg)) (mT9 h) (tvI (tF h 111 59)).toNatClampNeg (tvI (tF h 111 1)).toInt) (bN (mD9 h (tA h 121 (tA h 152 c.toNatClampNeg).toNatClampNeg)) (mT9 h) (tvI (tF h 111 59)).toNatClampNeg (tvI (tF h 111 1)).toInt) (tA h 156 c.toNatClampNeg).toInt64 (tA h 155 c.toNatClampNeg).toInt64 (tA h 154 c.toNatClampNeg).toInt64 (kbW b) (lcV (lcM h (tA h 121 (tA h 152 c.toNatClampNeg).toNatClampNeg) (sPM (tA h 177) (tA h 176) ((tA h 152 c.toNatClampNeg)).toNatClampNeg ((tA h 153 c.toNatClampNeg)) (sPB (fun p => tA h 118 (12 * (tA h 121 ((tA h 152 c.toNatClampNeg)).toNatClampNeg).toNatClampNeg + p)) (tA h 122 ((tA h 152 c.toNatClampNeg)).toNatClampNeg) (tvI (tF h 111 4)).toNatClampNeg) (tvI (tF h 111 83)).toNatClampNeg) (tA h 154 c.toNatClampNeg) (tA h 155 c.toNatClampNeg))).toInt64 := by
                              rw [(show kbW b = _ from if_pos q1573), (show (lcV (lcM h (tA h 121 (tA h 152 c.toNatClampNeg).toNatClampNeg) (sPM (tA h 177) (tA h 176) ((tA h 152 c.toNatClampNeg)).toNatClampNeg ((tA h 153 c.toNatClampNeg)) (sPB (fun p => tA h 118 (12 * (tA h 121 ((tA h 152 c.toNatClampNeg)).toNatClampNeg).toNatClampNeg + p)) (tA h 122 ((tA h 152 c.toNatClampNeg)).toNatClampNeg) (tvI (tF h 111 4)).toNatClampNeg) (tvI (tF h 111 83)).toNatClampNeg) (tA h 154 c.toNatClampNeg) (tA h 155 c.toNatClampNeg))).toInt64 = _ from congrArg Int32.toInt64 (lcV_2 hy q1575).symm), eW]
                              exact jS_5 hQ
                            exact tw_lret rfl (Or.inl ⟨⟨by omega, by omega⟩, Or.inr ⟨b, _, hkb, hJ, some _, Or.inr ⟨i1, hi1, hit1, hfst1, rfl⟩, Or.inr ⟨_, some _, rfl, Or.inr ⟨i2, hi2, hit2, hfst2, rfl⟩, congrArg (fun z => some (Value.long z)) (Int64.toInt_inj.mp (by (try dsimp only [tvI_i, tvJ_j, tvR_r]); rw [jV_i]; omega))⟩⟩⟩)
                        · try dsimp only [tvI_i, tvJ_j, tvR_r] at q1603
                          have q1603i := zeqi (Y := (-1)) (by decide) q1603
                          exfalso
                          have k9 : (-1 : Int32).toInt = -1 := rfl
                          omega
                    · try dsimp only [tvI_i, tvJ_j, tvR_r] at q1591
                      have q1591i := zeqi (Y := (-1)) (by decide) q1591
                      exfalso
                      have k9 : (-1 : Int32).toInt = -1 := rfl
                      omega
              · try dsimp only [tvI_i, tvJ_j, tvR_r] at q1575
                have q1575i := zeqi (Y := (-1)) (by decide) q1575
                refine tw_push rfl ?_
                refine tw_goto rfl ?_
                refine tw_last rfl (fun f1609 => ?_)
                refine tG_lst f1609 G4.1 (fun b5 a5 => ?_)
                try dsimp only [tvI_i, tvJ_j, tvR_r] at a5
                have G5 := wFr_s G4 a5
                have LG := lFr_t hF (lFr_w G5)
                have eG := LG.2.2.1
                refine tw_aload rfl rfl ?_
                refine tw_iload rfl rfl ?_
                refine tw_push rfl ?_
                refine tw_push rfl ?_
                refine tw_virt3 rfl (g_tells hG G5.1 (d3.fr LG) d1 d2 (kd := 1) rfl (by decide) (t0 := 0) rfl (by rw [LG.2.2.1]; exact h133) (by rw [LG.2.2.1]; exact h134) (by rw [LG.2.2.1]; exact h135) (by rw [LG.2.2.1]; exact h136) (by rw [LG.2.2.1]; exact h138) (by rw [LG.2.2.1]; exact h139)) (fun w9 hp1610 p1610 => ?_)
                obtain ⟨FB1, ⟨rfl, hno1⟩ | ⟨i1, hi1, hit1, hfst1, xx1, rfl, hx1⟩⟩ := p1610
                · have LB1 := lFr_t LG (lFr_w FB1)
                  have hno1 : ∀ j, j < K (tvI (tF h 111 1)) → ¬ hit (tJ b5 143) (cs (tvI (tF h 111 1))) (cl (tvI (tF h 111 1)) j) 13 := fun j hj => by have z9 := hno1 j hj; rw [thc_k (by decide)] at z9; exact z9
                  refine tw_istore rfl ?_
                  refine tw_aload rfl rfl ?_
                  refine tw_iload rfl rfl ?_
                  refine tw_push rfl ?_
                  refine tw_push rfl ?_
                  refine tw_virt3 rfl (g_tells hG FB1.1 (d3.fr LB1) d1 d2 (kd := 2) rfl (by decide) (t0 := 0) rfl (by rw [LB1.2.2.1]; exact h133) (by rw [LB1.2.2.1]; exact h134) (by rw [LB1.2.2.1]; exact h135) (by rw [LB1.2.2.1]; exact h136) (by rw [LB1.2.2.1]; exact h138) (by rw [LB1.2.2.1]; exact h139)) (fun w9 hp1611 p1611 => ?_)
                  obtain ⟨FB2, ⟨rfl, hno2⟩ | ⟨i2, hi2, hit2, hfst2, xx2, rfl, hx2⟩⟩ := p1611
                  · have LB2 := lFr_t LB1 (lFr_w FB2)
                    have hno2 : ∀ j, j < K (tvI (tF h 111 1)) → ¬ hit (tJ b5 143) (cs (tvI (tF h 111 1))) (cl (tvI (tF h 111 1)) j) 14 := fun j hj => by have z9 := hno2 j hj; rw [thc_k (by decide), FB1.2.2.2.2.2 143 (by decide)] at z9; exact z9
                    refine tw_istore rfl ?_
                    refine tw_iload rfl rfl ?_
                    refine tw_push rfl ?_
                    refine tw_ic_ne rfl (fun z => absurd z (by decide)) (fun _ => ?_)
                    refine tw_push rfl ?_
                    refine tw_goto rfl ?_
                    refine tw_lstore rfl ?_
                    refine tw_lload rfl rfl ?_
                    refine tw_push rfl ?_
                    refine tw_lc_ge rfl rfl (fun _ => ?_) (fun z => absurd z (by decide))
                    refine tw_lload rfl rfl ?_
                    refine tw_lstore rfl ?_
                    refine tw_iload rfl rfl ?_
                    refine tw_push rfl ?_
                    refine tw_ic_ne rfl (fun z => absurd z (by decide)) (fun _ => ?_)
                    refine tw_lload rfl rfl ?_
                    rw [ea156] at a1
                    rw [G1.2.2.1, eA] at a2
                    rw [G2.2.2.1, eA] at a3
                    try dsimp only [tvI_i, tvJ_j, tvR_r] at hQ
                    have eW := mJs_g a5 (mJs_g a4 (mJs_g a3 (mJs_g a2 (mJs_g a1 rfl))))
                    have hJ : jS (tJ b5 143) (tvI (tF h 111 1)).toInt64 (tA h 121 (tA h 152 c.toNatClampNeg).toNatClampNeg).toInt64 (tA h 114 (tA h 121 (tA h 152 c.toNatClampNeg).toNatClampNeg).toNatClampNeg).toInt64 (tA h 122 (tA h 152 c.toNatClampNeg).toNatClampNeg).toInt64 (bN (mK9 h (tA h 121 (tA h 152 c.toNatClampNeg).toNatClampNeg) (tvI (tF h 111 1))) (tK9 h) (tvI (tF h 111 5)).toNatClampNeg (tvI (tF h 111 1)).toInt) (bN (mF9 h (tA h 121 (tA h 152 c.toNatClampNeg).toNatClampNeg)) (mT9 h) (tvI (tF h 111 59)).toNatClampNeg (tvI (tF h 111 1)).toInt) (bN (mD9 h (tA h 121 (tA h 152 c.toNatClampNeg).toNatClampNeg)) (mT9 h) (tvI (tF h 111 59)).toNatClampNeg (tvI (tF h 111 1)).toInt) (tA h 156 c.toNatClampNeg).toInt64 (tA h 155 c.toNatClampNeg).toInt64 (tA h 154 c.toNatClampNeg).toInt64 (kbW b) (lcV (lcM h (tA h 121 (tA h 152 c.toNatClampNeg).toNatClampNeg) (sPM (tA h 177) (tA h 176) ((tA h 152 c.toNatClampNeg)).toNatClampNeg ((tA h 153 c.toNatClampNeg)) (sPB (fun p => tA h 118 (12 * (tA h 121 ((tA h 152 c.toNatClampNeg)).toNatClampNeg).toNatClampNeg + p)) (tA h 122 ((tA h 152 c.toNatClampNeg)).toNatClampNeg) (tvI (tF h 111 4)).toNatClampNeg) (tvI (tF h 111 83)).toNatClampNeg) (tA h 154 c.toNatClampNeg) (tA h 155 c.toNatClampNeg))).toInt64 := by
                      rw [(show kbW b = _ from if_pos q1573), (show (lcV (lcM h (tA h 121 (tA h 152 c.toNatClampNeg).toNatClampNeg) (sPM (tA h 177) (tA h 176) ((tA h 152 c.toNatClampNeg)).toNatClampNeg ((tA h 153 c.toNatClampNeg)) (sPB (fun p => tA h 118 (12 * (tA h 121 ((tA h 152 c.toNatClampNeg)).toNatClampNeg).toNatClampNeg + p)) (tA h 122 ((tA h 152 c.toNatClampNeg)).toNatClampNeg) (tvI (tF h 111 4)).toNatClampNeg) (tvI (tF h 111 83)).toNatClampNeg) (tA h 154 c.toNatClampNeg) (tA h 155 c.toNatClampNeg))).toInt64 = _ from congrArg Int32.toInt64 (lcV_1 hy q1575).symm), eW]
                      exact jS_5 hQ
                    have k0 : (0 : Int64).toInt = 0 := by decide
                    exact tw_lret rfl (Or.inl ⟨⟨by omega, by omega⟩, Or.inr ⟨b, _, hkb, hJ, none, Or.inl ⟨rfl, hno1⟩, Or.inl ⟨rfl, rfl⟩⟩⟩)
                  · have LB2 := lFr_t LB1 (lFr_w FB2)
                    rw [thc_k (by decide)] at hit2
                    rw [FB1.2.2.2.2.2 143 (by decide)] at hit2
                    have hfst2 : ∀ j, j < i2 → ¬ hit (tJ b5 143) (cs (tvI (tF h 111 1))) (cl (tvI (tF h 111 1)) j) 14 := fun j hj => by have z9 := hfst2 j hj; rw [thc_k (by decide), FB1.2.2.2.2.2 143 (by decide)] at z9; exact z9
                    have x2n := zof_cl hx2
                    obtain ⟨s12, s22, s32, s42, p2, qq2, s52, s62⟩ := rOk_s (d3.ok i2 hi2) d3.nv (fun z => absurd (hit2.1.symm.trans z) (by decide))
                    have hK12 := d3.few
                    have c3 : ((cl (tvI (tF h 111 1)) i2).1, (cl (tvI (tF h 111 1)) i2).2.1, (cl (tvI (tF h 111 1)) i2).2.2.1, (cl (tvI (tF h 111 1)) i2).2.2.2) = (thc (tA h 135 (12 * q9 + i2)).toNatClampNeg (tA h 136 (12 * q9 + i2)).toNatClampNeg, (tA h 137 (12 * q9 + i2)).toNatClampNeg, (tA h 138 (12 * q9 + i2)).toNatClampNeg, (tA h 139 (12 * q9 + i2)).toNatClampNeg) := by rw [← d3.row i2 hi2]; rfl
                    have c52 := congrArg (fun z : rCt => z.2.1) c3
                    have c62 := congrArg (fun z : rCt => z.2.2.1) c3
                    dsimp only at c52 c62
                    have v12 : ∀ X, tA X = tA h → (tA X 137 xx2.toNatClampNeg).toInt = ((cl (tvI (tF h 111 1)) i2).2.1 : Int) := fun X eX => by rw [eX, x2n, c52]; exact (zclx (h137 (12 * q9 + i2) (by omega)).1).symm
                    have v22 : ∀ X, tA X = tA h → (tA X 138 xx2.toNatClampNeg).toInt = ((cl (tvI (tF h 111 1)) i2).2.2.1 : Int) := fun X eX => by rw [eX, x2n, c62]; exact (zclx (h138 (12 * q9 + i2) (by omega)).1).symm
                    refine tw_istore rfl ?_
                    refine tw_iload rfl rfl ?_
                    refine tw_push rfl ?_
                    refine tw_ic_ne rfl (fun z => absurd z (by decide)) (fun _ => ?_)
                    refine tw_push rfl ?_
                    refine tw_goto rfl ?_
                    refine tw_lstore rfl ?_
                    refine tw_lload rfl rfl ?_
                    refine tw_push rfl ?_
                    refine tw_lc_ge rfl rfl (fun _ => ?_) (fun z => absurd z (by decide))
                    refine tw_lload rfl rfl ?_
                    refine tw_lstore rfl ?_
                    refine tw_iload rfl rfl ?_
                    refine tw_push rfl ?_
                    refine tw_ic_ne rfl (fun q1612 => ?_) (fun q1612 => ?_)
                    · try dsimp only [tvI_i, tvJ_j, tvR_r] at q1612
                      have q1612i := zneq (Y := (-1)) (by decide) q1612
                      refine tw_aload rfl rfl ?_
                      refine tw_iload rfl rfl ?_
                      refine tw_aload rfl rfl ?_
                      refine tw_getS rfl (hs_111_40 FB2.1) ?_
                      refine tw_iload rfl rfl ?_
                      refine tw_iald rfl (fun f1613 => ?_)
                      refine tw_aload rfl rfl ?_
                      refine tw_getS rfl (hs_111_41 FB2.1) ?_
                      refine tw_iload rfl rfl ?_
                      refine tw_iald rfl (fun f1614 => ?_)
                      refine tw_virt3 rfl (g_answer hG FB2.1 d1 d2 (v12 _ LB2.2.2.1) (e := slc (cs (tvI (tF h 111 1))) (cl (tvI (tF h 111 1)) i2).2.1 (cl (tvI (tF h 111 1)) i2).2.2.1) (t := false) ((v22 _ LB2.2.2.1).trans (congrArg Nat.cast s12)) (by rw [← s12]; have := d3.big; omega) (by rw [LB2.2.2.1]; exact h133) (by rw [LB2.2.2.1]; exact h134) (by rw [LB2.2.2.1]; exact cdAt_h s52 s62 d3.cod) s32 s42) (fun wp1615 hp1615 p1615 => ?_)
                      obtain ⟨rfl, FC2⟩ := p1615
                      rw [FB2.2.2.2.2.2 143 (by decide), FB1.2.2.2.2.2 143 (by decide)]
                      have k0 : (0 : Int64).toInt = 0 := by decide
                      refine tw_lstore rfl ?_
                      refine tw_lload rfl rfl ?_
                      refine tw_push rfl ?_
                      refine tw_lc_ge rfl rfl (fun q1616 => ?_) (fun q1616 => ?_)
                      · try dsimp only [tvI_i, tvJ_j, tvR_r] at q1616
                        refine tw_lload rfl rfl ?_
                        refine tw_lstore rfl ?_
                        refine tw_lload rfl rfl ?_
                        refine tw_lload rfl rfl ?_
                        refine tw_lc_le rfl rfl (fun q1617 => ?_) (fun q1617 => ?_)
                        · try dsimp only [tvI_i, tvJ_j, tvR_r] at q1617
                          refine tw_lload rfl rfl ?_
                          rw [ea156] at a1
                          rw [G1.2.2.1, eA] at a2
                          rw [G2.2.2.1, eA] at a3
                          try dsimp only [tvI_i, tvJ_j, tvR_r] at hQ
                          have eW := mJs_g a5 (mJs_g a4 (mJs_g a3 (mJs_g a2 (mJs_g a1 rfl))))
                          have hJ : jS (tJ b5 143) (tvI (tF h 111 1)).toInt64 (tA h 121 (tA h 152 c.toNatClampNeg).toNatClampNeg).toInt64 (tA h 114 (tA h 121 (tA h 152 c.toNatClampNeg).toNatClampNeg).toNatClampNeg).toInt64 (tA h 122 (tA h 152 c.toNatClampNeg).toNatClampNeg).toInt64 (bN (mK9 h (tA h 121 (tA h 152 c.toNatClampNeg).toNatClampNeg) (tvI (tF h 111 1))) (tK9 h) (tvI (tF h 111 5)).toNatClampNeg (tvI (tF h 111 1)).toInt) (bN (mF9 h (tA h 121 (tA h 152 c.toNatClampNeg).toNatClampNeg)) (mT9 h) (tvI (tF h 111 59)).toNatClampNeg (tvI (tF h 111 1)).toInt) (bN (mD9 h (tA h 121 (tA h 152 c.toNatClampNeg).toNatClampNeg)) (mT9 h) (tvI (tF h 111 59)).toNatClampNeg (tvI (tF h 111 1)).toInt) (tA h 156 c.toNatClampNeg).toInt64 (tA h 155 c.toNatClampNeg).toInt64 (tA h 154 c.toNatClampNeg).toInt64 (kbW b) (lcV (lcM h (tA h 121 (tA h 152 c.toNatClampNeg).toNatClampNeg) (sPM (tA h 177) (tA h 176) ((tA h 152 c.toNatClampNeg)).toNatClampNeg ((tA h 153 c.toNatClampNeg)) (sPB (fun p => tA h 118 (12 * (tA h 121 ((tA h 152 c.toNatClampNeg)).toNatClampNeg).toNatClampNeg + p)) (tA h 122 ((tA h 152 c.toNatClampNeg)).toNatClampNeg) (tvI (tF h 111 4)).toNatClampNeg) (tvI (tF h 111 83)).toNatClampNeg) (tA h 154 c.toNatClampNeg) (tA h 155 c.toNatClampNeg))).toInt64 := by
                            rw [(show kbW b = _ from if_pos q1573), (show (lcV (lcM h (tA h 121 (tA h 152 c.toNatClampNeg).toNatClampNeg) (sPM (tA h 177) (tA h 176) ((tA h 152 c.toNatClampNeg)).toNatClampNeg ((tA h 153 c.toNatClampNeg)) (sPB (fun p => tA h 118 (12 * (tA h 121 ((tA h 152 c.toNatClampNeg)).toNatClampNeg).toNatClampNeg + p)) (tA h 122 ((tA h 152 c.toNatClampNeg)).toNatClampNeg) (tvI (tF h 111 4)).toNatClampNeg) (tvI (tF h 111 83)).toNatClampNeg) (tA h 154 c.toNatClampNeg) (tA h 155 c.toNatClampNeg))).toInt64 = _ from congrArg Int32.toInt64 (lcV_1 hy q1575).symm), eW]
                            exact jS_5 hQ
                          have k0 : (0 : Int64).toInt = 0 := by decide
                          exact tw_lret rfl (Or.inl ⟨⟨by omega, by omega⟩, Or.inr ⟨b, _, hkb, hJ, none, Or.inl ⟨rfl, hno1⟩, Or.inl ⟨rfl, rfl⟩⟩⟩)
                        · try dsimp only [tvI_i, tvJ_j, tvR_r] at q1617
                          refine tw_lload rfl rfl ?_
                          refine tw_goto rfl ?_
                          rw [ea156] at a1
                          rw [G1.2.2.1, eA] at a2
                          rw [G2.2.2.1, eA] at a3
                          try dsimp only [tvI_i, tvJ_j, tvR_r] at hQ
                          have eW := mJs_g a5 (mJs_g a4 (mJs_g a3 (mJs_g a2 (mJs_g a1 rfl))))
                          have hJ : jS (tJ b5 143) (tvI (tF h 111 1)).toInt64 (tA h 121 (tA h 152 c.toNatClampNeg).toNatClampNeg).toInt64 (tA h 114 (tA h 121 (tA h 152 c.toNatClampNeg).toNatClampNeg).toNatClampNeg).toInt64 (tA h 122 (tA h 152 c.toNatClampNeg).toNatClampNeg).toInt64 (bN (mK9 h (tA h 121 (tA h 152 c.toNatClampNeg).toNatClampNeg) (tvI (tF h 111 1))) (tK9 h) (tvI (tF h 111 5)).toNatClampNeg (tvI (tF h 111 1)).toInt) (bN (mF9 h (tA h 121 (tA h 152 c.toNatClampNeg).toNatClampNeg)) (mT9 h) (tvI (tF h 111 59)).toNatClampNeg (tvI (tF h 111 1)).toInt) (bN (mD9 h (tA h 121 (tA h 152 c.toNatClampNeg).toNatClampNeg)) (mT9 h) (tvI (tF h 111 59)).toNatClampNeg (tvI (tF h 111 1)).toInt) (tA h 156 c.toNatClampNeg).toInt64 (tA h 155 c.toNatClampNeg).toInt64 (tA h 154 c.toNatClampNeg).toInt64 (kbW b) (lcV (lcM h (tA h 121 (tA h 152 c.toNatClampNeg).toNatClampNeg) (sPM (tA h 177) (tA h 176) ((tA h 152 c.toNatClampNeg)).toNatClampNeg ((tA h 153 c.toNatClampNeg)) (sPB (fun p => tA h 118 (12 * (tA h 121 ((tA h 152 c.toNatClampNeg)).toNatClampNeg).toNatClampNeg + p)) (tA h 122 ((tA h 152 c.toNatClampNeg)).toNatClampNeg) (tvI (tF h 111 4)).toNatClampNeg) (tvI (tF h 111 83)).toNatClampNeg) (tA h 154 c.toNatClampNeg) (tA h 155 c.toNatClampNeg))).toInt64 := by
                            rw [(show kbW b = _ from if_pos q1573), (show (lcV (lcM h (tA h 121 (tA h 152 c.toNatClampNeg).toNatClampNeg) (sPM (tA h 177) (tA h 176) ((tA h 152 c.toNatClampNeg)).toNatClampNeg ((tA h 153 c.toNatClampNeg)) (sPB (fun p => tA h 118 (12 * (tA h 121 ((tA h 152 c.toNatClampNeg)).toNatClampNeg).toNatClampNeg + p)) (tA h 122 ((tA h 152 c.toNatClampNeg)).toNatClampNeg) (tvI (tF h 111 4)).toNatClampNeg) (tvI (tF h 111 83)).toNatClampNeg) (tA h 154 c.toNatClampNeg) (tA h 155 c.toNatClampNeg))).toInt64 = _ from congrArg Int32.toInt64 (lcV_1 hy q1575).symm), eW]
                            exact jS_5 hQ
                          have k0 : (0 : Int64).toInt = 0 := by decide
                          exact tw_lret rfl (Or.inl ⟨⟨by omega, by omega⟩, Or.inr ⟨b, _, hkb, hJ, none, Or.inl ⟨rfl, hno1⟩, Or.inl ⟨rfl, congrArg (fun z => some (Value.long z)) (Int64.toInt_inj.mp (by (try dsimp only [tvI_i, tvJ_j, tvR_r]); omega))⟩⟩⟩)
                      · try dsimp only [tvI_i, tvJ_j, tvR_r] at q1616
                        refine tw_push rfl ?_
                        refine tw_goto rfl ?_
                        refine tw_lstore rfl ?_
                        refine tw_lload rfl rfl ?_
                        refine tw_lload rfl rfl ?_
                        refine tw_lc_le rfl rfl (fun _ => ?_) (fun z => absurd z (by decide))
                        refine tw_lload rfl rfl ?_
                        rw [ea156] at a1
                        rw [G1.2.2.1, eA] at a2
                        rw [G2.2.2.1, eA] at a3
                        try dsimp only [tvI_i, tvJ_j, tvR_r] at hQ
                        have eW := mJs_g a5 (mJs_g a4 (mJs_g a3 (mJs_g a2 (mJs_g a1 rfl))))
                        have hJ : jS (tJ b5 143) (tvI (tF h 111 1)).toInt64 (tA h 121 (tA h 152 c.toNatClampNeg).toNatClampNeg).toInt64 (tA h 114 (tA h 121 (tA h 152 c.toNatClampNeg).toNatClampNeg).toNatClampNeg).toInt64 (tA h 122 (tA h 152 c.toNatClampNeg).toNatClampNeg).toInt64 (bN (mK9 h (tA h 121 (tA h 152 c.toNatClampNeg).toNatClampNeg) (tvI (tF h 111 1))) (tK9 h) (tvI (tF h 111 5)).toNatClampNeg (tvI (tF h 111 1)).toInt) (bN (mF9 h (tA h 121 (tA h 152 c.toNatClampNeg).toNatClampNeg)) (mT9 h) (tvI (tF h 111 59)).toNatClampNeg (tvI (tF h 111 1)).toInt) (bN (mD9 h (tA h 121 (tA h 152 c.toNatClampNeg).toNatClampNeg)) (mT9 h) (tvI (tF h 111 59)).toNatClampNeg (tvI (tF h 111 1)).toInt) (tA h 156 c.toNatClampNeg).toInt64 (tA h 155 c.toNatClampNeg).toInt64 (tA h 154 c.toNatClampNeg).toInt64 (kbW b) (lcV (lcM h (tA h 121 (tA h 152 c.toNatClampNeg).toNatClampNeg) (sPM (tA h 177) (tA h 176) ((tA h 152 c.toNatClampNeg)).toNatClampNeg ((tA h 153 c.toNatClampNeg)) (sPB (fun p => tA h 118 (12 * (tA h 121 ((tA h 152 c.toNatClampNeg)).toNatClampNeg).toNatClampNeg + p)) (tA h 122 ((tA h 152 c.toNatClampNeg)).toNatClampNeg) (tvI (tF h 111 4)).toNatClampNeg) (tvI (tF h 111 83)).toNatClampNeg) (tA h 154 c.toNatClampNeg) (tA h 155 c.toNatClampNeg))).toInt64 := by
                          rw [(show kbW b = _ from if_pos q1573), (show (lcV (lcM h (tA h 121 (tA h 152 c.toNatClampNeg).toNatClampNeg) (sPM (tA h 177) (tA h 176) ((tA h 152 c.toNatClampNeg)).toNatClampNeg ((tA h 153 c.toNatClampNeg)) (sPB (fun p => tA h 118 (12 * (tA h 121 ((tA h 152 c.toNatClampNeg)).toNatClampNeg).toNatClampNeg + p)) (tA h 122 ((tA h 152 c.toNatClampNeg)).toNatClampNeg) (tvI (tF h 111 4)).toNatClampNeg) (tvI (tF h 111 83)).toNatClampNeg) (tA h 154 c.toNatClampNeg) (tA h 155 c.toNatClampNeg))).toInt64 = _ from congrArg Int32.toInt64 (lcV_1 hy q1575).symm), eW]
                          exact jS_5 hQ
                        have k0 : (0 : Int64).toInt = 0 := by decide
                        exact tw_lret rfl (Or.inl ⟨⟨by omega, by omega⟩, Or.inr ⟨b, _, hkb, hJ, none, Or.inl ⟨rfl, hno1⟩, Or.inl ⟨rfl, rfl⟩⟩⟩)
                    · try dsimp only [tvI_i, tvJ_j, tvR_r] at q1612
                      have q1612i := zeqi (Y := (-1)) (by decide) q1612
                      exfalso
                      have k9 : (-1 : Int32).toInt = -1 := rfl
                      omega
                · have LB1 := lFr_t LG (lFr_w FB1)
                  rw [thc_k (by decide)] at hit1
                  have hfst1 : ∀ j, j < i1 → ¬ hit (tJ b5 143) (cs (tvI (tF h 111 1))) (cl (tvI (tF h 111 1)) j) 13 := fun j hj => by have z9 := hfst1 j hj; rw [thc_k (by decide)] at z9; exact z9
                  have x1n := zof_cl hx1
                  obtain ⟨s11, s21, s31, s41, p1, qq1, s51, s61⟩ := rOk_s (d3.ok i1 hi1) d3.nv (fun z => absurd (hit1.1.symm.trans z) (by decide))
                  have hK12 := d3.few
                  have c3 : ((cl (tvI (tF h 111 1)) i1).1, (cl (tvI (tF h 111 1)) i1).2.1, (cl (tvI (tF h 111 1)) i1).2.2.1, (cl (tvI (tF h 111 1)) i1).2.2.2) = (thc (tA h 135 (12 * q9 + i1)).toNatClampNeg (tA h 136 (12 * q9 + i1)).toNatClampNeg, (tA h 137 (12 * q9 + i1)).toNatClampNeg, (tA h 138 (12 * q9 + i1)).toNatClampNeg, (tA h 139 (12 * q9 + i1)).toNatClampNeg) := by rw [← d3.row i1 hi1]; rfl
                  have c51 := congrArg (fun z : rCt => z.2.1) c3
                  have c61 := congrArg (fun z : rCt => z.2.2.1) c3
                  dsimp only at c51 c61
                  have v11 : ∀ X, tA X = tA h → (tA X 137 xx1.toNatClampNeg).toInt = ((cl (tvI (tF h 111 1)) i1).2.1 : Int) := fun X eX => by rw [eX, x1n, c51]; exact (zclx (h137 (12 * q9 + i1) (by omega)).1).symm
                  have v21 : ∀ X, tA X = tA h → (tA X 138 xx1.toNatClampNeg).toInt = ((cl (tvI (tF h 111 1)) i1).2.2.1 : Int) := fun X eX => by rw [eX, x1n, c61]; exact (zclx (h138 (12 * q9 + i1) (by omega)).1).symm
                  refine tw_istore rfl ?_
                  refine tw_aload rfl rfl ?_
                  refine tw_iload rfl rfl ?_
                  refine tw_push rfl ?_
                  refine tw_push rfl ?_
                  refine tw_virt3 rfl (g_tells hG FB1.1 (d3.fr LB1) d1 d2 (kd := 2) rfl (by decide) (t0 := 0) rfl (by rw [LB1.2.2.1]; exact h133) (by rw [LB1.2.2.1]; exact h134) (by rw [LB1.2.2.1]; exact h135) (by rw [LB1.2.2.1]; exact h136) (by rw [LB1.2.2.1]; exact h138) (by rw [LB1.2.2.1]; exact h139)) (fun w9 hp1618 p1618 => ?_)
                  obtain ⟨FB2, ⟨rfl, hno2⟩ | ⟨i2, hi2, hit2, hfst2, xx2, rfl, hx2⟩⟩ := p1618
                  · have LB2 := lFr_t LB1 (lFr_w FB2)
                    have hno2 : ∀ j, j < K (tvI (tF h 111 1)) → ¬ hit (tJ b5 143) (cs (tvI (tF h 111 1))) (cl (tvI (tF h 111 1)) j) 14 := fun j hj => by have z9 := hno2 j hj; rw [thc_k (by decide), FB1.2.2.2.2.2 143 (by decide)] at z9; exact z9
                    refine tw_istore rfl ?_
                    refine tw_iload rfl rfl ?_
                    refine tw_push rfl ?_
                    refine tw_ic_ne rfl (fun q1619 => ?_) (fun q1619 => ?_)
                    · try dsimp only [tvI_i, tvJ_j, tvR_r] at q1619
                      have q1619i := zneq (Y := (-1)) (by decide) q1619
                      refine tw_aload rfl rfl ?_
                      refine tw_iload rfl rfl ?_
                      refine tw_aload rfl rfl ?_
                      refine tw_getS rfl (hs_111_40 FB2.1) ?_
                      refine tw_iload rfl rfl ?_
                      refine tw_iald rfl (fun f1620 => ?_)
                      refine tw_aload rfl rfl ?_
                      refine tw_getS rfl (hs_111_41 FB2.1) ?_
                      refine tw_iload rfl rfl ?_
                      refine tw_iald rfl (fun f1621 => ?_)
                      refine tw_virt3 rfl (g_answer hG FB2.1 d1 d2 (v11 _ LB2.2.2.1) (e := slc (cs (tvI (tF h 111 1))) (cl (tvI (tF h 111 1)) i1).2.1 (cl (tvI (tF h 111 1)) i1).2.2.1) (t := false) ((v21 _ LB2.2.2.1).trans (congrArg Nat.cast s11)) (by rw [← s11]; have := d3.big; omega) (by rw [LB2.2.2.1]; exact h133) (by rw [LB2.2.2.1]; exact h134) (by rw [LB2.2.2.1]; exact cdAt_h s51 s61 d3.cod) s31 s41) (fun wp1622 hp1622 p1622 => ?_)
                      obtain ⟨rfl, FC1⟩ := p1622
                      rw [FB2.2.2.2.2.2 143 (by decide), FB1.2.2.2.2.2 143 (by decide)]
                      have LC1 := lFr_t LB2 (lFr_w FC1)
                      have k0 : (0 : Int64).toInt = 0 := by decide
                      refine tw_lstore rfl ?_
                      refine tw_lload rfl rfl ?_
                      refine tw_push rfl ?_
                      refine tw_lc_ge rfl rfl (fun q1623 => ?_) (fun q1623 => ?_)
                      · try dsimp only [tvI_i, tvJ_j, tvR_r] at q1623
                        refine tw_lload rfl rfl ?_
                        refine tw_lstore rfl ?_
                        refine tw_iload rfl rfl ?_
                        refine tw_push rfl ?_
                        refine tw_ic_ne rfl (fun z => absurd z (by decide)) (fun _ => ?_)
                        refine tw_lload rfl rfl ?_
                        rw [ea156] at a1
                        rw [G1.2.2.1, eA] at a2
                        rw [G2.2.2.1, eA] at a3
                        try dsimp only [tvI_i, tvJ_j, tvR_r] at hQ
                        have eW := mJs_g a5 (mJs_g a4 (mJs_g a3 (mJs_g a2 (mJs_g a1 rfl))))
                        have hJ : jS (tJ b5 143) (tvI (tF h 111 1)).toInt64 (tA h 121 (tA h 152 c.toNatClampNeg).toNatClampNeg).toInt64 (tA h 114 (tA h 121 (tA h 152 c.toNatClampNeg).toNatClampNeg).toNatClampNeg).toInt64 (tA h 122 (tA h 152 c.toNatClampNeg).toNatClampNeg).toInt64 (bN (mK9 h (tA h 121 (tA h 152 c.toNatClampNeg).toNatClampNeg) (tvI (tF h 111 1))) (tK9 h) (tvI (tF h 111 5)).toNatClampNeg (tvI (tF h 111 1)).toInt) (bN (mF9 h (tA h 121 (tA h 152 c.toNatClampNeg).toNatClampNeg)) (mT9 h) (tvI (tF h 111 59)).toNatClampNeg (tvI (tF h 111 1)).toInt) (bN (mD9 h (tA h 121 (tA h 152 c.toNatClampNeg).toNatClampNeg)) (mT9 h) (tvI (tF h 111 59)).toNatClampNeg (tvI (tF h 111 1)).toInt) (tA h 156 c.toNatClampNeg).toInt64 (tA h 155 c.toNatClampNeg).toInt64 (tA h 154 c.toNatClampNeg).toInt64 (kbW b) (lcV (lcM h (tA h 121 (tA h 152 c.toNatClampNeg).toNatClampNeg) (sPM (tA h 177) (tA h 176) ((tA h 152 c.toNatClampNeg)).toNatClampNeg ((tA h 153 c.toNatClampNeg)) (sPB (fun p => tA h 118 (12 * (tA h 121 ((tA h 152 c.toNatClampNeg)).toNatClampNeg).toNatClampNeg + p)) (tA h 122 ((tA h 152 c.toNatClampNeg)).toNatClampNeg) (tvI (tF h 111 4)).toNatClampNeg) (tvI (tF h 111 83)).toNatClampNeg) (tA h 154 c.toNatClampNeg) (tA h 155 c.toNatClampNeg))).toInt64 := by
                          rw [(show kbW b = _ from if_pos q1573), (show (lcV (lcM h (tA h 121 (tA h 152 c.toNatClampNeg).toNatClampNeg) (sPM (tA h 177) (tA h 176) ((tA h 152 c.toNatClampNeg)).toNatClampNeg ((tA h 153 c.toNatClampNeg)) (sPB (fun p => tA h 118 (12 * (tA h 121 ((tA h 152 c.toNatClampNeg)).toNatClampNeg).toNatClampNeg + p)) (tA h 122 ((tA h 152 c.toNatClampNeg)).toNatClampNeg) (tvI (tF h 111 4)).toNatClampNeg) (tvI (tF h 111 83)).toNatClampNeg) (tA h 154 c.toNatClampNeg) (tA h 155 c.toNatClampNeg))).toInt64 = _ from congrArg Int32.toInt64 (lcV_1 hy q1575).symm), eW]
                          exact jS_5 hQ
                        exact tw_lret rfl (Or.inl ⟨⟨by omega, by omega⟩, Or.inr ⟨b, _, hkb, hJ, some _, Or.inr ⟨i1, hi1, hit1, hfst1, rfl⟩, Or.inr ⟨_, none, rfl, Or.inl ⟨rfl, hno2⟩, congrArg (fun z => some (Value.long z)) (Int64.toInt_inj.mp (by (try dsimp only [tvI_i, tvJ_j, tvR_r]); rw [jV_n]; omega))⟩⟩⟩)
                      · try dsimp only [tvI_i, tvJ_j, tvR_r] at q1623
                        refine tw_push rfl ?_
                        refine tw_goto rfl ?_
                        refine tw_lstore rfl ?_
                        refine tw_iload rfl rfl ?_
                        refine tw_push rfl ?_
                        refine tw_ic_ne rfl (fun z => absurd z (by decide)) (fun _ => ?_)
                        refine tw_lload rfl rfl ?_
                        rw [ea156] at a1
                        rw [G1.2.2.1, eA] at a2
                        rw [G2.2.2.1, eA] at a3
                        try dsimp only [tvI_i, tvJ_j, tvR_r] at hQ
                        have eW := mJs_g a5 (mJs_g a4 (mJs_g a3 (mJs_g a2 (mJs_g a1 rfl))))
                        have hJ : jS (tJ b5 143) (tvI (tF h 111 1)).toInt64 (tA h 121 (tA h 152 c.toNatClampNeg).toNatClampNeg).toInt64 (tA h 114 (tA h 121 (tA h 152 c.toNatClampNeg).toNatClampNeg).toNatClampNeg).toInt64 (tA h 122 (tA h 152 c.toNatClampNeg).toNatClampNeg).toInt64 (bN (mK9 h (tA h 121 (tA h 152 c.toNatClampNeg).toNatClampNeg) (tvI (tF h 111 1))) (tK9 h) (tvI (tF h 111 5)).toNatClampNeg (tvI (tF h 111 1)).toInt) (bN (mF9 h (tA h 121 (tA h 152 c.toNatClampNeg).toNatClampNeg)) (mT9 h) (tvI (tF h 111 59)).toNatClampNeg (tvI (tF h 111 1)).toInt) (bN (mD9 h (tA h 121 (tA h 152 c.toNatClampNeg).toNatClampNeg)) (mT9 h) (tvI (tF h 111 59)).toNatClampNeg (tvI (tF h 111 1)).toInt) (tA h 156 c.toNatClampNeg).toInt64 (tA h 155 c.toNatClampNeg).toInt64 (tA h 154 c.toNatClampNeg).toInt64 (kbW b) (lcV (lcM h (tA h 121 (tA h 152 c.toNatClampNeg).toNatClampNeg) (sPM (tA h 177) (tA h 176) ((tA h 152 c.toNatClampNeg)).toNatClampNeg ((tA h 153 c.toNatClampNeg)) (sPB (fun p => tA h 118 (12 * (tA h 121 ((tA h 152 c.toNatClampNeg)).toNatClampNeg).toNatClampNeg + p)) (tA h 122 ((tA h 152 c.toNatClampNeg)).toNatClampNeg) (tvI (tF h 111 4)).toNatClampNeg) (tvI (tF h 111 83)).toNatClampNeg) (tA h 154 c.toNatClampNeg) (tA h 155 c.toNatClampNeg))).toInt64 := by
                          rw [(show kbW b = _ from if_pos q1573), (show (lcV (lcM h (tA h 121 (tA h 152 c.toNatClampNeg).toNatClampNeg) (sPM (tA h 177) (tA h 176) ((tA h 152 c.toNatClampNeg)).toNatClampNeg ((tA h 153 c.toNatClampNeg)) (sPB (fun p => tA h 118 (12 * (tA h 121 ((tA h 152 c.toNatClampNeg)).toNatClampNeg).toNatClampNeg + p)) (tA h 122 ((tA h 152 c.toNatClampNeg)).toNatClampNeg) (tvI (tF h 111 4)).toNatClampNeg) (tvI (tF h 111 83)).toNatClampNeg) (tA h 154 c.toNatClampNeg) (tA h 155 c.toNatClampNeg))).toInt64 = _ from congrArg Int32.toInt64 (lcV_1 hy q1575).symm), eW]
                          exact jS_5 hQ
                        exact tw_lret rfl (Or.inl ⟨⟨by omega, by omega⟩, Or.inr ⟨b, _, hkb, hJ, some _, Or.inr ⟨i1, hi1, hit1, hfst1, rfl⟩, Or.inr ⟨_, none, rfl, Or.inl ⟨rfl, hno2⟩, congrArg (fun z => some (Value.long z)) (Int64.toInt_inj.mp (by (try dsimp only [tvI_i, tvJ_j, tvR_r]); rw [jV_n]; omega))⟩⟩⟩)
                    · try dsimp only [tvI_i, tvJ_j, tvR_r] at q1619
                      have q1619i := zeqi (Y := (-1)) (by decide) q1619
                      exfalso
                      have k9 : (-1 : Int32).toInt = -1 := rfl
                      omega
                  · have LB2 := lFr_t LB1 (lFr_w FB2)
                    rw [thc_k (by decide)] at hit2
                    rw [FB1.2.2.2.2.2 143 (by decide)] at hit2
                    have hfst2 : ∀ j, j < i2 → ¬ hit (tJ b5 143) (cs (tvI (tF h 111 1))) (cl (tvI (tF h 111 1)) j) 14 := fun j hj => by have z9 := hfst2 j hj; rw [thc_k (by decide), FB1.2.2.2.2.2 143 (by decide)] at z9; exact z9
                    have x2n := zof_cl hx2
                    obtain ⟨s12, s22, s32, s42, p2, qq2, s52, s62⟩ := rOk_s (d3.ok i2 hi2) d3.nv (fun z => absurd (hit2.1.symm.trans z) (by decide))
                    have hK12 := d3.few
                    have c3 : ((cl (tvI (tF h 111 1)) i2).1, (cl (tvI (tF h 111 1)) i2).2.1, (cl (tvI (tF h 111 1)) i2).2.2.1, (cl (tvI (tF h 111 1)) i2).2.2.2) = (thc (tA h 135 (12 * q9 + i2)).toNatClampNeg (tA h 136 (12 * q9 + i2)).toNatClampNeg, (tA h 137 (12 * q9 + i2)).toNatClampNeg, (tA h 138 (12 * q9 + i2)).toNatClampNeg, (tA h 139 (12 * q9 + i2)).toNatClampNeg) := by rw [← d3.row i2 hi2]; rfl
                    have c52 := congrArg (fun z : rCt => z.2.1) c3
                    have c62 := congrArg (fun z : rCt => z.2.2.1) c3
                    dsimp only at c52 c62
                    have v12 : ∀ X, tA X = tA h → (tA X 137 xx2.toNatClampNeg).toInt = ((cl (tvI (tF h 111 1)) i2).2.1 : Int) := fun X eX => by rw [eX, x2n, c52]; exact (zclx (h137 (12 * q9 + i2) (by omega)).1).symm
                    have v22 : ∀ X, tA X = tA h → (tA X 138 xx2.toNatClampNeg).toInt = ((cl (tvI (tF h 111 1)) i2).2.2.1 : Int) := fun X eX => by rw [eX, x2n, c62]; exact (zclx (h138 (12 * q9 + i2) (by omega)).1).symm
                    refine tw_istore rfl ?_
                    refine tw_iload rfl rfl ?_
                    refine tw_push rfl ?_
                    refine tw_ic_ne rfl (fun q1624 => ?_) (fun q1624 => ?_)
                    · try dsimp only [tvI_i, tvJ_j, tvR_r] at q1624
                      have q1624i := zneq (Y := (-1)) (by decide) q1624
                      refine tw_aload rfl rfl ?_
                      refine tw_iload rfl rfl ?_
                      refine tw_aload rfl rfl ?_
                      refine tw_getS rfl (hs_111_40 FB2.1) ?_
                      refine tw_iload rfl rfl ?_
                      refine tw_iald rfl (fun f1625 => ?_)
                      refine tw_aload rfl rfl ?_
                      refine tw_getS rfl (hs_111_41 FB2.1) ?_
                      refine tw_iload rfl rfl ?_
                      refine tw_iald rfl (fun f1626 => ?_)
                      refine tw_virt3 rfl (g_answer hG FB2.1 d1 d2 (v11 _ LB2.2.2.1) (e := slc (cs (tvI (tF h 111 1))) (cl (tvI (tF h 111 1)) i1).2.1 (cl (tvI (tF h 111 1)) i1).2.2.1) (t := false) ((v21 _ LB2.2.2.1).trans (congrArg Nat.cast s11)) (by rw [← s11]; have := d3.big; omega) (by rw [LB2.2.2.1]; exact h133) (by rw [LB2.2.2.1]; exact h134) (by rw [LB2.2.2.1]; exact cdAt_h s51 s61 d3.cod) s31 s41) (fun wp1627 hp1627 p1627 => ?_)
                      obtain ⟨rfl, FC1⟩ := p1627
                      rw [FB2.2.2.2.2.2 143 (by decide), FB1.2.2.2.2.2 143 (by decide)]
                      have LC1 := lFr_t LB2 (lFr_w FC1)
                      have k0 : (0 : Int64).toInt = 0 := by decide
                      refine tw_lstore rfl ?_
                      refine tw_lload rfl rfl ?_
                      refine tw_push rfl ?_
                      refine tw_lc_ge rfl rfl (fun q1628 => ?_) (fun q1628 => ?_)
                      · try dsimp only [tvI_i, tvJ_j, tvR_r] at q1628
                        refine tw_lload rfl rfl ?_
                        refine tw_lstore rfl ?_
                        refine tw_iload rfl rfl ?_
                        refine tw_push rfl ?_
                        refine tw_ic_ne rfl (fun q1629 => ?_) (fun q1629 => ?_)
                        · try dsimp only [tvI_i, tvJ_j, tvR_r] at q1629
                          have q1629i := zneq (Y := (-1)) (by decide) q1629
                          refine tw_aload rfl rfl ?_
                          refine tw_iload rfl rfl ?_
                          refine tw_aload rfl rfl ?_
                          refine tw_getS rfl (hs_111_40 FC1.1) ?_
                          refine tw_iload rfl rfl ?_
                          refine tw_iald rfl (fun f1630 => ?_)
                          refine tw_aload rfl rfl ?_
                          refine tw_getS rfl (hs_111_41 FC1.1) ?_
                          refine tw_iload rfl rfl ?_
                          refine tw_iald rfl (fun f1631 => ?_)
                          refine tw_virt3 rfl (g_answer hG FC1.1 d1 d2 (v12 _ LC1.2.2.1) (e := slc (cs (tvI (tF h 111 1))) (cl (tvI (tF h 111 1)) i2).2.1 (cl (tvI (tF h 111 1)) i2).2.2.1) (t := false) ((v22 _ LC1.2.2.1).trans (congrArg Nat.cast s12)) (by rw [← s12]; have := d3.big; omega) (by rw [LC1.2.2.1]; exact h133) (by rw [LC1.2.2.1]; exact h134) (by rw [LC1.2.2.1]; exact cdAt_h s52 s62 d3.cod) s32 s42) (fun wp1632 hp1632 p1632 => ?_)
                          obtain ⟨rfl, FC2⟩ := p1632
                          rw [FC1.2.2.2.2.2 143 (by decide), FB2.2.2.2.2.2 143 (by decide), FB1.2.2.2.2.2 143 (by decide)]
                          have k0 : (0 : Int64).toInt = 0 := by decide
                          refine tw_lstore rfl ?_
                          refine tw_lload rfl rfl ?_
                          refine tw_push rfl ?_
                          refine tw_lc_ge rfl rfl (fun q1633 => ?_) (fun q1633 => ?_)
                          · try dsimp only [tvI_i, tvJ_j, tvR_r] at q1633
                            refine tw_lload rfl rfl ?_
                            refine tw_lstore rfl ?_
                            refine tw_lload rfl rfl ?_
                            refine tw_lload rfl rfl ?_
                            refine tw_lc_le rfl rfl (fun q1634 => ?_) (fun q1634 => ?_)
                            · try dsimp only [tvI_i, tvJ_j, tvR_r] at q1634
                              refine tw_lload rfl rfl ?_
                              rw [ea156] at a1
                              rw [G1.2.2.1, eA] at a2
                              rw [G2.2.2.1, eA] at a3
                              try dsimp only [tvI_i, tvJ_j, tvR_r] at hQ
                              have eW := mJs_g a5 (mJs_g a4 (mJs_g a3 (mJs_g a2 (mJs_g a1 rfl))))
                              have hJ : jS (tJ b5 143) (tvI (tF h 111 1)).toInt64 (tA h 121 (tA h 152 c.toNatClampNeg).toNatClampNeg).toInt64 (tA h 114 (tA h 121 (tA h 152 c.toNatClampNeg).toNatClampNeg).toNatClampNeg).toInt64 (tA h 122 (tA h 152 c.toNatClampNeg).toNatClampNeg).toInt64 (bN (mK9 h (tA h 121 (tA h 152 c.toNatClampNeg).toNatClampNeg) (tvI (tF h 111 1))) (tK9 h) (tvI (tF h 111 5)).toNatClampNeg (tvI (tF h 111 1)).toInt) (bN (mF9 h (tA h 121 (tA h 152 c.toNatClampNeg).toNatClampNeg)) (mT9 h) (tvI (tF h 111 59)).toNatClampNeg (tvI (tF h 111 1)).toInt) (bN (mD9 h (tA h 121 (tA h 152 c.toNatClampNeg).toNatClampNeg)) (mT9 h) (tvI (tF h 111 59)).toNatClampNeg (tvI (tF h 111 1)).toInt) (tA h 156 c.toNatClampNeg).toInt64 (tA h 155 c.toNatClampNeg).toInt64 (tA h 154 c.toNatClampNeg).toInt64 (kbW b) (lcV (lcM h (tA h 121 (tA h 152 c.toNatClampNeg).toNatClampNeg) (sPM (tA h 177) (tA h 176) ((tA h 152 c.toNatClampNeg)).toNatClampNeg ((tA h 153 c.toNatClampNeg)) (sPB (fun p => tA h 118 (12 * (tA h 121 ((tA h 152 c.toNatClampNeg)).toNatClampNeg).toNatClampNeg + p)) (tA h 122 ((tA h 152 c.toNatClampNeg)).toNatClampNeg) (tvI (tF h 111 4)).toNatClampNeg) (tvI (tF h 111 83)).toNatClampNeg) (tA h 154 c.toNatClampNeg) (tA h 155 c.toNatClampNeg))).toInt64 := by
                                rw [(show kbW b = _ from if_pos q1573), (show (lcV (lcM h (tA h 121 (tA h 152 c.toNatClampNeg).toNatClampNeg) (sPM (tA h 177) (tA h 176) ((tA h 152 c.toNatClampNeg)).toNatClampNeg ((tA h 153 c.toNatClampNeg)) (sPB (fun p => tA h 118 (12 * (tA h 121 ((tA h 152 c.toNatClampNeg)).toNatClampNeg).toNatClampNeg + p)) (tA h 122 ((tA h 152 c.toNatClampNeg)).toNatClampNeg) (tvI (tF h 111 4)).toNatClampNeg) (tvI (tF h 111 83)).toNatClampNeg) (tA h 154 c.toNatClampNeg) (tA h 155 c.toNatClampNeg))).toInt64 = _ from congrArg Int32.toInt64 (lcV_1 hy q1575).symm), eW]
                                exact jS_5 hQ
                              exact tw_lret rfl (Or.inl ⟨⟨by omega, by omega⟩, Or.inr ⟨b, _, hkb, hJ, some _, Or.inr ⟨i1, hi1, hit1, hfst1, rfl⟩, Or.inr ⟨_, some _, rfl, Or.inr ⟨i2, hi2, hit2, hfst2, rfl⟩, congrArg (fun z => some (Value.long z)) (Int64.toInt_inj.mp (by (try dsimp only [tvI_i, tvJ_j, tvR_r]); rw [jV_i]; omega))⟩⟩⟩)
                            · try dsimp only [tvI_i, tvJ_j, tvR_r] at q1634
                              refine tw_lload rfl rfl ?_
                              refine tw_goto rfl ?_
                              rw [ea156] at a1
                              rw [G1.2.2.1, eA] at a2
                              rw [G2.2.2.1, eA] at a3
                              try dsimp only [tvI_i, tvJ_j, tvR_r] at hQ
                              have eW := mJs_g a5 (mJs_g a4 (mJs_g a3 (mJs_g a2 (mJs_g a1 rfl))))
                              have hJ : jS (tJ b5 143) (tvI (tF h 111 1)).toInt64 (tA h 121 (tA h 152 c.toNatClampNeg).toNatClampNeg).toInt64 (tA h 114 (tA h 121 (tA h 152 c.toNatClampNeg).toNatClampNeg).toNatClampNeg).toInt64 (tA h 122 (tA h 152 c.toNatClampNeg).toNatClampNeg).toInt64 (bN (mK9 h (tA h 121 (tA h 152 c.toNatClampNeg).toNatClampNeg) (tvI (tF h 111 1))) (tK9 h) (tvI (tF h 111 5)).toNatClampNeg (tvI (tF h 111 1)).toInt) (bN (mF9 h (tA h 121 (tA h 152 c.toNatClampNeg).toNatClampNeg)) (mT9 h) (tvI (tF h 111 59)).toNatClampNeg (tvI (tF h 111 1)).toInt) (bN (mD9 h (tA h 121 (tA h 152 c.toNatClampNeg).toNatClampNeg)) (mT9 h) (tvI (tF h 111 59)).toNatClampNeg (tvI (tF h 111 1)).toInt) (tA h 156 c.toNatClampNeg).toInt64 (tA h 155 c.toNatClampNeg).toInt64 (tA h 154 c.toNatClampNeg).toInt64 (kbW b) (lcV (lcM h (tA h 121 (tA h 152 c.toNatClampNeg).toNatClampNeg) (sPM (tA h 177) (tA h 176) ((tA h 152 c.toNatClampNeg)).toNatClampNeg ((tA h 153 c.toNatClampNeg)) (sPB (fun p => tA h 118 (12 * (tA h 121 ((tA h 152 c.toNatClampNeg)).toNatClampNeg).toNatClampNeg + p)) (tA h 122 ((tA h 152 c.toNatClampNeg)).toNatClampNeg) (tvI (tF h 111 4)).toNatClampNeg) (tvI (tF h 111 83)).toNatClampNeg) (tA h 154 c.toNatClampNeg) (tA h 155 c.toNatClampNeg))).toInt64 := by
                                rw [(show kbW b = _ from if_pos q1573), (show (lcV (lcM h (tA h 121 (tA h 152 c.toNatClampNeg).toNatClampNeg) (sPM (tA h 177) (tA h 176) ((tA h 152 c.toNatClampNeg)).toNatClampNeg ((tA h 153 c.toNatClampNeg)) (sPB (fun p => tA h 118 (12 * (tA h 121 ((tA h 152 c.toNatClampNeg)).toNatClampNeg).toNatClampNeg + p)) (tA h 122 ((tA h 152 c.toNatClampNeg)).toNatClampNeg) (tvI (tF h 111 4)).toNatClampNeg) (tvI (tF h 111 83)).toNatClampNeg) (tA h 154 c.toNatClampNeg) (tA h 155 c.toNatClampNeg))).toInt64 = _ from congrArg Int32.toInt64 (lcV_1 hy q1575).symm), eW]
                                exact jS_5 hQ
                              exact tw_lret rfl (Or.inl ⟨⟨by omega, by omega⟩, Or.inr ⟨b, _, hkb, hJ, some _, Or.inr ⟨i1, hi1, hit1, hfst1, rfl⟩, Or.inr ⟨_, some _, rfl, Or.inr ⟨i2, hi2, hit2, hfst2, rfl⟩, congrArg (fun z => some (Value.long z)) (Int64.toInt_inj.mp (by (try dsimp only [tvI_i, tvJ_j, tvR_r]); rw [jV_i]; omega))⟩⟩⟩)
                          · try dsimp only [tvI_i, tvJ_j, tvR_r] at q1633
                            refine tw_push rfl ?_
                            refine tw_goto rfl ?_
                            refine tw_lstore rfl ?_
                            refine tw_lload rfl rfl ?_
                            refine tw_lload rfl rfl ?_
                            refine tw_lc_le rfl rfl (fun q1635 => ?_) (fun q1635 => ?_)
                            · try dsimp only [tvI_i, tvJ_j, tvR_r] at q1635
                              refine tw_lload rfl rfl ?_
                              rw [ea156] at a1
                              rw [G1.2.2.1, eA] at a2
                              rw [G2.2.2.1, eA] at a3
                              try dsimp only [tvI_i, tvJ_j, tvR_r] at hQ
                              have eW := mJs_g a5 (mJs_g a4 (mJs_g a3 (mJs_g a2 (mJs_g a1 rfl))))
                              have hJ : jS (tJ b5 143) (tvI (tF h 111 1)).toInt64 (tA h 121 (tA h 152 c.toNatClampNeg).toNatClampNeg).toInt64 (tA h 114 (tA h 121 (tA h 152 c.toNatClampNeg).toNatClampNeg).toNatClampNeg).toInt64 (tA h 122 (tA h 152 c.toNatClampNeg).toNatClampNeg).toInt64 (bN (mK9 h (tA h 121 (tA h 152 c.toNatClampNeg).toNatClampNeg) (tvI (tF h 111 1))) (tK9 h) (tvI (tF h 111 5)).toNatClampNeg (tvI (tF h 111 1)).toInt) (bN (mF9 h (tA h 121 (tA h 152 c.toNatClampNeg).toNatClampNeg)) (mT9 h) (tvI (tF h 111 59)).toNatClampNeg (tvI (tF h 111 1)).toInt) (bN (mD9 h (tA h 121 (tA h 152 c.toNatClampNeg).toNatClampNeg)) (mT9 h) (tvI (tF h 111 59)).toNatClampNeg (tvI (tF h 111 1)).toInt) (tA h 156 c.toNatClampNeg).toInt64 (tA h 155 c.toNatClampNeg).toInt64 (tA h 154 c.toNatClampNeg).toInt64 (kbW b) (lcV (lcM h (tA h 121 (tA h 152 c.toNatClampNeg).toNatClampNeg) (sPM (tA h 177) (tA h 176) ((tA h 152 c.toNatClampNeg)).toNatClampNeg ((tA h 153 c.toNatClampNeg)) (sPB (fun p => tA h 118 (12 * (tA h 121 ((tA h 152 c.toNatClampNeg)).toNatClampNeg).toNatClampNeg + p)) (tA h 122 ((tA h 152 c.toNatClampNeg)).toNatClampNeg) (tvI (tF h 111 4)).toNatClampNeg) (tvI (tF h 111 83)).toNatClampNeg) (tA h 154 c.toNatClampNeg) (tA h 155 c.toNatClampNeg))).toInt64 := by
                                rw [(show kbW b = _ from if_pos q1573), (show (lcV (lcM h (tA h 121 (tA h 152 c.toNatClampNeg).toNatClampNeg) (sPM (tA h 177) (tA h 176) ((tA h 152 c.toNatClampNeg)).toNatClampNeg ((tA h 153 c.toNatClampNeg)) (sPB (fun p => tA h 118 (12 * (tA h 121 ((tA h 152 c.toNatClampNeg)).toNatClampNeg).toNatClampNeg + p)) (tA h 122 ((tA h 152 c.toNatClampNeg)).toNatClampNeg) (tvI (tF h 111 4)).toNatClampNeg) (tvI (tF h 111 83)).toNatClampNeg) (tA h 154 c.toNatClampNeg) (tA h 155 c.toNatClampNeg))).toInt64 = _ from congrArg Int32.toInt64 (lcV_1 hy q1575).symm), eW]
                                exact jS_5 hQ
                              exact tw_lret rfl (Or.inl ⟨⟨by omega, by omega⟩, Or.inr ⟨b, _, hkb, hJ, some _, Or.inr ⟨i1, hi1, hit1, hfst1, rfl⟩, Or.inr ⟨_, some _, rfl, Or.inr ⟨i2, hi2, hit2, hfst2, rfl⟩, congrArg (fun z => some (Value.long z)) (Int64.toInt_inj.mp (by (try dsimp only [tvI_i, tvJ_j, tvR_r]); rw [jV_i]; omega))⟩⟩⟩)
                            · try dsimp only [tvI_i, tvJ_j, tvR_r] at q1635
                              refine tw_lload rfl rfl ?_
                              refine tw_goto rfl ?_
                              rw [ea156] at a1
                              rw [G1.2.2.1, eA] at a2
                              rw [G2.2.2.1, eA] at a3
                              try dsimp only [tvI_i, tvJ_j, tvR_r] at hQ
                              have eW := mJs_g a5 (mJs_g a4 (mJs_g a3 (mJs_g a2 (mJs_g a1 rfl))))
                              have hJ : jS (tJ b5 143) (tvI (tF h 111 1)).toInt64 (tA h 121 (tA h 152 c.toNatClampNeg).toNatClampNeg).toInt64 (tA h 114 (tA h 121 (tA h 152 c.toNatClampNeg).toNatClampNeg).toNatClampNeg).toInt64 (tA h 122 (tA h 152 c.toNatClampNeg).toNatClampNeg).toInt64 (bN (mK9 h (tA h 121 (tA h 152 c.toNatClampNeg).toNatClampNeg) (tvI (tF h 111 1))) (tK9 h) (tvI (tF h 111 5)).toNatClampNeg (tvI (tF h 111 1)).toInt) (bN (mF9 h (tA h 121 (tA h 152 c.toNatClampNeg).toNatClampNeg)) (mT9 h) (tvI (tF h 111 59)).toNatClampNeg (tvI (tF h 111 1)).toInt) (bN (mD9 h (tA h 121 (tA h 152 c.toNatClampNeg).toNatClampNeg)) (mT9 h) (tvI (tF h 111 59)).toNatClampNeg (tvI (tF h 111 1)).toInt) (tA h 156 c.toNatClampNeg).toInt64 (tA h 155 c.toNatClampNeg).toInt64 (tA h 154 c.toNatClampNeg).toInt64 (kbW b) (lcV (lcM h (tA h 121 (tA h 152 c.toNatClampNeg).toNatClampNeg) (sPM (tA h 177) (tA h 176) ((tA h 152 c.toNatClampNeg)).toNatClampNeg ((tA h 153 c.toNatClampNeg)) (sPB (fun p => tA h 118 (12 * (tA h 121 ((tA h 152 c.toNatClampNeg)).toNatClampNeg).toNatClampNeg + p)) (tA h 122 ((tA h 152 c.toNatClampNeg)).toNatClampNeg) (tvI (tF h 111 4)).toNatClampNeg) (tvI (tF h 111 83)).toNatClampNeg) (tA h 154 c.toNatClampNeg) (tA h 155 c.toNatClampNeg))).toInt64 := by
                                rw [(show kbW b = _ from if_pos q1573), (show (lcV (lcM h (tA h 121 (tA h 152 c.toNatClampNeg).toNatClampNeg) (sPM (tA h 177) (tA h 176) ((tA h 152 c.toNatClampNeg)).toNatClampNeg ((tA h 153 c.toNatClampNeg)) (sPB (fun p => tA h 118 (12 * (tA h 121 ((tA h 152 c.toNatClampNeg)).toNatClampNeg).toNatClampNeg + p)) (tA h 122 ((tA h 152 c.toNatClampNeg)).toNatClampNeg) (tvI (tF h 111 4)).toNatClampNeg) (tvI (tF h 111 83)).toNatClampNeg) (tA h 154 c.toNatClampNeg) (tA h 155 c.toNatClampNeg))).toInt64 = _ from congrArg Int32.toInt64 (lcV_1 hy q1575).symm), eW]
                                exact jS_5 hQ
                              exact tw_lret rfl (Or.inl ⟨⟨by omega, by omega⟩, Or.inr ⟨b, _, hkb, hJ, some _, Or.inr ⟨i1, hi1, hit1, hfst1, rfl⟩, Or.inr ⟨_, some _, rfl, Or.inr ⟨i2, hi2, hit2, hfst2, rfl⟩, congrArg (fun z => some (Value.long z)) (Int64.toInt_inj.mp (by (try dsimp only [tvI_i, tvJ_j, tvR_r]); rw [jV_i]; omega))⟩⟩⟩)
                        · try dsimp only [tvI_i, tvJ_j, tvR_r] at q1629
                          have q1629i := zeqi (Y := (-1)) (by decide) q1629
                          exfalso
                          have k9 : (-1 : Int32).toInt = -1 := rfl
                          omega
                      · try dsimp only [tvI_i, tvJ_j, tvR_r] at q1628
                        refine tw_push rfl ?_
                        refine tw_goto rfl ?_
                        refine tw_lstore rfl ?_
                        refine tw_iload rfl rfl ?_
                        refine tw_push rfl ?_
                        refine tw_ic_ne rfl (fun q1636 => ?_) (fun q1636 => ?_)
                        · try dsimp only [tvI_i, tvJ_j, tvR_r] at q1636
                          have q1636i := zneq (Y := (-1)) (by decide) q1636
                          refine tw_aload rfl rfl ?_
                          refine tw_iload rfl rfl ?_
                          refine tw_aload rfl rfl ?_
                          refine tw_getS rfl (hs_111_40 FC1.1) ?_
                          refine tw_iload rfl rfl ?_
                          refine tw_iald rfl (fun f1637 => ?_)
                          refine tw_aload rfl rfl ?_
                          refine tw_getS rfl (hs_111_41 FC1.1) ?_
                          refine tw_iload rfl rfl ?_
                          refine tw_iald rfl (fun f1638 => ?_)
                          refine tw_virt3 rfl (g_answer hG FC1.1 d1 d2 (v12 _ LC1.2.2.1) (e := slc (cs (tvI (tF h 111 1))) (cl (tvI (tF h 111 1)) i2).2.1 (cl (tvI (tF h 111 1)) i2).2.2.1) (t := false) ((v22 _ LC1.2.2.1).trans (congrArg Nat.cast s12)) (by rw [← s12]; have := d3.big; omega) (by rw [LC1.2.2.1]; exact h133) (by rw [LC1.2.2.1]; exact h134) (by rw [LC1.2.2.1]; exact cdAt_h s52 s62 d3.cod) s32 s42) (fun wp1639 hp1639 p1639 => ?_)
                          obtain ⟨rfl, FC2⟩ := p1639
                          rw [FC1.2.2.2.2.2 143 (by decide), FB2.2.2.2.2.2 143 (by decide), FB1.2.2.2.2.2 143 (by decide)]
                          have k0 : (0 : Int64).toInt = 0 := by decide
                          refine tw_lstore rfl ?_
                          refine tw_lload rfl rfl ?_
                          refine tw_push rfl ?_
                          refine tw_lc_ge rfl rfl (fun q1640 => ?_) (fun q1640 => ?_)
                          · try dsimp only [tvI_i, tvJ_j, tvR_r] at q1640
                            refine tw_lload rfl rfl ?_
                            refine tw_lstore rfl ?_
                            refine tw_lload rfl rfl ?_
                            refine tw_lload rfl rfl ?_
                            refine tw_lc_le rfl rfl (fun q1641 => ?_) (fun q1641 => ?_)
                            · try dsimp only [tvI_i, tvJ_j, tvR_r] at q1641
                              refine tw_lload rfl rfl ?_
                              rw [ea156] at a1
                              rw [G1.2.2.1, eA] at a2
                              rw [G2.2.2.1, eA] at a3
                              try dsimp only [tvI_i, tvJ_j, tvR_r] at hQ
                              have eW := mJs_g a5 (mJs_g a4 (mJs_g a3 (mJs_g a2 (mJs_g a1 rfl))))
                              have hJ : jS (tJ b5 143) (tvI (tF h 111 1)).toInt64 (tA h 121 (tA h 152 c.toNatClampNeg).toNatClampNeg).toInt64 (tA h 114 (tA h 121 (tA h 152 c.toNatClampNeg).toNatClampNeg).toNatClampNeg).toInt64 (tA h 122 (tA h 152 c.toNatClampNeg).toNatClampNeg).toInt64 (bN (mK9 h (tA h 121 (tA h 152 c.toNatClampNeg).toNatClampNeg) (tvI (tF h 111 1))) (tK9 h) (tvI (tF h 111 5)).toNatClampNeg (tvI (tF h 111 1)).toInt) (bN (mF9 h (tA h 121 (tA h 152 c.toNatClampNeg).toNatClampNeg)) (mT9 h) (tvI (tF h 111 59)).toNatClampNeg (tvI (tF h 111 1)).toInt) (bN (mD9 h (tA h 121 (tA h 152 c.toNatClampNeg).toNatClampNeg)) (mT9 h) (tvI (tF h 111 59)).toNatClampNeg (tvI (tF h 111 1)).toInt) (tA h 156 c.toNatClampNeg).toInt64 (tA h 155 c.toNatClampNeg).toInt64 (tA h 154 c.toNatClampNeg).toInt64 (kbW b) (lcV (lcM h (tA h 121 (tA h 152 c.toNatClampNeg).toNatClampNeg) (sPM (tA h 177) (tA h 176) ((tA h 152 c.toNatClampNeg)).toNatClampNeg ((tA h 153 c.toNatClampNeg)) (sPB (fun p => tA h 118 (12 * (tA h 121 ((tA h 152 c.toNatClampNeg)).toNatClampNeg).toNatClampNeg + p)) (tA h 122 ((tA h 152 c.toNatClampNeg)).toNatClampNeg) (tvI (tF h 111 4)).toNatClampNeg) (tvI (tF h 111 83)).toNatClampNeg) (tA h 154 c.toNatClampNeg) (tA h 155 c.toNatClampNeg))).toInt64 := by
                                rw [(show kbW b = _ from if_pos q1573), (show (lcV (lcM h (tA h 121 (tA h 152 c.toNatClampNeg).toNatClampNeg) (sPM (tA h 177) (tA h 176) ((tA h 152 c.toNatClampNeg)).toNatClampNeg ((tA h 153 c.toNatClampNeg)) (sPB (fun p => tA h 118 (12 * (tA h 121 ((tA h 152 c.toNatClampNeg)).toNatClampNeg).toNatClampNeg + p)) (tA h 122 ((tA h 152 c.toNatClampNeg)).toNatClampNeg) (tvI (tF h 111 4)).toNatClampNeg) (tvI (tF h 111 83)).toNatClampNeg) (tA h 154 c.toNatClampNeg) (tA h 155 c.toNatClampNeg))).toInt64 = _ from congrArg Int32.toInt64 (lcV_1 hy q1575).symm), eW]
                                exact jS_5 hQ
                              exact tw_lret rfl (Or.inl ⟨⟨by omega, by omega⟩, Or.inr ⟨b, _, hkb, hJ, some _, Or.inr ⟨i1, hi1, hit1, hfst1, rfl⟩, Or.inr ⟨_, some _, rfl, Or.inr ⟨i2, hi2, hit2, hfst2, rfl⟩, congrArg (fun z => some (Value.long z)) (Int64.toInt_inj.mp (by (try dsimp only [tvI_i, tvJ_j, tvR_r]); rw [jV_i]; omega))⟩⟩⟩)
                            · try dsimp only [tvI_i, tvJ_j, tvR_r] at q1641
                              refine tw_lload rfl rfl ?_
                              refine tw_goto rfl ?_
                              rw [ea156] at a1
                              rw [G1.2.2.1, eA] at a2
                              rw [G2.2.2.1, eA] at a3
                              try dsimp only [tvI_i, tvJ_j, tvR_r] at hQ
                              have eW := mJs_g a5 (mJs_g a4 (mJs_g a3 (mJs_g a2 (mJs_g a1 rfl))))
                              have hJ : jS (tJ b5 143) (tvI (tF h 111 1)).toInt64 (tA h 121 (tA h 152 c.toNatClampNeg).toNatClampNeg).toInt64 (tA h 114 (tA h 121 (tA h 152 c.toNatClampNeg).toNatClampNeg).toNatClampNeg).toInt64 (tA h 122 (tA h 152 c.toNatClampNeg).toNatClampNeg).toInt64 (bN (mK9 h (tA h 121 (tA h 152 c.toNatClampNeg).toNatClampNeg) (tvI (tF h 111 1))) (tK9 h) (tvI (tF h 111 5)).toNatClampNeg (tvI (tF h 111 1)).toInt) (bN (mF9 h (tA h 121 (tA h 152 c.toNatClampNeg).toNatClampNeg)) (mT9 h) (tvI (tF h 111 59)).toNatClampNeg (tvI (tF h 111 1)).toInt) (bN (mD9 h (tA h 121 (tA h 152 c.toNatClampNeg).toNatClampNeg)) (mT9 h) (tvI (tF h 111 59)).toNatClampNeg (tvI (tF h 111 1)).toInt) (tA h 156 c.toNatClampNeg).toInt64 (tA h 155 c.toNatClampNeg).toInt64 (tA h 154 c.toNatClampNeg).toInt64 (kbW b) (lcV (lcM h (tA h 121 (tA h 152 c.toNatClampNeg).toNatClampNeg) (sPM (tA h 177) (tA h 176) ((tA h 152 c.toNatClampNeg)).toNatClampNeg ((tA h 153 c.toNatClampNeg)) (sPB (fun p => tA h 118 (12 * (tA h 121 ((tA h 152 c.toNatClampNeg)).toNatClampNeg).toNatClampNeg + p)) (tA h 122 ((tA h 152 c.toNatClampNeg)).toNatClampNeg) (tvI (tF h 111 4)).toNatClampNeg) (tvI (tF h 111 83)).toNatClampNeg) (tA h 154 c.toNatClampNeg) (tA h 155 c.toNatClampNeg))).toInt64 := by
                                rw [(show kbW b = _ from if_pos q1573), (show (lcV (lcM h (tA h 121 (tA h 152 c.toNatClampNeg).toNatClampNeg) (sPM (tA h 177) (tA h 176) ((tA h 152 c.toNatClampNeg)).toNatClampNeg ((tA h 153 c.toNatClampNeg)) (sPB (fun p => tA h 118 (12 * (tA h 121 ((tA h 152 c.toNatClampNeg)).toNatClampNeg).toNatClampNeg + p)) (tA h 122 ((tA h 152 c.toNatClampNeg)).toNatClampNeg) (tvI (tF h 111 4)).toNatClampNeg) (tvI (tF h 111 83)).toNatClampNeg) (tA h 154 c.toNatClampNeg) (tA h 155 c.toNatClampNeg))).toInt64 = _ from congrArg Int32.toInt64 (lcV_1 hy q1575).symm), eW]
                                exact jS_5 hQ
                              exact tw_lret rfl (Or.inl ⟨⟨by omega, by omega⟩, Or.inr ⟨b, _, hkb, hJ, some _, Or.inr ⟨i1, hi1, hit1, hfst1, rfl⟩, Or.inr ⟨_, some _, rfl, Or.inr ⟨i2, hi2, hit2, hfst2, rfl⟩, congrArg (fun z => some (Value.long z)) (Int64.toInt_inj.mp (by (try dsimp only [tvI_i, tvJ_j, tvR_r]); rw [jV_i]; omega))⟩⟩⟩)
                          · try dsimp only [tvI_i, tvJ_j, tvR_r] at q1640
                            refine tw_push rfl ?_
                            refine tw_goto rfl ?_
                            refine tw_lstore rfl ?_
                            refine tw_lload rfl rfl ?_
                            refine tw_lload rfl rfl ?_
                            refine tw_lc_le rfl rfl (fun _ => ?_) (fun z => absurd z (by decide))
                            refine tw_lload rfl rfl ?_
                            rw [ea156] at a1
                            rw [G1.2.2.1, eA] at a2
                            rw [G2.2.2.1, eA] at a3
                            try dsimp only [tvI_i, tvJ_j, tvR_r] at hQ
                            have eW := mJs_g a5 (mJs_g a4 (mJs_g a3 (mJs_g a2 (mJs_g a1 rfl))))
                            have hJ : jS (tJ b5 143) (tvI (tF h 111 1)).toInt64 (tA h 121 (tA h 152 c.toNatClampNeg).toNatClampNeg).toInt64 (tA h 114 (tA h 121 (tA h 152 c.toNatClampNeg).toNatClampNeg).toNatClampNeg).toInt64 (tA h 122 (tA h 152 c.toNatClampNeg).toNatClampNeg).toInt64 (bN (mK9 h (tA h 121 (tA h 152 c.toNatClampNeg).toNatClampNeg) (tvI (tF h 111 1))) (tK9 h) (tvI (tF h 111 5)).toNatClampNeg (tvI (tF h 111 1)).toInt) (bN (mF9 h (tA h 121 (tA h 152 c.toNatClampNeg).toNatClampNeg)) (mT9 h) (tvI (tF h 111 59)).toNatClampNeg (tvI (tF h 111 1)).toInt) (bN (mD9 h (tA h 121 (tA h 152 c.toNatClampNeg).toNatClampNeg)) (mT9 h) (tvI (tF h 111 59)).toNatClampNeg (tvI (tF h 111 1)).toInt) (tA h 156 c.toNatClampNeg).toInt64 (tA h 155 c.toNatClampNeg).toInt64 (tA h 154 c.toNatClampNeg).toInt64 (kbW b) (lcV (lcM h (tA h 121 (tA h 152 c.toNatClampNeg).toNatClampNeg) (sPM (tA h 177) (tA h 176) ((tA h 152 c.toNatClampNeg)).toNatClampNeg ((tA h 153 c.toNatClampNeg)) (sPB (fun p => tA h 118 (12 * (tA h 121 ((tA h 152 c.toNatClampNeg)).toNatClampNeg).toNatClampNeg + p)) (tA h 122 ((tA h 152 c.toNatClampNeg)).toNatClampNeg) (tvI (tF h 111 4)).toNatClampNeg) (tvI (tF h 111 83)).toNatClampNeg) (tA h 154 c.toNatClampNeg) (tA h 155 c.toNatClampNeg))).toInt64 := by
                              rw [(show kbW b = _ from if_pos q1573), (show (lcV (lcM h (tA h 121 (tA h 152 c.toNatClampNeg).toNatClampNeg) (sPM (tA h 177) (tA h 176) ((tA h 152 c.toNatClampNeg)).toNatClampNeg ((tA h 153 c.toNatClampNeg)) (sPB (fun p => tA h 118 (12 * (tA h 121 ((tA h 152 c.toNatClampNeg)).toNatClampNeg).toNatClampNeg + p)) (tA h 122 ((tA h 152 c.toNatClampNeg)).toNatClampNeg) (tvI (tF h 111 4)).toNatClampNeg) (tvI (tF h 111 83)).toNatClampNeg) (tA h 154 c.toNatClampNeg) (tA h 155 c.toNatClampNeg))).toInt64 = _ from congrArg Int32.toInt64 (lcV_1 hy q1575).symm), eW]
                              exact jS_5 hQ
                            exact tw_lret rfl (Or.inl ⟨⟨by omega, by omega⟩, Or.inr ⟨b, _, hkb, hJ, some _, Or.inr ⟨i1, hi1, hit1, hfst1, rfl⟩, Or.inr ⟨_, some _, rfl, Or.inr ⟨i2, hi2, hit2, hfst2, rfl⟩, congrArg (fun z => some (Value.long z)) (Int64.toInt_inj.mp (by (try dsimp only [tvI_i, tvJ_j, tvR_r]); rw [jV_i]; omega))⟩⟩⟩)
                        · try dsimp only [tvI_i, tvJ_j, tvR_r] at q1636
                          have q1636i := zeqi (Y := (-1)) (by decide) q1636
                          exfalso
                          have k9 : (-1 : Int32).toInt = -1 := rfl
                          omega
                    · try dsimp only [tvI_i, tvJ_j, tvR_r] at q1624
                      have q1624i := zeqi (Y := (-1)) (by decide) q1624
                      exfalso
                      have k9 : (-1 : Int32).toInt = -1 := rfl
                      omega
            · try dsimp only [tvI_i, tvJ_j, tvR_r] at q1573
              have q1573i := zneq (Y := 0) (by decide) q1573
              refine tw_push rfl ?_
              refine tw_goto rfl ?_
              refine tw_last rfl (fun f1642 => ?_)
              refine tG_lst f1642 G3.1 (fun b4 a4 => ?_)
              try dsimp only [tvI_i, tvJ_j, tvR_r] at a4
              have G4 := wFr_s G3 a4
              refine tw_aload rfl rfl ?_
              refine tw_getS rfl (hs_111_48 G4.1) ?_
              refine tw_push rfl ?_
              refine tw_iload rfl rfl ?_
              refine tw_push rfl ?_
              refine tw_ic_ne rfl (fun q1643 => ?_) (fun q1643 => ?_)
              · try dsimp only [tvI_i, tvJ_j, tvR_r] at q1643
                have q1643i := zneq (Y := (-1)) (by decide) q1643
                refine tw_iload rfl rfl ?_
                refine tw_i2l rfl ?_
                refine tw_last rfl (fun f1644 => ?_)
                refine tG_lst f1644 G4.1 (fun b5 a5 => ?_)
                try dsimp only [tvI_i, tvJ_j, tvR_r] at a5
                have G5 := wFr_s G4 a5
                have LG := lFr_t hF (lFr_w G5)
                have eG := LG.2.2.1
                refine tw_aload rfl rfl ?_
                refine tw_iload rfl rfl ?_
                refine tw_push rfl ?_
                refine tw_push rfl ?_
                refine tw_virt3 rfl (g_tells hG G5.1 (d3.fr LG) d1 d2 (kd := 1) rfl (by decide) (t0 := 0) rfl (by rw [LG.2.2.1]; exact h133) (by rw [LG.2.2.1]; exact h134) (by rw [LG.2.2.1]; exact h135) (by rw [LG.2.2.1]; exact h136) (by rw [LG.2.2.1]; exact h138) (by rw [LG.2.2.1]; exact h139)) (fun w9 hp1645 p1645 => ?_)
                obtain ⟨FB1, ⟨rfl, hno1⟩ | ⟨i1, hi1, hit1, hfst1, xx1, rfl, hx1⟩⟩ := p1645
                · have LB1 := lFr_t LG (lFr_w FB1)
                  have hno1 : ∀ j, j < K (tvI (tF h 111 1)) → ¬ hit (tJ b5 143) (cs (tvI (tF h 111 1))) (cl (tvI (tF h 111 1)) j) 13 := fun j hj => by have z9 := hno1 j hj; rw [thc_k (by decide)] at z9; exact z9
                  refine tw_istore rfl ?_
                  refine tw_aload rfl rfl ?_
                  refine tw_iload rfl rfl ?_
                  refine tw_push rfl ?_
                  refine tw_push rfl ?_
                  refine tw_virt3 rfl (g_tells hG FB1.1 (d3.fr LB1) d1 d2 (kd := 2) rfl (by decide) (t0 := 0) rfl (by rw [LB1.2.2.1]; exact h133) (by rw [LB1.2.2.1]; exact h134) (by rw [LB1.2.2.1]; exact h135) (by rw [LB1.2.2.1]; exact h136) (by rw [LB1.2.2.1]; exact h138) (by rw [LB1.2.2.1]; exact h139)) (fun w9 hp1646 p1646 => ?_)
                  obtain ⟨FB2, ⟨rfl, hno2⟩ | ⟨i2, hi2, hit2, hfst2, xx2, rfl, hx2⟩⟩ := p1646
                  · have LB2 := lFr_t LB1 (lFr_w FB2)
                    have hno2 : ∀ j, j < K (tvI (tF h 111 1)) → ¬ hit (tJ b5 143) (cs (tvI (tF h 111 1))) (cl (tvI (tF h 111 1)) j) 14 := fun j hj => by have z9 := hno2 j hj; rw [thc_k (by decide), FB1.2.2.2.2.2 143 (by decide)] at z9; exact z9
                    refine tw_istore rfl ?_
                    refine tw_iload rfl rfl ?_
                    refine tw_push rfl ?_
                    refine tw_ic_ne rfl (fun z => absurd z (by decide)) (fun _ => ?_)
                    refine tw_push rfl ?_
                    refine tw_goto rfl ?_
                    refine tw_lstore rfl ?_
                    refine tw_lload rfl rfl ?_
                    refine tw_push rfl ?_
                    refine tw_lc_ge rfl rfl (fun _ => ?_) (fun z => absurd z (by decide))
                    refine tw_lload rfl rfl ?_
                    refine tw_lstore rfl ?_
                    refine tw_iload rfl rfl ?_
                    refine tw_push rfl ?_
                    refine tw_ic_ne rfl (fun z => absurd z (by decide)) (fun _ => ?_)
                    refine tw_lload rfl rfl ?_
                    rw [ea156] at a1
                    rw [G1.2.2.1, eA] at a2
                    rw [G2.2.2.1, eA] at a3
                    try dsimp only [tvI_i, tvJ_j, tvR_r] at hQ
                    have eW := mJs_g a5 (mJs_g a4 (mJs_g a3 (mJs_g a2 (mJs_g a1 rfl))))
                    have hJ : jS (tJ b5 143) (tvI (tF h 111 1)).toInt64 (tA h 121 (tA h 152 c.toNatClampNeg).toNatClampNeg).toInt64 (tA h 114 (tA h 121 (tA h 152 c.toNatClampNeg).toNatClampNeg).toNatClampNeg).toInt64 (tA h 122 (tA h 152 c.toNatClampNeg).toNatClampNeg).toInt64 (bN (mK9 h (tA h 121 (tA h 152 c.toNatClampNeg).toNatClampNeg) (tvI (tF h 111 1))) (tK9 h) (tvI (tF h 111 5)).toNatClampNeg (tvI (tF h 111 1)).toInt) (bN (mF9 h (tA h 121 (tA h 152 c.toNatClampNeg).toNatClampNeg)) (mT9 h) (tvI (tF h 111 59)).toNatClampNeg (tvI (tF h 111 1)).toInt) (bN (mD9 h (tA h 121 (tA h 152 c.toNatClampNeg).toNatClampNeg)) (mT9 h) (tvI (tF h 111 59)).toNatClampNeg (tvI (tF h 111 1)).toInt) (tA h 156 c.toNatClampNeg).toInt64 (tA h 155 c.toNatClampNeg).toInt64 (tA h 154 c.toNatClampNeg).toInt64 (kbW b) (lcV (lcM h (tA h 121 (tA h 152 c.toNatClampNeg).toNatClampNeg) (sPM (tA h 177) (tA h 176) ((tA h 152 c.toNatClampNeg)).toNatClampNeg ((tA h 153 c.toNatClampNeg)) (sPB (fun p => tA h 118 (12 * (tA h 121 ((tA h 152 c.toNatClampNeg)).toNatClampNeg).toNatClampNeg + p)) (tA h 122 ((tA h 152 c.toNatClampNeg)).toNatClampNeg) (tvI (tF h 111 4)).toNatClampNeg) (tvI (tF h 111 83)).toNatClampNeg) (tA h 154 c.toNatClampNeg) (tA h 155 c.toNatClampNeg))).toInt64 := by
                      rw [(show kbW b = _ from if_neg q1573), (show (lcV (lcM h (tA h 121 (tA h 152 c.toNatClampNeg).toNatClampNeg) (sPM (tA h 177) (tA h 176) ((tA h 152 c.toNatClampNeg)).toNatClampNeg ((tA h 153 c.toNatClampNeg)) (sPB (fun p => tA h 118 (12 * (tA h 121 ((tA h 152 c.toNatClampNeg)).toNatClampNeg).toNatClampNeg + p)) (tA h 122 ((tA h 152 c.toNatClampNeg)).toNatClampNeg) (tvI (tF h 111 4)).toNatClampNeg) (tvI (tF h 111 83)).toNatClampNeg) (tA h 154 c.toNatClampNeg) (tA h 155 c.toNatClampNeg))).toInt64 = _ from congrArg Int32.toInt64 (lcV_2 hy q1643).symm), eW]
                      exact jS_5 hQ
                    have k0 : (0 : Int64).toInt = 0 := by decide
                    exact tw_lret rfl (Or.inl ⟨⟨by omega, by omega⟩, Or.inr ⟨b, _, hkb, hJ, none, Or.inl ⟨rfl, hno1⟩, Or.inl ⟨rfl, rfl⟩⟩⟩)
                  · have LB2 := lFr_t LB1 (lFr_w FB2)
                    rw [thc_k (by decide)] at hit2
                    rw [FB1.2.2.2.2.2 143 (by decide)] at hit2
                    have hfst2 : ∀ j, j < i2 → ¬ hit (tJ b5 143) (cs (tvI (tF h 111 1))) (cl (tvI (tF h 111 1)) j) 14 := fun j hj => by have z9 := hfst2 j hj; rw [thc_k (by decide), FB1.2.2.2.2.2 143 (by decide)] at z9; exact z9
                    have x2n := zof_cl hx2
                    obtain ⟨s12, s22, s32, s42, p2, qq2, s52, s62⟩ := rOk_s (d3.ok i2 hi2) d3.nv (fun z => absurd (hit2.1.symm.trans z) (by decide))
                    have hK12 := d3.few
                    have c3 : ((cl (tvI (tF h 111 1)) i2).1, (cl (tvI (tF h 111 1)) i2).2.1, (cl (tvI (tF h 111 1)) i2).2.2.1, (cl (tvI (tF h 111 1)) i2).2.2.2) = (thc (tA h 135 (12 * q9 + i2)).toNatClampNeg (tA h 136 (12 * q9 + i2)).toNatClampNeg, (tA h 137 (12 * q9 + i2)).toNatClampNeg, (tA h 138 (12 * q9 + i2)).toNatClampNeg, (tA h 139 (12 * q9 + i2)).toNatClampNeg) := by rw [← d3.row i2 hi2]; rfl
                    have c52 := congrArg (fun z : rCt => z.2.1) c3
                    have c62 := congrArg (fun z : rCt => z.2.2.1) c3
                    dsimp only at c52 c62
                    have v12 : ∀ X, tA X = tA h → (tA X 137 xx2.toNatClampNeg).toInt = ((cl (tvI (tF h 111 1)) i2).2.1 : Int) := fun X eX => by rw [eX, x2n, c52]; exact (zclx (h137 (12 * q9 + i2) (by omega)).1).symm
                    have v22 : ∀ X, tA X = tA h → (tA X 138 xx2.toNatClampNeg).toInt = ((cl (tvI (tF h 111 1)) i2).2.2.1 : Int) := fun X eX => by rw [eX, x2n, c62]; exact (zclx (h138 (12 * q9 + i2) (by omega)).1).symm
                    refine tw_istore rfl ?_
                    refine tw_iload rfl rfl ?_
                    refine tw_push rfl ?_
                    refine tw_ic_ne rfl (fun z => absurd z (by decide)) (fun _ => ?_)
                    refine tw_push rfl ?_
                    refine tw_goto rfl ?_
                    refine tw_lstore rfl ?_
                    refine tw_lload rfl rfl ?_
                    refine tw_push rfl ?_
                    refine tw_lc_ge rfl rfl (fun _ => ?_) (fun z => absurd z (by decide))
                    refine tw_lload rfl rfl ?_
                    refine tw_lstore rfl ?_
                    refine tw_iload rfl rfl ?_
                    refine tw_push rfl ?_
                    refine tw_ic_ne rfl (fun q1647 => ?_) (fun q1647 => ?_)
                    · try dsimp only [tvI_i, tvJ_j, tvR_r] at q1647
                      have q1647i := zneq (Y := (-1)) (by decide) q1647
                      refine tw_aload rfl rfl ?_
                      refine tw_iload rfl rfl ?_
                      refine tw_aload rfl rfl ?_
                      refine tw_getS rfl (hs_111_40 FB2.1) ?_
                      refine tw_iload rfl rfl ?_
                      refine tw_iald rfl (fun f1648 => ?_)
                      refine tw_aload rfl rfl ?_
                      refine tw_getS rfl (hs_111_41 FB2.1) ?_
                      refine tw_iload rfl rfl ?_
                      refine tw_iald rfl (fun f1649 => ?_)
                      refine tw_virt3 rfl (g_answer hG FB2.1 d1 d2 (v12 _ LB2.2.2.1) (e := slc (cs (tvI (tF h 111 1))) (cl (tvI (tF h 111 1)) i2).2.1 (cl (tvI (tF h 111 1)) i2).2.2.1) (t := false) ((v22 _ LB2.2.2.1).trans (congrArg Nat.cast s12)) (by rw [← s12]; have := d3.big; omega) (by rw [LB2.2.2.1]; exact h133) (by rw [LB2.2.2.1]; exact h134) (by rw [LB2.2.2.1]; exact cdAt_h s52 s62 d3.cod) s32 s42) (fun wp1650 hp1650 p1650 => ?_)
                      obtain ⟨rfl, FC2⟩ := p1650
                      rw [FB2.2.2.2.2.2 143 (by decide), FB1.2.2.2.2.2 143 (by decide)]
                      have k0 : (0 : Int64).toInt = 0 := by decide
                      refine tw_lstore rfl ?_
                      refine tw_lload rfl rfl ?_
                      refine tw_push rfl ?_
                      refine tw_lc_ge rfl rfl (fun q1651 => ?_) (fun q1651 => ?_)
                      · try dsimp only [tvI_i, tvJ_j, tvR_r] at q1651
                        refine tw_lload rfl rfl ?_
                        refine tw_lstore rfl ?_
                        refine tw_lload rfl rfl ?_
                        refine tw_lload rfl rfl ?_
                        refine tw_lc_le rfl rfl (fun q1652 => ?_) (fun q1652 => ?_)
                        · try dsimp only [tvI_i, tvJ_j, tvR_r] at q1652
                          refine tw_lload rfl rfl ?_
                          rw [ea156] at a1
                          rw [G1.2.2.1, eA] at a2
                          rw [G2.2.2.1, eA] at a3
                          try dsimp only [tvI_i, tvJ_j, tvR_r] at hQ
                          have eW := mJs_g a5 (mJs_g a4 (mJs_g a3 (mJs_g a2 (mJs_g a1 rfl))))
                          have hJ : jS (tJ b5 143) (tvI (tF h 111 1)).toInt64 (tA h 121 (tA h 152 c.toNatClampNeg).toNatClampNeg).toInt64 (tA h 114 (tA h 121 (tA h 152 c.toNatClampNeg).toNatClampNeg).toNatClampNeg).toInt64 (tA h 122 (tA h 152 c.toNatClampNeg).toNatClampNeg).toInt64 (bN (mK9 h (tA h 121 (tA h 152 c.toNatClampNeg).toNatClampNeg) (tvI (tF h 111 1))) (tK9 h) (tvI (tF h 111 5)).toNatClampNeg (tvI (tF h 111 1)).toInt) (bN (mF9 h (tA h 121 (tA h 152 c.toNatClampNeg).toNatClampNeg)) (mT9 h) (tvI (tF h 111 59)).toNatClampNeg (tvI (tF h 111 1)).toInt) (bN (mD9 h (tA h 121 (tA h 152 c.toNatClampNeg).toNatClampNeg)) (mT9 h) (tvI (tF h 111 59)).toNatClampNeg (tvI (tF h 111 1)).toInt) (tA h 156 c.toNatClampNeg).toInt64 (tA h 155 c.toNatClampNeg).toInt64 (tA h 154 c.toNatClampNeg).toInt64 (kbW b) (lcV (lcM h (tA h 121 (tA h 152 c.toNatClampNeg).toNatClampNeg) (sPM (tA h 177) (tA h 176) ((tA h 152 c.toNatClampNeg)).toNatClampNeg ((tA h 153 c.toNatClampNeg)) (sPB (fun p => tA h 118 (12 * (tA h 121 ((tA h 152 c.toNatClampNeg)).toNatClampNeg).toNatClampNeg + p)) (tA h 122 ((tA h 152 c.toNatClampNeg)).toNatClampNeg) (tvI (tF h 111 4)).toNatClampNeg) (tvI (tF h 111 83)).toNatClampNeg) (tA h 154 c.toNatClampNeg) (tA h 155 c.toNatClampNeg))).toInt64 := by
                            rw [(show kbW b = _ from if_neg q1573), (show (lcV (lcM h (tA h 121 (tA h 152 c.toNatClampNeg).toNatClampNeg) (sPM (tA h 177) (tA h 176) ((tA h 152 c.toNatClampNeg)).toNatClampNeg ((tA h 153 c.toNatClampNeg)) (sPB (fun p => tA h 118 (12 * (tA h 121 ((tA h 152 c.toNatClampNeg)).toNatClampNeg).toNatClampNeg + p)) (tA h 122 ((tA h 152 c.toNatClampNeg)).toNatClampNeg) (tvI (tF h 111 4)).toNatClampNeg) (tvI (tF h 111 83)).toNatClampNeg) (tA h 154 c.toNatClampNeg) (tA h 155 c.toNatClampNeg))).toInt64 = _ from congrArg Int32.toInt64 (lcV_2 hy q1643).symm), eW]
                            exact jS_5 hQ
                          have k0 : (0 : Int64).toInt = 0 := by decide
                          exact tw_lret rfl (Or.inl ⟨⟨by omega, by omega⟩, Or.inr ⟨b, _, hkb, hJ, none, Or.inl ⟨rfl, hno1⟩, Or.inl ⟨rfl, rfl⟩⟩⟩)
                        · try dsimp only [tvI_i, tvJ_j, tvR_r] at q1652
                          refine tw_lload rfl rfl ?_
                          refine tw_goto rfl ?_
                          rw [ea156] at a1
                          rw [G1.2.2.1, eA] at a2
                          rw [G2.2.2.1, eA] at a3
                          try dsimp only [tvI_i, tvJ_j, tvR_r] at hQ
                          have eW := mJs_g a5 (mJs_g a4 (mJs_g a3 (mJs_g a2 (mJs_g a1 rfl))))
                          have hJ : jS (tJ b5 143) (tvI (tF h 111 1)).toInt64 (tA h 121 (tA h 152 c.toNatClampNeg).toNatClampNeg).toInt64 (tA h 114 (tA h 121 (tA h 152 c.toNatClampNeg).toNatClampNeg).toNatClampNeg).toInt64 (tA h 122 (tA h 152 c.toNatClampNeg).toNatClampNeg).toInt64 (bN (mK9 h (tA h 121 (tA h 152 c.toNatClampNeg).toNatClampNeg) (tvI (tF h 111 1))) (tK9 h) (tvI (tF h 111 5)).toNatClampNeg (tvI (tF h 111 1)).toInt) (bN (mF9 h (tA h 121 (tA h 152 c.toNatClampNeg).toNatClampNeg)) (mT9 h) (tvI (tF h 111 59)).toNatClampNeg (tvI (tF h 111 1)).toInt) (bN (mD9 h (tA h 121 (tA h 152 c.toNatClampNeg).toNatClampNeg)) (mT9 h) (tvI (tF h 111 59)).toNatClampNeg (tvI (tF h 111 1)).toInt) (tA h 156 c.toNatClampNeg).toInt64 (tA h 155 c.toNatClampNeg).toInt64 (tA h 154 c.toNatClampNeg).toInt64 (kbW b) (lcV (lcM h (tA h 121 (tA h 152 c.toNatClampNeg).toNatClampNeg) (sPM (tA h 177) (tA h 176) ((tA h 152 c.toNatClampNeg)).toNatClampNeg ((tA h 153 c.toNatClampNeg)) (sPB (fun p => tA h 118 (12 * (tA h 121 ((tA h 152 c.toNatClampNeg)).toNatClampNeg).toNatClampNeg + p)) (tA h 122 ((tA h 152 c.toNatClampNeg)).toNatClampNeg) (tvI (tF h 111 4)).toNatClampNeg) (tvI (tF h 111 83)).toNatClampNeg) (tA h 154 c.toNatClampNeg) (tA h 155 c.toNatClampNeg))).toInt64 := by
                            rw [(show kbW b = _ from if_neg q1573), (show (lcV (lcM h (tA h 121 (tA h 152 c.toNatClampNeg).toNatClampNeg) (sPM (tA h 177) (tA h 176) ((tA h 152 c.toNatClampNeg)).toNatClampNeg ((tA h 153 c.toNatClampNeg)) (sPB (fun p => tA h 118 (12 * (tA h 121 ((tA h 152 c.toNatClampNeg)).toNatClampNeg).toNatClampNeg + p)) (tA h 122 ((tA h 152 c.toNatClampNeg)).toNatClampNeg) (tvI (tF h 111 4)).toNatClampNeg) (tvI (tF h 111 83)).toNatClampNeg) (tA h 154 c.toNatClampNeg) (tA h 155 c.toNatClampNeg))).toInt64 = _ from congrArg Int32.toInt64 (lcV_2 hy q1643).symm), eW]
                            exact jS_5 hQ
                          have k0 : (0 : Int64).toInt = 0 := by decide
                          exact tw_lret rfl (Or.inl ⟨⟨by omega, by omega⟩, Or.inr ⟨b, _, hkb, hJ, none, Or.inl ⟨rfl, hno1⟩, Or.inl ⟨rfl, congrArg (fun z => some (Value.long z)) (Int64.toInt_inj.mp (by (try dsimp only [tvI_i, tvJ_j, tvR_r]); omega))⟩⟩⟩)
                      · try dsimp only [tvI_i, tvJ_j, tvR_r] at q1651
                        refine tw_push rfl ?_
                        refine tw_goto rfl ?_
                        refine tw_lstore rfl ?_
                        refine tw_lload rfl rfl ?_
                        refine tw_lload rfl rfl ?_
                        refine tw_lc_le rfl rfl (fun _ => ?_) (fun z => absurd z (by decide))
                        refine tw_lload rfl rfl ?_
                        rw [ea156] at a1
                        rw [G1.2.2.1, eA] at a2
                        rw [G2.2.2.1, eA] at a3
                        try dsimp only [tvI_i, tvJ_j, tvR_r] at hQ
                        have eW := mJs_g a5 (mJs_g a4 (mJs_g a3 (mJs_g a2 (mJs_g a1 rfl))))
                        have hJ : jS (tJ b5 143) (tvI (tF h 111 1)).toInt64 (tA h 121 (tA h 152 c.toNatClampNeg).toNatClampNeg).toInt64 (tA h 114 (tA h 121 (tA h 152 c.toNatClampNeg).toNatClampNeg).toNatClampNeg).toInt64 (tA h 122 (tA h 152 c.toNatClampNeg).toNatClampNeg).toInt64 (bN (mK9 h (tA h 121 (tA h 152 c.toNatClampNeg).toNatClampNeg) (tvI (tF h 111 1))) (tK9 h) (tvI (tF h 111 5)).toNatClampNeg (tvI (tF h 111 1)).toInt) (bN (mF9 h (tA h 121 (tA h 152 c.toNatClampNeg).toNatClampNeg)) (mT9 h) (tvI (tF h 111 59)).toNatClampNeg (tvI (tF h 111 1)).toInt) (bN (mD9 h (tA h 121 (tA h 152 c.toNatClampNeg).toNatClampNeg)) (mT9 h) (tvI (tF h 111 59)).toNatClampNeg (tvI (tF h 111 1)).toInt) (tA h 156 c.toNatClampNeg).toInt64 (tA h 155 c.toNatClampNeg).toInt64 (tA h 154 c.toNatClampNeg).toInt64 (kbW b) (lcV (lcM h (tA h 121 (tA h 152 c.toNatClampNeg).toNatClampNeg) (sPM (tA h 177) (tA h 176) ((tA h 152 c.toNatClampNeg)).toNatClampNeg ((tA h 153 c.toNatClampNeg)) (sPB (fun p => tA h 118 (12 * (tA h 121 ((tA h 152 c.toNatClampNeg)).toNatClampNeg).toNatClampNeg + p)) (tA h 122 ((tA h 152 c.toNatClampNeg)).toNatClampNeg) (tvI (tF h 111 4)).toNatClampNeg) (tvI (tF h 111 83)).toNatClampNeg) (tA h 154 c.toNatClampNeg) (tA h 155 c.toNatClampNeg))).toInt64 := by
                          rw [(show kbW b = _ from if_neg q1573), (show (lcV (lcM h (tA h 121 (tA h 152 c.toNatClampNeg).toNatClampNeg) (sPM (tA h 177) (tA h 176) ((tA h 152 c.toNatClampNeg)).toNatClampNeg ((tA h 153 c.toNatClampNeg)) (sPB (fun p => tA h 118 (12 * (tA h 121 ((tA h 152 c.toNatClampNeg)).toNatClampNeg).toNatClampNeg + p)) (tA h 122 ((tA h 152 c.toNatClampNeg)).toNatClampNeg) (tvI (tF h 111 4)).toNatClampNeg) (tvI (tF h 111 83)).toNatClampNeg) (tA h 154 c.toNatClampNeg) (tA h 155 c.toNatClampNeg))).toInt64 = _ from congrArg Int32.toInt64 (lcV_2 hy q1643).symm), eW]
                          exact jS_5 hQ
                        have k0 : (0 : Int64).toInt = 0 := by decide
                        exact tw_lret rfl (Or.inl ⟨⟨by omega, by omega⟩, Or.inr ⟨b, _, hkb, hJ, none, Or.inl ⟨rfl, hno1⟩, Or.inl ⟨rfl, rfl⟩⟩⟩)
                    · try dsimp only [tvI_i, tvJ_j, tvR_r] at q1647
                      have q1647i := zeqi (Y := (-1)) (by decide) q1647
                      exfalso
                      have k9 : (-1 : Int32).toInt = -1 := rfl
                      omega
                · have LB1 := lFr_t LG (lFr_w FB1)
                  rw [thc_k (by decide)] at hit1
                  have hfst1 : ∀ j, j < i1 → ¬ hit (tJ b5 143) (cs (tvI (tF h 111 1))) (cl (tvI (tF h 111 1)) j) 13 := fun j hj => by have z9 := hfst1 j hj; rw [thc_k (by decide)] at z9; exact z9
                  have x1n := zof_cl hx1
                  obtain ⟨s11, s21, s31, s41, p1, qq1, s51, s61⟩ := rOk_s (d3.ok i1 hi1) d3.nv (fun z => absurd (hit1.1.symm.trans z) (by decide))
                  have hK12 := d3.few
                  have c3 : ((cl (tvI (tF h 111 1)) i1).1, (cl (tvI (tF h 111 1)) i1).2.1, (cl (tvI (tF h 111 1)) i1).2.2.1, (cl (tvI (tF h 111 1)) i1).2.2.2) = (thc (tA h 135 (12 * q9 + i1)).toNatClampNeg (tA h 136 (12 * q9 + i1)).toNatClampNeg, (tA h 137 (12 * q9 + i1)).toNatClampNeg, (tA h 138 (12 * q9 + i1)).toNatClampNeg, (tA h 139 (12 * q9 + i1)).toNatClampNeg) := by rw [← d3.row i1 hi1]; rfl
                  have c51 := congrArg (fun z : rCt => z.2.1) c3
                  have c61 := congrArg (fun z : rCt => z.2.2.1) c3
                  dsimp only at c51 c61
                  have v11 : ∀ X, tA X = tA h → (tA X 137 xx1.toNatClampNeg).toInt = ((cl (tvI (tF h 111 1)) i1).2.1 : Int) := fun X eX => by rw [eX, x1n, c51]; exact (zclx (h137 (12 * q9 + i1) (by omega)).1).symm
                  have v21 : ∀ X, tA X = tA h → (tA X 138 xx1.toNatClampNeg).toInt = ((cl (tvI (tF h 111 1)) i1).2.2.1 : Int) := fun X eX => by rw [eX, x1n, c61]; exact (zclx (h138 (12 * q9 + i1) (by omega)).1).symm
                  refine tw_istore rfl ?_
                  refine tw_aload rfl rfl ?_
                  refine tw_iload rfl rfl ?_
                  refine tw_push rfl ?_
                  refine tw_push rfl ?_
                  refine tw_virt3 rfl (g_tells hG FB1.1 (d3.fr LB1) d1 d2 (kd := 2) rfl (by decide) (t0 := 0) rfl (by rw [LB1.2.2.1]; exact h133) (by rw [LB1.2.2.1]; exact h134) (by rw [LB1.2.2.1]; exact h135) (by rw [LB1.2.2.1]; exact h136) (by rw [LB1.2.2.1]; exact h138) (by rw [LB1.2.2.1]; exact h139)) (fun w9 hp1653 p1653 => ?_)
                  obtain ⟨FB2, ⟨rfl, hno2⟩ | ⟨i2, hi2, hit2, hfst2, xx2, rfl, hx2⟩⟩ := p1653
                  · have LB2 := lFr_t LB1 (lFr_w FB2)
                    have hno2 : ∀ j, j < K (tvI (tF h 111 1)) → ¬ hit (tJ b5 143) (cs (tvI (tF h 111 1))) (cl (tvI (tF h 111 1)) j) 14 := fun j hj => by have z9 := hno2 j hj; rw [thc_k (by decide), FB1.2.2.2.2.2 143 (by decide)] at z9; exact z9
                    refine tw_istore rfl ?_
                    refine tw_iload rfl rfl ?_
                    refine tw_push rfl ?_
                    refine tw_ic_ne rfl (fun q1654 => ?_) (fun q1654 => ?_)
                    · try dsimp only [tvI_i, tvJ_j, tvR_r] at q1654
                      have q1654i := zneq (Y := (-1)) (by decide) q1654
                      refine tw_aload rfl rfl ?_
                      refine tw_iload rfl rfl ?_
                      refine tw_aload rfl rfl ?_
                      refine tw_getS rfl (hs_111_40 FB2.1) ?_
                      refine tw_iload rfl rfl ?_
                      refine tw_iald rfl (fun f1655 => ?_)
                      refine tw_aload rfl rfl ?_
                      refine tw_getS rfl (hs_111_41 FB2.1) ?_
                      refine tw_iload rfl rfl ?_
                      refine tw_iald rfl (fun f1656 => ?_)
                      refine tw_virt3 rfl (g_answer hG FB2.1 d1 d2 (v11 _ LB2.2.2.1) (e := slc (cs (tvI (tF h 111 1))) (cl (tvI (tF h 111 1)) i1).2.1 (cl (tvI (tF h 111 1)) i1).2.2.1) (t := false) ((v21 _ LB2.2.2.1).trans (congrArg Nat.cast s11)) (by rw [← s11]; have := d3.big; omega) (by rw [LB2.2.2.1]; exact h133) (by rw [LB2.2.2.1]; exact h134) (by rw [LB2.2.2.1]; exact cdAt_h s51 s61 d3.cod) s31 s41) (fun wp1657 hp1657 p1657 => ?_)
                      obtain ⟨rfl, FC1⟩ := p1657
                      rw [FB2.2.2.2.2.2 143 (by decide), FB1.2.2.2.2.2 143 (by decide)]
                      have LC1 := lFr_t LB2 (lFr_w FC1)
                      have k0 : (0 : Int64).toInt = 0 := by decide
                      refine tw_lstore rfl ?_
                      refine tw_lload rfl rfl ?_
                      refine tw_push rfl ?_
                      refine tw_lc_ge rfl rfl (fun q1658 => ?_) (fun q1658 => ?_)
                      · try dsimp only [tvI_i, tvJ_j, tvR_r] at q1658
                        refine tw_lload rfl rfl ?_
                        refine tw_lstore rfl ?_
                        refine tw_iload rfl rfl ?_
                        refine tw_push rfl ?_
                        refine tw_ic_ne rfl (fun z => absurd z (by decide)) (fun _ => ?_)
                        refine tw_lload rfl rfl ?_
                        rw [ea156] at a1
                        rw [G1.2.2.1, eA] at a2
                        rw [G2.2.2.1, eA] at a3
                        try dsimp only [tvI_i, tvJ_j, tvR_r] at hQ
                        have eW := mJs_g a5 (mJs_g a4 (mJs_g a3 (mJs_g a2 (mJs_g a1 rfl))))
                        have hJ : jS (tJ b5 143) (tvI (tF h 111 1)).toInt64 (tA h 121 (tA h 152 c.toNatClampNeg).toNatClampNeg).toInt64 (tA h 114 (tA h 121 (tA h 152 c.toNatClampNeg).toNatClampNeg).toNatClampNeg).toInt64 (tA h 122 (tA h 152 c.toNatClampNeg).toNatClampNeg).toInt64 (bN (mK9 h (tA h 121 (tA h 152 c.toNatClampNeg).toNatClampNeg) (tvI (tF h 111 1))) (tK9 h) (tvI (tF h 111 5)).toNatClampNeg (tvI (tF h 111 1)).toInt) (bN (mF9 h (tA h 121 (tA h 152 c.toNatClampNeg).toNatClampNeg)) (mT9 h) (tvI (tF h 111 59)).toNatClampNeg (tvI (tF h 111 1)).toInt) (bN (mD9 h (tA h 121 (tA h 152 c.toNatClampNeg).toNatClampNeg)) (mT9 h) (tvI (tF h 111 59)).toNatClampNeg (tvI (tF h 111 1)).toInt) (tA h 156 c.toNatClampNeg).toInt64 (tA h 155 c.toNatClampNeg).toInt64 (tA h 154 c.toNatClampNeg).toInt64 (kbW b) (lcV (lcM h (tA h 121 (tA h 152 c.toNatClampNeg).toNatClampNeg) (sPM (tA h 177) (tA h 176) ((tA h 152 c.toNatClampNeg)).toNatClampNeg ((tA h 153 c.toNatClampNeg)) (sPB (fun p => tA h 118 (12 * (tA h 121 ((tA h 152 c.toNatClampNeg)).toNatClampNeg).toNatClampNeg + p)) (tA h 122 ((tA h 152 c.toNatClampNeg)).toNatClampNeg) (tvI (tF h 111 4)).toNatClampNeg) (tvI (tF h 111 83)).toNatClampNeg) (tA h 154 c.toNatClampNeg) (tA h 155 c.toNatClampNeg))).toInt64 := by
                          rw [(show kbW b = _ from if_neg q1573), (show (lcV (lcM h (tA h 121 (tA h 152 c.toNatClampNeg).toNatClampNeg) (sPM (tA h 177) (tA h 176) ((tA h 152 c.toNatClampNeg)).toNatClampNeg ((tA h 153 c.toNatClampNeg)) (sPB (fun p => tA h 118 (12 * (tA h 121 ((tA h 152 c.toNatClampNeg)).toNatClampNeg).toNatClampNeg + p)) (tA h 122 ((tA h 152 c.toNatClampNeg)).toNatClampNeg) (tvI (tF h 111 4)).toNatClampNeg) (tvI (tF h 111 83)).toNatClampNeg) (tA h 154 c.toNatClampNeg) (tA h 155 c.toNatClampNeg))).toInt64 = _ from congrArg Int32.toInt64 (lcV_2 hy q1643).symm), eW]
                          exact jS_5 hQ
                        exact tw_lret rfl (Or.inl ⟨⟨by omega, by omega⟩, Or.inr ⟨b, _, hkb, hJ, some _, Or.inr ⟨i1, hi1, hit1, hfst1, rfl⟩, Or.inr ⟨_, none, rfl, Or.inl ⟨rfl, hno2⟩, congrArg (fun z => some (Value.long z)) (Int64.toInt_inj.mp (by (try dsimp only [tvI_i, tvJ_j, tvR_r]); rw [jV_n]; omega))⟩⟩⟩)
                      · try dsimp only [tvI_i, tvJ_j, tvR_r] at q1658
                        refine tw_push rfl ?_
                        refine tw_goto rfl ?_
                        refine tw_lstore rfl ?_
                        refine tw_iload rfl rfl ?_
                        refine tw_push rfl ?_
                        refine tw_ic_ne rfl (fun z => absurd z (by decide)) (fun _ => ?_)
                        refine tw_lload rfl rfl ?_
                        rw [ea156] at a1
                        rw [G1.2.2.1, eA] at a2
                        rw [G2.2.2.1, eA] at a3
                        try dsimp only [tvI_i, tvJ_j, tvR_r] at hQ
                        have eW := mJs_g a5 (mJs_g a4 (mJs_g a3 (mJs_g a2 (mJs_g a1 rfl))))
                        have hJ : jS (tJ b5 143) (tvI (tF h 111 1)).toInt64 (tA h 121 (tA h 152 c.toNatClampNeg).toNatClampNeg).toInt64 (tA h 114 (tA h 121 (tA h 152 c.toNatClampNeg).toNatClampNeg).toNatClampNeg).toInt64 (tA h 122 (tA h 152 c.toNatClampNeg).toNatClampNeg).toInt64 (bN (mK9 h (tA h 121 (tA h 152 c.toNatClampNeg).toNatClampNeg) (tvI (tF h 111 1))) (tK9 h) (tvI (tF h 111 5)).toNatClampNeg (tvI (tF h 111 1)).toInt) (bN (mF9 h (tA h 121 (tA h 152 c.toNatClampNeg).toNatClampNeg)) (mT9 h) (tvI (tF h 111 59)).toNatClampNeg (tvI (tF h 111 1)).toInt) (bN (mD9 h (tA h 121 (tA h 152 c.toNatClampNeg).toNatClampNeg)) (mT9 h) (tvI (tF h 111 59)).toNatClampNeg (tvI (tF h 111 1)).toInt) (tA h 156 c.toNatClampNeg).toInt64 (tA h 155 c.toNatClampNeg).toInt64 (tA h 154 c.toNatClampNeg).toInt64 (kbW b) (lcV (lcM h (tA h 121 (tA h 152 c.toNatClampNeg).toNatClampNeg) (sPM (tA h 177) (tA h 176) ((tA h 152 c.toNatClampNeg)).toNatClampNeg ((tA h 153 c.toNatClampNeg)) (sPB (fun p => tA h 118 (12 * (tA h 121 ((tA h 152 c.toNatClampNeg)).toNatClampNeg).toNatClampNeg + p)) (tA h 122 ((tA h 152 c.toNatClampNeg)).toNatClampNeg) (tvI (tF h 111 4)).toNatClampNeg) (tvI (tF h 111 83)).toNatClampNeg) (tA h 154 c.toNatClampNeg) (tA h 155 c.toNatClampNeg))).toInt64 := by
                          rw [(show kbW b = _ from if_neg q1573), (show (lcV (lcM h (tA h 121 (tA h 152 c.toNatClampNeg).toNatClampNeg) (sPM (tA h 177) (tA h 176) ((tA h 152 c.toNatClampNeg)).toNatClampNeg ((tA h 153 c.toNatClampNeg)) (sPB (fun p => tA h 118 (12 * (tA h 121 ((tA h 152 c.toNatClampNeg)).toNatClampNeg).toNatClampNeg + p)) (tA h 122 ((tA h 152 c.toNatClampNeg)).toNatClampNeg) (tvI (tF h 111 4)).toNatClampNeg) (tvI (tF h 111 83)).toNatClampNeg) (tA h 154 c.toNatClampNeg) (tA h 155 c.toNatClampNeg))).toInt64 = _ from congrArg Int32.toInt64 (lcV_2 hy q1643).symm), eW]
                          exact jS_5 hQ
                        exact tw_lret rfl (Or.inl ⟨⟨by omega, by omega⟩, Or.inr ⟨b, _, hkb, hJ, some _, Or.inr ⟨i1, hi1, hit1, hfst1, rfl⟩, Or.inr ⟨_, none, rfl, Or.inl ⟨rfl, hno2⟩, congrArg (fun z => some (Value.long z)) (Int64.toInt_inj.mp (by (try dsimp only [tvI_i, tvJ_j, tvR_r]); rw [jV_n]; omega))⟩⟩⟩)
                    · try dsimp only [tvI_i, tvJ_j, tvR_r] at q1654
                      have q1654i := zeqi (Y := (-1)) (by decide) q1654
                      exfalso
                      have k9 : (-1 : Int32).toInt = -1 := rfl
                      omega
                  · have LB2 := lFr_t LB1 (lFr_w FB2)
                    rw [thc_k (by decide)] at hit2
                    rw [FB1.2.2.2.2.2 143 (by decide)] at hit2
                    have hfst2 : ∀ j, j < i2 → ¬ hit (tJ b5 143) (cs (tvI (tF h 111 1))) (cl (tvI (tF h 111 1)) j) 14 := fun j hj => by have z9 := hfst2 j hj; rw [thc_k (by decide), FB1.2.2.2.2.2 143 (by decide)] at z9; exact z9
                    have x2n := zof_cl hx2
                    obtain ⟨s12, s22, s32, s42, p2, qq2, s52, s62⟩ := rOk_s (d3.ok i2 hi2) d3.nv (fun z => absurd (hit2.1.symm.trans z) (by decide))
                    have hK12 := d3.few
                    have c3 : ((cl (tvI (tF h 111 1)) i2).1, (cl (tvI (tF h 111 1)) i2).2.1, (cl (tvI (tF h 111 1)) i2).2.2.1, (cl (tvI (tF h 111 1)) i2).2.2.2) = (thc (tA h 135 (12 * q9 + i2)).toNatClampNeg (tA h 136 (12 * q9 + i2)).toNatClampNeg, (tA h 137 (12 * q9 + i2)).toNatClampNeg, (tA h 138 (12 * q9 + i2)).toNatClampNeg, (tA h 139 (12 * q9 + i2)).toNatClampNeg) := by rw [← d3.row i2 hi2]; rfl
                    have c52 := congrArg (fun z : rCt => z.2.1) c3
                    have c62 := congrArg (fun z : rCt => z.2.2.1) c3
                    dsimp only at c52 c62
                    have v12 : ∀ X, tA X = tA h → (tA X 137 xx2.toNatClampNeg).toInt = ((cl (tvI (tF h 111 1)) i2).2.1 : Int) := fun X eX => by rw [eX, x2n, c52]; exact (zclx (h137 (12 * q9 + i2) (by omega)).1).symm
                    have v22 : ∀ X, tA X = tA h → (tA X 138 xx2.toNatClampNeg).toInt = ((cl (tvI (tF h 111 1)) i2).2.2.1 : Int) := fun X eX => by rw [eX, x2n, c62]; exact (zclx (h138 (12 * q9 + i2) (by omega)).1).symm
                    refine tw_istore rfl ?_
                    refine tw_iload rfl rfl ?_
                    refine tw_push rfl ?_
                    refine tw_ic_ne rfl (fun q1659 => ?_) (fun q1659 => ?_)
                    · try dsimp only [tvI_i, tvJ_j, tvR_r] at q1659
                      have q1659i := zneq (Y := (-1)) (by decide) q1659
                      refine tw_aload rfl rfl ?_
                      refine tw_iload rfl rfl ?_
                      refine tw_aload rfl rfl ?_
                      refine tw_getS rfl (hs_111_40 FB2.1) ?_
                      refine tw_iload rfl rfl ?_
                      refine tw_iald rfl (fun f1660 => ?_)
                      refine tw_aload rfl rfl ?_
                      refine tw_getS rfl (hs_111_41 FB2.1) ?_
                      refine tw_iload rfl rfl ?_
                      refine tw_iald rfl (fun f1661 => ?_)
                      refine tw_virt3 rfl (g_answer hG FB2.1 d1 d2 (v11 _ LB2.2.2.1) (e := slc (cs (tvI (tF h 111 1))) (cl (tvI (tF h 111 1)) i1).2.1 (cl (tvI (tF h 111 1)) i1).2.2.1) (t := false) ((v21 _ LB2.2.2.1).trans (congrArg Nat.cast s11)) (by rw [← s11]; have := d3.big; omega) (by rw [LB2.2.2.1]; exact h133) (by rw [LB2.2.2.1]; exact h134) (by rw [LB2.2.2.1]; exact cdAt_h s51 s61 d3.cod) s31 s41) (fun wp1662 hp1662 p1662 => ?_)
                      obtain ⟨rfl, FC1⟩ := p1662
                      rw [FB2.2.2.2.2.2 143 (by decide), FB1.2.2.2.2.2 143 (by decide)]
                      have LC1 := lFr_t LB2 (lFr_w FC1)
                      have k0 : (0 : Int64).toInt = 0 := by decide
                      refine tw_lstore rfl ?_
                      refine tw_lload rfl rfl ?_
                      refine tw_push rfl ?_
                      refine tw_lc_ge rfl rfl (fun q1663 => ?_) (fun q1663 => ?_)
                      · try dsimp only [tvI_i, tvJ_j, tvR_r] at q1663
                        refine tw_lload rfl rfl ?_
                        refine tw_lstore rfl ?_
                        refine tw_iload rfl rfl ?_
                        refine tw_push rfl ?_
                        refine tw_ic_ne rfl (fun q1664 => ?_) (fun q1664 => ?_)
                        · try dsimp only [tvI_i, tvJ_j, tvR_r] at q1664
                          have q1664i := zneq (Y := (-1)) (by decide) q1664
                          refine tw_aload rfl rfl ?_
                          refine tw_iload rfl rfl ?_
                          refine tw_aload rfl rfl ?_
                          refine tw_getS rfl (hs_111_40 FC1.1) ?_
                          refine tw_iload rfl rfl ?_
                          refine tw_iald rfl (fun f1665 => ?_)
                          refine tw_aload rfl rfl ?_
                          refine tw_getS rfl (hs_111_41 FC1.1) ?_
                          refine tw_iload rfl rfl ?_
                          refine tw_iald rfl (fun f1666 => ?_)
                          refine tw_virt3 rfl (g_answer hG FC1.1 d1 d2 (v12 _ LC1.2.2.1) (e := slc (cs (tvI (tF h 111 1))) (cl (tvI (tF h 111 1)) i2).2.1 (cl (tvI (tF h 111 1)) i2).2.2.1) (t := false) ((v22 _ LC1.2.2.1).trans (congrArg Nat.cast s12)) (by rw [← s12]; have := d3.big; omega) (by rw [LC1.2.2.1]; exact h133) (by rw [LC1.2.2.1]; exact h134) (by rw [LC1.2.2.1]; exact cdAt_h s52 s62 d3.cod) s32 s42) (fun wp1667 hp1667 p1667 => ?_)
                          obtain ⟨rfl, FC2⟩ := p1667
                          rw [FC1.2.2.2.2.2 143 (by decide), FB2.2.2.2.2.2 143 (by decide), FB1.2.2.2.2.2 143 (by decide)]
                          have k0 : (0 : Int64).toInt = 0 := by decide
                          refine tw_lstore rfl ?_
                          refine tw_lload rfl rfl ?_
                          refine tw_push rfl ?_
                          refine tw_lc_ge rfl rfl (fun q1668 => ?_) (fun q1668 => ?_)
                          · try dsimp only [tvI_i, tvJ_j, tvR_r] at q1668
                            refine tw_lload rfl rfl ?_
                            refine tw_lstore rfl ?_
                            refine tw_lload rfl rfl ?_
                            refine tw_lload rfl rfl ?_
                            refine tw_lc_le rfl rfl (fun q1669 => ?_) (fun q1669 => ?_)
                            · try dsimp only [tvI_i, tvJ_j, tvR_r] at q1669
                              refine tw_lload rfl rfl ?_
                              rw [ea156] at a1
                              rw [G1.2.2.1, eA] at a2
                              rw [G2.2.2.1, eA] at a3
                              try dsimp only [tvI_i, tvJ_j, tvR_r] at hQ
                              have eW := mJs_g a5 (mJs_g a4 (mJs_g a3 (mJs_g a2 (mJs_g a1 rfl))))
                              have hJ : jS (tJ b5 143) (tvI (tF h 111 1)).toInt64 (tA h 121 (tA h 152 c.toNatClampNeg).toNatClampNeg).toInt64 (tA h 114 (tA h 121 (tA h 152 c.toNatClampNeg).toNatClampNeg).toNatClampNeg).toInt64 (tA h 122 (tA h 152 c.toNatClampNeg).toNatClampNeg).toInt64 (bN (mK9 h (tA h 121 (tA h 152 c.toNatClampNeg).toNatClampNeg) (tvI (tF h 111 1))) (tK9 h) (tvI (tF h 111 5)).toNatClampNeg (tvI (tF h 111 1)).toInt) (bN (mF9 h (tA h 121 (tA h 152 c.toNatClampNeg).toNatClampNeg)) (mT9 h) (tvI (tF h 111 59)).toNatClampNeg (tvI (tF h 111 1)).toInt) (bN (mD9 h (tA h 121 (tA h 152 c.toNatClampNeg).toNatClampNeg)) (mT9 h) (tvI (tF h 111 59)).toNatClampNeg (tvI (tF h 111 1)).toInt) (tA h 156 c.toNatClampNeg).toInt64 (tA h 155 c.toNatClampNeg).toInt64 (tA h 154 c.toNatClampNeg).toInt64 (kbW b) (lcV (lcM h (tA h 121 (tA h 152 c.toNatClampNeg).toNatClampNeg) (sPM (tA h 177) (tA h 176) ((tA h 152 c.toNatClampNeg)).toNatClampNeg ((tA h 153 c.toNatClampNeg)) (sPB (fun p => tA h 118 (12 * (tA h 121 ((tA h 152 c.toNatClampNeg)).toNatClampNeg).toNatClampNeg + p)) (tA h 122 ((tA h 152 c.toNatClampNeg)).toNatClampNeg) (tvI (tF h 111 4)).toNatClampNeg) (tvI (tF h 111 83)).toNatClampNeg) (tA h 154 c.toNatClampNeg) (tA h 155 c.toNatClampNeg))).toInt64 := by
                                rw [(show kbW b = _ from if_neg q1573), (show (lcV (lcM h (tA h 121 (tA h 152 c.toNatClampNeg).toNatClampNeg) (sPM (tA h 177) (tA h 176) ((tA h 152 c.toNatClampNeg)).toNatClampNeg ((tA h 153 c.toNatClampNeg)) (sPB (fun p => tA h 118 (12 * (tA h 121 ((tA h 152 c.toNatClampNeg)).toNatClampNeg).toNatClampNeg + p)) (tA h 122 ((tA h 152 c.toNatClampNeg)).toNatClampNeg) (tvI (tF h 111 4)).toNatClampNeg) (tvI (tF h 111 83)).toNatClampNeg) (tA h 154 c.toNatClampNeg) (tA h 155 c.toNatClampNeg))).toInt64 = _ from congrArg Int32.toInt64 (lcV_2 hy q1643).symm), eW]
                                exact jS_5 hQ
                              exact tw_lret rfl (Or.inl ⟨⟨by omega, by omega⟩, Or.inr ⟨b, _, hkb, hJ, some _, Or.inr ⟨i1, hi1, hit1, hfst1, rfl⟩, Or.inr ⟨_, some _, rfl, Or.inr ⟨i2, hi2, hit2, hfst2, rfl⟩, congrArg (fun z => some (Value.long z)) (Int64.toInt_inj.mp (by (try dsimp only [tvI_i, tvJ_j, tvR_r]); rw [jV_i]; omega))⟩⟩⟩)
                            · try dsimp only [tvI_i, tvJ_j, tvR_r] at q1669
                              refine tw_lload rfl rfl ?_
                              refine tw_goto rfl ?_
                              rw [ea156] at a1
                              rw [G1.2.2.1, eA] at a2
                              rw [G2.2.2.1, eA] at a3
                              try dsimp only [tvI_i, tvJ_j, tvR_r] at hQ
                              have eW := mJs_g a5 (mJs_g a4 (mJs_g a3 (mJs_g a2 (mJs_g a1 rfl))))
                              have hJ : jS (tJ b5 143) (tvI (tF h 111 1)).toInt64 (tA h 121 (tA h 152 c.toNatClampNeg).toNatClampNeg).toInt64 (tA h 114 (tA h 121 (tA h 152 c.toNatClampNeg).toNatClampNeg).toNatClampNeg).toInt64 (tA h 122 (tA h 152 c.toNatClampNeg).toNatClampNeg).toInt64 (bN (mK9 h (tA h 121 (tA h 152 c.toNatClampNeg).toNatClampNeg) (tvI (tF h 111 1))) (tK9 h) (tvI (tF h 111 5)).toNatClampNeg (tvI (tF h 111 1)).toInt) (bN (mF9 h (tA h 121 (tA h 152 c.toNatClampNeg).toNatClampNeg)) (mT9 h) (tvI (tF h 111 59)).toNatClampNeg (tvI (tF h 111 1)).toInt) (bN (mD9 h (tA h 121 (tA h 152 c.toNatClampNeg).toNatClampNeg)) (mT9 h) (tvI (tF h 111 59)).toNatClampNeg (tvI (tF h 111 1)).toInt) (tA h 156 c.toNatClampNeg).toInt64 (tA h 155 c.toNatClampNeg).toInt64 (tA h 154 c.toNatClampNeg).toInt64 (kbW b) (lcV (lcM h (tA h 121 (tA h 152 c.toNatClampNeg).toNatClampNeg) (sPM (tA h 177) (tA h 176) ((tA h 152 c.toNatClampNeg)).toNatClampNeg ((tA h 153 c.toNatClampNeg)) (sPB (fun p => tA h 118 (12 * (tA h 121 ((tA h 152 c.toNatClampNeg)).toNatClampNeg).toNatClampNeg + p)) (tA h 122 ((tA h 152 c.toNatClampNeg)).toNatClampNeg) (tvI (tF h 111 4)).toNatClampNeg) (tvI (tF h 111 83)).toNatClampNeg) (tA h 154 c.toNatClampNeg) (tA h 155 c.toNatClampNeg))).toInt64 := by
                                rw [(show kbW b = _ from if_neg q1573), (show (lcV (lcM h (tA h 121 (tA h 152 c.toNatClampNeg).toNatClampNeg) (sPM (tA h 177) (tA h 176) ((tA h 152 c.toNatClampNeg)).toNatClampNeg ((tA h 153 c.toNatClampNeg)) (sPB (fun p => tA h 118 (12 * (tA h 121 ((tA h 152 c.toNatClampNeg)).toNatClampNeg).toNatClampNeg + p)) (tA h 122 ((tA h 152 c.toNatClampNeg)).toNatClampNeg) (tvI (tF h 111 4)).toNatClampNeg) (tvI (tF h 111 83)).toNatClampNeg) (tA h 154 c.toNatClampNeg) (tA h 155 c.toNatClampNeg))).toInt64 = _ from congrArg Int32.toInt64 (lcV_2 hy q1643).symm), eW]
                                exact jS_5 hQ
                              exact tw_lret rfl (Or.inl ⟨⟨by omega, by omega⟩, Or.inr ⟨b, _, hkb, hJ, some _, Or.inr ⟨i1, hi1, hit1, hfst1, rfl⟩, Or.inr ⟨_, some _, rfl, Or.inr ⟨i2, hi2, hit2, hfst2, rfl⟩, congrArg (fun z => some (Value.long z)) (Int64.toInt_inj.mp (by (try dsimp only [tvI_i, tvJ_j, tvR_r]); rw [jV_i]; omega))⟩⟩⟩)
                          · try dsimp only [tvI_i, tvJ_j, tvR_r] at q1668
                            refine tw_push rfl ?_
                            refine tw_goto rfl ?_
                            refine tw_lstore rfl ?_
                            refine tw_lload rfl rfl ?_
                            refine tw_lload rfl rfl ?_
                            refine tw_lc_le rfl rfl (fun q1670 => ?_) (fun q1670 => ?_)
                            · try dsimp only [tvI_i, tvJ_j, tvR_r] at q1670
                              refine tw_lload rfl rfl ?_
                              rw [ea156] at a1
                              rw [G1.2.2.1, eA] at a2
                              rw [G2.2.2.1, eA] at a3
                              try dsimp only [tvI_i, tvJ_j, tvR_r] at hQ
                              have eW := mJs_g a5 (mJs_g a4 (mJs_g a3 (mJs_g a2 (mJs_g a1 rfl))))
                              have hJ : jS (tJ b5 143) (tvI (tF h 111 1)).toInt64 (tA h 121 (tA h 152 c.toNatClampNeg).toNatClampNeg).toInt64 (tA h 114 (tA h 121 (tA h 152 c.toNatClampNeg).toNatClampNeg).toNatClampNeg).toInt64 (tA h 122 (tA h 152 c.toNatClampNeg).toNatClampNeg).toInt64 (bN (mK9 h (tA h 121 (tA h 152 c.toNatClampNeg).toNatClampNeg) (tvI (tF h 111 1))) (tK9 h) (tvI (tF h 111 5)).toNatClampNeg (tvI (tF h 111 1)).toInt) (bN (mF9 h (tA h 121 (tA h 152 c.toNatClampNeg).toNatClampNeg)) (mT9 h) (tvI (tF h 111 59)).toNatClampNeg (tvI (tF h 111 1)).toInt) (bN (mD9 h (tA h 121 (tA h 152 c.toNatClampNeg).toNatClampNeg)) (mT9 h) (tvI (tF h 111 59)).toNatClampNeg (tvI (tF h 111 1)).toInt) (tA h 156 c.toNatClampNeg).toInt64 (tA h 155 c.toNatClampNeg).toInt64 (tA h 154 c.toNatClampNeg).toInt64 (kbW b) (lcV (lcM h (tA h 121 (tA h 152 c.toNatClampNeg).toNatClampNeg) (sPM (tA h 177) (tA h 176) ((tA h 152 c.toNatClampNeg)).toNatClampNeg ((tA h 153 c.toNatClampNeg)) (sPB (fun p => tA h 118 (12 * (tA h 121 ((tA h 152 c.toNatClampNeg)).toNatClampNeg).toNatClampNeg + p)) (tA h 122 ((tA h 152 c.toNatClampNeg)).toNatClampNeg) (tvI (tF h 111 4)).toNatClampNeg) (tvI (tF h 111 83)).toNatClampNeg) (tA h 154 c.toNatClampNeg) (tA h 155 c.toNatClampNeg))).toInt64 := by
                                rw [(show kbW b = _ from if_neg q1573), (show (lcV (lcM h (tA h 121 (tA h 152 c.toNatClampNeg).toNatClampNeg) (sPM (tA h 177) (tA h 176) ((tA h 152 c.toNatClampNeg)).toNatClampNeg ((tA h 153 c.toNatClampNeg)) (sPB (fun p => tA h 118 (12 * (tA h 121 ((tA h 152 c.toNatClampNeg)).toNatClampNeg).toNatClampNeg + p)) (tA h 122 ((tA h 152 c.toNatClampNeg)).toNatClampNeg) (tvI (tF h 111 4)).toNatClampNeg) (tvI (tF h 111 83)).toNatClampNeg) (tA h 154 c.toNatClampNeg) (tA h 155 c.toNatClampNeg))).toInt64 = _ from congrArg Int32.toInt64 (lcV_2 hy q1643).symm), eW]
                                exact jS_5 hQ
                              exact tw_lret rfl (Or.inl ⟨⟨by omega, by omega⟩, Or.inr ⟨b, _, hkb, hJ, some _, Or.inr ⟨i1, hi1, hit1, hfst1, rfl⟩, Or.inr ⟨_, some _, rfl, Or.inr ⟨i2, hi2, hit2, hfst2, rfl⟩, congrArg (fun z => some (Value.long z)) (Int64.toInt_inj.mp (by (try dsimp only [tvI_i, tvJ_j, tvR_r]); rw [jV_i]; omega))⟩⟩⟩)
                            · try dsimp only [tvI_i, tvJ_j, tvR_r] at q1670
                              refine tw_lload rfl rfl ?_
                              refine tw_goto rfl ?_
                              rw [ea156] at a1
                              rw [G1.2.2.1, eA] at a2
                              rw [G2.2.2.1, eA] at a3
                              try dsimp only [tvI_i, tvJ_j, tvR_r] at hQ
                              have eW := mJs_g a5 (mJs_g a4 (mJs_g a3 (mJs_g a2 (mJs_g a1 rfl))))
                              have hJ : jS (tJ b5 143) (tvI (tF h 111 1)).toInt64 (tA h 121 (tA h 152 c.toNatClampNeg).toNatClampNeg).toInt64 (tA h 114 (tA h 121 (tA h 152 c.toNatClampNeg).toNatClampNeg).toNatClampNeg).toInt64 (tA h 122 (tA h 152 c.toNatClampNeg).toNatClampNeg).toInt64 (bN (mK9 h (tA h 121 (tA h 152 c.toNatClampNeg).toNatClampNeg) (tvI (tF h 111 1))) (tK9 h) (tvI (tF h 111 5)).toNatClampNeg (tvI (tF h 111 1)).toInt) (bN (mF9 h (tA h 121 (tA h 152 c.toNatClampNeg).toNatClampNeg)) (mT9 h) (tvI (tF h 111 59)).toNatClampNeg (tvI (tF h 111 1)).toInt) (bN (mD9 h (tA h 121 (tA h 152 c.toNatClampNeg).toNatClampNeg)) (mT9 h) (tvI (tF h 111 59)).toNatClampNeg (tvI (tF h 111 1)).toInt) (tA h 156 c.toNatClampNeg).toInt64 (tA h 155 c.toNatClampNeg).toInt64 (tA h 154 c.toNatClampNeg).toInt64 (kbW b) (lcV (lcM h (tA h 121 (tA h 152 c.toNatClampNeg).toNatClampNeg) (sPM (tA h 177) (tA h 176) ((tA h 152 c.toNatClampNeg)).toNatClampNeg ((tA h 153 c.toNatClampNeg)) (sPB (fun p => tA h 118 (12 * (tA h 121 ((tA h 152 c.toNatClampNeg)).toNatClampNeg).toNatClampNeg + p)) (tA h 122 ((tA h 152 c.toNatClampNeg)).toNatClampNeg) (tvI (tF h 111 4)).toNatClampNeg) (tvI (tF h 111 83)).toNatClampNeg) (tA h 154 c.toNatClampNeg) (tA h 155 c.toNatClampNeg))).toInt64 := by
                                rw [(show kbW b = _ from if_neg q1573), (show (lcV (lcM h (tA h 121 (tA h 152 c.toNatClampNeg).toNatClampNeg) (sPM (tA h 177) (tA h 176) ((tA h 152 c.toNatClampNeg)).toNatClampNeg ((tA h 153 c.toNatClampNeg)) (sPB (fun p => tA h 118 (12 * (tA h 121 ((tA h 152 c.toNatClampNeg)).toNatClampNeg).toNatClampNeg + p)) (tA h 122 ((tA h 152 c.toNatClampNeg)).toNatClampNeg) (tvI (tF h 111 4)).toNatClampNeg) (tvI (tF h 111 83)).toNatClampNeg) (tA h 154 c.toNatClampNeg) (tA h 155 c.toNatClampNeg))).toInt64 = _ from congrArg Int32.toInt64 (lcV_2 hy q1643).symm), eW]
                                exact jS_5 hQ
                              exact tw_lret rfl (Or.inl ⟨⟨by omega, by omega⟩, Or.inr ⟨b, _, hkb, hJ, some _, Or.inr ⟨i1, hi1, hit1, hfst1, rfl⟩, Or.inr ⟨_, some _, rfl, Or.inr ⟨i2, hi2, hit2, hfst2, rfl⟩, congrArg (fun z => some (Value.long z)) (Int64.toInt_inj.mp (by (try dsimp only [tvI_i, tvJ_j, tvR_r]); rw [jV_i]; omega))⟩⟩⟩)
                        · try dsimp only [tvI_i, tvJ_j, tvR_r] at q1664
                          have q1664i := zeqi (Y := (-1)) (by decide) q1664
                          exfalso
                          have k9 : (-1 : Int32).toInt = -1 := rfl
                          omega
                      · try dsimp only [tvI_i, tvJ_j, tvR_r] at q1663
                        refine tw_push rfl ?_
                        refine tw_goto rfl ?_
                        refine tw_lstore rfl ?_
                        refine tw_iload rfl rfl ?_
                        refine tw_push rfl ?_
                        refine tw_ic_ne rfl (fun q1671 => ?_) (fun q1671 => ?_)
                        · try dsimp only [tvI_i, tvJ_j, tvR_r] at q1671
                          have q1671i := zneq (Y := (-1)) (by decide) q1671
                          refine tw_aload rfl rfl ?_
                          refine tw_iload rfl rfl ?_
                          refine tw_aload rfl rfl ?_
                          refine tw_getS rfl (hs_111_40 FC1.1) ?_
                          refine tw_iload rfl rfl ?_
                          refine tw_iald rfl (fun f1672 => ?_)
                          refine tw_aload rfl rfl ?_
                          refine tw_getS rfl (hs_111_41 FC1.1) ?_
                          refine tw_iload rfl rfl ?_
                          refine tw_iald rfl (fun f1673 => ?_)
                          refine tw_virt3 rfl (g_answer hG FC1.1 d1 d2 (v12 _ LC1.2.2.1) (e := slc (cs (tvI (tF h 111 1))) (cl (tvI (tF h 111 1)) i2).2.1 (cl (tvI (tF h 111 1)) i2).2.2.1) (t := false) ((v22 _ LC1.2.2.1).trans (congrArg Nat.cast s12)) (by rw [← s12]; have := d3.big; omega) (by rw [LC1.2.2.1]; exact h133) (by rw [LC1.2.2.1]; exact h134) (by rw [LC1.2.2.1]; exact cdAt_h s52 s62 d3.cod) s32 s42) (fun wp1674 hp1674 p1674 => ?_)
                          obtain ⟨rfl, FC2⟩ := p1674
                          rw [FC1.2.2.2.2.2 143 (by decide), FB2.2.2.2.2.2 143 (by decide), FB1.2.2.2.2.2 143 (by decide)]
                          have k0 : (0 : Int64).toInt = 0 := by decide
                          refine tw_lstore rfl ?_
                          refine tw_lload rfl rfl ?_
                          refine tw_push rfl ?_
                          refine tw_lc_ge rfl rfl (fun q1675 => ?_) (fun q1675 => ?_)
                          · try dsimp only [tvI_i, tvJ_j, tvR_r] at q1675
                            refine tw_lload rfl rfl ?_
                            refine tw_lstore rfl ?_
                            refine tw_lload rfl rfl ?_
                            refine tw_lload rfl rfl ?_
                            refine tw_lc_le rfl rfl (fun q1676 => ?_) (fun q1676 => ?_)
                            · try dsimp only [tvI_i, tvJ_j, tvR_r] at q1676
                              refine tw_lload rfl rfl ?_
                              rw [ea156] at a1
                              rw [G1.2.2.1, eA] at a2
                              rw [G2.2.2.1, eA] at a3
                              try dsimp only [tvI_i, tvJ_j, tvR_r] at hQ
                              have eW := mJs_g a5 (mJs_g a4 (mJs_g a3 (mJs_g a2 (mJs_g a1 rfl))))
                              have hJ : jS (tJ b5 143) (tvI (tF h 111 1)).toInt64 (tA h 121 (tA h 152 c.toNatClampNeg).toNatClampNeg).toInt64 (tA h 114 (tA h 121 (tA h 152 c.toNatClampNeg).toNatClampNeg).toNatClampNeg).toInt64 (tA h 122 (tA h 152 c.toNatClampNeg).toNatClampNeg).toInt64 (bN (mK9 h (tA h 121 (tA h 152 c.toNatClampNeg).toNatClampNeg) (tvI (tF h 111 1))) (tK9 h) (tvI (tF h 111 5)).toNatClampNeg (tvI (tF h 111 1)).toInt) (bN (mF9 h (tA h 121 (tA h 152 c.toNatClampNeg).toNatClampNeg)) (mT9 h) (tvI (tF h 111 59)).toNatClampNeg (tvI (tF h 111 1)).toInt) (bN (mD9 h (tA h 121 (tA h 152 c.toNatClampNeg).toNatClampNeg)) (mT9 h) (tvI (tF h 111 59)).toNatClampNeg (tvI (tF h 111 1)).toInt) (tA h 156 c.toNatClampNeg).toInt64 (tA h 155 c.toNatClampNeg).toInt64 (tA h 154 c.toNatClampNeg).toInt64 (kbW b) (lcV (lcM h (tA h 121 (tA h 152 c.toNatClampNeg).toNatClampNeg) (sPM (tA h 177) (tA h 176) ((tA h 152 c.toNatClampNeg)).toNatClampNeg ((tA h 153 c.toNatClampNeg)) (sPB (fun p => tA h 118 (12 * (tA h 121 ((tA h 152 c.toNatClampNeg)).toNatClampNeg).toNatClampNeg + p)) (tA h 122 ((tA h 152 c.toNatClampNeg)).toNatClampNeg) (tvI (tF h 111 4)).toNatClampNeg) (tvI (tF h 111 83)).toNatClampNeg) (tA h 154 c.toNatClampNeg) (tA h 155 c.toNatClampNeg))).toInt64 := by
                                rw [(show kbW b = _ from if_neg q1573), (show (lcV (lcM h (tA h 121 (tA h 152 c.toNatClampNeg).toNatClampNeg) (sPM (tA h 177) (tA h 176) ((tA h 152 c.toNatClampNeg)).toNatClampNeg ((tA h 153 c.toNatClampNeg)) (sPB (fun p => tA h 118 (12 * (tA h 121 ((tA h 152 c.toNatClampNeg)).toNatClampNeg).toNatClampNeg + p)) (tA h 122 ((tA h 152 c.toNatClampNeg)).toNatClampNeg) (tvI (tF h 111 4)).toNatClampNeg) (tvI (tF h 111 83)).toNatClampNeg) (tA h 154 c.toNatClampNeg) (tA h 155 c.toNatClampNeg))).toInt64 = _ from congrArg Int32.toInt64 (lcV_2 hy q1643).symm), eW]
                                exact jS_5 hQ
                              exact tw_lret rfl (Or.inl ⟨⟨by omega, by omega⟩, Or.inr ⟨b, _, hkb, hJ, some _, Or.inr ⟨i1, hi1, hit1, hfst1, rfl⟩, Or.inr ⟨_, some _, rfl, Or.inr ⟨i2, hi2, hit2, hfst2, rfl⟩, congrArg (fun z => some (Value.long z)) (Int64.toInt_inj.mp (by (try dsimp only [tvI_i, tvJ_j, tvR_r]); rw [jV_i]; omega))⟩⟩⟩)
                            · try dsimp only [tvI_i, tvJ_j, tvR_r] at q1676
                              refine tw_lload rfl rfl ?_
                              refine tw_goto rfl ?_
                              rw [ea156] at a1
                              rw [G1.2.2.1, eA] at a2
                              rw [G2.2.2.1, eA] at a3
                              try dsimp only [tvI_i, tvJ_j, tvR_r] at hQ
                              have eW := mJs_g a5 (mJs_g a4 (mJs_g a3 (mJs_g a2 (mJs_g a1 rfl))))
                              have hJ : jS (tJ b5 143) (tvI (tF h 111 1)).toInt64 (tA h 121 (tA h 152 c.toNatClampNeg).toNatClampNeg).toInt64 (tA h 114 (tA h 121 (tA h 152 c.toNatClampNeg).toNatClampNeg).toNatClampNeg).toInt64 (tA h 122 (tA h 152 c.toNatClampNeg).toNatClampNeg).toInt64 (bN (mK9 h (tA h 121 (tA h 152 c.toNatClampNeg).toNatClampNeg) (tvI (tF h 111 1))) (tK9 h) (tvI (tF h 111 5)).toNatClampNeg (tvI (tF h 111 1)).toInt) (bN (mF9 h (tA h 121 (tA h 152 c.toNatClampNeg).toNatClampNeg)) (mT9 h) (tvI (tF h 111 59)).toNatClampNeg (tvI (tF h 111 1)).toInt) (bN (mD9 h (tA h 121 (tA h 152 c.toNatClampNeg).toNatClampNeg)) (mT9 h) (tvI (tF h 111 59)).toNatClampNeg (tvI (tF h 111 1)).toInt) (tA h 156 c.toNatClampNeg).toInt64 (tA h 155 c.toNatClampNeg).toInt64 (tA h 154 c.toNatClampNeg).toInt64 (kbW b) (lcV (lcM h (tA h 121 (tA h 152 c.toNatClampNeg).toNatClampNeg) (sPM (tA h 177) (tA h 176) ((tA h 152 c.toNatClampNeg)).toNatClampNeg ((tA h 153 c.toNatClampNeg)) (sPB (fun p => tA h 118 (12 * (tA h 121 ((tA h 152 c.toNatClampNeg)).toNatClampNeg).toNatClampNeg + p)) (tA h 122 ((tA h 152 c.toNatClampNeg)).toNatClampNeg) (tvI (tF h 111 4)).toNatClampNeg) (tvI (tF h 111 83)).toNatClampNeg) (tA h 154 c.toNatClampNeg) (tA h 155 c.toNatClampNeg))).toInt64 := by
                                rw [(show kbW b = _ from if_neg q1573), (show (lcV (lcM h (tA h 121 (tA h 152 c.toNatClampNeg).toNatClampNeg) (sPM (tA h 177) (tA h 176) ((tA h 152 c.toNatClampNeg)).toNatClampNeg ((tA h 153 c.toNatClampNeg)) (sPB (fun p => tA h 118 (12 * (tA h 121 ((tA h 152 c.toNatClampNeg)).toNatClampNeg).toNatClampNeg + p)) (tA h 122 ((tA h 152 c.toNatClampNeg)).toNatClampNeg) (tvI (tF h 111 4)).toNatClampNeg) (tvI (tF h 111 83)).toNatClampNeg) (tA h 154 c.toNatClampNeg) (tA h 155 c.toNatClampNeg))).toInt64 = _ from congrArg Int32.toInt64 (lcV_2 hy q1643).symm), eW]
                                exact jS_5 hQ
                              exact tw_lret rfl (Or.inl ⟨⟨by omega, by omega⟩, Or.inr ⟨b, _, hkb, hJ, some _, Or.inr ⟨i1, hi1, hit1, hfst1, rfl⟩, Or.inr ⟨_, some _, rfl, Or.inr ⟨i2, hi2, hit2, hfst2, rfl⟩, congrArg (fun z => some (Value.long z)) (Int64.toInt_inj.mp (by (try dsimp only [tvI_i, tvJ_j, tvR_r]); rw [jV_i]; omega))⟩⟩⟩)
                          · try dsimp only [tvI_i, tvJ_j, tvR_r] at q1675
                            refine tw_push rfl ?_
                            refine tw_goto rfl ?_
                            refine tw_lstore rfl ?_
                            refine tw_lload rfl rfl ?_
                            refine tw_lload rfl rfl ?_
                            refine tw_lc_le rfl rfl (fun _ => ?_) (fun z => absurd z (by decide))
                            refine tw_lload rfl rfl ?_
                            rw [ea156] at a1
                            rw [G1.2.2.1, eA] at a2
                            rw [G2.2.2.1, eA] at a3
                            try dsimp only [tvI_i, tvJ_j, tvR_r] at hQ
                            have eW := mJs_g a5 (mJs_g a4 (mJs_g a3 (mJs_g a2 (mJs_g a1 rfl))))
                            have hJ : jS (tJ b5 143) (tvI (tF h 111 1)).toInt64 (tA h 121 (tA h 152 c.toNatClampNeg).toNatClampNeg).toInt64 (tA h 114 (tA h 121 (tA h 152 c.toNatClampNeg).toNatClampNeg).toNatClampNeg).toInt64 (tA h 122 (tA h 152 c.toNatClampNeg).toNatClampNeg).toInt64 (bN (mK9 h (tA h 121 (tA h 152 c.toNatClampNeg).toNatClampNeg) (tvI (tF h 111 1))) (tK9 h) (tvI (tF h 111 5)).toNatClampNeg (tvI (tF h 111 1)).toInt) (bN (mF9 h (tA h 121 (tA h 152 c.toNatClampNeg).toNatClampNeg)) (mT9 h) (tvI (tF h 111 59)).toNatClampNeg (tvI (tF h 111 1)).toInt) (bN (mD9 h (tA h 121 (tA h 152 c.toNatClampNeg).toNatClampNeg)) (mT9 h) (tvI (tF h 111 59)).toNatClampNeg (tvI (tF h 111 1)).toInt) (tA h 156 c.toNatClampNeg).toInt64 (tA h 155 c.toNatClampNeg).toInt64 (tA h 154 c.toNatClampNeg).toInt64 (kbW b) (lcV (lcM h (tA h 121 (tA h 152 c.toNatClampNeg).toNatClampNeg) (sPM (tA h 177) (tA h 176) ((tA h 152 c.toNatClampNeg)).toNatClampNeg ((tA h 153 c.toNatClampNeg)) (sPB (fun p => tA h 118 (12 * (tA h 121 ((tA h 152 c.toNatClampNeg)).toNatClampNeg).toNatClampNeg + p)) (tA h 122 ((tA h 152 c.toNatClampNeg)).toNatClampNeg) (tvI (tF h 111 4)).toNatClampNeg) (tvI (tF h 111 83)).toNatClampNeg) (tA h 154 c.toNatClampNeg) (tA h 155 c.toNatClampNeg))).toInt64 := by
                              rw [(show kbW b = _ from if_neg q1573), (show (lcV (lcM h (tA h 121 (tA h 152 c.toNatClampNeg).toNatClampNeg) (sPM (tA h 177) (tA h 176) ((tA h 152 c.toNatClampNeg)).toNatClampNeg ((tA h 153 c.toNatClampNeg)) (sPB (fun p => tA h 118 (12 * (tA h 121 ((tA h 152 c.toNatClampNeg)).toNatClampNeg).toNatClampNeg + p)) (tA h 122 ((tA h 152 c.toNatClampNeg)).toNatClampNeg) (tvI (tF h 111 4)).toNatClampNeg) (tvI (tF h 111 83)).toNatClampNeg) (tA h 154 c.toNatClampNeg) (tA h 155 c.toNatClampNeg))).toInt64 = _ from congrArg Int32.toInt64 (lcV_2 hy q1643).symm), eW]
                              exact jS_5 hQ
                            exact tw_lret rfl (Or.inl ⟨⟨by omega, by omega⟩, Or.inr ⟨b, _, hkb, hJ, some _, Or.inr ⟨i1, hi1, hit1, hfst1, rfl⟩, Or.inr ⟨_, some _, rfl, Or.inr ⟨i2, hi2, hit2, hfst2, rfl⟩, congrArg (fun z => some (Value.long z)) (Int64.toInt_inj.mp (by (try dsimp only [tvI_i, tvJ_j, tvR_r]); rw [jV_i]; omega))⟩⟩⟩)
                        · try dsimp only [tvI_i, tvJ_j, tvR_r] at q1671
                          have q1671i := zeqi (Y := (-1)) (by decide) q1671
                          exfalso
                          have k9 : (-1 : Int32).toInt = -1 := rfl
                          omega
                    · try dsimp only [tvI_i, tvJ_j, tvR_r] at q1659
                      have q1659i := zeqi (Y := (-1)) (by decide) q1659
                      exfalso
                      have k9 : (-1 : Int32).toInt = -1 := rfl
                      omega
              · try dsimp only [tvI_i, tvJ_j, tvR_r] at q1643
                have q1643i := zeqi (Y := (-1)) (by decide) q1643
                refine tw_push rfl ?_
                refine tw_goto rfl ?_
                refine tw_last rfl (fun f1677 => ?_)
                refine tG_lst f1677 G4.1 (fun b5 a5 => ?_)
                try dsimp only [tvI_i, tvJ_j, tvR_r] at a5
                have G5 := wFr_s G4 a5
                have LG := lFr_t hF (lFr_w G5)
                have eG := LG.2.2.1
                refine tw_aload rfl rfl ?_
                refine tw_iload rfl rfl ?_
                refine tw_push rfl ?_
                refine tw_push rfl ?_
                refine tw_virt3 rfl (g_tells hG G5.1 (d3.fr LG) d1 d2 (kd := 1) rfl (by decide) (t0 := 0) rfl (by rw [LG.2.2.1]; exact h133) (by rw [LG.2.2.1]; exact h134) (by rw [LG.2.2.1]; exact h135) (by rw [LG.2.2.1]; exact h136) (by rw [LG.2.2.1]; exact h138) (by rw [LG.2.2.1]; exact h139)) (fun w9 hp1678 p1678 => ?_)
                obtain ⟨FB1, ⟨rfl, hno1⟩ | ⟨i1, hi1, hit1, hfst1, xx1, rfl, hx1⟩⟩ := p1678
                · have LB1 := lFr_t LG (lFr_w FB1)
                  have hno1 : ∀ j, j < K (tvI (tF h 111 1)) → ¬ hit (tJ b5 143) (cs (tvI (tF h 111 1))) (cl (tvI (tF h 111 1)) j) 13 := fun j hj => by have z9 := hno1 j hj; rw [thc_k (by decide)] at z9; exact z9
                  refine tw_istore rfl ?_
                  refine tw_aload rfl rfl ?_
                  refine tw_iload rfl rfl ?_
                  refine tw_push rfl ?_
                  refine tw_push rfl ?_
                  refine tw_virt3 rfl (g_tells hG FB1.1 (d3.fr LB1) d1 d2 (kd := 2) rfl (by decide) (t0 := 0) rfl (by rw [LB1.2.2.1]; exact h133) (by rw [LB1.2.2.1]; exact h134) (by rw [LB1.2.2.1]; exact h135) (by rw [LB1.2.2.1]; exact h136) (by rw [LB1.2.2.1]; exact h138) (by rw [LB1.2.2.1]; exact h139)) (fun w9 hp1679 p1679 => ?_)
                  obtain ⟨FB2, ⟨rfl, hno2⟩ | ⟨i2, hi2, hit2, hfst2, xx2, rfl, hx2⟩⟩ := p1679
                  · have LB2 := lFr_t LB1 (lFr_w FB2)
                    have hno2 : ∀ j, j < K (tvI (tF h 111 1)) → ¬ hit (tJ b5 143) (cs (tvI (tF h 111 1))) (cl (tvI (tF h 111 1)) j) 14 := fun j hj => by have z9 := hno2 j hj; rw [thc_k (by decide), FB1.2.2.2.2.2 143 (by decide)] at z9; exact z9
                    refine tw_istore rfl ?_
                    refine tw_iload rfl rfl ?_
                    refine tw_push rfl ?_
                    refine tw_ic_ne rfl (fun z => absurd z (by decide)) (fun _ => ?_)
                    refine tw_push rfl ?_
                    refine tw_goto rfl ?_
                    refine tw_lstore rfl ?_
                    refine tw_lload rfl rfl ?_
                    refine tw_push rfl ?_
                    refine tw_lc_ge rfl rfl (fun _ => ?_) (fun z => absurd z (by decide))
                    refine tw_lload rfl rfl ?_
                    refine tw_lstore rfl ?_
                    refine tw_iload rfl rfl ?_
                    refine tw_push rfl ?_
                    refine tw_ic_ne rfl (fun z => absurd z (by decide)) (fun _ => ?_)
                    refine tw_lload rfl rfl ?_
                    rw [ea156] at a1
                    rw [G1.2.2.1, eA] at a2
                    rw [G2.2.2.1, eA] at a3
                    try dsimp only [tvI_i, tvJ_j, tvR_r] at hQ
                    have eW := mJs_g a5 (mJs_g a4 (mJs_g a3 (mJs_g a2 (mJs_g a1 rfl))))
                    have hJ : jS (tJ b5 143) (tvI (tF h 111 1)).toInt64 (tA h 121 (tA h 152 c.toNatClampNeg).toNatClampNeg).toInt64 (tA h 114 (tA h 121 (tA h 152 c.toNatClampNeg).toNatClampNeg).toNatClampNeg).toInt64 (tA h 122 (tA h 152 c.toNatClampNeg).toNatClampNeg).toInt64 (bN (mK9 h (tA h 121 (tA h 152 c.toNatClampNeg).toNatClampNeg) (tvI (tF h 111 1))) (tK9 h) (tvI (tF h 111 5)).toNatClampNeg (tvI (tF h 111 1)).toInt) (bN (mF9 h (tA h 121 (tA h 152 c.toNatClampNeg).toNatClampNeg)) (mT9 h) (tvI (tF h 111 59)).toNatClampNeg (tvI (tF h 111 1)).toInt) (bN (mD9 h (tA h 121 (tA h 152 c.toNatClampNeg).toNatClampNeg)) (mT9 h) (tvI (tF h 111 59)).toNatClampNeg (tvI (tF h 111 1)).toInt) (tA h 156 c.toNatClampNeg).toInt64 (tA h 155 c.toNatClampNeg).toInt64 (tA h 154 c.toNatClampNeg).toInt64 (kbW b) (lcV (lcM h (tA h 121 (tA h 152 c.toNatClampNeg).toNatClampNeg) (sPM (tA h 177) (tA h 176) ((tA h 152 c.toNatClampNeg)).toNatClampNeg ((tA h 153 c.toNatClampNeg)) (sPB (fun p => tA h 118 (12 * (tA h 121 ((tA h 152 c.toNatClampNeg)).toNatClampNeg).toNatClampNeg + p)) (tA h 122 ((tA h 152 c.toNatClampNeg)).toNatClampNeg) (tvI (tF h 111 4)).toNatClampNeg) (tvI (tF h 111 83)).toNatClampNeg) (tA h 154 c.toNatClampNeg) (tA h 155 c.toNatClampNeg))).toInt64 := by
                      rw [(show kbW b = _ from if_neg q1573), (show (lcV (lcM h (tA h 121 (tA h 152 c.toNatClampNeg).toNatClampNeg) (sPM (tA h 177) (tA h 176) ((tA h 152 c.toNatClampNeg)).toNatClampNeg ((tA h 153 c.toNatClampNeg)) (sPB (fun p => tA h 118 (12 * (tA h 121 ((tA h 152 c.toNatClampNeg)).toNatClampNeg).toNatClampNeg + p)) (tA h 122 ((tA h 152 c.toNatClampNeg)).toNatClampNeg) (tvI (tF h 111 4)).toNatClampNeg) (tvI (tF h 111 83)).toNatClampNeg) (tA h 154 c.toNatClampNeg) (tA h 155 c.toNatClampNeg))).toInt64 = _ from congrArg Int32.toInt64 (lcV_1 hy q1643).symm), eW]
                      exact jS_5 hQ
                    have k0 : (0 : Int64).toInt = 0 := by decide
                    exact tw_lret rfl (Or.inl ⟨⟨by omega, by omega⟩, Or.inr ⟨b, _, hkb, hJ, none, Or.inl ⟨rfl, hno1⟩, Or.inl ⟨rfl, rfl⟩⟩⟩)
                  · have LB2 := lFr_t LB1 (lFr_w FB2)
                    rw [thc_k (by decide)] at hit2
                    rw [FB1.2.2.2.2.2 143 (by decide)] at hit2
                    have hfst2 : ∀ j, j < i2 → ¬ hit (tJ b5 143) (cs (tvI (tF h 111 1))) (cl (tvI (tF h 111 1)) j) 14 := fun j hj => by have z9 := hfst2 j hj; rw [thc_k (by decide), FB1.2.2.2.2.2 143 (by decide)] at z9; exact z9
                    have x2n := zof_cl hx2
                    obtain ⟨s12, s22, s32, s42, p2, qq2, s52, s62⟩ := rOk_s (d3.ok i2 hi2) d3.nv (fun z => absurd (hit2.1.symm.trans z) (by decide))
                    have hK12 := d3.few
                    have c3 : ((cl (tvI (tF h 111 1)) i2).1, (cl (tvI (tF h 111 1)) i2).2.1, (cl (tvI (tF h 111 1)) i2).2.2.1, (cl (tvI (tF h 111 1)) i2).2.2.2) = (thc (tA h 135 (12 * q9 + i2)).toNatClampNeg (tA h 136 (12 * q9 + i2)).toNatClampNeg, (tA h 137 (12 * q9 + i2)).toNatClampNeg, (tA h 138 (12 * q9 + i2)).toNatClampNeg, (tA h 139 (12 * q9 + i2)).toNatClampNeg) := by rw [← d3.row i2 hi2]; rfl
                    have c52 := congrArg (fun z : rCt => z.2.1) c3
                    have c62 := congrArg (fun z : rCt => z.2.2.1) c3
                    dsimp only at c52 c62
                    have v12 : ∀ X, tA X = tA h → (tA X 137 xx2.toNatClampNeg).toInt = ((cl (tvI (tF h 111 1)) i2).2.1 : Int) := fun X eX => by rw [eX, x2n, c52]; exact (zclx (h137 (12 * q9 + i2) (by omega)).1).symm
                    have v22 : ∀ X, tA X = tA h → (tA X 138 xx2.toNatClampNeg).toInt = ((cl (tvI (tF h 111 1)) i2).2.2.1 : Int) := fun X eX => by rw [eX, x2n, c62]; exact (zclx (h138 (12 * q9 + i2) (by omega)).1).symm
                    refine tw_istore rfl ?_
                    refine tw_iload rfl rfl ?_
                    refine tw_push rfl ?_
                    refine tw_ic_ne rfl (fun z => absurd z (by decide)) (fun _ => ?_)
                    refine tw_push rfl ?_
                    refine tw_goto rfl ?_
                    refine tw_lstore rfl ?_
                    refine tw_lload rfl rfl ?_
                    refine tw_push rfl ?_
                    refine tw_lc_ge rfl rfl (fun _ => ?_) (fun z => absurd z (by decide))
                    refine tw_lload rfl rfl ?_
                    refine tw_lstore rfl ?_
                    refine tw_iload rfl rfl ?_
                    refine tw_push rfl ?_
                    refine tw_ic_ne rfl (fun q1680 => ?_) (fun q1680 => ?_)
                    · try dsimp only [tvI_i, tvJ_j, tvR_r] at q1680
                      have q1680i := zneq (Y := (-1)) (by decide) q1680
                      refine tw_aload rfl rfl ?_
                      refine tw_iload rfl rfl ?_
                      refine tw_aload rfl rfl ?_
                      refine tw_getS rfl (hs_111_40 FB2.1) ?_
                      refine tw_iload rfl rfl ?_
                      refine tw_iald rfl (fun f1681 => ?_)
                      refine tw_aload rfl rfl ?_
                      refine tw_getS rfl (hs_111_41 FB2.1) ?_
                      refine tw_iload rfl rfl ?_
                      refine tw_iald rfl (fun f1682 => ?_)
                      refine tw_virt3 rfl (g_answer hG FB2.1 d1 d2 (v12 _ LB2.2.2.1) (e := slc (cs (tvI (tF h 111 1))) (cl (tvI (tF h 111 1)) i2).2.1 (cl (tvI (tF h 111 1)) i2).2.2.1) (t := false) ((v22 _ LB2.2.2.1).trans (congrArg Nat.cast s12)) (by rw [← s12]; have := d3.big; omega) (by rw [LB2.2.2.1]; exact h133) (by rw [LB2.2.2.1]; exact h134) (by rw [LB2.2.2.1]; exact cdAt_h s52 s62 d3.cod) s32 s42) (fun wp1683 hp1683 p1683 => ?_)
                      obtain ⟨rfl, FC2⟩ := p1683
                      rw [FB2.2.2.2.2.2 143 (by decide), FB1.2.2.2.2.2 143 (by decide)]
                      have k0 : (0 : Int64).toInt = 0 := by decide
                      refine tw_lstore rfl ?_
                      refine tw_lload rfl rfl ?_
                      refine tw_push rfl ?_
                      refine tw_lc_ge rfl rfl (fun q1684 => ?_) (fun q1684 => ?_)
                      · try dsimp only [tvI_i, tvJ_j, tvR_r] at q1684
                        refine tw_lload rfl rfl ?_
                        refine tw_lstore rfl ?_
                        refine tw_lload rfl rfl ?_
                        refine tw_lload rfl rfl ?_
                        refine tw_lc_le rfl rfl (fun q1685 => ?_) (fun q1685 => ?_)
                        · try dsimp only [tvI_i, tvJ_j, tvR_r] at q1685
                          refine tw_lload rfl rfl ?_
                          rw [ea156] at a1
                          rw [G1.2.2.1, eA] at a2
                          rw [G2.2.2.1, eA] at a3
                          try dsimp only [tvI_i, tvJ_j, tvR_r] at hQ
                          have eW := mJs_g a5 (mJs_g a4 (mJs_g a3 (mJs_g a2 (mJs_g a1 rfl))))
                          have hJ : jS (tJ b5 143) (tvI (tF h 111 1)).toInt64 (tA h 121 (tA h 152 c.toNatClampNeg).toNatClampNeg).toInt64 (tA h 114 (tA h 121 (tA h 152 c.toNatClampNeg).toNatClampNeg).toNatClampNeg).toInt64 (tA h 122 (tA h 152 c.toNatClampNeg).toNatClampNeg).toInt64 (bN (mK9 h (tA h 121 (tA h 152 c.toNatClampNeg).toNatClampNeg) (tvI (tF h 111 1))) (tK9 h) (tvI (tF h 111 5)).toNatClampNeg (tvI (tF h 111 1)).toInt) (bN (mF9 h (tA h 121 (tA h 152 c.toNatClampNeg).toNatClampNeg)) (mT9 h) (tvI (tF h 111 59)).toNatClampNeg (tvI (tF h 111 1)).toInt) (bN (mD9 h (tA h 121 (tA h 152 c.toNatClampNeg).toNatClampNeg)) (mT9 h) (tvI (tF h 111 59)).toNatClampNeg (tvI (tF h 111 1)).toInt) (tA h 156 c.toNatClampNeg).toInt64 (tA h 155 c.toNatClampNeg).toInt64 (tA h 154 c.toNatClampNeg).toInt64 (kbW b) (lcV (lcM h (tA h 121 (tA h 152 c.toNatClampNeg).toNatClampNeg) (sPM (tA h 177) (tA h 176) ((tA h 152 c.toNatClampNeg)).toNatClampNeg ((tA h 153 c.toNatClampNeg)) (sPB (fun p => tA h 118 (12 * (tA h 121 ((tA h 152 c.toNatClampNeg)).toNatClampNeg).toNatClampNeg + p)) (tA h 122 ((tA h 152 c.toNatClampNeg)).toNatClampNeg) (tvI (tF h 111 4)).toNatClampNeg) (tvI (tF h 111 83)).toNatClampNeg) (tA h 154 c.toNatClampNeg) (tA h 155 c.toNatClampNeg))).toInt64 := by
                            rw [(show kbW b = _ from if_neg q1573), (show (lcV (lcM h (tA h 121 (tA h 152 c.toNatClampNeg).toNatClampNeg) (sPM (tA h 177) (tA h 176) ((tA h 152 c.toNatClampNeg)).toNatClampNeg ((tA h 153 c.toNatClampNeg)) (sPB (fun p => tA h 118 (12 * (tA h 121 ((tA h 152 c.toNatClampNeg)).toNatClampNeg).toNatClampNeg + p)) (tA h 122 ((tA h 152 c.toNatClampNeg)).toNatClampNeg) (tvI (tF h 111 4)).toNatClampNeg) (tvI (tF h 111 83)).toNatClampNeg) (tA h 154 c.toNatClampNeg) (tA h 155 c.toNatClampNeg))).toInt64 = _ from congrArg Int32.toInt64 (lcV_1 hy q1643).symm), eW]
                            exact jS_5 hQ
                          have k0 : (0 : Int64).toInt = 0 := by decide
                          exact tw_lret rfl (Or.inl ⟨⟨by omega, by omega⟩, Or.inr ⟨b, _, hkb, hJ, none, Or.inl ⟨rfl, hno1⟩, Or.inl ⟨rfl, rfl⟩⟩⟩)
                        · try dsimp only [tvI_i, tvJ_j, tvR_r] at q1685
                          refine tw_lload rfl rfl ?_
                          refine tw_goto rfl ?_
                          rw [ea156] at a1
                          rw [G1.2.2.1, eA] at a2
                          rw [G2.2.2.1, eA] at a3
                          try dsimp only [tvI_i, tvJ_j, tvR_r] at hQ
                          have eW := mJs_g a5 (mJs_g a4 (mJs_g a3 (mJs_g a2 (mJs_g a1 rfl))))
                          have hJ : jS (tJ b5 143) (tvI (tF h 111 1)).toInt64 (tA h 121 (tA h 152 c.toNatClampNeg).toNatClampNeg).toInt64 (tA h 114 (tA h 121 (tA h 152 c.toNatClampNeg).toNatClampNeg).toNatClampNeg).toInt64 (tA h 122 (tA h 152 c.toNatClampNeg).toNatClampNeg).toInt64 (bN (mK9 h (tA h 121 (tA h 152 c.toNatClampNeg).toNatClampNeg) (tvI (tF h 111 1))) (tK9 h) (tvI (tF h 111 5)).toNatClampNeg (tvI (tF h 111 1)).toInt) (bN (mF9 h (tA h 121 (tA h 152 c.toNatClampNeg).toNatClampNeg)) (mT9 h) (tvI (tF h 111 59)).toNatClampNeg (tvI (tF h 111 1)).toInt) (bN (mD9 h (tA h 121 (tA h 152 c.toNatClampNeg).toNatClampNeg)) (mT9 h) (tvI (tF h 111 59)).toNatClampNeg (tvI (tF h 111 1)).toInt) (tA h 156 c.toNatClampNeg).toInt64 (tA h 155 c.toNatClampNeg).toInt64 (tA h 154 c.toNatClampNeg).toInt64 (kbW b) (lcV (lcM h (tA h 121 (tA h 152 c.toNatClampNeg).toNatClampNeg) (sPM (tA h 177) (tA h 176) ((tA h 152 c.toNatClampNeg)).toNatClampNeg ((tA h 153 c.toNatClampNeg)) (sPB (fun p => tA h 118 (12 * (tA h 121 ((tA h 152 c.toNatClampNeg)).toNatClampNeg).toNatClampNeg + p)) (tA h 122 ((tA h 152 c.toNatClampNeg)).toNatClampNeg) (tvI (tF h 111 4)).toNatClampNeg) (tvI (tF h 111 83)).toNatClampNeg) (tA h 154 c.toNatClampNeg) (tA h 155 c.toNatClampNeg))).toInt64 := by
                            rw [(show kbW b = _ from if_neg q1573), (show (lcV (lcM h (tA h 121 (tA h 152 c.toNatClampNeg).toNatClampNeg) (sPM (tA h 177) (tA h 176) ((tA h 152 c.toNatClampNeg)).toNatClampNeg ((tA h 153 c.toNatClampNeg)) (sPB (fun p => tA h 118 (12 * (tA h 121 ((tA h 152 c.toNatClampNeg)).toNatClampNeg).toNatClampNeg + p)) (tA h 122 ((tA h 152 c.toNatClampNeg)).toNatClampNeg) (tvI (tF h 111 4)).toNatClampNeg) (tvI (tF h 111 83)).toNatClampNeg) (tA h 154 c.toNatClampNeg) (tA h 155 c.toNatClampNeg))).toInt64 = _ from congrArg Int32.toInt64 (lcV_1 hy q1643).symm), eW]
                            exact jS_5 hQ
                          have k0 : (0 : Int64).toInt = 0 := by decide
                          exact tw_lret rfl (Or.inl ⟨⟨by omega, by omega⟩, Or.inr ⟨b, _, hkb, hJ, none, Or.inl ⟨rfl, hno1⟩, Or.inl ⟨rfl, congrArg (fun z => some (Value.long z)) (Int64.toInt_inj.mp (by (try dsimp only [tvI_i, tvJ_j, tvR_r]); omega))⟩⟩⟩)
                      · try dsimp only [tvI_i, tvJ_j, tvR_r] at q1684
                        refine tw_push rfl ?_
                        refine tw_goto rfl ?_
                        refine tw_lstore rfl ?_
                        refine tw_lload rfl rfl ?_
                        refine tw_lload rfl rfl ?_
                        refine tw_lc_le rfl rfl (fun _ => ?_) (fun z => absurd z (by decide))
                        refine tw_lload rfl rfl ?_
                        rw [ea156] at a1
                        rw [G1.2.2.1, eA] at a2
                        rw [G2.2.2.1, eA] at a3
                        try dsimp only [tvI_i, tvJ_j, tvR_r] at hQ
                        have eW := mJs_g a5 (mJs_g a4 (mJs_g a3 (mJs_g a2 (mJs_g a1 rfl))))
                        have hJ : jS (tJ b5 143) (tvI (tF h 111 1)).toInt64 (tA h 121 (tA h 152 c.toNatClampNeg).toNatClampNeg).toInt64 (tA h 114 (tA h 121 (tA h 152 c.toNatClampNeg).toNatClampNeg).toNatClampNeg).toInt64 (tA h 122 (tA h 152 c.toNatClampNeg).toNatClampNeg).toInt64 (bN (mK9 h (tA h 121 (tA h 152 c.toNatClampNeg).toNatClampNeg) (tvI (tF h 111 1))) (tK9 h) (tvI (tF h 111 5)).toNatClampNeg (tvI (tF h 111 1)).toInt) (bN (mF9 h (tA h 121 (tA h 152 c.toNatClampNeg).toNatClampNeg)) (mT9 h) (tvI (tF h 111 59)).toNatClampNeg (tvI (tF h 111 1)).toInt) (bN (mD9 h (tA h 121 (tA h 152 c.toNatClampNeg).toNatClampNeg)) (mT9 h) (tvI (tF h 111 59)).toNatClampNeg (tvI (tF h 111 1)).toInt) (tA h 156 c.toNatClampNeg).toInt64 (tA h 155 c.toNatClampNeg).toInt64 (tA h 154 c.toNatClampNeg).toInt64 (kbW b) (lcV (lcM h (tA h 121 (tA h 152 c.toNatClampNeg).toNatClampNeg) (sPM (tA h 177) (tA h 176) ((tA h 152 c.toNatClampNeg)).toNatClampNeg ((tA h 153 c.toNatClampNeg)) (sPB (fun p => tA h 118 (12 * (tA h 121 ((tA h 152 c.toNatClampNeg)).toNatClampNeg).toNatClampNeg + p)) (tA h 122 ((tA h 152 c.toNatClampNeg)).toNatClampNeg) (tvI (tF h 111 4)).toNatClampNeg) (tvI (tF h 111 83)).toNatClampNeg) (tA h 154 c.toNatClampNeg) (tA h 155 c.toNatClampNeg))).toInt64 := by
                          rw [(show kbW b = _ from if_neg q1573), (show (lcV (lcM h (tA h 121 (tA h 152 c.toNatClampNeg).toNatClampNeg) (sPM (tA h 177) (tA h 176) ((tA h 152 c.toNatClampNeg)).toNatClampNeg ((tA h 153 c.toNatClampNeg)) (sPB (fun p => tA h 118 (12 * (tA h 121 ((tA h 152 c.toNatClampNeg)).toNatClampNeg).toNatClampNeg + p)) (tA h 122 ((tA h 152 c.toNatClampNeg)).toNatClampNeg) (tvI (tF h 111 4)).toNatClampNeg) (tvI (tF h 111 83)).toNatClampNeg) (tA h 154 c.toNatClampNeg) (tA h 155 c.toNatClampNeg))).toInt64 = _ from congrArg Int32.toInt64 (lcV_1 hy q1643).symm), eW]
                          exact jS_5 hQ
                        have k0 : (0 : Int64).toInt = 0 := by decide
                        exact tw_lret rfl (Or.inl ⟨⟨by omega, by omega⟩, Or.inr ⟨b, _, hkb, hJ, none, Or.inl ⟨rfl, hno1⟩, Or.inl ⟨rfl, rfl⟩⟩⟩)
                    · try dsimp only [tvI_i, tvJ_j, tvR_r] at q1680
                      have q1680i := zeqi (Y := (-1)) (by decide) q1680
                      exfalso
                      have k9 : (-1 : Int32).toInt = -1 := rfl
                      omega
                · have LB1 := lFr_t LG (lFr_w FB1)
                  rw [thc_k (by decide)] at hit1
                  have hfst1 : ∀ j, j < i1 → ¬ hit (tJ b5 143) (cs (tvI (tF h 111 1))) (cl (tvI (tF h 111 1)) j) 13 := fun j hj => by have z9 := hfst1 j hj; rw [thc_k (by decide)] at z9; exact z9
                  have x1n := zof_cl hx1
                  obtain ⟨s11, s21, s31, s41, p1, qq1, s51, s61⟩ := rOk_s (d3.ok i1 hi1) d3.nv (fun z => absurd (hit1.1.symm.trans z) (by decide))
                  have hK12 := d3.few
                  have c3 : ((cl (tvI (tF h 111 1)) i1).1, (cl (tvI (tF h 111 1)) i1).2.1, (cl (tvI (tF h 111 1)) i1).2.2.1, (cl (tvI (tF h 111 1)) i1).2.2.2) = (thc (tA h 135 (12 * q9 + i1)).toNatClampNeg (tA h 136 (12 * q9 + i1)).toNatClampNeg, (tA h 137 (12 * q9 + i1)).toNatClampNeg, (tA h 138 (12 * q9 + i1)).toNatClampNeg, (tA h 139 (12 * q9 + i1)).toNatClampNeg) := by rw [← d3.row i1 hi1]; rfl
                  have c51 := congrArg (fun z : rCt => z.2.1) c3
                  have c61 := congrArg (fun z : rCt => z.2.2.1) c3
                  dsimp only at c51 c61
                  have v11 : ∀ X, tA X = tA h → (tA X 137 xx1.toNatClampNeg).toInt = ((cl (tvI (tF h 111 1)) i1).2.1 : Int) := fun X eX => by rw [eX, x1n, c51]; exact (zclx (h137 (12 * q9 + i1) (by omega)).1).symm
                  have v21 : ∀ X, tA X = tA h → (tA X 138 xx1.toNatClampNeg).toInt = ((cl (tvI (tF h 111 1)) i1).2.2.1 : Int) := fun X eX => by rw [eX, x1n, c61]; exact (zclx (h138 (12 * q9 + i1) (by omega)).1).symm
                  refine tw_istore rfl ?_
                  refine tw_aload rfl rfl ?_
                  refine tw_iload rfl rfl ?_
                  refine tw_push rfl ?_
                  refine tw_push rfl ?_
                  refine tw_virt3 rfl (g_tells hG FB1.1 (d3.fr LB1) d1 d2 (kd := 2) rfl (by decide) (t0 := 0) rfl (by rw [LB1.2.2.1]; exact h133) (by rw [LB1.2.2.1]; exact h134) (by rw [LB1.2.2.1]; exact h135) (by rw [LB1.2.2.1]; exact h136) (by rw [LB1.2.2.1]; exact h138) (by rw [LB1.2.2.1]; exact h139)) (fun w9 hp1686 p1686 => ?_)
                  obtain ⟨FB2, ⟨rfl, hno2⟩ | ⟨i2, hi2, hit2, hfst2, xx2, rfl, hx2⟩⟩ := p1686
                  · have LB2 := lFr_t LB1 (lFr_w FB2)
                    have hno2 : ∀ j, j < K (tvI (tF h 111 1)) → ¬ hit (tJ b5 143) (cs (tvI (tF h 111 1))) (cl (tvI (tF h 111 1)) j) 14 := fun j hj => by have z9 := hno2 j hj; rw [thc_k (by decide), FB1.2.2.2.2.2 143 (by decide)] at z9; exact z9
                    refine tw_istore rfl ?_
                    refine tw_iload rfl rfl ?_
                    refine tw_push rfl ?_
                    refine tw_ic_ne rfl (fun q1687 => ?_) (fun q1687 => ?_)
                    · try dsimp only [tvI_i, tvJ_j, tvR_r] at q1687
                      have q1687i := zneq (Y := (-1)) (by decide) q1687
                      refine tw_aload rfl rfl ?_
                      refine tw_iload rfl rfl ?_
                      refine tw_aload rfl rfl ?_
                      refine tw_getS rfl (hs_111_40 FB2.1) ?_
                      refine tw_iload rfl rfl ?_
                      refine tw_iald rfl (fun f1688 => ?_)
                      refine tw_aload rfl rfl ?_
                      refine tw_getS rfl (hs_111_41 FB2.1) ?_
                      refine tw_iload rfl rfl ?_
                      refine tw_iald rfl (fun f1689 => ?_)
                      refine tw_virt3 rfl (g_answer hG FB2.1 d1 d2 (v11 _ LB2.2.2.1) (e := slc (cs (tvI (tF h 111 1))) (cl (tvI (tF h 111 1)) i1).2.1 (cl (tvI (tF h 111 1)) i1).2.2.1) (t := false) ((v21 _ LB2.2.2.1).trans (congrArg Nat.cast s11)) (by rw [← s11]; have := d3.big; omega) (by rw [LB2.2.2.1]; exact h133) (by rw [LB2.2.2.1]; exact h134) (by rw [LB2.2.2.1]; exact cdAt_h s51 s61 d3.cod) s31 s41) (fun wp1690 hp1690 p1690 => ?_)
                      obtain ⟨rfl, FC1⟩ := p1690
                      rw [FB2.2.2.2.2.2 143 (by decide), FB1.2.2.2.2.2 143 (by decide)]
                      have LC1 := lFr_t LB2 (lFr_w FC1)
                      have k0 : (0 : Int64).toInt = 0 := by decide
                      refine tw_lstore rfl ?_
                      refine tw_lload rfl rfl ?_
                      refine tw_push rfl ?_
                      refine tw_lc_ge rfl rfl (fun q1691 => ?_) (fun q1691 => ?_)
                      · try dsimp only [tvI_i, tvJ_j, tvR_r] at q1691
                        refine tw_lload rfl rfl ?_
                        refine tw_lstore rfl ?_
                        refine tw_iload rfl rfl ?_
                        refine tw_push rfl ?_
                        refine tw_ic_ne rfl (fun z => absurd z (by decide)) (fun _ => ?_)
                        refine tw_lload rfl rfl ?_
                        rw [ea156] at a1
                        rw [G1.2.2.1, eA] at a2
                        rw [G2.2.2.1, eA] at a3
                        try dsimp only [tvI_i, tvJ_j, tvR_r] at hQ
                        have eW := mJs_g a5 (mJs_g a4 (mJs_g a3 (mJs_g a2 (mJs_g a1 rfl))))
                        have hJ : jS (tJ b5 143) (tvI (tF h 111 1)).toInt64 (tA h 121 (tA h 152 c.toNatClampNeg).toNatClampNeg).toInt64 (tA h 114 (tA h 121 (tA h 152 c.toNatClampNeg).toNatClampNeg).toNatClampNeg).toInt64 (tA h 122 (tA h 152 c.toNatClampNeg).toNatClampNeg).toInt64 (bN (mK9 h (tA h 121 (tA h 152 c.toNatClampNeg).toNatClampNeg) (tvI (tF h 111 1))) (tK9 h) (tvI (tF h 111 5)).toNatClampNeg (tvI (tF h 111 1)).toInt) (bN (mF9 h (tA h 121 (tA h 152 c.toNatClampNeg).toNatClampNeg)) (mT9 h) (tvI (tF h 111 59)).toNatClampNeg (tvI (tF h 111 1)).toInt) (bN (mD9 h (tA h 121 (tA h 152 c.toNatClampNeg).toNatClampNeg)) (mT9 h) (tvI (tF h 111 59)).toNatClampNeg (tvI (tF h 111 1)).toInt) (tA h 156 c.toNatClampNeg).toInt64 (tA h 155 c.toNatClampNeg).toInt64 (tA h 154 c.toNatClampNeg).toInt64 (kbW b) (lcV (lcM h (tA h 121 (tA h 152 c.toNatClampNeg).toNatClampNeg) (sPM (tA h 177) (tA h 176) ((tA h 152 c.toNatClampNeg)).toNatClampNeg ((tA h 153 c.toNatClampNeg)) (sPB (fun p => tA h 118 (12 * (tA h 121 ((tA h 152 c.toNatClampNeg)).toNatClampNeg).toNatClampNeg + p)) (tA h 122 ((tA h 152 c.toNatClampNeg)).toNatClampNeg) (tvI (tF h 111 4)).toNatClampNeg) (tvI (tF h 111 83)).toNatClampNeg) (tA h 154 c.toNatClampNeg) (tA h 155 c.toNatClampNeg))).toInt64 := by
                          rw [(show kbW b = _ from if_neg q1573), (show (lcV (lcM h (tA h 121 (tA h 152 c.toNatClampNeg).toNatClampNeg) (sPM (tA h 177) (tA h 176) ((tA h 152 c.toNatClampNeg)).toNatClampNeg ((tA h 153 c.toNatClampNeg)) (sPB (fun p => tA h 118 (12 * (tA h 121 ((tA h 152 c.toNatClampNeg)).toNatClampNeg).toNatClampNeg + p)) (tA h 122 ((tA h 152 c.toNatClampNeg)).toNatClampNeg) (tvI (tF h 111 4)).toNatClampNeg) (tvI (tF h 111 83)).toNatClampNeg) (tA h 154 c.toNatClampNeg) (tA h 155 c.toNatClampNeg))).toInt64 = _ from congrArg Int32.toInt64 (lcV_1 hy q1643).symm), eW]
                          exact jS_5 hQ
                        exact tw_lret rfl (Or.inl ⟨⟨by omega, by omega⟩, Or.inr ⟨b, _, hkb, hJ, some _, Or.inr ⟨i1, hi1, hit1, hfst1, rfl⟩, Or.inr ⟨_, none, rfl, Or.inl ⟨rfl, hno2⟩, congrArg (fun z => some (Value.long z)) (Int64.toInt_inj.mp (by (try dsimp only [tvI_i, tvJ_j, tvR_r]); rw [jV_n]; omega))⟩⟩⟩)
                      · try dsimp only [tvI_i, tvJ_j, tvR_r] at q1691
                        refine tw_push rfl ?_
                        refine tw_goto rfl ?_
                        refine tw_lstore rfl ?_
                        refine tw_iload rfl rfl ?_
                        refine tw_push rfl ?_
                        refine tw_ic_ne rfl (fun z => absurd z (by decide)) (fun _ => ?_)
                        refine tw_lload rfl rfl ?_
                        rw [ea156] at a1
                        rw [G1.2.2.1, eA] at a2
                        rw [G2.2.2.1, eA] at a3
                        try dsimp only [tvI_i, tvJ_j, tvR_r] at hQ
                        have eW := mJs_g a5 (mJs_g a4 (mJs_g a3 (mJs_g a2 (mJs_g a1 rfl))))
                        have hJ : jS (tJ b5 143) (tvI (tF h 111 1)).toInt64 (tA h 121 (tA h 152 c.toNatClampNeg).toNatClampNeg).toInt64 (tA h 114 (tA h 121 (tA h 152 c.toNatClampNeg).toNatClampNeg).toNatClampNeg).toInt64 (tA h 122 (tA h 152 c.toNatClampNeg).toNatClampNeg).toInt64 (bN (mK9 h (tA h 121 (tA h 152 c.toNatClampNeg).toNatClampNeg) (tvI (tF h 111 1))) (tK9 h) (tvI (tF h 111 5)).toNatClampNeg (tvI (tF h 111 1)).toInt) (bN (mF9 h (tA h 121 (tA h 152 c.toNatClampNeg).toNatClampNeg)) (mT9 h) (tvI (tF h 111 59)).toNatClampNeg (tvI (tF h 111 1)).toInt) (bN (mD9 h (tA h 121 (tA h 152 c.toNatClampNeg).toNatClampNeg)) (mT9 h) (tvI (tF h 111 59)).toNatClampNeg (tvI (tF h 111 1)).toInt) (tA h 156 c.toNatClampNeg).toInt64 (tA h 155 c.toNatClampNeg).toInt64 (tA h 154 c.toNatClampNeg).toInt64 (kbW b) (lcV (lcM h (tA h 121 (tA h 152 c.toNatClampNeg).toNatClampNeg) (sPM (tA h 177) (tA h 176) ((tA h 152 c.toNatClampNeg)).toNatClampNeg ((tA h 153 c.toNatClampNeg)) (sPB (fun p => tA h 118 (12 * (tA h 121 ((tA h 152 c.toNatClampNeg)).toNatClampNeg).toNatClampNeg + p)) (tA h 122 ((tA h 152 c.toNatClampNeg)).toNatClampNeg) (tvI (tF h 111 4)).toNatClampNeg) (tvI (tF h 111 83)).toNatClampNeg) (tA h 154 c.toNatClampNeg) (tA h 155 c.toNatClampNeg))).toInt64 := by
                          rw [(show kbW b = _ from if_neg q1573), (show (lcV (lcM h (tA h 121 (tA h 152 c.toNatClampNeg).toNatClampNeg) (sPM (tA h 177) (tA h 176) ((tA h 152 c.toNatClampNeg)).toNatClampNeg ((tA h 153 c.toNatClampNeg)) (sPB (fun p => tA h 118 (12 * (tA h 121 ((tA h 152 c.toNatClampNeg)).toNatClampNeg).toNatClampNeg + p)) (tA h 122 ((tA h 152 c.toNatClampNeg)).toNatClampNeg) (tvI (tF h 111 4)).toNatClampNeg) (tvI (tF h 111 83)).toNatClampNeg) (tA h 154 c.toNatClampNeg) (tA h 155 c.toNatClampNeg))).toInt64 = _ from congrArg Int32.toInt64 (lcV_1 hy q1643).symm), eW]
                          exact jS_5 hQ
                        exact tw_lret rfl (Or.inl ⟨⟨by omega, by omega⟩, Or.inr ⟨b, _, hkb, hJ, some _, Or.inr ⟨i1, hi1, hit1, hfst1, rfl⟩, Or.inr ⟨_, none, rfl, Or.inl ⟨rfl, hno2⟩, congrArg (fun z => some (Value.long z)) (Int64.toInt_inj.mp (by (try dsimp only [tvI_i, tvJ_j, tvR_r]); rw [jV_n]; omega))⟩⟩⟩)
                    · try dsimp only [tvI_i, tvJ_j, tvR_r] at q1687
                      have q1687i := zeqi (Y := (-1)) (by decide) q1687
                      exfalso
                      have k9 : (-1 : Int32).toInt = -1 := rfl
                      omega
                  · have LB2 := lFr_t LB1 (lFr_w FB2)
                    rw [thc_k (by decide)] at hit2
                    rw [FB1.2.2.2.2.2 143 (by decide)] at hit2
                    have hfst2 : ∀ j, j < i2 → ¬ hit (tJ b5 143) (cs (tvI (tF h 111 1))) (cl (tvI (tF h 111 1)) j) 14 := fun j hj => by have z9 := hfst2 j hj; rw [thc_k (by decide), FB1.2.2.2.2.2 143 (by decide)] at z9; exact z9
                    have x2n := zof_cl hx2
                    obtain ⟨s12, s22, s32, s42, p2, qq2, s52, s62⟩ := rOk_s (d3.ok i2 hi2) d3.nv (fun z => absurd (hit2.1.symm.trans z) (by decide))
                    have hK12 := d3.few
                    have c3 : ((cl (tvI (tF h 111 1)) i2).1, (cl (tvI (tF h 111 1)) i2).2.1, (cl (tvI (tF h 111 1)) i2).2.2.1, (cl (tvI (tF h 111 1)) i2).2.2.2) = (thc (tA h 135 (12 * q9 + i2)).toNatClampNeg (tA h 136 (12 * q9 + i2)).toNatClampNeg, (tA h 137 (12 * q9 + i2)).toNatClampNeg, (tA h 138 (12 * q9 + i2)).toNatClampNeg, (tA h 139 (12 * q9 + i2)).toNatClampNeg) := by rw [← d3.row i2 hi2]; rfl
                    have c52 := congrArg (fun z : rCt => z.2.1) c3
                    have c62 := congrArg (fun z : rCt => z.2.2.1) c3
                    dsimp only at c52 c62
                    have v12 : ∀ X, tA X = tA h → (tA X 137 xx2.toNatClampNeg).toInt = ((cl (tvI (tF h 111 1)) i2).2.1 : Int) := fun X eX => by rw [eX, x2n, c52]; exact (zclx (h137 (12 * q9 + i2) (by omega)).1).symm
                    have v22 : ∀ X, tA X = tA h → (tA X 138 xx2.toNatClampNeg).toInt = ((cl (tvI (tF h 111 1)) i2).2.2.1 : Int) := fun X eX => by rw [eX, x2n, c62]; exact (zclx (h138 (12 * q9 + i2) (by omega)).1).symm
                    refine tw_istore rfl ?_
                    refine tw_iload rfl rfl ?_
                    refine tw_push rfl ?_
                    refine tw_ic_ne rfl (fun q1692 => ?_) (fun q1692 => ?_)
                    · try dsimp only [tvI_i, tvJ_j, tvR_r] at q1692
                      have q1692i := zneq (Y := (-1)) (by decide) q1692
                      refine tw_aload rfl rfl ?_
                      refine tw_iload rfl rfl ?_
                      refine tw_aload rfl rfl ?_
                      refine tw_getS rfl (hs_111_40 FB2.1) ?_
                      refine tw_iload rfl rfl ?_
                      refine tw_iald rfl (fun f1693 => ?_)
                      refine tw_aload rfl rfl ?_
                      refine tw_getS rfl (hs_111_41 FB2.1) ?_
                      refine tw_iload rfl rfl ?_
                      refine tw_iald rfl (fun f1694 => ?_)
                      refine tw_virt3 rfl (g_answer hG FB2.1 d1 d2 (v11 _ LB2.2.2.1) (e := slc (cs (tvI (tF h 111 1))) (cl (tvI (tF h 111 1)) i1).2.1 (cl (tvI (tF h 111 1)) i1).2.2.1) (t := false) ((v21 _ LB2.2.2.1).trans (congrArg Nat.cast s11)) (by rw [← s11]; have := d3.big; omega) (by rw [LB2.2.2.1]; exact h133) (by rw [LB2.2.2.1]; exact h134) (by rw [LB2.2.2.1]; exact cdAt_h s51 s61 d3.cod) s31 s41) (fun wp1695 hp1695 p1695 => ?_)
                      obtain ⟨rfl, FC1⟩ := p1695
                      rw [FB2.2.2.2.2.2 143 (by decide), FB1.2.2.2.2.2 143 (by decide)]
                      have LC1 := lFr_t LB2 (lFr_w FC1)
                      have k0 : (0 : Int64).toInt = 0 := by decide
                      refine tw_lstore rfl ?_
                      refine tw_lload rfl rfl ?_
                      refine tw_push rfl ?_
                      refine tw_lc_ge rfl rfl (fun q1696 => ?_) (fun q1696 => ?_)
                      · try dsimp only [tvI_i, tvJ_j, tvR_r] at q1696
                        refine tw_lload rfl rfl ?_
                        refine tw_lstore rfl ?_
                        refine tw_iload rfl rfl ?_
                        refine tw_push rfl ?_
                        refine tw_ic_ne rfl (fun q1697 => ?_) (fun q1697 => ?_)
                        · try dsimp only [tvI_i, tvJ_j, tvR_r] at q1697
                          have q1697i := zneq (Y := (-1)) (by decide) q1697
                          refine tw_aload rfl rfl ?_
                          refine tw_iload rfl rfl ?_
                          refine tw_aload rfl rfl ?_
                          refine tw_getS rfl (hs_111_40 FC1.1) ?_
                          refine tw_iload rfl rfl ?_
                          refine tw_iald rfl (fun f1698 => ?_)
                          refine tw_aload rfl rfl ?_
                          refine tw_getS rfl (hs_111_41 FC1.1) ?_
                          refine tw_iload rfl rfl ?_
                          refine tw_iald rfl (fun f1699 => ?_)
                          refine tw_virt3 rfl (g_answer hG FC1.1 d1 d2 (v12 _ LC1.2.2.1) (e := slc (cs (tvI (tF h 111 1))) (cl (tvI (tF h 111 1)) i2).2.1 (cl (tvI (tF h 111 1)) i2).2.2.1) (t := false) ((v22 _ LC1.2.2.1).trans (congrArg Nat.cast s12)) (by rw [← s12]; have := d3.big; omega) (by rw [LC1.2.2.1]; exact h133) (by rw [LC1.2.2.1]; exact h134) (by rw [LC1.2.2.1]; exact cdAt_h s52 s62 d3.cod) s32 s42) (fun wp1700 hp1700 p1700 => ?_)
                          obtain ⟨rfl, FC2⟩ := p1700
                          rw [FC1.2.2.2.2.2 143 (by decide), FB2.2.2.2.2.2 143 (by decide), FB1.2.2.2.2.2 143 (by decide)]
                          have k0 : (0 : Int64).toInt = 0 := by decide
                          refine tw_lstore rfl ?_
                          refine tw_lload rfl rfl ?_
                          refine tw_push rfl ?_
                          refine tw_lc_ge rfl rfl (fun q1701 => ?_) (fun q1701 => ?_)
                          · try dsimp only [tvI_i, tvJ_j, tvR_r] at q1701
                            refine tw_lload rfl rfl ?_
                            refine tw_lstore rfl ?_
                            refine tw_lload rfl rfl ?_
                            refine tw_lload rfl rfl ?_
                            refine tw_lc_le rfl rfl (fun q1702 => ?_) (fun q1702 => ?_)
                            · try dsimp only [tvI_i, tvJ_j, tvR_r] at q1702
                              refine tw_lload rfl rfl ?_
                              rw [ea156] at a1
                              rw [G1.2.2.1, eA] at a2
                              rw [G2.2.2.1, eA] at a3
                              try dsimp only [tvI_i, tvJ_j, tvR_r] at hQ
                              have eW := mJs_g a5 (mJs_g a4 (mJs_g a3 (mJs_g a2 (mJs_g a1 rfl))))
                              have hJ : jS (tJ b5 143) (tvI (tF h 111 1)).toInt64 (tA h 121 (tA h 152 c.toNatClampNeg).toNatClampNeg).toInt64 (tA h 114 (tA h 121 (tA h 152 c.toNatClampNeg).toNatClampNeg).toNatClampNeg).toInt64 (tA h 122 (tA h 152 c.toNatClampNeg).toNatClampNeg).toInt64 (bN (mK9 h (tA h 121 (tA h 152 c.toNatClampNeg).toNatClampNeg) (tvI (tF h 111 1))) (tK9 h) (tvI (tF h 111 5)).toNatClampNeg (tvI (tF h 111 1)).toInt) (bN (mF9 h (tA h 121 (tA h 152 c.toNatClampNeg).toNatClampNeg)) (mT9 h) (tvI (tF h 111 59)).toNatClampNeg (tvI (tF h 111 1)).toInt) (bN (mD9 h (tA h 121 (tA h 152 c.toNatClampNeg).toNatClampNeg)) (mT9 h) (tvI (tF h 111 59)).toNatClampNeg (tvI (tF h 111 1)).toInt) (tA h 156 c.toNatClampNeg).toInt64 (tA h 155 c.toNatClampNeg).toInt64 (tA h 154 c.toNatClampNeg).toInt64 (kbW b) (lcV (lcM h (tA h 121 (tA h 152 c.toNatClampNeg).toNatClampNeg) (sPM (tA h 177) (tA h 176) ((tA h 152 c.toNatClampNeg)).toNatClampNeg ((tA h 153 c.toNatClampNeg)) (sPB (fun p => tA h 118 (12 * (tA h 121 ((tA h 152 c.toNatClampNeg)).toNatClampNeg).toNatClampNeg + p)) (tA h 122 ((tA h 152 c.toNatClampNeg)).toNatClampNeg) (tvI (tF h 111 4)).toNatClampNeg) (tvI (tF h 111 83)).toNatClampNeg) (tA h 154 c.toNatClampNeg) (tA h 155 c.toNatClampNeg))).toInt64 := by
                                rw [(show kbW b = _ from if_neg q1573), (show (lcV (lcM h (tA h 121 (tA h 152 c.toNatClampNeg).toNatClampNeg) (sPM (tA h 177) (tA h 176) ((tA h 152 c.toNatClampNeg)).toNatClampNeg ((tA h 153 c.toNatClampNeg)) (sPB (fun p => tA h 118 (12 * (tA h 121 ((tA h 152 c.toNatClampNeg)).toNatClampNeg).toNatClampNeg + p)) (tA h 122 ((tA h 152 c.toNatClampNeg)).toNatClampNeg) (tvI (tF h 111 4)).toNatClampNeg) (tvI (tF h 111 83)).toNatClampNeg) (tA h 154 c.toNatClampNeg) (tA h 155 c.toNatClampNeg))).toInt64 = _ from congrArg Int32.toInt64 (lcV_1 hy q1643).symm), eW]
                                exact jS_5 hQ
                              exact tw_lret rfl (Or.inl ⟨⟨by omega, by omega⟩, Or.inr ⟨b, _, hkb, hJ, some _, Or.inr ⟨i1, hi1, hit1, hfst1, rfl⟩, Or.inr ⟨_, some _, rfl, Or.inr ⟨i2, hi2, hit2, hfst2, rfl⟩, congrArg (fun z => some (Value.long z)) (Int64.toInt_inj.mp (by (try dsimp only [tvI_i, tvJ_j, tvR_r]); rw [jV_i]; omega))⟩⟩⟩)
                            · try dsimp only [tvI_i, tvJ_j, tvR_r] at q1702
                              refine tw_lload rfl rfl ?_
                              refine tw_goto rfl ?_
                              rw [ea156] at a1
                              rw [G1.2.2.1, eA] at a2
                              rw [G2.2.2.1, eA] at a3
                              try dsimp only [tvI_i, tvJ_j, tvR_r] at hQ
                              have eW := mJs_g a5 (mJs_g a4 (mJs_g a3 (mJs_g a2 (mJs_g a1 rfl))))
                              have hJ : jS (tJ b5 143) (tvI (tF h 111 1)).toInt64 (tA h 121 (tA h 152 c.toNatClampNeg).toNatClampNeg).toInt64 (tA h 114 (tA h 121 (tA h 152 c.toNatClampNeg).toNatClampNeg).toNatClampNeg).toInt64 (tA h 122 (tA h 152 c.toNatClampNeg).toNatClampNeg).toInt64 (bN (mK9 h (tA h 121 (tA h 152 c.toNatClampNeg).toNatClampNeg) (tvI (tF h 111 1))) (tK9 h) (tvI (tF h 111 5)).toNatClampNeg (tvI (tF h 111 1)).toInt) (bN (mF9 h (tA h 121 (tA h 152 c.toNatClampNeg).toNatClampNeg)) (mT9 h) (tvI (tF h 111 59)).toNatClampNeg (tvI (tF h 111 1)).toInt) (bN (mD9 h (tA h 121 (tA h 152 c.toNatClampNeg).toNatClampNeg)) (mT9 h) (tvI (tF h 111 59)).toNatClampNeg (tvI (tF h 111 1)).toInt) (tA h 156 c.toNatClampNeg).toInt64 (tA h 155 c.toNatClampNeg).toInt64 (tA h 154 c.toNatClampNeg).toInt64 (kbW b) (lcV (lcM h (tA h 121 (tA h 152 c.toNatClampNeg).toNatClampNeg) (sPM (tA h 177) (tA h 176) ((tA h 152 c.toNatClampNeg)).toNatClampNeg ((tA h 153 c.toNatClampNeg)) (sPB (fun p => tA h 118 (12 * (tA h 121 ((tA h 152 c.toNatClampNeg)).toNatClampNeg).toNatClampNeg + p)) (tA h 122 ((tA h 152 c.toNatClampNeg)).toNatClampNeg) (tvI (tF h 111 4)).toNatClampNeg) (tvI (tF h 111 83)).toNatClampNeg) (tA h 154 c.toNatClampNeg) (tA h 155 c.toNatClampNeg))).toInt64 := by
                                rw [(show kbW b = _ from if_neg q1573), (show (lcV (lcM h (tA h 121 (tA h 152 c.toNatClampNeg).toNatClampNeg) (sPM (tA h 177) (tA h 176) ((tA h 152 c.toNatClampNeg)).toNatClampNeg ((tA h 153 c.toNatClampNeg)) (sPB (fun p => tA h 118 (12 * (tA h 121 ((tA h 152 c.toNatClampNeg)).toNatClampNeg).toNatClampNeg + p)) (tA h 122 ((tA h 152 c.toNatClampNeg)).toNatClampNeg) (tvI (tF h 111 4)).toNatClampNeg) (tvI (tF h 111 83)).toNatClampNeg) (tA h 154 c.toNatClampNeg) (tA h 155 c.toNatClampNeg))).toInt64 = _ from congrArg Int32.toInt64 (lcV_1 hy q1643).symm), eW]
                                exact jS_5 hQ
                              exact tw_lret rfl (Or.inl ⟨⟨by omega, by omega⟩, Or.inr ⟨b, _, hkb, hJ, some _, Or.inr ⟨i1, hi1, hit1, hfst1, rfl⟩, Or.inr ⟨_, some _, rfl, Or.inr ⟨i2, hi2, hit2, hfst2, rfl⟩, congrArg (fun z => some (Value.long z)) (Int64.toInt_inj.mp (by (try dsimp only [tvI_i, tvJ_j, tvR_r]); rw [jV_i]; omega))⟩⟩⟩)
                          · try dsimp only [tvI_i, tvJ_j, tvR_r] at q1701
                            refine tw_push rfl ?_
                            refine tw_goto rfl ?_
                            refine tw_lstore rfl ?_
                            refine tw_lload rfl rfl ?_
                            refine tw_lload rfl rfl ?_
                            refine tw_lc_le rfl rfl (fun q1703 => ?_) (fun q1703 => ?_)
                            · try dsimp only [tvI_i, tvJ_j, tvR_r] at q1703
                              refine tw_lload rfl rfl ?_
                              rw [ea156] at a1
                              rw [G1.2.2.1, eA] at a2
                              rw [G2.2.2.1, eA] at a3
                              try dsimp only [tvI_i, tvJ_j, tvR_r] at hQ
                              have eW := mJs_g a5 (mJs_g a4 (mJs_g a3 (mJs_g a2 (mJs_g a1 rfl))))
                              have hJ : jS (tJ b5 143) (tvI (tF h 111 1)).toInt64 (tA h 121 (tA h 152 c.toNatClampNeg).toNatClampNeg).toInt64 (tA h 114 (tA h 121 (tA h 152 c.toNatClampNeg).toNatClampNeg).toNatClampNeg).toInt64 (tA h 122 (tA h 152 c.toNatClampNeg).toNatClampNeg).toInt64 (bN (mK9 h (tA h 121 (tA h 152 c.toNatClampNeg).toNatClampNeg) (tvI (tF h 111 1))) (tK9 h) (tvI (tF h 111 5)).toNatClampNeg (tvI (tF h 111 1)).toInt) (bN (mF9 h (tA h 121 (tA h 152 c.toNatClampNeg).toNatClampNeg)) (mT9 h) (tvI (tF h 111 59)).toNatClampNeg (tvI (tF h 111 1)).toInt) (bN (mD9 h (tA h 121 (tA h 152 c.toNatClampNeg).toNatClampNeg)) (mT9 h) (tvI (tF h 111 59)).toNatClampNeg (tvI (tF h 111 1)).toInt) (tA h 156 c.toNatClampNeg).toInt64 (tA h 155 c.toNatClampNeg).toInt64 (tA h 154 c.toNatClampNeg).toInt64 (kbW b) (lcV (lcM h (tA h 121 (tA h 152 c.toNatClampNeg).toNatClampNeg) (sPM (tA h 177) (tA h 176) ((tA h 152 c.toNatClampNeg)).toNatClampNeg ((tA h 153 c.toNatClampNeg)) (sPB (fun p => tA h 118 (12 * (tA h 121 ((tA h 152 c.toNatClampNeg)).toNatClampNeg).toNatClampNeg + p)) (tA h 122 ((tA h 152 c.toNatClampNeg)).toNatClampNeg) (tvI (tF h 111 4)).toNatClampNeg) (tvI (tF h 111 83)).toNatClampNeg) (tA h 154 c.toNatClampNeg) (tA h 155 c.toNatClampNeg))).toInt64 := by
                                rw [(show kbW b = _ from if_neg q1573), (show (lcV (lcM h (tA h 121 (tA h 152 c.toNatClampNeg).toNatClampNeg) (sPM (tA h 177) (tA h 176) ((tA h 152 c.toNatClampNeg)).toNatClampNeg ((tA h 153 c.toNatClampNeg)) (sPB (fun p => tA h 118 (12 * (tA h 121 ((tA h 152 c.toNatClampNeg)).toNatClampNeg).toNatClampNeg + p)) (tA h 122 ((tA h 152 c.toNatClampNeg)).toNatClampNeg) (tvI (tF h 111 4)).toNatClampNeg) (tvI (tF h 111 83)).toNatClampNeg) (tA h 154 c.toNatClampNeg) (tA h 155 c.toNatClampNeg))).toInt64 = _ from congrArg Int32.toInt64 (lcV_1 hy q1643).symm), eW]
                                exact jS_5 hQ
                              exact tw_lret rfl (Or.inl ⟨⟨by omega, by omega⟩, Or.inr ⟨b, _, hkb, hJ, some _, Or.inr ⟨i1, hi1, hit1, hfst1, rfl⟩, Or.inr ⟨_, some _, rfl, Or.inr ⟨i2, hi2, hit2, hfst2, rfl⟩, congrArg (fun z => some (Value.long z)) (Int64.toInt_inj.mp (by (try dsimp only [tvI_i, tvJ_j, tvR_r]); rw [jV_i]; omega))⟩⟩⟩)
                            · try dsimp only [tvI_i, tvJ_j, tvR_r] at q1703
                              refine tw_lload rfl rfl ?_
                              refine tw_goto rfl ?_
                              rw [ea156] at a1
                              rw [G1.2.2.1, eA] at a2
                              rw [G2.2.2.1, eA] at a3
                              try dsimp only [tvI_i, tvJ_j, tvR_r] at hQ
                              have eW := mJs_g a5 (mJs_g a4 (mJs_g a3 (mJs_g a2 (mJs_g a1 rfl))))
                              have hJ : jS (tJ b5 143) (tvI (tF h 111 1)).toInt64 (tA h 121 (tA h 152 c.toNatClampNeg).toNatClampNeg).toInt64 (tA h 114 (tA h 121 (tA h 152 c.toNatClampNeg).toNatClampNeg).toNatClampNeg).toInt64 (tA h 122 (tA h 152 c.toNatClampNeg).toNatClampNeg).toInt64 (bN (mK9 h (tA h 121 (tA h 152 c.toNatClampNeg).toNatClampNeg) (tvI (tF h 111 1))) (tK9 h) (tvI (tF h 111 5)).toNatClampNeg (tvI (tF h 111 1)).toInt) (bN (mF9 h (tA h 121 (tA h 152 c.toNatClampNeg).toNatClampNeg)) (mT9 h) (tvI (tF h 111 59)).toNatClampNeg (tvI (tF h 111 1)).toInt) (bN (mD9 h (tA h 121 (tA h 152 c.toNatClampNeg).toNatClampNeg)) (mT9 h) (tvI (tF h 111 59)).toNatClampNeg (tvI (tF h 111 1)).toInt) (tA h 156 c.toNatClampNeg).toInt64 (tA h 155 c.toNatClampNeg).toInt64 (tA h 154 c.toNatClampNeg).toInt64 (kbW b) (lcV (lcM h (tA h 121 (tA h 152 c.toNatClampNeg).toNatClampNeg) (sPM (tA h 177) (tA h 176) ((tA h 152 c.toNatClampNeg)).toNatClampNeg ((tA h 153 c.toNatClampNeg)) (sPB (fun p => tA h 118 (12 * (tA h 121 ((tA h 152 c.toNatClampNeg)).toNatClampNeg).toNatClampNeg + p)) (tA h 122 ((tA h 152 c.toNatClampNeg)).toNatClampNeg) (tvI (tF h 111 4)).toNatClampNeg) (tvI (tF h 111 83)).toNatClampNeg) (tA h 154 c.toNatClampNeg) (tA h 155 c.toNatClampNeg))).toInt64 := by
                                rw [(show kbW b = _ from if_neg q1573), (show (lcV (lcM h (tA h 121 (tA h 152 c.toNatClampNeg).toNatClampNeg) (sPM (tA h 177) (tA h 176) ((tA h 152 c.toNatClampNeg)).toNatClampNeg ((tA h 153 c.toNatClampNeg)) (sPB (fun p => tA h 118 (12 * (tA h 121 ((tA h 152 c.toNatClampNeg)).toNatClampNeg).toNatClampNeg + p)) (tA h 122 ((tA h 152 c.toNatClampNeg)).toNatClampNeg) (tvI (tF h 111 4)).toNatClampNeg) (tvI (tF h 111 83)).toNatClampNeg) (tA h 154 c.toNatClampNeg) (tA h 155 c.toNatClampNeg))).toInt64 = _ from congrArg Int32.toInt64 (lcV_1 hy q1643).symm), eW]
                                exact jS_5 hQ
                              exact tw_lret rfl (Or.inl ⟨⟨by omega, by omega⟩, Or.inr ⟨b, _, hkb, hJ, some _, Or.inr ⟨i1, hi1, hit1, hfst1, rfl⟩, Or.inr ⟨_, some _, rfl, Or.inr ⟨i2, hi2, hit2, hfst2, rfl⟩, congrArg (fun z => some (Value.long z)) (Int64.toInt_inj.mp (by (try dsimp only [tvI_i, tvJ_j, tvR_r]); rw [jV_i]; omega))⟩⟩⟩)
                        · try dsimp only [tvI_i, tvJ_j, tvR_r] at q1697
                          have q1697i := zeqi (Y := (-1)) (by decide) q1697
                          exfalso
                          have k9 : (-1 : Int32).toInt = -1 := rfl
                          omega
                      · try dsimp only [tvI_i, tvJ_j, tvR_r] at q1696
                        refine tw_push rfl ?_
                        refine tw_goto rfl ?_
                        refine tw_lstore rfl ?_
                        refine tw_iload rfl rfl ?_
                        refine tw_push rfl ?_
                        refine tw_ic_ne rfl (fun q1704 => ?_) (fun q1704 => ?_)
                        · try dsimp only [tvI_i, tvJ_j, tvR_r] at q1704
                          have q1704i := zneq (Y := (-1)) (by decide) q1704
                          refine tw_aload rfl rfl ?_
                          refine tw_iload rfl rfl ?_
                          refine tw_aload rfl rfl ?_
                          refine tw_getS rfl (hs_111_40 FC1.1) ?_
                          refine tw_iload rfl rfl ?_
                          refine tw_iald rfl (fun f1705 => ?_)
                          refine tw_aload rfl rfl ?_
                          refine tw_getS rfl (hs_111_41 FC1.1) ?_
                          refine tw_iload rfl rfl ?_
                          refine tw_iald rfl (fun f1706 => ?_)
                          refine tw_virt3 rfl (g_answer hG FC1.1 d1 d2 (v12 _ LC1.2.2.1) (e := slc (cs (tvI (tF h 111 1))) (cl (tvI (tF h 111 1)) i2).2.1 (cl (tvI (tF h 111 1)) i2).2.2.1) (t := false) ((v22 _ LC1.2.2.1).trans (congrArg Nat.cast s12)) (by rw [← s12]; have := d3.big; omega) (by rw [LC1.2.2.1]; exact h133) (by rw [LC1.2.2.1]; exact h134) (by rw [LC1.2.2.1]; exact cdAt_h s52 s62 d3.cod) s32 s42) (fun wp1707 hp1707 p1707 => ?_)
                          obtain ⟨rfl, FC2⟩ := p1707
                          rw [FC1.2.2.2.2.2 143 (by decide), FB2.2.2.2.2.2 143 (by decide), FB1.2.2.2.2.2 143 (by decide)]
                          have k0 : (0 : Int64).toInt = 0 := by decide
                          refine tw_lstore rfl ?_
                          refine tw_lload rfl rfl ?_
                          refine tw_push rfl ?_
                          refine tw_lc_ge rfl rfl (fun q1708 => ?_) (fun q1708 => ?_)
                          · try dsimp only [tvI_i, tvJ_j, tvR_r] at q1708
                            refine tw_lload rfl rfl ?_
                            refine tw_lstore rfl ?_
                            refine tw_lload rfl rfl ?_
                            refine tw_lload rfl rfl ?_
                            refine tw_lc_le rfl rfl (fun q1709 => ?_) (fun q1709 => ?_)
                            · try dsimp only [tvI_i, tvJ_j, tvR_r] at q1709
                              refine tw_lload rfl rfl ?_
                              rw [ea156] at a1
                              rw [G1.2.2.1, eA] at a2
                              rw [G2.2.2.1, eA] at a3
                              try dsimp only [tvI_i, tvJ_j, tvR_r] at hQ
                              have eW := mJs_g a5 (mJs_g a4 (mJs_g a3 (mJs_g a2 (mJs_g a1 rfl))))
                              have hJ : jS (tJ b5 143) (tvI (tF h 111 1)).toInt64 (tA h 121 (tA h 152 c.toNatClampNeg).toNatClampNeg).toInt64 (tA h 114 (tA h 121 (tA h 152 c.toNatClampNeg).toNatClampNeg).toNatClampNeg).toInt64 (tA h 122 (tA h 152 c.toNatClampNeg).toNatClampNeg).toInt64 (bN (mK9 h (tA h 121 (tA h 152 c.toNatClampNeg).toNatClampNeg) (tvI (tF h 111 1))) (tK9 h) (tvI (tF h 111 5)).toNatClampNeg (tvI (tF h 111 1)).toInt) (bN (mF9 h (tA h 121 (tA h 152 c.toNatClampNeg).toNatClampNeg)) (mT9 h) (tvI (tF h 111 59)).toNatClampNeg (tvI (tF h 111 1)).toInt) (bN (mD9 h (tA h 121 (tA h 152 c.toNatClampNeg).toNatClampNeg)) (mT9 h) (tvI (tF h 111 59)).toNatClampNeg (tvI (tF h 111 1)).toInt) (tA h 156 c.toNatClampNeg).toInt64 (tA h 155 c.toNatClampNeg).toInt64 (tA h 154 c.toNatClampNeg).toInt64 (kbW b) (lcV (lcM h (tA h 121 (tA h 152 c.toNatClampNeg).toNatClampNeg) (sPM (tA h 177) (tA h 176) ((tA h 152 c.toNatClampNeg)).toNatClampNeg ((tA h 153 c.toNatClampNeg)) (sPB (fun p => tA h 118 (12 * (tA h 121 ((tA h 152 c.toNatClampNeg)).toNatClampNeg).toNatClampNeg + p)) (tA h 122 ((tA h 152 c.toNatClampNeg)).toNatClampNeg) (tvI (tF h 111 4)).toNatClampNeg) (tvI (tF h 111 83)).toNatClampNeg) (tA h 154 c.toNatClampNeg) (tA h 155 c.toNatClampNeg))).toInt64 := by
                                rw [(show kbW b = _ from if_neg q1573), (show (lcV (lcM h (tA h 121 (tA h 152 c.toNatClampNeg).toNatClampNeg) (sPM (tA h 177) (tA h 176) ((tA h 152 c.toNatClampNeg)).toNatClampNeg ((tA h 153 c.toNatClampNeg)) (sPB (fun p => tA h 118 (12 * (tA h 121 ((tA h 152 c.toNatClampNeg)).toNatClampNeg).toNatClampNeg + p)) (tA h 122 ((tA h 152 c.toNatClampNeg)).toNatClampNeg) (tvI (tF h 111 4)).toNatClampNeg) (tvI (tF h 111 83)).toNatClampNeg) (tA h 154 c.toNatClampNeg) (tA h 155 c.toNatClampNeg))).toInt64 = _ from congrArg Int32.toInt64 (lcV_1 hy q1643).symm), eW]
                                exact jS_5 hQ
                              exact tw_lret rfl (Or.inl ⟨⟨by omega, by omega⟩, Or.inr ⟨b, _, hkb, hJ, some _, Or.inr ⟨i1, hi1, hit1, hfst1, rfl⟩, Or.inr ⟨_, some _, rfl, Or.inr ⟨i2, hi2, hit2, hfst2, rfl⟩, congrArg (fun z => some (Value.long z)) (Int64.toInt_inj.mp (by (try dsimp only [tvI_i, tvJ_j, tvR_r]); rw [jV_i]; omega))⟩⟩⟩)
                            · try dsimp only [tvI_i, tvJ_j, tvR_r] at q1709
                              refine tw_lload rfl rfl ?_
                              refine tw_goto rfl ?_
                              rw [ea156] at a1
                              rw [G1.2.2.1, eA] at a2
                              rw [G2.2.2.1, eA] at a3
                              try dsimp only [tvI_i, tvJ_j, tvR_r] at hQ
                              have eW := mJs_g a5 (mJs_g a4 (mJs_g a3 (mJs_g a2 (mJs_g a1 rfl))))
                              have hJ : jS (tJ b5 143) (tvI (tF h 111 1)).toInt64 (tA h 121 (tA h 152 c.toNatClampNeg).toNatClampNeg).toInt64 (tA h 114 (tA h 121 (tA h 152 c.toNatClampNeg).toNatClampNeg).toNatClampNeg).toInt64 (tA h 122 (tA h 152 c.toNatClampNeg).toNatClampNeg).toInt64 (bN (mK9 h (tA h 121 (tA h 152 c.toNatClampNeg).toNatClampNeg) (tvI (tF h 111 1))) (tK9 h) (tvI (tF h 111 5)).toNatClampNeg (tvI (tF h 111 1)).toInt) (bN (mF9 h (tA h 121 (tA h 152 c.toNatClampNeg).toNatClampNeg)) (mT9 h) (tvI (tF h 111 59)).toNatClampNeg (tvI (tF h 111 1)).toInt) (bN (mD9 h (tA h 121 (tA h 152 c.toNatClampNeg).toNatClampNeg)) (mT9 h) (tvI (tF h 111 59)).toNatClampNeg (tvI (tF h 111 1)).toInt) (tA h 156 c.toNatClampNeg).toInt64 (tA h 155 c.toNatClampNeg).toInt64 (tA h 154 c.toNatClampNeg).toInt64 (kbW b) (lcV (lcM h (tA h 121 (tA h 152 c.toNatClampNeg).toNatClampNeg) (sPM (tA h 177) (tA h 176) ((tA h 152 c.toNatClampNeg)).toNatClampNeg ((tA h 153 c.toNatClampNeg)) (sPB (fun p => tA h 118 (12 * (tA h 121 ((tA h 152 c.toNatClampNeg)).toNatClampNeg).toNatClampNeg + p)) (tA h 122 ((tA h 152 c.toNatClampNeg)).toNatClampNeg) (tvI (tF h 111 4)).toNatClampNeg) (tvI (tF h 111 83)).toNatClampNeg) (tA h 154 c.toNatClampNeg) (tA h 155 c.toNatClampNeg))).toInt64 := by
                                rw [(show kbW b = _ from if_neg q1573), (show (lcV (lcM h (tA h 121 (tA h 152 c.toNatClampNeg).toNatClampNeg) (sPM (tA h 177) (tA h 176) ((tA h 152 c.toNatClampNeg)).toNatClampNeg ((tA h 153 c.toNatClampNeg)) (sPB (fun p => tA h 118 (12 * (tA h 121 ((tA h 152 c.toNatClampNeg)).toNatClampNeg).toNatClampNeg + p)) (tA h 122 ((tA h 152 c.toNatClampNeg)).toNatClampNeg) (tvI (tF h 111 4)).toNatClampNeg) (tvI (tF h 111 83)).toNatClampNeg) (tA h 154 c.toNatClampNeg) (tA h 155 c.toNatClampNeg))).toInt64 = _ from congrArg Int32.toInt64 (lcV_1 hy q1643).symm), eW]
                                exact jS_5 hQ
                              exact tw_lret rfl (Or.inl ⟨⟨by omega, by omega⟩, Or.inr ⟨b, _, hkb, hJ, some _, Or.inr ⟨i1, hi1, hit1, hfst1, rfl⟩, Or.inr ⟨_, some _, rfl, Or.inr ⟨i2, hi2, hit2, hfst2, rfl⟩, congrArg (fun z => some (Value.long z)) (Int64.toInt_inj.mp (by (try dsimp only [tvI_i, tvJ_j, tvR_r]); rw [jV_i]; omega))⟩⟩⟩)
                          · try dsimp only [tvI_i, tvJ_j, tvR_r] at q1708
                            refine tw_push rfl ?_
                            refine tw_goto rfl ?_
                            refine tw_lstore rfl ?_
                            refine tw_lload rfl rfl ?_
                            refine tw_lload rfl rfl ?_
                            refine tw_lc_le rfl rfl (fun _ => ?_) (fun z => absurd z (by decide))
                            refine tw_lload rfl rfl ?_
                            rw [ea156] at a1
                            rw [G1.2.2.1, eA] at a2
                            rw [G2.2.2.1, eA] at a3
                            try dsimp only [tvI_i, tvJ_j, tvR_r] at hQ
                            have eW := mJs_g a5 (mJs_g a4 (mJs_g a3 (mJs_g a2 (mJs_g a1 rfl))))
                            have hJ : jS (tJ b5 143) (tvI (tF h 111 1)).toInt64 (tA h 121 (tA h 152 c.toNatClampNeg).toNatClampNeg).toInt64 (tA h 114 (tA h 121 (tA h 152 c.toNatClampNeg).toNatClampNeg).toNatClampNeg).toInt64 (tA h 122 (tA h 152 c.toNatClampNeg).toNatClampNeg).toInt64 (bN (mK9 h (tA h 121 (tA h 152 c.toNatClampNeg).toNatClampNeg) (tvI (tF h 111 1))) (tK9 h) (tvI (tF h 111 5)).toNatClampNeg (tvI (tF h 111 1)).toInt) (bN (mF9 h (tA h 121 (tA h 152 c.toNatClampNeg).toNatClampNeg)) (mT9 h) (tvI (tF h 111 59)).toNatClampNeg (tvI (tF h 111 1)).toInt) (bN (mD9 h (tA h 121 (tA h 152 c.toNatClampNeg).toNatClampNeg)) (mT9 h) (tvI (tF h 111 59)).toNatClampNeg (tvI (tF h 111 1)).toInt) (tA h 156 c.toNatClampNeg).toInt64 (tA h 155 c.toNatClampNeg).toInt64 (tA h 154 c.toNatClampNeg).toInt64 (kbW b) (lcV (lcM h (tA h 121 (tA h 152 c.toNatClampNeg).toNatClampNeg) (sPM (tA h 177) (tA h 176) ((tA h 152 c.toNatClampNeg)).toNatClampNeg ((tA h 153 c.toNatClampNeg)) (sPB (fun p => tA h 118 (12 * (tA h 121 ((tA h 152 c.toNatClampNeg)).toNatClampNeg).toNatClampNeg + p)) (tA h 122 ((tA h 152 c.toNatClampNeg)).toNatClampNeg) (tvI (tF h 111 4)).toNatClampNeg) (tvI (tF h 111 83)).toNatClampNeg) (tA h 154 c.toNatClampNeg) (tA h 155 c.toNatClampNeg))).toInt64 := by
                              rw [(show kbW b = _ from if_neg q1573), (show (lcV (lcM h (tA h 121 (tA h 152 c.toNatClampNeg).toNatClampNeg) (sPM (tA h 177) (tA h 176) ((tA h 152 c.toNatClampNeg)).toNatClampNeg ((tA h 153 c.toNatClampNeg)) (sPB (fun p => tA h 118 (12 * (tA h 121 ((tA h 152 c.toNatClampNeg)).toNatClampNeg).toNatClampNeg + p)) (tA h 122 ((tA h 152 c.toNatClampNeg)).toNatClampNeg) (tvI (tF h 111 4)).toNatClampNeg) (tvI (tF h 111 83)).toNatClampNeg) (tA h 154 c.toNatClampNeg) (tA h 155 c.toNatClampNeg))).toInt64 = _ from congrArg Int32.toInt64 (lcV_1 hy q1643).symm), eW]
                              exact jS_5 hQ
                            exact tw_lret rfl (Or.inl ⟨⟨by omega, by omega⟩, Or.inr ⟨b, _, hkb, hJ, some _, Or.inr ⟨i1, hi1, hit1, hfst1, rfl⟩, Or.inr ⟨_, some _, rfl, Or.inr ⟨i2, hi2, hit2, hfst2, rfl⟩, congrArg (fun z => some (Value.long z)) (Int64.toInt_inj.mp (by (try dsimp only [tvI_i, tvJ_j, tvR_r]); rw [jV_i]; omega))⟩⟩⟩)
                        · try dsimp only [tvI_i, tvJ_j, tvR_r] at q1704
                          have q1704i := zeqi (Y := (-1)) (by decide) q1704
                          exfalso
                          have k9 : (-1 : Int32).toInt = -1 := rfl
                          omega
                    · try dsimp only [tvI_i, tvJ_j, tvR_r] at q1692
                      have q1692i := zeqi (Y := (-1)) (by decide) q1692
                      exfalso
                      have k9 : (-1 : Int32).toInt = -1 := rfl
                      omega
          · try dsimp only [tvI_i, tvJ_j, tvR_r] at q1564
            refine tw_aload rfl rfl ?_
            refine tw_iload rfl rfl ?_
            refine tw_aload rfl rfl ?_
            refine tw_getS rfl (hs_111_61 hF.1) ?_
            refine tw_iload rfl rfl ?_
            refine tw_iald rfl (fun f1710 => ?_)
            refine tw_aload rfl rfl ?_
            refine tw_getS rfl (hs_111_62 hF.1) ?_
            refine tw_iload rfl rfl ?_
            refine tw_iald rfl (fun f1711 => ?_)
            refine tw_aload rfl rfl ?_
            refine tw_getS rfl (hs_111_63 hF.1) ?_
            refine tw_iload rfl rfl ?_
            refine tw_iald rfl (fun f1712 => ?_)
            refine tw_iload rfl rfl ?_
            refine tw_virt5 rfl (g_burnsIn hG hF.1 hm4b h83b hn5b hKKb ⟨(h152 _ (by rw [zclE]; omega)).1, Int.lt_of_le_of_lt (h152 _ (by rw [zclE]; omega)).2 (by decide)⟩ (by rw [eA]; exact h154 c.toNatClampNeg (by rw [zclE]; omega))) (fun w9 h9 p1713 => ?_)
            obtain ⟨⟨p1713, rfl⟩ | ⟨p1713, rfl⟩, e9⟩ := p1713
            · try dsimp only [tvI_i, tvJ_j, tvR_r] at p1713
              obtain rfl := e9.symm
              refine tw_if_ne rfl (fun _ => ?_) (fun z => absurd z (by decide))
              refine tw_push rfl ?_
              refine tw_istore rfl ?_
              refine tw_iload rfl rfl ?_
              refine tw_if_eq rfl (fun _ => ?_) (fun z => absurd z (by decide))
              refine tw_iload rfl rfl ?_
              refine tw_istore rfl ?_
              refine tw_iinc rfl rfl ?_
              refine tw_goto rfl ?_
              have zo : z = Int32.ofNat n := zof hz
              have zn := zof_cl hz
              have hz1 : (z + 1).toInt = ((n + 1 : Nat) : Int) := zincN hz (by omega)
              rw [eA, eF, zo] at p1713
              exact tG_cut (zW_mono zTt G dp) (Or.inr ⟨rfl, rfl, rfl, n + 1, z + 1, _, _, _, _, _, _, hz1, by omega, lcS_n hy (fun w => w.1 p1713), rfl⟩)
            · try dsimp only [tvI_i, tvJ_j, tvR_r] at p1713
              obtain rfl := e9.symm
              refine tw_if_ne rfl (fun z => absurd z (by decide)) (fun _ => ?_)
              refine tw_push rfl ?_
              refine tw_goto rfl ?_
              refine tw_istore rfl ?_
              refine tw_iload rfl rfl ?_
              refine tw_if_eq rfl (fun z => absurd z (by decide)) (fun _ => ?_)
              refine tw_iload rfl rfl ?_
              refine tw_push rfl ?_
              refine tw_ic_eq rfl (fun q1714 => ?_) (fun q1714 => ?_)
              · try dsimp only [tvI_i, tvJ_j, tvR_r] at q1714
                have q1714i := zeqi (Y := (-1)) (by decide) q1714
                refine tw_aload rfl rfl ?_
                refine tw_getS rfl (hs_111_11 hF.1) ?_
                refine tw_iload rfl rfl ?_
                refine tw_iald rfl (fun f1715 => ?_)
                refine tw_goto rfl ?_
                refine tw_istore rfl ?_
                refine tw_iinc rfl rfl ?_
                refine tw_goto rfl ?_
                have zo : z = Int32.ofNat n := zof hz
                have zn := zof_cl hz
                have hz1 : (z + 1).toInt = ((n + 1 : Nat) : Int) := zincN hz (by omega)
                rw [eA, eF, zo] at p1713
                exact tG_cut (zW_mono zTt G dp) (Or.inr ⟨rfl, rfl, rfl, n + 1, z + 1, _, _, _, _, _, _, hz1, by omega, (by show tA h1 116 z.toNatClampNeg = _; rw [zn, eA]; exact lcS_y hy p1713 (Or.inl q1714)), rfl⟩)
              · try dsimp only [tvI_i, tvJ_j, tvR_r] at q1714
                have q1714i := zneq (Y := (-1)) (by decide) q1714
                refine tw_aload rfl rfl ?_
                refine tw_getS rfl (hs_111_11 hF.1) ?_
                refine tw_iload rfl rfl ?_
                refine tw_iald rfl (fun f1716 => ?_)
                refine tw_iload rfl rfl ?_
                refine tw_ic_ge rfl (fun q1717 => ?_) (fun q1717 => ?_)
                · try dsimp only [tvI_i, tvJ_j, tvR_r] at q1717
                  refine tw_iload rfl rfl ?_
                  refine tw_istore rfl ?_
                  refine tw_iinc rfl rfl ?_
                  refine tw_goto rfl ?_
                  have zo : z = Int32.ofNat n := zof hz
                  have zn := zof_cl hz
                  have hz1 : (z + 1).toInt = ((n + 1 : Nat) : Int) := zincN hz (by omega)
                  rw [eA, eF, zo] at p1713
                  rw [zn, eA] at q1717
                  exact tG_cut (zW_mono zTt G dp) (Or.inr ⟨rfl, rfl, rfl, n + 1, z + 1, _, _, _, _, _, _, hz1, by omega, lcS_n hy (fun w => w.2.elim q1714 (fun w2 => absurd w2 (by omega))), rfl⟩)
                · try dsimp only [tvI_i, tvJ_j, tvR_r] at q1717
                  refine tw_aload rfl rfl ?_
                  refine tw_getS rfl (hs_111_11 hF.1) ?_
                  refine tw_iload rfl rfl ?_
                  refine tw_iald rfl (fun f1718 => ?_)
                  refine tw_goto rfl ?_
                  refine tw_istore rfl ?_
                  refine tw_iinc rfl rfl ?_
                  refine tw_goto rfl ?_
                  have zo : z = Int32.ofNat n := zof hz
                  have zn := zof_cl hz
                  have hz1 : (z + 1).toInt = ((n + 1 : Nat) : Int) := zincN hz (by omega)
                  rw [eA, eF, zo] at p1713
                  rw [zn, eA] at q1717
                  exact tG_cut (zW_mono zTt G dp) (Or.inr ⟨rfl, rfl, rfl, n + 1, z + 1, _, _, _, _, _, _, hz1, by omega, (by show tA h1 116 z.toNatClampNeg = _; rw [zn, eA]; exact lcS_y hy p1713 (Or.inr q1717)), rfl⟩)
        · try dsimp only [tvI_i, tvJ_j, tvR_r] at q1563
          have eA := hF.2.2.1
          have eF := hF.2.1
          have zo : z = Int32.ofNat n := zof hz
          have zn := zof_cl hz
          have hz1 : (z + 1).toInt = ((n + 1 : Nat) : Int) := zincN hz (by omega)
          have k1 : (-1 : Int32).toInt = -1 := rfl
          refine tw_aload rfl rfl ?_
          refine tw_getS rfl (hs_111_7 hF.1) ?_
          refine tw_iload rfl rfl ?_
          refine tw_iald rfl (fun f1719 => ?_)
          refine tw_aload rfl rfl ?_
          refine tw_getS rfl (hs_111_9 hF.1) ?_
          refine tw_iload rfl rfl ?_
          refine tw_iald rfl (fun f1720 => ?_)
          refine tw_ic_ne rfl (fun q1721 => ?_) (fun q1721 => ?_)
          · try dsimp only [tvI_i, tvJ_j, tvR_r] at q1721
            have q1721i := zneq rfl q1721
            refine tw_push rfl ?_
            refine tw_istore rfl ?_
            refine tw_iload rfl rfl ?_
            refine tw_if_ne rfl (fun q1722 => ?_) (fun q1722 => ?_)
            · try dsimp only [tvI_i, tvJ_j, tvR_r] at q1722
              have q1722i := zneq (Y := 0) (by decide) q1722
              refine tw_push rfl ?_
              refine tw_goto rfl ?_
              refine tw_istore rfl ?_
              refine tw_iinc rfl rfl ?_
              refine tw_goto rfl ?_
              rw [zn, eA] at q1721
              exact tG_cut (zW_mono zTt G dp) (Or.inr ⟨rfl, rfl, _, n + 1, z + 1, _, _, _, _, _, _, _, rfl, hF, hz1, by omega, kbP_k hkb q1722, rfl⟩)
            · try dsimp only [tvI_i, tvJ_j, tvR_r] at q1722
              have q1722i := zeqi (Y := 0) (by decide) q1722
              refine tw_iload rfl rfl ?_
              refine tw_push rfl ?_
              refine tw_ic_eq rfl (fun _ => ?_) (fun z => absurd z (by decide))
              refine tw_push rfl ?_
              refine tw_istore rfl ?_
              refine tw_iinc rfl rfl ?_
              refine tw_goto rfl ?_
              rw [zn, eA] at q1721
              exact tG_cut (zW_mono zTt G dp) (Or.inr ⟨rfl, rfl, _, n + 1, z + 1, _, _, _, _, _, _, _, rfl, hF, hz1, by omega, kbP_n hkb q1722 (fun e => absurd e q1721), rfl⟩)
          · try dsimp only [tvI_i, tvJ_j, tvR_r] at q1721
            have q1721i := zeqi rfl q1721
            refine tw_aload rfl rfl ?_
            refine tw_iload rfl rfl ?_
            refine tw_iload rfl rfl ?_
            refine tw_aload rfl rfl ?_
            refine tw_getS rfl (hs_111_62 hF.1) ?_
            refine tw_iload rfl rfl ?_
            refine tw_iald rfl (fun f1723 => ?_)
            refine tw_virt3 rfl (g_knewThat hG hF.1 (K := K) (cs := cs) (cl := cl) (by rw [eA]; exact h154 c.toNatClampNeg (by rw [zclE]; omega)) (by rw [eF]; exact h1n) (by rw [eF]; exact h51) (by rw [eF]; exact hn) (by rw [eF]; exact h5) (by rw [eF]; exact h59) (by rw [eA]; exact h156) (by rw [eA]; exact h133) (by rw [eA]; exact h134) (by rw [eA]; exact h135) (by rw [eA]; exact h136) (by rw [eA]; exact h137) (by rw [eA]; exact h138) (by rw [eA]; exact h139) (fun m => by rw [eA, eF]; exact (D m).fr hF)) (fun w9 hp1724 p1724 => ?_)
            obtain ⟨KL, hw⟩ := p1724; rw [(km_e eA eF).1, (km_e eA eF).2, eA, eF, zo] at hw; obtain ⟨rfl, hno⟩ | ⟨j, hj, hY, hN, rfl⟩ := hw
            · have hF2 := lFr_t hF KL
              refine tw_goto rfl ?_
              refine tw_istore rfl ?_
              refine tw_iload rfl rfl ?_
              refine tw_if_ne rfl (fun q1725 => ?_) (fun q1725 => ?_)
              · try dsimp only [tvI_i, tvJ_j, tvR_r] at q1725
                have q1725i := zneq (Y := 0) (by decide) q1725
                refine tw_push rfl ?_
                refine tw_goto rfl ?_
                refine tw_istore rfl ?_
                refine tw_iinc rfl rfl ?_
                refine tw_goto rfl ?_
                rw [zn, eA] at q1721
                exact tG_cut (zW_mono zTt G dp) (Or.inr ⟨rfl, rfl, _, n + 1, z + 1, _, _, _, _, _, _, _, rfl, hF2, hz1, by omega, kbP_k hkb q1725, rfl⟩)
              · try dsimp only [tvI_i, tvJ_j, tvR_r] at q1725
                have q1725i := zeqi (Y := 0) (by decide) q1725
                refine tw_iload rfl rfl ?_
                refine tw_push rfl ?_
                refine tw_ic_eq rfl (fun _ => ?_) (fun z => absurd z (by decide))
                refine tw_push rfl ?_
                refine tw_istore rfl ?_
                refine tw_iinc rfl rfl ?_
                refine tw_goto rfl ?_
                rw [zn, eA] at q1721
                exact tG_cut (zW_mono zTt G dp) (Or.inr ⟨rfl, rfl, _, n + 1, z + 1, _, _, _, _, _, _, _, rfl, hF2, hz1, by omega, kbP_n hkb q1725 (fun _ i hi _ => hno i hi), rfl⟩)
            · have hF2 := lFr_t hF KL
              have hjo : (Int32.ofNat j).toInt = (j : Int) := yofN (by omega)
              refine tw_goto rfl ?_
              refine tw_istore rfl ?_
              refine tw_iload rfl rfl ?_
              refine tw_if_ne rfl (fun q1726 => ?_) (fun q1726 => ?_)
              · try dsimp only [tvI_i, tvJ_j, tvR_r] at q1726
                have q1726i := zneq (Y := 0) (by decide) q1726
                refine tw_push rfl ?_
                refine tw_goto rfl ?_
                refine tw_istore rfl ?_
                refine tw_iinc rfl rfl ?_
                refine tw_goto rfl ?_
                rw [zn, eA] at q1721
                exact tG_cut (zW_mono zTt G dp) (Or.inr ⟨rfl, rfl, _, n + 1, z + 1, _, _, _, _, _, _, _, rfl, hF2, hz1, by omega, kbP_k hkb q1726, rfl⟩)
              · try dsimp only [tvI_i, tvJ_j, tvR_r] at q1726
                have q1726i := zeqi (Y := 0) (by decide) q1726
                refine tw_iload rfl rfl ?_
                refine tw_push rfl ?_
                refine tw_ic_eq rfl (fun q1727 => ?_) (fun q1727 => ?_)
                · try dsimp only [tvI_i, tvJ_j, tvR_r] at q1727
                  have q1727i := zeqi (Y := (-1)) (by decide) q1727
                  exfalso
                  omega
                · try dsimp only [tvI_i, tvJ_j, tvR_r] at q1727
                  have q1727i := zneq (Y := (-1)) (by decide) q1727
                  refine tw_iload rfl rfl ?_
                  refine tw_aload rfl rfl ?_
                  refine tw_getS rfl (hs_111_61 KL.1) ?_
                  refine tw_iload rfl rfl ?_
                  refine tw_iald rfl (fun f1728 => ?_)
                  refine tw_ic_gt rfl (fun q1729 => ?_) (fun q1729 => ?_)
                  · try dsimp only [tvI_i, tvJ_j, tvR_r] at q1729
                    refine tw_push rfl ?_
                    refine tw_istore rfl ?_
                    refine tw_iinc rfl rfl ?_
                    refine tw_goto rfl ?_
                    rw [zn, eA] at q1721
                    rw [hF2.2.2.1] at q1729
                    exact tG_cut (zW_mono zTt G dp) (Or.inr ⟨rfl, rfl, _, n + 1, z + 1, _, _, _, _, _, _, _, rfl, hF2, hz1, by omega, kbP_n hkb q1726 (fun _ i hi hm => hN i (by omega)), rfl⟩)
                  · try dsimp only [tvI_i, tvJ_j, tvR_r] at q1729
                    refine tw_push rfl ?_
                    refine tw_goto rfl ?_
                    refine tw_istore rfl ?_
                    refine tw_iinc rfl rfl ?_
                    refine tw_goto rfl ?_
                    rw [zn, eA] at q1721
                    rw [hF2.2.2.1] at q1729
                    exact tG_cut (zW_mono zTt G dp) (Or.inr ⟨rfl, rfl, _, n + 1, z + 1, _, _, _, _, _, _, _, rfl, hF2, hz1, by omega, kbP_y (j := j) q1721 hj (by omega) hY, rfl⟩)
      · try dsimp only [tvI_i, tvJ_j, tvR_r] at q1560
        have q1560i := zeqi (Y := (-1)) (by decide) q1560
        refine tw_push rfl ?_
        exact tw_lret rfl (Or.inl ⟨⟨by omega, by omega⟩, Or.inl ⟨((D (tvI (tF h 111 1))).resolve_right (fun z => by obtain ⟨q9, z1, -⟩ := z; rw [q1560] at z1; have k9 : (-1 : Int32).toInt = -1 := rfl; omega)).2, rfl⟩⟩)
    · try dsimp only [tvI_i, tvJ_j, tvR_r] at q1558
      have q1558i := zeqi (Y := 0) (by decide) q1558
      refine tw_push rfl ?_
      exact tw_lret rfl (Or.inr ⟨by omega, rfl⟩)
  · try dsimp only [tvI_i, tvJ_j, tvR_r] at p1556
    obtain rfl := e9.symm
    refine tw_if_eq rfl (fun _ => ?_) (fun z => absurd z (by decide))
    refine tw_push rfl ?_
    exact tw_lret rfl (Or.inr ⟨by omega, rfl⟩)
