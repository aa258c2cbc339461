noncomputable def rCd (h : zH) (q a : Nat) : Prop := cArr h a = mEk h q (tN h a) ∧ tN h (a + 1) = 4 * (tA h 140 q).toNatClampNeg ∧ (∀ i, i < (tA h 140 q).toNatClampNeg → cQd h (a + 1) i = mRow h (12 * q + i) ∧ rOk (cArr h a) (mRow h (12 * q + i))) ∧ nVl (cArr h a) ≤ 80
theorem cArr_e {h h2 : zH} {a : Nat} (e1 : 0 < tN h a → tA h2 a = tA h a) (e2 : tN h2 a = tN h a) : cArr h2 a = cArr h a := by
  unfold cArr
  rw [e2]
  refine List.map_congr_left (fun i hi => ?_)
  have hi := List.mem_range.mp hi
  rw [e1 (by omega)]
theorem mEk_e {h h2 : zH} {q k : Nat} (e : ∀ i, i < 500 → tA h2 133 (500 * q + i) = tA h 133 (500 * q + i) ∧ tA h2 134 (500 * q + i) = tA h 134 (500 * q + i)) (hk : k ≤ 500) : mEk h2 q k = mEk h q k := by
  unfold mEk
  refine List.map_congr_left (fun i hi => ?_)
  have hi := List.mem_range.mp hi
  rw [(e i (by omega)).1, (e i (by omega)).2]
theorem cArr_len {h : zH} {a : Nat} : (cArr h a).length = tN h a := by unfold cArr; rw [List.length_map, List.length_range]
theorem rCd_fr {h h2 : zH} {q a : Nat} (k : rCd h q a) (hN : tN h a ≤ 400) (e1 : 0 < tN h a → tA h2 a = tA h a) (e2 : tN h2 a = tN h a) (e3 : 0 < tN h (a + 1) → tA h2 (a + 1) = tA h (a + 1)) (e4 : tN h2 (a + 1) = tN h (a + 1)) (o : ∀ i, i < 500 → tA h2 133 (500 * q + i) = tA h 133 (500 * q + i) ∧ tA h2 134 (500 * q + i) = tA h 134 (500 * q + i)) (o2 : tA h2 140 q = tA h 140 q) (o3 : ∀ i, i < (tA h 140 q).toNatClampNeg → mRow h2 (12 * q + i) = mRow h (12 * q + i)) : rCd h2 q a := by
  obtain ⟨k1, k2, k3, k4⟩ := k
  have eC := cArr_e e1 e2
  refine ⟨?_, ?_, fun i hi => ?_, ?_⟩
  · rw [eC, e2, k1]
    exact (mEk_e o (by omega)).symm
  · rw [e4, o2]
    exact k2
  · rw [o2] at hi
    rw [o3 i hi, eC]
    have y := k3 i hi
    refine ⟨?_, y.2⟩
    rw [← y.1]
    unfold cQd
    rw [e3 (by omega)]
  · rw [eC]
    exact k4
theorem mRow_e {h h2 : zH} {i : Nat} (o : ∀ p, 135 ≤ p → p ≤ 139 → tA h2 p i = tA h p i) : mRow h2 i = mRow h i := by
  unfold mRow
  rw [o 135 (by decide) (by decide), o 136 (by decide) (by decide), o 137 (by decide) (by decide), o 138 (by decide) (by decide), o 139 (by decide) (by decide)]
/-- what the two evaluators stand on -/
theorem rCd_D {xs : Nat → Int32} {τ : List Nat} {h : zH} {q a : Nat} (hB : zBs xs τ h) (hq : q < 10) (h50 : tO h 50 q = some a) (h51 : tO h 51 q = some (a + 1)) (k : rCd h q a) : rDt h a (a + 1) (tA h 140 q).toNatClampNeg (cArr h a) (fun i => mRow h (12 * q + i)) ∧ rDm h q (tA h 140 q).toNatClampNeg (cArr h a) (fun i => mRow h (12 * q + i)) := by
  obtain ⟨k1, k2, k3, k4⟩ := k
  have t1 := arr_tag hB (p := 50) (q := q) rfl rfl hq (by decide) h50
  have t2 := arr_tag hB (p := 51) (q := q) rfl rfl hq (by decide) h51
  obtain ⟨-, b2, b3⟩ := tkd_v hB t1 rfl
  obtain ⟨-, -, c3⟩ := tkd_v hB t2 rfl
  have d := (ka_140 hB).2 q hq
  have hK : (tA h 140 q).toNatClampNeg ≤ 12 := by rw [zclE]; omega
  refine ⟨⟨rfl, b2, fun i hi => (b3 i hi).1, k2, hK, fun i hi => ?_, fun i hi => (k3 i hi).2, k4⟩, ⟨fun i hi => ?_, by rw [cArr_len]; exact b2, (zclx d.1).symm, hK, fun i hi => rfl, fun i hi => (k3 i hi).2, k4⟩⟩
  · have y := (k3 i hi).1
    dsimp only
    rw [← y]
    exact ⟨(zclx (c3 _ (by omega)).1).symm, (zclx (c3 _ (by omega)).1).symm, (zclx (c3 _ (by omega)).1).symm, (zclx (c3 _ (by omega)).1).symm⟩
  · rw [cArr_len] at hi
    rw [k1]
    unfold mEk
    rw [List.getElem?_map, List.getElem?_range hi]
    rfl
theorem tfr_vn {xs : Nat → Int32} {τ : List Nat} {h h2 : zH} {W : Nat → Nat → Bool} {p t : Nat} (hB : zBs xs τ h) (hf : yFr W τ h h2) (ht : τ[p]? = some t) : tN h2 p = tN h p := by
  obtain ⟨ct, c, a1, a2, -⟩ := hB.1.2 _ _ ht
  obtain ⟨c2, b1, b2⟩ := hf _ _ _ ht a2
  unfold tN
  rw [a2, b1]
  match c, c2, b2 with
  | .inr (x, fs), .inr (y, gs), b2 => rfl
  | .inl (k, N, x), .inl (k2, N2, y), b2 => exact b2.2.1.symm
theorem cCls_at {h : zH} {b : Nat} {l : List rCt} (e : cCls h b l.length = l) {i : Nat} (hi : i < l.length) : l[i]? = some (cQd h b i) := by
  rw [← e]
  unfold cCls
  rw [List.getElem?_map, List.getElem?_range hi]
  rfl
noncomputable def R_rcd (h : zH) : Prop := ∀ q : Nat, (q : Int) < (tvI (tF h 48 3)).toInt → q < 10 → ∃ a, 182 ≤ a ∧ tO h 50 q = some a ∧ tO h 51 q = some (a + 1) ∧ rCd h q a
/-- rules stay what they were, and one may come -/
theorem a_rcd {xs : Nat → Int32} {τ τ2 τ3 : List Nat} {y : Int32} {h h2 h3 : zH} {w w2 : Option Value} {W1 W2 : Nat → Nat → Bool} (hB : zBs xs τ h) (hB2 : zBs xs τ2 h2) (hB3 : zBs xs τ3 h3) (r1 : yFr W1 τ h h2) (r2 : yFr W2 τ2 h2 h3) (v1 : W2 152 0 = false) (v2 : W2 153 0 = false) (hN : R_rules h) (hR : R_rcd h) (e2 : tF h2 111 30 = tF h 111 30) (oc : ∀ p, 133 ≤ p → p ≤ 140 → tA h2 p = tA h p) (t2 : tF h3 48 3 = tF h2 48 3) (t3 : tO h3 50 = tO h2 50) (t4 : tO h3 51 = tO h2 51) (k2 : ph_rum y h w h2 w2 h3) : R_rcd h3 := by
  have hN0 := hN
  unfold R_rules at hN0
  have i48 := hi_48_3 (zBs_sh hB)
  rcases k2 with ⟨-, rfl, -, rfl⟩ | ⟨r, ⟨f, hr⟩, k1, k2⟩
  · exact hR
  · obtain ⟨m1, m2, k2⟩ := k2
    have E30 : tvI (tF h2 111 30) = tvI (tF h 48 3) := by rw [e2, ← hN0]
    have b48 := kb_48_3 hB
    have hcl : (((tvI (tF h 48 3)).toNatClampNeg : Nat) : Int) = (tvI (tF h 48 3)).toInt := zclx b48.1
    -- an old rule
    have old : ∀ q a : Nat, (q : Int) < (tvI (tF h 48 3)).toInt → q < 10 → 182 ≤ a → tO h 50 q = some a → tO h 51 q = some (a + 1) → rCd h q a → (∀ p, 182 ≤ p → 0 < tN h p → tA h2 p = tA h p) → tO h2 50 q = some a → tO h2 51 q = some (a + 1) → tA h3 140 q = tA h2 140 q → rCd h3 q a := by
      intro q a hq h10 a1 a2 a3 k hfr b2 b3 m6
      have s1 := arr_tag hB (p := 50) (q := q) rfl rfl h10 (by decide) a2
      have s2 := arr_tag hB (p := 51) (q := q) rfl rfl h10 (by decide) a3
      have s3 := arr_tag hB2 (p := 50) (q := q) rfl rfl h10 (by decide) b2
      have s4 := arr_tag hB2 (p := 51) (q := q) rfl rfl h10 (by decide) b3
      have n1 := tfr_vn hB r1 s1
      have n2 := tfr_vn hB r1 s2
      have n3 := tfr_v hB2 r2 s3 v1
      have n4 := tfr_v hB2 r2 s4 v2
      have d := (ka_140 hB).2 q h10
      refine rCd_fr k (tkd_v hB s1 rfl).2.1 (fun z => n3.1.trans (hfr a a1 z)) (n3.2.trans n1) (fun z => n4.1.trans (hfr (a + 1) (by omega) z)) (n4.2.trans n2) (fun i hi => ?_) ?_ (fun i hi => mRow_e (fun p p1 p2 => ?_))
      · have z := m1.2.2.2.2.1 (500 * q + i) (by rw [E30]; omega)
        rw [z.1, z.2, oc 133 (by decide) (by decide), oc 134 (by decide) (by decide)]
        exact ⟨rfl, rfl⟩
      · rw [m6, oc 140 (by decide) (by decide)]
      · rw [m1.2.2.2.2.2 p (12 * q + i) p1 p2 (by rw [E30]; rw [zclE] at hi; omega), oc p (by omega) (by omega)]
    cases r with
    | inl e =>
      obtain ⟨m3, -, m4, m6, -⟩ := k2
      rcases k1 with k1 | ⟨k1, -, k3, k4, k5, k6, k7⟩
      · exact absurd m3 (Nat.not_lt_of_le k1)
      · intro q hq h10
        rw [t2, k3] at hq
        obtain ⟨a, a1, a2, a3, k⟩ := hR q hq h10
        have b2 : tO h2 50 q = some a := by rw [k6]; exact a2
        have b3 : tO h2 51 q = some (a + 1) := by rw [k7]; exact a3
        exact ⟨a, a1, by rw [t3]; exact b2, by rw [t4]; exact b3, old q a hq h10 a1 a2 a3 k (fun p hp _ => k5 p hp) b2 b3 (congrFun m6 q)⟩
    | inr x =>
      obtain ⟨-, m4, m5, -, m7, m8, m9⟩ := k2
      obtain ⟨k1, -, k3, k4, a0, g1, g2, g3, g4, g5, g6, g7⟩ := k1
      rw [E30] at m5 m7 m8 m9
      obtain ⟨i1, i2⟩ := rRu_ok f _ _ _ hr ⟨Nat.zero_le _, Nat.zero_le _⟩ (fun c hc => by cases hc)
      have n1 : (tvI (tF h 48 3) + 1).toInt = (tvI (tF h 48 3)).toInt + 1 := (zincN (n := (tvI (tF h 48 3)).toNatClampNeg) hcl.symm (by omega)).trans (by omega)
      intro q hq h10
      rw [t2, k3] at hq
      have hq : (q : Int) < (tvI (tF h 48 3) + 1).toInt := hq
      by_cases z : q = (tvI (tF h 48 3)).toNatClampNeg
      · have b2 : tO h2 50 q = some a0 := by rw [g2]; exact if_pos z
        have b3 : tO h2 51 q = some (a0 + 1) := by rw [g3]; exact if_pos z
        have s3 := arr_tag hB2 (p := 50) (q := q) rfl rfl h10 (by decide) b2
        have s4 := arr_tag hB2 (p := 51) (q := q) rfl rfl h10 (by decide) b3
        have n3 := tfr_v hB2 r2 s3 v1
        have n4 := tfr_v hB2 r2 s4 v2
        have eC : cArr h3 a0 = x.1.2.2 := (cArr_e (fun _ => n3.1) n3.2).trans g4
        have eL : tN h3 a0 = x.1.2.2.length := by rw [← eC, cArr_len]
        rw [← z] at m5 m8 m9
        refine ⟨a0, g1, by rw [t3]; exact b2, by rw [t4]; exact b3, ?_, ?_, fun i hi => ?_, ?_⟩
        · rw [eC, eL]
          exact m9
        · rw [n4.2, g5, m5]
        · rw [m5] at hi
          have y1 := m8 i hi
          have y2 := cCls_at g6 hi
          have y3 : cQd h3 (a0 + 1) i = cQd h2 (a0 + 1) i := by
            unfold cQd
            rw [n4.1]
          rw [y1] at y2
          have y4 := Option.some.inj y2
          refine ⟨by rw [y3, ← y4], ?_⟩
          rw [eC]
          exact i2 _ (List.mem_of_getElem? y1)
        · rw [eC]
          have := i1.1
          have := i1.2
          omega
      · have hq2 : (q : Int) < (tvI (tF h 48 3)).toInt := by rw [n1] at hq; omega
        obtain ⟨a, a1, a2, a3, k⟩ := hR q hq2 h10
        have b2 : tO h2 50 q = some a := by rw [g2]; exact (if_neg z).trans a2
        have b3 : tO h2 51 q = some (a + 1) := by rw [g3]; exact (if_neg z).trans a3
        exact ⟨a, a1, by rw [t3]; exact b2, by rw [t4]; exact b3, old q a hq2 h10 a1 a2 a3 k g7 b2 b3 (m7 q z).1⟩
theorem and_5 {A B C D E : Prop} (x : A ∧ B ∧ C ∧ D) (y : E) : A ∧ B ∧ C ∧ D ∧ E := ⟨x.1, x.2.1, x.2.2.1, x.2.2.2, y⟩
/-! counting by months -/
noncomputable def cN (w tl : Nat → Int) : Nat → Nat → Int
  | 0, _ => 0
  | n + 1, t => cN w tl n t + (if tl n = (t : Int) then w n else 0)
noncomputable def bN (w tl : Nat → Int) : Nat → Int → Int
  | 0, _ => 0
  | n + 1, t => bN w tl n t + (if tl n ≤ t then w n else 0)
noncomputable def aU (f : Nat → Int) : Nat → Int
  | 0 => f 0
  | t + 1 => aU f t + f (t + 1)
theorem aU_add (f g : Nat → Int) (m : Nat) : aU (fun t => f t + g t) m = aU f m + aU g m := by
  induction m with
  | zero => rfl
  | succ m ih =>
    show aU (fun t => f t + g t) m + (f (m + 1) + g (m + 1)) = aU f m + f (m + 1) + (aU g m + g (m + 1))
    rw [ih]
    omega
theorem aU_ite {c x : Int} (hc : 0 ≤ c) (m : Nat) : aU (fun t => if c = (t : Int) then x else 0) m = if c ≤ (m : Int) then x else 0 := by
  induction m with
  | zero =>
    show (if c = ((0 : Nat) : Int) then x else 0) = _
    by_cases h : c = ((0 : Nat) : Int)
    · rw [if_pos h, if_pos (by omega)]
    · rw [if_neg h, if_neg (by omega)]
  | succ m ih =>
    show aU (fun t => if c = (t : Int) then x else 0) m + (if c = ((m + 1 : Nat) : Int) then x else 0) = _
    rw [ih]
    by_cases h : c ≤ (m : Int)
    · rw [if_pos h, if_neg (by omega), if_pos (by omega), Int.add_zero]
    · rw [if_neg h]
      by_cases h2 : c = ((m + 1 : Nat) : Int)
      · rw [if_pos h2, if_pos (by omega), Int.zero_add]
      · rw [if_neg h2, if_neg (by omega), Int.zero_add]
theorem aU_0 (m : Nat) : aU (fun _ => 0) m = 0 := by
  induction m with
  | zero => rfl
  | succ m ih =>
    show aU (fun _ => 0) m + 0 = 0
    rw [ih]
    rfl
theorem aU_cN {w tl : Nat → Int} {n : Nat} (h : ∀ i, i < n → 0 ≤ tl i) (m : Nat) : aU (cN w tl n) m = bN w tl n m := by
  induction n with
  | zero => exact aU_0 m
  | succ n ih =>
    show aU (fun t => cN w tl n t + (if tl n = (t : Int) then w n else 0)) m = bN w tl n m + (if tl n ≤ (m : Int) then w n else 0)
    rw [aU_add, ih (fun i hi => h i (by omega)), aU_ite (h n (by omega))]
theorem bN_b {w tl : Nat → Int} {B : Int} {n : Nat} (h : ∀ i, i < n → 0 ≤ w i ∧ w i ≤ B) (hB : 0 ≤ B) (m : Int) : 0 ≤ bN w tl n m ∧ bN w tl n m ≤ B * n := by
  induction n with
  | zero => exact ⟨Int.le_refl _, by rw [Int.mul_comm]; show (0 : Int) ≤ 0 * B; rw [Int.zero_mul]; exact Int.le_refl _⟩
  | succ n ih =>
    have y := ih (fun i hi => h i (by omega))
    have z := h n (by omega)
    have e : B * ((n + 1 : Nat) : Int) = B * n + B := by rw [Int.natCast_add, Int.mul_add]; show _ + B * 1 = _; rw [Int.mul_one]
    show 0 ≤ bN w tl n m + (if tl n ≤ m then w n else 0) ∧ bN w tl n m + (if tl n ≤ m then w n else 0) ≤ _
    rw [e]
    by_cases q : tl n ≤ m
    · rw [if_pos q]; omega
    · rw [if_neg q]; omega
theorem cN_b {w tl : Nat → Int} {B : Int} {n : Nat} (h : ∀ i, i < n → 0 ≤ w i ∧ w i ≤ B) (hB : 0 ≤ B) (m : Nat) : 0 ≤ cN w tl n m ∧ cN w tl n m ≤ B * n := by
  induction n with
  | zero => exact ⟨Int.le_refl _, by rw [Int.mul_comm]; show (0 : Int) ≤ 0 * B; rw [Int.zero_mul]; exact Int.le_refl _⟩
  | succ n ih =>
    have y := ih (fun i hi => h i (by omega))
    have z := h n (by omega)
    have e : B * ((n + 1 : Nat) : Int) = B * n + B := by rw [Int.natCast_add, Int.mul_add]; show _ + B * 1 = _; rw [Int.mul_one]
    show 0 ≤ cN w tl n m + (if tl n = (m : Int) then w n else 0) ∧ cN w tl n m + (if tl n = (m : Int) then w n else 0) ≤ _
    rw [e]
    by_cases q : tl n = (m : Int)
    · rw [if_pos q]; omega
    · rw [if_neg q]; omega
theorem cN_y {w tl : Nat → Int} {n t : Nat} (h : tl n = (t : Int)) : cN w tl (n + 1) t = cN w tl n t + w n := by
  show cN w tl n t + (if tl n = (t : Int) then w n else 0) = _
  rw [if_pos h]
theorem cN_n {w tl : Nat → Int} {n t : Nat} (h : tl n = (t : Int) → w n = 0) : cN w tl (n + 1) t = cN w tl n t := by
  show cN w tl n t + (if tl n = (t : Int) then w n else 0) = _
  by_cases q : tl n = (t : Int)
  · rw [if_pos q, h q, Int.add_zero]
  · rw [if_neg q, Int.add_zero]
theorem bN_e {w w2 tl tl2 : Nat → Int} {n : Nat} {t : Int} (h : ∀ i, i < n → w i = w2 i ∧ tl i = tl2 i) : bN w tl n t = bN w2 tl2 n t := by
  induction n with
  | zero => rfl
  | succ n ih =>
    show bN w tl n t + (if tl n ≤ t then w n else 0) = bN w2 tl2 n t + (if tl2 n ≤ t then w2 n else 0)
    rw [ih (fun i hi => h i (by omega)), (h n (by omega)).1, (h n (by omega)).2]
/-! an int array is written, the rest stays -/
noncomputable def mIs (p i : Nat) (x : Int32) (h h3 : zH) : Prop := tSh h3 ∧ tF h3 = tF h ∧ tJ h3 = tJ h ∧ tO h3 = tO h ∧ tN h3 = tN h ∧ tA h3 = fun q j => if q = p ∧ j = i then x else tA h q j
noncomputable def aFr (P : Nat → Prop) (h h2 : zH) : Prop := tSh h2 ∧ tF h2 = tF h ∧ tJ h2 = tJ h ∧ tO h2 = tO h ∧ tN h2 = tN h ∧ ∀ q, ¬ P q → tA h2 q = tA h q
section AFR
variable {h h1 h2 h3 : zH} {P : Nat → Prop} {p i : Nat} {x : Int32}
theorem aFr_r (hs : tSh h) : aFr P h h := ⟨hs, rfl, rfl, rfl, rfl, fun _ _ => rfl⟩
theorem aFr_t (a : aFr P h h1) (k : aFr P h1 h2) : aFr P h h2 := ⟨k.1, k.2.1.trans a.2.1, k.2.2.1.trans a.2.2.1, k.2.2.2.1.trans a.2.2.2.1, k.2.2.2.2.1.trans a.2.2.2.2.1, fun q hq => (k.2.2.2.2.2 q hq).trans (a.2.2.2.2.2 q hq)⟩
theorem aFr_m {R : Nat → Prop} (a : aFr P h h1) (hR : ∀ q, P q → R q) : aFr R h h1 := ⟨a.1, a.2.1, a.2.2.1, a.2.2.2.1, a.2.2.2.2.1, fun q hq => a.2.2.2.2.2 q (fun z => hq (hR q z))⟩
theorem aFr_s (a : aFr P h h1) (k : mIs p i x h1 h3) (hp : P p) : aFr P h h3 := aFr_t a ⟨k.1, k.2.1, k.2.2.1, k.2.2.2.1, k.2.2.2.2.1, fun q hq => by rw [k.2.2.2.2.2]; funext j; exact if_neg (fun z => hq (by rw [z.1]; exact hp))⟩
theorem mIs_x (k : mIs p i x h1 h3) : tA h3 p i = x := by rw [k.2.2.2.2.2]; exact if_pos ⟨rfl, rfl⟩
theorem mIs_o {q j : Nat} (k : mIs p i x h1 h3) (hn : q ≠ p ∨ j ≠ i) : tA h3 q j = tA h1 q j := by rw [k.2.2.2.2.2]; exact if_neg (fun z => hn.elim (fun y => y z.1) (fun y => y z.2))
theorem tG_lsi {tt : zT} {G : zG} {cd : zK} {bc bs : Nat} {rt : Option FieldType} {M : zM} {Q : zQ} {Z : zX} {f : Bool} {pc : Nat} {L : zL} {st : List Value} {c n kd : Nat} {i : Int32} (hf : tIn h p kd i) (hs : tSh h) (k : ∀ h3, mIs p i.toNatClampNeg x h h3 → tG tt G cd bc bs rt M Q Z f pc L st h3 c n) : tG tt G cd bc bs rt M Q Z f pc L st (tSA h p i.toNatClampNeg x) c n := k _ ⟨tSh_SA hs, tF_tSA _ _ _ _, tJ_tSA _ _ _ _, tO_tSA _ _ _ _, tN_tSA _ _ _ _, tA_tSA hf.cell _ _⟩
end AFR
theorem zadI {x y : Int32} (h : -2147483648 ≤ x.toInt + y.toInt ∧ x.toInt + y.toInt ≤ 2147483647) : (x + y).toInt = x.toInt + y.toInt := by
  rw [Int32.toInt_add]
  exact Int.bmod_eq_of_le (by show (-2147483648 : Int) ≤ x.toInt + y.toInt; omega) (by show x.toInt + y.toInt < (2147483648 : Int); omega)
theorem aU_i (f : Nat → Int) (t : Nat) : f t = if t ≤ 0 then aU f t else f t := by
  by_cases h : t ≤ 0
  · rw [if_pos h]
    obtain rfl : t = 0 := by omega
    rfl
  · rw [if_neg h]
theorem wIte {p : Prop} [Decidable p] {x B : Int} (h : 0 ≤ x ∧ x ≤ B) : 0 ≤ (if p then x else 0) ∧ (if p then x else 0) ≤ B := by
  by_cases q : p
  · rw [if_pos q]; exact h
  · rw [if_neg q]; omega
/-- cars of a kind; fires and deaths of a kind -/
noncomputable def wK (h : zH) (k : Int32) (i : Nat) : Int := if tA h 121 i = k then 1 else 0
noncomputable def tK9 (h : zH) (i : Nat) : Int := (tA h 123 i).toInt
noncomputable def wF (h : zH) (k : Int32) (i : Nat) : Int := if tA h 65 i = k ∧ ¬ tA h 71 i = 0 then 1 else 0
noncomputable def wD (h : zH) (k : Int32) (i : Nat) : Int := if tA h 65 i = k ∧ ¬ tA h 71 i = 0 then (tA h 70 i).toInt else 0
noncomputable def tF9 (h : zH) (i : Nat) : Int := (tA h 67 i).toInt
theorem zadU {x y : Int32} {a b : Int} (hx : x.toInt = a) (hy : y.toInt = b) (h : 0 ≤ a ∧ a ≤ 100000000 ∧ 0 ≤ b ∧ b ≤ 100000000) : (x + y).toInt = a + b := by rw [zadI (by omega), hx, hy]
theorem f_fillI {G : zG} (hG : G.1 = zProg) {h : zH} {p : Nat} {x : Int32} (hs : tSh h) (hN : tN h p ≤ 1000) : tC zTt G 282 [.ref p, .int x] h (fun w h2 => w = none ∧ aFr (fun r => r = p) h h2 ∧ ∀ t, t < tN h p → tA h2 p t = x) := by
  refine tC_in (by rw [hG]; rfl) (fun dp => ?_)
  have hl : (Int32.ofNat (tN h p)).toInt = ((tN h p : Nat) : Int) := yofN (by omega)
  refine tw_push rfl ?_
  refine tw_istore rfl ?_
  refine tw_aload rfl rfl ?_
  refine tw_alen rfl ?_
  refine tw_istore rfl ?_
  refine tG_loop (zW_mono zTt G dp) (zW_conj zTt G dp) (V := fun pc L st h9 _ _ => pc = 5 ∧ st = [] ∧ ∃ (h1 : zH) (k : Nat) (z : Int32), h1 = h9 ∧ aFr (fun r => r = p) h h1 ∧ z.toInt = (k : Int) ∧ (∀ t, t < k → tA h1 p t = x) ∧ L = [some (.ref p), some (.int x), some (.int z), some (.int (Int32.ofNat (tN h p)))]) ?_ (⟨rfl, rfl, h, 0, 0, rfl, aFr_r hs, rfl, fun t ht => absurd ht (Nat.not_lt_zero _), rfl⟩)
  rintro _ _ _ _ _ _ ⟨rfl, rfl, h1, k, z, rfl, hF, hz, hall, rfl⟩
  refine tw_iload rfl rfl ?_
  refine tw_iload rfl rfl ?_
  refine tw_ic_ge rfl (fun q947 => ?_) (fun q947 => ?_)
  · try dsimp only [tvI_i, tvJ_j, tvR_r] at q947
    exact tw_vret rfl ⟨rfl, hF, fun t ht => hall t (by omega)⟩
  · try dsimp only [tvI_i, tvJ_j, tvR_r] at q947
    refine tw_aload rfl rfl ?_
    refine tw_iload rfl rfl ?_
    refine tw_iload rfl rfl ?_
    refine tw_iast rfl (fun f948 => ?_)
    refine tG_lsi f948 hF.1 (fun h3 a3 => ?_)
    try dsimp only [tvI_i, tvJ_j, tvR_r] at a3
    have hF3 := aFr_s hF a3 rfl
    refine tw_iinc rfl rfl ?_
    refine tw_goto rfl ?_
    have hk1 : (z + 1).toInt = ((k + 1 : Nat) : Int) := zincN hz (by omega)
    rw [zof_cl hz] at a3
    exact tG_cut (zW_mono zTt G dp) (Or.inr ⟨rfl, rfl, h3, k + 1, z + 1, rfl, hF3, hk1, fun t ht => (Classical.em (t = k)).elim (fun y => by rw [y]; exact mIs_x a3) (fun y => (mIs_o a3 (Or.inr y)).trans (hall t (by omega))), rfl⟩)
theorem f_addUp {G : zG} (hG : G.1 = zProg) {h : zH} {p : Nat} {f : Nat → Int} (hs : tSh h) (hN : 1 ≤ tN h p ∧ tN h p ≤ 1000) (hf : ∀ t, t < tN h p → (tA h p t).toInt = f t) (hb : ∀ t, t < tN h p → 0 ≤ aU f t ∧ aU f t ≤ 100000000) : tC zTt G 169 [.ref p] h (fun w h2 => w = none ∧ aFr (fun r => r = p) h h2 ∧ ∀ t, t < tN h p → (tA h2 p t).toInt = aU f t) := by
  refine tC_in (by rw [hG]; rfl) (fun dp => ?_)
  refine tw_push rfl ?_
  refine tw_istore rfl ?_
  refine tG_loop (zW_mono zTt G dp) (zW_conj zTt G dp) (V := fun pc L st h9 _ _ => pc = 2 ∧ st = [] ∧ ∃ (h1 : zH) (k : Nat) (z : Int32), h1 = h9 ∧ aFr (fun r => r = p) h h1 ∧ z.toInt = ((k + 1 : Nat) : Int) ∧ (∀ t, t < tN h p → (tA h1 p t).toInt = if t ≤ k then aU f t else f t) ∧ L = [some (.ref p), some (.int z)]) ?_ (⟨rfl, rfl, h, 0, 1, rfl, aFr_r hs, rfl, fun t ht => (hf t ht).trans (aU_i f t), rfl⟩)
  rintro _ _ _ _ _ _ ⟨rfl, rfl, h1, k, z, rfl, hF, hz, hall, rfl⟩
  have hl : (Int32.ofNat (tN h1 p)).toInt = ((tN h p : Nat) : Int) := by rw [hF.2.2.2.2.1]; exact yofN (by omega)
  refine tw_iload rfl rfl ?_
  refine tw_aload rfl rfl ?_
  refine tw_alen rfl ?_
  refine tw_ic_ge rfl (fun q949 => ?_) (fun q949 => ?_)
  · try dsimp only [tvI_i, tvJ_j, tvR_r] at q949
    refine tw_vret rfl ⟨rfl, hF, fun t ht => ?_⟩
    rw [hall t ht, if_pos (by omega)]
  · try dsimp only [tvI_i, tvJ_j, tvR_r] at q949
    have hk9 : k + 1 < tN h p := by omega
    have z0 : z.toNatClampNeg = k + 1 := zof_cl hz
    have z1 : (z - 1).toNatClampNeg = k := zof_cl ((zsbM (b := 1) hz rfl (by omega) (by decide)).trans (by omega))
    have u0 := hall (k + 1) hk9
    rw [if_neg (by omega)] at u0
    have u1 := hall k (by omega)
    rw [if_pos (Nat.le_refl _)] at u1
    have b1 := hb k (by omega)
    have b2 := hb (k + 1) hk9
    have b3 : aU f (k + 1) = aU f k + f (k + 1) := rfl
    refine tw_aload rfl rfl ?_
    refine tw_iload rfl rfl ?_
    refine tw_dup2 rfl ?_
    refine tw_iald rfl (fun f950 => ?_)
    refine tw_aload rfl rfl ?_
    refine tw_iload rfl rfl ?_
    refine tw_push rfl ?_
    refine tw_isub rfl ?_
    refine tw_iald rfl (fun f951 => ?_)
    refine tw_iadd rfl ?_
    refine tw_iast rfl (fun f952 => ?_)
    refine tG_lsi f952 hF.1 (fun h3 a3 => ?_)
    try dsimp only [tvI_i, tvJ_j, tvR_r] at a3
    have hF3 := aFr_s hF a3 rfl
    refine tw_iinc rfl rfl ?_
    refine tw_goto rfl ?_
    rw [z0, z1] at a3
    have hx9 : (tA h3 p (k + 1)).toInt = aU f (k + 1) := by rw [mIs_x a3, zadI (by omega)]; omega
    have hk1 : (z + 1).toInt = ((k + 1 + 1 : Nat) : Int) := zincN hz (by omega)
    refine tG_cut (zW_mono zTt G dp) (Or.inr ⟨rfl, rfl, h3, k + 1, z + 1, rfl, hF3, hk1, fun t ht => ?_, rfl⟩)
    by_cases y : t = k + 1
    · rw [y, hx9, if_pos (Nat.le_refl _)]
    · rw [mIs_o a3 (Or.inr y), hall t ht]
      by_cases y2 : t ≤ k
      · rw [if_pos y2, if_pos (by omega)]
      · rw [if_neg y2, if_neg (by omega)]
theorem f_countCars {G : zG} (hG : G.1 = zProg) {h : zH} {k : Int32} (hs : tSh h) (hL : R_cl h) (hg : ∀ i r : Nat, (i : Int) < (tvI (tF h 36 4)).toInt → tO h 39 i = some r → 182 ≤ r) (hK : R_ckind h) (hT : R_ctl h) (hn : tN h 107 = 600) (h123 : ∀ i, i < 300 → 0 ≤ (tA h 123 i).toInt ∧ (tA h 123 i).toInt ≤ 599) (h36 : 0 ≤ (tvI (tF h 36 4)).toInt ∧ (tvI (tF h 36 4)).toInt ≤ 300) : tC zTt G 23 [.ref 36, .int k, .ref 107] h (fun w h2 => w = none ∧ aFr (fun r => r = 107) h h2 ∧ ∀ t : Nat, t < 600 → (tA h2 107 t).toInt = bN (wK h k) (tK9 h) (tvI (tF h 36 4)).toNatClampNeg t) := by
  refine tC_in (by rw [hG]; rfl) (fun dp => ?_)
  have hNC : (((tvI (tF h 36 4)).toNatClampNeg : Nat) : Int) = (tvI (tF h 36 4)).toInt := zclx h36.1
  have hw1 : ∀ i, i < (tvI (tF h 36 4)).toNatClampNeg → 0 ≤ wK h k i ∧ wK h k i ≤ 1 := fun i _ => wIte ⟨by decide, by decide⟩
  have ht0 : ∀ i, i < (tvI (tF h 36 4)).toNatClampNeg → 0 ≤ tK9 h i := fun i hi => (h123 i (by rw [zclE] at hi; omega)).1
  refine tw_aload rfl rfl ?_
  refine tw_push rfl ?_
  refine tw_stat2 rfl (f_fillI hG hs (by rw [hn]; decide)) (fun wp953 hp953 p953 => ?_)
  obtain ⟨rfl, Fp953, Zp953⟩ := p953
  rw [hn] at Zp953
  refine tw_push rfl ?_
  refine tw_istore rfl ?_
  refine tG_loop (zW_mono zTt G dp) (zW_conj zTt G dp) (V := fun pc L st h9 _ _ => pc = 7 ∧ st = [] ∧ ∃ (h1 : zH) (n : Nat) (z : Int32) (l4 : Option Value), h1 = h9 ∧ aFr (fun r => r = 107) h h1 ∧ z.toInt = (n : Int) ∧ (n : Int) ≤ (tvI (tF h 36 4)).toInt ∧ (∀ t, t < 600 → (tA h1 107 t).toInt = cN (wK h k) (tK9 h) n t) ∧ L = [some (.ref 36), some (.int k), some (.ref 107), some (.int z), l4]) ?_ (⟨rfl, rfl, _, 0, 0, none, rfl, Fp953, rfl, h36.1, fun t ht => by rw [Zp953 t ht]; rfl, rfl⟩)
  rintro _ _ _ _ _ _ ⟨rfl, rfl, h1, n, z, l4, rfl, hF, hz, hnn, hall, rfl⟩
  have hL1 : R_cl h1 := by unfold R_cl; rw [hF.2.1, hF.2.2.2.1]; exact hL
  have hg1 : ∀ i r : Nat, (i : Int) < (tvI (tF h1 36 4)).toInt → tO h1 39 i = some r → 182 ≤ r := by rw [hF.2.1, hF.2.2.2.1]; exact hg
  have hK1 : R_ckind h1 := fun i r hi hr => by rw [hF.2.1, hF.2.2.2.2.2 121 (by decide)]; rw [hF.2.1] at hi; rw [hF.2.2.2.1] at hr; exact hK i r hi hr
  have hT1 : R_ctl h1 := fun i r hi hr => by rw [hF.2.1, hF.2.2.2.2.2 123 (by decide)]; rw [hF.2.1] at hi; rw [hF.2.2.2.1] at hr; exact hT i r hi hr
  have e36 : (tvI (tF h1 36 4)).toInt = (tvI (tF h 36 4)).toInt := by rw [hF.2.1]
  refine tw_iload rfl rfl ?_
  refine tw_aload rfl rfl ?_
  refine tw_getS rfl (hi_36_4 hF.1) ?_
  refine tw_ic_ge rfl (fun q954 => ?_) (fun q954 => ?_)
  · try dsimp only [tvI_i, tvJ_j, tvR_r] at q954
    refine tw_aload rfl rfl ?_
    have hnN : n = (tvI (tF h 36 4)).toNatClampNeg := by rw [zclE]; omega
    refine tw_stat1 rfl (f_addUp hG hF.1 (f := cN (wK h k) (tK9 h) (tvI (tF h 36 4)).toNatClampNeg) (by rw [hF.2.2.2.2.1, hn]; decide) (by rw [hF.2.2.2.2.1, hn]; exact fun t ht => (hall t ht).trans (by rw [hnN])) (by rw [hF.2.2.2.2.1, hn]; exact fun t ht => by rw [aU_cN ht0]; have y := bN_b (B := 1) (tl := tK9 h) (n := (tvI (tF h 36 4)).toNatClampNeg) hw1 (by decide) (t : Int); omega)) (fun wp955 hp955 p955 => ?_)
    obtain ⟨rfl, Fp955, Zp955⟩ := p955
    rw [hF.2.2.2.2.1, hn] at Zp955
    exact tw_vret rfl ⟨rfl, aFr_t hF Fp955, fun t ht => (Zp955 t ht).trans (aU_cN ht0 t)⟩
  · try dsimp only [tvI_i, tvJ_j, tvR_r] at q954
    refine tw_aload rfl rfl ?_
    refine tw_iload rfl rfl ?_
    refine tw_virt1 rfl (f_carAtR hG hF.1 hL1 hg1) (fun w9 h9 p956 => ?_)
    obtain ⟨⟨rp956, p956, p956r, p956g, rfl⟩ | ⟨p956, rfl⟩, e9⟩ := p956
    · obtain rfl := e9.symm
      refine tw_astore rfl ?_
      refine tw_aload rfl rfl ?_
      refine tw_ifnull rfl (fun z => by cases z) (fun _ _ => ?_)
      refine tw_aload rfl rfl ?_
      refine tw_getS rfl (hK1 _ _ p956.2 p956r) ?_
      refine tw_iload rfl rfl ?_
      refine tw_ic_ne rfl (fun q959 => ?_) (fun q959 => ?_)
      · try dsimp only [tvI_i, tvJ_j, tvR_r] at q959
        have q959i := zneq rfl q959
        refine tw_iinc rfl rfl ?_
        refine tw_goto rfl ?_
        have hz1 : (z + 1).toInt = ((n + 1 : Nat) : Int) := zincN hz (by omega)
        have zn := zof_cl hz
        have e0 : tA h1 121 n = tA h 121 n := congrFun (hF.2.2.2.2.2 121 (by decide)) n
        rw [zn, e0] at q959
        refine tG_cut (zW_mono zTt G dp) (Or.inr ⟨rfl, rfl, h1, n + 1, z + 1, _, rfl, hF, hz1, by omega, fun t ht => ?_, rfl⟩)
        rw [hall t ht, cN_n (fun _ => if_neg q959)]
      · try dsimp only [tvI_i, tvJ_j, tvR_r] at q959
        have q959i := zeqi rfl q959
        refine tw_aload rfl rfl ?_
        refine tw_aload rfl rfl ?_
        refine tw_getS rfl (hT1 _ _ p956.2 p956r) ?_
        refine tw_dup2 rfl ?_
        refine tw_iald rfl (fun f960 => ?_)
        refine tw_push rfl ?_
        refine tw_iadd rfl ?_
        refine tw_iast rfl (fun f961 => ?_)
        refine tG_lsi f961 hF.1 (fun h3 a3 => ?_)
        try dsimp only [tvI_i, tvJ_j, tvR_r] at a3
        have hF3 := aFr_s hF a3 rfl
        refine tw_iinc rfl rfl ?_
        refine tw_goto rfl ?_
        have hz1 : (z + 1).toInt = ((n + 1 : Nat) : Int) := zincN hz (by omega)
        have zn := zof_cl hz
        have e0 : tA h1 121 n = tA h 121 n := congrFun (hF.2.2.2.2.2 121 (by decide)) n
        rw [zn, e0] at q959
        have e1 : tA h1 123 n = tA h 123 n := congrFun (hF.2.2.2.2.2 123 (by decide)) n
        rw [zn, e1] at a3
        have b9 := h123 n (by omega)
        have t9 : (((tA h 123 n).toNatClampNeg : Nat) : Int) = tK9 h n := zclx b9.1
        refine tG_cut (zW_mono zTt G dp) (Or.inr ⟨rfl, rfl, h3, n + 1, z + 1, _, rfl, hF3, hz1, by omega, fun t ht => ?_, rfl⟩)
        by_cases y : t = (tA h 123 n).toNatClampNeg
        · rw [y, mIs_x a3, cN_y t9.symm, show wK h k n = 1 from if_pos q959]
          have b8 := cN_b (B := 1) (tl := tK9 h) (n := n) (fun i hi => hw1 i (by rw [zclE]; omega)) (by decide) (tA h 123 n).toNatClampNeg
          exact zadU (hall _ (by omega)) rfl (by omega)
        · rw [mIs_o a3 (Or.inr y), hall t ht, cN_n (fun y2 => absurd (by omega) y)]
    · obtain rfl := e9.symm
      exact absurd ⟨by omega, by omega⟩ p956
theorem f_countFires {G : zG} (hG : G.1 = zProg) {h : zH} {k : Int32} (hs : tSh h) (hn108 : tN h 108 = 600) (hn109 : tN h 109 = 600) (h67 : ∀ i, i < 200 → 0 ≤ (tA h 67 i).toInt ∧ (tA h 67 i).toInt ≤ 599) (h70 : ∀ i, i < 200 → 0 ≤ (tA h 70 i).toInt ∧ (tA h 70 i).toInt ≤ 9) (h63 : 0 ≤ (tvI (tF h 63 8)).toInt ∧ (tvI (tF h 63 8)).toInt ≤ 200) : tC zTt G 10 [.ref 63, .int k, .ref 108, .ref 109] h (fun w h2 => w = none ∧ aFr (fun r => r = 108 ∨ r = 109) h h2 ∧ (∀ t : Nat, t < 600 → (tA h2 108 t).toInt = bN (wF h k) (tF9 h) (tvI (tF h 63 8)).toNatClampNeg t) ∧ (∀ t : Nat, t < 600 → (tA h2 109 t).toInt = bN (wD h k) (tF9 h) (tvI (tF h 63 8)).toNatClampNeg t)) := by
  refine tC_in (by rw [hG]; rfl) (fun dp => ?_)
  have hNC : (((tvI (tF h 63 8)).toNatClampNeg : Nat) : Int) = (tvI (tF h 63 8)).toInt := zclx h63.1
  have hw108 : ∀ i, i < (tvI (tF h 63 8)).toNatClampNeg → 0 ≤ wF h k i ∧ wF h k i ≤ 1 := fun i _ => wIte ⟨by decide, by decide⟩
  have hw109 : ∀ i, i < (tvI (tF h 63 8)).toNatClampNeg → 0 ≤ wD h k i ∧ wD h k i ≤ 9 := fun i hi => wIte (h70 i (by rw [zclE] at hi; omega))
  have ht0 : ∀ i, i < (tvI (tF h 63 8)).toNatClampNeg → 0 ≤ tF9 h i := fun i hi => (h67 i (by rw [zclE] at hi; omega)).1
  refine tw_aload rfl rfl ?_
  refine tw_push rfl ?_
  refine tw_stat2 rfl (f_fillI hG hs (by rw [hn108]; decide)) (fun wp962 hp962 p962 => ?_)
  obtain ⟨rfl, FF, Zp962⟩ := p962
  rw [hn108] at Zp962
  refine tw_aload rfl rfl ?_
  refine tw_push rfl ?_
  refine tw_stat2 rfl (f_fillI hG FF.1 (by rw [FF.2.2.2.2.1]; rw [hn109]; decide)) (fun wp963 hp963 p963 => ?_)
  obtain ⟨rfl, Fp963, Zp963⟩ := p963
  rw [FF.2.2.2.2.1, hn109] at Zp963
  refine tw_push rfl ?_
  refine tw_istore rfl ?_
  refine tG_loop (zW_mono zTt G dp) (zW_conj zTt G dp) (V := fun pc L st h9 _ _ => pc = 13 ∧ st = [] ∧ ∃ (h1 : zH) (n : Nat) (z : Int32), h1 = h9 ∧ aFr (fun r => r = 108 ∨ r = 109) h h1 ∧ z.toInt = (n : Int) ∧ (n : Int) ≤ (tvI (tF h 63 8)).toInt ∧ (∀ t, t < 600 → (tA h1 108 t).toInt = cN (wF h k) (tF9 h) n t) ∧ (∀ t, t < 600 → (tA h1 109 t).toInt = cN (wD h k) (tF9 h) n t) ∧ L = [some (.ref 63), some (.int k), some (.ref 108), some (.ref 109), some (.int z)]) ?_ (⟨rfl, rfl, _, 0, 0, rfl, aFr_t (aFr_m FF (fun _ y => Or.inl y)) (aFr_m Fp963 (fun _ y => Or.inr y)), rfl, h63.1, fun t ht => by rw [congrFun (Fp963.2.2.2.2.2 108 (by decide)) t, Zp962 t ht]; rfl, fun t ht => by rw [Zp963 t ht]; rfl, rfl⟩)
  rintro _ _ _ _ _ _ ⟨rfl, rfl, h1, n, z, rfl, hF, hz, hnn, hal8, hal9, rfl⟩
  have e63 : (tvI (tF h1 63 8)).toInt = (tvI (tF h 63 8)).toInt := by rw [hF.2.1]
  refine tw_iload rfl rfl ?_
  refine tw_aload rfl rfl ?_
  refine tw_getS rfl (hi_63_8 hF.1) ?_
  refine tw_ic_ge rfl (fun q964 => ?_) (fun q964 => ?_)
  · try dsimp only [tvI_i, tvJ_j, tvR_r] at q964
    refine tw_aload rfl rfl ?_
    have hnN : n = (tvI (tF h 63 8)).toNatClampNeg := by rw [zclE]; omega
    refine tw_stat1 rfl (f_addUp hG hF.1 (f := cN (wF h k) (tF9 h) (tvI (tF h 63 8)).toNatClampNeg) (by rw [hF.2.2.2.2.1, hn108]; decide) (by rw [hF.2.2.2.2.1, hn108]; exact fun t ht => (hal8 t ht).trans (by rw [hnN])) (by rw [hF.2.2.2.2.1, hn108]; exact fun t ht => by rw [aU_cN ht0]; have y := bN_b (B := 1) (tl := tF9 h) (n := (tvI (tF h 63 8)).toNatClampNeg) hw108 (by decide) (t : Int); omega)) (fun wp965 hp965 p965 => ?_)
    obtain ⟨rfl, FB, Z8⟩ := p965
    rw [hF.2.2.2.2.1, hn108] at Z8
    have FA := aFr_t hF (aFr_m FB (fun _ y => Or.inl y))
    refine tw_aload rfl rfl ?_
    refine tw_stat1 rfl (f_addUp hG FA.1 (f := cN (wD h k) (tF9 h) (tvI (tF h 63 8)).toNatClampNeg) (by rw [FA.2.2.2.2.1, hn109]; decide) (by rw [FA.2.2.2.2.1, hn109]; exact fun t ht => ((congrArg Int32.toInt (congrFun (FB.2.2.2.2.2 109 (by decide)) t)).trans (hal9 t ht)).trans (by rw [hnN])) (by rw [FA.2.2.2.2.1, hn109]; exact fun t ht => by rw [aU_cN ht0]; have y := bN_b (B := 9) (tl := tF9 h) (n := (tvI (tF h 63 8)).toNatClampNeg) hw109 (by decide) (t : Int); omega)) (fun wp966 hp966 p966 => ?_)
    obtain ⟨rfl, FC, Z9⟩ := p966
    rw [FA.2.2.2.2.1, hn109] at Z9
    exact tw_vret rfl ⟨rfl, aFr_t FA (aFr_m FC (fun _ y => Or.inr y)), fun t ht => (congrArg Int32.toInt (congrFun (FC.2.2.2.2.2 108 (by decide)) t)).trans ((Z8 t ht).trans (aU_cN ht0 t)), fun t ht => (Z9 t ht).trans (aU_cN ht0 t)⟩
  · try dsimp only [tvI_i, tvJ_j, tvR_r] at q964
    have zn := zof_cl hz
    have e65 : tA h1 65 n = tA h 65 n := congrFun (hF.2.2.2.2.2 65 (by decide)) n
    have e67 : tA h1 67 n = tA h 67 n := congrFun (hF.2.2.2.2.2 67 (by decide)) n
    have e70 : tA h1 70 n = tA h 70 n := congrFun (hF.2.2.2.2.2 70 (by decide)) n
    have e71 : tA h1 71 n = tA h 71 n := congrFun (hF.2.2.2.2.2 71 (by decide)) n
    have b9 := h67 n (by omega)
    have b7 := h70 n (by omega)
    have t9 : (((tA h 67 n).toNatClampNeg : Nat) : Int) = tF9 h n := zclx b9.1
    have hz1 : (z + 1).toInt = ((n + 1 : Nat) : Int) := zincN hz (by omega)
    refine tw_aload rfl rfl ?_
    refine tw_getS rfl (hs_63_1 hF.1) ?_
    refine tw_iload rfl rfl ?_
    refine tw_iald rfl (fun f967 => ?_)
    refine tw_iload rfl rfl ?_
    refine tw_ic_ne rfl (fun q968 => ?_) (fun q968 => ?_)
    · try dsimp only [tvI_i, tvJ_j, tvR_r] at q968
      have q968i := zneq rfl q968
      refine tw_iinc rfl rfl ?_
      refine tw_goto rfl ?_
      rw [zn, e65] at q968
      refine tG_cut (zW_mono zTt G dp) (Or.inr ⟨rfl, rfl, h1, n + 1, z + 1, rfl, hF, hz1, by omega, fun t ht => ?_, fun t ht => ?_, rfl⟩)
      · rw [hal8 t ht, cN_n (fun _ => if_neg (fun y => q968 y.1))]
      · rw [hal9 t ht, cN_n (fun _ => if_neg (fun y => q968 y.1))]
    · try dsimp only [tvI_i, tvJ_j, tvR_r] at q968
      have q968i := zeqi rfl q968
      refine tw_aload rfl rfl ?_
      refine tw_getS rfl (hs_63_7 hF.1) ?_
      refine tw_iload rfl rfl ?_
      refine tw_bald rfl (fun f969 => ?_)
      refine tw_if_eq rfl (fun q970 => ?_) (fun q970 => ?_)
      · try dsimp only [tvI_i, tvJ_j, tvR_r] at q970
        have q970i := zeqi (Y := 0) (by decide) q970
        refine tw_iinc rfl rfl ?_
        refine tw_goto rfl ?_
        rw [zn, e65] at q968
        rw [zn, e71] at q970
        refine tG_cut (zW_mono zTt G dp) (Or.inr ⟨rfl, rfl, h1, n + 1, z + 1, rfl, hF, hz1, by omega, fun t ht => ?_, fun t ht => ?_, rfl⟩)
        · rw [hal8 t ht, cN_n (fun _ => if_neg (fun y => y.2 q970))]
        · rw [hal9 t ht, cN_n (fun _ => if_neg (fun y => y.2 q970))]
      · try dsimp only [tvI_i, tvJ_j, tvR_r] at q970
        have q970i := zneq (Y := 0) (by decide) q970
        refine tw_aload rfl rfl ?_
        refine tw_aload rfl rfl ?_
        refine tw_getS rfl (hs_63_3 hF.1) ?_
        refine tw_iload rfl rfl ?_
        refine tw_iald rfl (fun f971 => ?_)
        refine tw_dup2 rfl ?_
        refine tw_iald rfl (fun f972 => ?_)
        refine tw_push rfl ?_
        refine tw_iadd rfl ?_
        refine tw_iast rfl (fun f973 => ?_)
        refine tG_lsi f973 hF.1 (fun h3 a3 => ?_)
        try dsimp only [tvI_i, tvJ_j, tvR_r] at a3
        have hF3 := aFr_s hF a3 (Or.inl rfl)
        refine tw_aload rfl rfl ?_
        refine tw_aload rfl rfl ?_
        refine tw_getS rfl (hs_63_3 hF3.1) ?_
        refine tw_iload rfl rfl ?_
        refine tw_iald rfl (fun f974 => ?_)
        refine tw_dup2 rfl ?_
        refine tw_iald rfl (fun f975 => ?_)
        refine tw_aload rfl rfl ?_
        refine tw_getS rfl (hs_63_6 hF3.1) ?_
        refine tw_iload rfl rfl ?_
        refine tw_iald rfl (fun f976 => ?_)
        refine tw_iadd rfl ?_
        refine tw_iast rfl (fun f977 => ?_)
        refine tG_lsi f977 hF3.1 (fun h4 a4 => ?_)
        try dsimp only [tvI_i, tvJ_j, tvR_r] at a4
        have hF4 := aFr_s hF3 a4 (Or.inr rfl)
        refine tw_iinc rfl rfl ?_
        refine tw_goto rfl ?_
        rw [zn, e65] at q968
        rw [zn, e71] at q970
        have hw8 : wF h k n = 1 := if_pos ⟨q968, q970⟩
        have hw9 : wD h k n = (tA h 70 n).toInt := if_pos ⟨q968, q970⟩
        rw [zn, e67] at a3
        have f67 : tA h3 67 n = tA h 67 n := (congrFun (hF3.2.2.2.2.2 67 (by decide)) n)
        have f70 : tA h3 70 n = tA h 70 n := (congrFun (hF3.2.2.2.2.2 70 (by decide)) n)
        rw [zn, f67, f70] at a4
        have b8 := cN_b (B := 1) (tl := tF9 h) (n := n) (fun i hi => hw108 i (by rw [zclE]; omega)) (by decide) (tA h 67 n).toNatClampNeg
        have b6 := cN_b (B := 9) (tl := tF9 h) (n := n) (fun i hi => hw109 i (by rw [zclE]; omega)) (by decide) (tA h 67 n).toNatClampNeg
        refine tG_cut (zW_mono zTt G dp) (Or.inr ⟨rfl, rfl, h4, n + 1, z + 1, rfl, hF4, hz1, by omega, fun t ht => ?_, fun t ht => ?_, rfl⟩)
        · rw [mIs_o a4 (Or.inl (by decide))]
          by_cases y : t = (tA h 67 n).toNatClampNeg
          · rw [y, mIs_x a3, cN_y t9.symm, hw8]
            exact zadU (hal8 _ (by omega)) rfl (by omega)
          · rw [mIs_o a3 (Or.inr y), hal8 t ht, cN_n (fun y2 => absurd (by omega) y)]
        · by_cases y : t = (tA h 67 n).toNatClampNeg
          · rw [y, mIs_x a4, cN_y t9.symm, hw9]
            exact zadU ((congrArg Int32.toInt (mIs_o a3 (Or.inl (by decide)))).trans (hal9 _ (by omega))) rfl (by omega)
          · rw [mIs_o a4 (Or.inr y), mIs_o a3 (Or.inl (by decide)), hal9 t ht, cN_n (fun y2 => absurd (by omega) y)]
theorem f_fillJ {G : zG} (hG : G.1 = zProg) {h : zH} {p : Nat} {x : Int64} (hs : tSh h) (hN : tN h p ≤ 1000) : tC zTt G 281 [.ref p, .long x] h (fun w h2 => w = none ∧ wFr p h h2 ∧ ∀ t, t < tN h p → tJ h2 p t = x) := by
  refine tC_in (by rw [hG]; rfl) (fun dp => ?_)
  have hl : (Int32.ofNat (tN h p)).toInt = ((tN h p : Nat) : Int) := yofN (by omega)
  refine tw_push rfl ?_
  refine tw_istore rfl ?_
  refine tw_aload rfl rfl ?_
  refine tw_alen rfl ?_
  refine tw_istore rfl ?_
  refine tG_loop (zW_mono zTt G dp) (zW_conj zTt G dp) (V := fun pc L st h9 _ _ => pc = 6 ∧ st = [] ∧ ∃ (h1 : zH) (k : Nat) (z : Int32), h1 = h9 ∧ wFr p h h1 ∧ z.toInt = (k : Int) ∧ (∀ t, t < k → tJ h1 p t = x) ∧ L = [some (.ref p), some (.long x), none, some (.int z), some (.int (Int32.ofNat (tN h p)))]) ?_ (⟨rfl, rfl, h, 0, 0, rfl, wFr_r hs, rfl, fun t ht => absurd ht (Nat.not_lt_zero _), rfl⟩)
  rintro _ _ _ _ _ _ ⟨rfl, rfl, h1, k, z, rfl, hF, hz, hall, rfl⟩
  refine tw_iload rfl rfl ?_
  refine tw_iload rfl rfl ?_
  refine tw_ic_ge rfl (fun q978 => ?_) (fun q978 => ?_)
  · try dsimp only [tvI_i, tvJ_j, tvR_r] at q978
    exact tw_vret rfl ⟨rfl, hF, fun t ht => hall t (by omega)⟩
  · try dsimp only [tvI_i, tvJ_j, tvR_r] at q978
    refine tw_aload rfl rfl ?_
    refine tw_iload rfl rfl ?_
    refine tw_lload rfl rfl ?_
    refine tw_last rfl (fun f979 => ?_)
    refine tG_lst f979 hF.1 (fun h3 a3 => ?_)
    try dsimp only [tvI_i, tvJ_j, tvR_r] at a3
    have hF3 := wFr_s hF a3
    refine tw_iinc rfl rfl ?_
    refine tw_goto rfl ?_
    have hk1 : (z + 1).toInt = ((k + 1 : Nat) : Int) := zincN hz (by omega)
    rw [zof_cl hz] at a3
    have ea := mJs_g a3 rfl
    exact tG_cut (zW_mono zTt G dp) (Or.inr ⟨rfl, rfl, h3, k + 1, z + 1, rfl, hF3, hk1, fun t ht => (congrFun ea t).trans ((Classical.em (t = k)).elim (fun y => if_pos y) (fun y => (if_neg y).trans (hall t (by omega)))), rfl⟩)
theorem wF_e {h h2 : zH} {k : Int32} (e1 : tA h2 65 = tA h 65) (e2 : tA h2 71 = tA h 71) : wF h2 k = wF h k := by
  funext i
  unfold wF
  rw [e1, e2]
theorem wD_e {h h2 : zH} {k : Int32} (e1 : tA h2 65 = tA h 65) (e2 : tA h2 71 = tA h 71) (e3 : tA h2 70 = tA h 70) : wD h2 k = wD h k := by
  funext i
  unfold wD
  rw [e1, e2, e3]
theorem tF9_e {h h2 : zH} (e1 : tA h2 67 = tA h 67) : tF9 h2 = tF9 h := by
  funext i
  unfold tF9
  rw [e1]
/-- what the class counts of a kind -/
noncomputable def tly (k : Int32) (h h2 : zH) : Prop := (∀ t : Nat, t < 600 → (tA h2 107 t).toInt = bN (wK h k) (tK9 h) (tvI (tF h 36 4)).toNatClampNeg t) ∧ (∀ t : Nat, t < 600 → (tA h2 108 t).toInt = bN (wF h k) (tF9 h) (tvI (tF h 63 8)).toNatClampNeg t) ∧ ∀ t : Nat, t < 600 → (tA h2 109 t).toInt = bN (wD h k) (tF9 h) (tvI (tF h 63 8)).toNatClampNeg t
theorem f_tally {G : zG} (hG : G.1 = zProg) {h : zH} {k : Int32} (hs : tSh h) (hL : R_cl h) (hg : ∀ i r : Nat, (i : Int) < (tvI (tF h 36 4)).toInt → tO h 39 i = some r → 182 ≤ r) (hK : R_ckind h) (hT : R_ctl h) (hn107 : tN h 107 = 600) (hn108 : tN h 108 = 600) (hn109 : tN h 109 = 600) (h123 : ∀ i, i < 300 → 0 ≤ (tA h 123 i).toInt ∧ (tA h 123 i).toInt ≤ 599) (h36 : 0 ≤ (tvI (tF h 36 4)).toInt ∧ (tvI (tF h 36 4)).toInt ≤ 300) (h67 : ∀ i, i < 200 → 0 ≤ (tA h 67 i).toInt ∧ (tA h 67 i).toInt ≤ 599) (h70 : ∀ i, i < 200 → 0 ≤ (tA h 70 i).toInt ∧ (tA h 70 i).toInt ≤ 9) (h63 : 0 ≤ (tvI (tF h 63 8)).toInt ∧ (tvI (tF h 63 8)).toInt ≤ 200) : tC zTt G 164 [.ref 0, .int k] h (fun w h2 => w = none ∧ aFr (fun r => r = 107 ∨ r = 108 ∨ r = 109) h h2 ∧ tly k h h2) := by
  refine tC_in (by rw [hG]; rfl) (fun dp => ?_)
  refine tw_aload rfl rfl ?_
  refine tw_getS rfl (hs_0_1 hs) ?_
  refine tw_iload rfl rfl ?_
  refine tw_aload rfl rfl ?_
  refine tw_getS rfl (hs_0_10 hs) ?_
  refine tw_virt2 rfl (f_countCars hG hs hL hg hK hT hn107 h123 h36) (fun wp980 hp980 p980 => ?_)
  obtain ⟨rfl, FA, Z7⟩ := p980
  have eA : ∀ p, p ≠ 107 → tA hp980 p = tA h p := fun p hp => FA.2.2.2.2.2 p hp
  have eF : tF hp980 = tF h := FA.2.1
  refine tw_aload rfl rfl ?_
  refine tw_getS rfl (hs_0_5 FA.1) ?_
  refine tw_iload rfl rfl ?_
  refine tw_aload rfl rfl ?_
  refine tw_getS rfl (hs_0_11 FA.1) ?_
  refine tw_aload rfl rfl ?_
  refine tw_getS rfl (hs_0_12 FA.1) ?_
  refine tw_virt3 rfl (f_countFires hG FA.1 (by rw [FA.2.2.2.2.1]; exact hn108) (by rw [FA.2.2.2.2.1]; exact hn109) (by rw [eA 67 (by decide)]; exact h67) (by rw [eA 70 (by decide)]; exact h70) (by rw [eF]; exact h63)) (fun wp981 hp981 p981 => ?_)
  obtain ⟨rfl, FB, Z8, Z9⟩ := p981
  rw [eF] at Z8 Z9
  rw [wF_e (eA 65 (by decide)) (eA 71 (by decide)), tF9_e (eA 67 (by decide))] at Z8
  rw [wD_e (eA 65 (by decide)) (eA 71 (by decide)) (eA 70 (by decide)), tF9_e (eA 67 (by decide))] at Z9
  exact tw_vret rfl ⟨rfl, aFr_t (aFr_m FA (fun _ y => Or.inl y)) (aFr_m FB (fun _ y => Or.inr y)), fun t ht => (congrArg Int32.toInt (congrFun (FB.2.2.2.2.2 107 (by decide)) t)).trans (Z7 t ht), Z8, Z9⟩
/-- the words of a kind in a month -/
noncomputable def qW (a b c d e f g : Int64) : Nat → Int64
  | 0 => a
  | 1 => b
  | 2 => c
  | 3 => d
  | 4 => e
  | 5 => f
  | 6 => g
  | _ => 0
theorem mJs_7 {h b0 b1 b2 b3 b4 b5 b6 b7 : zH} {x0 x1 x2 x3 x4 x5 x6 : Int64} {p : Nat} (k0 : ∀ t, t < 12 → tJ b0 p t = 0) (k1 : mJs p 0 x0 b0 b1) (k2 : mJs p 1 x1 b1 b2) (k3 : mJs p 2 x2 b2 b3) (k4 : mJs p 3 x3 b3 b4) (k5 : mJs p 4 x4 b4 b5) (k6 : mJs p 5 x5 b5 b6) (k7 : mJs p 6 x6 b6 b7) : ∀ i, i < 12 → tJ b7 p i = qW x0 x1 x2 x3 x4 x5 x6 i := by
  intro i hi
  rw [mJs_g k7 (mJs_g k6 (mJs_g k5 (mJs_g k4 (mJs_g k3 (mJs_g k2 (mJs_g k1 rfl))))))]
  have z := k0 i hi
  rcases (by omega : i = 0 ∨ i = 1 ∨ i = 2 ∨ i = 3 ∨ i = 4 ∨ i = 5 ∨ i = 6 ∨ (7 ≤ i ∧ i < 12)) with rfl | rfl | rfl | rfl | rfl | rfl | rfl | hi7
  · rfl
  · rfl
  · rfl
  · rfl
  · rfl
  · rfl
  · rfl
  · dsimp only
    rw [if_neg (by omega), if_neg (by omega), if_neg (by omega), if_neg (by omega), if_neg (by omega), if_neg (by omega), if_neg (by omega), z]
    rcases (by omega : i = 7 ∨ i = 8 ∨ i = 9 ∨ i = 10 ∨ i = 11) with rfl | rfl | rfl | rfl | rfl <;> rfl
theorem f_askOfKind {G : zG} (hG : G.1 = zProg) {h : zH} {k m y : Int32} (hs : tSh h) (h52 : tN h 52 = 12) : tC zTt G 165 [.ref 0, .int k, .int m, .int y] h (fun w h2 => w = none ∧ wFr 52 h h2 ∧ ∀ i, i < 12 → tJ h2 52 i = (qW m.toInt64 k.toInt64 (tA h 3 k.toNatClampNeg).toInt64 y.toInt64 (tA h 107 m.toNatClampNeg).toInt64 (tA h 108 m.toNatClampNeg).toInt64 (tA h 109 m.toNatClampNeg).toInt64) i) := by
  refine tC_in (by rw [hG]; rfl) (fun dp => ?_)
  refine tw_aload rfl rfl ?_
  refine tw_getS rfl (hs_0_3 hs) ?_
  refine tw_getS rfl (hs_48_4 hs) ?_
  refine tw_astore rfl ?_
  refine tw_aload rfl rfl ?_
  refine tw_push rfl ?_
  refine tw_stat2 rfl (f_fillJ hG hs (by rw [h52]; decide)) (fun wp982 hp982 p982 => ?_)
  obtain ⟨rfl, G0, Z0⟩ := p982
  rw [h52] at Z0
  refine tw_aload rfl rfl ?_
  refine tw_push rfl ?_
  refine tw_iload rfl rfl ?_
  refine tw_i2l rfl ?_
  refine tw_last rfl (fun f983 => ?_)
  refine tG_lst f983 G0.1 (fun b1 a1 => ?_)
  try dsimp only [tvI_i, tvJ_j, tvR_r] at a1
  have G1 := wFr_s G0 a1
  refine tw_aload rfl rfl ?_
  refine tw_push rfl ?_
  refine tw_iload rfl rfl ?_
  refine tw_i2l rfl ?_
  refine tw_last rfl (fun f984 => ?_)
  refine tG_lst f984 G1.1 (fun b2 a2 => ?_)
  try dsimp only [tvI_i, tvJ_j, tvR_r] at a2
  have G2 := wFr_s G1 a2
  refine tw_aload rfl rfl ?_
  refine tw_push rfl ?_
  refine tw_aload rfl rfl ?_
  refine tw_getS rfl (hs_0_0 G2.1) ?_
  refine tw_getS rfl (hs_1_1 G2.1) ?_
  refine tw_iload rfl rfl ?_
  refine tw_iald rfl (fun f985 => ?_)
  refine tw_i2l rfl ?_
  refine tw_last rfl (fun f986 => ?_)
  refine tG_lst f986 G2.1 (fun b3 a3 => ?_)
  try dsimp only [tvI_i, tvJ_j, tvR_r] at a3
  have G3 := wFr_s G2 a3
  refine tw_aload rfl rfl ?_
  refine tw_push rfl ?_
  refine tw_iload rfl rfl ?_
  refine tw_i2l rfl ?_
  refine tw_last rfl (fun f987 => ?_)
  refine tG_lst f987 G3.1 (fun b4 a4 => ?_)
  try dsimp only [tvI_i, tvJ_j, tvR_r] at a4
  have G4 := wFr_s G3 a4
  refine tw_aload rfl rfl ?_
  refine tw_push rfl ?_
  refine tw_aload rfl rfl ?_
  refine tw_getS rfl (hs_0_10 G4.1) ?_
  refine tw_iload rfl rfl ?_
  refine tw_iald rfl (fun f988 => ?_)
  refine tw_i2l rfl ?_
  refine tw_last rfl (fun f989 => ?_)
  refine tG_lst f989 G4.1 (fun b5 a5 => ?_)
  try dsimp only [tvI_i, tvJ_j, tvR_r] at a5
  have G5 := wFr_s G4 a5
  refine tw_aload rfl rfl ?_
  refine tw_push rfl ?_
  refine tw_aload rfl rfl ?_
  refine tw_getS rfl (hs_0_11 G5.1) ?_
  refine tw_iload rfl rfl ?_
  refine tw_iald rfl (fun f990 => ?_)
  refine tw_i2l rfl ?_
  refine tw_last rfl (fun f991 => ?_)
  refine tG_lst f991 G5.1 (fun b6 a6 => ?_)
  try dsimp only [tvI_i, tvJ_j, tvR_r] at a6
  have G6 := wFr_s G5 a6
  refine tw_aload rfl rfl ?_
  refine tw_push rfl ?_
  refine tw_aload rfl rfl ?_
  refine tw_getS rfl (hs_0_12 G6.1) ?_
  refine tw_iload rfl rfl ?_
  refine tw_iald rfl (fun f992 => ?_)
  refine tw_i2l rfl ?_
  refine tw_last rfl (fun f993 => ?_)
  refine tG_lst f993 G6.1 (fun b7 a7 => ?_)
  try dsimp only [tvI_i, tvJ_j, tvR_r] at a7
  have G7 := wFr_s G6 a7
  rw [congrFun G2.2.2.1 3] at a3
  rw [congrFun G4.2.2.1 107] at a5
  rw [congrFun G5.2.2.1 108] at a6
  rw [congrFun G6.2.2.1 109] at a7
  exact tw_vret rfl ⟨rfl, G7, mJs_7 (h := h) Z0 a1 a2 a3 a4 a5 a6 a7⟩
/-- the rule in force among the first n -/
noncomputable def sRI (fm : Nat → Int32) (m : Int32) : Nat → Int32
  | 0 => -1
  | n + 1 => if (fm n).toInt ≤ m.toInt ∧ (sRI fm m n = -1 ∨ (fm (sRI fm m n).toNatClampNeg).toInt ≤ (fm n).toInt) then Int32.ofNat n else sRI fm m n
section RI9
variable {fm : Nat → Int32} {m x y : Int32} {n : Nat}
theorem sRI_u : sRI fm m (n + 1) = if (fm n).toInt ≤ m.toInt ∧ (sRI fm m n = -1 ∨ (fm (sRI fm m n).toNatClampNeg).toInt ≤ (fm n).toInt) then Int32.ofNat n else sRI fm m n := rfl
theorem sRI_y (hx : x.toInt = n) (hy : y = sRI fm m n) (h1 : (fm x.toNatClampNeg).toInt ≤ m.toInt) (h2 : y = -1 ∨ (fm y.toNatClampNeg).toInt ≤ (fm x.toNatClampNeg).toInt) : x = sRI fm m (n + 1) := by
  rw [zof_cl hx] at h1 h2
  rw [sRI_u, ← hy, if_pos ⟨h1, h2⟩]
  exact zof hx
theorem sRI_n (hx : x.toInt = n) (hy : y = sRI fm m n) (h : ¬ ((fm x.toNatClampNeg).toInt ≤ m.toInt ∧ (y = -1 ∨ (fm y.toNatClampNeg).toInt ≤ (fm x.toNatClampNeg).toInt))) : y = sRI fm m (n + 1) := by
  rw [zof_cl hx] at h
  rw [sRI_u, ← hy, if_neg h]
end RI9
theorem f_ruleIn {G : zG} (hG : G.1 = zProg) {h : zH} {m : Int32} (hs : tSh h) (hn : 0 ≤ (tvI (tF h 48 3)).toInt) : tC zTt G 65 [.ref 48, .int m] h (fun w h2 => w = some (.int (sRI (tA h 49) m (tvI (tF h 48 3)).toNatClampNeg)) ∧ h2 = h) := by
  refine tC_in (by rw [hG]; rfl) (fun dp => ?_)
  refine tw_push rfl ?_
  refine tw_istore rfl ?_
  refine tw_push rfl ?_
  refine tw_istore rfl ?_
  refine tG_loop (zW_mono zTt G dp) (zW_conj zTt G dp) (V := fun pc L st h9 _ _ => pc = 4 ∧ st = [] ∧ h = h9 ∧ ∃ (n : Nat) (x y : Int32), x.toInt = n ∧ (n : Int) ≤ (tvI (tF h 48 3)).toInt ∧ y = sRI (tA h 49) m n ∧ L = [some (.ref 48), some (.int m), some (.int y), some (.int x)]) ?_ (⟨rfl, rfl, rfl, 0, 0, -1, rfl, hn, rfl, rfl⟩)
  rintro _ _ _ _ _ _ ⟨rfl, rfl, rfl, n, x, y, hx, hn, hy, rfl⟩
  refine tw_iload rfl rfl ?_
  refine tw_aload rfl rfl ?_
  refine tw_getS rfl (hi_48_3 hs) ?_
  refine tw_ic_ge rfl (fun q994 => ?_) (fun q994 => ?_)
  · try dsimp only [tvI_i, tvJ_j, tvR_r] at q994
    refine tw_iload rfl rfl ?_
    exact tw_iret rfl ⟨(by rw [show n = (tvI (tF h 48 3)).toNatClampNeg from by rw [zclE]; omega] at hy; exact congrArg (fun z => some (Value.int z)) hy), rfl⟩
  · try dsimp only [tvI_i, tvJ_j, tvR_r] at q994
    refine tw_aload rfl rfl ?_
    refine tw_getS rfl (hs_48_0 hs) ?_
    refine tw_iload rfl rfl ?_
    refine tw_iald rfl (fun f995 => ?_)
    refine tw_iload rfl rfl ?_
    refine tw_ic_gt rfl (fun q996 => ?_) (fun q996 => ?_)
    · try dsimp only [tvI_i, tvJ_j, tvR_r] at q996
      refine tw_iinc rfl rfl ?_
      refine tw_goto rfl ?_
      exact tG_cut (zW_mono zTt G dp) (Or.inr ⟨rfl, rfl, rfl, n + 1, x + 1, _, zincL hx q994, by omega, sRI_n hx hy (fun z => absurd z.1 (by omega)), rfl⟩)
    · try dsimp only [tvI_i, tvJ_j, tvR_r] at q996
      refine tw_iload rfl rfl ?_
      refine tw_push rfl ?_
      refine tw_ic_eq rfl (fun q997 => ?_) (fun q997 => ?_)
      · try dsimp only [tvI_i, tvJ_j, tvR_r] at q997
        have q997i := zeqi (Y := (-1)) (by decide) q997
        refine tw_iload rfl rfl ?_
        refine tw_istore rfl ?_
        refine tw_iinc rfl rfl ?_
        refine tw_goto rfl ?_
        exact tG_cut (zW_mono zTt G dp) (Or.inr ⟨rfl, rfl, rfl, n + 1, x + 1, _, zincL hx q994, by omega, sRI_y hx hy (by omega) (Or.inl q997), rfl⟩)
      · try dsimp only [tvI_i, tvJ_j, tvR_r] at q997
        have q997i := zneq (Y := (-1)) (by decide) q997
        refine tw_aload rfl rfl ?_
        refine tw_getS rfl (hs_48_0 hs) ?_
        refine tw_iload rfl rfl ?_
        refine tw_iald rfl (fun f998 => ?_)
        refine tw_aload rfl rfl ?_
        refine tw_getS rfl (hs_48_0 hs) ?_
        refine tw_iload rfl rfl ?_
        refine tw_iald rfl (fun f999 => ?_)
        refine tw_ic_lt rfl (fun q1000 => ?_) (fun q1000 => ?_)
        · try dsimp only [tvI_i, tvJ_j, tvR_r] at q1000
          refine tw_iinc rfl rfl ?_
          refine tw_goto rfl ?_
          exact tG_cut (zW_mono zTt G dp) (Or.inr ⟨rfl, rfl, rfl, n + 1, x + 1, _, zincL hx q994, by omega, sRI_n hx hy (fun z => z.2.elim q997 (fun z => absurd z (by omega))), rfl⟩)
        · try dsimp only [tvI_i, tvJ_j, tvR_r] at q1000
          refine tw_iload rfl rfl ?_
          refine tw_istore rfl ?_
          refine tw_iinc rfl rfl ?_
          refine tw_goto rfl ?_
          exact tG_cut (zW_mono zTt G dp) (Or.inr ⟨rfl, rfl, rfl, n + 1, x + 1, _, zincL hx q994, by omega, sRI_y hx hy (by omega) (Or.inr (by omega)), rfl⟩)
theorem g_inForceIn {G : zG} (hG : G.1 = zProg) {h : zH} {m : Int32} (hs : tSh h) (hn : 0 ≤ (tvI (tF h 111 30)).toInt) : tC zTt G 226 [.ref 111, .int m] h (fun w h2 => w = some (.int (sRI (tA h 141) m (tvI (tF h 111 30)).toNatClampNeg)) ∧ h2 = h) := by
  refine tC_in (by rw [hG]; rfl) (fun dp => ?_)
  refine tw_push rfl ?_
  refine tw_istore rfl ?_
  refine tw_push rfl ?_
  refine tw_istore rfl ?_
  refine tG_loop (zW_mono zTt G dp) (zW_conj zTt G dp) (V := fun pc L st h9 _ _ => pc = 4 ∧ st = [] ∧ h = h9 ∧ ∃ (n : Nat) (x y : Int32), x.toInt = n ∧ (n : Int) ≤ (tvI (tF h 111 30)).toInt ∧ y = sRI (tA h 141) m n ∧ L = [some (.ref 111), some (.int m), some (.int y), some (.int x)]) ?_ (⟨rfl, rfl, rfl, 0, 0, -1, rfl, hn, rfl, rfl⟩)
  rintro _ _ _ _ _ _ ⟨rfl, rfl, rfl, n, x, y, hx, hn, hy, rfl⟩
  refine tw_iload rfl rfl ?_
  refine tw_aload rfl rfl ?_
  refine tw_getS rfl (hi_111_30 hs) ?_
  refine tw_ic_ge rfl (fun q1001 => ?_) (fun q1001 => ?_)
  · try dsimp only [tvI_i, tvJ_j, tvR_r] at q1001
    refine tw_iload rfl rfl ?_
    exact tw_iret rfl ⟨(by rw [show n = (tvI (tF h 111 30)).toNatClampNeg from by rw [zclE]; omega] at hy; exact congrArg (fun z => some (Value.int z)) hy), rfl⟩
  · try dsimp only [tvI_i, tvJ_j, tvR_r] at q1001
    refine tw_aload rfl rfl ?_
    refine tw_getS rfl (hs_111_44 hs) ?_
    refine tw_iload rfl rfl ?_
    refine tw_iald rfl (fun f1002 => ?_)
    refine tw_iload rfl rfl ?_
    refine tw_ic_gt rfl (fun q1003 => ?_) (fun q1003 => ?_)
    · try dsimp only [tvI_i, tvJ_j, tvR_r] at q1003
      refine tw_iload rfl rfl ?_
      refine tw_istore rfl ?_
      refine tw_iinc rfl rfl ?_
      refine tw_goto rfl ?_
      exact tG_cut (zW_mono zTt G dp) (Or.inr ⟨rfl, rfl, rfl, n + 1, x + 1, _, zincL hx q1001, by omega, sRI_n hx hy (fun z => absurd z.1 (by omega)), rfl⟩)
    · try dsimp only [tvI_i, tvJ_j, tvR_r] at q1003
      refine tw_iload rfl rfl ?_
      refine tw_push rfl ?_
      refine tw_ic_eq rfl (fun q1004 => ?_) (fun q1004 => ?_)
      · try dsimp only [tvI_i, tvJ_j, tvR_r] at q1004
        have q1004i := zeqi (Y := (-1)) (by decide) q1004
        refine tw_iload rfl rfl ?_
        refine tw_goto rfl ?_
        refine tw_istore rfl ?_
        refine tw_iinc rfl rfl ?_
        refine tw_goto rfl ?_
        exact tG_cut (zW_mono zTt G dp) (Or.inr ⟨rfl, rfl, rfl, n + 1, x + 1, _, zincL hx q1001, by omega, sRI_y hx hy (by omega) (Or.inl q1004), rfl⟩)
      · try dsimp only [tvI_i, tvJ_j, tvR_r] at q1004
        have q1004i := zneq (Y := (-1)) (by decide) q1004
        refine tw_aload rfl rfl ?_
        refine tw_getS rfl (hs_111_44 hs) ?_
        refine tw_iload rfl rfl ?_
        refine tw_iald rfl (fun f1005 => ?_)
        refine tw_aload rfl rfl ?_
        refine tw_getS rfl (hs_111_44 hs) ?_
        refine tw_iload rfl rfl ?_
        refine tw_iald rfl (fun f1006 => ?_)
        refine tw_ic_lt rfl (fun q1007 => ?_) (fun q1007 => ?_)
        · try dsimp only [tvI_i, tvJ_j, tvR_r] at q1007
          refine tw_iload rfl rfl ?_
          refine tw_istore rfl ?_
          refine tw_iinc rfl rfl ?_
          refine tw_goto rfl ?_
          exact tG_cut (zW_mono zTt G dp) (Or.inr ⟨rfl, rfl, rfl, n + 1, x + 1, _, zincL hx q1001, by omega, sRI_n hx hy (fun z => z.2.elim q1004 (fun z => absurd z (by omega))), rfl⟩)
        · try dsimp only [tvI_i, tvJ_j, tvR_r] at q1007
          refine tw_iload rfl rfl ?_
          refine tw_goto rfl ?_
          refine tw_istore rfl ?_
          refine tw_iinc rfl rfl ?_
          refine tw_goto rfl ?_
          exact tG_cut (zW_mono zTt G dp) (Or.inr ⟨rfl, rfl, rfl, n + 1, x + 1, _, zincL hx q1001, by omega, sRI_y hx hy (by omega) (Or.inr (by omega)), rfl⟩)
/-! what a rule tells, whichever words they are -/
theorem ev_w {W W2 : Nat → Int64} (hW : ∀ i, i < 12 → W i = W2 i) {e : List Nat} {S S1 : List Bool} {X : List Int64} (h : tyL S e = some S1) : ev W e X = ev W2 e X := by
  induction e generalizing S X with
  | nil => rfl
  | cons c e ih =>
    obtain ⟨S2, h1, h2⟩ := tyL_c h
    show ev W e (ev1 W c X) = ev W2 e (ev1 W2 c X)
    have e1 : ev1 W c X = ev1 W2 c X := by
      by_cases z : c < 100100
      · rw [ev_v z, ev_v z]
        have hc : c < 100012 := by
          unfold tyS at h1
          split at h1
          · assumption
          · repeat' (split at h1)
            all_goals first | omega | cases h1
        unfold vOf
        by_cases y : 100000 ≤ c
        · rw [if_pos y, if_pos y, hW _ (by omega)]
        · rw [if_neg y, if_neg y]
      · unfold ev1
        rw [if_neg z, if_neg z]
    rw [e1]
    exact ih h2
theorem wv_w {W W2 : Nat → Int64} (hW : ∀ i, i < 12 → W i = W2 i) {e : List Nat} {S1 : List Bool} (h : tyL [] e = some S1) : wv W e = wv W2 e := by
  unfold wv
  rw [ev_w hW h]
theorem hit_w {W W2 : Nat → Int64} (hW : ∀ i, i < 12 → W i = W2 i) {cs : List Nat} {c : rCt} {th : Nat} (ok : rOk cs c) (nv : nVl cs ≤ 80) : hit W cs c th ↔ hit W2 cs c th := by
  unfold hit
  by_cases z : c.2.2.1 = c.2.2.2
  · exact ⟨fun y => ⟨y.1, Or.inl z⟩, fun y => ⟨y.1, Or.inl z⟩⟩
  · rw [wv_w hW (rOk_t ok nv z).2.2.1]
noncomputable def clI (z : Int) : Int := if z < 0 then 0 else if 200 < z then 200 else z
/-- what the first clause of a thing tells, held between 0 and 200; -1 without one -/
noncomputable def muO (W : Nat → Int64) (cs : List Nat) (cl : Nat → rCt) (K th : Nat) (r : Int32) : Prop := (r = -1 ∧ ∀ i, i < K → ¬ hit W cs (cl i) th) ∨ ∃ i, i < K ∧ hit W cs (cl i) th ∧ (∀ j, j < i → ¬ hit W cs (cl j) th) ∧ r.toInt = clI (wv W (slc cs (cl i).2.1 (cl i).2.2.1)).toInt
theorem muO_u {W W2 : Nat → Int64} (hW : ∀ i, i < 12 → W i = W2 i) {cs : List Nat} {cl : Nat → rCt} {K th : Nat} {r r2 : Int32} (ok : ∀ i, i < K → rOk cs (cl i)) (nv : nVl cs ≤ 80) (h15 : th ≠ 15) (h1 : muO W cs cl K th r) (h2 : muO W2 cs cl K th r2) : r2 = r := by
  rcases h1 with ⟨rfl, a1⟩ | ⟨i, a1, a2, a3, a4⟩ <;> rcases h2 with ⟨rfl, b1⟩ | ⟨j, b1, b2, b3, b4⟩
  · rfl
  · exact absurd ((hit_w hW (ok j b1) nv).mpr b2) (a1 j b1)
  · exact absurd ((hit_w hW (ok i a1) nv).mp a2) (b1 i a1)
  · have e : i = j := by
      rcases Nat.lt_trichotomy i j with z | z | z
      · exact absurd ((hit_w hW (ok i a1) nv).mp a2) (b3 i z)
      · exact z
      · exact absurd ((hit_w hW (ok j b1) nv).mpr b2) (a3 j z)
    subst e
    have h15 : (cl i).1 ≠ 15 := fun z => h15 (a2.1.symm.trans z)
    refine Int32.toInt_inj.mp ?_
    rw [a4, b4, wv_w hW (rOk_s (ok i a1) nv h15).2.2.1]
theorem zl2i {x : Int64} (h : 0 ≤ x.toInt ∧ x.toInt ≤ 1000) : x.toInt32.toInt = x.toInt := by
  rw [Int64.toInt_toInt32]
  exact Int.bmod_eq_of_le (by show (-2147483648 : Int) ≤ x.toInt; omega) (by show x.toInt < (2147483648 : Int); omega)
theorem clI_c {S : Int64} : ((if (if S < 200 then S else 200) < 0 then 0 else if S < 200 then S else 200 : Int64)).toInt32.toInt = clI S.toInt := by
  have k2 : (200 : Int64).toInt = 200 := by decide
  have k0 : (0 : Int64).toInt = 0 := by decide
  unfold clI
  by_cases a : S < 200
  · have a2 := Int64.lt_iff_toInt_lt.mp a
    rw [if_pos a]
    by_cases b : S < 0
    · have b2 := Int64.lt_iff_toInt_lt.mp b
      rw [if_pos b, if_pos (by omega)]
      rfl
    · have b2 : ¬ S.toInt < 0 := fun z => b (Int64.lt_iff_toInt_lt.mpr (by omega))
      rw [if_neg b, if_neg b2, if_neg (by omega)]
      exact zl2i (by omega)
  · have a2 : ¬ S.toInt < 200 := fun z => a (Int64.lt_iff_toInt_lt.mpr (by omega))
    rw [if_neg a, if_neg (by decide), if_neg (by omega)]
    by_cases b : 200 < S.toInt
    · rw [if_pos b]; rfl
    · rw [if_neg b, show S.toInt = 200 by omega]; rfl
/-- only words and stacks have changed -/
noncomputable def lFr (h h2 : zH) : Prop := tSh h2 ∧ tF h2 = tF h ∧ tA h2 = tA h ∧ tO h2 = tO h ∧ tN h2 = tN h
theorem lFr_w {h h2 : zH} {p : Nat} (k : wFr p h h2) : lFr h h2 := ⟨k.1, k.2.1, k.2.2.1, k.2.2.2.1, k.2.2.2.2.1⟩
theorem lFr_t {h h1 h2 : zH} (a : lFr h h1) (k : lFr h1 h2) : lFr h h2 := ⟨k.1, k.2.1.trans a.2.1, k.2.2.1.trans a.2.2.1, k.2.2.2.1.trans a.2.2.2.1, k.2.2.2.2.trans a.2.2.2.2⟩
theorem rDt.fr {h h2 : zH} {a b K : Nat} {cs : List Nat} {cl : Nat → rCt} (D : rDt h a b K cs cl) (k : lFr h h2) : rDt h2 a b K cs cl := by
  obtain ⟨h1, h2, h3, h4, h5, h6, h7, h8⟩ := D
  have eN := k.2.2.2.2
  have eA := k.2.2.1
  exact ⟨by rw [eN, eA]; exact h1, by rw [eN]; exact h2, by rw [eN, eA]; exact h3, by rw [eN]; exact h4, h5, by rw [eA]; exact h6, h7, h8⟩
theorem rDm.fr {h h2 : zH} {q K : Nat} {cs : List Nat} {cl : Nat → rCt} (D : rDm h q K cs cl) (k : lFr h h2) : rDm h2 q K cs cl := by
  obtain ⟨h1, h2, h3, h4, h5, h6, h7⟩ := D
  have eA := k.2.2.1
  exact ⟨by rw [eA]; exact h1, h2, by rw [eA]; exact h3, h4, fun i hi => by rw [← h5 i hi]; unfold mRow; rw [eA], h6, h7⟩
/-- the rule that is in force, in the class's arrays -/
noncomputable def rIc (h : zH) (y : Int32) (K : Nat) (cs : List Nat) (cl : Nat → rCt) : Prop := (y = -1 ∧ K = 0) ∨ ∃ q a b : Nat, y.toInt = (q : Int) ∧ (q : Int) < (tvI (tF h 48 3)).toInt ∧ tO h 50 q = some a ∧ tO h 51 q = some b ∧ (182 ≤ a ∧ 182 ≤ b) ∧ rDt h a b K cs cl
theorem rIc.fr {h h2 : zH} {y : Int32} {K : Nat} {cs : List Nat} {cl : Nat → rCt} (D : rIc h y K cs cl) (k : lFr h h2) : rIc h2 y K cs cl := by
  rcases D with D | ⟨q, a, b, h1, h2, h3, h4, h6, h5⟩
  · exact Or.inl D
  · exact Or.inr ⟨q, a, b, h1, by rw [k.2.1]; exact h2, by rw [k.2.2.2.1]; exact h3, by rw [k.2.2.2.1]; exact h4, h6, h5.fr k⟩
theorem rIc_af {h h2 : zH} {P : Nat → Prop} {y : Int32} {K : Nat} {cs : List Nat} {cl : Nat → rCt} (D : rIc h y K cs cl) (k : aFr P h h2) (hP : ∀ q, P q → q < 182) : rIc h2 y K cs cl := by
  rcases D with D | ⟨q, a, b, h1, h2, h3, h4, h6, d1, d2, d3, d4, d5, d6, d7, d8⟩
  · exact Or.inl D
  · have ea := k.2.2.2.2.2 a (fun z => by have := hP a z; omega)
    have eb := k.2.2.2.2.2 b (fun z => by have := hP b z; omega)
    have eN := k.2.2.2.2.1
    refine Or.inr ⟨q, a, b, h1, by rw [k.2.1]; exact h2, by rw [k.2.2.2.1]; exact h3, by rw [k.2.2.2.1]; exact h4, h6, ?_, ?_, ?_, ?_, d5, ?_, d7, d8⟩
    · rw [eN, ea]; exact d1
    · rw [eN]; exact d2
    · rw [eN, ea]; exact d3
    · rw [eN]; exact d4
    · rw [eb]; exact d6
/-- the same in the reference's -/
noncomputable def rIm (h : zH) (y : Int32) (K : Nat) (cs : List Nat) (cl : Nat → rCt) : Prop := (y = -1 ∧ K = 0) ∨ ∃ q : Nat, y.toInt = (q : Int) ∧ q < 10 ∧ rDm h q K cs cl
/-! the reference's words -/
noncomputable def qS (g : Nat → Int64) (a b c d : Int64) (e f i : Int) : Prop := g 0 = a ∧ g 1 = b ∧ g 2 = c ∧ g 3 = d ∧ (g 4).toInt = e ∧ (g 5).toInt = f ∧ (g 6).toInt = i ∧ ∀ t, 7 ≤ t → t < 12 → g t = 0
section QS
variable {g : Nat → Int64} {a b c d x : Int64} {e f i e2 : Int}
theorem qS_0 (h : ∀ t, t < 12 → g t = 0) : qS (fun j => if j = 3 then d else if j = 2 then c else if j = 1 then b else if j = 0 then a else g j) a b c d 0 0 0 := by
  refine ⟨rfl, rfl, rfl, rfl, ?_, ?_, ?_, fun t h1 h2 => ?_⟩
  · show (g 4).toInt = 0
    rw [h 4 (by decide)]; rfl
  · show (g 5).toInt = 0
    rw [h 5 (by decide)]; rfl
  · show (g 6).toInt = 0
    rw [h 6 (by decide)]; rfl
  · dsimp only
    rw [if_neg (by omega), if_neg (by omega), if_neg (by omega), if_neg (by omega)]
    exact h t h2
theorem qS_4 (k : qS g a b c d e f i) (hx : x.toInt = e2) : qS (fun j => if j = 4 then x else g j) a b c d e2 f i := by
  obtain ⟨k0, k1, k2, k3, k4, k5, k6, k7⟩ := k
  exact ⟨k0, k1, k2, k3, hx, k5, k6, fun t h1 h2 => (if_neg (by omega)).trans (k7 t h1 h2)⟩
theorem qS_5 (k : qS g a b c d e f i) (hx : x.toInt = e2) : qS (fun j => if j = 5 then x else g j) a b c d e e2 i := by
  obtain ⟨k0, k1, k2, k3, k4, k5, k6, k7⟩ := k
  exact ⟨k0, k1, k2, k3, k4, hx, k6, fun t h1 h2 => (if_neg (by omega)).trans (k7 t h1 h2)⟩
theorem qS_6 (k : qS g a b c d e f i) (hx : x.toInt = e2) : qS (fun j => if j = 6 then x else g j) a b c d e f e2 := by
  obtain ⟨k0, k1, k2, k3, k4, k5, k6, k7⟩ := k
  exact ⟨k0, k1, k2, k3, k4, k5, hx, fun t h1 h2 => (if_neg (by omega)).trans (k7 t h1 h2)⟩
theorem qS_W {e3 f3 i3 : Int64} (k : qS g a b c d e f i) (h4 : e3.toInt = e) (h5 : f3.toInt = f) (h6 : i3.toInt = i) : ∀ t, t < 12 → qW a b c d e3 f3 i3 t = g t := by
  obtain ⟨k0, k1, k2, k3, k4, k5, k6, k7⟩ := k
  intro t ht
  rcases (by omega : t = 0 ∨ t = 1 ∨ t = 2 ∨ t = 3 ∨ t = 4 ∨ t = 5 ∨ t = 6 ∨ (7 ≤ t ∧ t < 12)) with rfl | rfl | rfl | rfl | rfl | rfl | rfl | h7
  · exact k0.symm
  · exact k1.symm
  · exact k2.symm
  · exact k3.symm
  · exact Int64.toInt_inj.mp (h4.trans k4.symm)
  · exact Int64.toInt_inj.mp (h5.trans k5.symm)
  · exact Int64.toInt_inj.mp (h6.trans k6.symm)
  · rw [k7 t h7.1 h7.2]
    rcases (by omega : t = 7 ∨ t = 8 ∨ t = 9 ∨ t = 10 ∨ t = 11) with rfl | rfl | rfl | rfl | rfl <;> rfl
end QS
theorem zLadJ {x y : Int64} {a b : Int} (hx : x.toInt = a) (hy : y.toInt = b) (h : 0 ≤ a ∧ a ≤ 100000000 ∧ 0 ≤ b ∧ b ≤ 100000000) : (x + y).toInt = a + b := by
  rw [Int64.toInt_add, hx, hy]
  exact Int.bmod_eq_of_le (by show (-9223372036854775808 : Int) ≤ a + b; omega) (by show a + b < (9223372036854775808 : Int); omega)
theorem bN_y {w tl : Nat → Int} {n : Nat} {t x : Int} (h : tl n ≤ t) (hx : w n = x) : bN w tl (n + 1) t = bN w tl n t + x := by
  show bN w tl n t + (if tl n ≤ t then w n else 0) = _
  rw [if_pos h, hx]
theorem bN_n {w tl : Nat → Int} {n : Nat} {t : Int} (h : tl n ≤ t → w n = 0) : bN w tl (n + 1) t = bN w tl n t := by
  show bN w tl n t + (if tl n ≤ t then w n else 0) = _
  by_cases q : tl n ≤ t
  · rw [if_pos q, h q, Int.add_zero]
  · rw [if_neg q, Int.add_zero]
theorem bN_e2 {w w2 tl tl2 : Nat → Int} {n : Nat} {t : Int} (h : ∀ i, i < n → tl i = tl2 i ∧ (tl i ≤ t → w i = w2 i)) : bN w tl n t = bN w2 tl2 n t := by
  induction n with
  | zero => rfl
  | succ n ih =>
    show bN w tl n t + (if tl n ≤ t then w n else 0) = bN w2 tl2 n t + (if tl2 n ≤ t then w2 n else 0)
    rw [ih (fun i hi => h i (by omega)), ← (h n (by omega)).1]
    by_cases q : tl n ≤ t
    · rw [if_pos q, if_pos q, (h n (by omega)).2 q]
    · rw [if_neg q, if_neg q]
/-- the reference's cars of a kind made by a month; its fires and deaths -/
noncomputable def mK9 (h : zH) (k m : Int32) (i : Nat) : Int := if tA h 121 i = k ∧ (tA h 122 i).toInt ≤ m.toInt then 1 else 0
noncomputable def mF9 (h : zH) (k : Int32) (i : Nat) : Int := if tA h 121 (tA h 152 i).toNatClampNeg = k ∧ ¬ tA h 158 i = 0 then 1 else 0
noncomputable def mD9 (h : zH) (k : Int32) (i : Nat) : Int := if tA h 121 (tA h 152 i).toNatClampNeg = k ∧ ¬ tA h 158 i = 0 then (tA h 156 i).toInt else 0
noncomputable def mT9 (h : zH) (i : Nat) : Int := (tA h 157 i).toInt
theorem f_firstTrueN {G : zG} (hG : G.1 = zProg) {h : zH} {y t : Int32} (hy : y = -1) : tC zTt G 66 [.ref 48, .int y, .int t] h (fun w h2 => w = some (.int (-1)) ∧ h2 = h) := by
  refine tC_in (by rw [hG]; rfl) (fun dp => ?_)
  refine tw_iload rfl rfl ?_
  refine tw_if_lt rfl (fun _ => ?_) (fun z => absurd z (by rw [hy]; decide))
  refine tw_push rfl ?_
  exact tw_iret rfl ⟨rfl, rfl⟩
theorem f_firstTrueA {G : zG} (hG : G.1 = zProg) {h : zH} {K th : Nat} {y t : Int32} {cs : List Nat} {cl : Nat → rCt} (hs : tSh h) (h52 : tN h 52 = 12) (h53 : tN h 53 = 80) (D : rIc h y K cs cl) (ht : t.toInt = th) : tC zTt G 66 [.ref 48, .int y, .int t] h (fun w h2 => wFr 53 h h2 ∧ fTr (tJ h 52) cs cl K th (fun i => 4 * i) w) := by
  rcases D with ⟨D, k0⟩ | ⟨q, a, b, d1, d2, d3, d4, -, d5⟩
  · refine (f_firstTrueN hG D).mono (fun w h2 z => ?_)
    obtain ⟨rfl, rfl⟩ := z
    exact ⟨wFr_r hs, Or.inl ⟨rfl, fun i hi => by omega⟩⟩
  · exact f_firstTrue hG hs h52 h53 d5 d1 d2 d3 d4 ht
theorem f_sumOfA {G : zG} (hG : G.1 = zProg) {h : zH} {K i : Nat} {y x : Int32} {cs : List Nat} {cl : Nat → rCt} (hs : tSh h) (h52 : tN h 52 = 12) (h53 : tN h 53 = 80) (D : rIc h y K cs cl) (hx : x.toInt = ((4 * i : Nat) : Int)) (hi : i < K) (h15 : (cl i).1 ≠ 15) : tC zTt G 67 [.ref 48, .int y, .int x] h (fun w h2 => w = some (.long (wv (tJ h 52) (slc cs (cl i).2.1 (cl i).2.2.1))) ∧ wFr 53 h h2) := by
  rcases D with ⟨D, k0⟩ | ⟨q, a, b, d1, d2, d3, d4, -, d5⟩
  · omega
  · exact f_sumOf hG hs h52 h53 d5 d1 d3 d4 hx hi h15
theorem f_mustOf {G : zG} (hG : G.1 = zProg) {h : zH} {k s m : Int32} {K th : Nat} {cs : List Nat} {cl : Nat → rCt} (hs : tSh h) (hn : 0 ≤ (tvI (tF h 48 3)).toInt) (h52 : tN h 52 = 12) (h53 : tN h 53 = 80) (D : rIc h (sRI (tA h 49) m (tvI (tF h 48 3)).toNatClampNeg) K cs cl) (hth : s.toInt = th) (h15 : th ≠ 15) : tC zTt G 167 [.ref 0, .int k, .int s, .int m] h (fun w h2 => lFr h h2 ∧ ∃ (r : Int32) (W : Nat → Int64), w = some (.int r) ∧ (∀ i, i < 12 → W i = (qW m.toInt64 k.toInt64 (tA h 3 k.toNatClampNeg).toInt64 m.toInt64 (tA h 107 m.toNatClampNeg).toInt64 (tA h 108 m.toNatClampNeg).toInt64 (tA h 109 m.toNatClampNeg).toInt64) i) ∧ muO W cs cl K th r) := by
  refine tC_in (by rw [hG]; rfl) (fun dp => ?_)
  refine tw_aload rfl rfl ?_
  refine tw_getS rfl (hs_0_3 hs) ?_
  refine tw_iload rfl rfl ?_
  refine tw_virt1 rfl (f_ruleIn hG hs hn) (fun w9 h9 p1008 => ?_)
  obtain ⟨rfl, e9⟩ := p1008
  obtain rfl := e9.symm
  refine tw_istore rfl ?_
  refine tw_aload rfl rfl ?_
  refine tw_iload rfl rfl ?_
  refine tw_iload rfl rfl ?_
  refine tw_iload rfl rfl ?_
  refine tw_virt3 rfl (f_askOfKind hG hs h52) (fun wp1009 hp1009 p1009 => ?_)
  obtain ⟨rfl, FA, ZW⟩ := p1009
  have LA := lFr_w FA
  refine tw_aload rfl rfl ?_
  refine tw_getS rfl (hs_0_3 FA.1) ?_
  refine tw_iload rfl rfl ?_
  refine tw_iload rfl rfl ?_
  refine tw_virt2 rfl (f_firstTrueA hG FA.1 (by rw [LA.2.2.2.2]; exact h52) (by rw [LA.2.2.2.2]; exact h53) (D.fr LA) hth) (fun w9 hp1010 p1010 => ?_)
  obtain ⟨FB, ⟨rfl, hno⟩ | ⟨i, hi, hit1, hfst, x9, rfl, hx9⟩⟩ := p1010
  · refine tw_istore rfl ?_
    refine tw_iload rfl rfl ?_
    refine tw_push rfl ?_
    refine tw_ic_ne rfl (fun z => absurd z (by decide)) (fun _ => ?_)
    refine tw_push rfl ?_
    exact tw_iret rfl ⟨lFr_t LA (lFr_w FB), -1, _, rfl, ZW, Or.inl ⟨rfl, hno⟩⟩
  · have LB := lFr_t LA (lFr_w FB)
    refine tw_istore rfl ?_
    refine tw_iload rfl rfl ?_
    refine tw_push rfl ?_
    refine tw_ic_ne rfl (fun q1011 => ?_) (fun q1011 => ?_)
    · try dsimp only [tvI_i, tvJ_j, tvR_r] at q1011
      have q1011i := zneq (Y := (-1)) (by decide) q1011
      refine tw_push rfl ?_
      refine tw_push rfl ?_
      refine tw_aload rfl rfl ?_
      refine tw_getS rfl (hs_0_3 FB.1) ?_
      refine tw_iload rfl rfl ?_
      refine tw_iload rfl rfl ?_
      refine tw_virt2 rfl (f_sumOfA hG FB.1 (by rw [LB.2.2.2.2]; exact h52) (by rw [LB.2.2.2.2]; exact h53) (D.fr LB) hx9 hi (fun z => h15 (hit1.1.symm.trans z))) (fun wp1012 hp1012 p1012 => ?_)
      obtain ⟨rfl, FC⟩ := p1012
      refine tw_lmin rfl ?_
      refine tw_lmax rfl ?_
      refine tw_l2i rfl ?_
      rw [FB.2.2.2.2.2 52 (by decide)]
      exact tw_iret rfl ⟨lFr_t LB (lFr_w FC), _, _, rfl, ZW, Or.inr ⟨i, hi, hit1, hfst, clI_c⟩⟩
    · try dsimp only [tvI_i, tvJ_j, tvR_r] at q1011
      have q1011i := zeqi (Y := (-1)) (by decide) q1011
      exfalso
      have k9 : (-1 : Int32).toInt = -1 := rfl
      omega
theorem g_asks {G : zG} (hG : G.1 = zProg) {h : zH} {k m y : Int32} (hs : tSh h) (h5 : 0 ≤ (tvI (tF h 111 5)).toInt ∧ (tvI (tF h 111 5)).toInt ≤ 300) (h59 : 0 ≤ (tvI (tF h 111 59)).toInt ∧ (tvI (tF h 111 59)).toInt ≤ 200) (h156 : ∀ i, i < 200 → 0 ≤ (tA h 156 i).toInt ∧ (tA h 156 i).toInt ≤ 9) : tC zTt G 228 [.ref 111, .int k, .int m, .int y] h (fun w h2 => w = none ∧ wFr 143 h h2 ∧ qS (tJ h2 143) m.toInt64 k.toInt64 (tA h 114 k.toNatClampNeg).toInt64 y.toInt64 (bN (mK9 h k m) (tK9 h) (tvI (tF h 111 5)).toNatClampNeg m.toInt) (bN (mF9 h k) (mT9 h) (tvI (tF h 111 59)).toNatClampNeg m.toInt) (bN (mD9 h k) (mT9 h) (tvI (tF h 111 59)).toNatClampNeg m.toInt)) := by
  refine tC_in (by rw [hG]; rfl) (fun dp => ?_)
  refine tw_push rfl ?_
  refine tw_istore rfl ?_
  refine tG_loop (zW_mono zTt G dp) (zW_conj zTt G dp) (V := fun pc L st h9 _ _ => pc = 3 ∧ st = [] ∧ ∃ (h1 : zH) (n : Nat) (z : Int32) (l5 : Option Value), h1 = h9 ∧ wFr 143 h h1 ∧ z.toInt = (n : Int) ∧ n ≤ 12 ∧ (∀ t, t < n → tJ h1 143 t = 0) ∧ L = [some (.ref 111), some (.int k), some (.int m), some (.int y), some (.int z), l5]) ?_ (⟨rfl, rfl, h, 0, 0, none, rfl, wFr_r hs, rfl, by decide, fun t ht => absurd ht (Nat.not_lt_zero _), rfl⟩)
  rintro _ _ _ _ _ _ ⟨rfl, rfl, h1, n, z, l5, rfl, hF, hz, hn12, hall, rfl⟩
  have k12 : (12 : Int32).toInt = 12 := rfl
  refine tw_iload rfl rfl ?_
  refine tw_push rfl ?_
  refine tw_ic_ge rfl (fun q1013 => ?_) (fun q1013 => ?_)
  · try dsimp only [tvI_i, tvJ_j, tvR_r] at q1013
    refine tw_aload rfl rfl ?_
    refine tw_getS rfl (hs_111_48 hF.1) ?_
    refine tw_push rfl ?_
    refine tw_iload rfl rfl ?_
    refine tw_i2l rfl ?_
    refine tw_last rfl (fun f1014 => ?_)
    refine tG_lst f1014 hF.1 (fun hs0 as0 => ?_)
    try dsimp only [tvI_i, tvJ_j, tvR_r] at as0
    have Fs0 := wFr_s hF as0
    refine tw_aload rfl rfl ?_
    refine tw_getS rfl (hs_111_48 Fs0.1) ?_
    refine tw_push rfl ?_
    refine tw_iload rfl rfl ?_
    refine tw_i2l rfl ?_
    refine tw_last rfl (fun f1015 => ?_)
    refine tG_lst f1015 Fs0.1 (fun hs1 as1 => ?_)
    try dsimp only [tvI_i, tvJ_j, tvR_r] at as1
    have Fs1 := wFr_s Fs0 as1
    refine tw_aload rfl rfl ?_
    refine tw_getS rfl (hs_111_48 Fs1.1) ?_
    refine tw_push rfl ?_
    refine tw_aload rfl rfl ?_
    refine tw_getS rfl (hs_111_9 Fs1.1) ?_
    refine tw_iload rfl rfl ?_
    refine tw_iald rfl (fun f1016 => ?_)
    refine tw_i2l rfl ?_
    refine tw_last rfl (fun f1017 => ?_)
    refine tG_lst f1017 Fs1.1 (fun hs2 as2 => ?_)
    try dsimp only [tvI_i, tvJ_j, tvR_r] at as2
    have Fs2 := wFr_s Fs1 as2
    refine tw_aload rfl rfl ?_
    refine tw_getS rfl (hs_111_48 Fs2.1) ?_
    refine tw_push rfl ?_
    refine tw_iload rfl rfl ?_
    refine tw_i2l rfl ?_
    refine tw_last rfl (fun f1018 => ?_)
    refine tG_lst f1018 Fs2.1 (fun hs3 as3 => ?_)
    try dsimp only [tvI_i, tvJ_j, tvR_r] at as3
    have Fs3 := wFr_s Fs2 as3
    rw [congrFun Fs1.2.2.1 114] at as2
    have qq0 : qS (tJ hs3 143) m.toInt64 k.toInt64 (tA h 114 k.toNatClampNeg).toInt64 y.toInt64 (bN (mK9 h k m) (tK9 h) 0 m.toInt) 0 0 := by rw [mJs_g as3 (mJs_g as2 (mJs_g as1 (mJs_g as0 rfl)))]; exact qS_0 (fun t ht => hall t (by omega))
    refine tw_push rfl ?_
    refine tw_istore rfl ?_
    refine tG_loop (zW_mono zTt G dp) (zW_conj zTt G dp) (V := fun pc L st h9 _ _ => pc = 64 ∧ st = [] ∧ ∃ (h1 : zH) (n : Nat) (z : Int32) (l5 : Option Value), h1 = h9 ∧ wFr 143 h h1 ∧ z.toInt = (n : Int) ∧ (n : Int) ≤ (tvI (tF h 111 5)).toInt ∧ qS (tJ h1 143) m.toInt64 k.toInt64 (tA h 114 k.toNatClampNeg).toInt64 y.toInt64 (bN (mK9 h k m) (tK9 h) n m.toInt) 0 0 ∧ L = [some (.ref 111), some (.int k), some (.int m), some (.int y), some (.int z), l5]) ?_ (⟨rfl, rfl, _, 0, 0, _, rfl, Fs3, rfl, h5.1, qq0, rfl⟩)
    rintro _ _ _ _ _ _ ⟨rfl, rfl, h1, n, z, l5, rfl, hF, hz, hnn, hQ, rfl⟩
    have e5 : (tvI (tF h1 111 5)).toInt = (tvI (tF h 111 5)).toInt := by rw [hF.2.1]
    refine tw_iload rfl rfl ?_
    refine tw_aload rfl rfl ?_
    refine tw_getS rfl (hi_111_5 hF.1) ?_
    refine tw_ic_ge rfl (fun q1019 => ?_) (fun q1019 => ?_)
    · try dsimp only [tvI_i, tvJ_j, tvR_r] at q1019
      have nN : n = (tvI (tF h 111 5)).toNatClampNeg := by rw [zclE]; omega
      have qq3 : qS (tJ h1 143) m.toInt64 k.toInt64 (tA h 114 k.toNatClampNeg).toInt64 y.toInt64 (bN (mK9 h k m) (tK9 h) (tvI (tF h 111 5)).toNatClampNeg m.toInt) (bN (mF9 h k) (mT9 h) 0 m.toInt) (bN (mD9 h k) (mT9 h) 0 m.toInt) := by rw [← nN]; exact hQ
      refine tw_push rfl ?_
      refine tw_istore rfl ?_
      refine tG_loop (zW_mono zTt G dp) (zW_conj zTt G dp) (V := fun pc L st h9 _ _ => pc = 129 ∧ st = [] ∧ ∃ (h1 : zH) (n : Nat) (z : Int32) (l5 : Option Value), h1 = h9 ∧ wFr 143 h h1 ∧ z.toInt = (n : Int) ∧ (n : Int) ≤ (tvI (tF h 111 59)).toInt ∧ qS (tJ h1 143) m.toInt64 k.toInt64 (tA h 114 k.toNatClampNeg).toInt64 y.toInt64 (bN (mK9 h k m) (tK9 h) (tvI (tF h 111 5)).toNatClampNeg m.toInt) (bN (mF9 h k) (mT9 h) n m.toInt) (bN (mD9 h k) (mT9 h) n m.toInt) ∧ L = [some (.ref 111), some (.int k), some (.int m), some (.int y), some (.int z), l5]) ?_ (⟨rfl, rfl, _, 0, 0, _, rfl, hF, rfl, h59.1, qq3, rfl⟩)
      rintro _ _ _ _ _ _ ⟨rfl, rfl, h1, n, z, l5, rfl, hF, hz, hnn, hQ, rfl⟩
      have e59 : (tvI (tF h1 111 59)).toInt = (tvI (tF h 111 59)).toInt := by rw [hF.2.1]
      refine tw_iload rfl rfl ?_
      refine tw_aload rfl rfl ?_
      refine tw_getS rfl (hi_111_59 hF.1) ?_
      refine tw_ic_ge rfl (fun q1020 => ?_) (fun q1020 => ?_)
      · try dsimp only [tvI_i, tvJ_j, tvR_r] at q1020
        have nN : n = (tvI (tF h 111 59)).toNatClampNeg := by rw [zclE]; omega
        rw [nN] at hQ
        exact tw_vret rfl ⟨rfl, hF, hQ⟩
      · try dsimp only [tvI_i, tvJ_j, tvR_r] at q1020
        have zn := zof_cl hz
        have hz1 : (z + 1).toInt = ((n + 1 : Nat) : Int) := zincN hz (by omega)
        have e121 : tA h1 121 = tA h 121 := congrFun hF.2.2.1 121
        have e152 : tA h1 152 = tA h 152 := congrFun hF.2.2.1 152
        have e156 : tA h1 156 = tA h 156 := congrFun hF.2.2.1 156
        have e157 : tA h1 157 = tA h 157 := congrFun hF.2.2.1 157
        have e158 : tA h1 158 = tA h 158 := congrFun hF.2.2.1 158
        have b7 := h156 n (by omega)
        have b5 := bN_b (w := mF9 h k) (B := 1) (tl := mT9 h) (n := n) (fun i hi => (wIte ⟨by decide, by decide⟩ : 0 ≤ mF9 h k i ∧ mF9 h k i ≤ 1)) (by decide) m.toInt
        have b6 := bN_b (w := mD9 h k) (B := 9) (tl := mT9 h) (n := n) (fun i hi => (wIte (h156 i (by omega)) : 0 ≤ mD9 h k i ∧ mD9 h k i ≤ 9)) (by decide) m.toInt
        refine tw_aload rfl rfl ?_
        refine tw_getS rfl (hs_111_16 hF.1) ?_
        refine tw_aload rfl rfl ?_
        refine tw_getS rfl (hs_111_60 hF.1) ?_
        refine tw_iload rfl rfl ?_
        refine tw_iald rfl (fun f1021 => ?_)
        refine tw_iald rfl (fun f1022 => ?_)
        refine tw_iload rfl rfl ?_
        refine tw_ic_ne rfl (fun q1023 => ?_) (fun q1023 => ?_)
        · try dsimp only [tvI_i, tvJ_j, tvR_r] at q1023
          have q1023i := zneq rfl q1023
          refine tw_push rfl ?_
          refine tw_istore rfl ?_
          refine tw_aload rfl rfl ?_
          refine tw_getS rfl (hs_111_48 hF.1) ?_
          refine tw_push rfl ?_
          refine tw_dup2 rfl ?_
          refine tw_lald rfl (fun f1024 => ?_)
          refine tw_iload rfl rfl ?_
          refine tw_if_eq rfl (fun _ => ?_) (fun z => absurd z (by decide))
          refine tw_push rfl ?_
          refine tw_ladd rfl ?_
          refine tw_last rfl (fun f1025 => ?_)
          refine tG_lst f1025 hF.1 (fun h5 a5 => ?_)
          try dsimp only [tvI_i, tvJ_j, tvR_r] at a5
          have F5 := wFr_s hF a5
          refine tw_aload rfl rfl ?_
          refine tw_getS rfl (hs_111_48 F5.1) ?_
          refine tw_push rfl ?_
          refine tw_dup2 rfl ?_
          refine tw_lald rfl (fun f1026 => ?_)
          refine tw_iload rfl rfl ?_
          refine tw_if_eq rfl (fun _ => ?_) (fun z => absurd z (by decide))
          refine tw_push rfl ?_
          refine tw_ladd rfl ?_
          refine tw_last rfl (fun f1027 => ?_)
          refine tG_lst f1027 F5.1 (fun h6 a6 => ?_)
          try dsimp only [tvI_i, tvJ_j, tvR_r] at a6
          have F6 := wFr_s F5 a6
          refine tw_iinc rfl rfl ?_
          refine tw_goto rfl ?_
          rw [zn, e121, e152] at q1023
          have hq5 : qS (tJ h5 143) m.toInt64 k.toInt64 (tA h 114 k.toNatClampNeg).toInt64 y.toInt64 (bN (mK9 h k m) (tK9 h) (tvI (tF h 111 5)).toNatClampNeg m.toInt) (bN (mF9 h k) (mT9 h) (n + 1) m.toInt) (bN (mD9 h k) (mT9 h) n m.toInt) := by
            rw [mJs_g a5 rfl]
            exact qS_5 hQ (by rw [(bN_n (fun _ => if_neg (fun y => q1023 y.1))).trans (Int.add_zero _).symm]; exact zLadJ hQ.2.2.2.2.2.1 rfl (by omega))
          have hq6 : qS (tJ h6 143) m.toInt64 k.toInt64 (tA h 114 k.toNatClampNeg).toInt64 y.toInt64 (bN (mK9 h k m) (tK9 h) (tvI (tF h 111 5)).toNatClampNeg m.toInt) (bN (mF9 h k) (mT9 h) (n + 1) m.toInt) (bN (mD9 h k) (mT9 h) (n + 1) m.toInt) := by
            rw [mJs_g a6 rfl]
            exact qS_6 hq5 (by rw [(bN_n (fun _ => if_neg (fun y => q1023 y.1))).trans (Int.add_zero _).symm]; exact zLadJ hq5.2.2.2.2.2.2.1 rfl (by omega))
          exact tG_cut (zW_mono zTt G dp) (Or.inr ⟨rfl, rfl, h6, n + 1, z + 1, _, rfl, F6, hz1, by omega, hq6, rfl⟩)
        · try dsimp only [tvI_i, tvJ_j, tvR_r] at q1023
          have q1023i := zeqi rfl q1023
          refine tw_aload rfl rfl ?_
          refine tw_getS rfl (hs_111_65 hF.1) ?_
          refine tw_iload rfl rfl ?_
          refine tw_iald rfl (fun f1028 => ?_)
          refine tw_iload rfl rfl ?_
          refine tw_ic_gt rfl (fun q1029 => ?_) (fun q1029 => ?_)
          · try dsimp only [tvI_i, tvJ_j, tvR_r] at q1029
            refine tw_push rfl ?_
            refine tw_istore rfl ?_
            refine tw_aload rfl rfl ?_
            refine tw_getS rfl (hs_111_48 hF.1) ?_
            refine tw_push rfl ?_
            refine tw_dup2 rfl ?_
            refine tw_lald rfl (fun f1030 => ?_)
            refine tw_iload rfl rfl ?_
            refine tw_if_eq rfl (fun _ => ?_) (fun z => absurd z (by decide))
            refine tw_push rfl ?_
            refine tw_ladd rfl ?_
            refine tw_last rfl (fun f1031 => ?_)
            refine tG_lst f1031 hF.1 (fun h5 a5 => ?_)
            try dsimp only [tvI_i, tvJ_j, tvR_r] at a5
            have F5 := wFr_s hF a5
            refine tw_aload rfl rfl ?_
            refine tw_getS rfl (hs_111_48 F5.1) ?_
            refine tw_push rfl ?_
            refine tw_dup2 rfl ?_
            refine tw_lald rfl (fun f1032 => ?_)
            refine tw_iload rfl rfl ?_
            refine tw_if_eq rfl (fun _ => ?_) (fun z => absurd z (by decide))
            refine tw_push rfl ?_
            refine tw_ladd rfl ?_
            refine tw_last rfl (fun f1033 => ?_)
            refine tG_lst f1033 F5.1 (fun h6 a6 => ?_)
            try dsimp only [tvI_i, tvJ_j, tvR_r] at a6
            have F6 := wFr_s F5 a6
            refine tw_iinc rfl rfl ?_
            refine tw_goto rfl ?_
            rw [zn, e121, e152] at q1023
            rw [zn, e157] at q1029
            have hq5 : qS (tJ h5 143) m.toInt64 k.toInt64 (tA h 114 k.toNatClampNeg).toInt64 y.toInt64 (bN (mK9 h k m) (tK9 h) (tvI (tF h 111 5)).toNatClampNeg m.toInt) (bN (mF9 h k) (mT9 h) (n + 1) m.toInt) (bN (mD9 h k) (mT9 h) n m.toInt) := by
              rw [mJs_g a5 rfl]
              exact qS_5 hQ (by rw [(bN_n (fun y => absurd (show (tA h 157 n).toInt ≤ m.toInt from y) (by omega))).trans (Int.add_zero _).symm]; exact zLadJ hQ.2.2.2.2.2.1 rfl (by omega))
            have hq6 : qS (tJ h6 143) m.toInt64 k.toInt64 (tA h 114 k.toNatClampNeg).toInt64 y.toInt64 (bN (mK9 h k m) (tK9 h) (tvI (tF h 111 5)).toNatClampNeg m.toInt) (bN (mF9 h k) (mT9 h) (n + 1) m.toInt) (bN (mD9 h k) (mT9 h) (n + 1) m.toInt) := by
              rw [mJs_g a6 rfl]
              exact qS_6 hq5 (by rw [(bN_n (fun y => absurd (show (tA h 157 n).toInt ≤ m.toInt from y) (by omega))).trans (Int.add_zero _).symm]; exact zLadJ hq5.2.2.2.2.2.2.1 rfl (by omega))
            exact tG_cut (zW_mono zTt G dp) (Or.inr ⟨rfl, rfl, h6, n + 1, z + 1, _, rfl, F6, hz1, by omega, hq6, rfl⟩)
          · try dsimp only [tvI_i, tvJ_j, tvR_r] at q1029
            refine tw_aload rfl rfl ?_
            refine tw_getS rfl (hs_111_66 hF.1) ?_
            refine tw_iload rfl rfl ?_
            refine tw_bald rfl (fun f1034 => ?_)
            refine tw_if_eq rfl (fun q1035 => ?_) (fun q1035 => ?_)
            · try dsimp only [tvI_i, tvJ_j, tvR_r] at q1035
              have q1035i := zeqi (Y := 0) (by decide) q1035
              refine tw_push rfl ?_
              refine tw_istore rfl ?_
              refine tw_aload rfl rfl ?_
              refine tw_getS rfl (hs_111_48 hF.1) ?_
              refine tw_push rfl ?_
              refine tw_dup2 rfl ?_
              refine tw_lald rfl (fun f1036 => ?_)
              refine tw_iload rfl rfl ?_
              refine tw_if_eq rfl (fun _ => ?_) (fun z => absurd z (by decide))
              refine tw_push rfl ?_
              refine tw_ladd rfl ?_
              refine tw_last rfl (fun f1037 => ?_)
              refine tG_lst f1037 hF.1 (fun h5 a5 => ?_)
              try dsimp only [tvI_i, tvJ_j, tvR_r] at a5
              have F5 := wFr_s hF a5
              refine tw_aload rfl rfl ?_
              refine tw_getS rfl (hs_111_48 F5.1) ?_
              refine tw_push rfl ?_
              refine tw_dup2 rfl ?_
              refine tw_lald rfl (fun f1038 => ?_)
              refine tw_iload rfl rfl ?_
              refine tw_if_eq rfl (fun _ => ?_) (fun z => absurd z (by decide))
              refine tw_push rfl ?_
              refine tw_ladd rfl ?_
              refine tw_last rfl (fun f1039 => ?_)
              refine tG_lst f1039 F5.1 (fun h6 a6 => ?_)
              try dsimp only [tvI_i, tvJ_j, tvR_r] at a6
              have F6 := wFr_s F5 a6
              refine tw_iinc rfl rfl ?_
              refine tw_goto rfl ?_
              rw [zn, e121, e152] at q1023
              rw [zn, e157] at q1029
              rw [zn, e158] at q1035
              have hq5 : qS (tJ h5 143) m.toInt64 k.toInt64 (tA h 114 k.toNatClampNeg).toInt64 y.toInt64 (bN (mK9 h k m) (tK9 h) (tvI (tF h 111 5)).toNatClampNeg m.toInt) (bN (mF9 h k) (mT9 h) (n + 1) m.toInt) (bN (mD9 h k) (mT9 h) n m.toInt) := by
                rw [mJs_g a5 rfl]
                exact qS_5 hQ (by rw [(bN_n (fun _ => if_neg (fun y => y.2 q1035))).trans (Int.add_zero _).symm]; exact zLadJ hQ.2.2.2.2.2.1 rfl (by omega))
              have hq6 : qS (tJ h6 143) m.toInt64 k.toInt64 (tA h 114 k.toNatClampNeg).toInt64 y.toInt64 (bN (mK9 h k m) (tK9 h) (tvI (tF h 111 5)).toNatClampNeg m.toInt) (bN (mF9 h k) (mT9 h) (n + 1) m.toInt) (bN (mD9 h k) (mT9 h) (n + 1) m.toInt) := by
                rw [mJs_g a6 rfl]
                exact qS_6 hq5 (by rw [(bN_n (fun _ => if_neg (fun y => y.2 q1035))).trans (Int.add_zero _).symm]; exact zLadJ hq5.2.2.2.2.2.2.1 rfl (by omega))
              exact tG_cut (zW_mono zTt G dp) (Or.inr ⟨rfl, rfl, h6, n + 1, z + 1, _, rfl, F6, hz1, by omega, hq6, rfl⟩)
            · try dsimp only [tvI_i, tvJ_j, tvR_r] at q1035
              have q1035i := zneq (Y := 0) (by decide) q1035
              refine tw_push rfl ?_
              refine tw_goto rfl ?_
              refine tw_istore rfl ?_
              refine tw_aload rfl rfl ?_
              refine tw_getS rfl (hs_111_48 hF.1) ?_
              refine tw_push rfl ?_
              refine tw_dup2 rfl ?_
              refine tw_lald rfl (fun f1040 => ?_)
              refine tw_iload rfl rfl ?_
              refine tw_if_eq rfl (fun z => absurd z (by decide)) (fun _ => ?_)
              refine tw_push rfl ?_
              refine tw_goto rfl ?_
              refine tw_ladd rfl ?_
              refine tw_last rfl (fun f1041 => ?_)
              refine tG_lst f1041 hF.1 (fun h5 a5 => ?_)
              try dsimp only [tvI_i, tvJ_j, tvR_r] at a5
              have F5 := wFr_s hF a5
              refine tw_aload rfl rfl ?_
              refine tw_getS rfl (hs_111_48 F5.1) ?_
              refine tw_push rfl ?_
              refine tw_dup2 rfl ?_
              refine tw_lald rfl (fun f1042 => ?_)
              refine tw_iload rfl rfl ?_
              refine tw_if_eq rfl (fun z => absurd z (by decide)) (fun _ => ?_)
              refine tw_aload rfl rfl ?_
              refine tw_getS rfl (hs_111_64 F5.1) ?_
              refine tw_iload rfl rfl ?_
              refine tw_iald rfl (fun f1043 => ?_)
              refine tw_i2l rfl ?_
              refine tw_goto rfl ?_
              refine tw_ladd rfl ?_
              refine tw_last rfl (fun f1044 => ?_)
              refine tG_lst f1044 F5.1 (fun h6 a6 => ?_)
              try dsimp only [tvI_i, tvJ_j, tvR_r] at a6
              have F6 := wFr_s F5 a6
              refine tw_iinc rfl rfl ?_
              refine tw_goto rfl ?_
              rw [zn, e121, e152] at q1023
              rw [zn, e157] at q1029
              rw [zn, e158] at q1035
              rw [zn, show tA h5 156 = tA h 156 from congrFun F5.2.2.1 156] at a6
              have hq5 : qS (tJ h5 143) m.toInt64 k.toInt64 (tA h 114 k.toNatClampNeg).toInt64 y.toInt64 (bN (mK9 h k m) (tK9 h) (tvI (tF h 111 5)).toNatClampNeg m.toInt) (bN (mF9 h k) (mT9 h) (n + 1) m.toInt) (bN (mD9 h k) (mT9 h) n m.toInt) := by
                rw [mJs_g a5 rfl]
                exact qS_5 hQ (by rw [bN_y (show mT9 h n ≤ m.toInt from q1029) (x := 1) (if_pos ⟨q1023, q1035⟩)]; exact zLadJ hQ.2.2.2.2.2.1 rfl (by omega))
              have hq6 : qS (tJ h6 143) m.toInt64 k.toInt64 (tA h 114 k.toNatClampNeg).toInt64 y.toInt64 (bN (mK9 h k m) (tK9 h) (tvI (tF h 111 5)).toNatClampNeg m.toInt) (bN (mF9 h k) (mT9 h) (n + 1) m.toInt) (bN (mD9 h k) (mT9 h) (n + 1) m.toInt) := by
                rw [mJs_g a6 rfl]
                exact qS_6 hq5 (by rw [bN_y (show mT9 h n ≤ m.toInt from q1029) (x := (tA h 156 n).toInt) (if_pos ⟨q1023, q1035⟩)]; exact zLadJ hq5.2.2.2.2.2.2.1 (Int32.toInt_toInt64 _) (by omega))
              exact tG_cut (zW_mono zTt G dp) (Or.inr ⟨rfl, rfl, h6, n + 1, z + 1, _, rfl, F6, hz1, by omega, hq6, rfl⟩)
    · try dsimp only [tvI_i, tvJ_j, tvR_r] at q1019
      have zn := zof_cl hz
      have hz1 : (z + 1).toInt = ((n + 1 : Nat) : Int) := zincN hz (by omega)
      have e121 : tA h1 121 n = tA h 121 n := congrFun (congrFun hF.2.2.1 121) n
      have e122 : tA h1 122 n = tA h 122 n := congrFun (congrFun hF.2.2.1 122) n
      have e123 : tA h1 123 n = tA h 123 n := congrFun (congrFun hF.2.2.1 123) n
      have b4 := bN_b (w := mK9 h k m) (B := 1) (tl := tK9 h) (n := n) (fun i hi => (wIte ⟨by decide, by decide⟩ : 0 ≤ mK9 h k m i ∧ mK9 h k m i ≤ 1)) (by decide) m.toInt
      refine tw_aload rfl rfl ?_
      refine tw_getS rfl (hs_111_48 hF.1) ?_
      refine tw_push rfl ?_
      refine tw_dup2 rfl ?_
      refine tw_lald rfl (fun f1045 => ?_)
      refine tw_aload rfl rfl ?_
      refine tw_getS rfl (hs_111_16 hF.1) ?_
      refine tw_iload rfl rfl ?_
      refine tw_iald rfl (fun f1046 => ?_)
      refine tw_iload rfl rfl ?_
      refine tw_ic_ne rfl (fun q1047 => ?_) (fun q1047 => ?_)
      · try dsimp only [tvI_i, tvJ_j, tvR_r] at q1047
        have q1047i := zneq rfl q1047
        refine tw_push rfl ?_
        refine tw_ladd rfl ?_
        refine tw_last rfl (fun f1048 => ?_)
        refine tG_lst f1048 hF.1 (fun h2 a2 => ?_)
        try dsimp only [tvI_i, tvJ_j, tvR_r] at a2
        have F2 := wFr_s hF a2
        refine tw_iinc rfl rfl ?_
        refine tw_goto rfl ?_
        rw [zn, e121] at q1047
        have hq2 : qS (tJ h2 143) m.toInt64 k.toInt64 (tA h 114 k.toNatClampNeg).toInt64 y.toInt64 (bN (mK9 h k m) (tK9 h) (n + 1) m.toInt) 0 0 := by
          rw [mJs_g a2 rfl]
          exact qS_4 hQ (by rw [(bN_n (fun _ => if_neg (fun y => q1047 y.1))).trans (Int.add_zero _).symm]; exact zLadJ hQ.2.2.2.2.1 rfl (by omega))
        exact tG_cut (zW_mono zTt G dp) (Or.inr ⟨rfl, rfl, h2, n + 1, z + 1, _, rfl, F2, hz1, by omega, hq2, rfl⟩)
      · try dsimp only [tvI_i, tvJ_j, tvR_r] at q1047
        have q1047i := zeqi rfl q1047
        refine tw_aload rfl rfl ?_
        refine tw_getS rfl (hs_111_17 hF.1) ?_
        refine tw_iload rfl rfl ?_
        refine tw_iald rfl (fun f1049 => ?_)
        refine tw_iload rfl rfl ?_
        refine tw_ic_gt rfl (fun q1050 => ?_) (fun q1050 => ?_)
        · try dsimp only [tvI_i, tvJ_j, tvR_r] at q1050
          refine tw_push rfl ?_
          refine tw_ladd rfl ?_
          refine tw_last rfl (fun f1051 => ?_)
          refine tG_lst f1051 hF.1 (fun h2 a2 => ?_)
          try dsimp only [tvI_i, tvJ_j, tvR_r] at a2
          have F2 := wFr_s hF a2
          refine tw_iinc rfl rfl ?_
          refine tw_goto rfl ?_
          rw [zn, e121] at q1047
          rw [zn, e122] at q1050
          have hq2 : qS (tJ h2 143) m.toInt64 k.toInt64 (tA h 114 k.toNatClampNeg).toInt64 y.toInt64 (bN (mK9 h k m) (tK9 h) (n + 1) m.toInt) 0 0 := by
            rw [mJs_g a2 rfl]
            exact qS_4 hQ (by rw [(bN_n (fun _ => if_neg (fun y => absurd y.2 (by omega)))).trans (Int.add_zero _).symm]; exact zLadJ hQ.2.2.2.2.1 rfl (by omega))
          exact tG_cut (zW_mono zTt G dp) (Or.inr ⟨rfl, rfl, h2, n + 1, z + 1, _, rfl, F2, hz1, by omega, hq2, rfl⟩)
        · try dsimp only [tvI_i, tvJ_j, tvR_r] at q1050
          refine tw_aload rfl rfl ?_
          refine tw_getS rfl (hs_111_18 hF.1) ?_
          refine tw_iload rfl rfl ?_
          refine tw_iald rfl (fun f1052 => ?_)
          refine tw_iload rfl rfl ?_
          refine tw_ic_gt rfl (fun q1053 => ?_) (fun q1053 => ?_)
          · try dsimp only [tvI_i, tvJ_j, tvR_r] at q1053
            refine tw_push rfl ?_
            refine tw_ladd rfl ?_
            refine tw_last rfl (fun f1054 => ?_)
            refine tG_lst f1054 hF.1 (fun h2 a2 => ?_)
            try dsimp only [tvI_i, tvJ_j, tvR_r] at a2
            have F2 := wFr_s hF a2
            refine tw_iinc rfl rfl ?_
            refine tw_goto rfl ?_
            rw [zn, e121] at q1047
            rw [zn, e122] at q1050
            rw [zn, e123] at q1053
            have hq2 : qS (tJ h2 143) m.toInt64 k.toInt64 (tA h 114 k.toNatClampNeg).toInt64 y.toInt64 (bN (mK9 h k m) (tK9 h) (n + 1) m.toInt) 0 0 := by
              rw [mJs_g a2 rfl]
              exact qS_4 hQ (by rw [(bN_n (fun y => absurd (show (tA h 123 n).toInt ≤ m.toInt from y) (by omega))).trans (Int.add_zero _).symm]; exact zLadJ hQ.2.2.2.2.1 rfl (by omega))
            exact tG_cut (zW_mono zTt G dp) (Or.inr ⟨rfl, rfl, h2, n + 1, z + 1, _, rfl, F2, hz1, by omega, hq2, rfl⟩)
          · try dsimp only [tvI_i, tvJ_j, tvR_r] at q1053
            refine tw_push rfl ?_
            refine tw_goto rfl ?_
            refine tw_ladd rfl ?_
            refine tw_last rfl (fun f1055 => ?_)
            refine tG_lst f1055 hF.1 (fun h2 a2 => ?_)
            try dsimp only [tvI_i, tvJ_j, tvR_r] at a2
            have F2 := wFr_s hF a2
            refine tw_iinc rfl rfl ?_
            refine tw_goto rfl ?_
            rw [zn, e121] at q1047
            rw [zn, e122] at q1050
            rw [zn, e123] at q1053
            have hq2 : qS (tJ h2 143) m.toInt64 k.toInt64 (tA h 114 k.toNatClampNeg).toInt64 y.toInt64 (bN (mK9 h k m) (tK9 h) (n + 1) m.toInt) 0 0 := by
              rw [mJs_g a2 rfl]
              exact qS_4 hQ (by rw [bN_y (show tK9 h n ≤ m.toInt from q1053) (x := 1) (if_pos ⟨q1047, q1050⟩)]; exact zLadJ hQ.2.2.2.2.1 rfl (by omega))
            exact tG_cut (zW_mono zTt G dp) (Or.inr ⟨rfl, rfl, h2, n + 1, z + 1, _, rfl, F2, hz1, by omega, hq2, rfl⟩)
  · try dsimp only [tvI_i, tvJ_j, tvR_r] at q1013
    refine tw_aload rfl rfl ?_
    refine tw_getS rfl (hs_111_48 hF.1) ?_
    refine tw_iload rfl rfl ?_
    refine tw_push rfl ?_
    refine tw_last rfl (fun f1056 => ?_)
    refine tG_lst f1056 hF.1 (fun h1 a1 => ?_)
    try dsimp only [tvI_i, tvJ_j, tvR_r] at a1
    have F1 := wFr_s hF a1
    refine tw_iinc rfl rfl ?_
    refine tw_goto rfl ?_
    have hz1 : (z + 1).toInt = ((n + 1 : Nat) : Int) := zincN hz (by omega)
    rw [zof_cl hz] at a1
    have ea := mJs_g a1 rfl
    exact tG_cut (zW_mono zTt G dp) (Or.inr ⟨rfl, rfl, _, n + 1, z + 1, _, rfl, F1, hz1, by omega, fun t ht => (congrFun ea t).trans ((Classical.em (t = n)).elim (fun y => if_pos y) (fun y => (if_neg y).trans (hall t (by omega)))), rfl⟩)
theorem thc_0 {s : Nat} (h : s < 12) : thc 0 s = s := by
  unfold thc
  rw [if_pos ⟨rfl, h⟩]
theorem thc_k {k : Nat} (h : k ≠ 0) : thc k 0 = 12 + k := by
  unfold thc
  rw [if_neg (fun z => h z.1), Nat.mul_zero, Nat.add_zero]
theorem clI_0 {S : Int64} (h : S.toInt < 0) : (0 : Int32).toInt = clI S.toInt := by
  unfold clI
  rw [if_pos h]
  rfl
theorem clI_2 {S : Int64} (h : ¬ S.toInt < 0) (h2 : 200 < S.toInt) : (200 : Int32).toInt = clI S.toInt := by
  unfold clI
  rw [if_neg h, if_pos h2]
  rfl
theorem clI_m {S : Int64} (h : ¬ S.toInt < 0) (h2 : ¬ 200 < S.toInt) : S.toInt32.toInt = clI S.toInt := by
  unfold clI
  rw [if_neg h, if_neg h2]
  exact zl2i (by omega)
theorem g_mustOf {G : zG} (hG : G.1 = zProg) {h : zH} {k s m : Int32} {K th : Nat} {cs : List Nat} {cl : Nat → rCt} (hs : tSh h) (hn : 0 ≤ (tvI (tF h 111 30)).toInt) (D : rIm h (sRI (tA h 141) m (tvI (tF h 111 30)).toNatClampNeg) K cs cl) (hth : s.toInt = th) (hth2 : th ≤ 2) (h5 : 0 ≤ (tvI (tF h 111 5)).toInt ∧ (tvI (tF h 111 5)).toInt ≤ 300) (h59 : 0 ≤ (tvI (tF h 111 59)).toInt ∧ (tvI (tF h 111 59)).toInt ≤ 200) (h156 : ∀ i, i < 200 → 0 ≤ (tA h 156 i).toInt ∧ (tA h 156 i).toInt ≤ 9) (h133 : ∀ i, i < 5000 → 0 ≤ (tA h 133 i).toInt ∧ (tA h 133 i).toInt ≤ 14) (h134 : ∀ i, i < 5000 → 0 ≤ (tA h 134 i).toInt ∧ (tA h 134 i).toInt ≤ 99999) (h135 : ∀ i, i < 120 → 0 ≤ (tA h 135 i).toInt ∧ (tA h 135 i).toInt ≤ 3) (h136 : ∀ i, i < 120 → 0 ≤ (tA h 136 i).toInt ∧ (tA h 136 i).toInt ≤ 99999) (h137 : ∀ i, i < 120 → 0 ≤ (tA h 137 i).toInt ∧ (tA h 137 i).toInt ≤ 410) (h138 : ∀ i, i < 120 → 0 ≤ (tA h 138 i).toInt ∧ (tA h 138 i).toInt ≤ 410) (h139 : ∀ i, i < 120 → 0 ≤ (tA h 139 i).toInt ∧ (tA h 139 i).toInt ≤ 410) : tC zTt G 233 [.ref 111, .int k, .int s, .int m] h (fun w h2 => lFr h h2 ∧ ∃ r : Int32, w = some (.int r) ∧ ((K = 0 ∧ r = -1) ∨ ∃ W, qS W m.toInt64 k.toInt64 (tA h 114 k.toNatClampNeg).toInt64 m.toInt64 (bN (mK9 h k m) (tK9 h) (tvI (tF h 111 5)).toNatClampNeg m.toInt) (bN (mF9 h k) (mT9 h) (tvI (tF h 111 59)).toNatClampNeg m.toInt) (bN (mD9 h k) (mT9 h) (tvI (tF h 111 59)).toNatClampNeg m.toInt) ∧ muO W cs cl K th r)) := by
  refine tC_in (by rw [hG]; rfl) (fun dp => ?_)
  have h15 : th ≠ 15 := by omega
  refine tw_aload rfl rfl ?_
  refine tw_iload rfl rfl ?_
  refine tw_virt1 rfl (g_inForceIn hG hs hn) (fun w9 h9 p1057 => ?_)
  obtain ⟨rfl, e9⟩ := p1057
  obtain rfl := e9.symm
  refine tw_istore rfl ?_
  refine tw_iload rfl rfl ?_
  refine tw_push rfl ?_
  refine tw_ic_ne rfl (fun q1058 => ?_) (fun q1058 => ?_)
  · try dsimp only [tvI_i, tvJ_j, tvR_r] at q1058
    have q1058i := zneq (Y := (-1)) (by decide) q1058
    obtain ⟨q9, d1, d2, d3⟩ := D.resolve_left (fun z => q1058 z.1)
    refine tw_aload rfl rfl ?_
    refine tw_iload rfl rfl ?_
    refine tw_iload rfl rfl ?_
    refine tw_iload rfl rfl ?_
    refine tw_virt3 rfl (g_asks hG hs h5 h59 h156) (fun wp1059 hp1059 p1059 => ?_)
    obtain ⟨rfl, FA, hQ⟩ := p1059
    have LA := lFr_w FA
    have eA := FA.2.2.1
    refine tw_aload rfl rfl ?_
    refine tw_iload rfl rfl ?_
    refine tw_push rfl ?_
    refine tw_iload rfl rfl ?_
    refine tw_virt3 rfl (g_tells hG FA.1 (d3.frame FA) d1 d2 (kd := 0) rfl (by decide) hth (by rw [eA]; exact h133) (by rw [eA]; exact h134) (by rw [eA]; exact h135) (by rw [eA]; exact h136) (by rw [eA]; exact h138) (by rw [eA]; exact h139)) (fun w9 hp1060 p1060 => ?_)
    obtain ⟨FB, ⟨rfl, hno⟩ | ⟨i, hi, hit1, hfst, x9, rfl, hx9⟩⟩ := p1060
    · rw [thc_0 (by omega)] at hno
      refine tw_istore rfl ?_
      refine tw_iload rfl rfl ?_
      refine tw_push rfl ?_
      refine tw_ic_ne rfl (fun z => absurd z (by decide)) (fun _ => ?_)
      refine tw_push rfl ?_
      exact tw_iret rfl ⟨lFr_t LA (lFr_w FB), -1, rfl, Or.inr ⟨_, hQ, Or.inl ⟨rfl, hno⟩⟩⟩
    · rw [thc_0 (by omega)] at hit1 hfst
      have LB := lFr_t LA (lFr_w FB)
      have eB := LB.2.2.1
      have x9n := zof_cl hx9
      obtain ⟨s1, s2, s3, s4, p, qq, s5, s6⟩ := rOk_s (d3.ok i hi) d3.nv (fun z => h15 (hit1.1.symm.trans z))
      have hK12 := d3.few
      have c3 : ((cl i).1, (cl i).2.1, (cl i).2.2.1, (cl i).2.2.2) = (thc (tA h 135 (12 * q9 + i)).toNatClampNeg (tA h 136 (12 * q9 + i)).toNatClampNeg, (tA h 137 (12 * q9 + i)).toNatClampNeg, (tA h 138 (12 * q9 + i)).toNatClampNeg, (tA h 139 (12 * q9 + i)).toNatClampNeg) := by rw [← d3.row i hi]; rfl
      have c5 := congrArg (fun z : rCt => z.2.1) c3
      have c6 := congrArg (fun z : rCt => z.2.2.1) c3
      dsimp only at c5 c6
      have v1 : (tA hp1060 137 x9.toNatClampNeg).toInt = ((cl i).2.1 : Int) := by rw [eB, x9n, c5]; exact (zclx (h137 (12 * q9 + i) (by omega)).1).symm
      have v2 : (tA hp1060 138 x9.toNatClampNeg).toInt = ((cl i).2.2.1 : Int) := by rw [eB, x9n, c6]; exact (zclx (h138 (12 * q9 + i) (by omega)).1).symm
      refine tw_istore rfl ?_
      refine tw_iload rfl rfl ?_
      refine tw_push rfl ?_
      refine tw_ic_ne rfl (fun q1061 => ?_) (fun q1061 => ?_)
      · try dsimp only [tvI_i, tvJ_j, tvR_r] at q1061
        have q1061i := zneq (Y := (-1)) (by decide) q1061
        refine tw_aload rfl rfl ?_
        refine tw_iload rfl rfl ?_
        refine tw_aload rfl rfl ?_
        refine tw_getS rfl (hs_111_40 FB.1) ?_
        refine tw_iload rfl rfl ?_
        refine tw_iald rfl (fun f1062 => ?_)
        refine tw_aload rfl rfl ?_
        refine tw_getS rfl (hs_111_41 FB.1) ?_
        refine tw_iload rfl rfl ?_
        refine tw_iald rfl (fun f1063 => ?_)
        refine tw_virt3 rfl (g_answer hG FB.1 d1 d2 v1 (e := slc cs (cl i).2.1 (cl i).2.2.1) (t := false) (v2.trans (congrArg Nat.cast s1)) (by rw [← s1]; have := d3.big; omega) (by rw [eB]; exact h133) (by rw [eB]; exact h134) (by rw [eB]; exact cdAt_h s5 s6 d3.cod) s3 s4) (fun wp1064 hp1064 p1064 => ?_)
        obtain ⟨rfl, FC⟩ := p1064
        rw [FB.2.2.2.2.2 143 (by decide)]
        have k200 : (200 : Int64).toInt = 200 := by decide
        have k0 : (0 : Int64).toInt = 0 := by decide
        refine tw_lstore rfl ?_
        refine tw_lload rfl rfl ?_
        refine tw_push rfl ?_
        refine tw_lc_ge rfl rfl (fun q1065 => ?_) (fun q1065 => ?_)
        · try dsimp only [tvI_i, tvJ_j, tvR_r] at q1065
          refine tw_lload rfl rfl ?_
          refine tw_push rfl ?_
          refine tw_lc_le rfl rfl (fun q1066 => ?_) (fun q1066 => ?_)
          · try dsimp only [tvI_i, tvJ_j, tvR_r] at q1066
            refine tw_lload rfl rfl ?_
            refine tw_l2i rfl ?_
            exact tw_iret rfl ⟨lFr_t LB (lFr_w FC), _, rfl, Or.inr ⟨_, hQ, Or.inr ⟨i, hi, hit1, hfst, clI_m (S := wv _ (slc cs (cl i).2.1 (cl i).2.2.1)) (by omega) (by omega)⟩⟩⟩
          · try dsimp only [tvI_i, tvJ_j, tvR_r] at q1066
            refine tw_push rfl ?_
            refine tw_goto rfl ?_
            exact tw_iret rfl ⟨lFr_t LB (lFr_w FC), _, rfl, Or.inr ⟨_, hQ, Or.inr ⟨i, hi, hit1, hfst, clI_2 (S := wv _ (slc cs (cl i).2.1 (cl i).2.2.1)) (by omega) (by omega)⟩⟩⟩
        · try dsimp only [tvI_i, tvJ_j, tvR_r] at q1065
          refine tw_push rfl ?_
          refine tw_goto rfl ?_
          exact tw_iret rfl ⟨lFr_t LB (lFr_w FC), _, rfl, Or.inr ⟨_, hQ, Or.inr ⟨i, hi, hit1, hfst, clI_0 q1065⟩⟩⟩
      · try dsimp only [tvI_i, tvJ_j, tvR_r] at q1061
        have q1061i := zeqi (Y := (-1)) (by decide) q1061
        exfalso
        have k9 : (-1 : Int32).toInt = -1 := rfl
        omega
  · try dsimp only [tvI_i, tvJ_j, tvR_r] at q1058
    have q1058i := zeqi (Y := (-1)) (by decide) q1058
    refine tw_push rfl ?_
    exact tw_iret rfl ⟨⟨hs, rfl, rfl, rfl, rfl⟩, -1, rfl, Or.inl ⟨(D.resolve_right (fun z => by obtain ⟨q9, z1, -⟩ := z; rw [q1058] at z1; have k9 : (-1 : Int32).toInt = -1 := rfl; omega)).2, rfl⟩⟩
/-- the rule in force as both hold it: how many clauses, the codes, the clauses -/
noncomputable def rKn (h : zH) (y : Int32) : Nat := if y = -1 then 0 else (tA h 140 y.toNatClampNeg).toNatClampNeg
noncomputable def rCn (h : zH) (y : Int32) : List Nat := cArr h ((tO h 50 y.toNatClampNeg).getD 0)
noncomputable def rLn (h : zH) (y : Int32) (i : Nat) : rCt := mRow h (12 * y.toNatClampNeg + i)
theorem sRI_r {fm : Nat → Int32} {m : Int32} {n : Nat} (hn : n ≤ 10) : sRI fm m n = -1 ∨ ∃ q : Nat, q < n ∧ (sRI fm m n).toInt = (q : Int) := by
  induction n with
  | zero => exact Or.inl rfl
  | succ n ih =>
    rw [sRI_u]
    by_cases c : (fm n).toInt ≤ m.toInt ∧ (sRI fm m n = -1 ∨ (fm (sRI fm m n).toNatClampNeg).toInt ≤ (fm n).toInt)
    · rw [if_pos c]
      exact Or.inr ⟨n, Nat.lt_succ_self _, yofN (by omega)⟩
    · rw [if_neg c]
      rcases ih (by omega) with z | ⟨q, z1, z2⟩
      · exact Or.inl z
      · exact Or.inr ⟨q, by omega, z2⟩
theorem rIn_D {xs : Nat → Int32} {τ : List Nat} {h : zH} {m : Int32} (hB : zBs xs τ h) (hR : R_rcd h) : rIc h (sRI (tA h 49) m (tvI (tF h 48 3)).toNatClampNeg) (rKn h (sRI (tA h 49) m (tvI (tF h 48 3)).toNatClampNeg)) (rCn h (sRI (tA h 49) m (tvI (tF h 48 3)).toNatClampNeg)) (rLn h (sRI (tA h 49) m (tvI (tF h 48 3)).toNatClampNeg)) ∧ rIm h (sRI (tA h 49) m (tvI (tF h 48 3)).toNatClampNeg) (rKn h (sRI (tA h 49) m (tvI (tF h 48 3)).toNatClampNeg)) (rCn h (sRI (tA h 49) m (tvI (tF h 48 3)).toNatClampNeg)) (rLn h (sRI (tA h 49) m (tvI (tF h 48 3)).toNatClampNeg)) := by
  have b := kb_48_3 hB
  have hc : (((tvI (tF h 48 3)).toNatClampNeg : Nat) : Int) = (tvI (tF h 48 3)).toInt := zclx b.1
  generalize hy : sRI (tA h 49) m (tvI (tF h 48 3)).toNatClampNeg = y
  have z := sRI_r (fm := tA h 49) (m := m) (n := (tvI (tF h 48 3)).toNatClampNeg) (by omega)
  rw [hy] at z
  rcases z with z | ⟨q, z1, z2⟩
  · have k0 : rKn h y = 0 := if_pos z
    exact ⟨Or.inl ⟨z, k0⟩, Or.inl ⟨z, k0⟩⟩
  · have zn : y.toNatClampNeg = q := zof_cl z2
    have hne : ¬ y = -1 := fun w => by
      have k9 : (-1 : Int32).toInt = -1 := rfl
      rw [w] at z2
      omega
    obtain ⟨a, a1, a2, a3, k⟩ := hR q (by omega) (by omega)
    have D := rCd_D hB (by omega) a2 a3 k
    have e1 : rKn h y = (tA h 140 q).toNatClampNeg := by unfold rKn; rw [if_neg hne, zn]
    have e2 : rCn h y = cArr h a := by unfold rCn; rw [zn, a2]; rfl
    have e3 : rLn h y = fun i => mRow h (12 * q + i) := by funext i; unfold rLn; rw [zn]
    rw [e1, e2, e3]
    exact ⟨Or.inr ⟨q, a, a + 1, z2, by omega, a2, a3, ⟨a1, by omega⟩, D.1⟩, Or.inr ⟨q, z2, by omega, D.2⟩⟩
theorem rIm_fr {h h2 : zH} {y : Int32} {K : Nat} {cs : List Nat} {cl : Nat → rCt} (D : rIm h y K cs cl) (o : ∀ p, 133 ≤ p → p ≤ 140 → tA h2 p = tA h p) : rIm h2 y K cs cl := by
  rcases D with D | ⟨q, z1, z2, h1, h2, h3, h4, h5, h6, h7⟩
  · exact Or.inl D
  · refine Or.inr ⟨q, z1, z2, ?_, h2, ?_, h4, fun i hi => ?_, h6, h7⟩
    · rw [o 133 (by decide) (by decide), o 134 (by decide) (by decide)]; exact h1
    · rw [o 140 (by decide) (by decide)]; exact h3
    · rw [← h5 i hi]
      exact mRow_e (fun p p1 p2 => congrFun (o p (by omega) (by omega)) _)
theorem rIc_ok {h : zH} {y : Int32} {K : Nat} {cs : List Nat} {cl : Nat → rCt} (D : rIc h y K cs cl) : (K = 0 ∨ nVl cs ≤ 80) ∧ ∀ i, i < K → rOk cs (cl i) := by
  rcases D with ⟨-, k0⟩ | ⟨q, a, b, -, -, -, -, -, d⟩
  · exact ⟨Or.inl k0, fun i hi => by omega⟩
  · exact ⟨Or.inr d.nv, d.ok⟩
theorem qS_u {g1 g2 : Nat → Int64} {a b c d : Int64} {e f i : Int} (k1 : qS g1 a b c d e f i) (k2 : qS g2 a b c d e f i) : ∀ t, t < 12 → g1 t = g2 t := by
  intro t ht
  obtain ⟨k0, k1, k2', k3, k4, k5, k6, k7⟩ := k1
  obtain ⟨l0, l1, l2, l3, l4, l5, l6, l7⟩ := k2
  rcases (by omega : t = 0 ∨ t = 1 ∨ t = 2 ∨ t = 3 ∨ t = 4 ∨ t = 5 ∨ t = 6 ∨ (7 ≤ t ∧ t < 12)) with rfl | rfl | rfl | rfl | rfl | rfl | rfl | h7
  · rw [k0, l0]
  · rw [k1, l1]
  · rw [k2', l2]
  · rw [k3, l3]
  · exact Int64.toInt_inj.mp (k4.trans l4.symm)
  · exact Int64.toInt_inj.mp (k5.trans l5.symm)
  · exact Int64.toInt_inj.mp (k6.trans l6.symm)
  · rw [k7 t h7.1 h7.2, l7 t h7.1 h7.2]
theorem qS_of {W : Nat → Int64} {a b c d e3 f3 i3 : Int64} {e f i : Int} (k : ∀ t, t < 12 → W t = qW a b c d e3 f3 i3 t) (h4 : e3.toInt = e) (h5 : f3.toInt = f) (h6 : i3.toInt = i) : qS W a b c d e f i := by
  refine ⟨k 0 (by decide), k 1 (by decide), k 2 (by decide), k 3 (by decide), ?_, ?_, ?_, fun t h1 h2 => ?_⟩
  · rw [k 4 (by decide)]; exact h4
  · rw [k 5 (by decide)]; exact h5
  · rw [k 6 (by decide)]; exact h6
  · rw [k t h2]
    rcases (by omega : t = 7 ∨ t = 8 ∨ t = 9 ∨ t = 10 ∨ t = 11) with rfl | rfl | rfl | rfl | rfl <;> rfl
/-- the two's counts agree -/
theorem cnt_K {h h2 : zH} {k m : Int32} {n : Nat} (e1 : tA h2 121 = tA h 121) (e2 : tA h2 122 = tA h 122) (e3 : tA h2 123 = tA h 123) (hm : ∀ i, i < n → (tA h 122 i).toInt ≤ (tA h 123 i).toInt) : bN (wK h k) (tK9 h) n m.toInt = bN (mK9 h2 k m) (tK9 h2) n m.toInt := by
  refine bN_e2 (fun i hi => ⟨?_, fun hle => ?_⟩)
  · unfold tK9; rw [e3]
  · unfold wK mK9
    rw [e1, e2]
    have hle : (tA h 123 i).toInt ≤ m.toInt := hle
    have hm := hm i hi
    by_cases z : tA h 121 i = k
    · rw [if_pos z, if_pos ⟨z, by omega⟩]
    · rw [if_neg z, if_neg (fun y => z y.1)]
theorem cnt_F {h h2 : zH} {k : Int32} {t : Int} {n : Nat} (e1 : ∀ i, i < n → tA h 65 i = tA h2 121 (tA h2 152 i).toNatClampNeg) (e2 : tA h2 158 = tA h 71) (e3 : tA h2 157 = tA h 67) (e4 : tA h2 156 = tA h 70) : bN (wF h k) (tF9 h) n t = bN (mF9 h2 k) (mT9 h2) n t ∧ bN (wD h k) (tF9 h) n t = bN (mD9 h2 k) (mT9 h2) n t := by
  have et : ∀ i, tF9 h i = mT9 h2 i := fun i => by unfold tF9 mT9; rw [e3]
  constructor
  · refine bN_e (fun i hi => ⟨?_, et i⟩)
    unfold wF mF9
    rw [e1 i hi, e2]
  · refine bN_e (fun i hi => ⟨?_, et i⟩)
    unfold wD mD9
    rw [e1 i hi, e2, e4]
/-- what is counted and said has changed, nothing else -/
noncomputable def qFr (h h2 : zH) : Prop := tSh h2 ∧ tF h2 = tF h ∧ tO h2 = tO h ∧ tN h2 = tN h ∧ ∀ p, ¬ (p = 107 ∨ p = 108 ∨ p = 109) → tA h2 p = tA h p
theorem qFr_r {h : zH} (hs : tSh h) : qFr h h := ⟨hs, rfl, rfl, rfl, fun _ _ => rfl⟩
theorem qFr_of {h h1 h2 : zH} (a : aFr (fun r => r = 107 ∨ r = 108 ∨ r = 109) h h1) (l : lFr h1 h2) : qFr h h2 := ⟨l.1, l.2.1.trans a.2.1, l.2.2.2.1.trans a.2.2.2.1, l.2.2.2.2.trans a.2.2.2.2.1, fun p hp => (congrFun l.2.2.1 p).trans (a.2.2.2.2.2 p hp)⟩
theorem muO_b {W : Nat → Int64} {cs : List Nat} {cl : Nat → rCt} {K th : Nat} {r : Int32} (h : muO W cs cl K th r) : r = -1 ∨ (0 ≤ r.toInt ∧ r.toInt ≤ 200) := by
  rcases h with ⟨h, -⟩ | ⟨i, -, -, -, h⟩
  · exact Or.inl h
  · right
    unfold clI at h
    split at h
    · omega
    · split at h <;> omega
section TN9
variable {xs : Nat → Int32} {τ : List Nat} {h : zH}
theorem tn_107 (hB : zBs xs τ h) : tN h 107 = 600 := by
  obtain ⟨a, b, -⟩ := tkd_a hB (p := 107) (t := 75) rfl rfl
  omega
theorem tn_108 (hB : zBs xs τ h) : tN h 108 = 600 := by
  obtain ⟨a, b, -⟩ := tkd_a hB (p := 108) (t := 75) rfl rfl
  omega
theorem tn_109 (hB : zBs xs τ h) : tN h 109 = 600 := by
  obtain ⟨a, b, -⟩ := tkd_a hB (p := 109) (t := 75) rfl rfl
  omega
theorem tn_52 (hB : zBs xs τ h) : tN h 52 = 12 := by
  obtain ⟨a, b⟩ := tkd_j hB (p := 52) (t := 28) rfl rfl
  omega
theorem tn_53 (hB : zBs xs τ h) : tN h 53 = 80 := by
  obtain ⟨a, b⟩ := tkd_j hB (p := 53) (t := 29) rfl rfl
  omega
end TN9
theorem g_isMonth {G : zG} (hG : G.1 = zProg) {h : zH} {n : Int32} : tC zTt G 172 [.int n] h (fun w h2 => tBo (0 ≤ n.toInt ∧ n.toInt ≤ 599) w ∧ h2 = h) := by
  refine tC_in (by rw [hG]; rfl) (fun dp => ?_)
  refine tw_iload rfl rfl ?_
  refine tw_i2l rfl ?_
  refine tw_push rfl ?_
  refine tw_push rfl ?_
  refine tw_stat3 rfl (f_in hG  (LO := 0) (HI := 599) (Int32.toInt_toInt64 _) (by decide) (by decide)) (fun w9 h9 p1067 => ?_)
  obtain ⟨⟨p1067, rfl⟩ | ⟨p1067, rfl⟩, rfl⟩ := p1067
  · try dsimp only [tvI_i, tvJ_j, tvR_r] at p1067
    exact tw_iret rfl ⟨Or.inl ⟨p1067, rfl⟩, rfl⟩
  · try dsimp only [tvI_i, tvJ_j, tvR_r] at p1067
    exact tw_iret rfl ⟨Or.inr ⟨p1067, rfl⟩, rfl⟩
theorem f_must {G : zG} (hG : G.1 = zProg) {h : zH} {k s m : Int32} {K : Nat} {cs : List Nat} {cl : Nat → rCt} (hs : tSh h) (hL : R_cl h) (hg : ∀ i r : Nat, (i : Int) < (tvI (tF h 36 4)).toInt → tO h 39 i = some r → 182 ≤ r) (hK : R_ckind h) (hT : R_ctl h) (hn107 : tN h 107 = 600) (hn108 : tN h 108 = 600) (hn109 : tN h 109 = 600) (h123 : ∀ i, i < 300 → 0 ≤ (tA h 123 i).toInt ∧ (tA h 123 i).toInt ≤ 599) (h36 : 0 ≤ (tvI (tF h 36 4)).toInt ∧ (tvI (tF h 36 4)).toInt ≤ 300) (h67 : ∀ i, i < 200 → 0 ≤ (tA h 67 i).toInt ∧ (tA h 67 i).toInt ≤ 599) (h70 : ∀ i, i < 200 → 0 ≤ (tA h 70 i).toInt ∧ (tA h 70 i).toInt ≤ 9) (h63 : 0 ≤ (tvI (tF h 63 8)).toInt ∧ (tvI (tF h 63 8)).toInt ≤ 200) (hn : 0 ≤ (tvI (tF h 48 3)).toInt) (h52 : tN h 52 = 12) (h53 : tN h 53 = 80) (D : rIc h (sRI (tA h 49) m (tvI (tF h 48 3)).toNatClampNeg) K cs cl) : tC zTt G 126 [.ref 0, .int k, .int s, .int m] h (fun w h2 => qFr h h2 ∧ ((((0 ≤ k.toInt ∧ k.toInt < (tvI (tF h 1 6)).toInt) ∧ (0 ≤ s.toInt ∧ s.toInt ≤ 2) ∧ (0 ≤ m.toInt ∧ m.toInt ≤ 599)) ∧ ∃ r W, w = some (.int r) ∧ qS W m.toInt64 k.toInt64 (tA h 3 k.toNatClampNeg).toInt64 m.toInt64 (bN (wK h k) (tK9 h) (tvI (tF h 36 4)).toNatClampNeg m.toInt) (bN (wF h k) (tF9 h) (tvI (tF h 63 8)).toNatClampNeg m.toInt) (bN (wD h k) (tF9 h) (tvI (tF h 63 8)).toNatClampNeg m.toInt) ∧ muO W cs cl K s.toNatClampNeg r) ∨ (¬ ((0 ≤ k.toInt ∧ k.toInt < (tvI (tF h 1 6)).toInt) ∧ (0 ≤ s.toInt ∧ s.toInt ≤ 2) ∧ (0 ≤ m.toInt ∧ m.toInt ≤ 599)) ∧ w = some (.int (-2))))) := by
  refine tC_in (by rw [hG]; rfl) (fun dp => ?_)
  refine tw_aload rfl rfl ?_
  refine tw_getS rfl (hs_0_0 hs) ?_
  refine tw_iload rfl rfl ?_
  refine tw_virt1 rfl (f_hasKind hG hs) (fun w9 h9 p1068 => ?_)
  obtain ⟨⟨p1068, rfl⟩ | ⟨p1068, rfl⟩, e9⟩ := p1068
  · try dsimp only [tvI_i, tvJ_j, tvR_r] at p1068
    obtain rfl := e9.symm
    refine tw_if_eq rfl (fun z => absurd z (by decide)) (fun _ => ?_)
    refine tw_iload rfl rfl ?_
    refine tw_stat1 rfl (f_isSort hG) (fun w9 h9 p1069 => ?_)
    obtain ⟨⟨p1069, rfl⟩ | ⟨p1069, rfl⟩, e9⟩ := p1069
    · try dsimp only [tvI_i, tvJ_j, tvR_r] at p1069
      obtain rfl := e9.symm
      refine tw_if_eq rfl (fun z => absurd z (by decide)) (fun _ => ?_)
      refine tw_iload rfl rfl ?_
      refine tw_stat1 rfl (f_isMonth hG) (fun w9 h9 p1070 => ?_)
      obtain ⟨⟨p1070, rfl⟩ | ⟨p1070, rfl⟩, e9⟩ := p1070
      · try dsimp only [tvI_i, tvJ_j, tvR_r] at p1070
        obtain rfl := e9.symm
        refine tw_if_ne rfl (fun _ => ?_) (fun z => absurd z (by decide))
        refine tw_aload rfl rfl ?_
        refine tw_iload rfl rfl ?_
        refine tw_virt1 rfl (f_tally hG hs hL hg hK hT hn107 hn108 hn109 h123 h36 h67 h70 h63) (fun wp1071 hp1071 p1071 => ?_)
        obtain ⟨rfl, FT, T7, T8, T9⟩ := p1071
        have eA : ∀ p, (p = 3 ∨ p = 49) → tA hp1071 p = tA h p := fun p hp => FT.2.2.2.2.2 p (fun z => by omega)
        have eF : tF hp1071 = tF h := FT.2.1
        refine tw_aload rfl rfl ?_
        refine tw_iload rfl rfl ?_
        refine tw_iload rfl rfl ?_
        refine tw_iload rfl rfl ?_
        refine tw_virt3 rfl (f_mustOf hG FT.1 (by rw [eF]; exact hn) (by rw [FT.2.2.2.2.1]; exact h52) (by rw [FT.2.2.2.2.1]; exact h53) (K := K) (cs := cs) (cl := cl) (th := s.toNatClampNeg) (by rw [eA 49 (Or.inr rfl), eF]; exact rIc_af D FT (fun q z => by omega)) (zclx (by omega)).symm (by rw [zclE]; omega)) (fun wp1072 hp1072 p1072 => ?_)
        obtain ⟨LM, r, W, rfl, hW, hm⟩ := p1072
        rw [eA 3 (Or.inl rfl)] at hW
        have hmc : ((m.toNatClampNeg : Nat) : Int) = m.toInt := zclx (by omega)
        have hmn : m.toNatClampNeg < 600 := by omega
        have u7 := T7 m.toNatClampNeg hmn
        have u8 := T8 m.toNatClampNeg hmn
        have u9 := T9 m.toNatClampNeg hmn
        rw [hmc] at u7 u8 u9
        have hQ : qS W m.toInt64 k.toInt64 (tA h 3 k.toNatClampNeg).toInt64 m.toInt64 (bN (wK h k) (tK9 h) (tvI (tF h 36 4)).toNatClampNeg m.toInt) (bN (wF h k) (tF9 h) (tvI (tF h 63 8)).toNatClampNeg m.toInt) (bN (wD h k) (tF9 h) (tvI (tF h 63 8)).toNatClampNeg m.toInt) := qS_of hW ((Int32.toInt_toInt64 _).trans u7) ((Int32.toInt_toInt64 _).trans u8) ((Int32.toInt_toInt64 _).trans u9)
        exact tw_iret rfl ⟨qFr_of FT LM, Or.inl ⟨by omega, r, W, rfl, hQ, hm⟩⟩
      · try dsimp only [tvI_i, tvJ_j, tvR_r] at p1070
        obtain rfl := e9.symm
        refine tw_if_ne rfl (fun z => absurd z (by decide)) (fun _ => ?_)
        refine tw_push rfl ?_
        exact tw_iret rfl ⟨qFr_r hs, Or.inr ⟨by omega, rfl⟩⟩
    · try dsimp only [tvI_i, tvJ_j, tvR_r] at p1069
      obtain rfl := e9.symm
      refine tw_if_eq rfl (fun _ => ?_) (fun z => absurd z (by decide))
      refine tw_push rfl ?_
      exact tw_iret rfl ⟨qFr_r hs, Or.inr ⟨by omega, rfl⟩⟩
  · try dsimp only [tvI_i, tvJ_j, tvR_r] at p1068
    obtain rfl := e9.symm
    refine tw_if_eq rfl (fun _ => ?_) (fun z => absurd z (by decide))
    refine tw_push rfl ?_
    exact tw_iret rfl ⟨qFr_r hs, Or.inr ⟨by omega, rfl⟩⟩
theorem g_isAsked {G : zG} (hG : G.1 = zProg) {h : zH} {k s m : Int32} (hs : tSh h) (hk3 : 0 ≤ (tvI (tF h 111 3)).toInt) : tC zTt G 234 [.ref 111, .int k, .int s, .int m] h (fun w h2 => tBo ((0 ≤ k.toInt ∧ k.toInt < (tvI (tF h 111 3)).toInt) ∧ (0 ≤ s.toInt ∧ s.toInt ≤ 2) ∧ (0 ≤ m.toInt ∧ m.toInt ≤ 599)) w ∧ h2 = h) := by
  refine tC_in (by rw [hG]; rfl) (fun dp => ?_)
  refine tw_aload rfl rfl ?_
  refine tw_iload rfl rfl ?_
  refine tw_virt1 rfl (g_isKind hG hs hk3) (fun w9 h9 p1073 => ?_)
  obtain ⟨⟨p1073, rfl⟩ | ⟨p1073, rfl⟩, e9⟩ := p1073
  · try dsimp only [tvI_i, tvJ_j, tvR_r] at p1073
    obtain rfl := e9.symm
    refine tw_if_eq rfl (fun z => absurd z (by decide)) (fun _ => ?_)
    refine tw_iload rfl rfl ?_
    refine tw_stat1 rfl (g_isSort hG) (fun w9 h9 p1074 => ?_)
    obtain ⟨⟨p1074, rfl⟩ | ⟨p1074, rfl⟩, e9⟩ := p1074
    · try dsimp only [tvI_i, tvJ_j, tvR_r] at p1074
      obtain rfl := e9.symm
      refine tw_if_eq rfl (fun z => absurd z (by decide)) (fun _ => ?_)
      refine tw_iload rfl rfl ?_
      refine tw_stat1 rfl (g_isMonth hG) (fun w9 h9 p1075 => ?_)
      obtain ⟨⟨p1075, rfl⟩ | ⟨p1075, rfl⟩, e9⟩ := p1075
      · try dsimp only [tvI_i, tvJ_j, tvR_r] at p1075
        obtain rfl := e9.symm
        refine tw_if_eq rfl (fun z => absurd z (by decide)) (fun _ => ?_)
        refine tw_push rfl ?_
        refine tw_goto rfl ?_
        exact tw_iret rfl ⟨Or.inl ⟨by omega, rfl⟩, rfl⟩
      · try dsimp only [tvI_i, tvJ_j, tvR_r] at p1075
        obtain rfl := e9.symm
        refine tw_if_eq rfl (fun _ => ?_) (fun z => absurd z (by decide))
        refine tw_push rfl ?_
        exact tw_iret rfl ⟨Or.inr ⟨by omega, rfl⟩, rfl⟩
    · try dsimp only [tvI_i, tvJ_j, tvR_r] at p1074
      obtain rfl := e9.symm
      refine tw_if_eq rfl (fun _ => ?_) (fun z => absurd z (by decide))
      refine tw_push rfl ?_
      exact tw_iret rfl ⟨Or.inr ⟨by omega, rfl⟩, rfl⟩
  · try dsimp only [tvI_i, tvJ_j, tvR_r] at p1073
    obtain rfl := e9.symm
    refine tw_if_eq rfl (fun _ => ?_) (fun z => absurd z (by decide))
    refine tw_push rfl ?_
    exact tw_iret rfl ⟨Or.inr ⟨by omega, rfl⟩, rfl⟩
theorem g_must {G : zG} (hG : G.1 = zProg) {h : zH} {k s m : Int32} {K : Nat} {cs : List Nat} {cl : Nat → rCt} (hs : tSh h) (hk3 : 0 ≤ (tvI (tF h 111 3)).toInt) (hn : 0 ≤ (tvI (tF h 111 30)).toInt) (D : rIm h (sRI (tA h 141) m (tvI (tF h 111 30)).toNatClampNeg) K cs cl) (h5 : 0 ≤ (tvI (tF h 111 5)).toInt ∧ (tvI (tF h 111 5)).toInt ≤ 300) (h59 : 0 ≤ (tvI (tF h 111 59)).toInt ∧ (tvI (tF h 111 59)).toInt ≤ 200) (h156 : ∀ i, i < 200 → 0 ≤ (tA h 156 i).toInt ∧ (tA h 156 i).toInt ≤ 9) (h133 : ∀ i, i < 5000 → 0 ≤ (tA h 133 i).toInt ∧ (tA h 133 i).toInt ≤ 14) (h134 : ∀ i, i < 5000 → 0 ≤ (tA h 134 i).toInt ∧ (tA h 134 i).toInt ≤ 99999) (h135 : ∀ i, i < 120 → 0 ≤ (tA h 135 i).toInt ∧ (tA h 135 i).toInt ≤ 3) (h136 : ∀ i, i < 120 → 0 ≤ (tA h 136 i).toInt ∧ (tA h 136 i).toInt ≤ 99999) (h137 : ∀ i, i < 120 → 0 ≤ (tA h 137 i).toInt ∧ (tA h 137 i).toInt ≤ 410) (h138 : ∀ i, i < 120 → 0 ≤ (tA h 138 i).toInt ∧ (tA h 138 i).toInt ≤ 410) (h139 : ∀ i, i < 120 → 0 ≤ (tA h 139 i).toInt ∧ (tA h 139 i).toInt ≤ 410) : tC zTt G 235 [.ref 111, .int k, .int s, .int m] h (fun w h2 => (((0 ≤ k.toInt ∧ k.toInt < (tvI (tF h 111 3)).toInt) ∧ (0 ≤ s.toInt ∧ s.toInt ≤ 2) ∧ (0 ≤ m.toInt ∧ m.toInt ≤ 599)) ∧ ∃ r, w = some (.int r) ∧ ((K = 0 ∧ r = -1) ∨ ∃ W, qS W m.toInt64 k.toInt64 (tA h 114 k.toNatClampNeg).toInt64 m.toInt64 (bN (mK9 h k m) (tK9 h) (tvI (tF h 111 5)).toNatClampNeg m.toInt) (bN (mF9 h k) (mT9 h) (tvI (tF h 111 59)).toNatClampNeg m.toInt) (bN (mD9 h k) (mT9 h) (tvI (tF h 111 59)).toNatClampNeg m.toInt) ∧ muO W cs cl K s.toNatClampNeg r)) ∨ (¬ ((0 ≤ k.toInt ∧ k.toInt < (tvI (tF h 111 3)).toInt) ∧ (0 ≤ s.toInt ∧ s.toInt ≤ 2) ∧ (0 ≤ m.toInt ∧ m.toInt ≤ 599)) ∧ w = some (.int (-2)))) := by
  refine tC_in (by rw [hG]; rfl) (fun dp => ?_)
  refine tw_aload rfl rfl ?_
  refine tw_iload rfl rfl ?_
  refine tw_iload rfl rfl ?_
  refine tw_iload rfl rfl ?_
  refine tw_virt3 rfl (g_isAsked hG hs hk3) (fun w9 h9 p1076 => ?_)
  obtain ⟨⟨p1076, rfl⟩ | ⟨p1076, rfl⟩, e9⟩ := p1076
  · try dsimp only [tvI_i, tvJ_j, tvR_r] at p1076
    obtain rfl := e9.symm
    refine tw_if_eq rfl (fun z => absurd z (by decide)) (fun _ => ?_)
    refine tw_aload rfl rfl ?_
    refine tw_iload rfl rfl ?_
    refine tw_iload rfl rfl ?_
    refine tw_iload rfl rfl ?_
    refine tw_virt3 rfl (g_mustOf hG hs hn D (zclx (by omega)).symm (by rw [zclE]; omega) h5 h59 h156 h133 h134 h135 h136 h137 h138 h139) (fun wp1077 hp1077 p1077 => ?_)
    obtain ⟨LM, r, rfl, hm⟩ := p1077
    refine tw_goto rfl ?_
    exact tw_iret rfl (Or.inl ⟨by omega, r, rfl, hm⟩)
  · try dsimp only [tvI_i, tvJ_j, tvR_r] at p1076
    obtain rfl := e9.symm
    refine tw_if_eq rfl (fun _ => ?_) (fun z => absurd z (by decide))
    refine tw_push rfl ?_
    exact tw_iret rfl (Or.inr ⟨by omega, rfl⟩)
noncomputable def ph_muc (k s m : Int32) (h : zH) (w : Option Value) (_h2 : zH) : Prop := ((((0 ≤ k.toInt ∧ k.toInt < (tvI (tF h 1 6)).toInt) ∧ (0 ≤ s.toInt ∧ s.toInt ≤ 2) ∧ (0 ≤ m.toInt ∧ m.toInt ≤ 599)) ∧ ∃ r W, w = some (.int r) ∧ qS W m.toInt64 k.toInt64 (tA h 3 k.toNatClampNeg).toInt64 m.toInt64 (bN (wK h k) (tK9 h) (tvI (tF h 36 4)).toNatClampNeg m.toInt) (bN (wF h k) (tF9 h) (tvI (tF h 63 8)).toNatClampNeg m.toInt) (bN (wD h k) (tF9 h) (tvI (tF h 63 8)).toNatClampNeg m.toInt) ∧ muO W (rCn h (sRI (tA h 49) m (tvI (tF h 48 3)).toNatClampNeg)) (rLn h (sRI (tA h 49) m (tvI (tF h 48 3)).toNatClampNeg)) (rKn h (sRI (tA h 49) m (tvI (tF h 48 3)).toNatClampNeg)) s.toNatClampNeg r) ∨ (¬ ((0 ≤ k.toInt ∧ k.toInt < (tvI (tF h 1 6)).toInt) ∧ (0 ≤ s.toInt ∧ s.toInt ≤ 2) ∧ (0 ≤ m.toInt ∧ m.toInt ≤ 599)) ∧ w = some (.int (-2))))
noncomputable def ph_mum (k s m : Int32) (h : zH) (_w : Option Value) (h2 : zH) (w : Option Value) (_h3 : zH) : Prop := (((0 ≤ k.toInt ∧ k.toInt < (tvI (tF h2 111 3)).toInt) ∧ (0 ≤ s.toInt ∧ s.toInt ≤ 2) ∧ (0 ≤ m.toInt ∧ m.toInt ≤ 599)) ∧ ∃ r, w = some (.int r) ∧ ((rKn h (sRI (tA h 49) m (tvI (tF h 48 3)).toNatClampNeg) = 0 ∧ r = -1) ∨ ∃ W, qS W m.toInt64 k.toInt64 (tA h2 114 k.toNatClampNeg).toInt64 m.toInt64 (bN (mK9 h2 k m) (tK9 h2) (tvI (tF h2 111 5)).toNatClampNeg m.toInt) (bN (mF9 h2 k) (mT9 h2) (tvI (tF h2 111 59)).toNatClampNeg m.toInt) (bN (mD9 h2 k) (mT9 h2) (tvI (tF h2 111 59)).toNatClampNeg m.toInt) ∧ muO W (rCn h (sRI (tA h 49) m (tvI (tF h 48 3)).toNatClampNeg)) (rLn h (sRI (tA h 49) m (tvI (tF h 48 3)).toNatClampNeg)) (rKn h (sRI (tA h 49) m (tvI (tF h 48 3)).toNatClampNeg)) s.toNatClampNeg r)) ∨ (¬ ((0 ≤ k.toInt ∧ k.toInt < (tvI (tF h2 111 3)).toInt) ∧ (0 ≤ s.toInt ∧ s.toInt ≤ 2) ∧ (0 ≤ m.toInt ∧ m.toInt ≤ 599)) ∧ w = some (.int (-2)))
theorem g_mustD {G : zG} (hG : G.1 = zProg) {k s m : Int32} {τ τ2 : List Nat} {h h2 : zH} {w : Option Value} (hB : zBs G.2.2.2 τ h) (hB2 : zBs G.2.2.2 τ2 h2) (hR : R_rcd h) (hN : R_rules h) (hF : R_froms h) (e30 : tF h2 111 30 = tF h 111 30) (e141 : tA h2 141 = tA h 141) (o133 : ∀ p, 133 ≤ p → p ≤ 140 → tA h2 p = tA h p) : tC zTt G 235 [.ref 111, .int k, .int s, .int m] h2 (fun w2 h3 => ph_mum k s m h w h2 w2 h3) := by
  unfold R_rules at hN
  unfold R_froms at hF
  have D := rIm_fr (rIn_D (m := m) hB hR).2 o133
  have ey : sRI (tA h2 141) m (tvI (tF h2 111 30)).toNatClampNeg = (sRI (tA h 49) m (tvI (tF h 48 3)).toNatClampNeg) := by rw [e30, e141, ← hN, ← hF]
  rw [← ey] at D
  refine (g_must hG (zBs_sh hB2) (kb_111_3 hB2).1 (kb_111_30 hB2).1 D (kb_111_5 hB2) (kb_111_59 hB2) (ka_156 hB2).2 (ka_133 hB2).2 (ka_134 hB2).2 (ka_135 hB2).2 (ka_136 hB2).2 (ka_137 hB2).2 (ka_138 hB2).2 (ka_139 hB2).2).mono (fun w2 h3 z => ?_)
  unfold ph_mum
  rw [← ey]
  exact z
theorem a_must {xs : Nat → Int32} {τ : List Nat} {k s m : Int32} {h h2 h3 : zH} {w w2 : Option Value} (hB : zBs xs τ h) (hR : R_rcd h) (hK : R_kinds h) (hC : R_cars h) (hX : R_crashes h) (hf : R_kfirm h) (hM : R_cmt h) (h2k : R_ck2 h) (hct : R_ctold h) (hcd : R_cdead h) (hcb : R_cburn h) (e3 : tF h2 111 3 = tF h 111 3) (e5 : tF h2 111 5 = tF h 111 5) (e59 : tF h2 111 59 = tF h 111 59) (o114 : tA h2 114 = tA h 114) (o121 : tA h2 121 = tA h 121) (o122 : tA h2 122 = tA h 122) (o123 : tA h2 123 = tA h 123) (o152 : tA h2 152 = tA h 152) (o156 : tA h2 156 = tA h 156) (o157 : tA h2 157 = tA h 157) (o158 : tA h2 158 = tA h 158) (k1 : ph_muc k s m h w h2) (k2 : ph_mum k s m h w h2 w2 h3) : w2 = w := by
  unfold R_kinds at hK
  unfold R_cars at hC
  unfold R_crashes at hX
  unfold R_kfirm at hf
  unfold R_ctold at hct
  unfold R_cdead at hcd
  unfold R_cburn at hcb
  unfold ph_mum at k2
  rw [e3, e5, e59, o114, ← hK, ← hC, ← hX, ← hf] at k2
  have b4 := kb_36_4 hB
  have b8 := kb_63_8 hB
  have c1 := cnt_K (h := h) (h2 := h2) (k := k) (m := m) (n := (tvI (tF h 36 4)).toNatClampNeg) o121 o122 o123 (fun i hi => hM i (by rw [← hC]; rw [zclE] at hi; omega))
  have c2 := cnt_F (h := h) (h2 := h2) (k := k) (t := m.toInt) (n := (tvI (tF h 63 8)).toNatClampNeg) (fun i hi => by rw [o121, o152]; exact (h2k i (by rw [← hX]; rw [zclE] at hi; omega)).1) (o158.trans hcb.symm) (o157.trans hct.symm) (o156.trans hcd.symm)
  rw [← c1, ← c2.1, ← c2.2] at k2
  have D := (rIn_D (m := m) hB hR).1
  rcases k1 with ⟨a1, r, W, rfl, a2, a3⟩ | ⟨a1, rfl⟩ <;> rcases k2 with ⟨d1, r2, rfl, d2⟩ | ⟨d1, rfl⟩
  · have e : r2 = r := by
      rcases d2 with ⟨k0, d2⟩ | ⟨W2, d2, d3⟩
      · rcases a3 with ⟨a3, -⟩ | ⟨i, hi, -⟩
        · rw [d2, a3]
        · omega
      · by_cases k0 : rKn h (sRI (tA h 49) m (tvI (tF h 48 3)).toNatClampNeg) = 0
        · rcases a3 with ⟨a3, -⟩ | ⟨i, hi, -⟩
          · rcases d3 with ⟨d3, -⟩ | ⟨j, hj, -⟩
            · rw [d3, a3]
            · omega
          · omega
        · exact muO_u (qS_u a2 d2) (rIc_ok D).2 ((rIc_ok D).1.resolve_left k0) (by rw [zclE]; omega) a3 d3
    rw [e]
  · exact absurd a1 d1
  · exact absurd d1 a1
  · rfl
theorem f_owed {G : zG} (hG : G.1 = zProg) {h : zH} {k m : Int32} {K : Nat} {cs : List Nat} {cl : Nat → rCt} (hs : tSh h) (hL : R_cl h) (hg : ∀ i r : Nat, (i : Int) < (tvI (tF h 36 4)).toInt → tO h 39 i = some r → 182 ≤ r) (hK : R_ckind h) (hT : R_ctl h) (hn107 : tN h 107 = 600) (hn108 : tN h 108 = 600) (hn109 : tN h 109 = 600) (h123 : ∀ i, i < 300 → 0 ≤ (tA h 123 i).toInt ∧ (tA h 123 i).toInt ≤ 599) (h36 : 0 ≤ (tvI (tF h 36 4)).toInt ∧ (tvI (tF h 36 4)).toInt ≤ 300) (h67 : ∀ i, i < 200 → 0 ≤ (tA h 67 i).toInt ∧ (tA h 67 i).toInt ≤ 599) (h70 : ∀ i, i < 200 → 0 ≤ (tA h 70 i).toInt ∧ (tA h 70 i).toInt ≤ 9) (h63 : 0 ≤ (tvI (tF h 63 8)).toInt ∧ (tvI (tF h 63 8)).toInt ≤ 200) (hn : 0 ≤ (tvI (tF h 48 3)).toInt) (h52 : tN h 52 = 12) (h53 : tN h 53 = 80) (D : rIc h (sRI (tA h 49) m (tvI (tF h 48 3)).toNatClampNeg) K cs cl) : tC zTt G 128 [.ref 0, .int k, .int m] h (fun w h2 => (((0 ≤ k.toInt ∧ k.toInt < (tvI (tF h 1 6)).toInt) ∧ (0 ≤ m.toInt ∧ m.toInt ≤ 599)) ∧ ∃ W, qS W m.toInt64 k.toInt64 (tA h 3 k.toNatClampNeg).toInt64 (0 : Int32).toInt64 (bN (wK h k) (tK9 h) (tvI (tF h 36 4)).toNatClampNeg m.toInt) (bN (wF h k) (tF9 h) (tvI (tF h 63 8)).toNatClampNeg m.toInt) (bN (wD h k) (tF9 h) (tvI (tF h 63 8)).toNatClampNeg m.toInt) ∧ ((w = some (.int 0) ∧ ∀ i, i < K → ¬ hit W cs (cl i) 15) ∨ (w = some (.int 1) ∧ ∃ i, i < K ∧ hit W cs (cl i) 15))) ∨ (¬ ((0 ≤ k.toInt ∧ k.toInt < (tvI (tF h 1 6)).toInt) ∧ (0 ≤ m.toInt ∧ m.toInt ≤ 599)) ∧ w = some (.int (-1)))) := by
  refine tC_in (by rw [hG]; rfl) (fun dp => ?_)
  refine tw_aload rfl rfl ?_
  refine tw_getS rfl (hs_0_0 hs) ?_
  refine tw_iload rfl rfl ?_
  refine tw_virt1 rfl (f_hasKind hG hs) (fun w9 h9 p1078 => ?_)
  obtain ⟨⟨p1078, rfl⟩ | ⟨p1078, rfl⟩, e9⟩ := p1078
  · try dsimp only [tvI_i, tvJ_j, tvR_r] at p1078
    obtain rfl := e9.symm
    refine tw_if_eq rfl (fun z => absurd z (by decide)) (fun _ => ?_)
    refine tw_iload rfl rfl ?_
    refine tw_stat1 rfl (f_isMonth hG) (fun w9 h9 p1079 => ?_)
    obtain ⟨⟨p1079, rfl⟩ | ⟨p1079, rfl⟩, e9⟩ := p1079
    · try dsimp only [tvI_i, tvJ_j, tvR_r] at p1079
      obtain rfl := e9.symm
      refine tw_if_ne rfl (fun _ => ?_) (fun z => absurd z (by decide))
      refine tw_aload rfl rfl ?_
      refine tw_iload rfl rfl ?_
      refine tw_virt1 rfl (f_tally hG hs hL hg hK hT hn107 hn108 hn109 h123 h36 h67 h70 h63) (fun wp1080 hp1080 p1080 => ?_)
      obtain ⟨rfl, FT, T7, T8, T9⟩ := p1080
      have eA : ∀ p, (p = 3 ∨ p = 49) → tA hp1080 p = tA h p := fun p hp => FT.2.2.2.2.2 p (fun z => by omega)
      have eF : tF hp1080 = tF h := FT.2.1
      refine tw_aload rfl rfl ?_
      refine tw_iload rfl rfl ?_
      refine tw_iload rfl rfl ?_
      refine tw_push rfl ?_
      refine tw_virt3 rfl (f_askOfKind hG FT.1 (by rw [FT.2.2.2.2.1]; exact h52)) (fun wp1081 hp1081 p1081 => ?_)
      obtain ⟨rfl, FA, hW⟩ := p1081
      rw [eA 3 (Or.inl rfl)] at hW
      have hmc : ((m.toNatClampNeg : Nat) : Int) = m.toInt := zclx (by omega)
      have hmn : m.toNatClampNeg < 600 := by omega
      have u7 := T7 m.toNatClampNeg hmn
      have u8 := T8 m.toNatClampNeg hmn
      have u9 := T9 m.toNatClampNeg hmn
      rw [hmc] at u7 u8 u9
      have hQ := qS_of hW ((Int32.toInt_toInt64 _).trans u7) ((Int32.toInt_toInt64 _).trans u8) ((Int32.toInt_toInt64 _).trans u9)
      have e49 : tA hp1081 49 = tA h 49 := (congrFun FA.2.2.1 49).trans (eA 49 (Or.inr rfl))
      have e48 : tF hp1081 = tF h := FA.2.1.trans eF
      have hn9 : 0 ≤ (tvI (tF hp1081 48 3)).toInt := by rw [e48]; exact hn
      have D9 := (rIc_af D FT (fun q z => by omega)).fr (lFr_w FA)
      refine tw_aload rfl rfl ?_
      refine tw_getS rfl (hs_0_3 FA.1) ?_
      refine tw_aload rfl rfl ?_
      refine tw_getS rfl (hs_0_3 FA.1) ?_
      refine tw_iload rfl rfl ?_
      refine tw_virt1 rfl (f_ruleIn hG FA.1 hn9) (fun wp1082 hp1082 p1082 => ?_)
      obtain ⟨rfl, e9⟩ := p1082
      obtain rfl := e9.symm
      rw [e49, e48]
      refine tw_push rfl ?_
      refine tw_virt2 rfl (f_firstTrueA hG FA.1 (by rw [FA.2.2.2.2.1, FT.2.2.2.2.1]; exact h52) (by rw [FA.2.2.2.2.1, FT.2.2.2.2.1]; exact h53) D9 (th := 15) rfl) (fun w9 hp1083 p1083 => ?_)
      obtain ⟨FB, ⟨rfl, hno⟩ | ⟨i, hi, hit1, hfst, x9, rfl, hx9⟩⟩ := p1083
      · refine tw_push rfl ?_
        refine tw_ic_ne rfl (fun z => absurd z (by decide)) (fun _ => ?_)
        refine tw_push rfl ?_
        refine tw_goto rfl ?_
        exact tw_iret rfl (Or.inl ⟨by omega, _, hQ, Or.inl ⟨rfl, hno⟩⟩)
      · refine tw_push rfl ?_
        refine tw_ic_ne rfl (fun q1084 => ?_) (fun q1084 => ?_)
        · try dsimp only [tvI_i, tvJ_j, tvR_r] at q1084
          have q1084i := zneq (Y := (-1)) (by decide) q1084
          refine tw_push rfl ?_
          exact tw_iret rfl (Or.inl ⟨by omega, _, hQ, Or.inr ⟨rfl, i, hi, hit1⟩⟩)
        · try dsimp only [tvI_i, tvJ_j, tvR_r] at q1084
          have q1084i := zeqi (Y := (-1)) (by decide) q1084
          exfalso
          have k9 : (-1 : Int32).toInt = -1 := rfl
          omega
    · try dsimp only [tvI_i, tvJ_j, tvR_r] at p1079
      obtain rfl := e9.symm
      refine tw_if_ne rfl (fun z => absurd z (by decide)) (fun _ => ?_)
      refine tw_push rfl ?_
      exact tw_iret rfl (Or.inr ⟨by omega, rfl⟩)
  · try dsimp only [tvI_i, tvJ_j, tvR_r] at p1078
    obtain rfl := e9.symm
    refine tw_if_eq rfl (fun _ => ?_) (fun z => absurd z (by decide))
    refine tw_push rfl ?_
    exact tw_iret rfl (Or.inr ⟨by omega, rfl⟩)
theorem g_owed {G : zG} (hG : G.1 = zProg) {h : zH} {k m : Int32} {K : Nat} {cs : List Nat} {cl : Nat → rCt} (hs : tSh h) (hk3 : 0 ≤ (tvI (tF h 111 3)).toInt) (hn : 0 ≤ (tvI (tF h 111 30)).toInt) (D : rIm h (sRI (tA h 141) m (tvI (tF h 111 30)).toNatClampNeg) K cs cl) (h5 : 0 ≤ (tvI (tF h 111 5)).toInt ∧ (tvI (tF h 111 5)).toInt ≤ 300) (h59 : 0 ≤ (tvI (tF h 111 59)).toInt ∧ (tvI (tF h 111 59)).toInt ≤ 200) (h156 : ∀ i, i < 200 → 0 ≤ (tA h 156 i).toInt ∧ (tA h 156 i).toInt ≤ 9) (h133 : ∀ i, i < 5000 → 0 ≤ (tA h 133 i).toInt ∧ (tA h 133 i).toInt ≤ 14) (h134 : ∀ i, i < 5000 → 0 ≤ (tA h 134 i).toInt ∧ (tA h 134 i).toInt ≤ 99999) (h135 : ∀ i, i < 120 → 0 ≤ (tA h 135 i).toInt ∧ (tA h 135 i).toInt ≤ 3) (h136 : ∀ i, i < 120 → 0 ≤ (tA h 136 i).toInt ∧ (tA h 136 i).toInt ≤ 99999) (h137 : ∀ i, i < 120 → 0 ≤ (tA h 137 i).toInt ∧ (tA h 137 i).toInt ≤ 410) (h138 : ∀ i, i < 120 → 0 ≤ (tA h 138 i).toInt ∧ (tA h 138 i).toInt ≤ 410) (h139 : ∀ i, i < 120 → 0 ≤ (tA h 139 i).toInt ∧ (tA h 139 i).toInt ≤ 410) : tC zTt G 237 [.ref 111, .int k, .int m] h (fun w h2 => (((0 ≤ k.toInt ∧ k.toInt < (tvI (tF h 111 3)).toInt) ∧ (0 ≤ m.toInt ∧ m.toInt ≤ 599)) ∧ ((K = 0 ∧ w = some (.int 0)) ∨ ∃ W, qS W m.toInt64 k.toInt64 (tA h 114 k.toNatClampNeg).toInt64 (0 : Int32).toInt64 (bN (mK9 h k m) (tK9 h) (tvI (tF h 111 5)).toNatClampNeg m.toInt) (bN (mF9 h k) (mT9 h) (tvI (tF h 111 59)).toNatClampNeg m.toInt) (bN (mD9 h k) (mT9 h) (tvI (tF h 111 59)).toNatClampNeg m.toInt) ∧ ((w = some (.int 0) ∧ ∀ i, i < K → ¬ hit W cs (cl i) 15) ∨ (w = some (.int 1) ∧ ∃ i, i < K ∧ hit W cs (cl i) 15)))) ∨ (¬ ((0 ≤ k.toInt ∧ k.toInt < (tvI (tF h 111 3)).toInt) ∧ (0 ≤ m.toInt ∧ m.toInt ≤ 599)) ∧ w = some (.int (-1)))) := by
  refine tC_in (by rw [hG]; rfl) (fun dp => ?_)
  refine tw_aload rfl rfl ?_
  refine tw_iload rfl rfl ?_
  refine tw_virt1 rfl (g_isKind hG hs hk3) (fun w9 h9 p1085 => ?_)
  obtain ⟨⟨p1085, rfl⟩ | ⟨p1085, rfl⟩, e9⟩ := p1085
  · try dsimp only [tvI_i, tvJ_j, tvR_r] at p1085
    obtain rfl := e9.symm
    refine tw_if_eq rfl (fun z => absurd z (by decide)) (fun _ => ?_)
    refine tw_iload rfl rfl ?_
    refine tw_stat1 rfl (g_isMonth hG) (fun w9 h9 p1086 => ?_)
    obtain ⟨⟨p1086, rfl⟩ | ⟨p1086, rfl⟩, e9⟩ := p1086
    · try dsimp only [tvI_i, tvJ_j, tvR_r] at p1086
      obtain rfl := e9.symm
      refine tw_if_ne rfl (fun _ => ?_) (fun z => absurd z (by decide))
      refine tw_aload rfl rfl ?_
      refine tw_iload rfl rfl ?_
      refine tw_virt1 rfl (g_inForceIn hG hs hn) (fun w9 h9 p1087 => ?_)
      obtain ⟨rfl, e9⟩ := p1087
      obtain rfl := e9.symm
      refine tw_istore rfl ?_
      refine tw_iload rfl rfl ?_
      refine tw_push rfl ?_
      refine tw_ic_ne rfl (fun q1088 => ?_) (fun q1088 => ?_)
      · try dsimp only [tvI_i, tvJ_j, tvR_r] at q1088
        have q1088i := zneq (Y := (-1)) (by decide) q1088
        obtain ⟨q9, d1, d2, d3⟩ := D.resolve_left (fun z => q1088 z.1)
        refine tw_aload rfl rfl ?_
        refine tw_iload rfl rfl ?_
        refine tw_iload rfl rfl ?_
        refine tw_push rfl ?_
        refine tw_virt3 rfl (g_asks hG hs h5 h59 h156) (fun wp1089 hp1089 p1089 => ?_)
        obtain ⟨rfl, FA, hQ⟩ := p1089
        have eA := FA.2.2.1
        refine tw_aload rfl rfl ?_
        refine tw_iload rfl rfl ?_
        refine tw_push rfl ?_
        refine tw_push rfl ?_
        refine tw_virt3 rfl (g_tells hG FA.1 (d3.frame FA) d1 d2 (kd := 3) rfl (by decide) (t0 := 0) rfl (by rw [eA]; exact h133) (by rw [eA]; exact h134) (by rw [eA]; exact h135) (by rw [eA]; exact h136) (by rw [eA]; exact h138) (by rw [eA]; exact h139)) (fun w9 hp1090 p1090 => ?_)
        obtain ⟨FB, ⟨rfl, hno⟩ | ⟨i, hi, hit1, hfst, x9, rfl, hx9⟩⟩ := p1090
        · rw [thc_k (by decide)] at hno
          refine tw_push rfl ?_
          refine tw_ic_ne rfl (fun z => absurd z (by decide)) (fun _ => ?_)
          refine tw_push rfl ?_
          refine tw_goto rfl ?_
          exact tw_iret rfl (Or.inl ⟨by omega, Or.inr ⟨_, hQ, Or.inl ⟨rfl, hno⟩⟩⟩)
        · rw [thc_k (by decide)] at hit1
          refine tw_push rfl ?_
          refine tw_ic_ne rfl (fun q1091 => ?_) (fun q1091 => ?_)
          · try dsimp only [tvI_i, tvJ_j, tvR_r] at q1091
            have q1091i := zneq (Y := (-1)) (by decide) q1091
            refine tw_push rfl ?_
            exact tw_iret rfl (Or.inl ⟨by omega, Or.inr ⟨_, hQ, Or.inr ⟨rfl, i, hi, hit1⟩⟩⟩)
          · try dsimp only [tvI_i, tvJ_j, tvR_r] at q1091
            have q1091i := zeqi (Y := (-1)) (by decide) q1091
            exfalso
            have k9 : (-1 : Int32).toInt = -1 := rfl
            omega
      · try dsimp only [tvI_i, tvJ_j, tvR_r] at q1088
        have q1088i := zeqi (Y := (-1)) (by decide) q1088
        refine tw_push rfl ?_
        exact tw_iret rfl (Or.inl ⟨by omega, Or.inl ⟨(D.resolve_right (fun z => by obtain ⟨q9, z1, -⟩ := z; rw [q1088] at z1; have k9 : (-1 : Int32).toInt = -1 := rfl; omega)).2, rfl⟩⟩)
    · try dsimp only [tvI_i, tvJ_j, tvR_r] at p1086
      obtain rfl := e9.symm
      refine tw_if_ne rfl (fun z => absurd z (by decide)) (fun _ => ?_)
      refine tw_push rfl ?_
      exact tw_iret rfl (Or.inr ⟨by omega, rfl⟩)
  · try dsimp only [tvI_i, tvJ_j, tvR_r] at p1085
    obtain rfl := e9.symm
    refine tw_if_eq rfl (fun _ => ?_) (fun z => absurd z (by decide))
    refine tw_push rfl ?_
    exact tw_iret rfl (Or.inr ⟨by omega, rfl⟩)
noncomputable def ph_owc (k m : Int32) (h : zH) (w : Option Value) (_h2 : zH) : Prop := (((0 ≤ k.toInt ∧ k.toInt < (tvI (tF h 1 6)).toInt) ∧ (0 ≤ m.toInt ∧ m.toInt ≤ 599)) ∧ ∃ W, qS W m.toInt64 k.toInt64 (tA h 3 k.toNatClampNeg).toInt64 (0 : Int32).toInt64 (bN (wK h k) (tK9 h) (tvI (tF h 36 4)).toNatClampNeg m.toInt) (bN (wF h k) (tF9 h) (tvI (tF h 63 8)).toNatClampNeg m.toInt) (bN (wD h k) (tF9 h) (tvI (tF h 63 8)).toNatClampNeg m.toInt) ∧ ((w = some (.int 0) ∧ ∀ i, i < (rKn h (sRI (tA h 49) m (tvI (tF h 48 3)).toNatClampNeg)) → ¬ hit W (rCn h (sRI (tA h 49) m (tvI (tF h 48 3)).toNatClampNeg)) (rLn h (sRI (tA h 49) m (tvI (tF h 48 3)).toNatClampNeg) i) 15) ∨ (w = some (.int 1) ∧ ∃ i, i < (rKn h (sRI (tA h 49) m (tvI (tF h 48 3)).toNatClampNeg)) ∧ hit W (rCn h (sRI (tA h 49) m (tvI (tF h 48 3)).toNatClampNeg)) (rLn h (sRI (tA h 49) m (tvI (tF h 48 3)).toNatClampNeg) i) 15))) ∨ (¬ ((0 ≤ k.toInt ∧ k.toInt < (tvI (tF h 1 6)).toInt) ∧ (0 ≤ m.toInt ∧ m.toInt ≤ 599)) ∧ w = some (.int (-1)))
noncomputable def ph_owm (k m : Int32) (h : zH) (_w : Option Value) (h2 : zH) (w : Option Value) (_h3 : zH) : Prop := (((0 ≤ k.toInt ∧ k.toInt < (tvI (tF h2 111 3)).toInt) ∧ (0 ≤ m.toInt ∧ m.toInt ≤ 599)) ∧ ((rKn h (sRI (tA h 49) m (tvI (tF h 48 3)).toNatClampNeg) = 0 ∧ w = some (.int 0)) ∨ ∃ W, qS W m.toInt64 k.toInt64 (tA h2 114 k.toNatClampNeg).toInt64 (0 : Int32).toInt64 (bN (mK9 h2 k m) (tK9 h2) (tvI (tF h2 111 5)).toNatClampNeg m.toInt) (bN (mF9 h2 k) (mT9 h2) (tvI (tF h2 111 59)).toNatClampNeg m.toInt) (bN (mD9 h2 k) (mT9 h2) (tvI (tF h2 111 59)).toNatClampNeg m.toInt) ∧ ((w = some (.int 0) ∧ ∀ i, i < (rKn h (sRI (tA h 49) m (tvI (tF h 48 3)).toNatClampNeg)) → ¬ hit W (rCn h (sRI (tA h 49) m (tvI (tF h 48 3)).toNatClampNeg)) (rLn h (sRI (tA h 49) m (tvI (tF h 48 3)).toNatClampNeg) i) 15) ∨ (w = some (.int 1) ∧ ∃ i, i < (rKn h (sRI (tA h 49) m (tvI (tF h 48 3)).toNatClampNeg)) ∧ hit W (rCn h (sRI (tA h 49) m (tvI (tF h 48 3)).toNatClampNeg)) (rLn h (sRI (tA h 49) m (tvI (tF h 48 3)).toNatClampNeg) i) 15)))) ∨ (¬ ((0 ≤ k.toInt ∧ k.toInt < (tvI (tF h2 111 3)).toInt) ∧ (0 ≤ m.toInt ∧ m.toInt ≤ 599)) ∧ w = some (.int (-1)))
theorem g_owedD {G : zG} (hG : G.1 = zProg) {k m : Int32} {τ τ2 : List Nat} {h h2 : zH} {w : Option Value} (hB : zBs G.2.2.2 τ h) (hB2 : zBs G.2.2.2 τ2 h2) (hR : R_rcd h) (hN : R_rules h) (hF : R_froms h) (e30 : tF h2 111 30 = tF h 111 30) (e141 : tA h2 141 = tA h 141) (o133 : ∀ p, 133 ≤ p → p ≤ 140 → tA h2 p = tA h p) : tC zTt G 237 [.ref 111, .int k, .int m] h2 (fun w2 h3 => ph_owm k m h w h2 w2 h3) := by
  unfold R_rules at hN
  unfold R_froms at hF
  have D := rIm_fr (rIn_D (m := m) hB hR).2 o133
  have ey : sRI (tA h2 141) m (tvI (tF h2 111 30)).toNatClampNeg = (sRI (tA h 49) m (tvI (tF h 48 3)).toNatClampNeg) := by rw [e30, e141, ← hN, ← hF]
  rw [← ey] at D
  refine (g_owed hG (zBs_sh hB2) (kb_111_3 hB2).1 (kb_111_30 hB2).1 D (kb_111_5 hB2) (kb_111_59 hB2) (ka_156 hB2).2 (ka_133 hB2).2 (ka_134 hB2).2 (ka_135 hB2).2 (ka_136 hB2).2 (ka_137 hB2).2 (ka_138 hB2).2 (ka_139 hB2).2).mono (fun w2 h3 z => ?_)
  unfold ph_owm
  rw [← ey]
  exact z
theorem a_owed {xs : Nat → Int32} {τ : List Nat} {k m : Int32} {h h2 h3 : zH} {w w2 : Option Value} (hB : zBs xs τ h) (hR : R_rcd h) (hK : R_kinds h) (hC : R_cars h) (hX : R_crashes h) (hf : R_kfirm h) (hM : R_cmt h) (h2k : R_ck2 h) (hct : R_ctold h) (hcd : R_cdead h) (hcb : R_cburn h) (e3 : tF h2 111 3 = tF h 111 3) (e5 : tF h2 111 5 = tF h 111 5) (e59 : tF h2 111 59 = tF h 111 59) (o114 : tA h2 114 = tA h 114) (o121 : tA h2 121 = tA h 121) (o122 : tA h2 122 = tA h 122) (o123 : tA h2 123 = tA h 123) (o152 : tA h2 152 = tA h 152) (o156 : tA h2 156 = tA h 156) (o157 : tA h2 157 = tA h 157) (o158 : tA h2 158 = tA h 158) (k1 : ph_owc k m h w h2) (k2 : ph_owm k m h w h2 w2 h3) : w2 = w := by
  unfold R_kinds at hK
  unfold R_cars at hC
  unfold R_crashes at hX
  unfold R_kfirm at hf
  unfold R_ctold at hct
  unfold R_cdead at hcd
  unfold R_cburn at hcb
  unfold ph_owm at k2
  rw [e3, e5, e59, o114, ← hK, ← hC, ← hX, ← hf] at k2
  have b4 := kb_36_4 hB
  have b8 := kb_63_8 hB
  have c1 := cnt_K (h := h) (h2 := h2) (k := k) (m := m) (n := (tvI (tF h 36 4)).toNatClampNeg) o121 o122 o123 (fun i hi => hM i (by rw [← hC]; rw [zclE] at hi; omega))
  have c2 := cnt_F (h := h) (h2 := h2) (k := k) (t := m.toInt) (n := (tvI (tF h 63 8)).toNatClampNeg) (fun i hi => by rw [o121, o152]; exact (h2k i (by rw [← hX]; rw [zclE] at hi; omega)).1) (o158.trans hcb.symm) (o157.trans hct.symm) (o156.trans hcd.symm)
  rw [← c1, ← c2.1, ← c2.2] at k2
  have D := (rIn_D (m := m) hB hR).1
  rcases k1 with ⟨a1, W, a2, a3⟩ | ⟨a1, rfl⟩ <;> rcases k2 with ⟨d1, d2⟩ | ⟨d1, rfl⟩
  · rcases d2 with ⟨k0, rfl⟩ | ⟨W2, d2, d3⟩
    · rcases a3 with ⟨rfl, -⟩ | ⟨-, i, hi, -⟩
      · rfl
      · omega
    · have hw := qS_u a2 d2
      by_cases k0 : rKn h (sRI (tA h 49) m (tvI (tF h 48 3)).toNatClampNeg) = 0
      · rcases a3 with ⟨rfl, -⟩ | ⟨-, i, hi, -⟩
        · rcases d3 with ⟨rfl, -⟩ | ⟨-, j, hj, -⟩
          · rfl
          · omega
        · omega
      · have nv := (rIc_ok D).1.resolve_left k0
        rcases a3 with ⟨rfl, a3⟩ | ⟨rfl, i, hi, a3⟩ <;> rcases d3 with ⟨rfl, d3⟩ | ⟨rfl, j, hj, d3⟩
        · rfl
        · exact absurd ((hit_w hw ((rIc_ok D).2 j hj) nv).mpr d3) (a3 j hj)
        · exact absurd ((hit_w hw ((rIc_ok D).2 i hi) nv).mp a3) (d3 i hi)
        · rfl
  · exact absurd a1 d1
  · exact absurd d1 a1
  · rfl
theorem f_put {G : zG} (hG : G.1 = zProg) {h : zH} {x : Int32} (hs : tSh h) (hk : tK h 45 = 2) (hl : 0 ≤ (tvI (tF h 44 1)).toInt ∧ (tvI (tF h 44 1)).toInt ≤ 396) : tC zTt G 73 [.ref 44, .int x] h (fun w h2 => w = none ∧ tSh h2 ∧ tF h2 44 1 = .int (z4 (tvI (tF h 44 1))) ∧ tA h2 45 = f4 (tA h 45) (tvI (tF h 44 1)) x ∧ tK h2 45 = 2) := by
  refine tC_in (by rw [hG]; rfl) (fun dp => ?_)
  have e0 : (tvI (tF h 44 1)).toInt = (tvI (tF h 44 1)).toInt := rfl
  have e1 := zi1n e0 (by omega)
  have e2 := zi1n e1 (by omega)
  have e3 := zi1n e2 (by omega)
  have h4 : (400 : Int32).toInt = 400 := rfl
  refine tw_push rfl ?_
  refine tw_istore rfl ?_
  refine tw_iload rfl rfl ?_
  refine tw_if_lt rfl (fun z => absurd z (by decide)) (fun _ => ?_)
  refine tw_aload rfl rfl ?_
  refine tw_getS rfl (hi_44_1 hs) ?_
  refine tw_push rfl ?_
  refine tw_ic_ge rfl (fun q1092 => ?_) (fun q1092 => ?_)
  · try dsimp only [tvI_i, tvJ_j, tvR_r] at q1092
    exact absurd q1092 (by omega)
  · try dsimp only [tvI_i, tvJ_j, tvR_r] at q1092
    refine tw_aload rfl rfl ?_
    refine tw_getS rfl (hs_44_0 hs) ?_
    refine tw_aload rfl rfl ?_
    refine tw_getS rfl (hi_44_1 hs) ?_
    refine tw_iload rfl rfl ?_
    refine tw_iload rfl rfl ?_
    refine tw_ishr rfl ?_
    refine tw_i2b rfl ?_
    refine tw_bast rfl (fun kf1093 zf1093 f1093 => ?_)
    rw [bst_k hk f1093]
    refine tw_aload rfl rfl ?_
    refine tw_dup rfl ?_
    refine tw_getS rfl (tF_a (hi_44_1 hs)) ?_
    refine tw_push rfl ?_
    refine tw_iadd rfl ?_
    refine tw_put rfl (fun f1094 => ?_)
    refine tw_iinc rfl rfl ?_
    refine tw_goto rfl ?_
    refine tw_iload rfl rfl ?_
    refine tw_if_lt rfl (fun z => absurd z (by decide)) (fun _ => ?_)
    refine tw_aload rfl rfl ?_
    refine tw_getS rfl (tF_same f1094) ?_
    refine tw_push rfl ?_
    refine tw_ic_ge rfl (fun q1095 => ?_) (fun q1095 => ?_)
    · try dsimp only [tvI_i, tvJ_j, tvR_r] at q1095
      exact absurd q1095 (by omega)
    · try dsimp only [tvI_i, tvJ_j, tvR_r] at q1095
      refine tw_aload rfl rfl ?_
      refine tw_getS rfl (hs_44_0 (hw_44_1 f1094 (tSh_SA hs))) ?_
      refine tw_aload rfl rfl ?_
      refine tw_getS rfl (tF_same f1094) ?_
      refine tw_iload rfl rfl ?_
      refine tw_iload rfl rfl ?_
      refine tw_ishr rfl ?_
      refine tw_i2b rfl ?_
      refine tw_bast rfl (fun kf1096 zf1096 f1096 => ?_)
      rw [bst_k (by rw [tK_tSF]; exact (by rw [tK_tSA]; exact hk)) f1096]
      refine tw_aload rfl rfl ?_
      refine tw_dup rfl ?_
      refine tw_getS rfl (tF_a (tF_same f1094)) ?_
      refine tw_push rfl ?_
      refine tw_iadd rfl ?_
      refine tw_put rfl (fun f1097 => ?_)
      refine tw_iinc rfl rfl ?_
      refine tw_goto rfl ?_
      refine tw_iload rfl rfl ?_
      refine tw_if_lt rfl (fun z => absurd z (by decide)) (fun _ => ?_)
      refine tw_aload rfl rfl ?_
      refine tw_getS rfl (tF_same f1097) ?_
      refine tw_push rfl ?_
      refine tw_ic_ge rfl (fun q1098 => ?_) (fun q1098 => ?_)
      · try dsimp only [tvI_i, tvJ_j, tvR_r] at q1098
        exact absurd q1098 (by omega)
      · try dsimp only [tvI_i, tvJ_j, tvR_r] at q1098
        refine tw_aload rfl rfl ?_
        refine tw_getS rfl (hs_44_0 (hw_44_1 f1097 (tSh_SA (hw_44_1 f1094 (tSh_SA hs))))) ?_
        refine tw_aload rfl rfl ?_
        refine tw_getS rfl (tF_same f1097) ?_
        refine tw_iload rfl rfl ?_
        refine tw_iload rfl rfl ?_
        refine tw_ishr rfl ?_
        refine tw_i2b rfl ?_
        refine tw_bast rfl (fun kf1099 zf1099 f1099 => ?_)
        rw [bst_k (by rw [tK_tSF]; exact (by rw [tK_tSA]; exact (by rw [tK_tSF]; exact (by rw [tK_tSA]; exact hk)))) f1099]
        refine tw_aload rfl rfl ?_
        refine tw_dup rfl ?_
        refine tw_getS rfl (tF_a (tF_same f1097)) ?_
        refine tw_push rfl ?_
        refine tw_iadd rfl ?_
        refine tw_put rfl (fun f1100 => ?_)
        refine tw_iinc rfl rfl ?_
        refine tw_goto rfl ?_
        refine tw_iload rfl rfl ?_
        refine tw_if_lt rfl (fun z => absurd z (by decide)) (fun _ => ?_)
        refine tw_aload rfl rfl ?_
        refine tw_getS rfl (tF_same f1100) ?_
        refine tw_push rfl ?_
        refine tw_ic_ge rfl (fun q1101 => ?_) (fun q1101 => ?_)
        · try dsimp only [tvI_i, tvJ_j, tvR_r] at q1101
          exact absurd q1101 (by omega)
        · try dsimp only [tvI_i, tvJ_j, tvR_r] at q1101
          refine tw_aload rfl rfl ?_
          refine tw_getS rfl (hs_44_0 (hw_44_1 f1100 (tSh_SA (hw_44_1 f1097 (tSh_SA (hw_44_1 f1094 (tSh_SA hs))))))) ?_
          refine tw_aload rfl rfl ?_
          refine tw_getS rfl (tF_same f1100) ?_
          refine tw_iload rfl rfl ?_
          refine tw_iload rfl rfl ?_
          refine tw_ishr rfl ?_
          refine tw_i2b rfl ?_
          refine tw_bast rfl (fun kf1102 zf1102 f1102 => ?_)
          rw [bst_k (by rw [tK_tSF]; exact (by rw [tK_tSA]; exact (by rw [tK_tSF]; exact (by rw [tK_tSA]; exact (by rw [tK_tSF]; exact (by rw [tK_tSA]; exact hk)))))) f1102]
          refine tw_aload rfl rfl ?_
          refine tw_dup rfl ?_
          refine tw_getS rfl (tF_a (tF_same f1100)) ?_
          refine tw_push rfl ?_
          refine tw_iadd rfl ?_
          refine tw_put rfl (fun f1103 => ?_)
          refine tw_iinc rfl rfl ?_
          refine tw_goto rfl ?_
          refine tw_iload rfl rfl ?_
          refine tw_if_lt rfl (fun _ => ?_) (fun z => absurd z (by decide))
          exact tw_vret rfl ⟨rfl, (hw_44_1 f1103 (tSh_SA (hw_44_1 f1100 (tSh_SA (hw_44_1 f1097 (tSh_SA (hw_44_1 f1094 (tSh_SA hs)))))))), (tF_same f1103), (tA_ff (tA_st f1102 (tA_ff (tA_st f1099 (tA_ff (tA_st f1096 (tA_ff (tA_st f1093 rfl)))))))), (by rw [tK_tSF]; exact (by rw [tK_tSA]; exact (by rw [tK_tSF]; exact (by rw [tK_tSA]; exact (by rw [tK_tSF]; exact (by rw [tK_tSA]; exact (by rw [tK_tSF]; exact (by rw [tK_tSA]; exact hk))))))))⟩
theorem g_put {G : zG} (hG : G.1 = zProg) {h : zH} {x : Int32} (hs : tSh h) (hk : tK h 132 = 2) (hl : 0 ≤ (tvI (tF h 111 27)).toInt ∧ (tvI (tF h 111 27)).toInt ≤ 396) : tC zTt G 197 [.ref 111, .int x] h (fun w h2 => w = none ∧ tSh h2 ∧ tF h2 111 27 = .int (z4 (tvI (tF h 111 27))) ∧ tA h2 132 = f4 (tA h 132) (tvI (tF h 111 27)) x ∧ tK h2 132 = 2) := by
  refine tC_in (by rw [hG]; rfl) (fun dp => ?_)
  have e0 : (tvI (tF h 111 27)).toInt = (tvI (tF h 111 27)).toInt := rfl
  have e1 := zi1n e0 (by omega)
  have e2 := zi1n e1 (by omega)
  have e3 := zi1n e2 (by omega)
  have h4 : (400 : Int32).toInt = 400 := rfl
  refine tw_push rfl ?_
  refine tw_istore rfl ?_
  refine tw_iload rfl rfl ?_
  refine tw_if_lt rfl (fun z => absurd z (by decide)) (fun _ => ?_)
  refine tw_aload rfl rfl ?_
  refine tw_getS rfl (hs_111_35 hs) ?_
  refine tw_aload rfl rfl ?_
  refine tw_getS rfl (hi_111_27 hs) ?_
  refine tw_iload rfl rfl ?_
  refine tw_iload rfl rfl ?_
  refine tw_ishr rfl ?_
  refine tw_i2b rfl ?_
  refine tw_bast rfl (fun kf1104 zf1104 f1104 => ?_)
  rw [bst_k hk f1104]
  refine tw_aload rfl rfl ?_
  refine tw_dup rfl ?_
  refine tw_getS rfl (tF_a (hi_111_27 hs)) ?_
  refine tw_push rfl ?_
  refine tw_iadd rfl ?_
  refine tw_put rfl (fun f1105 => ?_)
  refine tw_iinc rfl rfl ?_
  refine tw_goto rfl ?_
  refine tw_iload rfl rfl ?_
  refine tw_if_lt rfl (fun z => absurd z (by decide)) (fun _ => ?_)
  refine tw_aload rfl rfl ?_
  refine tw_getS rfl (hs_111_35 (hw_111_27 f1105 (tSh_SA hs))) ?_
  refine tw_aload rfl rfl ?_
  refine tw_getS rfl (tF_same f1105) ?_
  refine tw_iload rfl rfl ?_
  refine tw_iload rfl rfl ?_
  refine tw_ishr rfl ?_
  refine tw_i2b rfl ?_
  refine tw_bast rfl (fun kf1106 zf1106 f1106 => ?_)
  rw [bst_k (by rw [tK_tSF]; exact (by rw [tK_tSA]; exact hk)) f1106]
  refine tw_aload rfl rfl ?_
  refine tw_dup rfl ?_
  refine tw_getS rfl (tF_a (tF_same f1105)) ?_
  refine tw_push rfl ?_
  refine tw_iadd rfl ?_
  refine tw_put rfl (fun f1107 => ?_)
  refine tw_iinc rfl rfl ?_
  refine tw_goto rfl ?_
  refine tw_iload rfl rfl ?_
  refine tw_if_lt rfl (fun z => absurd z (by decide)) (fun _ => ?_)
  refine tw_aload rfl rfl ?_
  refine tw_getS rfl (hs_111_35 (hw_111_27 f1107 (tSh_SA (hw_111_27 f1105 (tSh_SA hs))))) ?_
  refine tw_aload rfl rfl ?_
  refine tw_getS rfl (tF_same f1107) ?_
  refine tw_iload rfl rfl ?_
  refine tw_iload rfl rfl ?_
  refine tw_ishr rfl ?_
  refine tw_i2b rfl ?_
  refine tw_bast rfl (fun kf1108 zf1108 f1108 => ?_)
  rw [bst_k (by rw [tK_tSF]; exact (by rw [tK_tSA]; exact (by rw [tK_tSF]; exact (by rw [tK_tSA]; exact hk)))) f1108]
  refine tw_aload rfl rfl ?_
  refine tw_dup rfl ?_
  refine tw_getS rfl (tF_a (tF_same f1107)) ?_
  refine tw_push rfl ?_
  refine tw_iadd rfl ?_
  refine tw_put rfl (fun f1109 => ?_)
  refine tw_iinc rfl rfl ?_
  refine tw_goto rfl ?_
  refine tw_iload rfl rfl ?_
  refine tw_if_lt rfl (fun z => absurd z (by decide)) (fun _ => ?_)
  refine tw_aload rfl rfl ?_
  refine tw_getS rfl (hs_111_35 (hw_111_27 f1109 (tSh_SA (hw_111_27 f1107 (tSh_SA (hw_111_27 f1105 (tSh_SA hs))))))) ?_
  refine tw_aload rfl rfl ?_
  refine tw_getS rfl (tF_same f1109) ?_
  refine tw_iload rfl rfl ?_
  refine tw_iload rfl rfl ?_
  refine tw_ishr rfl ?_
  refine tw_i2b rfl ?_
  refine tw_bast rfl (fun kf1110 zf1110 f1110 => ?_)
  rw [bst_k (by rw [tK_tSF]; exact (by rw [tK_tSA]; exact (by rw [tK_tSF]; exact (by rw [tK_tSA]; exact (by rw [tK_tSF]; exact (by rw [tK_tSA]; exact hk)))))) f1110]
  refine tw_aload rfl rfl ?_
  refine tw_dup rfl ?_
  refine tw_getS rfl (tF_a (tF_same f1109)) ?_
  refine tw_push rfl ?_
  refine tw_iadd rfl ?_
  refine tw_put rfl (fun f1111 => ?_)
  refine tw_iinc rfl rfl ?_
  refine tw_goto rfl ?_
  refine tw_iload rfl rfl ?_
  refine tw_if_lt rfl (fun _ => ?_) (fun z => absurd z (by decide))
  exact tw_vret rfl ⟨rfl, (hw_111_27 f1111 (tSh_SA (hw_111_27 f1109 (tSh_SA (hw_111_27 f1107 (tSh_SA (hw_111_27 f1105 (tSh_SA hs)))))))), (tF_same f1111), (tA_ff (tA_st f1110 (tA_ff (tA_st f1108 (tA_ff (tA_st f1106 (tA_ff (tA_st f1104 rfl)))))))), (by rw [tK_tSF]; exact (by rw [tK_tSA]; exact (by rw [tK_tSF]; exact (by rw [tK_tSA]; exact (by rw [tK_tSF]; exact (by rw [tK_tSA]; exact (by rw [tK_tSF]; exact (by rw [tK_tSA]; exact hk))))))))⟩
theorem f_hasRoom {G : zG} (hG : G.1 = zProg) {h : zH} {n : Int32} (hs : tSh h) : tC zTt G 72 [.ref 44, .int n] h (fun w h2 => tBo ((tvI (tF h 44 1) + n).toInt ≤ 400) w ∧ h2 = h) := by
  refine tC_in (by rw [hG]; rfl) (fun dp => ?_)
  have h4 : (400 : Int32).toInt = 400 := rfl
  refine tw_aload rfl rfl ?_
  refine tw_getS rfl (hi_44_1 hs) ?_
  refine tw_iload rfl rfl ?_
  refine tw_iadd rfl ?_
  refine tw_push rfl ?_
  refine tw_ic_gt rfl (fun q1112 => ?_) (fun q1112 => ?_)
  · try dsimp only [tvI_i, tvJ_j, tvR_r] at q1112
    refine tw_push rfl ?_
    exact tw_iret rfl ⟨Or.inr ⟨by omega, rfl⟩, rfl⟩
  · try dsimp only [tvI_i, tvJ_j, tvR_r] at q1112
    refine tw_push rfl ?_
    refine tw_goto rfl ?_
    exact tw_iret rfl ⟨Or.inl ⟨by omega, rfl⟩, rfl⟩
theorem f_feed {G : zG} (hG : G.1 = zProg) {h : zH} {a b c d e : Int32} (hs : tSh h) (hk : tK h 45 = 2) (hl : 0 ≤ (tvI (tF h 44 1)).toInt ∧ (tvI (tF h 44 1)).toInt ≤ 400) : tC zTt G 122 [.ref 0, .int a, .int b, .int c, .int d, .int e] h (fun w h2 => ((tvI (tF h 44 1)).toInt ≤ 380 ∧ w = some (.int (z20 (tvI (tF h 44 1)))) ∧ tF h2 44 1 = .int (z20 (tvI (tF h 44 1))) ∧ tA h2 45 = f20 (tA h 45) (tvI (tF h 44 1)) a b c d e) ∨ (¬ (tvI (tF h 44 1)).toInt ≤ 380 ∧ w = some (.int (-1)) ∧ h2 = h)) := by
  refine tC_in (by rw [hG]; rfl) (fun dp => ?_)
  have n0 : (tvI (tF h 44 1)).toInt = (tvI (tF h 44 1)).toInt := rfl
  have n20 := z20n (x := tvI (tF h 44 1)) (by omega)
  have h4 : (400 : Int32).toInt = 400 := rfl
  have n1 : (tvI (tF h 44 1)).toInt ≤ 380 → (z4 (tvI (tF h 44 1))).toInt = (tvI (tF h 44 1)).toInt + 4 := fun z => z4n n0 (by omega)
  have n2 : (tvI (tF h 44 1)).toInt ≤ 380 → (z4 (z4 (tvI (tF h 44 1)))).toInt = (tvI (tF h 44 1)).toInt + 8 := fun z => (z4n (n1 z) (by omega)).trans (by omega)
  have n3 : (tvI (tF h 44 1)).toInt ≤ 380 → (z4 (z4 (z4 (tvI (tF h 44 1))))).toInt = (tvI (tF h 44 1)).toInt + 12 := fun z => (z4n (n2 z) (by omega)).trans (by omega)
  have n4 : (tvI (tF h 44 1)).toInt ≤ 380 → (z4 (z4 (z4 (z4 (tvI (tF h 44 1)))))).toInt = (tvI (tF h 44 1)).toInt + 16 := fun z => (z4n (n3 z) (by omega)).trans (by omega)
  have n5 : (tvI (tF h 44 1)).toInt ≤ 380 → (z4 (z4 (z4 (z4 (z4 (tvI (tF h 44 1))))))).toInt = (tvI (tF h 44 1)).toInt + 20 := fun z => (z4n (n4 z) (by omega)).trans (by omega)
  refine tw_aload rfl rfl ?_
  refine tw_getS rfl (hs_0_2 hs) ?_
  refine tw_push rfl ?_
  refine tw_virt1 rfl (f_hasRoom hG hs) (fun w9 h9 p1113 => ?_)
  obtain ⟨⟨p1113, rfl⟩ | ⟨p1113, rfl⟩, rfl⟩ := p1113
  · try dsimp only [tvI_i, tvJ_j, tvR_r] at p1113
    refine tw_if_ne rfl (fun _ => ?_) (fun z => absurd z (by decide))
    refine tw_aload rfl rfl ?_
    refine tw_getS rfl (hs_0_2 hs) ?_
    refine tw_iload rfl rfl ?_
    refine tw_virt1 rfl (f_put hG hs hk (by omega)) (fun wp1114 hp1114 p1114 => ?_)
    obtain ⟨rfl, sp1114, lp1114, tp1114, kp1114⟩ := p1114
    refine tw_aload rfl rfl ?_
    refine tw_getS rfl (hs_0_2 sp1114) ?_
    refine tw_iload rfl rfl ?_
    refine tw_virt1 rfl (f_put hG sp1114 kp1114 (by rw [lp1114, tvI_i, n1 (by omega)]; omega)) (fun wp1115 hp1115 p1115 => ?_)
    obtain ⟨rfl, sp1115, lp1115, tp1115, kp1115⟩ := p1115
    rw [lp1114, tp1114] at tp1115
    rw [lp1114] at lp1115
    rw [tvI_i] at lp1115 tp1115
    refine tw_aload rfl rfl ?_
    refine tw_getS rfl (hs_0_2 sp1115) ?_
    refine tw_iload rfl rfl ?_
    refine tw_virt1 rfl (f_put hG sp1115 kp1115 (by rw [lp1115, tvI_i, n2 (by omega)]; omega)) (fun wp1116 hp1116 p1116 => ?_)
    obtain ⟨rfl, sp1116, lp1116, tp1116, kp1116⟩ := p1116
    rw [lp1115, tp1115] at tp1116
    rw [lp1115] at lp1116
    rw [tvI_i] at lp1116 tp1116
    refine tw_aload rfl rfl ?_
    refine tw_getS rfl (hs_0_2 sp1116) ?_
    refine tw_iload rfl rfl ?_
    refine tw_virt1 rfl (f_put hG sp1116 kp1116 (by rw [lp1116, tvI_i, n3 (by omega)]; omega)) (fun wp1117 hp1117 p1117 => ?_)
    obtain ⟨rfl, sp1117, lp1117, tp1117, kp1117⟩ := p1117
    rw [lp1116, tp1116] at tp1117
    rw [lp1116] at lp1117
    rw [tvI_i] at lp1117 tp1117
    refine tw_aload rfl rfl ?_
    refine tw_getS rfl (hs_0_2 sp1117) ?_
    refine tw_iload rfl rfl ?_
    refine tw_virt1 rfl (f_put hG sp1117 kp1117 (by rw [lp1117, tvI_i, n4 (by omega)]; omega)) (fun wp1118 hp1118 p1118 => ?_)
    obtain ⟨rfl, sp1118, lp1118, tp1118, kp1118⟩ := p1118
    rw [lp1117, tp1117] at tp1118
    rw [lp1117] at lp1118
    rw [tvI_i] at lp1118 tp1118
    refine tw_aload rfl rfl ?_
    refine tw_getS rfl (hs_0_2 sp1118) ?_
    refine tw_getS rfl (hi_44_1 sp1118) ?_
    exact tw_iret rfl (Or.inl ⟨by omega, by rw [lp1118]; rfl, lp1118, tp1118⟩)
  · try dsimp only [tvI_i, tvJ_j, tvR_r] at p1113
    refine tw_if_ne rfl (fun z => absurd z (by decide)) (fun _ => ?_)
    refine tw_push rfl ?_
    exact tw_iret rfl (Or.inr ⟨by omega, rfl, rfl⟩)
theorem g_feed {G : zG} (hG : G.1 = zProg) {h : zH} {a b c d e : Int32} (hs : tSh h) (hk : tK h 132 = 2) (hl : 0 ≤ (tvI (tF h 111 27)).toInt ∧ (tvI (tF h 111 27)).toInt ≤ 400) : tC zTt G 196 [.ref 111, .int a, .int b, .int c, .int d, .int e] h (fun w h2 => ((tvI (tF h 111 27)).toInt ≤ 380 ∧ w = some (.int (z20 (tvI (tF h 111 27)))) ∧ tF h2 111 27 = .int (z20 (tvI (tF h 111 27))) ∧ tA h2 132 = f20 (tA h 132) (tvI (tF h 111 27)) a b c d e) ∨ (¬ (tvI (tF h 111 27)).toInt ≤ 380 ∧ w = some (.int (-1)) ∧ h2 = h)) := by
  refine tC_in (by rw [hG]; rfl) (fun dp => ?_)
  have n0 : (tvI (tF h 111 27)).toInt = (tvI (tF h 111 27)).toInt := rfl
  have n20 := z20n (x := tvI (tF h 111 27)) (by omega)
  have h4 : (400 : Int32).toInt = 400 := rfl
  have n1 : (tvI (tF h 111 27)).toInt ≤ 380 → (z4 (tvI (tF h 111 27))).toInt = (tvI (tF h 111 27)).toInt + 4 := fun z => z4n n0 (by omega)
  have n2 : (tvI (tF h 111 27)).toInt ≤ 380 → (z4 (z4 (tvI (tF h 111 27)))).toInt = (tvI (tF h 111 27)).toInt + 8 := fun z => (z4n (n1 z) (by omega)).trans (by omega)
  have n3 : (tvI (tF h 111 27)).toInt ≤ 380 → (z4 (z4 (z4 (tvI (tF h 111 27))))).toInt = (tvI (tF h 111 27)).toInt + 12 := fun z => (z4n (n2 z) (by omega)).trans (by omega)
  have n4 : (tvI (tF h 111 27)).toInt ≤ 380 → (z4 (z4 (z4 (z4 (tvI (tF h 111 27)))))).toInt = (tvI (tF h 111 27)).toInt + 16 := fun z => (z4n (n3 z) (by omega)).trans (by omega)
  have n5 : (tvI (tF h 111 27)).toInt ≤ 380 → (z4 (z4 (z4 (z4 (z4 (tvI (tF h 111 27))))))).toInt = (tvI (tF h 111 27)).toInt + 20 := fun z => (z4n (n4 z) (by omega)).trans (by omega)
  refine tw_aload rfl rfl ?_
  refine tw_getS rfl (hi_111_27 hs) ?_
  refine tw_push rfl ?_
  refine tw_iadd rfl ?_
  refine tw_push rfl ?_
  refine tw_ic_le rfl (fun q1119 => ?_) (fun q1119 => ?_)
  · try dsimp only [tvI_i, tvJ_j, tvR_r] at q1119
    refine tw_aload rfl rfl ?_
    refine tw_iload rfl rfl ?_
    refine tw_virt1 rfl (g_put hG hs hk (by omega)) (fun wp1120 hp1120 p1120 => ?_)
    obtain ⟨rfl, sp1120, lp1120, tp1120, kp1120⟩ := p1120
    refine tw_aload rfl rfl ?_
    refine tw_iload rfl rfl ?_
    refine tw_virt1 rfl (g_put hG sp1120 kp1120 (by rw [lp1120, tvI_i, n1 (by omega)]; omega)) (fun wp1121 hp1121 p1121 => ?_)
    obtain ⟨rfl, sp1121, lp1121, tp1121, kp1121⟩ := p1121
    rw [lp1120, tp1120] at tp1121
    rw [lp1120] at lp1121
    rw [tvI_i] at lp1121 tp1121
    refine tw_aload rfl rfl ?_
    refine tw_iload rfl rfl ?_
    refine tw_virt1 rfl (g_put hG sp1121 kp1121 (by rw [lp1121, tvI_i, n2 (by omega)]; omega)) (fun wp1122 hp1122 p1122 => ?_)
    obtain ⟨rfl, sp1122, lp1122, tp1122, kp1122⟩ := p1122
    rw [lp1121, tp1121] at tp1122
    rw [lp1121] at lp1122
    rw [tvI_i] at lp1122 tp1122
    refine tw_aload rfl rfl ?_
    refine tw_iload rfl rfl ?_
    refine tw_virt1 rfl (g_put hG sp1122 kp1122 (by rw [lp1122, tvI_i, n3 (by omega)]; omega)) (fun wp1123 hp1123 p1123 => ?_)
    obtain ⟨rfl, sp1123, lp1123, tp1123, kp1123⟩ := p1123
    rw [lp1122, tp1122] at tp1123
    rw [lp1122] at lp1123
    rw [tvI_i] at lp1123 tp1123
    refine tw_aload rfl rfl ?_
    refine tw_iload rfl rfl ?_
    refine tw_virt1 rfl (g_put hG sp1123 kp1123 (by rw [lp1123, tvI_i, n4 (by omega)]; omega)) (fun wp1124 hp1124 p1124 => ?_)
    obtain ⟨rfl, sp1124, lp1124, tp1124, kp1124⟩ := p1124
    rw [lp1123, tp1123] at tp1124
    rw [lp1123] at lp1124
    rw [tvI_i] at lp1124 tp1124
    refine tw_aload rfl rfl ?_
    refine tw_getS rfl (hi_111_27 sp1124) ?_
    exact tw_iret rfl (Or.inl ⟨by omega, by rw [lp1124]; rfl, lp1124, tp1124⟩)
  · try dsimp only [tvI_i, tvJ_j, tvR_r] at q1119
    refine tw_push rfl ?_
    exact tw_iret rfl (Or.inr ⟨by omega, rfl, rfl⟩)
theorem a_feed {a b c d e : Int32} {h h2 h3 : zH} {w w2 : Option Value} (hL : R_tlen h) (hT : R_tape h) (e1 : tF h2 111 27 = tF h 111 27) (o1 : tA h2 132 = tA h 132) (e2 : tF h3 44 1 = tF h2 44 1) (t1 : tA h3 45 = tA h2 45) (k1 : (fun a b c d e h w h2 => ((tvI (tF h 44 1)).toInt ≤ 380 ∧ w = some (.int (z20 (tvI (tF h 44 1)))) ∧ tF h2 44 1 = .int (z20 (tvI (tF h 44 1))) ∧ tA h2 45 = f20 (tA h 45) (tvI (tF h 44 1)) a b c d e) ∨ (¬ (tvI (tF h 44 1)).toInt ≤ 380 ∧ w = some (.int (-1)) ∧ h2 = h)) a b c d e h w h2) (k2 : (fun a b c d e h w h2 => ((tvI (tF h 111 27)).toInt ≤ 380 ∧ w = some (.int (z20 (tvI (tF h 111 27)))) ∧ tF h2 111 27 = .int (z20 (tvI (tF h 111 27))) ∧ tA h2 132 = f20 (tA h 132) (tvI (tF h 111 27)) a b c d e) ∨ (¬ (tvI (tF h 111 27)).toInt ≤ 380 ∧ w = some (.int (-1)) ∧ h2 = h)) a b c d e h2 w2 h3) : w2 = w ∧ R_tlen h3 ∧ R_tape h3 := by
  try dsimp only at k1 k2
  unfold R_tlen R_tape at *
  rw [e1, o1, ← hL, ← hT] at k2
  rcases k1 with ⟨c1, rfl, f1, g1⟩ | ⟨c1, rfl, rfl⟩ <;> rcases k2 with ⟨c2, rfl, f2, g2⟩ | ⟨c2, rfl, rfl⟩
  · exact ⟨rfl, by rw [e2, f1, f2], by rw [t1, g1, g2]⟩
  · exact absurd c1 c2
  · exact absurd c2 c1
  · exact ⟨rfl, hL, hT⟩
theorem f_cutTo {G : zG} (hG : G.1 = zProg) {h : zH} {n : Int32} (hs : tSh h) : tC zTt G 74 [.ref 44, .int n] h (fun w h2 => w = some (.int n) ∧ tF h2 44 1 = .int n) := by
  refine tC_in (by rw [hG]; rfl) (fun dp => ?_)
  refine tw_aload rfl rfl ?_
  refine tw_iload rfl rfl ?_
  refine tw_put rfl (fun f1125 => ?_)
  refine tw_iload rfl rfl ?_
  exact tw_iret rfl ⟨rfl, (tF_same f1125)⟩
theorem f_end {G : zG} (hG : G.1 = zProg) {h : zH} {n : Int32} (hs : tSh h) : tC zTt G 123 [.ref 0, .int n] h (fun w h2 => (fun n h w h2 => ((0 ≤ n.toInt ∧ n.toInt ≤ (tvI (tF h 44 1)).toInt) ∧ w = some (.int n) ∧ tF h2 44 1 = .int n) ∨ (¬ (0 ≤ n.toInt ∧ n.toInt ≤ (tvI (tF h 44 1)).toInt) ∧ w = some (.int (-1)) ∧ h2 = h)) n h w h2) := by
  refine tC_in (by rw [hG]; rfl) (fun dp => ?_)
  refine tw_iload rfl rfl ?_
  refine tw_push rfl ?_
  refine tw_aload rfl rfl ?_
  refine tw_getS rfl (hs_0_2 hs) ?_
  refine tw_getS rfl (hi_44_1 hs) ?_
  refine tw_stat3 rfl (f_isWithin hG (LO := 0)  (by decide) rfl) (fun w9 h9 p1126 => ?_)
  obtain ⟨⟨p1126, rfl⟩ | ⟨p1126, rfl⟩, rfl⟩ := p1126
  · try dsimp only [tvI_i, tvJ_j, tvR_r] at p1126
    refine tw_if_eq rfl (fun z => absurd z (by decide)) (fun _ => ?_)
    refine tw_aload rfl rfl ?_
    refine tw_getS rfl (hs_0_2 hs) ?_
    refine tw_iload rfl rfl ?_
    refine tw_virt1 rfl (f_cutTo hG hs) (fun wp1127 hp1127 p1127 => ?_)
    obtain ⟨rfl, lp1127⟩ := p1127
    refine tw_goto rfl ?_
    exact tw_iret rfl (Or.inl ⟨by omega, rfl, lp1127⟩)
  · try dsimp only [tvI_i, tvJ_j, tvR_r] at p1126
    refine tw_if_eq rfl (fun _ => ?_) (fun z => absurd z (by decide))
    refine tw_push rfl ?_
    exact tw_iret rfl (Or.inr ⟨by omega, rfl, rfl⟩)
theorem g_end {G : zG} (hG : G.1 = zProg) {h : zH} {n : Int32} (hs : tSh h) : tC zTt G 198 [.ref 111, .int n] h (fun w h2 => (fun n h w h2 => ((0 ≤ n.toInt ∧ n.toInt ≤ (tvI (tF h 111 27)).toInt) ∧ w = some (.int n) ∧ tF h2 111 27 = .int n) ∨ (¬ (0 ≤ n.toInt ∧ n.toInt ≤ (tvI (tF h 111 27)).toInt) ∧ w = some (.int (-1)) ∧ h2 = h)) n h w h2) := by
  refine tC_in (by rw [hG]; rfl) (fun dp => ?_)
  refine tw_iload rfl rfl ?_
  refine tw_if_lt rfl (fun q1128 => ?_) (fun q1128 => ?_)
  · try dsimp only [tvI_i, tvJ_j, tvR_r] at q1128
    refine tw_push rfl ?_
    exact tw_iret rfl (Or.inr ⟨by omega, rfl, rfl⟩)
  · try dsimp only [tvI_i, tvJ_j, tvR_r] at q1128
    refine tw_iload rfl rfl ?_
    refine tw_aload rfl rfl ?_
    refine tw_getS rfl (hi_111_27 hs) ?_
    refine tw_ic_le rfl (fun q1129 => ?_) (fun q1129 => ?_)
    · try dsimp only [tvI_i, tvJ_j, tvR_r] at q1129
      refine tw_aload rfl rfl ?_
      refine tw_iload rfl rfl ?_
      refine tw_put rfl (fun f1130 => ?_)
      refine tw_iload rfl rfl ?_
      exact tw_iret rfl (Or.inl ⟨by omega, rfl, (tF_same f1130)⟩)
    · try dsimp only [tvI_i, tvJ_j, tvR_r] at q1129
      refine tw_push rfl ?_
      exact tw_iret rfl (Or.inr ⟨by omega, rfl, rfl⟩)
theorem a_end {n : Int32} {h h2 h3 : zH} {w w2 : Option Value} (hL : R_tlen h) (e1 : tF h2 111 27 = tF h 111 27) (e2 : tF h3 44 1 = tF h2 44 1) (k1 : (fun n h w h2 => ((0 ≤ n.toInt ∧ n.toInt ≤ (tvI (tF h 44 1)).toInt) ∧ w = some (.int n) ∧ tF h2 44 1 = .int n) ∨ (¬ (0 ≤ n.toInt ∧ n.toInt ≤ (tvI (tF h 44 1)).toInt) ∧ w = some (.int (-1)) ∧ h2 = h)) n h w h2) (k2 : (fun n h w h2 => ((0 ≤ n.toInt ∧ n.toInt ≤ (tvI (tF h 111 27)).toInt) ∧ w = some (.int n) ∧ tF h2 111 27 = .int n) ∨ (¬ (0 ≤ n.toInt ∧ n.toInt ≤ (tvI (tF h 111 27)).toInt) ∧ w = some (.int (-1)) ∧ h2 = h)) n h2 w2 h3) : w2 = w ∧ R_tlen h3 := by
  try dsimp only at k1 k2
  unfold R_tlen at *
  rw [e1, ← hL] at k2
  rcases k1 with ⟨c1, rfl, f1⟩ | ⟨c1, rfl, rfl⟩ <;> rcases k2 with ⟨c2, rfl, f2⟩ | ⟨c2, rfl, rfl⟩
  · exact ⟨rfl, by rw [e2, f1, f2]⟩
  · exact absurd c1 c2
  · exact absurd c2 c1
  · exact ⟨rfl, hL⟩
