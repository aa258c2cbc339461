/-! what is answered: small helpers -/
def tBo (P : Prop) (w : Option Value) : Prop := (P ∧ w = some (.int 1)) ∨ (¬ P ∧ w = some (.int 0))
theorem tBo_i {P R : Prop} {w : Option Value} (e : P ↔ R) (k : tBo P w) : tBo R w := k.imp (fun z => ⟨e.mp z.1, z.2⟩) (fun z => ⟨fun y => z.1 (e.mpr y), z.2⟩)
theorem zpB_c {b : Int × Int} {r : List (Int × Int)} {xs : List Int32} (h : zpB (b :: r) xs) : ∃ x ys, xs = x :: ys ∧ (b.1 ≤ x.toInt ∧ x.toInt ≤ b.2) ∧ zpB r ys := by
  obtain ⟨lo, hi⟩ := b
  cases xs with
  | nil => exact h.elim
  | cons x ys => exact ⟨x, ys, rfl, h.1, h.2⟩
theorem zpB_n {xs : List Int32} (h : zpB [] xs) : xs = [] := by
  cases xs with
  | nil => rfl
  | cons x ys => exact h.elim
theorem zclx {x : Int32} (h : 0 ≤ x.toInt) : (x.toNatClampNeg : Int) = x.toInt := by
  show ((x.toInt.toNat : Nat) : Int) = _
  omega
theorem zclE {x : Int32} : x.toNatClampNeg = x.toInt.toNat := rfl
theorem zeqi {x y : Int32} {Y : Int} (hy : y.toInt = Y) (h : x = y) : x.toInt = Y := by rw [h]; exact hy
theorem zneq {x y : Int32} {Y : Int} (hy : y.toInt = Y) (h : ¬ x = y) : x.toInt ≠ Y := fun z => h (Int32.toInt_inj.mp (z.trans hy.symm))
theorem zdec {x : Int32} (h : 0 ≤ x.toInt) : (x - 1).toInt = x.toInt - 1 := by
  have := Int32.toInt_lt x
  rw [Int32.toInt_sub]
  exact Int.bmod_eq_of_le (by show (-2147483648 : Int) ≤ x.toInt - 1; omega) (by show x.toInt - 1 < (2147483648 : Int); omega)
def tRwl : List (Nat × Nat) := [(4, 5), (14, 15), (27, 28), (97, 98)]
def tRw (h : zH) : Prop := ∀ q ∈ tRwl, ∀ i, i < tN h q.1 → tO h q.1 i = some (q.2 + i)
theorem tRw_A {h : zH} {r i : Nat} {x : Int32} (k : tRw h) : tRw (tSA h r i x) := by unfold tRw; rw [tO_tSA, tN_tSA]; exact k
theorem tRw_J {h : zH} {r i : Nat} {x : Int64} (k : tRw h) : tRw (tSJ h r i x) := by unfold tRw; rw [tO_tSJ, tN_tSJ]; exact k
theorem tRw_F {h : zH} {r b : Nat} {w : Value} (k : tRw h) : tRw (tSF h r b w) := by unfold tRw; rw [tO_tSF, tN_tSF]; exact k
theorem tRw_at {h : zH} (k : tRw h) {p q : Nat} (hm : (p, q) ∈ tRwl) {i : Int32} (z : tInO h p i) : zrf (tO h p i.toNatClampNeg) = .ref (q + i.toNatClampNeg) := by
  rw [k (p, q) hm _ z.rg.2]
  rfl
theorem tfr_N {xs : Nat → Int32} {τ : List Nat} {h h2 : zH} {W : Nat → Nat → Bool} {p t : Nat} (hB : zBs xs τ h) (hf : yFr W τ h h2) (ht : zTG[p]? = some t) : tN h2 p = tN h p := by
  obtain ⟨ct, c, a1, a2, -⟩ := hB.1.2 _ _ (hB.2.1 _ _ ht)
  obtain ⟨c2, b1, b2⟩ := hf _ _ _ (hB.2.1 _ _ ht) a2
  unfold tN
  rw [a2, b1]
  match c, c2, b2 with
  | .inr (x, fs), .inr (y, gs), b2 => rfl
  | .inl (k, N, x), .inl (k2, N2, y), b2 => exact b2.2.1.symm
/-- a count: what is told is the next of so many, or none -/
def phN (p b : Nat) (C : Prop) (h : zH) (w : Option Value) (h2 : zH) : Prop := (C ∧ w = some (tF h p b) ∧ tF h2 p b = .int (tvI (tF h p b) + 1)) ∨ (¬ C ∧ w = some (.int (-1)) ∧ tF h2 p b = tF h p b)
theorem phN_a {p b q c : Nat} {C D : Prop} {h h2 h3 : zH} {w w2 : Option Value} (hR : tF h p b = tF h q c) (e1 : tF h2 q c = tF h q c) (e2 : tF h3 p b = tF h2 p b) (hCD : C ↔ D) (k1 : phN p b C h w h2) (k2 : phN q c D h2 w2 h3) : w2 = w ∧ tF h3 p b = tF h3 q c := by
  rcases k1 with ⟨c1, rfl, f1⟩ | ⟨c1, rfl, f1⟩ <;> rcases k2 with ⟨c2, rfl, f2⟩ | ⟨c2, rfl, f2⟩
  · rw [e2, f1, f2, e1, hR]
    exact ⟨rfl, rfl⟩
  · exact absurd (hCD.mp c1) c2
  · exact absurd (hCD.mpr c2) c1
  · rw [e2, f1, f2, e1, hR]
    exact ⟨rfl, rfl⟩
theorem zi1 {x : Int32} : x + 1 - 1 = x := Int32.add_sub_cancel x 1
def R_factor (h : zH) : Prop := ∀ i, i < 3 → tA h 2 i = tA h 113 i
theorem f_isWithin {G : zG} (hG : G.1 = zProg) {h : zH} {n lo hi : Int32} {LO HI : Int} (hlo : lo.toInt = LO) (hhi : hi.toInt = HI) : tC zTt G 158 [.int n, .int lo, .int hi] h (fun w h2 => tBo (LO ≤ n.toInt ∧ n.toInt ≤ HI) w ∧ h2 = h) := by
  refine tC_in (by rw [hG]; rfl) (fun dp => ?_)
  refine tw_iload rfl rfl ?_
  refine tw_iload rfl rfl ?_
  refine tw_ic_lt rfl (fun q1 => ?_) (fun q1 => ?_)
  · try dsimp only [tvI_i, tvJ_j, tvR_r] at q1
    refine tw_push rfl ?_
    exact tw_iret rfl ⟨Or.inr ⟨by omega, rfl⟩, rfl⟩
  · try dsimp only [tvI_i, tvJ_j, tvR_r] at q1
    refine tw_iload rfl rfl ?_
    refine tw_iload rfl rfl ?_
    refine tw_ic_gt rfl (fun q2 => ?_) (fun q2 => ?_)
    · try dsimp only [tvI_i, tvJ_j, tvR_r] at q2
      refine tw_push rfl ?_
      exact tw_iret rfl ⟨Or.inr ⟨by omega, rfl⟩, rfl⟩
    · try dsimp only [tvI_i, tvJ_j, tvR_r] at q2
      refine tw_push rfl ?_
      refine tw_goto rfl ?_
      exact tw_iret rfl ⟨Or.inl ⟨by omega, rfl⟩, rfl⟩
theorem f_isSort {G : zG} (hG : G.1 = zProg) {h : zH} {n : Int32} : tC zTt G 161 [.int n] h (fun w h2 => tBo (0 ≤ n.toInt ∧ n.toInt ≤ 2) w ∧ h2 = h) := by
  refine tC_in (by rw [hG]; rfl) (fun dp => ?_)
  refine tw_iload rfl rfl ?_
  refine tw_push rfl ?_
  refine tw_push rfl ?_
  refine tw_stat3 rfl (f_isWithin hG (LO := 0) (HI := 2) (by decide) (by decide)) (fun w9 h9 p3 => ?_)
  obtain ⟨⟨p3, rfl⟩ | ⟨p3, rfl⟩, rfl⟩ := p3
  · try dsimp only [tvI_i, tvJ_j, tvR_r] at p3
    exact tw_iret rfl ⟨Or.inl ⟨p3, rfl⟩, rfl⟩
  · try dsimp only [tvI_i, tvJ_j, tvR_r] at p3
    exact tw_iret rfl ⟨Or.inr ⟨p3, rfl⟩, rfl⟩
theorem f_setFactor {G : zG} (hG : G.1 = zProg) {h : zH} {s n : Int32} (hs : tSh h) : tC zTt G 27 [.ref 1, .int s, .int n] h (fun w h2 => w = some (.int (tA h 2 s.toNatClampNeg)) ∧ h2 = tSA h 2 s.toNatClampNeg n ∧ tIn h 2 0 s) := by
  refine tC_in (by rw [hG]; rfl) (fun dp => ?_)
  refine tw_aload rfl rfl ?_
  refine tw_getS rfl (hs_1_0 hs) ?_
  refine tw_iload rfl rfl ?_
  refine tw_iald rfl (fun f4 => ?_)
  refine tw_istore rfl ?_
  refine tw_aload rfl rfl ?_
  refine tw_getS rfl (hs_1_0 hs) ?_
  refine tw_iload rfl rfl ?_
  refine tw_iload rfl rfl ?_
  refine tw_iast rfl (fun f5 => ?_)
  refine tw_iload rfl rfl ?_
  exact tw_iret rfl ⟨rfl, rfl, f5⟩
def ph_factor (p : Nat) (s n : Int32) (h : zH) (w : Option Value) (h2 : zH) : Prop := (((0 ≤ s.toInt ∧ s.toInt ≤ 2) ∧ (1 ≤ n.toInt ∧ n.toInt ≤ 999)) ∧ w = some (.int (tA h p s.toNatClampNeg)) ∧ h2 = tSA h p s.toNatClampNeg n ∧ tIn h p 0 s) ∨ (¬ ((0 ≤ s.toInt ∧ s.toInt ≤ 2) ∧ (1 ≤ n.toInt ∧ n.toInt ≤ 999)) ∧ w = some (.int (-1)) ∧ h2 = h)
theorem f_factor {G : zG} (hG : G.1 = zProg) {h : zH} {s n : Int32} (hs : tSh h) : tC zTt G 112 [.ref 0, .int s, .int n] h (ph_factor 2 s n h) := by
  refine tC_in (by rw [hG]; rfl) (fun dp => ?_)
  refine tw_iload rfl rfl ?_
  refine tw_stat1 rfl (f_isSort hG) (fun w9 h9 p6 => ?_)
  obtain ⟨⟨p6, rfl⟩ | ⟨p6, rfl⟩, rfl⟩ := p6
  · try dsimp only [tvI_i, tvJ_j, tvR_r] at p6
    refine tw_if_eq rfl (fun z => absurd z (by decide)) (fun _ => ?_)
    refine tw_iload rfl rfl ?_
    refine tw_push rfl ?_
    refine tw_push rfl ?_
    refine tw_stat3 rfl (f_isWithin hG (LO := 1) (HI := 999) (by decide) (by decide)) (fun w9 h9 p7 => ?_)
    obtain ⟨⟨p7, rfl⟩ | ⟨p7, rfl⟩, rfl⟩ := p7
    · try dsimp only [tvI_i, tvJ_j, tvR_r] at p7
      refine tw_if_eq rfl (fun z => absurd z (by decide)) (fun _ => ?_)
      refine tw_aload rfl rfl ?_
      refine tw_getS rfl (hs_0_0 hs) ?_
      refine tw_iload rfl rfl ?_
      refine tw_iload rfl rfl ?_
      refine tw_virt2 rfl (f_setFactor hG hs) (fun w9 h9 p8 => ?_)
      obtain ⟨rfl, rfl, p8f⟩ := p8
      refine tw_goto rfl ?_
      exact tw_iret rfl (Or.inl ⟨⟨by omega, by omega⟩, rfl, rfl, p8f⟩)
    · try dsimp only [tvI_i, tvJ_j, tvR_r] at p7
      refine tw_if_eq rfl (fun _ => ?_) (fun z => absurd z (by decide))
      refine tw_push rfl ?_
      exact tw_iret rfl (Or.inr ⟨by omega, rfl, rfl⟩)
  · try dsimp only [tvI_i, tvJ_j, tvR_r] at p6
    refine tw_if_eq rfl (fun _ => ?_) (fun z => absurd z (by decide))
    refine tw_push rfl ?_
    exact tw_iret rfl (Or.inr ⟨by omega, rfl, rfl⟩)
theorem f_in {G : zG} (hG : G.1 = zProg) {h : zH} {x lo hi : Int64} {X LO HI : Int} (hx : x.toInt = X) (hlo : lo.toInt = LO) (hhi : hi.toInt = HI) : tC zTt G 171 [.long x, .long lo, .long hi] h (fun w h2 => tBo (LO ≤ X ∧ X ≤ HI) w ∧ h2 = h) := by
  refine tC_in (by rw [hG]; rfl) (fun dp => ?_)
  refine tw_lload rfl rfl ?_
  refine tw_lload rfl rfl ?_
  refine tw_lc_lt rfl rfl (fun q9 => ?_) (fun q9 => ?_)
  · try dsimp only [tvI_i, tvJ_j, tvR_r] at q9
    refine tw_push rfl ?_
    exact tw_iret rfl ⟨Or.inr ⟨by omega, rfl⟩, rfl⟩
  · try dsimp only [tvI_i, tvJ_j, tvR_r] at q9
    refine tw_lload rfl rfl ?_
    refine tw_lload rfl rfl ?_
    refine tw_lc_gt rfl rfl (fun q10 => ?_) (fun q10 => ?_)
    · try dsimp only [tvI_i, tvJ_j, tvR_r] at q10
      refine tw_push rfl ?_
      exact tw_iret rfl ⟨Or.inr ⟨by omega, rfl⟩, rfl⟩
    · try dsimp only [tvI_i, tvJ_j, tvR_r] at q10
      refine tw_push rfl ?_
      refine tw_goto rfl ?_
      exact tw_iret rfl ⟨Or.inl ⟨by omega, rfl⟩, rfl⟩
theorem g_isSort {G : zG} (hG : G.1 = zProg) {h : zH} {n : Int32} : tC zTt G 173 [.int n] h (fun w h2 => tBo (0 ≤ n.toInt ∧ n.toInt ≤ 2) w ∧ h2 = h) := by
  refine tC_in (by rw [hG]; rfl) (fun dp => ?_)
  refine tw_iload rfl rfl ?_
  refine tw_i2l rfl ?_
  refine tw_push rfl ?_
  refine tw_push rfl ?_
  refine tw_stat3 rfl (f_in hG  (LO := 0) (HI := 2) (Int32.toInt_toInt64 _) (by decide) (by decide)) (fun w9 h9 p11 => ?_)
  obtain ⟨⟨p11, rfl⟩ | ⟨p11, rfl⟩, rfl⟩ := p11
  · try dsimp only [tvI_i, tvJ_j, tvR_r] at p11
    exact tw_iret rfl ⟨Or.inl ⟨p11, rfl⟩, rfl⟩
  · try dsimp only [tvI_i, tvJ_j, tvR_r] at p11
    exact tw_iret rfl ⟨Or.inr ⟨p11, rfl⟩, rfl⟩
theorem g_factor {G : zG} (hG : G.1 = zProg) {h : zH} {s n : Int32} (hs : tSh h) : tC zTt G 180 [.ref 111, .int s, .int n] h (ph_factor 113 s n h) := by
  refine tC_in (by rw [hG]; rfl) (fun dp => ?_)
  refine tw_iload rfl rfl ?_
  refine tw_stat1 rfl (g_isSort hG) (fun w9 h9 p12 => ?_)
  obtain ⟨⟨p12, rfl⟩ | ⟨p12, rfl⟩, rfl⟩ := p12
  · try dsimp only [tvI_i, tvJ_j, tvR_r] at p12
    refine tw_if_eq rfl (fun z => absurd z (by decide)) (fun _ => ?_)
    refine tw_iload rfl rfl ?_
    refine tw_i2l rfl ?_
    refine tw_push rfl ?_
    refine tw_push rfl ?_
    refine tw_stat3 rfl (f_in hG  (LO := 1) (HI := 999) (Int32.toInt_toInt64 _) (by decide) (by decide)) (fun w9 h9 p13 => ?_)
    obtain ⟨⟨p13, rfl⟩ | ⟨p13, rfl⟩, rfl⟩ := p13
    · try dsimp only [tvI_i, tvJ_j, tvR_r] at p13
      refine tw_if_ne rfl (fun _ => ?_) (fun z => absurd z (by decide))
      refine tw_aload rfl rfl ?_
      refine tw_getS rfl (hs_111_8 hs) ?_
      refine tw_iload rfl rfl ?_
      refine tw_iald rfl (fun f14 => ?_)
      refine tw_istore rfl ?_
      refine tw_aload rfl rfl ?_
      refine tw_getS rfl (hs_111_8 hs) ?_
      refine tw_iload rfl rfl ?_
      refine tw_iload rfl rfl ?_
      refine tw_iast rfl (fun f15 => ?_)
      refine tw_iload rfl rfl ?_
      exact tw_iret rfl (Or.inl ⟨⟨by omega, by omega⟩, rfl, rfl, f15⟩)
    · try dsimp only [tvI_i, tvJ_j, tvR_r] at p13
      refine tw_if_ne rfl (fun z => absurd z (by decide)) (fun _ => ?_)
      refine tw_push rfl ?_
      exact tw_iret rfl (Or.inr ⟨by omega, rfl, rfl⟩)
  · try dsimp only [tvI_i, tvJ_j, tvR_r] at p12
    refine tw_if_eq rfl (fun _ => ?_) (fun z => absurd z (by decide))
    refine tw_push rfl ?_
    exact tw_iret rfl (Or.inr ⟨by omega, rfl, rfl⟩)
theorem a_factor {s n : Int32} {h h2 h3 : zH} {w w2 : Option Value} (hR : R_factor h) (h1 : ph_factor 2 s n h w h2) (h9 : ph_factor 113 s n h2 w2 h3) : w2 = w ∧ R_factor h3 := by
  rcases h1 with ⟨c1, rfl, rfl, f1⟩ | ⟨c1, rfl, rfl⟩
  · rcases h9 with ⟨c2, rfl, rfl, f2⟩ | ⟨c2, rfl, rfl⟩
    · refine ⟨?_, fun i hi => ?_⟩
      · rw [tA_tSA f1.cell]
        dsimp only
        rw [if_neg (by omega), hR s.toNatClampNeg (by rw [zclE]; omega)]
      · rw [tA_tSA f2.cell, tA_tSA f1.cell]
        dsimp only
        by_cases e : i = s.toNatClampNeg
        · rw [if_neg (by omega), if_pos ⟨rfl, e⟩, if_pos ⟨rfl, e⟩]
        · rw [if_neg (by omega), if_neg (by omega), if_neg (by omega), if_neg (by omega)]
          exact hR i hi
    · exact absurd c1 c2
  · rcases h9 with ⟨c2, rfl, rfl, f2⟩ | ⟨c2, rfl, rfl⟩
    · exact absurd c2 c1
    · exact ⟨rfl, hR⟩
