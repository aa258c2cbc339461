/-! what is answered: small helpers -/
noncomputable def tBo (P : Prop) (w : Option Value) : Prop := (P ∧ w = some (.int 1)) ∨ (¬ P ∧ w = some (.int 0))
theorem tBo_i {P R : Prop} {w : Option Value} (e : P ↔ R) (k : tBo P w) : tBo R w := k.imp (fun z => ⟨e.mp z.1, z.2⟩) (fun z => ⟨fun y => z.1 (e.mpr y), z.2⟩)
theorem zpB_c {b : Int × Int} {r : List (Int × Int)} {xs : List Int32} (h : zpB (b :: r) xs) : ∃ x ys, xs = x :: ys ∧ (b.1 ≤ x.toInt ∧ x.toInt ≤ b.2) ∧ zpB r ys := by
  obtain ⟨lo, hi⟩ := b
  cases xs with
  | nil => exact h.elim
  | cons x ys => exact ⟨x, ys, rfl, h.1, h.2⟩
theorem zpB_n {xs : List Int32} (h : zpB [] xs) : xs = [] := by
  cases xs with
  | nil => rfl
  | cons x ys => exact h.elim
theorem zclx {x : Int32} (h : 0 ≤ x.toInt) : (x.toNatClampNeg : Int) = x.toInt := by
  show ((x.toInt.toNat : Nat) : Int) = _
  omega
theorem zclE {x : Int32} : x.toNatClampNeg = x.toInt.toNat := rfl
theorem zeqi {x y : Int32} {Y : Int} (hy : y.toInt = Y) (h : x = y) : x.toInt = Y := by rw [h]; exact hy
theorem zneq {x y : Int32} {Y : Int} (hy : y.toInt = Y) (h : ¬ x = y) : x.toInt ≠ Y := fun z => h (Int32.toInt_inj.mp (z.trans hy.symm))
theorem zsub1 {x : Int32} (h : 0 ≤ x.toInt) : (x - 1).toInt = x.toInt - 1 := by
  have := Int32.toInt_lt x
  rw [Int32.toInt_sub]
  exact Int.bmod_eq_of_le (by show (-2147483648 : Int) ≤ x.toInt - 1; omega) (by show x.toInt - 1 < (2147483648 : Int); omega)
noncomputable def tRwl : List (Nat × Nat) := [(4, 5), (14, 15), (27, 28), (97, 98)]
noncomputable def tRw (h : zH) : Prop := ∀ q ∈ tRwl, ∀ i, i < tN h q.1 → tO h q.1 i = some (q.2 + i)
theorem tRw_A {h : zH} {r i : Nat} {x : Int32} (k : tRw h) : tRw (tSA h r i x) := by unfold tRw; rw [tO_tSA, tN_tSA]; exact k
theorem tRw_J {h : zH} {r i : Nat} {x : Int64} (k : tRw h) : tRw (tSJ h r i x) := by unfold tRw; rw [tO_tSJ, tN_tSJ]; exact k
theorem tRw_F {h : zH} {r b : Nat} {w : Value} (k : tRw h) : tRw (tSF h r b w) := by unfold tRw; rw [tO_tSF, tN_tSF]; exact k
theorem tRw_at {h : zH} (k : tRw h) {p q : Nat} (hm : (p, q) ∈ tRwl) {i : Int32} (z : tInO h p i) : zrf (tO h p i.toNatClampNeg) = .ref (q + i.toNatClampNeg) := by
  rw [k (p, q) hm _ z.rg.2]
  rfl
theorem tfr_N {xs : Nat → Int32} {τ : List Nat} {h h2 : zH} {W : Nat → Nat → Bool} {p t : Nat} (hB : zBs xs τ h) (hf : yFr W τ h h2) (ht : zTG[p]? = some t) : tN h2 p = tN h p := by
  obtain ⟨ct, c, a1, a2, -⟩ := hB.1.2 _ _ (hB.2.1 _ _ ht)
  obtain ⟨c2, b1, b2⟩ := hf _ _ _ (hB.2.1 _ _ ht) a2
  unfold tN
  rw [a2, b1]
  match c, c2, b2 with
  | .inr (x, fs), .inr (y, gs), b2 => rfl
  | .inl (k, N, x), .inl (k2, N2, y), b2 => exact b2.2.1.symm
theorem tfr_Fs {xs : Nat → Int32} {τ : List Nat} {h h2 : zH} {W : Nat → Nat → Bool} {p t b : Nat} (hB : zBs xs τ h) (hf : yFr W τ h h2) (ht : τ[p]? = some t) (hW : W t b = false) : tF h2 p b = tF h p b := by
  obtain ⟨ct, c, a1, a2, -⟩ := hB.1.2 _ _ ht
  obtain ⟨c2, b1, b2⟩ := hf _ _ _ ht a2
  unfold tF
  rw [a2, b1]
  match c, c2, b2 with
  | .inr (x, fs), .inr (y, gs), b2 =>
    dsimp only
    rw [List.getD_eq_getElem?_getD, List.getD_eq_getElem?_getD, b2.2.2 b hW]
  | .inl (k, N, x), .inl (k2, N2, y), b2 => rfl
theorem car_tag {xs : Nat → Int32} {τ : List Nat} {h : zH} (hB : zBs xs τ h) {i r : Nat} (hi : (i : Int) < (tvI (tF h 36 4)).toInt) (hr : tO h 39 i = some r) : τ[r]? = some 150 := by
  have hn := (kb_36_4 hB).2
  obtain ⟨a, b, c⟩ := tkd_o hB (p := 39) (t := 15) rfl rfl
  obtain ⟨-, -, c3⟩ := c i (by omega)
  rw [hr] at c3
  rcases c3 with z | z | z
  · cases z
  · have : zoi (some r) = (r : Int) := rfl
    omega
  · exact z
theorem car_lt {xs : Nat → Int32} {τ : List Nat} {h : zH} (hB : zBs xs τ h) {i r : Nat} (hi : (i : Int) < (tvI (tF h 36 4)).toInt) (hr : tO h 39 i = some r) : r < h.length := by
  have z := car_tag hB hi hr
  rcases Nat.lt_or_ge r τ.length with q | q
  · have := hB.1.1; omega
  · rw [List.getElem?_eq_none q] at z; cases z
theorem car_ne {xs : Nat → Int32} {τ : List Nat} {h : zH} (hB : zBs xs τ h) {i r : Nat} (hi : (i : Int) < (tvI (tF h 36 4)).toInt) (hr : tO h 39 i = some r) {p t : Nat} (ht : zTG[p]? = some t) (hn : t ≠ 150) : r ≠ p := by
  intro e
  subst e
  have z := car_tag hB hi hr
  rw [hB.2.1 _ _ ht] at z
  cases z
  exact hn rfl
theorem zBs_len {xs : Nat → Int32} {τ : List Nat} {h : zH} (hB : zBs xs τ h) : 182 ≤ h.length := by
  have z := hB.2.1 181 149 rfl
  rcases Nat.lt_or_ge 181 τ.length with q | q
  · have := hB.1.1; omega
  · rw [List.getElem?_eq_none q] at z; cases z
/-- a count: what is told is the next of so many, or none -/
noncomputable def phN (p b : Nat) (C : Prop) (h : zH) (w : Option Value) (h2 : zH) : Prop := (C ∧ w = some (tF h p b) ∧ tF h2 p b = .int (tvI (tF h p b) + 1)) ∨ (¬ C ∧ w = some (.int (-1)) ∧ tF h2 p b = tF h p b)
theorem phN_a {p b q c : Nat} {C D : Prop} {h h2 h3 : zH} {w w2 : Option Value} (hR : tF h p b = tF h q c) (e1 : tF h2 q c = tF h q c) (e2 : tF h3 p b = tF h2 p b) (hCD : C ↔ D) (k1 : phN p b C h w h2) (k2 : phN q c D h2 w2 h3) : w2 = w ∧ tF h3 p b = tF h3 q c := by
  rcases k1 with ⟨c1, rfl, f1⟩ | ⟨c1, rfl, f1⟩ <;> rcases k2 with ⟨c2, rfl, f2⟩ | ⟨c2, rfl, f2⟩
  · rw [e2, f1, f2, e1, hR]
    exact ⟨rfl, rfl⟩
  · exact absurd (hCD.mp c1) c2
  · exact absurd (hCD.mpr c2) c1
  · rw [e2, f1, f2, e1, hR]
    exact ⟨rfl, rfl⟩
theorem zi1 {x : Int32} : x + 1 - 1 = x := Int32.add_sub_cancel x 1
/-- a count and what is told in arrays at its place -/
noncomputable def phA (p b : Nat) (C : Prop) (l : List (Nat × Int32)) (h : zH) (w : Option Value) (h2 : zH) : Prop := (C ∧ w = some (tF h p b) ∧ tF h2 p b = .int (tvI (tF h p b) + 1) ∧ ∀ q ∈ l, tA h2 q.1 = fun j => if j = (tvI (tF h p b)).toNatClampNeg then q.2 else tA h q.1 j) ∨ (¬ C ∧ w = some (.int (-1)) ∧ tF h2 p b = tF h p b ∧ ∀ q ∈ l, tA h2 q.1 = tA h q.1)
theorem phA_a {p b q c : Nat} {C D : Prop} {l m : List (Nat × Int32)} {h h2 h3 : zH} {w w2 : Option Value} (hR : tF h p b = tF h q c) (e1 : tF h2 q c = tF h q c) (e2 : tF h3 p b = tF h2 p b) (hCD : C ↔ D) (k1 : phA p b C l h w h2) (k2 : phA q c D m h2 w2 h3) : w2 = w ∧ tF h3 p b = tF h3 q c ∧ ∀ P Q v, (P, v) ∈ l → (Q, v) ∈ m → tA h P = tA h Q → tA h2 Q = tA h Q → tA h3 P = tA h2 P → tA h3 P = tA h3 Q := by
  rcases k1 with ⟨c1, rfl, f1, g1⟩ | ⟨c1, rfl, f1, g1⟩ <;> rcases k2 with ⟨c2, rfl, f2, g2⟩ | ⟨c2, rfl, f2, g2⟩
  · refine ⟨by rw [e1, hR], by rw [e2, f1, f2, e1, hR], fun P Q v hP hQ a1 a2 a3 => ?_⟩
    rw [a3, g1 _ hP, g2 _ hQ, e1, ← hR]
    dsimp only
    rw [a1, a2]
  · exact absurd (hCD.mp c1) c2
  · exact absurd (hCD.mpr c2) c1
  · refine ⟨rfl, by rw [e2, f1, f2, e1, hR], fun P Q v hP hQ a1 a2 a3 => ?_⟩
    have h1 := g1 _ hP
    have h2 := g2 _ hQ
    dsimp only at h1 h2
    rw [a3, h1, h2, a1, a2]
theorem tA_st {h : zH} {r i : Nat} {x : Int32} {kd : Nat} {z : Int32} (hf : tIn h r kd z) {f : Nat → Int32} (k : tA h r = f) : tA (tSA h r i x) r = fun j => if j = i then x else f j := by
  rw [tA_tSA hf.cell]
  funext j
  dsimp only
  rw [k]
  by_cases e : j = i
  · rw [if_pos ⟨rfl, e⟩, if_pos e]
  · rw [if_neg (fun z => e z.2), if_neg e]
theorem tA_n {h : zH} {r i p : Nat} {x : Int32} {f : Nat → Int32} (hn : p ≠ r) (k : tA h p = f) : tA (tSA h r i x) p = f := by rw [tA_nz hn]; exact k
theorem tA_ff {h : zH} {r b p : Nat} {w : Value} {f : Nat → Int32} (k : tA h p = f) : tA (tSF h r b w) p = f := by rw [tA_tSF]; exact k
theorem tA_jj {h : zH} {r i p : Nat} {x : Int64} {f : Nat → Int32} (k : tA h p = f) : tA (tSJ h r i x) p = f := by rw [tA_tSJ]; exact k
theorem tA_oo {h : zH} {r i p : Nat} {x : Option Nat} {f : Nat → Int32} (k : tA h p = f) : tA (tSO h r i x) p = f := by rw [tA_tSO]; exact k
noncomputable def R_now (h : zH) : Prop := tF h 0 14 = tF h 111 1
noncomputable def ph_clock (p b : Nat) (month : Int32) (h : zH) (w : Option Value) (h2 : zH) : Prop := (((tvI (tF h p b)).toInt ≤ month.toInt ∧ month.toInt ≤ 599) ∧ w = some (.int 1) ∧ tF h2 p b = .int month) ∨ (¬ ((tvI (tF h p b)).toInt ≤ month.toInt ∧ month.toInt ≤ 599) ∧ w = some (.int 0) ∧ tF h2 p b = tF h p b)
theorem f_isWithin {G : zG} (hG : G.1 = zProg) {h : zH} {n lo hi : Int32} {LO HI : Int} (hlo : lo.toInt = LO) (hhi : hi.toInt = HI) : tC zTt G 158 [.int n, .int lo, .int hi] h (fun w h2 => tBo (LO ≤ n.toInt ∧ n.toInt ≤ HI) w ∧ h2 = h) := by
  refine tC_in (by rw [hG]; rfl) (fun dp => ?_)
  refine tw_iload rfl rfl ?_
  refine tw_iload rfl rfl ?_
  refine tw_ic_lt rfl (fun q1 => ?_) (fun q1 => ?_)
  · try dsimp only [tvI_i, tvJ_j, tvR_r] at q1
    refine tw_push rfl ?_
    exact tw_iret rfl ⟨Or.inr ⟨by omega, rfl⟩, rfl⟩
  · try dsimp only [tvI_i, tvJ_j, tvR_r] at q1
    refine tw_iload rfl rfl ?_
    refine tw_iload rfl rfl ?_
    refine tw_ic_gt rfl (fun q2 => ?_) (fun q2 => ?_)
    · try dsimp only [tvI_i, tvJ_j, tvR_r] at q2
      refine tw_push rfl ?_
      exact tw_iret rfl ⟨Or.inr ⟨by omega, rfl⟩, rfl⟩
    · try dsimp only [tvI_i, tvJ_j, tvR_r] at q2
      refine tw_push rfl ?_
      refine tw_goto rfl ?_
      exact tw_iret rfl ⟨Or.inl ⟨by omega, rfl⟩, rfl⟩
theorem f_isMonth {G : zG} (hG : G.1 = zProg) {h : zH} {n : Int32} : tC zTt G 159 [.int n] h (fun w h2 => tBo (0 ≤ n.toInt ∧ n.toInt ≤ 599) w ∧ h2 = h) := by
  refine tC_in (by rw [hG]; rfl) (fun dp => ?_)
  refine tw_iload rfl rfl ?_
  refine tw_push rfl ?_
  refine tw_push rfl ?_
  refine tw_stat3 rfl (f_isWithin hG (LO := 0) (HI := 599) (by decide) (by decide)) (fun w9 h9 p3 => ?_)
  obtain ⟨⟨p3, rfl⟩ | ⟨p3, rfl⟩, rfl⟩ := p3
  · try dsimp only [tvI_i, tvJ_j, tvR_r] at p3
    exact tw_iret rfl ⟨Or.inl ⟨p3, rfl⟩, rfl⟩
  · try dsimp only [tvI_i, tvJ_j, tvR_r] at p3
    exact tw_iret rfl ⟨Or.inr ⟨p3, rfl⟩, rfl⟩
theorem f_clock {G : zG} (hG : G.1 = zProg) {h : zH} {month : Int32} (hs : tSh h) (hk : 0 ≤ (tvI (tF h 0 14)).toInt) : tC zTt G 110 [.ref 0, .int month] h (ph_clock 0 14 month h) := by
  refine tC_in (by rw [hG]; rfl) (fun dp => ?_)
  refine tw_iload rfl rfl ?_
  refine tw_stat1 rfl (f_isMonth hG) (fun w9 h9 p4 => ?_)
  obtain ⟨⟨p4, rfl⟩ | ⟨p4, rfl⟩, rfl⟩ := p4
  · try dsimp only [tvI_i, tvJ_j, tvR_r] at p4
    refine tw_if_eq rfl (fun z => absurd z (by decide)) (fun _ => ?_)
    refine tw_iload rfl rfl ?_
    refine tw_aload rfl rfl ?_
    refine tw_getS rfl (hi_0_14 hs) ?_
    refine tw_ic_ge rfl (fun q5 => ?_) (fun q5 => ?_)
    · try dsimp only [tvI_i, tvJ_j, tvR_r] at q5
      refine tw_aload rfl rfl ?_
      refine tw_iload rfl rfl ?_
      refine tw_put rfl (fun f6 => ?_)
      refine tw_push rfl ?_
      exact tw_iret rfl (Or.inl ⟨by omega, rfl, (tF_same f6)⟩)
    · try dsimp only [tvI_i, tvJ_j, tvR_r] at q5
      refine tw_push rfl ?_
      exact tw_iret rfl (Or.inr ⟨by omega, rfl, rfl⟩)
  · try dsimp only [tvI_i, tvJ_j, tvR_r] at p4
    refine tw_if_eq rfl (fun _ => ?_) (fun z => absurd z (by decide))
    refine tw_push rfl ?_
    exact tw_iret rfl (Or.inr ⟨by omega, rfl, rfl⟩)
theorem f_in {G : zG} (hG : G.1 = zProg) {h : zH} {x lo hi : Int64} {X LO HI : Int} (hx : x.toInt = X) (hlo : lo.toInt = LO) (hhi : hi.toInt = HI) : tC zTt G 171 [.long x, .long lo, .long hi] h (fun w h2 => tBo (LO ≤ X ∧ X ≤ HI) w ∧ h2 = h) := by
  refine tC_in (by rw [hG]; rfl) (fun dp => ?_)
  refine tw_lload rfl rfl ?_
  refine tw_lload rfl rfl ?_
  refine tw_lc_lt rfl rfl (fun q7 => ?_) (fun q7 => ?_)
  · try dsimp only [tvI_i, tvJ_j, tvR_r] at q7
    refine tw_push rfl ?_
    exact tw_iret rfl ⟨Or.inr ⟨by omega, rfl⟩, rfl⟩
  · try dsimp only [tvI_i, tvJ_j, tvR_r] at q7
    refine tw_lload rfl rfl ?_
    refine tw_lload rfl rfl ?_
    refine tw_lc_gt rfl rfl (fun q8 => ?_) (fun q8 => ?_)
    · try dsimp only [tvI_i, tvJ_j, tvR_r] at q8
      refine tw_push rfl ?_
      exact tw_iret rfl ⟨Or.inr ⟨by omega, rfl⟩, rfl⟩
    · try dsimp only [tvI_i, tvJ_j, tvR_r] at q8
      refine tw_push rfl ?_
      refine tw_goto rfl ?_
      exact tw_iret rfl ⟨Or.inl ⟨by omega, rfl⟩, rfl⟩
theorem g_clock {G : zG} (hG : G.1 = zProg) {h : zH} {month : Int32} (hs : tSh h) : tC zTt G 174 [.ref 111, .int month] h (ph_clock 111 1 month h) := by
  refine tC_in (by rw [hG]; rfl) (fun dp => ?_)
  refine tw_iload rfl rfl ?_
  refine tw_i2l rfl ?_
  refine tw_aload rfl rfl ?_
  refine tw_getS rfl (hi_111_1 hs) ?_
  refine tw_i2l rfl ?_
  refine tw_push rfl ?_
  refine tw_stat3 rfl (f_in hG   (HI := 599) (Int32.toInt_toInt64 _) (Int32.toInt_toInt64 _) (by decide)) (fun w9 h9 p9 => ?_)
  obtain ⟨⟨p9, rfl⟩ | ⟨p9, rfl⟩, rfl⟩ := p9
  · try dsimp only [tvI_i, tvJ_j, tvR_r] at p9
    refine tw_if_ne rfl (fun _ => ?_) (fun z => absurd z (by decide))
    refine tw_aload rfl rfl ?_
    refine tw_iload rfl rfl ?_
    refine tw_put rfl (fun f10 => ?_)
    refine tw_push rfl ?_
    exact tw_iret rfl (Or.inl ⟨by omega, rfl, (tF_same f10)⟩)
  · try dsimp only [tvI_i, tvJ_j, tvR_r] at p9
    refine tw_if_ne rfl (fun z => absurd z (by decide)) (fun _ => ?_)
    refine tw_push rfl ?_
    exact tw_iret rfl (Or.inr ⟨by omega, rfl, rfl⟩)
theorem a_clock {month : Int32} {h h2 h3 : zH} {w w2 : Option Value} (hR : R_now h) (e1 : tF h2 111 1 = tF h 111 1) (e2 : tF h3 0 14 = tF h2 0 14) (k1 : ph_clock 0 14 month h w h2) (k2 : ph_clock 111 1 month h2 w2 h3) : w2 = w ∧ R_now h3 := by
  unfold R_now at *
  unfold ph_clock at k1 k2
  rw [e1, ← hR] at k2
  rw [e2]
  rcases k1 with ⟨c1, rfl, f1⟩ | ⟨c1, rfl, f1⟩ <;> rcases k2 with ⟨c2, rfl, f2⟩ | ⟨c2, rfl, f2⟩
  · exact ⟨rfl, f1.trans f2.symm⟩
  · exact absurd c1 c2
  · exact absurd c2 c1
  · exact ⟨rfl, f1.trans f2.symm⟩
theorem zof {x : Int32} {n : Nat} (h : x.toInt = n) : x = Int32.ofNat n := by
  have hx := Int32.toInt_lt x
  exact Int32.toInt_inj.mp (h.trans (yofN (by omega)).symm)
theorem zof_cl {x : Int32} {n : Nat} (h : x.toInt = n) : x.toNatClampNeg = n := by rw [zclE, h]; rfl
theorem zincN {x : Int32} {n : Nat} (h : x.toInt = n) (hn : n < 2147483647) : (x + 1).toInt = ((n + 1 : Nat) : Int) := by
  rw [Int32.toInt_add, h]
  exact Int.bmod_eq_of_le (by show (-2147483648 : Int) ≤ (n : Int) + 1; omega) (by show (n : Int) + 1 < (2147483648 : Int); omega)
theorem zen {x y : Int32} {n : Nat} (hx : x.toInt = n) (hn : (n : Int) ≤ y.toInt) (hq : y.toInt ≤ x.toInt) : n = y.toNatClampNeg := by
  rw [zclE]
  omega
theorem zincL {x y : Int32} {n : Nat} (h : x.toInt = n) (hy : x.toInt < y.toInt) : (x + 1).toInt = ((n + 1 : Nat) : Int) := zincN h (by have := Int32.toInt_lt y; omega)
/-! A RULE AS IT IS TOLD: what both readers find in the bytes T below n; the one goes down, the other keeps a pile. -/
/-- the place behind the blanks; behind letters; behind digits -/
noncomputable def rB (T : Nat → Int32) (n p : Nat) : Nat := if _h : p < n ∧ T p = 32 then rB T n (p + 1) else p
termination_by n - p
decreasing_by omega
noncomputable def rE (T : Nat → Int32) (n p : Nat) : Nat := if _h : p < n ∧ 97 ≤ (T p).toInt ∧ (T p).toInt ≤ 122 then rE T n (p + 1) else p
termination_by n - p
decreasing_by omega
noncomputable def rD (T : Nat → Int32) (n p : Nat) : Nat := if _h : p < n ∧ 48 ≤ (T p).toInt ∧ (T p).toInt ≤ 57 then rD T n (p + 1) else p
termination_by n - p
decreasing_by omega
section RB
variable {T : Nat → Int32} {n p : Nat}
theorem rB_y (h : p < n ∧ T p = 32) : rB T n p = rB T n (p + 1) := by
  rw [rB]; exact dif_pos h
theorem rB_n (h : ¬ (p < n ∧ T p = 32)) : rB T n p = p := by
  rw [rB]; exact dif_neg h
theorem rE_y (h : p < n ∧ 97 ≤ (T p).toInt ∧ (T p).toInt ≤ 122) : rE T n p = rE T n (p + 1) := by
  rw [rE]; exact dif_pos h
theorem rE_n (h : ¬ (p < n ∧ 97 ≤ (T p).toInt ∧ (T p).toInt ≤ 122)) : rE T n p = p := by
  rw [rE]; exact dif_neg h
theorem rD_y (h : p < n ∧ 48 ≤ (T p).toInt ∧ (T p).toInt ≤ 57) : rD T n p = rD T n (p + 1) := by
  rw [rD]; exact dif_pos h
theorem rD_n (h : ¬ (p < n ∧ 48 ≤ (T p).toInt ∧ (T p).toInt ≤ 57)) : rD T n p = p := by
  rw [rD]; exact dif_neg h
theorem rB_all : ∀ (k p : Nat), n - p ≤ k → p ≤ rB T n p ∧ ¬ (rB T n p < n ∧ T (rB T n p) = 32) ∧ (p ≤ n → rB T n p ≤ n)
  | 0, p, hk => by
    have h : ¬ (p < n ∧ T p = 32) := by omega
    rw [rB_n h]
    exact ⟨Nat.le_refl _, h, fun z => z⟩
  | k + 1, p, hk => by
    by_cases h : p < n ∧ T p = 32
    · rw [rB_y h]
      obtain ⟨a, b, c⟩ := rB_all k (p + 1) (by omega)
      exact ⟨by omega, b, fun _ => c (by omega)⟩
    · rw [rB_n h]
      exact ⟨Nat.le_refl _, h, fun z => z⟩
theorem rB_ge : p ≤ rB T n p := (rB_all (n - p) p (Nat.le_refl _)).1
theorem rB_st : ¬ (rB T n p < n ∧ T (rB T n p) = 32) := (rB_all (n - p) p (Nat.le_refl _)).2.1
theorem rB_le (h : p ≤ n) : rB T n p ≤ n := (rB_all (n - p) p (Nat.le_refl _)).2.2 h
theorem rB_2 : rB T n (rB T n p) = rB T n p := rB_n rB_st
theorem rE_all : ∀ (k p : Nat), n - p ≤ k → p ≤ rE T n p ∧ (p ≤ n → rE T n p ≤ n)
  | 0, p, hk => by
    have h : ¬ (p < n ∧ 97 ≤ (T p).toInt ∧ (T p).toInt ≤ 122) := by omega
    rw [rE_n h]
    exact ⟨Nat.le_refl _, fun z => z⟩
  | k + 1, p, hk => by
    by_cases h : p < n ∧ 97 ≤ (T p).toInt ∧ (T p).toInt ≤ 122
    · rw [rE_y h]
      obtain ⟨a, c⟩ := rE_all k (p + 1) (by omega)
      exact ⟨by omega, fun _ => c (by omega)⟩
    · rw [rE_n h]
      exact ⟨Nat.le_refl _, fun z => z⟩
theorem rE_ge : p ≤ rE T n p := (rE_all (n - p) p (Nat.le_refl _)).1
theorem rE_le (h : p ≤ n) : rE T n p ≤ n := (rE_all (n - p) p (Nat.le_refl _)).2 h
theorem rD_all : ∀ (k p : Nat), n - p ≤ k → p ≤ rD T n p ∧ (p ≤ n → rD T n p ≤ n)
  | 0, p, hk => by
    have h : ¬ (p < n ∧ 48 ≤ (T p).toInt ∧ (T p).toInt ≤ 57) := by omega
    rw [rD_n h]
    exact ⟨Nat.le_refl _, fun z => z⟩
  | k + 1, p, hk => by
    by_cases h : p < n ∧ 48 ≤ (T p).toInt ∧ (T p).toInt ≤ 57
    · rw [rD_y h]
      obtain ⟨a, c⟩ := rD_all k (p + 1) (by omega)
      exact ⟨by omega, fun _ => c (by omega)⟩
    · rw [rD_n h]
      exact ⟨Nat.le_refl _, fun z => z⟩
theorem rD_ge : p ≤ rD T n p := (rD_all (n - p) p (Nat.le_refl _)).1
theorem rD_le (h : p ≤ n) : rD T n p ≤ n := (rD_all (n - p) p (Nat.le_refl _)).2 h
end RB
/-- the number that k digits from q on tell -/
noncomputable def rV (T : Nat → Int32) (q : Nat) : Nat → Nat
  | 0 => 0
  | k + 1 => 10 * rV T q k + ((T (q + k)).toInt - 48).toNat
/-- these letters stand from p on -/
noncomputable def rQ (T : Nat → Int32) : Nat → List Int32 → Bool
  | _, [] => true
  | p, c :: r => decide (T p = c) && rQ T (p + 1) r
/-- the letters from p on are this word's -/
noncomputable def rW (T : Nat → Int32) (n p : Nat) (w : List Int32) : Bool := Nat.beq (rE T n p) (p + w.length) && rQ T p w
noncomputable def rWn : Nat → Nat
  | 16 => 21
  | 17 => 20
  | 18 => 19
  | 19 => 18
  | k => k + 2
noncomputable def rWd (k : Nat) : List Int32 := ztx (rWn k)
theorem rQ_u {T : Nat → Int32} : ∀ {a b : List Int32} {p : Nat}, a.length = b.length → rQ T p a = true → rQ T p b = true → a = b
  | [], [], _, _, _, _ => rfl
  | [], _ :: _, _, e, _, _ => by simp at e
  | _ :: _, [], _, e, _, _ => by simp at e
  | x :: a, y :: b, p, e, ha, hb => by
    unfold rQ at ha hb
    rw [Bool.and_eq_true] at ha hb
    have h1 := of_decide_eq_true ha.1
    have h2 := of_decide_eq_true hb.1
    have h3 := rQ_u (by simpa using e) ha.2 hb.2
    rw [h3, ← h1, ← h2]
theorem rW_i {T : Nat → Int32} {n p : Nat} {a : List Int32} : rW T n p a = true ↔ rE T n p = p + a.length ∧ rQ T p a = true := by
  unfold rW
  rw [Bool.and_eq_true]
  exact and_congr ⟨Nat.eq_of_beq_eq_true, fun h => by rw [h]; exact Nat.beq_refl _⟩ Iff.rfl
theorem rW_u {T : Nat → Int32} {n p : Nat} {a b : List Int32} (ha : rW T n p a = true) (hb : rW T n p b = true) : a = b := by
  rw [rW_i] at ha hb
  exact rQ_u (by omega) ha.2 hb.2
theorem rWd_all : (List.range 20).all (fun i => (List.range 20).all (fun j => !(decide (rWd i = rWd j)) || Nat.beq i j)) = true := by decide +kernel
theorem rWd_i {i j : Nat} (hi : i < 20) (hj : j < 20) (e : rWd i = rWd j) : i = j := by
  have h := List.all_eq_true.mp (List.all_eq_true.mp rWd_all i (List.mem_range.mpr hi)) j (List.mem_range.mpr hj)
  rw [decide_eq_true e] at h
  exact Nat.eq_of_beq_eq_true h
theorem rW_ij {T : Nat → Int32} {n p i j : Nat} (hi : i < 20) (hj : j < 20) (ha : rW T n p (rWd i) = true) (hb : rW T n p (rWd j) = true) : i = j := rWd_i hi hj (rW_u ha hb)
theorem rW_e {T : Nat → Int32} {n p : Nat} {a : List Int32} (h : rW T n p a = true) : rE T n p = p + a.length := (rW_i.mp h).1
/-- a word's first letter is a letter -/
theorem rWd_l : (List.range 20).all (fun i => match rWd i with
  | [] => false
  | c :: _ => decide (97 ≤ c.toInt ∧ c.toInt ≤ 122)) = true := by decide +kernel
theorem rW_l {T : Nat → Int32} {n p i : Nat} (hi : i < 20) (h : rW T n p (rWd i) = true) : p < n ∧ 97 ≤ (T p).toInt ∧ (T p).toInt ≤ 122 := by
  have q := List.all_eq_true.mp rWd_l i (List.mem_range.mpr hi)
  rw [rW_i] at h
  obtain ⟨h1, h2⟩ := h
  revert q h1 h2
  generalize rWd i = w
  intro q h1 h2
  match w, q, h1, h2 with
  | [], q, _, _ => cases q
  | c :: r, q, h1, h2 =>
    rcases Classical.em (p < n ∧ 97 ≤ (T p).toInt ∧ (T p).toInt ≤ 122) with z | z
    · exact z
    · rw [rE_n z] at h1
      simp at h1
/-- the first of so many words that stands there -/
noncomputable def rK12 (T : Nat → Int32) (n p : Nat) : Option Nat := (List.range 12).find? (fun k => rW T n p (rWd k))
theorem rK12_s {T : Nat → Int32} {n p k : Nat} (h : rK12 T n p = some k) : k < 12 ∧ rW T n p (rWd k) = true :=
  ⟨List.mem_range.mp (List.mem_of_find?_eq_some h), List.find?_some (p := fun k => rW T n p (rWd k)) h⟩
theorem rK12_i {T : Nat → Int32} {n p k : Nat} (hk : k < 12) (h : rW T n p (rWd k) = true) : rK12 T n p = some k := by
  cases e : rK12 T n p with
  | none =>
    have := List.find?_eq_none.mp e k (List.mem_range.mpr hk)
    exact absurd h this
  | some j =>
    obtain ⟨h1, h2⟩ := rK12_s e
    rw [rW_ij (by omega) (by omega) h2 h]
theorem rK12_n {T : Nat → Int32} {n p : Nat} (h : ∀ k, k < 12 → ¬ rW T n p (rWd k) = true) : rK12 T n p = none := by
  cases e : rK12 T n p with
  | none => rfl
  | some j => exact absurd (rK12_s e).2 (h j (rK12_s e).1)
/-- place, how many are counted, what was told so far -/
noncomputable abbrev rS : Type := Nat × Nat × List Nat
noncomputable abbrev rR : Type := Option (Nat ⊕ rS)
noncomputable def rK (x : rR) (k : rS → rR) : rR := match x with
  | none => none
  | some (.inl f) => some (.inl f)
  | some (.inr s) => k s
noncomputable def rF (p w : Nat) : rR := some (.inl (1 + 8 * p + w))
noncomputable def rO (s : rS) : rR := some (.inr s)
noncomputable def rC (p : Nat) (s : rS) : rR := if s.2.1 = 80 then rF p 3 else rO (s.1, s.2.1 + 1, s.2.2)
noncomputable def rU (c : Nat) (s : rS) : rS := (s.1, s.2.1, s.2.2 ++ [c])
noncomputable def rA (p : Nat) (s : rS) : rS := (p, s.2.1, s.2.2)
noncomputable def rT (T : Nat → Int32) (n : Nat) (c : Int32) (s : rS) : rR := if rB T n s.1 < n ∧ T (rB T n s.1) = c then rO (rA (rB T n s.1 + 1) s) else rF (rB T n s.1) 0
/-- a number up to most, from behind the blanks on -/
noncomputable def rM (T : Nat → Int32) (n most p : Nat) : Nat ⊕ (Nat × Nat) :=
  if rD T n (rB T n p) = rB T n p then .inl (1 + 8 * rB T n p + 0)
  else if 5 < rD T n (rB T n p) - rB T n p ∨ most < rV T (rB T n p) (rD T n (rB T n p) - rB T n p) then .inl (1 + 8 * rB T n p + 1)
  else .inr (rD T n (rB T n p), rV T (rB T n p) (rD T n (rB T n p) - rB T n p))
/-- a comparison, and the place behind it -/
noncomputable def rCm (T : Nat → Int32) (n b : Nat) : Option (Nat × Nat) :=
  if b < n ∧ T b = 61 then some (100105, b + 1)
  else if b < n ∧ T b = 60 then (if b + 1 < n ∧ T (b + 1) = 61 then some (100104, b + 2) else some (100103, b + 1))
  else if b < n ∧ T b = 62 then (if b + 1 < n ∧ T (b + 1) = 61 then some (100106, b + 2) else some (100107, b + 1))
  else none
/-- 0 a value, 1 a product (2 its rest), 3 a sum (4 its rest), 5 a comparison, 6 a fact, 7 facts with 'and' (8 their rest), 9 a test (10 its rest) -/
noncomputable def rX (T : Nat → Int32) (n : Nat) : Nat → Nat → Nat → rS → rR
  | 0, _, _, _ => none
  | f + 1, m, d, s => match m with
    | 0 => if rB T n s.1 < n ∧ T (rB T n s.1) = 40 then (if d = 10 then rF (rB T n s.1) 2 else rK (rC (rB T n s.1) s) (fun s1 => rK (rX T n f 3 (d + 1) (rA (rB T n s.1 + 1) s1)) (rT T n 41)))
      else (match rK12 T n (rB T n s.1) with
        | some k => rK (rC (rB T n s.1) s) (fun s1 => rO (rU (100000 + k) (rA (rE T n (rB T n s.1)) s1)))
        | none => (match rM T n 99999 (rB T n s.1) with
          | .inl e => some (.inl e)
          | .inr q => rK (rC (rB T n s.1) s) (fun s1 => rO (rU q.2 (rA q.1 s1)))))
    | 1 => rK (rX T n f 0 d s) (rX T n f 2 d)
    | 2 => if rB T n s.1 < n ∧ T (rB T n s.1) = 42 then rK (rX T n f 0 d (rA (rB T n s.1 + 1) s)) (fun s1 => rX T n f 2 d (rU 100102 s1)) else rO (rA (rB T n s.1) s)
    | 3 => rK (rX T n f 1 d s) (rX T n f 4 d)
    | 4 => if rB T n s.1 < n ∧ T (rB T n s.1) = 43 then rK (rX T n f 1 d (rA (rB T n s.1 + 1) s)) (fun s1 => rX T n f 4 d (rU 100100 s1))
      else if rB T n s.1 < n ∧ T (rB T n s.1) = 45 then rK (rX T n f 1 d (rA (rB T n s.1 + 1) s)) (fun s1 => rX T n f 4 d (rU 100101 s1))
      else rO (rA (rB T n s.1) s)
    | 5 => rK (rX T n f 3 d s) (fun s1 => match rCm T n (rB T n s1.1) with
      | none => rF (rB T n s1.1) 0
      | some q => rK (rC (rB T n s1.1) s1) (fun s2 => rK (rX T n f 3 d (rA q.2 s2)) (fun s3 => rO (rU q.1 s3))))
    | 6 => if rW T n (rB T n s.1) (rWd 19) = true then (if d = 10 then rF (rB T n s.1) 2 else rK (rX T n f 6 (d + 1) (rA (rB T n s.1 + 3) s)) (fun s1 => rO (rU 100110 s1)))
      else if rB T n s.1 < n ∧ T (rB T n s.1) = 91 then (if d = 10 then rF (rB T n s.1) 2 else rK (rX T n f 9 (d + 1) (rA (rB T n s.1 + 1) s)) (rT T n 93))
      else rX T n f 5 d (rA (rB T n s.1) s)
    | 7 => rK (rX T n f 6 d s) (rX T n f 8 d)
    | 8 => if rW T n (rB T n s.1) (rWd 18) = true then rK (rX T n f 6 d (rA (rB T n s.1 + 3) s)) (fun s1 => rX T n f 8 d (rU 100109 s1)) else rO (rA (rB T n s.1) s)
    | 9 => rK (rX T n f 7 d s) (rX T n f 10 d)
    | _ => if rW T n (rB T n s.1) (rWd 17) = true then rK (rX T n f 7 d (rA (rB T n s.1 + 2) s)) (fun s1 => rX T n f 10 d (rU 100108 s1)) else rO (rA (rB T n s.1) s)
/-! the reader with a pile -/
noncomputable abbrev rMs : Type := Nat × List Nat × rS
noncomputable abbrev rMo : Type := Nat ⊕ rMs
noncomputable def mDp : List Nat → Nat
  | [] => 0
  | x :: r => if x = 50 ∨ x = 10 ∨ x = 13 then mDp r + 1 else mDp r
noncomputable def mT : List Nat → List Nat → List Nat × List Nat
  | [], o => ([], o)
  | x :: r, o => if x = 102 then mT r (o ++ [100102]) else (x :: r, o)
noncomputable def mPm : List Nat → List Nat → List Nat × List Nat
  | [], o => ([], o)
  | x :: r, o => if x = 103 then mPm r (o ++ [100100]) else if x = 104 then mPm r (o ++ [100101]) else (x :: r, o)
noncomputable def mS (S o : List Nat) : List Nat × List Nat := mPm (mT S o).1 (mT S o).2
noncomputable def mN : List Nat → List Nat → List Nat × List Nat
  | [], o => ([], o)
  | x :: r, o => if x = 10 then mN r (o ++ [100110]) else (x :: r, o)
noncomputable def mA : List Nat → List Nat → List Nat × List Nat
  | [], o => ([], o)
  | x :: r, o => if x = 11 then mA r (o ++ [100109]) else (x :: r, o)
noncomputable def mO1 : List Nat → List Nat → List Nat × List Nat
  | [], o => ([], o)
  | x :: r, o => if x = 12 then mO1 r (o ++ [100108]) else (x :: r, o)
noncomputable def mO (S o : List Nat) : List Nat × List Nat := mO1 (mA S o).1 (mA S o).2
noncomputable def mS0 (T : Nat → Int32) (n : Nat) (S : List Nat) (s : rS) : rMo :=
  if rW T n (rB T n s.1) (rWd 19) = true then (if mDp S = 10 then .inl (1 + 8 * rB T n s.1 + 2) else .inr (0, 10 :: S, rA (rB T n s.1 + 3) s))
  else if rB T n s.1 < n ∧ T (rB T n s.1) = 91 then (if mDp S = 10 then .inl (1 + 8 * rB T n s.1 + 2) else .inr (0, 13 :: S, rA (rB T n s.1 + 1) s))
  else .inr (1, S, rA (rB T n s.1) s)
noncomputable def mS1 (T : Nat → Int32) (n : Nat) (S : List Nat) (s : rS) : rMo :=
  if rB T n s.1 < n ∧ T (rB T n s.1) = 40 then (if mDp S = 10 then .inl (1 + 8 * rB T n s.1 + 2) else if s.2.1 = 80 then .inl (1 + 8 * rB T n s.1 + 3) else .inr (1, 50 :: S, (rB T n s.1 + 1, s.2.1 + 1, s.2.2)))
  else (match rK12 T n (rB T n s.1) with
    | some k => if s.2.1 = 80 then .inl (1 + 8 * rB T n s.1 + 3) else .inr (2, S, (rE T n (rB T n s.1), s.2.1 + 1, s.2.2 ++ [100000 + k]))
    | none => (match rM T n 99999 (rB T n s.1) with
      | .inl e => .inl e
      | .inr q => if s.2.1 = 80 then .inl (1 + 8 * rB T n s.1 + 3) else .inr (2, S, (q.1, s.2.1 + 1, s.2.2 ++ [q.2]))))
noncomputable def mS2 (T : Nat → Int32) (n : Nat) (tst : Bool) (S : List Nat) (s : rS) : rMo :=
  if rB T n s.1 < n ∧ T (rB T n s.1) = 42 then .inr (1, 102 :: (mT S s.2.2).1, (rB T n s.1 + 1, s.2.1, (mT S s.2.2).2))
  else if rB T n s.1 < n ∧ T (rB T n s.1) = 43 then .inr (1, 103 :: (mS S s.2.2).1, (rB T n s.1 + 1, s.2.1, (mS S s.2.2).2))
  else if rB T n s.1 < n ∧ T (rB T n s.1) = 45 then .inr (1, 104 :: (mS S s.2.2).1, (rB T n s.1 + 1, s.2.1, (mS S s.2.2).2))
  else if (mS S s.2.2).1.headD 0 = 50 then (if rB T n s.1 < n ∧ T (rB T n s.1) = 41 then .inr (2, (mS S s.2.2).1.tail, (rB T n s.1 + 1, s.2.1, (mS S s.2.2).2)) else .inl (1 + 8 * rB T n s.1 + 0))
  else if tst = true then (if 205 ≤ (mS S s.2.2).1.headD 0 ∧ (mS S s.2.2).1.headD 0 ≤ 209 then .inr (3, (mS S s.2.2).1.tail, (rB T n s.1, s.2.1, (mS S s.2.2).2 ++ [(mS S s.2.2).1.headD 0 + 99898]))
    else (match rCm T n (rB T n s.1) with
      | none => .inl (1 + 8 * rB T n s.1 + 0)
      | some q => if s.2.1 = 80 then .inl (1 + 8 * rB T n s.1 + 3) else .inr (1, (q.1 - 99898) :: (mS S s.2.2).1, (q.2, s.2.1 + 1, (mS S s.2.2).2))))
  else .inr (4, (mS S s.2.2).1, (rB T n s.1, s.2.1, (mS S s.2.2).2))
noncomputable def mS3 (T : Nat → Int32) (n : Nat) (S : List Nat) (s : rS) : rMo :=
  if rW T n (rB T n s.1) (rWd 18) = true then .inr (0, 11 :: (mA (mN S s.2.2).1 (mN S s.2.2).2).1, (rB T n s.1 + 3, s.2.1, (mA (mN S s.2.2).1 (mN S s.2.2).2).2))
  else if rW T n (rB T n s.1) (rWd 17) = true then .inr (0, 12 :: (mO (mN S s.2.2).1 (mN S s.2.2).2).1, (rB T n s.1 + 2, s.2.1, (mO (mN S s.2.2).1 (mN S s.2.2).2).2))
  else if (mO (mN S s.2.2).1 (mN S s.2.2).2).1.headD 0 = 13 then (if rB T n s.1 < n ∧ T (rB T n s.1) = 93 then .inr (3, (mO (mN S s.2.2).1 (mN S s.2.2).2).1.tail, (rB T n s.1 + 1, s.2.1, (mO (mN S s.2.2).1 (mN S s.2.2).2).2)) else .inl (1 + 8 * rB T n s.1 + 0))
  else .inr (4, (mO (mN S s.2.2).1 (mN S s.2.2).2).1, (rB T n s.1, s.2.1, (mO (mN S s.2.2).1 (mN S s.2.2).2).2))
noncomputable def mSt (T : Nat → Int32) (n : Nat) (tst : Bool) (x : rMs) : rMo := match x.1 with
  | 0 => mS0 T n x.2.1 x.2.2
  | 1 => mS1 T n x.2.1 x.2.2
  | 2 => mS2 T n tst x.2.1 x.2.2
  | 3 => mS3 T n x.2.1 x.2.2
  | _ => .inr x
noncomputable def mI (T : Nat → Int32) (n : Nat) (tst : Bool) : Nat → rMo → rMo
  | 0, y => y
  | _ + 1, .inl f => .inl f
  | k + 1, .inr x => mI T n tst k (mSt T n tst x)
noncomputable def mRe (T : Nat → Int32) (n : Nat) (tst : Bool) (x : rMs) (y : rMo) : Prop := ∃ k, mI T n tst k (.inr x) = y
section MR
variable {T : Nat → Int32} {n : Nat} {tst : Bool}
theorem mI_f (f : Nat) : ∀ k, mI T n tst k (.inl f) = .inl f
  | 0 => rfl
  | _ + 1 => rfl
theorem mI_add : ∀ (j k : Nat) (y : rMo), mI T n tst (j + k) y = mI T n tst k (mI T n tst j y)
  | 0, k, y => by rw [Nat.zero_add]; rfl
  | j + 1, k, .inl f => by rw [mI_f, mI_f, mI_f]
  | j + 1, k, .inr x => by
    rw [Nat.succ_add]
    exact mI_add j k (mSt T n tst x)
theorem mRe_0 {x : rMs} : mRe T n tst x (.inr x) := ⟨0, rfl⟩
theorem mRe_f {x : rMs} {f : Nat} (h : mSt T n tst x = .inl f) : mRe T n tst x (.inl f) := ⟨1, h⟩
theorem mRe_s {x y : rMs} {z : rMo} (h : mSt T n tst x = .inr y) (k : mRe T n tst y z) : mRe T n tst x z := by
  obtain ⟨k, hk⟩ := k
  refine ⟨k + 1, ?_⟩
  show mI T n tst k (mSt T n tst x) = z
  rw [h]
  exact hk
theorem mRe_t {x y : rMs} {z : rMo} (h : mRe T n tst x (.inr y)) (k : mRe T n tst y z) : mRe T n tst x z := by
  obtain ⟨j, hj⟩ := h
  obtain ⟨k, hk⟩ := k
  refine ⟨j + k, ?_⟩
  rw [mI_add, hj]
  exact hk
noncomputable def mHt : rMo → Prop
  | .inl _ => True
  | .inr x => 4 ≤ x.1
theorem mSt_4 {x : rMs} (h : 4 ≤ x.1) : mSt T n tst x = .inr x := by
  obtain ⟨a, S, s⟩ := x
  match a, h with
  | a + 4, _ => rfl
theorem mI_h {y : rMo} (h : mHt y) : ∀ k, mI T n tst k y = y
  | 0 => rfl
  | k + 1 => by
    match y, h with
    | .inl f, _ => rfl
    | .inr x, h =>
      show mI T n tst k (mSt T n tst x) = _
      rw [mSt_4 h]
      exact mI_h h k
theorem mRe_u {x : rMs} {y z : rMo} (hy : mRe T n tst x y) (hz : mRe T n tst x z) (h1 : mHt y) (h2 : mHt z) : y = z := by
  obtain ⟨j, hj⟩ := hy
  obtain ⟨k, hk⟩ := hz
  have e1 := mI_add (T := T) (n := n) (tst := tst) j k (.inr x)
  have e2 := mI_add (T := T) (n := n) (tst := tst) k j (.inr x)
  rw [hj, mI_h h1] at e1
  rw [hk, mI_h h2] at e2
  rw [← e1, ← e2, Nat.add_comm]
theorem mT_n {S o : List Nat} (h : S.headD 0 ≠ 102) : mT S o = (S, o) := by
  cases S with
  | nil => rfl
  | cons x r =>
    have h : x ≠ 102 := h
    unfold mT
    rw [if_neg h]
theorem mPm_n {S o : List Nat} (h : S.headD 0 ≠ 103) (h2 : S.headD 0 ≠ 104) : mPm S o = (S, o) := by
  cases S with
  | nil => rfl
  | cons x r =>
    have h : x ≠ 103 := h
    have h2 : x ≠ 104 := h2
    unfold mPm
    rw [if_neg h, if_neg h2]
theorem mN_n {S o : List Nat} (h : S.headD 0 ≠ 10) : mN S o = (S, o) := by
  cases S with
  | nil => rfl
  | cons x r =>
    have h : x ≠ 10 := h
    unfold mN
    rw [if_neg h]
theorem mA_n {S o : List Nat} (h : S.headD 0 ≠ 11) : mA S o = (S, o) := by
  cases S with
  | nil => rfl
  | cons x r =>
    have h : x ≠ 11 := h
    unfold mA
    rw [if_neg h]
theorem mO1_n {S o : List Nat} (h : S.headD 0 ≠ 12) : mO1 S o = (S, o) := by
  cases S with
  | nil => rfl
  | cons x r =>
    have h : x ≠ 12 := h
    unfold mO1
    rw [if_neg h]
theorem mN_r {S : List Nat} (h : S.headD 0 ≠ 10) : ∀ (k : Nat) (o : List Nat), mN (List.replicate k 10 ++ S) o = (S, o ++ List.replicate k 100110)
  | 0, o => by
    show mN S o = _
    rw [mN_n h]
    simp
  | k + 1, o => by
    rw [List.replicate_succ, List.cons_append]
    unfold mN
    rw [if_pos rfl, mN_r h k, List.append_assoc]
    rfl
/-- no sign of a sum on top; nor a bracket of one, nor a comparison; nor 'not', 'and' -/
noncomputable def hS1 (S : List Nat) : Prop := S.headD 0 ≠ 102
noncomputable def hS3 (S : List Nat) : Prop := S.headD 0 ≠ 102 ∧ S.headD 0 ≠ 103 ∧ S.headD 0 ≠ 104
noncomputable def hS5 (S : List Nat) : Prop := hS3 S ∧ S.headD 0 ≠ 50 ∧ ¬ (205 ≤ S.headD 0 ∧ S.headD 0 ≤ 209)
noncomputable def hS7 (S : List Nat) : Prop := hS5 S ∧ S.headD 0 ≠ 10 ∧ S.headD 0 ≠ 11
noncomputable def hS9 (S : List Nat) : Prop := hS7 S ∧ S.headD 0 ≠ 12
theorem mS_n {S o : List Nat} (h : hS3 S) : mS S o = (S, o) := by
  unfold mS
  rw [mT_n h.1]
  exact mPm_n h.2.1 h.2.2
noncomputable def mNo (T : Nat → Int32) (n p : Nat) (c : Int32) : Prop := ¬ (p < n ∧ T p = c)
/-- the pile's reader where it begins to read what rX reads -/
noncomputable def mPre (T : Nat → Int32) (n : Nat) (tst : Bool) (m : Nat) (S : List Nat) (s : rS) (x : rMs) : Prop := match m with
  | 0 => x = (1, S, s)
  | 1 => x = (1, S, s) ∧ hS1 S
  | 2 => x.1 = 2 ∧ mT x.2.1 x.2.2.2.2 = (S, s.2.2) ∧ rB T n x.2.2.1 = rB T n s.1 ∧ x.2.2.2.1 = s.2.1 ∧ hS1 S
  | 3 => x = (1, S, s) ∧ hS3 S
  | 4 => x.1 = 2 ∧ mS x.2.1 x.2.2.2.2 = (S, s.2.2) ∧ rB T n x.2.2.1 = rB T n s.1 ∧ x.2.2.2.1 = s.2.1 ∧ hS3 S ∧ mNo T n (rB T n s.1) 42
  | 5 => x = (1, S, s) ∧ hS5 S ∧ tst = true
  | 6 => x = (0, S, s) ∧ hS5 S ∧ tst = true
  | 7 => x = (0, S, s) ∧ hS7 S ∧ tst = true
  | 8 => x.1 = 3 ∧ mA (mN x.2.1 x.2.2.2.2).1 (mN x.2.1 x.2.2.2.2).2 = (S, s.2.2) ∧ rB T n x.2.2.1 = rB T n s.1 ∧ x.2.2.2.1 = s.2.1 ∧ hS7 S ∧ tst = true
  | 9 => x = (0, S, s) ∧ hS9 S ∧ tst = true
  | _ => x.1 = 3 ∧ mO (mN x.2.1 x.2.2.2.2).1 (mN x.2.1 x.2.2.2.2).2 = (S, s.2.2) ∧ rB T n x.2.2.1 = rB T n s.1 ∧ x.2.2.2.1 = s.2.1 ∧ hS9 S ∧ tst = true ∧ rW T n (rB T n s.1) (rWd 18) ≠ true
/-- and where it is behind it -/
noncomputable def mPo (T : Nat → Int32) (n : Nat) (m : Nat) (S : List Nat) (s : rS) (y : rMs) : Prop := match m with
  | 0 => y = (2, S, s)
  | 1 | 2 => y.1 = 2 ∧ mT y.2.1 y.2.2.2.2 = (S, s.2.2) ∧ rB T n y.2.2.1 = rB T n s.1 ∧ y.2.2.2.1 = s.2.1 ∧ mNo T n (rB T n s.1) 42
  | 3 | 4 => y.1 = 2 ∧ mS y.2.1 y.2.2.2.2 = (S, s.2.2) ∧ rB T n y.2.2.1 = rB T n s.1 ∧ y.2.2.2.1 = s.2.1 ∧ mNo T n (rB T n s.1) 42 ∧ mNo T n (rB T n s.1) 43 ∧ mNo T n (rB T n s.1) 45
  | 5 => y.1 = 3 ∧ y.2.1 = S ∧ y.2.2.2.2 = s.2.2 ∧ rB T n y.2.2.1 = rB T n s.1 ∧ y.2.2.2.1 = s.2.1
  | 6 => y.1 = 3 ∧ (∃ k, y.2.1 = List.replicate k 10 ++ S ∧ s.2.2 = y.2.2.2.2 ++ List.replicate k 100110) ∧ rB T n y.2.2.1 = rB T n s.1 ∧ y.2.2.2.1 = s.2.1
  | 7 | 8 => y.1 = 3 ∧ mA (mN y.2.1 y.2.2.2.2).1 (mN y.2.1 y.2.2.2.2).2 = (S, s.2.2) ∧ rB T n y.2.2.1 = rB T n s.1 ∧ y.2.2.2.1 = s.2.1 ∧ rW T n (rB T n s.1) (rWd 18) ≠ true
  | _ => y.1 = 3 ∧ mO (mN y.2.1 y.2.2.2.2).1 (mN y.2.1 y.2.2.2.2).2 = (S, s.2.2) ∧ rB T n y.2.2.1 = rB T n s.1 ∧ y.2.2.2.1 = s.2.1 ∧ rW T n (rB T n s.1) (rWd 18) ≠ true ∧ rW T n (rB T n s.1) (rWd 17) ≠ true
noncomputable def mRs (T : Nat → Int32) (n : Nat) (tst : Bool) (m : Nat) (S : List Nat) (x : rMs) : Nat ⊕ rS → Prop
  | .inl e => mRe T n tst x (.inl e)
  | .inr s => ∃ y, mRe T n tst x (.inr y) ∧ mPo T n m S s y
noncomputable def mOK (T : Nat → Int32) (n : Nat) (tst : Bool) (f : Nat) : Prop := ∀ (m d : Nat) (s : rS) (r : Nat ⊕ rS), m ≤ 10 → rX T n f m d s = some r → ∀ (S : List Nat) (x : rMs), mPre T n tst m S s x → mDp S = d → mRs T n tst m S x r
theorem mRs_t {m : Nat} {S : List Nat} {x y : rMs} {r : Nat ⊕ rS} (h : mRe T n tst x (.inr y)) (k : mRs T n tst m S y r) : mRs T n tst m S x r := by
  match r, k with
  | .inl e, k => exact mRe_t h k
  | .inr s, ⟨z, k, p⟩ => exact ⟨z, mRe_t h k, p⟩
theorem rK_i {x : rR} {k : rS → rR} {r : Nat ⊕ rS} (h : rK x k = some r) : (∃ e, x = some (.inl e) ∧ r = .inl e) ∨ ∃ s, x = some (.inr s) ∧ k s = some r := by
  match x, h with
  | some (.inl e), h => exact Or.inl ⟨e, rfl, (Option.some.inj h).symm⟩
  | some (.inr s), h => exact Or.inr ⟨s, rfl, h⟩
theorem rC_i {p : Nat} {s : rS} {k : rS → rR} {r : Nat ⊕ rS} (h : rK (rC p s) k = some r) : (s.2.1 = 80 ∧ r = .inl (1 + 8 * p + 3)) ∨ (s.2.1 ≠ 80 ∧ k (s.1, s.2.1 + 1, s.2.2) = some r) := by
  unfold rC at h
  by_cases e : s.2.1 = 80
  · rw [if_pos e] at h
    exact Or.inl ⟨e, (Option.some.inj h).symm⟩
  · rw [if_neg e] at h
    exact Or.inr ⟨e, h⟩
theorem mDp_s {S : List Nat} {c : Nat} (h1 : c ≠ 50) (h2 : c ≠ 10) (h3 : c ≠ 13) : mDp (c :: S) = mDp S := by
  show (if c = 50 ∨ c = 10 ∨ c = 13 then _ else _) = _
  rw [if_neg (by omega)]
theorem hS3_c {c : Nat} {S : List Nat} (h : c ≠ 102 ∧ c ≠ 103 ∧ c ≠ 104) : hS3 (c :: S) := h
theorem hS5_c {c : Nat} {S : List Nat} (h : (c ≠ 102 ∧ c ≠ 103 ∧ c ≠ 104) ∧ c ≠ 50 ∧ ¬ (205 ≤ c ∧ c ≤ 209)) : hS5 (c :: S) := h
theorem hS7_c {c : Nat} {S : List Nat} (h : ((c ≠ 102 ∧ c ≠ 103 ∧ c ≠ 104) ∧ c ≠ 50 ∧ ¬ (205 ≤ c ∧ c ≤ 209)) ∧ c ≠ 10 ∧ c ≠ 11) : hS7 (c :: S) := h
theorem hS9_c {c : Nat} {S : List Nat} (h : (((c ≠ 102 ∧ c ≠ 103 ∧ c ≠ 104) ∧ c ≠ 50 ∧ ¬ (205 ≤ c ∧ c ≤ 209)) ∧ c ≠ 10 ∧ c ≠ 11) ∧ c ≠ 12) : hS9 (c :: S) := h
theorem rCm_r {b : Nat} {q : Nat × Nat} (h : rCm T n b = some q) : 100103 ≤ q.1 ∧ q.1 ≤ 100107 ∧ b < q.2 := by
  unfold rCm at h
  split at h
  · cases h; exact ⟨Nat.le_of_ble_eq_true rfl, Nat.le_of_ble_eq_true rfl, Nat.lt_succ_self _⟩
  · split at h
    · split at h <;> (cases h; exact ⟨Nat.le_of_ble_eq_true rfl, Nat.le_of_ble_eq_true rfl, by show b < _ + _; omega⟩)
    · split at h
      · split at h <;> (cases h; exact ⟨Nat.le_of_ble_eq_true rfl, Nat.le_of_ble_eq_true rfl, by show b < _ + _; omega⟩)
      · cases h
theorem mOK_v {f d : Nat} {s : rS} {r : Nat ⊕ rS} {S : List Nat} {x : rMs} (ih : mOK T n tst f) (h : rX T n (f + 1) 0 d s = some r) (hp : mPre T n tst 0 S s x) (hd : mDp S = d) : mRs T n tst 0 S x r := by
  have hp : x = (1, S, s) := hp
  subst hp
  unfold rX at h
  try dsimp only at h
  by_cases c1 : rB T n s.1 < n ∧ T (rB T n s.1) = 40
  · rw [if_pos c1] at h
    by_cases c2 : d = 10
    · rw [if_pos c2] at h
      have e := Option.some.inj h
      subst e
      refine mRe_f ?_
      show mS1 T n S s = _
      unfold mS1
      rw [if_pos c1, if_pos (hd.trans c2)]
    · rw [if_neg c2] at h
      rcases rC_i h with ⟨c3, rfl⟩ | ⟨c3, h⟩
      · refine mRe_f ?_
        show mS1 T n S s = _
        unfold mS1
        rw [if_pos c1, if_neg (fun z => c2 (hd.symm.trans z)), if_pos c3]
      · have st : mSt T n tst (1, S, s) = .inr (1, 50 :: S, (rB T n s.1 + 1, s.2.1 + 1, s.2.2)) := by
          show mS1 T n S s = _
          unfold mS1
          rw [if_pos c1, if_neg (fun z => c2 (hd.symm.trans z)), if_neg c3]
        have hd2 : mDp (50 :: S) = d + 1 := by
          show (if 50 = 50 ∨ 50 = 10 ∨ 50 = 13 then mDp S + 1 else _) = _
          rw [if_pos (Or.inl rfl), hd]
        rcases rK_i h with ⟨e, h1, rfl⟩ | ⟨s1, h1, h2⟩
        · exact mRe_s st (ih 3 (d + 1) _ _ (by omega) h1 (50 :: S) _ ⟨rfl, hS3_c (by decide)⟩ hd2)
        · obtain ⟨⟨ya, yS, yp, yc, yo⟩, k1, k2a, k2b, k2c, k2d, k2e, k2f, k2g⟩ := ih 3 (d + 1) _ _ (by omega) h1 (50 :: S) _ ⟨rfl, hS3_c (by decide)⟩ hd2
          dsimp only at k2a k2b k2c k2d
          subst k2a
          refine mRs_t (mRe_s st k1) ?_
          unfold rT at h2
          by_cases c4 : rB T n s1.1 < n ∧ T (rB T n s1.1) = 41
          · rw [if_pos c4] at h2
            have e := Option.some.inj h2
            subst e
            refine ⟨_, mRe_s ?_ mRe_0, rfl⟩
            show mS2 T n tst yS (yp, yc, yo) = _
            unfold mS2
            dsimp only
            rw [k2c, if_neg k2e, if_neg k2f, if_neg k2g, k2b, if_pos (show (50 :: S, s1.2.2).1.headD 0 = 50 from rfl), if_pos c4, k2d]
            rfl
          · rw [if_neg c4] at h2
            have e := Option.some.inj h2
            subst e
            refine mRe_f ?_
            show mS2 T n tst yS (yp, yc, yo) = _
            unfold mS2
            dsimp only
            rw [k2c, if_neg k2e, if_neg k2f, if_neg k2g, k2b, if_pos (show (50 :: S, s1.2.2).1.headD 0 = 50 from rfl), if_neg c4]
  · rw [if_neg c1] at h
    cases c2 : rK12 T n (rB T n s.1) with
    | some k =>
      rw [c2] at h
      dsimp only at h
      rcases rC_i h with ⟨c3, rfl⟩ | ⟨c3, h⟩
      · refine mRe_f ?_
        show mS1 T n S s = _
        unfold mS1
        rw [if_neg c1, c2]
        dsimp only
        rw [if_pos c3]
      · have e := Option.some.inj h
        subst e
        refine ⟨_, mRe_s ?_ mRe_0, rfl⟩
        show mS1 T n S s = _
        unfold mS1
        rw [if_neg c1, c2]
        dsimp only
        rw [if_neg c3]
        rfl
    | none =>
      rw [c2] at h
      dsimp only at h
      cases c3 : rM T n 99999 (rB T n s.1) with
      | inl e =>
        rw [c3] at h
        dsimp only at h
        have e := Option.some.inj h
        subst e
        refine mRe_f ?_
        show mS1 T n S s = _
        unfold mS1
        rw [if_neg c1, c2]
        dsimp only
        rw [c3]
      | inr q =>
        rw [c3] at h
        dsimp only at h
        rcases rC_i h with ⟨c4, rfl⟩ | ⟨c4, h⟩
        · refine mRe_f ?_
          show mS1 T n S s = _
          unfold mS1
          rw [if_neg c1, c2]
          dsimp only
          rw [c3]
          dsimp only
          rw [if_pos c4]
        · have e := Option.some.inj h
          subst e
          refine ⟨_, mRe_s ?_ mRe_0, rfl⟩
          show mS1 T n S s = _
          unfold mS1
          rw [if_neg c1, c2]
          dsimp only
          rw [c3]
          dsimp only
          rw [if_neg c4]
          rfl
theorem mOK_1 {f d : Nat} {s : rS} {r : Nat ⊕ rS} {S : List Nat} {x : rMs} (ih : mOK T n tst f) (h : rX T n (f + 1) 1 d s = some r) (hp : mPre T n tst 1 S s x) (hd : mDp S = d) : mRs T n tst 1 S x r := by
  obtain ⟨rfl, hS⟩ := hp
  unfold rX at h
  try dsimp only at h
  rcases rK_i h with ⟨e, h1, rfl⟩ | ⟨s1, h1, h2⟩
  · exact ih 0 d s _ (by omega) h1 S _ rfl hd
  · obtain ⟨y, k1, rfl⟩ := ih 0 d s _ (by omega) h1 S _ rfl hd
    have k := mRs_t k1 (ih 2 d s1 r (by omega) h2 S (2, S, s1) ⟨rfl, mT_n hS, rfl, rfl, hS⟩ hd)
    match r, k with
    | .inl e, k => exact k
    | .inr s, k => exact k
theorem mOK_2 {f d : Nat} {s : rS} {r : Nat ⊕ rS} {S : List Nat} {x : rMs} (ih : mOK T n tst f) (h : rX T n (f + 1) 2 d s = some r) (hp : mPre T n tst 2 S s x) (hd : mDp S = d) : mRs T n tst 2 S x r := by
  obtain ⟨a, X, p, c, o⟩ := x
  obtain ⟨h1, h2, h3, h4, hS⟩ := hp
  dsimp only at h1 h2 h3 h4
  subst h1
  unfold rX at h
  try dsimp only at h
  by_cases c1 : rB T n s.1 < n ∧ T (rB T n s.1) = 42
  · rw [if_pos c1] at h
    have st : mSt T n tst (2, X, p, c, o) = .inr (1, 102 :: S, rA (rB T n s.1 + 1) s) := by
      show mS2 T n tst X (p, c, o) = _
      unfold mS2
      dsimp only
      rw [h3, if_pos c1, h2, h4]
      rfl
    have hd2 : mDp (102 :: S) = d := (mDp_s (by decide) (by decide) (by decide)).trans hd
    rcases rK_i h with ⟨e, g1, rfl⟩ | ⟨s1, g1, g2⟩
    · exact mRe_s st (ih 0 d _ _ (by omega) g1 (102 :: S) _ rfl hd2)
    · obtain ⟨y, k1, rfl⟩ := ih 0 d _ _ (by omega) g1 (102 :: S) _ rfl hd2
      refine mRs_t (mRe_s st k1) (ih 2 d _ r (by omega) g2 S (2, 102 :: S, s1) ⟨rfl, ?_, rfl, rfl, hS⟩ hd)
      show (if 102 = 102 then mT S (s1.2.2 ++ [100102]) else _) = _
      rw [if_pos rfl, mT_n hS]
      rfl
  · rw [if_neg c1] at h
    have e := Option.some.inj h
    subst e
    refine ⟨(2, X, p, c, o), mRe_0, rfl, h2, h3.trans rB_2.symm, h4, ?_⟩
    show mNo T n (rB T n (rB T n s.1)) 42
    rw [rB_2]
    exact c1
theorem mOK_3 {f d : Nat} {s : rS} {r : Nat ⊕ rS} {S : List Nat} {x : rMs} (ih : mOK T n tst f) (h : rX T n (f + 1) 3 d s = some r) (hp : mPre T n tst 3 S s x) (hd : mDp S = d) : mRs T n tst 3 S x r := by
  obtain ⟨rfl, hS⟩ := hp
  unfold rX at h
  try dsimp only at h
  rcases rK_i h with ⟨e, h1, rfl⟩ | ⟨s1, h1, h2⟩
  · exact ih 1 d s _ (by omega) h1 S _ ⟨rfl, hS.1⟩ hd
  · obtain ⟨y, k1, k2, k3, k4, k5, k6⟩ := ih 1 d s _ (by omega) h1 S _ ⟨rfl, hS.1⟩ hd
    have k := mRs_t k1 (ih 4 d s1 r (by omega) h2 S y ⟨k2, by unfold mS; rw [k3]; exact mPm_n hS.2.1 hS.2.2, k4, k5, hS, k6⟩ hd)
    match r, k with
    | .inl e, k => exact k
    | .inr s, k => exact k
theorem mOK_4 {f d : Nat} {s : rS} {r : Nat ⊕ rS} {S : List Nat} {x : rMs} (ih : mOK T n tst f) (h : rX T n (f + 1) 4 d s = some r) (hp : mPre T n tst 4 S s x) (hd : mDp S = d) : mRs T n tst 4 S x r := by
  obtain ⟨a, X, p, c, o⟩ := x
  obtain ⟨h1, h2, h3, h4, hS, h5⟩ := hp
  dsimp only at h1 h2 h3 h4
  subst h1
  unfold rX at h
  try dsimp only at h
  by_cases c1 : rB T n s.1 < n ∧ T (rB T n s.1) = 43
  · rw [if_pos c1] at h
    have st : mSt T n tst (2, X, p, c, o) = .inr (1, 103 :: S, rA (rB T n s.1 + 1) s) := by
      show mS2 T n tst X (p, c, o) = _
      unfold mS2
      dsimp only
      rw [h3, if_neg h5, if_pos c1, h2, h4]
      rfl
    have hd2 : mDp (103 :: S) = d := (mDp_s (by decide) (by decide) (by decide)).trans hd
    have hS1 : hS1 (103 :: S) := (by decide : (103 : Nat) ≠ 102)
    rcases rK_i h with ⟨e, g1, rfl⟩ | ⟨s1, g1, g2⟩
    · exact mRe_s st (ih 1 d _ _ (by omega) g1 (103 :: S) _ ⟨rfl, hS1⟩ hd2)
    · obtain ⟨y, k1, k2, k3, k4, k5, k6⟩ := ih 1 d _ _ (by omega) g1 (103 :: S) _ ⟨rfl, hS1⟩ hd2
      refine mRs_t (mRe_s st k1) (ih 4 d _ r (by omega) g2 S y ⟨k2, ?_, k4, k5, hS, k6⟩ hd)
      unfold mS
      rw [k3]
      show (if 103 = 103 then mPm S (s1.2.2 ++ [100100]) else _) = _
      rw [if_pos rfl, mPm_n hS.2.1 hS.2.2]
      rfl
  · rw [if_neg c1] at h
    by_cases c2 : rB T n s.1 < n ∧ T (rB T n s.1) = 45
    · rw [if_pos c2] at h
      have st : mSt T n tst (2, X, p, c, o) = .inr (1, 104 :: S, rA (rB T n s.1 + 1) s) := by
        show mS2 T n tst X (p, c, o) = _
        unfold mS2
        dsimp only
        rw [h3, if_neg h5, if_neg c1, if_pos c2, h2, h4]
        rfl
      have hd2 : mDp (104 :: S) = d := (mDp_s (by decide) (by decide) (by decide)).trans hd
      have hS1 : hS1 (104 :: S) := (by decide : (104 : Nat) ≠ 102)
      rcases rK_i h with ⟨e, g1, rfl⟩ | ⟨s1, g1, g2⟩
      · exact mRe_s st (ih 1 d _ _ (by omega) g1 (104 :: S) _ ⟨rfl, hS1⟩ hd2)
      · obtain ⟨y, k1, k2, k3, k4, k5, k6⟩ := ih 1 d _ _ (by omega) g1 (104 :: S) _ ⟨rfl, hS1⟩ hd2
        refine mRs_t (mRe_s st k1) (ih 4 d _ r (by omega) g2 S y ⟨k2, ?_, k4, k5, hS, k6⟩ hd)
        unfold mS
        rw [k3]
        show (if 104 = 103 then _ else if 104 = 104 then mPm S (s1.2.2 ++ [100101]) else _) = _
        rw [if_neg (by decide), if_pos rfl, mPm_n hS.2.1 hS.2.2]
        rfl
    · rw [if_neg c2] at h
      have e := Option.some.inj h
      subst e
      refine ⟨(2, X, p, c, o), mRe_0, rfl, h2, h3.trans rB_2.symm, h4, ?_, ?_, ?_⟩
      · show mNo T n (rB T n (rB T n s.1)) 42
        rw [rB_2]
        exact h5
      · show mNo T n (rB T n (rB T n s.1)) 43
        rw [rB_2]
        exact c1
      · show mNo T n (rB T n (rB T n s.1)) 45
        rw [rB_2]
        exact c2
theorem mOK_5 {f d : Nat} {s : rS} {r : Nat ⊕ rS} {S : List Nat} {x : rMs} (ih : mOK T n tst f) (h : rX T n (f + 1) 5 d s = some r) (hp : mPre T n tst 5 S s x) (hd : mDp S = d) : mRs T n tst 5 S x r := by
  obtain ⟨rfl, hS, ht⟩ := hp
  unfold rX at h
  try dsimp only at h
  rcases rK_i h with ⟨e, h1, rfl⟩ | ⟨s1, h1, h⟩
  · exact ih 3 d s _ (by omega) h1 S _ ⟨rfl, hS.1⟩ hd
  · obtain ⟨⟨ya, yS, yp, yc, yo⟩, k1, k2a, k2b, k2c, k2d, k2e, k2f, k2g⟩ := ih 3 d s _ (by omega) h1 S _ ⟨rfl, hS.1⟩ hd
    dsimp only at k2a k2b k2c k2d
    subst k2a
    refine mRs_t k1 ?_
    cases c1 : rCm T n (rB T n s1.1) with
    | none =>
      rw [c1] at h
      dsimp only at h
      have e := Option.some.inj h
      subst e
      refine mRe_f ?_
      show mS2 T n tst yS (yp, yc, yo) = _
      unfold mS2
      dsimp only
      rw [k2c, if_neg k2e, if_neg k2f, if_neg k2g, k2b, if_neg hS.2.1, if_pos ht, if_neg hS.2.2, c1]
    | some q =>
      rw [c1] at h
      dsimp only at h
      obtain ⟨q1, q2, -⟩ := rCm_r c1
      rcases rC_i h with ⟨c3, rfl⟩ | ⟨c3, h⟩
      · refine mRe_f ?_
        show mS2 T n tst yS (yp, yc, yo) = _
        unfold mS2
        dsimp only
        rw [k2c, if_neg k2e, if_neg k2f, if_neg k2g, k2b, if_neg hS.2.1, if_pos ht, if_neg hS.2.2, c1]
        dsimp only
        rw [if_pos (k2d.trans c3)]
      · have st : mSt T n tst (2, yS, yp, yc, yo) = .inr (1, (q.1 - 99898) :: S, (q.2, s1.2.1 + 1, s1.2.2)) := by
          show mS2 T n tst yS (yp, yc, yo) = _
          unfold mS2
          dsimp only
          rw [k2c, if_neg k2e, if_neg k2f, if_neg k2g, k2b, if_neg hS.2.1, if_pos ht, if_neg hS.2.2, c1]
          dsimp only
          rw [k2d, if_neg c3]
        obtain ⟨z, hz⟩ : ∃ z, q.1 - 99898 = z := ⟨_, rfl⟩
        have z1 : 205 ≤ z := by omega
        have z2 : z ≤ 209 := by omega
        have z3 : z + 99898 = q.1 := by omega
        rw [hz] at st
        clear hz
        have hd2 : mDp (z :: S) = d := (mDp_s (by omega) (by omega) (by omega)).trans hd
        have hS3 : hS3 (z :: S) := hS3_c ⟨by omega, by omega, by omega⟩
        rcases rK_i h with ⟨e, g1, rfl⟩ | ⟨s3, g1, g2⟩
        · exact mRe_s st (ih 3 d _ _ (by omega) g1 _ _ ⟨rfl, hS3⟩ hd2)
        · obtain ⟨⟨za, zS, zp, zc, zo⟩, l1, l2a, l2b, l2c, l2d, l2e, l2f, l2g⟩ := ih 3 d _ _ (by omega) g1 _ _ ⟨rfl, hS3⟩ hd2
          dsimp only at l2a l2b l2c l2d
          subst l2a
          refine mRs_t (mRe_s st l1) ?_
          have e := Option.some.inj g2
          subst e
          refine ⟨(3, S, (rB T n s3.1, s3.2.1, s3.2.2 ++ [q.1])), mRe_s ?_ mRe_0, rfl, rfl, rfl, rB_2, rfl⟩
          show mS2 T n tst zS (zp, zc, zo) = _
          unfold mS2
          dsimp only
          rw [l2c, if_neg l2e, if_neg l2f, if_neg l2g, l2b, if_neg (show ¬ (z :: S, s3.2.2).1.headD 0 = 50 from fun w => by have w : z = 50 := w; omega), if_pos ht, if_pos (show 205 ≤ (z :: S, s3.2.2).1.headD 0 ∧ (z :: S, s3.2.2).1.headD 0 ≤ 209 from ⟨z1, z2⟩), l2d, ← z3]
          rfl
theorem rX_6 {f d : Nat} {s : rS} : rX T n (f + 1) 6 d s = (if rW T n (rB T n s.1) (rWd 19) = true then (if d = 10 then rF (rB T n s.1) 2 else rK (rX T n f 6 (d + 1) (rA (rB T n s.1 + 3) s)) (fun s1 => rO (rU 100110 s1)))
      else if rB T n s.1 < n ∧ T (rB T n s.1) = 91 then (if d = 10 then rF (rB T n s.1) 2 else rK (rX T n f 9 (d + 1) (rA (rB T n s.1 + 1) s)) (rT T n 93))
      else rX T n f 5 d (rA (rB T n s.1) s)) := rfl
theorem mOK_6 {f d : Nat} {s : rS} {r : Nat ⊕ rS} {S : List Nat} {x : rMs} (ih : mOK T n tst f) (h : rX T n (f + 1) 6 d s = some r) (hp : mPre T n tst 6 S s x) (hd : mDp S = d) : mRs T n tst 6 S x r := by
  obtain ⟨rfl, hS, ht⟩ := hp
  rw [rX_6] at h
  by_cases c1 : rW T n (rB T n s.1) (rWd 19) = true
  · rw [if_pos c1] at h
    by_cases c2 : d = 10
    · rw [if_pos c2] at h
      have e := Option.some.inj h
      subst e
      refine mRe_f ?_
      show mS0 T n S s = _
      unfold mS0
      rw [if_pos c1, if_pos (hd.trans c2)]
    · rw [if_neg c2] at h
      have st : mSt T n tst (0, S, s) = .inr (0, 10 :: S, rA (rB T n s.1 + 3) s) := by
        show mS0 T n S s = _
        unfold mS0
        rw [if_pos c1, if_neg (fun z => c2 (hd.symm.trans z))]
      have hd2 : mDp (10 :: S) = d + 1 := by
        show (if 10 = 50 ∨ 10 = 10 ∨ 10 = 13 then mDp S + 1 else _) = _
        rw [if_pos (Or.inr (Or.inl rfl)), hd]
      rcases rK_i h with ⟨e, g1, rfl⟩ | ⟨s1, g1, g2⟩
      · exact mRe_s st (ih 6 (d + 1) _ _ (by omega) g1 _ _ ⟨rfl, hS5_c (by decide), ht⟩ hd2)
      · obtain ⟨y, k1, k2, ⟨k, k3, k4⟩, k5, k6⟩ := ih 6 (d + 1) _ _ (by omega) g1 _ _ ⟨rfl, hS5_c (by decide), ht⟩ hd2
        have e := Option.some.inj g2
        subst e
        refine ⟨y, mRe_s st k1, k2, ⟨k + 1, ?_, ?_⟩, k5, k6⟩
        · rw [k3, List.replicate_succ', List.append_assoc]
          rfl
        · show s1.2.2 ++ [100110] = _
          rw [k4, List.replicate_succ', List.append_assoc]
  · rw [if_neg c1] at h
    by_cases c3 : rB T n s.1 < n ∧ T (rB T n s.1) = 91
    · rw [if_pos c3] at h
      by_cases c2 : d = 10
      · rw [if_pos c2] at h
        have e := Option.some.inj h
        subst e
        refine mRe_f ?_
        show mS0 T n S s = _
        unfold mS0
        rw [if_neg c1, if_pos c3, if_pos (hd.trans c2)]
      · rw [if_neg c2] at h
        have st : mSt T n tst (0, S, s) = .inr (0, 13 :: S, rA (rB T n s.1 + 1) s) := by
          show mS0 T n S s = _
          unfold mS0
          rw [if_neg c1, if_pos c3, if_neg (fun z => c2 (hd.symm.trans z))]
        have hd2 : mDp (13 :: S) = d + 1 := by
          show (if 13 = 50 ∨ 13 = 10 ∨ 13 = 13 then mDp S + 1 else _) = _
          rw [if_pos (Or.inr (Or.inr rfl)), hd]
        rcases rK_i h with ⟨e, g1, rfl⟩ | ⟨s1, g1, h2⟩
        · exact mRe_s st (ih 9 (d + 1) _ _ (by omega) g1 _ _ ⟨rfl, hS9_c (by decide), ht⟩ hd2)
        · obtain ⟨⟨ya, yS, yp, yc, yo⟩, k1, k2, k3, k4, k5, k6, k7⟩ := ih 9 (d + 1) _ _ (by omega) g1 _ _ ⟨rfl, hS9_c (by decide), ht⟩ hd2
          dsimp only at k2 k3 k4 k5
          subst k2
          refine mRs_t (mRe_s st k1) ?_
          unfold rT at h2
          by_cases c4 : rB T n s1.1 < n ∧ T (rB T n s1.1) = 93
          · rw [if_pos c4] at h2
            have e := Option.some.inj h2
            subst e
            refine ⟨(3, S, rA (rB T n s1.1 + 1) s1), mRe_s ?_ mRe_0, rfl, ⟨0, rfl, (List.append_nil _).symm⟩, rfl, rfl⟩
            show mS3 T n yS (yp, yc, yo) = _
            unfold mS3
            dsimp only
            rw [k4, if_neg k6, if_neg k7, k3, if_pos (show (13 :: S, s1.2.2).1.headD 0 = 13 from rfl), if_pos c4, k5]
            rfl
          · rw [if_neg c4] at h2
            have e := Option.some.inj h2
            subst e
            refine mRe_f ?_
            show mS3 T n yS (yp, yc, yo) = _
            unfold mS3
            dsimp only
            rw [k4, if_neg k6, if_neg k7, k3, if_pos (show (13 :: S, s1.2.2).1.headD 0 = 13 from rfl), if_neg c4]
    · rw [if_neg c3] at h
      have st : mSt T n tst (0, S, s) = .inr (1, S, rA (rB T n s.1) s) := by
        show mS0 T n S s = _
        unfold mS0
        rw [if_neg c1, if_neg c3]
      have k := mRs_t (mRe_s st mRe_0) (ih 5 d _ r (by omega) h S _ ⟨rfl, hS, ht⟩ hd)
      match r, k with
      | .inl e, k => exact k
      | .inr s, ⟨y, k1, k2, k3, k4, k5, k6⟩ => exact ⟨y, k1, k2, ⟨0, k3, by rw [k4]; exact (List.append_nil _).symm⟩, k5, k6⟩
theorem mOK_7 {f d : Nat} {s : rS} {r : Nat ⊕ rS} {S : List Nat} {x : rMs} (ih : mOK T n tst f) (h : rX T n (f + 1) 7 d s = some r) (hp : mPre T n tst 7 S s x) (hd : mDp S = d) : mRs T n tst 7 S x r := by
  obtain ⟨rfl, hS, ht⟩ := hp
  unfold rX at h
  try dsimp only at h
  rcases rK_i h with ⟨e, h1, rfl⟩ | ⟨s1, h1, h2⟩
  · exact ih 6 d s _ (by omega) h1 S _ ⟨rfl, hS.1, ht⟩ hd
  · obtain ⟨y, k1, k2, ⟨j, k3, k4⟩, k5, k6⟩ := ih 6 d s _ (by omega) h1 S _ ⟨rfl, hS.1, ht⟩ hd
    have k := mRs_t k1 (ih 8 d s1 r (by omega) h2 S y ⟨k2, by rw [k3, mN_r hS.2.1, ← k4]; exact mA_n hS.2.2, k5, k6, hS, ht⟩ hd)
    match r, k with
    | .inl e, k => exact k
    | .inr s, k => exact k
theorem mOK_8 {f d : Nat} {s : rS} {r : Nat ⊕ rS} {S : List Nat} {x : rMs} (ih : mOK T n tst f) (h : rX T n (f + 1) 8 d s = some r) (hp : mPre T n tst 8 S s x) (hd : mDp S = d) : mRs T n tst 8 S x r := by
  obtain ⟨a, X, p, c, o⟩ := x
  obtain ⟨h1, h2, h3, h4, hS, ht⟩ := hp
  dsimp only at h1 h2 h3 h4
  subst h1
  unfold rX at h
  try dsimp only at h
  by_cases c1 : rW T n (rB T n s.1) (rWd 18) = true
  · rw [if_pos c1] at h
    have st : mSt T n tst (3, X, p, c, o) = .inr (0, 11 :: S, rA (rB T n s.1 + 3) s) := by
      show mS3 T n X (p, c, o) = _
      unfold mS3
      dsimp only
      rw [h3, if_pos c1, h2, h4]
      rfl
    have hd2 : mDp (11 :: S) = d := (mDp_s (by decide) (by decide) (by decide)).trans hd
    rcases rK_i h with ⟨e, g1, rfl⟩ | ⟨s1, g1, g2⟩
    · exact mRe_s st (ih 6 d _ _ (by omega) g1 _ _ ⟨rfl, hS5_c (by decide), ht⟩ hd2)
    · obtain ⟨y, k1, k2, ⟨j, k3, k4⟩, k5, k6⟩ := ih 6 d _ _ (by omega) g1 _ _ ⟨rfl, hS5_c (by decide), ht⟩ hd2
      refine mRs_t (mRe_s st k1) (ih 8 d _ r (by omega) g2 S y ⟨k2, ?_, k5, k6, hS, ht⟩ hd)
      rw [k3, mN_r (S := 11 :: S) (show (11 : Nat) ≠ 10 by decide), ← k4]
      show (if 11 = 11 then mA S (s1.2.2 ++ [100109]) else _) = _
      rw [if_pos rfl, mA_n hS.2.2]
      rfl
  · rw [if_neg c1] at h
    have e := Option.some.inj h
    subst e
    refine ⟨(3, X, p, c, o), mRe_0, rfl, h2, h3.trans rB_2.symm, h4, ?_⟩
    show ¬ rW T n (rB T n (rB T n s.1)) (rWd 18) = true
    rw [rB_2]
    exact c1
theorem mOK_9 {f d : Nat} {s : rS} {r : Nat ⊕ rS} {S : List Nat} {x : rMs} (ih : mOK T n tst f) (h : rX T n (f + 1) 9 d s = some r) (hp : mPre T n tst 9 S s x) (hd : mDp S = d) : mRs T n tst 9 S x r := by
  obtain ⟨rfl, hS, ht⟩ := hp
  unfold rX at h
  try dsimp only at h
  rcases rK_i h with ⟨e, h1, rfl⟩ | ⟨s1, h1, h2⟩
  · exact ih 7 d s _ (by omega) h1 S _ ⟨rfl, hS.1, ht⟩ hd
  · obtain ⟨y, k1, k2, k3, k4, k5, k6⟩ := ih 7 d s _ (by omega) h1 S _ ⟨rfl, hS.1, ht⟩ hd
    have k := mRs_t k1 (ih 10 d s1 r (by omega) h2 S y ⟨k2, by unfold mO; rw [k3]; exact mO1_n hS.2, k4, k5, hS, ht, k6⟩ hd)
    match r, k with
    | .inl e, k => exact k
    | .inr s, k => exact k
theorem mOK_10 {f d : Nat} {s : rS} {r : Nat ⊕ rS} {S : List Nat} {x : rMs} (ih : mOK T n tst f) (h : rX T n (f + 1) 10 d s = some r) (hp : mPre T n tst 10 S s x) (hd : mDp S = d) : mRs T n tst 10 S x r := by
  obtain ⟨a, X, p, c, o⟩ := x
  obtain ⟨h1, h2, h3, h4, hS, ht, h5⟩ := hp
  dsimp only at h1 h2 h3 h4
  subst h1
  unfold rX at h
  try dsimp only at h
  by_cases c1 : rW T n (rB T n s.1) (rWd 17) = true
  · rw [if_pos c1] at h
    have st : mSt T n tst (3, X, p, c, o) = .inr (0, 12 :: S, rA (rB T n s.1 + 2) s) := by
      show mS3 T n X (p, c, o) = _
      unfold mS3
      dsimp only
      rw [h3, if_neg h5, if_pos c1, h2, h4]
      rfl
    have hd2 : mDp (12 :: S) = d := (mDp_s (by decide) (by decide) (by decide)).trans hd
    rcases rK_i h with ⟨e, g1, rfl⟩ | ⟨s1, g1, g2⟩
    · exact mRe_s st (ih 7 d _ _ (by omega) g1 _ _ ⟨rfl, hS7_c (by decide), ht⟩ hd2)
    · obtain ⟨y, k1, k2, k3, k4, k5, k6⟩ := ih 7 d _ _ (by omega) g1 _ _ ⟨rfl, hS7_c (by decide), ht⟩ hd2
      refine mRs_t (mRe_s st k1) (ih 10 d _ r (by omega) g2 S y ⟨k2, ?_, k4, k5, hS, ht, k6⟩ hd)
      unfold mO
      rw [k3]
      show (if 12 = 12 then mO1 S (s1.2.2 ++ [100108]) else _) = _
      rw [if_pos rfl, mO1_n hS.2]
      rfl
  · rw [if_neg c1] at h
    have e := Option.some.inj h
    subst e
    refine ⟨(3, X, p, c, o), mRe_0, rfl, h2, h3.trans rB_2.symm, h4, ?_, ?_⟩
    · show ¬ rW T n (rB T n (rB T n s.1)) (rWd 18) = true
      rw [rB_2]
      exact h5
    · show ¬ rW T n (rB T n (rB T n s.1)) (rWd 17) = true
      rw [rB_2]
      exact c1
theorem mOK_all : ∀ f, mOK T n tst f
  | 0 => fun m d s r _ h => by
    have h : (none : rR) = some r := h
    cases h
  | f + 1 => by
    have ih := mOK_all f
    intro m d s r hm h S x hp hd
    match m, hm, h, hp with
    | 0, _, h, hp => exact mOK_v ih h hp hd
    | 1, _, h, hp => exact mOK_1 ih h hp hd
    | 2, _, h, hp => exact mOK_2 ih h hp hd
    | 3, _, h, hp => exact mOK_3 ih h hp hd
    | 4, _, h, hp => exact mOK_4 ih h hp hd
    | 5, _, h, hp => exact mOK_5 ih h hp hd
    | 6, _, h, hp => exact mOK_6 ih h hp hd
    | 7, _, h, hp => exact mOK_7 ih h hp hd
    | 8, _, h, hp => exact mOK_8 ih h hp hd
    | 9, _, h, hp => exact mOK_9 ih h hp hd
    | 10, _, h, hp => exact mOK_10 ih h hp hd
    | m + 11, hm, _, _ => exact absurd hm (by omega)
/-- a sum, a test: to the reader's end -/
noncomputable def mEnd : Nat ⊕ rS → rMo
  | .inl e => .inl e
  | .inr s => .inr (4, [], s)
theorem mSum {f : Nat} {s : rS} {r : Nat ⊕ rS} (h : rX T n f 3 0 s = some r) : mRe T n false (1, [], s) (mEnd (r.map id (fun z => rA (rB T n z.1) z))) := by
  have k := mOK_all (T := T) (n := n) (tst := false) f 3 0 s r (by omega) h [] (1, [], s) ⟨rfl, by decide, by decide, by decide⟩ rfl
  match r, k with
  | .inl e, k => exact k
  | .inr s1, ⟨⟨ya, yS, yp, yc, yo⟩, k1, k2a, k2b, k2c, k2d, k2e, k2f, k2g⟩ =>
    dsimp only at k2a k2b k2c k2d
    subst k2a
    refine mRe_t k1 (mRe_s ?_ mRe_0)
    show mS2 T n false yS (yp, yc, yo) = _
    unfold mS2
    dsimp only
    rw [k2c, if_neg k2e, if_neg k2f, if_neg k2g, k2b, if_neg (show ¬ (([] : List Nat), s1.2.2).1.headD 0 = 50 from fun z => by cases z), if_neg (show ¬ false = true by decide), k2d]
    rfl
theorem mTst {f : Nat} {s : rS} {r : Nat ⊕ rS} (h : rX T n f 9 0 s = some r) : mRe T n true (0, [], s) (mEnd (r.map id (fun z => rA (rB T n z.1) z))) := by
  have k := mOK_all (T := T) (n := n) (tst := true) f 9 0 s r (by omega) h [] (0, [], s) ⟨rfl, ⟨⟨⟨⟨by decide, by decide, by decide⟩, by decide, by decide⟩, by decide, by decide⟩, by decide⟩, rfl⟩ rfl
  match r, k with
  | .inl e, k => exact k
  | .inr s1, ⟨⟨ya, yS, yp, yc, yo⟩, k1, k2, k3, k4, k5, k6, k7⟩ =>
    dsimp only at k2 k3 k4 k5
    subst k2
    refine mRe_t k1 (mRe_s ?_ mRe_0)
    show mS3 T n yS (yp, yc, yo) = _
    unfold mS3
    dsimp only
    rw [k4, if_neg k6, if_neg k7, k3, if_neg (show ¬ (([] : List Nat), s1.2.2).1.headD 0 = 13 from fun z => by cases z), k5]
    rfl
end MR
/-! the reader that goes down: what its steps come to -/
/-- sooner or later: this is what is read -/
noncomputable def pE (T : Nat → Int32) (n m d : Nat) (s : rS) (r : Nat ⊕ rS) : Prop := ∃ N, ∀ M, N ≤ M → rX T n M m d s = some r
section PE
variable {T : Nat → Int32} {n d : Nat} {s s1 : rS} {r : Nat ⊕ rS} {e : Nat}
theorem pE_of {m : Nat} (h : ∀ M, rX T n (M + 1) m d s = some r) : pE T n m d s r := ⟨1, fun M hM => by
  obtain ⟨M2, rfl⟩ : ∃ M2, M = M2 + 1 := ⟨M - 1, by omega⟩
  exact h M2⟩
theorem pE_o1 {m m1 d1 : Nat} {s1 : rS} {r1 : Nat ⊕ rS} (k : pE T n m1 d1 s1 r1) (h : ∀ M, rX T n M m1 d1 s1 = some r1 → rX T n (M + 1) m d s = some r) : pE T n m d s r := by
  obtain ⟨N, k⟩ := k
  refine ⟨N + 1, fun M hM => ?_⟩
  obtain ⟨M2, rfl⟩ : ∃ M2, M = M2 + 1 := ⟨M - 1, by omega⟩
  exact h M2 (k M2 (by omega))
theorem pE_o2 {m m1 d1 m2 d2 : Nat} {s1 s2 : rS} {r1 r2 : Nat ⊕ rS} (k : pE T n m1 d1 s1 r1) (k2 : pE T n m2 d2 s2 r2) (h : ∀ M, rX T n M m1 d1 s1 = some r1 → rX T n M m2 d2 s2 = some r2 → rX T n (M + 1) m d s = some r) : pE T n m d s r := by
  obtain ⟨N, k⟩ := k
  obtain ⟨N2, k2⟩ := k2
  refine ⟨N + N2 + 1, fun M hM => ?_⟩
  obtain ⟨M2, rfl⟩ : ∃ M2, M = M2 + 1 := ⟨M - 1, by omega⟩
  exact h M2 (k M2 (by omega)) (k2 M2 (by omega))
theorem rK_r {x : rR} {k : rS → rR} (h : x = some (.inr s1)) : rK x k = k s1 := by rw [h]; rfl
theorem rK_l {x : rR} {k : rS → rR} (h : x = some (.inl e)) : rK x k = some (.inl e) := by rw [h]; rfl
-- a pair of modes: first this, then the rest of it
theorem pE_q {a b c : Nat} (hm : (a, b, c) = (1, 0, 2) ∨ (a, b, c) = (3, 1, 4) ∨ (a, b, c) = (7, 6, 8) ∨ (a, b, c) = (9, 7, 10)) (k : pE T n b d s (.inr s1)) (k2 : pE T n c d s1 r) : pE T n a d s r := by
  refine pE_o2 k k2 (fun M h1 h2 => ?_)
  rcases hm with e | e | e | e <;> cases e <;> exact (rK_r h1).trans h2
theorem pE_qf {a b c : Nat} (hm : (a, b, c) = (1, 0, 2) ∨ (a, b, c) = (3, 1, 4) ∨ (a, b, c) = (7, 6, 8) ∨ (a, b, c) = (9, 7, 10)) (k : pE T n b d s (.inl e)) : pE T n a d s (.inl e) := by
  refine pE_o1 k (fun M h1 => ?_)
  rcases hm with e | e | e | e <;> cases e <;> exact rK_l h1
-- the rest of a product, of facts, of a test
theorem pE_2y (hc : rB T n s.1 < n ∧ T (rB T n s.1) = 42) (k : pE T n 0 d (rA (rB T n s.1 + 1) s) (.inr s1)) (k2 : pE T n 2 d (rU 100102 s1) r) : pE T n 2 d s r :=
  pE_o2 k k2 (fun M h1 h2 => (if_pos hc).trans ((rK_r h1).trans h2))
theorem pE_2f (hc : rB T n s.1 < n ∧ T (rB T n s.1) = 42) (k : pE T n 0 d (rA (rB T n s.1 + 1) s) (.inl e)) : pE T n 2 d s (.inl e) :=
  pE_o1 k (fun M h1 => (if_pos hc).trans (rK_l h1))
theorem pE_2n (hc : ¬ (rB T n s.1 < n ∧ T (rB T n s.1) = 42)) : pE T n 2 d s (.inr (rA (rB T n s.1) s)) := pE_of (fun M => if_neg hc)
theorem pE_8y (hc : rW T n (rB T n s.1) (rWd 18) = true) (k : pE T n 6 d (rA (rB T n s.1 + 3) s) (.inr s1)) (k2 : pE T n 8 d (rU 100109 s1) r) : pE T n 8 d s r :=
  pE_o2 k k2 (fun M h1 h2 => (if_pos hc).trans ((rK_r h1).trans h2))
theorem pE_8f (hc : rW T n (rB T n s.1) (rWd 18) = true) (k : pE T n 6 d (rA (rB T n s.1 + 3) s) (.inl e)) : pE T n 8 d s (.inl e) :=
  pE_o1 k (fun M h1 => (if_pos hc).trans (rK_l h1))
theorem pE_8n (hc : ¬ rW T n (rB T n s.1) (rWd 18) = true) : pE T n 8 d s (.inr (rA (rB T n s.1) s)) := pE_of (fun M => if_neg hc)
theorem pE_10y (hc : rW T n (rB T n s.1) (rWd 17) = true) (k : pE T n 7 d (rA (rB T n s.1 + 2) s) (.inr s1)) (k2 : pE T n 10 d (rU 100108 s1) r) : pE T n 10 d s r :=
  pE_o2 k k2 (fun M h1 h2 => (if_pos hc).trans ((rK_r h1).trans h2))
theorem pE_10f (hc : rW T n (rB T n s.1) (rWd 17) = true) (k : pE T n 7 d (rA (rB T n s.1 + 2) s) (.inl e)) : pE T n 10 d s (.inl e) :=
  pE_o1 k (fun M h1 => (if_pos hc).trans (rK_l h1))
theorem pE_10n (hc : ¬ rW T n (rB T n s.1) (rWd 17) = true) : pE T n 10 d s (.inr (rA (rB T n s.1) s)) := pE_of (fun M => if_neg hc)
-- the rest of a sum
theorem ne_43 {b : Nat} (h : b < n ∧ T b = 45) : ¬ (b < n ∧ T b = 43) := fun z => absurd (z.2.symm.trans h.2) (by decide)
theorem pE_4p (hc : rB T n s.1 < n ∧ T (rB T n s.1) = 43) (k : pE T n 1 d (rA (rB T n s.1 + 1) s) (.inr s1)) (k2 : pE T n 4 d (rU 100100 s1) r) : pE T n 4 d s r :=
  pE_o2 k k2 (fun M h1 h2 => (if_pos hc).trans ((rK_r h1).trans h2))
theorem pE_4pf (hc : rB T n s.1 < n ∧ T (rB T n s.1) = 43) (k : pE T n 1 d (rA (rB T n s.1 + 1) s) (.inl e)) : pE T n 4 d s (.inl e) :=
  pE_o1 k (fun M h1 => (if_pos hc).trans (rK_l h1))
theorem pE_4m (hc : rB T n s.1 < n ∧ T (rB T n s.1) = 45) (k : pE T n 1 d (rA (rB T n s.1 + 1) s) (.inr s1)) (k2 : pE T n 4 d (rU 100101 s1) r) : pE T n 4 d s r :=
  pE_o2 k k2 (fun M h1 h2 => (if_neg (ne_43 hc)).trans ((if_pos hc).trans ((rK_r h1).trans h2)))
theorem pE_4mf (hc : rB T n s.1 < n ∧ T (rB T n s.1) = 45) (k : pE T n 1 d (rA (rB T n s.1 + 1) s) (.inl e)) : pE T n 4 d s (.inl e) :=
  pE_o1 k (fun M h1 => (if_neg (ne_43 hc)).trans ((if_pos hc).trans (rK_l h1)))
theorem pE_4n (h1 : ¬ (rB T n s.1 < n ∧ T (rB T n s.1) = 43)) (h2 : ¬ (rB T n s.1 < n ∧ T (rB T n s.1) = 45)) : pE T n 4 d s (.inr (rA (rB T n s.1) s)) := pE_of (fun M => (if_neg h1).trans (if_neg h2))
-- a comparison
theorem pE_5a (k : pE T n 3 d s (.inl e)) : pE T n 5 d s (.inl e) := pE_o1 k (fun M h1 => rK_l h1)
theorem pE_5b (k : pE T n 3 d s (.inr s1)) (h : rCm T n (rB T n s1.1) = none) : pE T n 5 d s (.inl (1 + 8 * rB T n s1.1 + 0)) :=
  pE_o1 k (fun M h1 => (rK_r h1).trans (by (try dsimp only); rw [h]; rfl))
theorem pE_5c {q : Nat × Nat} (k : pE T n 3 d s (.inr s1)) (h : rCm T n (rB T n s1.1) = some q) (h8 : s1.2.1 = 80) : pE T n 5 d s (.inl (1 + 8 * rB T n s1.1 + 3)) :=
  pE_o1 k (fun M h1 => (rK_r h1).trans (by (try dsimp only); rw [h]; (try dsimp only); unfold rC; rw [if_pos h8]; rfl))
theorem pE_5d {q : Nat × Nat} (k : pE T n 3 d s (.inr s1)) (h : rCm T n (rB T n s1.1) = some q) (h8 : s1.2.1 ≠ 80) (k2 : pE T n 3 d (q.2, s1.2.1 + 1, s1.2.2) (.inl e)) : pE T n 5 d s (.inl e) :=
  pE_o2 k k2 (fun M h1 h2 => (rK_r h1).trans (by (try dsimp only); rw [h]; (try dsimp only); unfold rC; rw [if_neg h8]; show rK (rX T n M 3 d (q.2, s1.2.1 + 1, s1.2.2)) _ = _; exact rK_l h2))
theorem pE_5e {q : Nat × Nat} {s3 : rS} (k : pE T n 3 d s (.inr s1)) (h : rCm T n (rB T n s1.1) = some q) (h8 : s1.2.1 ≠ 80) (k2 : pE T n 3 d (q.2, s1.2.1 + 1, s1.2.2) (.inr s3)) : pE T n 5 d s (.inr (rU q.1 s3)) :=
  pE_o2 k k2 (fun M h1 h2 => (rK_r h1).trans (by (try dsimp only); rw [h]; (try dsimp only); unfold rC; rw [if_neg h8]; show rK (rX T n M 3 d (q.2, s1.2.1 + 1, s1.2.2)) _ = _; exact rK_r h2))
-- a fact
theorem no_91 {b : Nat} (h : b < n ∧ T b = 91) {i : Nat} (hi : i < 20) : ¬ rW T n b (rWd i) = true := fun z => by
  have := rW_l hi z
  rw [h.2] at this
  exact absurd this.2 (by decide)
theorem pE_6a (hc : rW T n (rB T n s.1) (rWd 19) = true) (hd : d = 10) : pE T n 6 d s (.inl (1 + 8 * rB T n s.1 + 2)) := pE_of (fun M => rX_6.trans ((if_pos hc).trans (if_pos hd)))
theorem pE_6b (hc : rW T n (rB T n s.1) (rWd 19) = true) (hd : d ≠ 10) (k : pE T n 6 (d + 1) (rA (rB T n s.1 + 3) s) (.inl e)) : pE T n 6 d s (.inl e) :=
  pE_o1 k (fun M h1 => rX_6.trans ((if_pos hc).trans ((if_neg hd).trans (rK_l h1))))
theorem pE_6c (hc : rW T n (rB T n s.1) (rWd 19) = true) (hd : d ≠ 10) (k : pE T n 6 (d + 1) (rA (rB T n s.1 + 3) s) (.inr s1)) : pE T n 6 d s (.inr (rU 100110 s1)) :=
  pE_o1 k (fun M h1 => rX_6.trans ((if_pos hc).trans ((if_neg hd).trans (rK_r h1))))
theorem pE_6d (hc : rB T n s.1 < n ∧ T (rB T n s.1) = 91) (hd : d = 10) : pE T n 6 d s (.inl (1 + 8 * rB T n s.1 + 2)) := pE_of (fun M => rX_6.trans ((if_neg (no_91 hc (by decide))).trans ((if_pos hc).trans (if_pos hd))))
theorem pE_6e (hc : rB T n s.1 < n ∧ T (rB T n s.1) = 91) (hd : d ≠ 10) (k : pE T n 9 (d + 1) (rA (rB T n s.1 + 1) s) (.inl e)) : pE T n 6 d s (.inl e) :=
  pE_o1 k (fun M h1 => rX_6.trans ((if_neg (no_91 hc (by decide))).trans ((if_pos hc).trans ((if_neg hd).trans (rK_l h1)))))
theorem pE_6g (hc : rB T n s.1 < n ∧ T (rB T n s.1) = 91) (hd : d ≠ 10) (k : pE T n 9 (d + 1) (rA (rB T n s.1 + 1) s) (.inr s1)) (h : rT T n 93 s1 = some r) : pE T n 6 d s r :=
  pE_o1 k (fun M h1 => rX_6.trans ((if_neg (no_91 hc (by decide))).trans ((if_pos hc).trans ((if_neg hd).trans ((rK_r h1).trans h)))))
theorem pE_6h (hc : ¬ rW T n (rB T n s.1) (rWd 19) = true) (hc2 : ¬ (rB T n s.1 < n ∧ T (rB T n s.1) = 91)) (k : pE T n 5 d (rA (rB T n s.1) s) r) : pE T n 6 d s r :=
  pE_o1 k (fun M h1 => rX_6.trans ((if_neg hc).trans ((if_neg hc2).trans h1)))
-- a value
theorem no_40 {b : Nat} (h : b < n ∧ T b = 40) {i : Nat} (hi : i < 20) : ¬ rW T n b (rWd i) = true := fun z => by
  have := rW_l hi z
  rw [h.2] at this
  exact absurd this.2 (by decide)
theorem pE_0a (hc : rB T n s.1 < n ∧ T (rB T n s.1) = 40) (hd : d = 10) : pE T n 0 d s (.inl (1 + 8 * rB T n s.1 + 2)) := pE_of (fun M => (if_pos hc).trans (if_pos hd))
theorem pE_0b (hc : rB T n s.1 < n ∧ T (rB T n s.1) = 40) (hd : d ≠ 10) (h8 : s.2.1 = 80) : pE T n 0 d s (.inl (1 + 8 * rB T n s.1 + 3)) :=
  pE_of (fun M => (if_pos hc).trans ((if_neg hd).trans (by unfold rC; rw [if_pos h8]; rfl)))
theorem pE_0c (hc : rB T n s.1 < n ∧ T (rB T n s.1) = 40) (hd : d ≠ 10) (h8 : s.2.1 ≠ 80) (k : pE T n 3 (d + 1) (rB T n s.1 + 1, s.2.1 + 1, s.2.2) (.inl e)) : pE T n 0 d s (.inl e) :=
  pE_o1 k (fun M h1 => (if_pos hc).trans ((if_neg hd).trans (by unfold rC; rw [if_neg h8]; show rK (rX T n M 3 (d + 1) (rB T n s.1 + 1, s.2.1 + 1, s.2.2)) (rT T n 41) = _; exact rK_l h1)))
theorem pE_0d (hc : rB T n s.1 < n ∧ T (rB T n s.1) = 40) (hd : d ≠ 10) (h8 : s.2.1 ≠ 80) (k : pE T n 3 (d + 1) (rB T n s.1 + 1, s.2.1 + 1, s.2.2) (.inr s1)) (h : rT T n 41 s1 = some r) : pE T n 0 d s r :=
  pE_o1 k (fun M h1 => (if_pos hc).trans ((if_neg hd).trans (by unfold rC; rw [if_neg h8]; show rK (rX T n M 3 (d + 1) (rB T n s.1 + 1, s.2.1 + 1, s.2.2)) (rT T n 41) = _; exact (rK_r h1).trans h)))
theorem pE_0w {k : Nat} (hk : k < 12) (hw : rW T n (rB T n s.1) (rWd k) = true) (h8 : s.2.1 ≠ 80) : pE T n 0 d s (.inr (rE T n (rB T n s.1), s.2.1 + 1, s.2.2 ++ [100000 + k])) :=
  pE_of (fun M => (if_neg (fun z => no_40 z (by omega) hw)).trans (by rw [rK12_i hk hw]; (try dsimp only); unfold rC; rw [if_neg h8]; rfl))
theorem pE_0x {k : Nat} (hk : k < 12) (hw : rW T n (rB T n s.1) (rWd k) = true) (h8 : s.2.1 = 80) : pE T n 0 d s (.inl (1 + 8 * rB T n s.1 + 3)) :=
  pE_of (fun M => (if_neg (fun z => no_40 z (by omega) hw)).trans (by rw [rK12_i hk hw]; (try dsimp only); unfold rC; rw [if_pos h8]; rfl))
theorem pE_0m (hc : ¬ (rB T n s.1 < n ∧ T (rB T n s.1) = 40)) (hw : ∀ k, k < 12 → ¬ rW T n (rB T n s.1) (rWd k) = true) (h : rM T n 99999 (rB T n s.1) = .inl e) : pE T n 0 d s (.inl e) :=
  pE_of (fun M => (if_neg hc).trans (by rw [rK12_n hw]; (try dsimp only); rw [h]))
theorem pE_0y {q : Nat × Nat} (hc : ¬ (rB T n s.1 < n ∧ T (rB T n s.1) = 40)) (hw : ∀ k, k < 12 → ¬ rW T n (rB T n s.1) (rWd k) = true) (h : rM T n 99999 (rB T n s.1) = .inr q) (h8 : s.2.1 = 80) : pE T n 0 d s (.inl (1 + 8 * rB T n s.1 + 3)) :=
  pE_of (fun M => (if_neg hc).trans (by rw [rK12_n hw]; (try dsimp only); rw [h]; (try dsimp only); unfold rC; rw [if_pos h8]; rfl))
theorem pE_0z {q : Nat × Nat} (hc : ¬ (rB T n s.1 < n ∧ T (rB T n s.1) = 40)) (hw : ∀ k, k < 12 → ¬ rW T n (rB T n s.1) (rWd k) = true) (h : rM T n 99999 (rB T n s.1) = .inr q) (h8 : s.2.1 ≠ 80) : pE T n 0 d s (.inr (q.1, s.2.1 + 1, s.2.2 ++ [q.2])) :=
  pE_of (fun M => (if_neg hc).trans (by rw [rK12_n hw]; (try dsimp only); rw [h]; (try dsimp only); unfold rC; rw [if_neg h8]; rfl))
/-- it goes on, no further than the end, and tells no more than it has passed -/
noncomputable def rPg (n : Nat) (s s2 : rS) : Prop := s.1 ≤ s2.1 ∧ s2.1 ≤ n ∧ s.1 + s2.2.2.length ≤ s2.1 + s.2.2.length
theorem rPg_t {s s1 s2 : rS} (a : rPg n s s1) (b : rPg n s1 s2) : rPg n s s2 := by
  obtain ⟨a1, a2, a3⟩ := a
  obtain ⟨b1, b2, b3⟩ := b
  exact ⟨by omega, by omega, by omega⟩
theorem rPg_u {s s1 : rS} {c b : Nat} (h : s.1 < b) (k : rPg n (rA b s) s1) : rPg n s (rU c s1) := by
  obtain ⟨a1, a2, a3⟩ := k
  have a1 : b ≤ s1.1 := a1
  have a3 : b + s1.2.2.length ≤ s1.1 + s.2.2.length := a3
  refine ⟨?_, a2, ?_⟩
  · show s.1 ≤ s1.1; omega
  · show s.1 + (s1.2.2 ++ [c]).length ≤ s1.1 + s.2.2.length
    rw [List.length_append]
    show s.1 + (s1.2.2.length + 1) ≤ _
    omega
theorem rM_r {most p : Nat} {q : Nat × Nat} (hp : p ≤ n) (h : rM T n most p = .inr q) : rB T n p < q.1 ∧ q.1 ≤ n ∧ q.2 ≤ most := by
  unfold rM at h
  have h1 := rD_ge (T := T) (n := n) (p := rB T n p)
  have h2 := rD_le (T := T) (n := n) (rB_le (T := T) hp)
  by_cases c1 : rD T n (rB T n p) = rB T n p
  · rw [if_pos c1] at h; cases h
  · rw [if_neg c1] at h
    by_cases c2 : 5 < rD T n (rB T n p) - rB T n p ∨ most < rV T (rB T n p) (rD T n (rB T n p) - rB T n p)
    · rw [if_pos c2] at h; cases h
    · rw [if_neg c2] at h
      cases h
      exact ⟨by show _ < rD T n (rB T n p); omega, h2, by show rV T (rB T n p) (rD T n (rB T n p) - rB T n p) ≤ most; omega⟩
theorem rCm_n {b : Nat} {q : Nat × Nat} (h : rCm T n b = some q) : q.2 ≤ n := by
  unfold rCm at h
  split at h
  · cases h; show _ + 1 ≤ _; omega
  · split at h
    · split at h <;> (cases h; show _ + _ ≤ _; omega)
    · split at h
      · split at h <;> (cases h; show _ + _ ≤ _; omega)
      · cases h
theorem rC_s {p : Nat} {k : rS → rR} (h : rK (rC p s) k = some (.inr s1)) : k (s.1, s.2.1 + 1, s.2.2) = some (.inr s1) := by
  rcases rC_i h with ⟨-, z⟩ | ⟨-, z⟩
  · cases z
  · exact z
theorem rK_s {x : rR} {k : rS → rR} {s2 : rS} (h : rK x k = some (.inr s2)) : ∃ s1, x = some (.inr s1) ∧ k s1 = some (.inr s2) := by
  rcases rK_i h with ⟨e, -, z⟩ | z
  · cases z
  · exact z
theorem rT_s {c : Int32} {s2 : rS} (h : rT T n c s1 = some (.inr s2)) (hp : s1.1 ≤ n) : rPg n s1 s2 := by
  unfold rT at h
  by_cases c1 : rB T n s1.1 < n ∧ T (rB T n s1.1) = c
  · rw [if_pos c1] at h
    cases h
    have := rB_ge (T := T) (n := n) (p := s1.1)
    refine ⟨?_, ?_, ?_⟩
    · show s1.1 ≤ rB T n s1.1 + 1; omega
    · show rB T n s1.1 + 1 ≤ n; omega
    · show s1.1 + s1.2.2.length ≤ rB T n s1.1 + 1 + s1.2.2.length; omega
  · rw [if_neg c1] at h; cases h
theorem rB_pg (hp : s.1 ≤ n) : rPg n s (rA (rB T n s.1) s) := by
  have h1 := rB_ge (T := T) (n := n) (p := s.1)
  have h2 := rB_le (T := T) hp
  exact ⟨h1, h2, by show s.1 + s.2.2.length ≤ rB T n s.1 + s.2.2.length; omega⟩
theorem rX_7 {f d : Nat} {s : rS} : rX T n (f + 1) 0 d s = (if rB T n s.1 < n ∧ T (rB T n s.1) = 40 then (if d = 10 then rF (rB T n s.1) 2 else rK (rC (rB T n s.1) s) (fun s1 => rK (rX T n f 3 (d + 1) (rA (rB T n s.1 + 1) s1)) (rT T n 41)))
      else (match rK12 T n (rB T n s.1) with
        | some k => rK (rC (rB T n s.1) s) (fun s1 => rO (rU (100000 + k) (rA (rE T n (rB T n s.1)) s1)))
        | none => (match rM T n 99999 (rB T n s.1) with
          | .inl e => some (.inl e)
          | .inr q => rK (rC (rB T n s.1) s) (fun s1 => rO (rU q.2 (rA q.1 s1)))))) := rfl
theorem rX_pg : ∀ (f m d : Nat) (s s2 : rS), rX T n f m d s = some (.inr s2) → s.1 ≤ n → rPg n s s2
  | 0, _, _, _, _, h, _ => by
    have h : (none : rR) = _ := h
    cases h
  | f + 1, m, d, s, s2, h, hp => by
    have ih := rX_pg f
    have hb := rB_ge (T := T) (n := n) (p := s.1)
    have hbn := rB_le (T := T) hp
    match m, h with
    | 0, h =>
      rw [rX_7] at h
      by_cases c1 : rB T n s.1 < n ∧ T (rB T n s.1) = 40
      · rw [if_pos c1] at h
        by_cases c2 : d = 10
        · rw [if_pos c2] at h; cases h
        · rw [if_neg c2] at h
          have h := rC_s h
          obtain ⟨s3, h1, h2⟩ := rK_s h
          have k1 := ih 3 _ _ _ h1 (by show rB T n s.1 + 1 ≤ n; omega)
          have k2 := rT_s h2 k1.2.1
          have k := rPg_t k1 k2
          obtain ⟨a1, a2, a3⟩ := k
          have a1 : rB T n s.1 + 1 ≤ s2.1 := a1
          have a3 : rB T n s.1 + 1 + s2.2.2.length ≤ s2.1 + s.2.2.length := a3
          exact ⟨by omega, a2, by omega⟩
      · rw [if_neg c1] at h
        cases c2 : rK12 T n (rB T n s.1) with
        | some k =>
          rw [c2] at h
          have h := rC_s h
          have e := Option.some.inj h
          cases e
          obtain ⟨k1, k2⟩ := rK12_s c2
          have k3 := rW_l (by omega) k2
          have k4 := rE_ge (T := T) (n := n) (p := rB T n s.1 + 1)
          rw [← rE_y k3] at k4
          have k5 := rE_le (T := T) hbn
          refine ⟨?_, k5, ?_⟩
          · show s.1 ≤ rE T n (rB T n s.1); omega
          · show s.1 + (s.2.2 ++ [100000 + k]).length ≤ rE T n (rB T n s.1) + s.2.2.length
            rw [List.length_append]
            show s.1 + (s.2.2.length + 1) ≤ _
            omega
        | none =>
          rw [c2] at h
          try dsimp only at h
          cases c3 : rM T n 99999 (rB T n s.1) with
          | inl e => rw [c3] at h; cases h
          | inr q =>
            rw [c3] at h
            have h := rC_s h
            have e := Option.some.inj h
            cases e
            obtain ⟨k1, k2, -⟩ := rM_r hbn c3
            rw [rB_2] at k1
            refine ⟨?_, k2, ?_⟩
            · show s.1 ≤ q.1; omega
            · show s.1 + (s.2.2 ++ [q.2]).length ≤ q.1 + s.2.2.length
              rw [List.length_append]
              show s.1 + (s.2.2.length + 1) ≤ _
              omega
    | 1, h =>
      obtain ⟨s3, h1, h2⟩ := rK_s (k := rX T n f 2 d) h
      have k1 := ih 0 _ _ _ h1 hp
      exact rPg_t k1 (ih 2 _ _ _ h2 k1.2.1)
    | 2, h =>
      have h : (if rB T n s.1 < n ∧ T (rB T n s.1) = 42 then rK (rX T n f 0 d (rA (rB T n s.1 + 1) s)) (fun s1 => rX T n f 2 d (rU 100102 s1)) else rO (rA (rB T n s.1) s)) = _ := h
      by_cases c1 : rB T n s.1 < n ∧ T (rB T n s.1) = 42
      · rw [if_pos c1] at h
        obtain ⟨s3, h1, h2⟩ := rK_s h
        have k1 := ih 0 _ _ _ h1 (by show rB T n s.1 + 1 ≤ n; omega)
        exact rPg_t (rPg_u (by omega) k1) (ih 2 _ _ _ h2 k1.2.1)
      · rw [if_neg c1] at h
        cases h
        exact rB_pg hp
    | 3, h =>
      obtain ⟨s3, h1, h2⟩ := rK_s (k := rX T n f 4 d) h
      have k1 := ih 1 _ _ _ h1 hp
      exact rPg_t k1 (ih 4 _ _ _ h2 k1.2.1)
    | 4, h =>
      have h : (if rB T n s.1 < n ∧ T (rB T n s.1) = 43 then rK (rX T n f 1 d (rA (rB T n s.1 + 1) s)) (fun s1 => rX T n f 4 d (rU 100100 s1))
        else if rB T n s.1 < n ∧ T (rB T n s.1) = 45 then rK (rX T n f 1 d (rA (rB T n s.1 + 1) s)) (fun s1 => rX T n f 4 d (rU 100101 s1))
        else rO (rA (rB T n s.1) s)) = _ := h
      by_cases c1 : rB T n s.1 < n ∧ T (rB T n s.1) = 43
      · rw [if_pos c1] at h
        obtain ⟨s3, h1, h2⟩ := rK_s h
        have k1 := ih 1 _ _ _ h1 (by show rB T n s.1 + 1 ≤ n; omega)
        exact rPg_t (rPg_u (by omega) k1) (ih 4 _ _ _ h2 k1.2.1)
      · rw [if_neg c1] at h
        by_cases c2 : rB T n s.1 < n ∧ T (rB T n s.1) = 45
        · rw [if_pos c2] at h
          obtain ⟨s3, h1, h2⟩ := rK_s h
          have k1 := ih 1 _ _ _ h1 (by show rB T n s.1 + 1 ≤ n; omega)
          exact rPg_t (rPg_u (by omega) k1) (ih 4 _ _ _ h2 k1.2.1)
        · rw [if_neg c2] at h
          cases h
          exact rB_pg hp
    | 5, h =>
      obtain ⟨s3, h1, h2⟩ := rK_s (x := rX T n f 3 d s) h
      have k1 := ih 3 _ _ _ h1 hp
      try dsimp only at h2
      cases c1 : rCm T n (rB T n s3.1) with
      | none => rw [c1] at h2; cases h2
      | some q =>
        rw [c1] at h2
        have h2 := rC_s h2
        obtain ⟨s4, h3, h4⟩ := rK_s h2
        have e := Option.some.inj h4
        cases e
        obtain ⟨-, -, q3⟩ := rCm_r c1
        have q4 := rCm_n c1
        have k2 := ih 3 _ _ _ h3 q4
        have k3 := rB_ge (T := T) (n := n) (p := s3.1)
        exact rPg_t k1 (rPg_u (s := s3) (b := q.2) (by omega) k2)
    | 6, h =>
      rw [rX_6] at h
      by_cases c1 : rW T n (rB T n s.1) (rWd 19) = true
      · rw [if_pos c1] at h
        by_cases c2 : d = 10
        · rw [if_pos c2] at h; cases h
        · rw [if_neg c2] at h
          obtain ⟨s3, h1, h2⟩ := rK_s h
          have e := Option.some.inj h2
          cases e
          have e3 : rE T n (rB T n s.1) = rB T n s.1 + 3 := rW_e c1
          have k5 := rE_le (T := T) hbn
          have k1 := ih 6 _ _ _ h1 (by show rB T n s.1 + 3 ≤ n; omega)
          exact rPg_u (by omega) k1
      · rw [if_neg c1] at h
        by_cases c3 : rB T n s.1 < n ∧ T (rB T n s.1) = 91
        · rw [if_pos c3] at h
          by_cases c2 : d = 10
          · rw [if_pos c2] at h; cases h
          · rw [if_neg c2] at h
            obtain ⟨s3, h1, h2⟩ := rK_s h
            have k1 := ih 9 _ _ _ h1 (by show rB T n s.1 + 1 ≤ n; omega)
            have k := rPg_t k1 (rT_s h2 k1.2.1)
            obtain ⟨a1, a2, a3⟩ := k
            have a1 : rB T n s.1 + 1 ≤ s2.1 := a1
            have a3 : rB T n s.1 + 1 + s2.2.2.length ≤ s2.1 + s.2.2.length := a3
            exact ⟨by omega, a2, by omega⟩
        · rw [if_neg c3] at h
          exact rPg_t (rB_pg hp) (ih 5 _ _ _ h hbn)
    | 7, h =>
      obtain ⟨s3, h1, h2⟩ := rK_s (k := rX T n f 8 d) h
      have k1 := ih 6 _ _ _ h1 hp
      exact rPg_t k1 (ih 8 _ _ _ h2 k1.2.1)
    | 8, h =>
      have h : (if rW T n (rB T n s.1) (rWd 18) = true then rK (rX T n f 6 d (rA (rB T n s.1 + 3) s)) (fun s1 => rX T n f 8 d (rU 100109 s1)) else rO (rA (rB T n s.1) s)) = _ := h
      by_cases c1 : rW T n (rB T n s.1) (rWd 18) = true
      · rw [if_pos c1] at h
        obtain ⟨s3, h1, h2⟩ := rK_s h
        have e3 : rE T n (rB T n s.1) = rB T n s.1 + 3 := rW_e c1
        have k5 := rE_le (T := T) hbn
        have k1 := ih 6 _ _ _ h1 (by show rB T n s.1 + 3 ≤ n; omega)
        exact rPg_t (rPg_u (by omega) k1) (ih 8 _ _ _ h2 k1.2.1)
      · rw [if_neg c1] at h
        cases h
        exact rB_pg hp
    | 9, h =>
      obtain ⟨s3, h1, h2⟩ := rK_s (k := rX T n f 10 d) h
      have k1 := ih 7 _ _ _ h1 hp
      exact rPg_t k1 (ih 10 _ _ _ h2 k1.2.1)
    | m + 10, h =>
      have h : (if rW T n (rB T n s.1) (rWd 17) = true then rK (rX T n f 7 d (rA (rB T n s.1 + 2) s)) (fun s1 => rX T n f 10 d (rU 100108 s1)) else rO (rA (rB T n s.1) s)) = _ := h
      by_cases c1 : rW T n (rB T n s.1) (rWd 17) = true
      · rw [if_pos c1] at h
        obtain ⟨s3, h1, h2⟩ := rK_s h
        have e3 : rE T n (rB T n s.1) = rB T n s.1 + 2 := rW_e c1
        have k5 := rE_le (T := T) hbn
        have k1 := ih 7 _ _ _ h1 (by show rB T n s.1 + 2 ≤ n; omega)
        exact rPg_t (rPg_u (by omega) k1) (ih 10 _ _ _ h2 k1.2.1)
      · rw [if_neg c1] at h
        cases h
        exact rB_pg hp
theorem pE_pg {m : Nat} (k : pE T n m d s (.inr s1)) (hp : s.1 ≤ n) : rPg n s s1 := by
  obtain ⟨N, k⟩ := k
  exact rX_pg N m d s s1 (k N (Nat.le_refl _)) hp
end PE
/-! the going-down reader's object: 44 with its bytes 45, its codes 46, its clauses 47 -/
noncomputable def cCo (h : zH) : List Nat := (List.range (tvI (tF h 44 5)).toNatClampNeg).map (fun i => (tA h 46 i).toNatClampNeg)
noncomputable def cs (h : zH) : rS := ((tvI (tF h 44 2)).toNatClampNeg, (tvI (tF h 44 8)).toNatClampNeg, cCo h)
noncomputable abbrev cn (h : zH) : Nat := (tvI (tF h 44 1)).toNatClampNeg
noncomputable def cFr (h h2 : zH) : Prop := tSh h2 ∧ (∀ p b, ¬ (p = 44 ∧ (b = 2 ∨ b = 3 ∨ b = 5 ∨ b = 8 ∨ b = 9)) → tF h2 p b = tF h p b) ∧ (∀ p, p ≠ 46 → tA h2 p = tA h p) ∧ tN h2 = tN h
noncomputable def cP (h : zH) : Prop := (0 ≤ (tvI (tF h 44 2)).toInt ∧ (tvI (tF h 44 2)).toInt ≤ (tvI (tF h 44 1)).toInt ∧ (tvI (tF h 44 1)).toInt ≤ 400) ∧ (0 ≤ (tvI (tF h 44 8)).toInt ∧ (tvI (tF h 44 8)).toInt ≤ 80) ∧ (0 ≤ (tvI (tF h 44 5)).toInt ∧ (tvI (tF h 44 5)).toInt ≤ (tvI (tF h 44 2)).toInt) ∧ (∀ i, i < 400 → -128 ≤ (tA h 45 i).toInt ∧ (tA h 45 i).toInt ≤ 127) ∧ tN h 46 = 400 ∧ tF h 44 9 = .int (-1)
/-- one field was written -/
noncomputable def cSet (b : Nat) (X : Int32) (h h3 : zH) : Prop := tSh h3 ∧ tF h3 44 b = .int X ∧ (∀ p q, ¬ (p = 44 ∧ q = b) → tF h3 p q = tF h p q) ∧ tA h3 = tA h ∧ tN h3 = tN h
section CF
variable {h h1 h2 h3 : zH} {b : Nat} {X : Int32}
theorem cSet_of (hf : tFd h 44 b) (hs : tSh (tSF h 44 b (.int X))) : cSet b X h (tSF h 44 b (.int X)) := ⟨hs, tF_same hf, fun _ _ hn => tF_nz hn, tA_tSF _ _ _ _, tN_tSF _ _ _ _⟩
theorem tG_set {tt : zT} {G : zG} {cd : zK} {bc bs : Nat} {rt : Option FieldType} {M : zM} {Q : zQ} {Z : zX} {f : Bool} {pc : Nat} {L : zL} {st : List Value} {c n : Nat} (hf : tFd h 44 b) (hs : tSh (tSF h 44 b (.int X))) (k : ∀ h3, cSet b X h h3 → tG tt G cd bc bs rt M Q Z f pc L st h3 c n) : tG tt G cd bc bs rt M Q Z f pc L st (tSF h 44 b (.int X)) c n := k _ (cSet_of hf hs)
theorem cFr_r (hs : tSh h) : cFr h h := ⟨hs, fun _ _ _ => rfl, fun _ _ => rfl, rfl⟩
theorem cFr_t (a : cFr h h1) (k : cFr h1 h2) : cFr h h2 := ⟨k.1, fun p q z => (k.2.1 p q z).trans (a.2.1 p q z), fun p z => (k.2.2.1 p z).trans (a.2.2.1 p z), k.2.2.2.trans a.2.2.2⟩
theorem cFr_s (a : cFr h h1) (k : cSet b X h1 h2) (hb : b = 2 ∨ b = 3 ∨ b = 5 ∨ b = 8 ∨ b = 9) : cFr h h2 := ⟨k.1, fun p q z => (k.2.2.1 p q (fun w => z ⟨w.1, w.2.symm ▸ hb⟩)).trans (a.2.1 p q z), fun p z => (congrFun k.2.2.2.1 p).trans (a.2.2.1 p z), k.2.2.2.2.trans a.2.2.2⟩
theorem cFr_T (a : cFr h h1) : tA h1 45 = tA h 45 := a.2.2.1 45 (by decide)
theorem cFr_1 (a : cFr h h1) : tvI (tF h1 44 1) = tvI (tF h 44 1) := congrArg tvI (a.2.1 44 1 (by decide))
theorem cFr_n (a : cFr h h1) : cn h1 = cn h := by unfold cn; rw [cFr_1 a]
theorem cI_x (k : cSet b X h h3) : tvI (tF h3 44 b) = X := congrArg tvI k.2.1
theorem cI_o {q : Nat} (k : cSet b X h h3) (hq : q ≠ b) : tvI (tF h3 44 q) = tvI (tF h 44 q) := congrArg tvI (k.2.2.1 44 q (fun z => hq z.2))
theorem cCo_o (k : cSet b X h h3) (hb : b ≠ 5) : cCo h3 = cCo h := by
  unfold cCo
  rw [cI_o k (fun z => hb z.symm), k.2.2.2.1]
theorem cs_2 (k : cSet 2 X h h3) : cs h3 = rA X.toNatClampNeg (cs h) := by
  unfold cs
  rw [cI_x k, cI_o k (by decide), cCo_o k (by decide)]
  rfl
theorem cs_8 (k : cSet 8 X h h3) : cs h3 = ((cs h).1, X.toNatClampNeg, (cs h).2.2) := by
  unfold cs
  rw [cI_x k, cI_o k (by decide), cCo_o k (by decide)]
theorem cs_o (k : cSet b X h h3) (h2 : b ≠ 2) (h5 : b ≠ 5) (h8 : b ≠ 8) : cs h3 = cs h := by
  unfold cs
  rw [cI_o k (fun z => h2 z.symm), cI_o k (fun z => h8 z.symm), cCo_o k h5]
theorem cCo_len : (cCo h).length = (tvI (tF h 44 5)).toNatClampNeg := by unfold cCo; rw [List.length_map, List.length_range]
theorem zj1 {x : Int32} (hx : 0 ≤ x.toInt) {y : Int32} (hy : x.toInt < y.toInt) : (x + 1).toInt = x.toInt + 1 := by
  have := Int32.toInt_lt y
  rw [Int32.toInt_add]
  exact Int.bmod_eq_of_le (by show (-2147483648 : Int) ≤ x.toInt + 1; omega) (by show x.toInt + 1 < (2147483648 : Int); omega)
theorem zj1n {x : Int32} (hx : 0 ≤ x.toInt) {y : Int32} (hy : x.toInt < y.toInt) : (x + 1).toNatClampNeg = x.toNatClampNeg + 1 := by
  rw [zclE, zclE, zj1 hx hy]
  omega
theorem cP_len (p : cP h) : (cs h).2.2.length ≤ (cs h).1 := by
  show (cCo h).length ≤ (tvI (tF h 44 2)).toNatClampNeg
  rw [cCo_len, zclE, zclE]
  have := p.2.2.1
  omega
theorem cP_le (p : cP h) : (cs h).1 ≤ cn h := by
  show (tvI (tF h 44 2)).toNatClampNeg ≤ (tvI (tF h 44 1)).toNatClampNeg
  rw [zclE, zclE]
  have := p.1
  omega
theorem cP_400 (p : cP h) : cn h ≤ 400 := by
  show (tvI (tF h 44 1)).toNatClampNeg ≤ 400
  rw [zclE]
  have := p.1
  omega
/-- the place was moved on -/
theorem cP_2 (p : cP h) (k : cSet 2 X h h3) (h1 : (tvI (tF h 44 2)).toInt ≤ X.toInt) (h2 : X.toInt ≤ (tvI (tF h 44 1)).toInt) : cP h3 := by
  obtain ⟨a, b, c, d, e, e9⟩ := p
  refine ⟨?_, ?_, ?_, ?_, ?_, (k.2.2.1 44 9 (by decide)).trans e9⟩
  · rw [cI_x k, cI_o k (by decide)]; omega
  · rw [cI_o k (by decide)]; exact b
  · rw [cI_x k, cI_o k (by decide)]; omega
  · rw [k.2.2.2.1]; exact d
  · rw [k.2.2.2.2]; exact e
theorem cP_8 (p : cP h) (k : cSet 8 X h h3) (h1 : 0 ≤ X.toInt) (h2 : X.toInt ≤ 80) : cP h3 := by
  obtain ⟨a, b, c, d, e, e9⟩ := p
  refine ⟨?_, ?_, ?_, ?_, ?_, (k.2.2.1 44 9 (by decide)).trans e9⟩
  · rw [cI_o k (by decide), cI_o k (by decide)]; exact a
  · rw [cI_x k]; omega
  · rw [cI_o k (by decide), cI_o k (by decide)]; exact c
  · rw [k.2.2.2.1]; exact d
  · rw [k.2.2.2.2]; exact e
theorem cP_o (p : cP h) (k : cSet b X h h3) (h2 : b = 3) : cP h3 := by
  have e2 := cI_o (q := 2) k (by omega)
  have e1 := cI_o (q := 1) k (by omega)
  have e8 := cI_o (q := 8) k (by omega)
  have e5 := cI_o (q := 5) k (by omega)
  unfold cP
  rw [e2, e1, e8, e5, k.2.2.2.1, k.2.2.2.2, k.2.2.1 44 9 (by omega)]
  exact p
/-- a sign: the byte there, below 256, or none -/
noncomputable def sgn (T : Nat → Int32) (n b : Nat) (c : Int32) : Prop := (∀ k : Int32, 0 ≤ k.toInt → k.toInt ≤ 127 → (c = k ↔ b < n ∧ T b = k)) ∧ (c = -1 ↔ ¬ b < n)
theorem sgn_n {T : Nat → Int32} {n b : Nat} (h : ¬ b < n) : sgn T n b (-1) := ⟨fun k h1 _ => ⟨fun z => by rw [← z] at h1; exact absurd h1 (by decide), fun z => absurd z.1 h⟩, ⟨fun _ => h, fun _ => rfl⟩⟩
theorem z255 : (List.range 256).all (fun k => decide (((Int32.ofInt ((k : Int) - 128)) &&& 255).toInt = (if k < 128 then (k : Int) + 128 else (k : Int) - 128))) = true := by decide +kernel
theorem zand255 {x : Int32} (h : -128 ≤ x.toInt ∧ x.toInt ≤ 127) : (x &&& 255).toInt = if x.toInt < 0 then x.toInt + 256 else x.toInt := by
  have q := of_decide_eq_true (List.all_eq_true.mp z255 (x.toInt + 128).toNat (List.mem_range.mpr (by omega)))
  have e : (((x.toInt + 128).toNat : Nat) : Int) - 128 = x.toInt := by omega
  rw [e, Int32.ofInt_toInt] at q
  rw [q]
  by_cases z : x.toInt < 0
  · rw [if_pos z, if_pos (by omega)]; omega
  · rw [if_neg z, if_neg (by omega)]
theorem sgn_y {T : Nat → Int32} {n b : Nat} (h : b < n) (hr : -128 ≤ (T b).toInt ∧ (T b).toInt ≤ 127) : sgn T n b (T b &&& 255) := by
  have e := zand255 hr
  refine ⟨fun k h1 h2 => ⟨fun z => ⟨h, ?_⟩, fun z => ?_⟩, ⟨fun z => ?_, fun z => absurd h z⟩⟩
  · rw [z] at e
    refine Int32.toInt_inj.mp ?_
    by_cases y : (T b).toInt < 0
    · rw [if_pos y] at e; omega
    · rw [if_neg y] at e; omega
  · refine Int32.toInt_inj.mp ?_
    rw [e, z.2, if_neg (by omega)]
  · rw [z] at e
    have : ((-1 : Int32)).toInt = -1 := by decide
    by_cases y : (T b).toInt < 0
    · rw [if_pos y] at e; omega
    · rw [if_neg y] at e; omega
theorem sgn_k {T : Nat → Int32} {n b : Nat} {c : Int32} (s : sgn T n b c) (k : Int32) (hk : 0 ≤ k.toInt ∧ k.toInt ≤ 127) : c = k ↔ b < n ∧ T b = k := s.1 k hk.1 hk.2
/-- a fault is told -/
noncomputable def cFt (h : zH) (e : Nat) : Prop := tF h 44 9 = .int (Int32.ofNat e)
theorem zofI {e : Nat} (h : e < 2147483648) : (Int32.ofNat e).toInt = e := by
  rw [Int32.toInt_ofNat']
  exact Int.bmod_eq_of_le (by show (-2147483648 : Int) ≤ (e : Int); omega) (by show (e : Int) < (2147483648 : Int); omega)
theorem zfa {a y : Int32} {b w : Nat} (ha : a.toInt = b) (hb : b ≤ 400) (hy : y.toInt = w) (hw : w ≤ 7) : 1 + 8 * a + y = Int32.ofNat (1 + 8 * b + w) := by
  refine Int32.toInt_inj.mp ?_
  have e1 : (8 * a).toInt = 8 * b := by
    rw [Int32.toInt_mul, ha]
    show Int.bmod (8 * (b : Int)) _ = _
    exact Int.bmod_eq_of_le (by show (-2147483648 : Int) ≤ 8 * (b : Int); omega) (by show 8 * (b : Int) < (2147483648 : Int); omega)
  have e2 : (1 + 8 * a).toInt = 1 + 8 * b := by
    rw [Int32.toInt_add, e1]
    show Int.bmod (1 + 8 * (b : Int)) _ = _
    exact Int.bmod_eq_of_le (by show (-2147483648 : Int) ≤ 1 + 8 * (b : Int); omega) (by show 1 + 8 * (b : Int) < (2147483648 : Int); omega)
  rw [Int32.toInt_add, e2, hy, zofI (by omega)]
  exact (Int.bmod_eq_of_le (by show (-2147483648 : Int) ≤ 1 + 8 * (b : Int) + w; omega) (by show 1 + 8 * (b : Int) + w < (2147483648 : Int); omega)).trans (by omega)
/-- outcomes -/
noncomputable def cOut (X : rR) (h : zH) : zQ := fun w h2 => cFr h h2 ∧ ((w = some (.int 1) ∧ X = some (.inr (cs h2)) ∧ cP h2) ∨ (w = some (.int 0) ∧ ∃ e, X = some (.inl e) ∧ cFt h2 e))
noncomputable def cR (T : Nat → Int32) (n m d : Nat) (h : zH) : zQ := fun w h2 => cFr h h2 ∧ ((w = some (.int 1) ∧ pE T n m d (cs h) (.inr (cs h2)) ∧ cP h2) ∨ (w = some (.int 0) ∧ ∃ e, pE T n m d (cs h) (.inl e) ∧ cFt h2 e))
noncomputable def tCp (tt : zT) (G : zG) (d : Nat) (j : Nat) (as : List Value) (h : zH) (Q : zQ) : Prop := zW tt G d j as h tTr → zW tt G d j as h Q
theorem tCp.both {tt : zT} {G : zG} {d j : Nat} {as : List Value} {h : zH} {P Q : zQ} (k : tCp tt G d j as h Q) (z : zW tt G d j as h P) : zW tt G d j as h (fun w h2 => P w h2 ∧ Q w h2) := zW_conj tt G d _ _ _ _ _ z (k (zW_mono tt G d _ _ _ _ _ (fun _ _ _ => trivial) z))
theorem tCp_in {tt : zT} {G : zG} {j d : Nat} {as : List Value} {h : zH} {Q : zQ} {cd : zK} {nL : Nat} {rt : Option FieldType} {bc bs : Nat} (hj : G.1[j]? = some (cd, nL, rt, bc, bs)) (k : tG tt G cd bc bs rt (zW tt G d) Q tFz false 0 (zentry as nL) [] h 0 0) : tCp tt G (d + 1) j as h Q := by
  intro z
  unfold zW at z ⊢
  rw [hj] at z ⊢
  exact ⟨z.1, tG_end (zW_mono tt G d) k z.2⟩
theorem tw_virt1p {tt : zT} {G : zG} {cd : zK} {bc bs dp : Nat} {rt : Option FieldType} {Q : zQ} {Z : zX} {f : Bool} {pc nx a d : Nat} {v : Value} {L : zL} {s : List Value} {h : zH} {c n i r : Nat} {Qa : zQ} {x1 : Value} (hc : cd[pc]? = some (some (.invokevirtual i, nx, a, 1, d, v))) (kc : tCp tt G dp a (.ref r :: [x1]) h Qa) (k : ∀ w h2, Qa w h2 → tG tt G cd bc bs rt (zW tt G dp) Q Z true nx L (w.toList ++ s) h2 (c + (zbud G a).1) (n + (zbud G a).2)) : tG tt G cd bc bs rt (zW tt G dp) Q Z f pc L (x1 :: .ref r :: s) h c n := tG_row hc (fun z => Or.elim z (fun z => False.elim z) (fun z => Or.inr ⟨z.1, z.2.1, z.2.2.1, z.2.2.2.1, z.2.2.2.2.1, zW_mono tt G dp _ _ _ _ _ (fun w h2 q => k w h2 q.2 q.1) (tCp.both kc z.2.2.2.2.2)⟩))
noncomputable def cML : List (Nat × Nat) := [(0, 85), (1, 84), (3, 83), (5, 81), (6, 80), (7, 79), (9, 78)]
/-- the seven that call each other, at a depth of calls -/
noncomputable def cIH (G : zG) (dp : Nat) : Prop := ∀ (m j : Nat), (m, j) ∈ cML → ∀ (h : zH) (T : Nat → Int32) (n d : Nat) (x : Int32), tSh h → cP h → tA h 45 = T → cn h = n → x.toInt = d → d ≤ 10 → tCp zTt G dp j [.ref 44, .int x] h (cR T n m d h)
end CF
theorem cLt {h : zH} {n : Nat} (p : cP h) (hn : cn h = n) (q : (tvI (tF h 44 2)).toInt < (tvI (tF h 44 1)).toInt) : (cs h).1 < n := by
  rw [← hn]
  show (tvI (tF h 44 2)).toNatClampNeg < (tvI (tF h 44 1)).toNatClampNeg
  rw [zclE, zclE]
  have := p.1
  omega
theorem cGe {h : zH} {n : Nat} (p : cP h) (hn : cn h = n) (q : (tvI (tF h 44 1)).toInt ≤ (tvI (tF h 44 2)).toInt) : ¬ (cs h).1 < n := by
  rw [← hn]
  show ¬ (tvI (tF h 44 2)).toNatClampNeg < (tvI (tF h 44 1)).toNatClampNeg
  rw [zclE, zclE]
  have := p.1
  omega
theorem cLtI {h : zH} {n : Nat} (p : cP h) (hn : cn h = n) (q : (cs h).1 < n) : (tvI (tF h 44 2)).toInt < (tvI (tF h 44 1)).toInt := by
  rw [← hn] at q
  have q : (tvI (tF h 44 2)).toNatClampNeg < (tvI (tF h 44 1)).toNatClampNeg := q
  rw [zclE, zclE] at q
  have := p.1
  omega
theorem cInc {h h3 : zH} {n : Nat} (p : cP h) (hl : (cs h).1 < n) (hn : cn h = n) (e : cSet 2 (tvI (tF h 44 2) + 1) h h3) : cP h3 ∧ cs h3 = rA ((cs h).1 + 1) (cs h) := by
  have q := cLtI p hn hl
  have i1 := zj1 p.1.1 q
  refine ⟨cP_2 p e (by rw [i1]; omega) (by rw [i1]; omega), ?_⟩
  rw [cs_2 e, zj1n p.1.1 q]
  rfl
theorem cSg_o {T : Nat → Int32} {n : Nat} {h h1 : zH} (e1 : (cs h1).2 = (cs h).2) (e2 : rB T n (cs h1).1 = rB T n (cs h).1) (hb : ¬ ((cs h1).1 < n ∧ T (cs h1).1 = 32)) : cs h1 = rA (rB T n (cs h).1) (cs h) ∧ (cs h1).1 = rB T n (cs h).1 := by
  have z : (cs h1).1 = rB T n (cs h).1 := by rw [← e2, rB_n hb]
  exact ⟨Prod.ext z e1, z⟩
theorem c80 {h : zH} (q : tvI (tF h 44 8) = 80) : (cs h).2.1 = 80 := by
  show (tvI (tF h 44 8)).toNatClampNeg = 80
  rw [q]; rfl
theorem cn80 {h : zH} (p : cP h) (q : ¬ tvI (tF h 44 8) = 80) : (cs h).2.1 ≠ 80 := by
  intro z
  have z : (tvI (tF h 44 8)).toNatClampNeg = 80 := z
  rw [zclE] at z
  refine q (Int32.toInt_inj.mp ?_)
  show (tvI (tF h 44 8)).toInt = 80
  have := p.2.1
  omega
theorem cCnt {h h3 : zH} (p : cP h) (q : ¬ tvI (tF h 44 8) = 80) (e : cSet 8 (tvI (tF h 44 8) + 1) h h3) : cP h3 ∧ cs h3 = ((cs h).1, (cs h).2.1 + 1, (cs h).2.2) := by
  have q2 : (tvI (tF h 44 8)).toInt < (80 : Int32).toInt := by
    have a := p.2.1
    have b : (tvI (tF h 44 8)).toInt ≠ 80 := fun z => q (Int32.toInt_inj.mp z)
    show (tvI (tF h 44 8)).toInt < 80
    omega
  have i1 := zj1 p.2.1.1 q2
  have q3 : (tvI (tF h 44 8)).toInt < 80 := q2
  refine ⟨cP_8 p e (by rw [i1]; have := p.2.1; omega) (by rw [i1]; omega), ?_⟩
  rw [cs_8 e, zj1n p.2.1.1 q2]
  rfl
theorem cFt_of {h h2 : zH} {y : Int32} {w : Nat} (p : cP h) (f : tF h2 44 9 = .int (1 + 8 * tvI (tF h 44 2) + y)) (hy : y.toInt = w) (hw : w ≤ 7) : cFt h2 (1 + 8 * (cs h).1 + w) := by
  unfold cFt
  rw [f, zfa (b := (cs h).1) (w := w) ?_ ?_ hy hw]
  · show (tvI (tF h 44 2)).toInt = ((tvI (tF h 44 2)).toNatClampNeg : Int)
    rw [zclE]
    have := p.1
    omega
  · exact Nat.le_trans (cP_le p) (cP_400 p)
theorem cPut_of {h : zH} {k : Int32} {kd : Nat} (hs : tSh h) (p : cP h) (hc : (tvI (tF h 44 5)).toInt < (tvI (tF h 44 2)).toInt) (hf : tIn h 46 kd (tvI (tF h 44 5))) (hf2 : tFd (tSA h 46 (tvI (tF h 44 5)).toNatClampNeg k) 44 5) : cFr h (tSF (tSA h 46 (tvI (tF h 44 5)).toNatClampNeg k) 44 5 (.int (tvI (tF h 44 5) + 1))) ∧ cs (tSF (tSA h 46 (tvI (tF h 44 5)).toNatClampNeg k) 44 5 (.int (tvI (tF h 44 5) + 1))) = rU k.toNatClampNeg (cs h) ∧ cP (tSF (tSA h 46 (tvI (tF h 44 5)).toNatClampNeg k) 44 5 (.int (tvI (tF h 44 5) + 1))) := by
  have hw := hw_44_5 (x := tvI (tF h 44 5) + 1) hf2 (tSh_SA hs)
  have e := cSet_of hf2 hw
  generalize tSF (tSA h 46 (tvI (tF h 44 5)).toNatClampNeg k) 44 5 (.int (tvI (tF h 44 5) + 1)) = h3 at e
  have hF : ∀ b, b ≠ 5 → tvI (tF h3 44 b) = tvI (tF h 44 b) := fun b hb => (cI_o e hb).trans (by rw [tF_tSA])
  have h5 : tvI (tF h3 44 5) = tvI (tF h 44 5) + 1 := cI_x e
  have hA : tA h3 = fun p q => if p = 46 ∧ q = (tvI (tF h 44 5)).toNatClampNeg then k else tA h p q := e.2.2.2.1.trans (tA_tSA hf.cell _ _)
  have hN : tN h3 = tN h := e.2.2.2.2.trans (tN_tSA _ _ _ _)
  have q2 : (tvI (tF h 44 5)).toInt < (tvI (tF h 44 2)).toInt := hc
  have p1 := p.1
  have p3 := p.2.2.1
  have i1 := zj1 p3.1 q2
  have i2 := zj1n p3.1 q2
  refine ⟨⟨e.1, fun a b z => (e.2.2.1 a b (fun w => z ⟨w.1, by omega⟩)).trans (by rw [tF_tSA]), fun a z => ?_, hN⟩, ?_, ?_⟩
  · rw [hA]
    funext q
    exact if_neg (fun w => z w.1)
  · unfold cs rU cCo
    rw [hF 2 (by decide), hF 8 (by decide), h5, i2, List.range_succ, List.map_append, hA]
    refine Prod.ext rfl (Prod.ext rfl ?_)
    show _ ++ [(if 46 = 46 ∧ (tvI (tF h 44 5)).toNatClampNeg = (tvI (tF h 44 5)).toNatClampNeg then k else _ : Int32).toNatClampNeg] = _
    rw [if_pos ⟨rfl, rfl⟩]
    refine congrArg (fun z => z ++ [k.toNatClampNeg]) ?_
    refine List.map_congr_left (fun i hi => ?_)
    have hi := List.mem_range.mp hi
    show (if 46 = 46 ∧ i = _ then k else tA h 46 i : Int32).toNatClampNeg = _
    rw [if_neg (fun z => by omega)]
  · refine ⟨?_, ?_, ?_, ?_, ?_, (e.2.2.1 44 9 (by decide)).trans (by rw [tF_tSA]; exact p.2.2.2.2.2)⟩
    · rw [hF 2 (by decide), hF 1 (by decide)]; exact p.1
    · rw [hF 8 (by decide)]; exact p.2.1
    · rw [hF 2 (by decide), h5, i1]; omega
    · intro i hi
      rw [hA]
      show _ ≤ (if 45 = 46 ∧ _ then k else tA h 45 i : Int32).toInt ∧ (if 45 = 46 ∧ _ then k else tA h 45 i : Int32).toInt ≤ _
      rw [if_neg (fun z => absurd z.1 (by decide))]
      exact p.2.2.2.1 i hi
    · rw [hN]; exact p.2.2.2.2.1
theorem f_signHere {G : zG} (hG : G.1 = zProg) (hX : G.2.1 = ztx) {h : zH} {T : Nat → Int32} {n : Nat} (hs : tSh h) (hp : cP h) (hT : tA h 45 = T) (hN : cn h = n)  : tC zTt G 90 [.ref 44] h (fun w h2 => cFr h h2 ∧ cP h2 ∧ cs h2 = rA (rB T n (cs h).1) (cs h) ∧ tvI (tF h2 44 3) = tvI (tF h 44 3) ∧ ∃ c, w = some (.int c) ∧ sgn T n (rB T n (cs h).1) c) := by
  refine tC_in (by rw [hG]; rfl) (fun dp => ?_)
  have g0 := cFr_r hs
  have hpn : (cs h).1 ≤ n := by rw [← hN]; exact cP_le hp
  refine tG_loop (zW_mono zTt G dp) (zW_conj zTt G dp) (V := fun pc L st h9 _ _ => pc = 0 ∧ st = [] ∧ ∃ h1, h1 = h9 ∧ cFr h h1 ∧ cP h1 ∧ (cs h1).2 = (cs h).2 ∧ rB T n (cs h1).1 = rB T n (cs h).1 ∧ tvI (tF h1 44 3) = tvI (tF h 44 3) ∧ L = [some (.ref 44)]) ?_ (⟨rfl, rfl, _, rfl, g0, hp, rfl, rfl, rfl, rfl⟩)
  rintro _ _ _ _ _ _ ⟨rfl, rfl, h1, rfl, g1, p1, e1, e2, e3, rfl⟩
  refine tw_aload rfl rfl ?_
  refine tw_getS rfl (hi_44_2 g1.1) ?_
  refine tw_aload rfl rfl ?_
  refine tw_getS rfl (hi_44_1 g1.1) ?_
  refine tw_ic_ge rfl (fun q11 => ?_) (fun q11 => ?_)
  · try dsimp only [tvI_i, tvJ_j, tvR_r] at q11
    refine tw_aload rfl rfl ?_
    refine tw_getS rfl (hi_44_2 g1.1) ?_
    refine tw_aload rfl rfl ?_
    refine tw_getS rfl (hi_44_1 g1.1) ?_
    refine tw_ic_ge rfl (fun q12 => ?_) (fun q12 => ?_)
    · try dsimp only [tvI_i, tvJ_j, tvR_r] at q12
      refine tw_push rfl ?_
      have hb := cGe p1 ((cFr_n g1).trans hN) q11
      obtain ⟨o1, o2⟩ := cSg_o (T := T) (n := n) e1 e2 (fun z => hb z.1)
      exact tw_iret rfl ⟨g1, p1, o1, e3, _, rfl, by rw [← o2]; exact sgn_n hb⟩
    · try dsimp only [tvI_i, tvJ_j, tvR_r] at q12
      exact absurd q12 (Int.not_lt.mpr q11)
  · try dsimp only [tvI_i, tvJ_j, tvR_r] at q11
    refine tw_aload rfl rfl ?_
    refine tw_getS rfl (hs_44_0 g1.1) ?_
    refine tw_aload rfl rfl ?_
    refine tw_getS rfl (hi_44_2 g1.1) ?_
    refine tw_bald rfl (fun f13 => ?_)
    refine tw_push rfl ?_
    refine tw_ic_ne rfl (fun q14 => ?_) (fun q14 => ?_)
    · try dsimp only [tvI_i, tvJ_j, tvR_r] at q14
      have q14i := zneq (Y := 32) (by decide) q14
      refine tw_aload rfl rfl ?_
      refine tw_getS rfl (hi_44_2 g1.1) ?_
      refine tw_aload rfl rfl ?_
      refine tw_getS rfl (hi_44_1 g1.1) ?_
      refine tw_ic_ge rfl (fun q15 => ?_) (fun q15 => ?_)
      · try dsimp only [tvI_i, tvJ_j, tvR_r] at q15
        exact absurd q11 (Int.not_lt.mpr q15)
      · try dsimp only [tvI_i, tvJ_j, tvR_r] at q15
        refine tw_aload rfl rfl ?_
        refine tw_getS rfl (hs_44_0 g1.1) ?_
        refine tw_aload rfl rfl ?_
        refine tw_getS rfl (hi_44_2 g1.1) ?_
        refine tw_bald rfl (fun f16 => ?_)
        refine tw_push rfl ?_
        refine tw_iand rfl ?_
        refine tw_goto rfl ?_
        have hl := cLt p1 ((cFr_n g1).trans hN) q11
        obtain ⟨o1, o2⟩ := cSg_o (T := T) (n := n) e1 e2 (fun z => q14 (by rw [← ((cFr_T g1).trans hT)] at z; exact z.2))
        refine tw_iret rfl ⟨g1, p1, o1, e3, _, rfl, ?_⟩
        rw [← o2, ← ((cFr_T g1).trans hT)]
        exact sgn_y hl (p1.2.2.2.1 _ (Nat.lt_of_lt_of_le hl (by rw [← ((cFr_n g1).trans hN)]; exact cP_400 p1)))
    · try dsimp only [tvI_i, tvJ_j, tvR_r] at q14
      have q14i := zeqi (Y := 32) (by decide) q14
      refine tw_aload rfl rfl ?_
      refine tw_dup rfl ?_
      refine tw_getS rfl (hi_44_2 g1.1) ?_
      refine tw_push rfl ?_
      refine tw_iadd rfl ?_
      refine tw_put rfl (fun f17 => ?_)
      refine tG_set f17 (hw_44_2 f17 (g1).1) (fun hf17 ef17 => ?_)
      try dsimp only [tvI_i] at ef17
      have gf17 := cFr_s g1 ef17 (by decide)
      have lf17 := cLt p1 ((cFr_n g1).trans hN) q11
      obtain ⟨pf17, sf17⟩ := cInc p1 lf17 ((cFr_n g1).trans hN) ef17
      refine tw_goto rfl ?_
      exact tG_cut (zW_mono zTt G dp) (Or.inr ⟨rfl, rfl, _, rfl, gf17, pf17, (congrArg Prod.snd sf17).trans e1, by rw [sf17]; exact (rB_y ⟨lf17, by rw [← ((cFr_T g1).trans hT)]; exact q14⟩).symm.trans e2, (cI_o ef17 (by decide)).trans e3, rfl⟩)
theorem f_refuse {G : zG} (hG : G.1 = zProg) (hX : G.2.1 = ztx) {h : zH} {T : Nat → Int32} {n : Nat} (hs : tSh h) (hp : cP h) (hT : tA h 45 = T) (hN : cn h = n) {a y : Int32} : tC zTt G 93 [.ref 44, .int a, .int y] h (fun w h2 => cFr h h2 ∧ w = some (.int 0) ∧ tF h2 44 9 = .int (1 + 8 * a + y)) := by
  refine tC_in (by rw [hG]; rfl) (fun dp => ?_)
  have g0 := cFr_r hs
  have hpn : (cs h).1 ≤ n := by rw [← hN]; exact cP_le hp
  refine tw_aload rfl rfl ?_
  refine tw_push rfl ?_
  refine tw_push rfl ?_
  refine tw_iload rfl rfl ?_
  refine tw_imul rfl ?_
  refine tw_iadd rfl ?_
  refine tw_iload rfl rfl ?_
  refine tw_iadd rfl ?_
  refine tw_put rfl (fun f18 => ?_)
  refine tG_set f18 (hw_44_9 f18 (g0).1) (fun hf18 ef18 => ?_)
  try dsimp only [tvI_i] at ef18
  have gf18 := cFr_s g0 ef18 (by decide)
  refine tw_push rfl ?_
  exact tw_iret rfl ⟨gf18, rfl, ef18.2.1⟩
theorem f_countOne {G : zG} (hG : G.1 = zProg) (hX : G.2.1 = ztx) {h : zH} {T : Nat → Int32} {n : Nat} (hs : tSh h) (hp : cP h) (hT : tA h 45 = T) (hN : cn h = n)  : tC zTt G 87 [.ref 44] h (fun w h2 => cFr h h2 ∧ ((w = some (.int 1) ∧ rC (cs h).1 (cs h) = some (.inr (cs h2)) ∧ cP h2 ∧ tvI (tF h2 44 3) = tvI (tF h 44 3)) ∨ (w = some (.int 0) ∧ ∃ e, rC (cs h).1 (cs h) = some (.inl e) ∧ cFt h2 e))) := by
  refine tC_in (by rw [hG]; rfl) (fun dp => ?_)
  have g0 := cFr_r hs
  have hpn : (cs h).1 ≤ n := by rw [← hN]; exact cP_le hp
  refine tw_aload rfl rfl ?_
  refine tw_getS rfl (hi_44_8 hs) ?_
  refine tw_push rfl ?_
  refine tw_ic_ne rfl (fun q19 => ?_) (fun q19 => ?_)
  · try dsimp only [tvI_i, tvJ_j, tvR_r] at q19
    have q19i := zneq (Y := 80) (by decide) q19
    refine tw_aload rfl rfl ?_
    refine tw_dup rfl ?_
    refine tw_getS rfl (hi_44_8 hs) ?_
    refine tw_push rfl ?_
    refine tw_iadd rfl ?_
    refine tw_put rfl (fun f20 => ?_)
    refine tG_set f20 (hw_44_8 f20 (g0).1) (fun hf20 ef20 => ?_)
    try dsimp only [tvI_i] at ef20
    have gf20 := cFr_s g0 ef20 (by decide)
    obtain ⟨pf20, sf20⟩ := cCnt hp q19 ef20
    refine tw_push rfl ?_
    exact tw_iret rfl ⟨gf20, Or.inl ⟨rfl, (if_neg (cn80 hp q19)).trans (congrArg (fun z => some (Sum.inr z)) sf20.symm), pf20, cI_o ef20 (by decide)⟩⟩
  · try dsimp only [tvI_i, tvJ_j, tvR_r] at q19
    have q19i := zeqi (Y := 80) (by decide) q19
    refine tw_aload rfl rfl ?_
    refine tw_aload rfl rfl ?_
    refine tw_getS rfl (hi_44_2 hs) ?_
    refine tw_push rfl ?_
    refine tw_virt2 rfl (f_refuse hG hX (g0).1 hp ((cFr_T g0).trans hT) ((cFr_n g0).trans hN)) (fun wp21 hp21 p21 => ?_)
    obtain ⟨gp21, rfl, up21⟩ := p21
    have ggp21 := cFr_t g0 gp21
    exact tw_iret rfl ⟨ggp21, Or.inr ⟨rfl, _, if_pos (c80 q19), cFt_of hp up21 rfl (by decide)⟩⟩
theorem f_takeSign {G : zG} (hG : G.1 = zProg) (hX : G.2.1 = ztx) {h : zH} {T : Nat → Int32} {n : Nat} (hs : tSh h) (hp : cP h) (hT : tA h 45 = T) (hN : cn h = n) {y : Int32} (hy : 0 ≤ y.toInt ∧ y.toInt ≤ 127) : tC zTt G 88 [.ref 44, .int y] h (cOut (rT T n y (cs h)) h) := by
  refine tC_in (by rw [hG]; rfl) (fun dp => ?_)
  have g0 := cFr_r hs
  have hpn : (cs h).1 ≤ n := by rw [← hN]; exact cP_le hp
  refine tw_aload rfl rfl ?_
  refine tw_virt0 rfl (f_signHere hG hX (g0).1 hp ((cFr_T g0).trans hT) ((cFr_n g0).trans hN)) (fun wp22 hp22 p22 => ?_)
  obtain ⟨gp22, ppp22, ssp22, t3p22, cp22, rfl, kp22⟩ := p22
  have ggp22 := cFr_t g0 gp22
  refine tw_iload rfl rfl ?_
  refine tw_ic_eq rfl (fun q23 => ?_) (fun q23 => ?_)
  · try dsimp only [tvI_i, tvJ_j, tvR_r] at q23
    have q23i := zeqi rfl q23
    refine tw_aload rfl rfl ?_
    refine tw_dup rfl ?_
    refine tw_getS rfl (hi_44_2 ggp22.1) ?_
    refine tw_push rfl ?_
    refine tw_iadd rfl ?_
    refine tw_put rfl (fun f24 => ?_)
    refine tG_set f24 (hw_44_2 f24 (ggp22).1) (fun hf24 ef24 => ?_)
    try dsimp only [tvI_i] at ef24
    have gf24 := cFr_s ggp22 ef24 (by decide)
    have wf24 := (sgn_k kp22 y hy).mp q23
    obtain ⟨pf24, sf24⟩ := cInc ppp22 (by rw [ssp22]; exact wf24.1) ((cFr_n ggp22).trans hN) ef24
    refine tw_push rfl ?_
    rw [ssp22] at sf24
    exact tw_iret rfl ⟨gf24, Or.inl ⟨rfl, (if_pos wf24).trans (congrArg (fun z => some (Sum.inr z)) sf24.symm), pf24⟩⟩
  · try dsimp only [tvI_i, tvJ_j, tvR_r] at q23
    have q23i := zneq rfl q23
    refine tw_aload rfl rfl ?_
    refine tw_aload rfl rfl ?_
    refine tw_getS rfl (hi_44_2 ggp22.1) ?_
    refine tw_push rfl ?_
    refine tw_virt2 rfl (f_refuse hG hX (ggp22).1 ppp22 ((cFr_T ggp22).trans hT) ((cFr_n ggp22).trans hN)) (fun wp25 hp25 p25 => ?_)
    obtain ⟨gp25, rfl, up25⟩ := p25
    have ggp25 := cFr_t ggp22 gp25
    have hf := cFt_of ppp22 up25 (w := 0) rfl (by decide)
    rw [ssp22] at hf
    exact tw_iret rfl ⟨ggp25, Or.inr ⟨rfl, _, if_neg (fun z => q23 ((sgn_k kp22 y hy).mpr z)), hf⟩⟩
theorem f_putCode {G : zG} (hG : G.1 = zProg) (hX : G.2.1 = ztx) {h : zH} {T : Nat → Int32} {n : Nat} (hs : tSh h) (hp : cP h) (hT : tA h 45 = T) (hN : cn h = n) {k : Int32} (hc : (tvI (tF h 44 5)).toInt < (tvI (tF h 44 2)).toInt) : tC zTt G 92 [.ref 44, .int k] h (fun w h2 => cFr h h2 ∧ w = none ∧ cs h2 = rU k.toNatClampNeg (cs h) ∧ cP h2) := by
  refine tC_in (by rw [hG]; rfl) (fun dp => ?_)
  have g0 := cFr_r hs
  have hpn : (cs h).1 ≤ n := by rw [← hN]; exact cP_le hp
  refine tw_aload rfl rfl ?_
  refine tw_getS rfl (hi_44_5 hs) ?_
  refine tw_aload rfl rfl ?_
  refine tw_getS rfl (hs_44_4 hs) ?_
  refine tw_alen rfl ?_
  refine tw_ic_ge rfl (fun q26 => ?_) (fun q26 => ?_)
  · try dsimp only [tvI_i, tvJ_j, tvR_r] at q26
    exact absurd (show (Int32.ofNat (tN h 46)).toInt ≤ (tvI (tF h 44 5)).toInt from q26) (by rw [hp.2.2.2.2.1]; show ¬ (400 : Int) ≤ _; have := hp.1; omega)
  · try dsimp only [tvI_i, tvJ_j, tvR_r] at q26
    refine tw_aload rfl rfl ?_
    refine tw_getS rfl (hs_44_4 hs) ?_
    refine tw_aload rfl rfl ?_
    refine tw_getS rfl (hi_44_5 hs) ?_
    refine tw_iload rfl rfl ?_
    refine tw_iast rfl (fun f27 => ?_)
    refine tw_aload rfl rfl ?_
    refine tw_dup rfl ?_
    refine tw_getS rfl (tF_a (hi_44_5 hs)) ?_
    refine tw_push rfl ?_
    refine tw_iadd rfl ?_
    refine tw_put rfl (fun f28 => ?_)
    have hk := cPut_of (k := k) hs hp hc f27 f28
    exact tw_vret rfl ⟨hk.1, rfl, hk.2.1, hk.2.2⟩
/-- the words' text, gone through from a place on -/
noncomputable def scn (T : Nat → Int32) (e b : Nat) : List Int32 → Nat → Nat → Bool → Option Nat
  | [], _, _, _ => none
  | c :: r, w, a, sm => if c = 32 then (if sm && Nat.beq a e then some w else scn T e b r (w + 1) b true) else scn T e b r w (a + 1) (sm && (Nat.blt a e && decide (T a = c)))
theorem scn_w {T : Nat → Int32} {e b k : Nat} {r : List Int32} : ∀ (w : List Int32) (a : Nat) (sm : Bool), w.all (fun c => !(decide (c = 32))) = true → scn T e b (w ++ 32 :: r) k a sm = if (sm && (Nat.beq (a + w.length) e && rQ T a w)) = true then some k else scn T e b r (k + 1) b true
  | [], a, sm, _ => by
    show (if (32 : Int32) = 32 then _ else _) = _
    rw [if_pos rfl]
    show (if (sm && Nat.beq a e) = true then _ else _) = (if (sm && (Nat.beq a e && true)) = true then _ else _)
    rw [Bool.and_true]
  | c :: w, a, sm, h => by
    rw [List.all_cons, Bool.and_eq_true] at h
    have hc : ¬ c = 32 := by
      intro z
      rw [z] at h
      exact absurd h.1 (by decide)
    show (if c = 32 then _ else scn T e b (w ++ 32 :: r) k (a + 1) (sm && (Nat.blt a e && decide (T a = c)))) = _
    rw [if_neg hc, scn_w w (a + 1) _ h.2]
    have e1 : a + 1 + w.length = a + (c :: w).length := by rw [List.length_cons]; omega
    rw [e1]
    have e2 : (sm && (Nat.blt a e && decide (T a = c)) && (Nat.beq (a + (c :: w).length) e && rQ T (a + 1) w)) = (sm && (Nat.beq (a + (c :: w).length) e && rQ T a (c :: w))) := by
      have e3 : rQ T a (c :: w) = (decide (T a = c) && rQ T (a + 1) w) := rfl
      rw [e3]
      cases hq : Nat.beq (a + (c :: w).length) e with
      | false => simp
      | true =>
        have h2 := Nat.eq_of_beq_eq_true hq
        rw [List.length_cons] at h2
        have h3 : Nat.blt a e = true := Nat.ble_eq.mpr (by omega)
        rw [h3]
        cases sm <;> cases decide (T a = c) <;> rfl
    rw [e2]
noncomputable def wdl : Nat → Nat → List Int32
  | 0, _ => []
  | m + 1, k => rWd k ++ 32 :: wdl m (k + 1)
theorem wdl_1 : ztx 1 = wdl 20 0 := by decide +kernel
theorem wdl_32 : (List.range 20).all (fun k => (rWd k).all (fun c => !(decide (c = 32)))) = true := by decide +kernel
theorem scn_l {T : Nat → Int32} {n b : Nat} : ∀ (m k : Nat), k + m ≤ 20 → (scn T (rE T n b) b (wdl m k) k b true = none ∧ ∀ j, k ≤ j → j < k + m → ¬ rW T n b (rWd j) = true) ∨ ∃ j, k ≤ j ∧ j < k + m ∧ scn T (rE T n b) b (wdl m k) k b true = some j ∧ rW T n b (rWd j) = true
  | 0, k, _ => Or.inl ⟨rfl, fun j h1 h2 => by omega⟩
  | m + 1, k, hk => by
    have h32 := List.all_eq_true.mp wdl_32 k (List.mem_range.mpr (by omega))
    have e : scn T (rE T n b) b (wdl (m + 1) k) k b true = _ := scn_w (rWd k) b true h32
    have e2 : (true && (Nat.beq (b + (rWd k).length) (rE T n b) && rQ T b (rWd k))) = rW T n b (rWd k) := by
      unfold rW
      rw [Bool.true_and]
      refine congrArg (fun z => z && _) ?_
      rw [Bool.eq_iff_iff]
      exact ⟨fun z => by rw [Nat.eq_of_beq_eq_true z]; exact Nat.beq_refl _, fun z => by rw [Nat.eq_of_beq_eq_true z]; exact Nat.beq_refl _⟩
    rw [e2] at e
    rw [e]
    by_cases c : rW T n b (rWd k) = true
    · rw [if_pos c]
      exact Or.inr ⟨k, Nat.le_refl _, by omega, rfl, c⟩
    · rw [if_neg c]
      rcases scn_l m (k + 1) (by omega) with ⟨a1, a2⟩ | ⟨j, a1, a2, a3, a4⟩
      · refine Or.inl ⟨a1, fun j h1 h2 => ?_⟩
        by_cases z : j = k
        · rw [z]; exact c
        · exact a2 j (by omega) (by omega)
      · exact Or.inr ⟨j, by omega, by omega, a3, a4⟩
noncomputable def wrd (T : Nat → Int32) (n b : Nat) (i : Int32) : Prop := (-1 ≤ i.toInt ∧ i.toInt < 20) ∧ ∀ k : Nat, k < 20 → (i.toInt = k ↔ rW T n b (rWd k) = true)
theorem wrd_n {T : Nat → Int32} {n b : Nat} (h : scn T (rE T n b) b (ztx 1) 0 b true = none) : wrd T n b (-1) := by
  rw [wdl_1] at h
  refine ⟨by decide, fun k hk => ⟨fun z => ?_, fun z => ?_⟩⟩
  · exfalso
    have : ((-1 : Int32)).toInt = -1 := by decide
    omega
  · rcases scn_l (T := T) (n := n) (b := b) 20 0 (by omega) with ⟨-, a2⟩ | ⟨j, -, -, a3, -⟩
    · exact absurd z (a2 k (by omega) (by omega))
    · rw [h] at a3; cases a3
theorem wrd_s {T : Nat → Int32} {n b : Nat} {i : Int32} {w : Nat} (h : scn T (rE T n b) b (ztx 1) 0 b true = some w) (hi : i.toInt = w) : wrd T n b i := by
  rw [wdl_1] at h
  rcases scn_l (T := T) (n := n) (b := b) 20 0 (by omega) with ⟨a1, -⟩ | ⟨j, -, a2, a3, a4⟩
  · rw [h] at a1; cases a1
  · rw [h] at a3
    cases a3
    refine ⟨by omega, fun k hk => ⟨fun z => ?_, fun z => ?_⟩⟩
    · have : w = k := by omega
      rw [← this]; exact a4
    · have := rW_ij (by omega) hk a4 z
      omega
theorem wlen : (ztx 1).length = 98 ∨ (ztx 1).length ≤ 200 := Or.inr (by decide +kernel)
theorem scn_d {T : Nat → Int32} {e b w a : Nat} {sm : Bool} {l : List Int32} {i : Nat} {R : Option Nat} (h : scn T e b (l.drop i) w a sm = R) (hi : i < l.length) : (if l.getD i 0 = 32 then (if sm && Nat.beq a e then some w else scn T e b (l.drop (i + 1)) (w + 1) b true) else scn T e b (l.drop (i + 1)) w (a + 1) (sm && (Nat.blt a e && decide (T a = l.getD i 0)))) = R := by
  rw [List.drop_eq_getElem_cons hi] at h
  rw [List.getD_eq_getElem?_getD, List.getElem?_eq_getElem hi]
  exact h
theorem scn_e {T : Nat → Int32} {e b w a : Nat} {sm : Bool} {l : List Int32} {i : Nat} {R : Option Nat} (h : scn T e b (l.drop i) w a sm = R) (hi : l.length ≤ i) : R = none := by
  rw [List.drop_eq_nil_of_le hi] at h
  exact h.symm
theorem cPl {h : zH} (p : cP h) : (tvI (tF h 44 2)).toInt = ((cs h).1 : Int) := by
  show _ = ((tvI (tF h 44 2)).toNatClampNeg : Int)
  rw [zclE]
  have := p.1
  omega
theorem cNl {h : zH} {n : Nat} (p : cP h) (hn : cn h = n) : (tvI (tF h 44 1)).toInt = (n : Int) := by
  rw [← hn]
  show _ = ((tvI (tF h 44 1)).toNatClampNeg : Int)
  rw [zclE]
  have := p.1
  omega
theorem wr_e {T : Nat → Int32} {n b k : Nat} (he : rE T n (b + k) = rE T n b) (h : ¬ (b + k < n ∧ 97 ≤ (T (b + k)).toInt ∧ (T (b + k)).toInt ≤ 122)) : rE T n b = b + k := he.symm.trans (rE_n h)
theorem f_wordHere {G : zG} (hG : G.1 = zProg) (hX : G.2.1 = ztx) {h : zH} {T : Nat → Int32} {n : Nat} (hs : tSh h) (hp : cP h) (hT : tA h 45 = T) (hN : cn h = n)  : tC zTt G 91 [.ref 44] h (fun w h2 => cFr h h2 ∧ cP h2 ∧ cs h2 = rA (rB T n (cs h).1) (cs h) ∧ (tvI (tF h2 44 3)).toInt = ((rE T n (rB T n (cs h).1) : Nat) : Int) ∧ ∃ i, w = some (.int i) ∧ wrd T n (rB T n (cs h).1) i) := by
  refine tC_in (by rw [hG]; rfl) (fun dp => ?_)
  have g0 := cFr_r hs
  have hpn : (cs h).1 ≤ n := by rw [← hN]; exact cP_le hp
  have c979 : (97 : Int32).toInt = 97 := rfl
  have c1229 : (122 : Int32).toInt = 122 := rfl
  refine tw_aload rfl rfl ?_
  refine tw_virt0 rfl (f_signHere hG hX (g0).1 hp ((cFr_T g0).trans hT) ((cFr_n g0).trans hN)) (fun wp29 hp29 p29 => ?_)
  obtain ⟨gp29, ppp29, ssp29, t3p29, cp29, rfl, kp29⟩ := p29
  have ggp29 := cFr_t g0 gp29
  refine tw_pop rfl ?_
  refine tw_aload rfl rfl ?_
  refine tw_aload rfl rfl ?_
  refine tw_getS rfl (hi_44_2 ggp29.1) ?_
  refine tw_put rfl (fun f30 => ?_)
  refine tG_set f30 (hw_44_3 f30 (ggp29).1) (fun hf30 ef30 => ?_)
  try dsimp only [tvI_i] at ef30
  have gf30 := cFr_s ggp29 ef30 (by decide)
  have sf30 := cs_o ef30 (by decide) (by decide) (by decide)
  have pf30 := cP_o ppp29 ef30 (by decide)
  have wf30 := cI_x ef30
  have vf30 := cI_o (q := 1) ef30 (by decide)
  have yf30 := cI_o (q := 2) ef30 (by decide)
  refine tG_loop (zW_mono zTt G dp) (zW_conj zTt G dp) (V := fun pc L st h9 _ _ => pc = 13 ∧ st = [] ∧ ∃ (h1 : zH) (k : Nat) (a b c d e : Option Value), h1 = h9 ∧ cFr h h1 ∧ cP h1 ∧ cs h1 = rA (rB T n (cs h).1) (cs h) ∧ (tvI (tF h1 44 3)).toInt = (((rB T n (cs h).1) + k : Nat) : Int) ∧ (rB T n (cs h).1) + k ≤ n ∧ rE T n ((rB T n (cs h).1) + k) = rE T n (rB T n (cs h).1) ∧ L = [some (.ref 44), a, b, c, d, e]) ?_ (⟨rfl, rfl, _, 0, _, _, _, _, _, rfl, gf30, pf30, sf30.trans ssp29, by rw [wf30, cPl ppp29, ssp29]; rfl, (by have := cP_le ppp29; rw [((cFr_n ggp29).trans hN), ssp29] at this; exact this), rfl, rfl⟩)
  rintro _ _ _ _ _ _ ⟨rfl, rfl, h1, k, a, b, c, d, e, rfl, g1, p1, hσ, hk, hkn, he, rfl⟩
  refine tw_aload rfl rfl ?_
  refine tw_getS rfl (hi_44_3 g1.1) ?_
  refine tw_aload rfl rfl ?_
  refine tw_getS rfl (hi_44_1 g1.1) ?_
  refine tw_ic_ge rfl (fun q31 => ?_) (fun q31 => ?_)
  · try dsimp only [tvI_i, tvJ_j, tvR_r] at q31
    refine tw_push rfl ?_
    refine tw_istore rfl ?_
    refine tw_aload rfl rfl ?_
    refine tw_getS rfl (hi_44_2 g1.1) ?_
    refine tw_istore rfl ?_
    refine tw_push rfl ?_
    refine tw_istore rfl ?_
    refine tw_push rfl ?_
    refine tw_istore rfl ?_
    have hend : (tvI (tF h1 44 3)).toInt = ((rE T n (rB T n (cs h).1) : Nat) : Int) := by
      rw [wr_e he (fun z => ?_), hk]
      have hix : (tvI (tF h1 44 3)).toNatClampNeg = (rB T n (cs h).1) + k := zof_cl hk
      have hTx := ((cFr_T g1).trans hT)
      have e9 : tA h1 45 (tvI (tF h1 44 3)).toNatClampNeg = T ((rB T n (cs h).1) + k) := by rw [hix, hTx]
      have e8 := cNl p1 ((cFr_n g1).trans hN)
      have z0 := q31
      try rw [e9] at z1
      try rw [e9] at z2
      omega
    refine tG_loop (zW_mono zTt G dp) (zW_conj zTt G dp) (V := fun pc L st h9 _ _ => pc = 77 ∧ st = [] ∧ h1 = h9 ∧ ∃ (i w2 a2 : Nat) (sm : Bool) (x word at9 same : Int32) (l5 : Option Value), x.toInt = i ∧ i ≤ (ztx 1).length ∧ word.toInt = w2 ∧ w2 ≤ i ∧ at9.toInt = a2 ∧ a2 ≤ 400 + i ∧ same = (if sm = true then 1 else 0) ∧ scn T (rE T n (rB T n (cs h).1)) (rB T n (cs h).1) ((ztx 1).drop i) w2 a2 sm = scn T (rE T n (rB T n (cs h).1)) (rB T n (cs h).1) (ztx 1) 0 (rB T n (cs h).1) true ∧ L = [some (.ref 44), some (.int word), some (.int at9), some (.int same), some (.int x), l5]) ?_ (⟨rfl, rfl, rfl, 0, 0, (rB T n (cs h).1), true, _, _, _, _, _, rfl, Nat.zero_le _, rfl, Nat.le_refl _, (show (tvI (tF h1 44 2)).toInt = (((rB T n (cs h).1) : Nat) : Int) from (cPl p1).trans (by rw [hσ]; rfl)), (by have := cP_400 p1; rw [((cFr_n g1).trans hN)] at this; omega), rfl, rfl, rfl⟩)
    rintro _ _ _ _ _ _ ⟨rfl, rfl, rfl, i, w2, a2, sm, x, word, at9, same, l5, hx, hi, hw, hwi, hat, ha4, hsame, hsc, rfl⟩
    refine tw_iload rfl rfl ?_
    refine tw_push rfl ?_
    refine tw_tlen rfl ?_
    refine tw_ic_ge rfl (fun q32 => ?_) (fun q32 => ?_)
    · try dsimp only [tvI_i, tvJ_j, tvR_r] at q32
      refine tw_push rfl ?_
      have hil : (ztx 1).length ≤ i := by have z := q32; rw [hX] at z; have e9 : (Int32.ofNat (ztx 1).length).toInt = ((ztx 1).length : Int) := zofI (by rcases wlen with y | y <;> omega); omega
      exact tw_iret rfl ⟨g1, p1, hσ, hend, _, rfl, wrd_n (scn_e hsc hil)⟩
    · try dsimp only [tvI_i, tvJ_j, tvR_r] at q32
      refine tw_push rfl ?_
      refine tw_iload rfl rfl ?_
      refine tw_chr rfl (fun _ => ?_)
      refine tw_istore rfl ?_
      refine tw_iload rfl rfl ?_
      refine tw_push rfl ?_
      refine tw_ic_eq rfl (fun q33 => ?_) (fun q33 => ?_)
      · try dsimp only [tvI_i, tvJ_j, tvR_r] at q33
        have q33i := zeqi (Y := 32) (by decide) q33
        refine tw_iload rfl rfl ?_
        refine tw_if_eq rfl (fun q34 => ?_) (fun q34 => ?_)
        · try dsimp only [tvI_i, tvJ_j, tvR_r] at q34
          have q34i := zeqi (Y := 0) (by decide) q34
          refine tw_iinc rfl rfl ?_
          refine tw_aload rfl rfl ?_
          refine tw_getS rfl (hi_44_2 g1.1) ?_
          refine tw_istore rfl ?_
          refine tw_push rfl ?_
          refine tw_istore rfl ?_
          refine tw_iinc rfl rfl ?_
          refine tw_goto rfl ?_
          have hil : i < (ztx 1).length := by have z := q32; rw [hX] at z; have e9 : (Int32.ofNat (ztx 1).length).toInt = ((ztx 1).length : Int) := zofI (by rcases wlen with y | y <;> omega); omega
          have hd := scn_d hsc hil
          have ec : ((G.2.1 1).getD x.toNatClampNeg 0) = (ztx 1).getD i 0 := by rw [hX, zof_cl hx]
          have e32 : (ztx 1).getD i 0 = 32 := ec ▸ q33
          rw [if_pos e32] at hd
          have hsm : sm = false := by cases sm with | false => rfl | true => exact absurd (hsame.symm.trans q34) (by decide)
          subst hsm
          rw [if_neg (show ¬ (false && Nat.beq a2 (rE T n (rB T n (cs h).1))) = true from Bool.false_ne_true)] at hd
          exact tG_cut (zW_mono zTt G dp) (Or.inr ⟨rfl, rfl, rfl, i + 1, w2 + 1, (rB T n (cs h).1), true, _, _, _, _, _, zincN hx (by rcases wlen with y | y <;> omega), by omega, zincN hw (by rcases wlen with y | y <;> omega), by omega, (show (tvI (tF h1 44 2)).toInt = (((rB T n (cs h).1) : Nat) : Int) from (cPl p1).trans (by rw [hσ]; rfl)), (by have := cP_400 p1; rw [((cFr_n g1).trans hN)] at this; omega), rfl, hd, rfl⟩)
        · try dsimp only [tvI_i, tvJ_j, tvR_r] at q34
          have q34i := zneq (Y := 0) (by decide) q34
          refine tw_iload rfl rfl ?_
          refine tw_aload rfl rfl ?_
          refine tw_getS rfl (hi_44_3 g1.1) ?_
          refine tw_ic_ne rfl (fun q35 => ?_) (fun q35 => ?_)
          · try dsimp only [tvI_i, tvJ_j, tvR_r] at q35
            have q35i := zneq rfl q35
            refine tw_iinc rfl rfl ?_
            refine tw_aload rfl rfl ?_
            refine tw_getS rfl (hi_44_2 g1.1) ?_
            refine tw_istore rfl ?_
            refine tw_push rfl ?_
            refine tw_istore rfl ?_
            refine tw_iinc rfl rfl ?_
            refine tw_goto rfl ?_
            have hil : i < (ztx 1).length := by have z := q32; rw [hX] at z; have e9 : (Int32.ofNat (ztx 1).length).toInt = ((ztx 1).length : Int) := zofI (by rcases wlen with y | y <;> omega); omega
            have hd := scn_d hsc hil
            have ec : ((G.2.1 1).getD x.toNatClampNeg 0) = (ztx 1).getD i 0 := by rw [hX, zof_cl hx]
            have e32 : (ztx 1).getD i 0 = 32 := ec ▸ q33
            rw [if_pos e32] at hd
            have hne : ¬ a2 = rE T n (rB T n (cs h).1) := fun z => q35 (Int32.toInt_inj.mp (by rw [hat, hend]; exact congrArg _ z))
            rw [if_neg (fun z => by rw [Bool.and_eq_true] at z; exact hne (Nat.eq_of_beq_eq_true z.2))] at hd
            exact tG_cut (zW_mono zTt G dp) (Or.inr ⟨rfl, rfl, rfl, i + 1, w2 + 1, (rB T n (cs h).1), true, _, _, _, _, _, zincN hx (by rcases wlen with y | y <;> omega), by omega, zincN hw (by rcases wlen with y | y <;> omega), by omega, (show (tvI (tF h1 44 2)).toInt = (((rB T n (cs h).1) : Nat) : Int) from (cPl p1).trans (by rw [hσ]; rfl)), (by have := cP_400 p1; rw [((cFr_n g1).trans hN)] at this; omega), rfl, hd, rfl⟩)
          · try dsimp only [tvI_i, tvJ_j, tvR_r] at q35
            have q35i := zeqi rfl q35
            refine tw_iload rfl rfl ?_
            have hil : i < (ztx 1).length := by have z := q32; rw [hX] at z; have e9 : (Int32.ofNat (ztx 1).length).toInt = ((ztx 1).length : Int) := zofI (by rcases wlen with y | y <;> omega); omega
            have hd := scn_d hsc hil
            have ec : ((G.2.1 1).getD x.toNatClampNeg 0) = (ztx 1).getD i 0 := by rw [hX, zof_cl hx]
            have e32 : (ztx 1).getD i 0 = 32 := ec ▸ q33
            rw [if_pos e32] at hd
            have hsm : sm = true := by cases sm with | true => rfl | false => exact absurd hsame q34
            subst hsm
            have hae : a2 = rE T n (rB T n (cs h).1) := by have z : at9.toInt = (tvI (tF h1 44 3)).toInt := congrArg Int32.toInt q35; omega
            rw [hae, if_pos (by rw [Bool.and_eq_true]; exact ⟨rfl, Nat.beq_refl _⟩)] at hd
            exact tw_iret rfl ⟨g1, p1, hσ, hend, _, rfl, wrd_s hd.symm hw⟩
      · try dsimp only [tvI_i, tvJ_j, tvR_r] at q33
        have q33i := zneq (Y := 32) (by decide) q33
        refine tw_iload rfl rfl ?_
        refine tw_if_eq rfl (fun q36 => ?_) (fun q36 => ?_)
        · try dsimp only [tvI_i, tvJ_j, tvR_r] at q36
          have q36i := zeqi (Y := 0) (by decide) q36
          refine tw_push rfl ?_
          refine tw_istore rfl ?_
          refine tw_iinc rfl rfl ?_
          refine tw_goto rfl ?_
          refine tw_iinc rfl rfl ?_
          refine tw_goto rfl ?_
          have hil : i < (ztx 1).length := by have z := q32; rw [hX] at z; have e9 : (Int32.ofNat (ztx 1).length).toInt = ((ztx 1).length : Int) := zofI (by rcases wlen with y | y <;> omega); omega
          have hd := scn_d hsc hil
          have ec : ((G.2.1 1).getD x.toNatClampNeg 0) = (ztx 1).getD i 0 := by rw [hX, zof_cl hx]
          have e32 : ¬ (ztx 1).getD i 0 = 32 := fun z => q33 (ec.trans z)
          rw [if_neg e32] at hd
          have hsm : sm = false := by cases sm with | false => rfl | true => exact absurd (hsame.symm.trans q36) (by decide)
          subst hsm
          exact tG_cut (zW_mono zTt G dp) (Or.inr ⟨rfl, rfl, rfl, i + 1, w2, a2 + 1, false, _, _, _, _, _, zincN hx (by rcases wlen with y | y <;> omega), by omega, hw, by omega, zincN hat (by rcases wlen with y | y <;> omega), by omega, rfl, hd, rfl⟩)
        · try dsimp only [tvI_i, tvJ_j, tvR_r] at q36
          have q36i := zneq (Y := 0) (by decide) q36
          refine tw_iload rfl rfl ?_
          refine tw_aload rfl rfl ?_
          refine tw_getS rfl (hi_44_3 g1.1) ?_
          refine tw_ic_ge rfl (fun q37 => ?_) (fun q37 => ?_)
          · try dsimp only [tvI_i, tvJ_j, tvR_r] at q37
            refine tw_push rfl ?_
            refine tw_istore rfl ?_
            refine tw_iinc rfl rfl ?_
            refine tw_goto rfl ?_
            refine tw_iinc rfl rfl ?_
            refine tw_goto rfl ?_
            have hil : i < (ztx 1).length := by have z := q32; rw [hX] at z; have e9 : (Int32.ofNat (ztx 1).length).toInt = ((ztx 1).length : Int) := zofI (by rcases wlen with y | y <;> omega); omega
            have hd := scn_d hsc hil
            have ec : ((G.2.1 1).getD x.toNatClampNeg 0) = (ztx 1).getD i 0 := by rw [hX, zof_cl hx]
            have e32 : ¬ (ztx 1).getD i 0 = 32 := fun z => q33 (ec.trans z)
            rw [if_neg e32] at hd
            have hsm : sm = true := by cases sm with | true => rfl | false => exact absurd hsame q36
            subst hsm
            have hb : Nat.blt a2 (rE T n (rB T n (cs h).1)) = false := by cases z : Nat.blt a2 (rE T n (rB T n (cs h).1)) with | false => rfl | true => have y : a2 < rE T n (rB T n (cs h).1) := Nat.le_of_ble_eq_true z; omega
            rw [hb] at hd
            exact tG_cut (zW_mono zTt G dp) (Or.inr ⟨rfl, rfl, rfl, i + 1, w2, a2 + 1, false, _, _, _, _, _, zincN hx (by rcases wlen with y | y <;> omega), by omega, hw, by omega, zincN hat (by rcases wlen with y | y <;> omega), by omega, rfl, hd, rfl⟩)
          · try dsimp only [tvI_i, tvJ_j, tvR_r] at q37
            refine tw_aload rfl rfl ?_
            refine tw_getS rfl (hs_44_0 g1.1) ?_
            refine tw_iload rfl rfl ?_
            refine tw_bald rfl (fun f38 => ?_)
            refine tw_iload rfl rfl ?_
            refine tw_ic_ne rfl (fun q39 => ?_) (fun q39 => ?_)
            · try dsimp only [tvI_i, tvJ_j, tvR_r] at q39
              have q39i := zneq rfl q39
              refine tw_push rfl ?_
              refine tw_istore rfl ?_
              refine tw_iinc rfl rfl ?_
              refine tw_goto rfl ?_
              refine tw_iinc rfl rfl ?_
              refine tw_goto rfl ?_
              have hil : i < (ztx 1).length := by have z := q32; rw [hX] at z; have e9 : (Int32.ofNat (ztx 1).length).toInt = ((ztx 1).length : Int) := zofI (by rcases wlen with y | y <;> omega); omega
              have hd := scn_d hsc hil
              have ec : ((G.2.1 1).getD x.toNatClampNeg 0) = (ztx 1).getD i 0 := by rw [hX, zof_cl hx]
              have e32 : ¬ (ztx 1).getD i 0 = 32 := fun z => q33 (ec.trans z)
              rw [if_neg e32] at hd
              have hsm : sm = true := by cases sm with | true => rfl | false => exact absurd hsame q36
              subst hsm
              have hb : Nat.blt a2 (rE T n (rB T n (cs h).1)) = true := Nat.ble_eq.mpr (by omega)
              rw [hb] at hd
              have et : tA h1 45 at9.toNatClampNeg = T a2 := by rw [zof_cl hat, ((cFr_T g1).trans hT)]
              rw [decide_eq_false (show ¬ T a2 = (ztx 1).getD i 0 from fun z => q39 (et.trans (z.trans ec.symm)))] at hd
              exact tG_cut (zW_mono zTt G dp) (Or.inr ⟨rfl, rfl, rfl, i + 1, w2, a2 + 1, false, _, _, _, _, _, zincN hx (by rcases wlen with y | y <;> omega), by omega, hw, by omega, zincN hat (by rcases wlen with y | y <;> omega), by omega, rfl, hd, rfl⟩)
            · try dsimp only [tvI_i, tvJ_j, tvR_r] at q39
              have q39i := zeqi rfl q39
              refine tw_push rfl ?_
              refine tw_goto rfl ?_
              refine tw_istore rfl ?_
              refine tw_iinc rfl rfl ?_
              refine tw_goto rfl ?_
              refine tw_iinc rfl rfl ?_
              refine tw_goto rfl ?_
              have hil : i < (ztx 1).length := by have z := q32; rw [hX] at z; have e9 : (Int32.ofNat (ztx 1).length).toInt = ((ztx 1).length : Int) := zofI (by rcases wlen with y | y <;> omega); omega
              have hd := scn_d hsc hil
              have ec : ((G.2.1 1).getD x.toNatClampNeg 0) = (ztx 1).getD i 0 := by rw [hX, zof_cl hx]
              have e32 : ¬ (ztx 1).getD i 0 = 32 := fun z => q33 (ec.trans z)
              rw [if_neg e32] at hd
              have hsm : sm = true := by cases sm with | true => rfl | false => exact absurd hsame q36
              subst hsm
              have hb : Nat.blt a2 (rE T n (rB T n (cs h).1)) = true := Nat.ble_eq.mpr (by omega)
              rw [hb] at hd
              have et : tA h1 45 at9.toNatClampNeg = T a2 := by rw [zof_cl hat, ((cFr_T g1).trans hT)]
              rw [decide_eq_true (show T a2 = (ztx 1).getD i 0 from et.symm.trans (q39.trans ec))] at hd
              exact tG_cut (zW_mono zTt G dp) (Or.inr ⟨rfl, rfl, rfl, i + 1, w2, a2 + 1, true, _, _, _, _, _, zincN hx (by rcases wlen with y | y <;> omega), by omega, hw, by omega, zincN hat (by rcases wlen with y | y <;> omega), by omega, rfl, hd, rfl⟩)
  · try dsimp only [tvI_i, tvJ_j, tvR_r] at q31
    refine tw_aload rfl rfl ?_
    refine tw_getS rfl (hs_44_0 g1.1) ?_
    refine tw_aload rfl rfl ?_
    refine tw_getS rfl (hi_44_3 g1.1) ?_
    refine tw_bald rfl (fun f40 => ?_)
    refine tw_push rfl ?_
    refine tw_ic_lt rfl (fun q41 => ?_) (fun q41 => ?_)
    · try dsimp only [tvI_i, tvJ_j, tvR_r] at q41
      refine tw_push rfl ?_
      refine tw_istore rfl ?_
      refine tw_aload rfl rfl ?_
      refine tw_getS rfl (hi_44_2 g1.1) ?_
      refine tw_istore rfl ?_
      refine tw_push rfl ?_
      refine tw_istore rfl ?_
      refine tw_push rfl ?_
      refine tw_istore rfl ?_
      have hend : (tvI (tF h1 44 3)).toInt = ((rE T n (rB T n (cs h).1) : Nat) : Int) := by
        rw [wr_e he (fun z => ?_), hk]
        have hix : (tvI (tF h1 44 3)).toNatClampNeg = (rB T n (cs h).1) + k := zof_cl hk
        have hTx := ((cFr_T g1).trans hT)
        have e9 : tA h1 45 (tvI (tF h1 44 3)).toNatClampNeg = T ((rB T n (cs h).1) + k) := by rw [hix, hTx]
        have e8 := cNl p1 ((cFr_n g1).trans hN)
        have z0 := q31
        have z1 := q41
        try rw [e9] at z1
        try rw [e9] at z2
        omega
      refine tG_loop (zW_mono zTt G dp) (zW_conj zTt G dp) (V := fun pc L st h9 _ _ => pc = 77 ∧ st = [] ∧ h1 = h9 ∧ ∃ (i w2 a2 : Nat) (sm : Bool) (x word at9 same : Int32) (l5 : Option Value), x.toInt = i ∧ i ≤ (ztx 1).length ∧ word.toInt = w2 ∧ w2 ≤ i ∧ at9.toInt = a2 ∧ a2 ≤ 400 + i ∧ same = (if sm = true then 1 else 0) ∧ scn T (rE T n (rB T n (cs h).1)) (rB T n (cs h).1) ((ztx 1).drop i) w2 a2 sm = scn T (rE T n (rB T n (cs h).1)) (rB T n (cs h).1) (ztx 1) 0 (rB T n (cs h).1) true ∧ L = [some (.ref 44), some (.int word), some (.int at9), some (.int same), some (.int x), l5]) ?_ (⟨rfl, rfl, rfl, 0, 0, (rB T n (cs h).1), true, _, _, _, _, _, rfl, Nat.zero_le _, rfl, Nat.le_refl _, (show (tvI (tF h1 44 2)).toInt = (((rB T n (cs h).1) : Nat) : Int) from (cPl p1).trans (by rw [hσ]; rfl)), (by have := cP_400 p1; rw [((cFr_n g1).trans hN)] at this; omega), rfl, rfl, rfl⟩)
      rintro _ _ _ _ _ _ ⟨rfl, rfl, rfl, i, w2, a2, sm, x, word, at9, same, l5, hx, hi, hw, hwi, hat, ha4, hsame, hsc, rfl⟩
      refine tw_iload rfl rfl ?_
      refine tw_push rfl ?_
      refine tw_tlen rfl ?_
      refine tw_ic_ge rfl (fun q42 => ?_) (fun q42 => ?_)
      · try dsimp only [tvI_i, tvJ_j, tvR_r] at q42
        refine tw_push rfl ?_
        have hil : (ztx 1).length ≤ i := by have z := q42; rw [hX] at z; have e9 : (Int32.ofNat (ztx 1).length).toInt = ((ztx 1).length : Int) := zofI (by rcases wlen with y | y <;> omega); omega
        exact tw_iret rfl ⟨g1, p1, hσ, hend, _, rfl, wrd_n (scn_e hsc hil)⟩
      · try dsimp only [tvI_i, tvJ_j, tvR_r] at q42
        refine tw_push rfl ?_
        refine tw_iload rfl rfl ?_
        refine tw_chr rfl (fun _ => ?_)
        refine tw_istore rfl ?_
        refine tw_iload rfl rfl ?_
        refine tw_push rfl ?_
        refine tw_ic_eq rfl (fun q43 => ?_) (fun q43 => ?_)
        · try dsimp only [tvI_i, tvJ_j, tvR_r] at q43
          have q43i := zeqi (Y := 32) (by decide) q43
          refine tw_iload rfl rfl ?_
          refine tw_if_eq rfl (fun q44 => ?_) (fun q44 => ?_)
          · try dsimp only [tvI_i, tvJ_j, tvR_r] at q44
            have q44i := zeqi (Y := 0) (by decide) q44
            refine tw_iinc rfl rfl ?_
            refine tw_aload rfl rfl ?_
            refine tw_getS rfl (hi_44_2 g1.1) ?_
            refine tw_istore rfl ?_
            refine tw_push rfl ?_
            refine tw_istore rfl ?_
            refine tw_iinc rfl rfl ?_
            refine tw_goto rfl ?_
            have hil : i < (ztx 1).length := by have z := q42; rw [hX] at z; have e9 : (Int32.ofNat (ztx 1).length).toInt = ((ztx 1).length : Int) := zofI (by rcases wlen with y | y <;> omega); omega
            have hd := scn_d hsc hil
            have ec : ((G.2.1 1).getD x.toNatClampNeg 0) = (ztx 1).getD i 0 := by rw [hX, zof_cl hx]
            have e32 : (ztx 1).getD i 0 = 32 := ec ▸ q43
            rw [if_pos e32] at hd
            have hsm : sm = false := by cases sm with | false => rfl | true => exact absurd (hsame.symm.trans q44) (by decide)
            subst hsm
            rw [if_neg (show ¬ (false && Nat.beq a2 (rE T n (rB T n (cs h).1))) = true from Bool.false_ne_true)] at hd
            exact tG_cut (zW_mono zTt G dp) (Or.inr ⟨rfl, rfl, rfl, i + 1, w2 + 1, (rB T n (cs h).1), true, _, _, _, _, _, zincN hx (by rcases wlen with y | y <;> omega), by omega, zincN hw (by rcases wlen with y | y <;> omega), by omega, (show (tvI (tF h1 44 2)).toInt = (((rB T n (cs h).1) : Nat) : Int) from (cPl p1).trans (by rw [hσ]; rfl)), (by have := cP_400 p1; rw [((cFr_n g1).trans hN)] at this; omega), rfl, hd, rfl⟩)
          · try dsimp only [tvI_i, tvJ_j, tvR_r] at q44
            have q44i := zneq (Y := 0) (by decide) q44
            refine tw_iload rfl rfl ?_
            refine tw_aload rfl rfl ?_
            refine tw_getS rfl (hi_44_3 g1.1) ?_
            refine tw_ic_ne rfl (fun q45 => ?_) (fun q45 => ?_)
            · try dsimp only [tvI_i, tvJ_j, tvR_r] at q45
              have q45i := zneq rfl q45
              refine tw_iinc rfl rfl ?_
              refine tw_aload rfl rfl ?_
              refine tw_getS rfl (hi_44_2 g1.1) ?_
              refine tw_istore rfl ?_
              refine tw_push rfl ?_
              refine tw_istore rfl ?_
              refine tw_iinc rfl rfl ?_
              refine tw_goto rfl ?_
              have hil : i < (ztx 1).length := by have z := q42; rw [hX] at z; have e9 : (Int32.ofNat (ztx 1).length).toInt = ((ztx 1).length : Int) := zofI (by rcases wlen with y | y <;> omega); omega
              have hd := scn_d hsc hil
              have ec : ((G.2.1 1).getD x.toNatClampNeg 0) = (ztx 1).getD i 0 := by rw [hX, zof_cl hx]
              have e32 : (ztx 1).getD i 0 = 32 := ec ▸ q43
              rw [if_pos e32] at hd
              have hne : ¬ a2 = rE T n (rB T n (cs h).1) := fun z => q45 (Int32.toInt_inj.mp (by rw [hat, hend]; exact congrArg _ z))
              rw [if_neg (fun z => by rw [Bool.and_eq_true] at z; exact hne (Nat.eq_of_beq_eq_true z.2))] at hd
              exact tG_cut (zW_mono zTt G dp) (Or.inr ⟨rfl, rfl, rfl, i + 1, w2 + 1, (rB T n (cs h).1), true, _, _, _, _, _, zincN hx (by rcases wlen with y | y <;> omega), by omega, zincN hw (by rcases wlen with y | y <;> omega), by omega, (show (tvI (tF h1 44 2)).toInt = (((rB T n (cs h).1) : Nat) : Int) from (cPl p1).trans (by rw [hσ]; rfl)), (by have := cP_400 p1; rw [((cFr_n g1).trans hN)] at this; omega), rfl, hd, rfl⟩)
            · try dsimp only [tvI_i, tvJ_j, tvR_r] at q45
              have q45i := zeqi rfl q45
              refine tw_iload rfl rfl ?_
              have hil : i < (ztx 1).length := by have z := q42; rw [hX] at z; have e9 : (Int32.ofNat (ztx 1).length).toInt = ((ztx 1).length : Int) := zofI (by rcases wlen with y | y <;> omega); omega
              have hd := scn_d hsc hil
              have ec : ((G.2.1 1).getD x.toNatClampNeg 0) = (ztx 1).getD i 0 := by rw [hX, zof_cl hx]
              have e32 : (ztx 1).getD i 0 = 32 := ec ▸ q43
              rw [if_pos e32] at hd
              have hsm : sm = true := by cases sm with | true => rfl | false => exact absurd hsame q44
              subst hsm
              have hae : a2 = rE T n (rB T n (cs h).1) := by have z : at9.toInt = (tvI (tF h1 44 3)).toInt := congrArg Int32.toInt q45; omega
              rw [hae, if_pos (by rw [Bool.and_eq_true]; exact ⟨rfl, Nat.beq_refl _⟩)] at hd
              exact tw_iret rfl ⟨g1, p1, hσ, hend, _, rfl, wrd_s hd.symm hw⟩
        · try dsimp only [tvI_i, tvJ_j, tvR_r] at q43
          have q43i := zneq (Y := 32) (by decide) q43
          refine tw_iload rfl rfl ?_
          refine tw_if_eq rfl (fun q46 => ?_) (fun q46 => ?_)
          · try dsimp only [tvI_i, tvJ_j, tvR_r] at q46
            have q46i := zeqi (Y := 0) (by decide) q46
            refine tw_push rfl ?_
            refine tw_istore rfl ?_
            refine tw_iinc rfl rfl ?_
            refine tw_goto rfl ?_
            refine tw_iinc rfl rfl ?_
            refine tw_goto rfl ?_
            have hil : i < (ztx 1).length := by have z := q42; rw [hX] at z; have e9 : (Int32.ofNat (ztx 1).length).toInt = ((ztx 1).length : Int) := zofI (by rcases wlen with y | y <;> omega); omega
            have hd := scn_d hsc hil
            have ec : ((G.2.1 1).getD x.toNatClampNeg 0) = (ztx 1).getD i 0 := by rw [hX, zof_cl hx]
            have e32 : ¬ (ztx 1).getD i 0 = 32 := fun z => q43 (ec.trans z)
            rw [if_neg e32] at hd
            have hsm : sm = false := by cases sm with | false => rfl | true => exact absurd (hsame.symm.trans q46) (by decide)
            subst hsm
            exact tG_cut (zW_mono zTt G dp) (Or.inr ⟨rfl, rfl, rfl, i + 1, w2, a2 + 1, false, _, _, _, _, _, zincN hx (by rcases wlen with y | y <;> omega), by omega, hw, by omega, zincN hat (by rcases wlen with y | y <;> omega), by omega, rfl, hd, rfl⟩)
          · try dsimp only [tvI_i, tvJ_j, tvR_r] at q46
            have q46i := zneq (Y := 0) (by decide) q46
            refine tw_iload rfl rfl ?_
            refine tw_aload rfl rfl ?_
            refine tw_getS rfl (hi_44_3 g1.1) ?_
            refine tw_ic_ge rfl (fun q47 => ?_) (fun q47 => ?_)
            · try dsimp only [tvI_i, tvJ_j, tvR_r] at q47
              refine tw_push rfl ?_
              refine tw_istore rfl ?_
              refine tw_iinc rfl rfl ?_
              refine tw_goto rfl ?_
              refine tw_iinc rfl rfl ?_
              refine tw_goto rfl ?_
              have hil : i < (ztx 1).length := by have z := q42; rw [hX] at z; have e9 : (Int32.ofNat (ztx 1).length).toInt = ((ztx 1).length : Int) := zofI (by rcases wlen with y | y <;> omega); omega
              have hd := scn_d hsc hil
              have ec : ((G.2.1 1).getD x.toNatClampNeg 0) = (ztx 1).getD i 0 := by rw [hX, zof_cl hx]
              have e32 : ¬ (ztx 1).getD i 0 = 32 := fun z => q43 (ec.trans z)
              rw [if_neg e32] at hd
              have hsm : sm = true := by cases sm with | true => rfl | false => exact absurd hsame q46
              subst hsm
              have hb : Nat.blt a2 (rE T n (rB T n (cs h).1)) = false := by cases z : Nat.blt a2 (rE T n (rB T n (cs h).1)) with | false => rfl | true => have y : a2 < rE T n (rB T n (cs h).1) := Nat.le_of_ble_eq_true z; omega
              rw [hb] at hd
              exact tG_cut (zW_mono zTt G dp) (Or.inr ⟨rfl, rfl, rfl, i + 1, w2, a2 + 1, false, _, _, _, _, _, zincN hx (by rcases wlen with y | y <;> omega), by omega, hw, by omega, zincN hat (by rcases wlen with y | y <;> omega), by omega, rfl, hd, rfl⟩)
            · try dsimp only [tvI_i, tvJ_j, tvR_r] at q47
              refine tw_aload rfl rfl ?_
              refine tw_getS rfl (hs_44_0 g1.1) ?_
              refine tw_iload rfl rfl ?_
              refine tw_bald rfl (fun f48 => ?_)
              refine tw_iload rfl rfl ?_
              refine tw_ic_ne rfl (fun q49 => ?_) (fun q49 => ?_)
              · try dsimp only [tvI_i, tvJ_j, tvR_r] at q49
                have q49i := zneq rfl q49
                refine tw_push rfl ?_
                refine tw_istore rfl ?_
                refine tw_iinc rfl rfl ?_
                refine tw_goto rfl ?_
                refine tw_iinc rfl rfl ?_
                refine tw_goto rfl ?_
                have hil : i < (ztx 1).length := by have z := q42; rw [hX] at z; have e9 : (Int32.ofNat (ztx 1).length).toInt = ((ztx 1).length : Int) := zofI (by rcases wlen with y | y <;> omega); omega
                have hd := scn_d hsc hil
                have ec : ((G.2.1 1).getD x.toNatClampNeg 0) = (ztx 1).getD i 0 := by rw [hX, zof_cl hx]
                have e32 : ¬ (ztx 1).getD i 0 = 32 := fun z => q43 (ec.trans z)
                rw [if_neg e32] at hd
                have hsm : sm = true := by cases sm with | true => rfl | false => exact absurd hsame q46
                subst hsm
                have hb : Nat.blt a2 (rE T n (rB T n (cs h).1)) = true := Nat.ble_eq.mpr (by omega)
                rw [hb] at hd
                have et : tA h1 45 at9.toNatClampNeg = T a2 := by rw [zof_cl hat, ((cFr_T g1).trans hT)]
                rw [decide_eq_false (show ¬ T a2 = (ztx 1).getD i 0 from fun z => q49 (et.trans (z.trans ec.symm)))] at hd
                exact tG_cut (zW_mono zTt G dp) (Or.inr ⟨rfl, rfl, rfl, i + 1, w2, a2 + 1, false, _, _, _, _, _, zincN hx (by rcases wlen with y | y <;> omega), by omega, hw, by omega, zincN hat (by rcases wlen with y | y <;> omega), by omega, rfl, hd, rfl⟩)
              · try dsimp only [tvI_i, tvJ_j, tvR_r] at q49
                have q49i := zeqi rfl q49
                refine tw_push rfl ?_
                refine tw_goto rfl ?_
                refine tw_istore rfl ?_
                refine tw_iinc rfl rfl ?_
                refine tw_goto rfl ?_
                refine tw_iinc rfl rfl ?_
                refine tw_goto rfl ?_
                have hil : i < (ztx 1).length := by have z := q42; rw [hX] at z; have e9 : (Int32.ofNat (ztx 1).length).toInt = ((ztx 1).length : Int) := zofI (by rcases wlen with y | y <;> omega); omega
                have hd := scn_d hsc hil
                have ec : ((G.2.1 1).getD x.toNatClampNeg 0) = (ztx 1).getD i 0 := by rw [hX, zof_cl hx]
                have e32 : ¬ (ztx 1).getD i 0 = 32 := fun z => q43 (ec.trans z)
                rw [if_neg e32] at hd
                have hsm : sm = true := by cases sm with | true => rfl | false => exact absurd hsame q46
                subst hsm
                have hb : Nat.blt a2 (rE T n (rB T n (cs h).1)) = true := Nat.ble_eq.mpr (by omega)
                rw [hb] at hd
                have et : tA h1 45 at9.toNatClampNeg = T a2 := by rw [zof_cl hat, ((cFr_T g1).trans hT)]
                rw [decide_eq_true (show T a2 = (ztx 1).getD i 0 from et.symm.trans (q49.trans ec))] at hd
                exact tG_cut (zW_mono zTt G dp) (Or.inr ⟨rfl, rfl, rfl, i + 1, w2, a2 + 1, true, _, _, _, _, _, zincN hx (by rcases wlen with y | y <;> omega), by omega, hw, by omega, zincN hat (by rcases wlen with y | y <;> omega), by omega, rfl, hd, rfl⟩)
    · try dsimp only [tvI_i, tvJ_j, tvR_r] at q41
      refine tw_aload rfl rfl ?_
      refine tw_getS rfl (hs_44_0 g1.1) ?_
      refine tw_aload rfl rfl ?_
      refine tw_getS rfl (hi_44_3 g1.1) ?_
      refine tw_bald rfl (fun f50 => ?_)
      refine tw_push rfl ?_
      refine tw_ic_gt rfl (fun q51 => ?_) (fun q51 => ?_)
      · try dsimp only [tvI_i, tvJ_j, tvR_r] at q51
        refine tw_push rfl ?_
        refine tw_istore rfl ?_
        refine tw_aload rfl rfl ?_
        refine tw_getS rfl (hi_44_2 g1.1) ?_
        refine tw_istore rfl ?_
        refine tw_push rfl ?_
        refine tw_istore rfl ?_
        refine tw_push rfl ?_
        refine tw_istore rfl ?_
        have hend : (tvI (tF h1 44 3)).toInt = ((rE T n (rB T n (cs h).1) : Nat) : Int) := by
          rw [wr_e he (fun z => ?_), hk]
          have hix : (tvI (tF h1 44 3)).toNatClampNeg = (rB T n (cs h).1) + k := zof_cl hk
          have hTx := ((cFr_T g1).trans hT)
          have e9 : tA h1 45 (tvI (tF h1 44 3)).toNatClampNeg = T ((rB T n (cs h).1) + k) := by rw [hix, hTx]
          have e8 := cNl p1 ((cFr_n g1).trans hN)
          have z0 := q31
          have z1 := q41
          have z2 := q51
          try rw [e9] at z1
          try rw [e9] at z2
          omega
        refine tG_loop (zW_mono zTt G dp) (zW_conj zTt G dp) (V := fun pc L st h9 _ _ => pc = 77 ∧ st = [] ∧ h1 = h9 ∧ ∃ (i w2 a2 : Nat) (sm : Bool) (x word at9 same : Int32) (l5 : Option Value), x.toInt = i ∧ i ≤ (ztx 1).length ∧ word.toInt = w2 ∧ w2 ≤ i ∧ at9.toInt = a2 ∧ a2 ≤ 400 + i ∧ same = (if sm = true then 1 else 0) ∧ scn T (rE T n (rB T n (cs h).1)) (rB T n (cs h).1) ((ztx 1).drop i) w2 a2 sm = scn T (rE T n (rB T n (cs h).1)) (rB T n (cs h).1) (ztx 1) 0 (rB T n (cs h).1) true ∧ L = [some (.ref 44), some (.int word), some (.int at9), some (.int same), some (.int x), l5]) ?_ (⟨rfl, rfl, rfl, 0, 0, (rB T n (cs h).1), true, _, _, _, _, _, rfl, Nat.zero_le _, rfl, Nat.le_refl _, (show (tvI (tF h1 44 2)).toInt = (((rB T n (cs h).1) : Nat) : Int) from (cPl p1).trans (by rw [hσ]; rfl)), (by have := cP_400 p1; rw [((cFr_n g1).trans hN)] at this; omega), rfl, rfl, rfl⟩)
        rintro _ _ _ _ _ _ ⟨rfl, rfl, rfl, i, w2, a2, sm, x, word, at9, same, l5, hx, hi, hw, hwi, hat, ha4, hsame, hsc, rfl⟩
        refine tw_iload rfl rfl ?_
        refine tw_push rfl ?_
        refine tw_tlen rfl ?_
        refine tw_ic_ge rfl (fun q52 => ?_) (fun q52 => ?_)
        · try dsimp only [tvI_i, tvJ_j, tvR_r] at q52
          refine tw_push rfl ?_
          have hil : (ztx 1).length ≤ i := by have z := q52; rw [hX] at z; have e9 : (Int32.ofNat (ztx 1).length).toInt = ((ztx 1).length : Int) := zofI (by rcases wlen with y | y <;> omega); omega
          exact tw_iret rfl ⟨g1, p1, hσ, hend, _, rfl, wrd_n (scn_e hsc hil)⟩
        · try dsimp only [tvI_i, tvJ_j, tvR_r] at q52
          refine tw_push rfl ?_
          refine tw_iload rfl rfl ?_
          refine tw_chr rfl (fun _ => ?_)
          refine tw_istore rfl ?_
          refine tw_iload rfl rfl ?_
          refine tw_push rfl ?_
          refine tw_ic_eq rfl (fun q53 => ?_) (fun q53 => ?_)
          · try dsimp only [tvI_i, tvJ_j, tvR_r] at q53
            have q53i := zeqi (Y := 32) (by decide) q53
            refine tw_iload rfl rfl ?_
            refine tw_if_eq rfl (fun q54 => ?_) (fun q54 => ?_)
            · try dsimp only [tvI_i, tvJ_j, tvR_r] at q54
              have q54i := zeqi (Y := 0) (by decide) q54
              refine tw_iinc rfl rfl ?_
              refine tw_aload rfl rfl ?_
              refine tw_getS rfl (hi_44_2 g1.1) ?_
              refine tw_istore rfl ?_
              refine tw_push rfl ?_
              refine tw_istore rfl ?_
              refine tw_iinc rfl rfl ?_
              refine tw_goto rfl ?_
              have hil : i < (ztx 1).length := by have z := q52; rw [hX] at z; have e9 : (Int32.ofNat (ztx 1).length).toInt = ((ztx 1).length : Int) := zofI (by rcases wlen with y | y <;> omega); omega
              have hd := scn_d hsc hil
              have ec : ((G.2.1 1).getD x.toNatClampNeg 0) = (ztx 1).getD i 0 := by rw [hX, zof_cl hx]
              have e32 : (ztx 1).getD i 0 = 32 := ec ▸ q53
              rw [if_pos e32] at hd
              have hsm : sm = false := by cases sm with | false => rfl | true => exact absurd (hsame.symm.trans q54) (by decide)
              subst hsm
              rw [if_neg (show ¬ (false && Nat.beq a2 (rE T n (rB T n (cs h).1))) = true from Bool.false_ne_true)] at hd
              exact tG_cut (zW_mono zTt G dp) (Or.inr ⟨rfl, rfl, rfl, i + 1, w2 + 1, (rB T n (cs h).1), true, _, _, _, _, _, zincN hx (by rcases wlen with y | y <;> omega), by omega, zincN hw (by rcases wlen with y | y <;> omega), by omega, (show (tvI (tF h1 44 2)).toInt = (((rB T n (cs h).1) : Nat) : Int) from (cPl p1).trans (by rw [hσ]; rfl)), (by have := cP_400 p1; rw [((cFr_n g1).trans hN)] at this; omega), rfl, hd, rfl⟩)
            · try dsimp only [tvI_i, tvJ_j, tvR_r] at q54
              have q54i := zneq (Y := 0) (by decide) q54
              refine tw_iload rfl rfl ?_
              refine tw_aload rfl rfl ?_
              refine tw_getS rfl (hi_44_3 g1.1) ?_
              refine tw_ic_ne rfl (fun q55 => ?_) (fun q55 => ?_)
              · try dsimp only [tvI_i, tvJ_j, tvR_r] at q55
                have q55i := zneq rfl q55
                refine tw_iinc rfl rfl ?_
                refine tw_aload rfl rfl ?_
                refine tw_getS rfl (hi_44_2 g1.1) ?_
                refine tw_istore rfl ?_
                refine tw_push rfl ?_
                refine tw_istore rfl ?_
                refine tw_iinc rfl rfl ?_
                refine tw_goto rfl ?_
                have hil : i < (ztx 1).length := by have z := q52; rw [hX] at z; have e9 : (Int32.ofNat (ztx 1).length).toInt = ((ztx 1).length : Int) := zofI (by rcases wlen with y | y <;> omega); omega
                have hd := scn_d hsc hil
                have ec : ((G.2.1 1).getD x.toNatClampNeg 0) = (ztx 1).getD i 0 := by rw [hX, zof_cl hx]
                have e32 : (ztx 1).getD i 0 = 32 := ec ▸ q53
                rw [if_pos e32] at hd
                have hne : ¬ a2 = rE T n (rB T n (cs h).1) := fun z => q55 (Int32.toInt_inj.mp (by rw [hat, hend]; exact congrArg _ z))
                rw [if_neg (fun z => by rw [Bool.and_eq_true] at z; exact hne (Nat.eq_of_beq_eq_true z.2))] at hd
                exact tG_cut (zW_mono zTt G dp) (Or.inr ⟨rfl, rfl, rfl, i + 1, w2 + 1, (rB T n (cs h).1), true, _, _, _, _, _, zincN hx (by rcases wlen with y | y <;> omega), by omega, zincN hw (by rcases wlen with y | y <;> omega), by omega, (show (tvI (tF h1 44 2)).toInt = (((rB T n (cs h).1) : Nat) : Int) from (cPl p1).trans (by rw [hσ]; rfl)), (by have := cP_400 p1; rw [((cFr_n g1).trans hN)] at this; omega), rfl, hd, rfl⟩)
              · try dsimp only [tvI_i, tvJ_j, tvR_r] at q55
                have q55i := zeqi rfl q55
                refine tw_iload rfl rfl ?_
                have hil : i < (ztx 1).length := by have z := q52; rw [hX] at z; have e9 : (Int32.ofNat (ztx 1).length).toInt = ((ztx 1).length : Int) := zofI (by rcases wlen with y | y <;> omega); omega
                have hd := scn_d hsc hil
                have ec : ((G.2.1 1).getD x.toNatClampNeg 0) = (ztx 1).getD i 0 := by rw [hX, zof_cl hx]
                have e32 : (ztx 1).getD i 0 = 32 := ec ▸ q53
                rw [if_pos e32] at hd
                have hsm : sm = true := by cases sm with | true => rfl | false => exact absurd hsame q54
                subst hsm
                have hae : a2 = rE T n (rB T n (cs h).1) := by have z : at9.toInt = (tvI (tF h1 44 3)).toInt := congrArg Int32.toInt q55; omega
                rw [hae, if_pos (by rw [Bool.and_eq_true]; exact ⟨rfl, Nat.beq_refl _⟩)] at hd
                exact tw_iret rfl ⟨g1, p1, hσ, hend, _, rfl, wrd_s hd.symm hw⟩
          · try dsimp only [tvI_i, tvJ_j, tvR_r] at q53
            have q53i := zneq (Y := 32) (by decide) q53
            refine tw_iload rfl rfl ?_
            refine tw_if_eq rfl (fun q56 => ?_) (fun q56 => ?_)
            · try dsimp only [tvI_i, tvJ_j, tvR_r] at q56
              have q56i := zeqi (Y := 0) (by decide) q56
              refine tw_push rfl ?_
              refine tw_istore rfl ?_
              refine tw_iinc rfl rfl ?_
              refine tw_goto rfl ?_
              refine tw_iinc rfl rfl ?_
              refine tw_goto rfl ?_
              have hil : i < (ztx 1).length := by have z := q52; rw [hX] at z; have e9 : (Int32.ofNat (ztx 1).length).toInt = ((ztx 1).length : Int) := zofI (by rcases wlen with y | y <;> omega); omega
              have hd := scn_d hsc hil
              have ec : ((G.2.1 1).getD x.toNatClampNeg 0) = (ztx 1).getD i 0 := by rw [hX, zof_cl hx]
              have e32 : ¬ (ztx 1).getD i 0 = 32 := fun z => q53 (ec.trans z)
              rw [if_neg e32] at hd
              have hsm : sm = false := by cases sm with | false => rfl | true => exact absurd (hsame.symm.trans q56) (by decide)
              subst hsm
              exact tG_cut (zW_mono zTt G dp) (Or.inr ⟨rfl, rfl, rfl, i + 1, w2, a2 + 1, false, _, _, _, _, _, zincN hx (by rcases wlen with y | y <;> omega), by omega, hw, by omega, zincN hat (by rcases wlen with y | y <;> omega), by omega, rfl, hd, rfl⟩)
            · try dsimp only [tvI_i, tvJ_j, tvR_r] at q56
              have q56i := zneq (Y := 0) (by decide) q56
              refine tw_iload rfl rfl ?_
              refine tw_aload rfl rfl ?_
              refine tw_getS rfl (hi_44_3 g1.1) ?_
              refine tw_ic_ge rfl (fun q57 => ?_) (fun q57 => ?_)
              · try dsimp only [tvI_i, tvJ_j, tvR_r] at q57
                refine tw_push rfl ?_
                refine tw_istore rfl ?_
                refine tw_iinc rfl rfl ?_
                refine tw_goto rfl ?_
                refine tw_iinc rfl rfl ?_
                refine tw_goto rfl ?_
                have hil : i < (ztx 1).length := by have z := q52; rw [hX] at z; have e9 : (Int32.ofNat (ztx 1).length).toInt = ((ztx 1).length : Int) := zofI (by rcases wlen with y | y <;> omega); omega
                have hd := scn_d hsc hil
                have ec : ((G.2.1 1).getD x.toNatClampNeg 0) = (ztx 1).getD i 0 := by rw [hX, zof_cl hx]
                have e32 : ¬ (ztx 1).getD i 0 = 32 := fun z => q53 (ec.trans z)
                rw [if_neg e32] at hd
                have hsm : sm = true := by cases sm with | true => rfl | false => exact absurd hsame q56
                subst hsm
                have hb : Nat.blt a2 (rE T n (rB T n (cs h).1)) = false := by cases z : Nat.blt a2 (rE T n (rB T n (cs h).1)) with | false => rfl | true => have y : a2 < rE T n (rB T n (cs h).1) := Nat.le_of_ble_eq_true z; omega
                rw [hb] at hd
                exact tG_cut (zW_mono zTt G dp) (Or.inr ⟨rfl, rfl, rfl, i + 1, w2, a2 + 1, false, _, _, _, _, _, zincN hx (by rcases wlen with y | y <;> omega), by omega, hw, by omega, zincN hat (by rcases wlen with y | y <;> omega), by omega, rfl, hd, rfl⟩)
              · try dsimp only [tvI_i, tvJ_j, tvR_r] at q57
                refine tw_aload rfl rfl ?_
                refine tw_getS rfl (hs_44_0 g1.1) ?_
                refine tw_iload rfl rfl ?_
                refine tw_bald rfl (fun f58 => ?_)
                refine tw_iload rfl rfl ?_
                refine tw_ic_ne rfl (fun q59 => ?_) (fun q59 => ?_)
                · try dsimp only [tvI_i, tvJ_j, tvR_r] at q59
                  have q59i := zneq rfl q59
                  refine tw_push rfl ?_
                  refine tw_istore rfl ?_
                  refine tw_iinc rfl rfl ?_
                  refine tw_goto rfl ?_
                  refine tw_iinc rfl rfl ?_
                  refine tw_goto rfl ?_
                  have hil : i < (ztx 1).length := by have z := q52; rw [hX] at z; have e9 : (Int32.ofNat (ztx 1).length).toInt = ((ztx 1).length : Int) := zofI (by rcases wlen with y | y <;> omega); omega
                  have hd := scn_d hsc hil
                  have ec : ((G.2.1 1).getD x.toNatClampNeg 0) = (ztx 1).getD i 0 := by rw [hX, zof_cl hx]
                  have e32 : ¬ (ztx 1).getD i 0 = 32 := fun z => q53 (ec.trans z)
                  rw [if_neg e32] at hd
                  have hsm : sm = true := by cases sm with | true => rfl | false => exact absurd hsame q56
                  subst hsm
                  have hb : Nat.blt a2 (rE T n (rB T n (cs h).1)) = true := Nat.ble_eq.mpr (by omega)
                  rw [hb] at hd
                  have et : tA h1 45 at9.toNatClampNeg = T a2 := by rw [zof_cl hat, ((cFr_T g1).trans hT)]
                  rw [decide_eq_false (show ¬ T a2 = (ztx 1).getD i 0 from fun z => q59 (et.trans (z.trans ec.symm)))] at hd
                  exact tG_cut (zW_mono zTt G dp) (Or.inr ⟨rfl, rfl, rfl, i + 1, w2, a2 + 1, false, _, _, _, _, _, zincN hx (by rcases wlen with y | y <;> omega), by omega, hw, by omega, zincN hat (by rcases wlen with y | y <;> omega), by omega, rfl, hd, rfl⟩)
                · try dsimp only [tvI_i, tvJ_j, tvR_r] at q59
                  have q59i := zeqi rfl q59
                  refine tw_push rfl ?_
                  refine tw_goto rfl ?_
                  refine tw_istore rfl ?_
                  refine tw_iinc rfl rfl ?_
                  refine tw_goto rfl ?_
                  refine tw_iinc rfl rfl ?_
                  refine tw_goto rfl ?_
                  have hil : i < (ztx 1).length := by have z := q52; rw [hX] at z; have e9 : (Int32.ofNat (ztx 1).length).toInt = ((ztx 1).length : Int) := zofI (by rcases wlen with y | y <;> omega); omega
                  have hd := scn_d hsc hil
                  have ec : ((G.2.1 1).getD x.toNatClampNeg 0) = (ztx 1).getD i 0 := by rw [hX, zof_cl hx]
                  have e32 : ¬ (ztx 1).getD i 0 = 32 := fun z => q53 (ec.trans z)
                  rw [if_neg e32] at hd
                  have hsm : sm = true := by cases sm with | true => rfl | false => exact absurd hsame q56
                  subst hsm
                  have hb : Nat.blt a2 (rE T n (rB T n (cs h).1)) = true := Nat.ble_eq.mpr (by omega)
                  rw [hb] at hd
                  have et : tA h1 45 at9.toNatClampNeg = T a2 := by rw [zof_cl hat, ((cFr_T g1).trans hT)]
                  rw [decide_eq_true (show T a2 = (ztx 1).getD i 0 from et.symm.trans (q59.trans ec))] at hd
                  exact tG_cut (zW_mono zTt G dp) (Or.inr ⟨rfl, rfl, rfl, i + 1, w2, a2 + 1, true, _, _, _, _, _, zincN hx (by rcases wlen with y | y <;> omega), by omega, hw, by omega, zincN hat (by rcases wlen with y | y <;> omega), by omega, rfl, hd, rfl⟩)
      · try dsimp only [tvI_i, tvJ_j, tvR_r] at q51
        refine tw_aload rfl rfl ?_
        refine tw_dup rfl ?_
        refine tw_getS rfl (hi_44_3 g1.1) ?_
        refine tw_push rfl ?_
        refine tw_iadd rfl ?_
        refine tw_put rfl (fun f60 => ?_)
        refine tG_set f60 (hw_44_3 f60 (g1).1) (fun hf60 ef60 => ?_)
        try dsimp only [tvI_i] at ef60
        have gf60 := cFr_s g1 ef60 (by decide)
        have sf60 := cs_o ef60 (by decide) (by decide) (by decide)
        have pf60 := cP_o p1 ef60 (by decide)
        have wf60 := cI_x ef60
        have vf60 := cI_o (q := 1) ef60 (by decide)
        have yf60 := cI_o (q := 2) ef60 (by decide)
        refine tw_goto rfl ?_
        have hlt : (rB T n (cs h).1) + k < n := by have := cNl p1 ((cFr_n g1).trans hN); omega
        have hix : (tvI (tF h1 44 3)).toNatClampNeg = (rB T n (cs h).1) + k := zof_cl hk
        have ha : 97 ≤ (T ((rB T n (cs h).1) + k)).toInt ∧ (T ((rB T n (cs h).1) + k)).toInt ≤ 122 := by rw [← hix, ← ((cFr_T g1).trans hT)]; exact ⟨by omega, by omega⟩
        exact tG_cut (zW_mono zTt G dp) (Or.inr ⟨rfl, rfl, _, k + 1, _, _, _, _, _, rfl, gf60, pf60, sf60.trans hσ, by rw [wf60]; exact zincL hk q31, by omega, (rE_y ⟨hlt, ha⟩).symm.trans he, rfl⟩)
theorem rM_a {T : Nat → Int32} {n p b M : Nat} (hb : rB T n p = b) (hd : rD T n b = b) : rM T n M p = .inl (1 + 8 * b + 0) := by
  unfold rM
  rw [hb, if_pos hd]
theorem rM_b {T : Nat → Int32} {n p b k M : Nat} (hb : rB T n p = b) (hd : rD T n b = b + k) (h0 : k ≠ 0) (h : 5 < k ∨ M < rV T b k) : rM T n M p = .inl (1 + 8 * b + 1) := by
  have e : b + k - b = k := by omega
  unfold rM
  rw [hb, hd, if_neg (by omega), e, if_pos h]
theorem rM_c {T : Nat → Int32} {n p b k M : Nat} (hb : rB T n p = b) (hd : rD T n b = b + k) (h0 : k ≠ 0) (h : ¬ (5 < k ∨ M < rV T b k)) : rM T n M p = .inr (b + k, rV T b k) := by
  have e : b + k - b = k := by omega
  unfold rM
  rw [hb, hd, if_neg (by omega), e, if_neg h]
theorem cNum {y t : Int32} {V : Nat} (hy : y.toInt = ((min V 100000 : Nat) : Int)) (ht : 48 ≤ t.toInt ∧ t.toInt ≤ 57) : (if (100000 : Int32) < y * 10 + (t - 48) then (100000 : Int32) else y * 10 + (t - 48)).toInt = ((min (10 * V + (t.toInt - 48).toNat) 100000 : Nat) : Int) := by
  have h1 : (y * 10).toInt = y.toInt * 10 := by
    rw [Int32.toInt_mul, show (10 : Int32).toInt = 10 from rfl]
    exact Int.bmod_eq_of_le (by show (-2147483648 : Int) ≤ y.toInt * 10; omega) (by show y.toInt * 10 < (2147483648 : Int); omega)
  have h2 : (t - 48).toInt = t.toInt - 48 := by
    rw [Int32.toInt_sub, show (48 : Int32).toInt = 48 from rfl]
    exact Int.bmod_eq_of_le (by show (-2147483648 : Int) ≤ t.toInt - 48; omega) (by show t.toInt - 48 < (2147483648 : Int); omega)
  have h3 : (y * 10 + (t - 48)).toInt = y.toInt * 10 + (t.toInt - 48) := by
    rw [Int32.toInt_add, h1, h2]
    exact Int.bmod_eq_of_le (by show (-2147483648 : Int) ≤ y.toInt * 10 + (t.toInt - 48); omega) (by show y.toInt * 10 + (t.toInt - 48) < (2147483648 : Int); omega)
  have h4 : (100000 : Int32).toInt = 100000 := rfl
  by_cases c : (100000 : Int32) < y * 10 + (t - 48)
  · rw [if_pos c]
    rw [Int32.lt_iff_toInt_lt, h3, h4] at c
    rw [h4]
    omega
  · rw [if_neg c]
    rw [Int32.lt_iff_toInt_lt, h3, h4] at c
    rw [h3]
    omega
theorem zsb {x y : Int32} {a b : Nat} (hx : x.toInt = a) (hy : y.toInt = b) (ha : a ≤ 100000) (hb : b ≤ 100000) : (x - y).toInt = (a : Int) - b := by
  rw [Int32.toInt_sub, hx, hy]
  exact Int.bmod_eq_of_le (by show (-2147483648 : Int) ≤ (a : Int) - b; omega) (by show (a : Int) - b < (2147483648 : Int); omega)
theorem cTo {h h3 : zH} {n v : Nat} {X : Int32} (p : cP h) (hn : cn h = n) (e : cSet 2 X h h3) (hx : X.toInt = v) (h1 : (cs h).1 ≤ v) (h2 : v ≤ n) : cP h3 ∧ cs h3 = rA v (cs h) := by
  have e1 := cPl p
  have e2 := cNl p hn
  refine ⟨cP_2 p e (by omega) (by omega), ?_⟩
  rw [cs_2 e, zof_cl hx]
theorem rC_y {p : Nat} {s s2 : rS} (h : rC p s = some (.inr s2)) : s.2.1 ≠ 80 ∧ s2 = (s.1, s.2.1 + 1, s.2.2) := by
  unfold rC at h
  by_cases c : s.2.1 = 80
  · rw [if_pos c] at h; cases h
  · rw [if_neg c] at h; cases h; exact ⟨c, rfl⟩
theorem rC_n {p e : Nat} {s : rS} (h : rC p s = some (.inl e)) : s.2.1 = 80 ∧ e = 1 + 8 * p + 3 := by
  unfold rC at h
  by_cases c : s.2.1 = 80
  · rw [if_pos c] at h; cases h; exact ⟨c, rfl⟩
  · rw [if_neg c] at h; cases h
section CC
variable {T : Nat → Int32} {n b : Nat}
theorem cm61 (h : b < n ∧ T b = 61) : rCm T n b = some (100105, b + 1) := if_pos h
theorem cm60 (h : b < n ∧ T b = 60) : rCm T n b = (if b + 1 < n ∧ T (b + 1) = 61 then some (100104, b + 2) else some (100103, b + 1)) := (if_neg (fun z => absurd (z.2.symm.trans h.2) (by decide))).trans (if_pos h)
theorem cm62 (h : b < n ∧ T b = 62) : rCm T n b = (if b + 1 < n ∧ T (b + 1) = 61 then some (100106, b + 2) else some (100107, b + 1)) := (if_neg (fun z => absurd (z.2.symm.trans h.2) (by decide))).trans ((if_neg (fun z => absurd (z.2.symm.trans h.2) (by decide))).trans (if_pos h))
theorem cm_n (h1 : ¬ (b < n ∧ T b = 61)) (h2 : ¬ (b < n ∧ T b = 60)) (h3 : ¬ (b < n ∧ T b = 62)) : rCm T n b = none := (if_neg h1).trans ((if_neg h2).trans (if_neg h3))
theorem cm_s (h : (b < n ∧ T b = 61) ∨ (b < n ∧ T b = 60) ∨ (b < n ∧ T b = 62)) : ∃ q, rCm T n b = some q := by
  rcases h with h | h | h
  · exact ⟨_, cm61 h⟩
  · rw [cm60 h]; split <;> exact ⟨_, rfl⟩
  · rw [cm62 h]; split <;> exact ⟨_, rfl⟩
end CC
theorem f_numberHere {G : zG} (hG : G.1 = zProg) (hX : G.2.1 = ztx) {h : zH} {T : Nat → Int32} {n : Nat} (hs : tSh h) (hp : cP h) (hT : tA h 45 = T) (hN : cn h = n) {m : Int32} {M : Nat} (hm : m.toInt = M) (hM : M ≤ 99999) : tC zTt G 89 [.ref 44, .int m] h (fun w h2 => cFr h h2 ∧ ((∃ q, rM T n M (cs h).1 = .inr q ∧ w = some (.int (Int32.ofNat q.2)) ∧ cs h2 = rA q.1 (cs h) ∧ cP h2) ∨ (∃ e, rM T n M (cs h).1 = .inl e ∧ w = some (.int (-1)) ∧ cFt h2 e))) := by
  refine tC_in (by rw [hG]; rfl) (fun dp => ?_)
  have g0 := cFr_r hs
  have hpn : (cs h).1 ≤ n := by rw [← hN]; exact cP_le hp
  have c489 : (48 : Int32).toInt = 48 := rfl
  have c579 : (57 : Int32).toInt = 57 := rfl
  have c59 : (5 : Int32).toInt = 5 := rfl
  refine tw_aload rfl rfl ?_
  refine tw_virt0 rfl (f_signHere hG hX (g0).1 hp ((cFr_T g0).trans hT) ((cFr_n g0).trans hN)) (fun wp61 hp61 p61 => ?_)
  obtain ⟨gp61, ppp61, ssp61, t3p61, cp61, rfl, kp61⟩ := p61
  have ggp61 := cFr_t g0 gp61
  refine tw_istore rfl ?_
  refine tw_aload rfl rfl ?_
  refine tw_getS rfl (hi_44_2 ggp61.1) ?_
  refine tw_istore rfl ?_
  refine tw_push rfl ?_
  refine tw_istore rfl ?_
  refine tG_loop (zW_mono zTt G dp) (zW_conj zTt G dp) (V := fun pc L st h9 _ _ => pc = 13 ∧ st = [] ∧ hp61 = h9 ∧ ∃ (k : Nat) (x y : Int32) (v2 : Option Value), x.toInt = (((cs hp61).1 + k : Nat) : Int) ∧ (cs hp61).1 + k ≤ n ∧ rD T n ((cs hp61).1 + k) = rD T n (cs hp61).1 ∧ y.toInt = ((min (rV T (cs hp61).1 k) 100000 : Nat) : Int) ∧ L = [some (.ref 44), some (.int m), v2, some (.int x), some (.int y)]) ?_ (⟨rfl, rfl, rfl, 0, _, _, _, cPl ppp61, (by have := cP_le ppp61; rw [((cFr_n ggp61).trans hN)] at this; exact this), rfl, rfl, rfl⟩)
  rintro _ _ _ _ _ _ ⟨rfl, rfl, rfl, k, x, y, v2, hx, hkn, hd, hv, rfl⟩
  refine tw_iload rfl rfl ?_
  refine tw_aload rfl rfl ?_
  refine tw_getS rfl (hi_44_1 ggp61.1) ?_
  refine tw_ic_ge rfl (fun q62 => ?_) (fun q62 => ?_)
  · try dsimp only [tvI_i, tvJ_j, tvR_r] at q62
    refine tw_iload rfl rfl ?_
    refine tw_aload rfl rfl ?_
    refine tw_getS rfl (hi_44_2 ggp61.1) ?_
    refine tw_ic_ne rfl (fun q63 => ?_) (fun q63 => ?_)
    · try dsimp only [tvI_i, tvJ_j, tvR_r] at q63
      have q63i := zneq rfl q63
      refine tw_iload rfl rfl ?_
      refine tw_aload rfl rfl ?_
      refine tw_getS rfl (hi_44_2 ggp61.1) ?_
      refine tw_isub rfl ?_
      refine tw_push rfl ?_
      refine tw_ic_gt rfl (fun q64 => ?_) (fun q64 => ?_)
      · try dsimp only [tvI_i, tvJ_j, tvR_r] at q64
        refine tw_aload rfl rfl ?_
        refine tw_aload rfl rfl ?_
        refine tw_getS rfl (hi_44_2 ggp61.1) ?_
        refine tw_push rfl ?_
        refine tw_virt2 rfl (f_refuse hG hX (ggp61).1 ppp61 ((cFr_T ggp61).trans hT) ((cFr_n ggp61).trans hN)) (fun wp65 hp65 p65 => ?_)
        obtain ⟨gp65, rfl, up65⟩ := p65
        have ggp65 := cFr_t ggp61 gp65
        refine tw_pop rfl ?_
        refine tw_push rfl ?_
        have hix : x.toNatClampNeg = (cs hp61).1 + k := zof_cl hx
        have hln := cNl ppp61 ((cFr_n ggp61).trans hN)
        have hTx : tA hp61 45 x.toNatClampNeg = T ((cs hp61).1 + k) := by rw [hix, ((cFr_T ggp61).trans hT)]
        have hnd : ¬ ((cs hp61).1 + k < n ∧ 48 ≤ (T ((cs hp61).1 + k)).toInt ∧ (T ((cs hp61).1 + k)).toInt ≤ 57) := by rw [← hTx]; omega
        have hrd : rD T n (cs hp61).1 = (cs hp61).1 + k := hd.symm.trans (rD_n hnd)
        have hpl := cPl ppp61
        have hbb : rB T n (cs h).1 = (cs hp61).1 := by rw [ssp61]; rfl
        have h400 := cP_400 ppp61
        rw [((cFr_n ggp61).trans hN)] at h400
        have hk0 : k ≠ 0 := fun z => q63 (Int32.toInt_inj.mp (by rw [hx, hpl, z]; rfl))
        have hsb : (x - tvI (tF hp61 44 2)).toInt = (((cs hp61).1 + k : Nat) : Int) - ((cs hp61).1 : Nat) := zsb hx hpl (by omega) (by omega)
        have z0 := q64
        exact tw_iret rfl ⟨ggp65, Or.inr ⟨_, rM_b hbb hrd hk0 (by omega), rfl, cFt_of ppp61 up65 (w := 1) rfl (by decide)⟩⟩
      · try dsimp only [tvI_i, tvJ_j, tvR_r] at q64
        refine tw_iload rfl rfl ?_
        refine tw_iload rfl rfl ?_
        refine tw_ic_le rfl (fun q66 => ?_) (fun q66 => ?_)
        · try dsimp only [tvI_i, tvJ_j, tvR_r] at q66
          refine tw_aload rfl rfl ?_
          refine tw_iload rfl rfl ?_
          refine tw_put rfl (fun f67 => ?_)
          refine tG_set f67 (hw_44_2 f67 (ggp61).1) (fun hf67 ef67 => ?_)
          try dsimp only [tvI_i] at ef67
          have gf67 := cFr_s ggp61 ef67 (by decide)
          obtain ⟨pf67, sf67⟩ := cTo ppp61 ((cFr_n ggp61).trans hN) ef67 hx (by omega) hkn
          refine tw_iload rfl rfl ?_
          have hix : x.toNatClampNeg = (cs hp61).1 + k := zof_cl hx
          have hln := cNl ppp61 ((cFr_n ggp61).trans hN)
          have hTx : tA hp61 45 x.toNatClampNeg = T ((cs hp61).1 + k) := by rw [hix, ((cFr_T ggp61).trans hT)]
          have hnd : ¬ ((cs hp61).1 + k < n ∧ 48 ≤ (T ((cs hp61).1 + k)).toInt ∧ (T ((cs hp61).1 + k)).toInt ≤ 57) := by rw [← hTx]; omega
          have hrd : rD T n (cs hp61).1 = (cs hp61).1 + k := hd.symm.trans (rD_n hnd)
          have hpl := cPl ppp61
          have hbb : rB T n (cs h).1 = (cs hp61).1 := by rw [ssp61]; rfl
          have h400 := cP_400 ppp61
          rw [((cFr_n ggp61).trans hN)] at h400
          have hk0 : k ≠ 0 := fun z => q63 (Int32.toInt_inj.mp (by rw [hx, hpl, z]; rfl))
          have hsb : (x - tvI (tF hp61 44 2)).toInt = (((cs hp61).1 + k : Nat) : Int) - ((cs hp61).1 : Nat) := zsb hx hpl (by omega) (by omega)
          have z0 := q64
          have z1 := q66
          have hval : y.toInt = ((rV T (cs hp61).1 k : Nat) : Int) := by omega
          refine tw_iret rfl ⟨gf67, Or.inl ⟨_, rM_c hbb hrd hk0 (by omega), congrArg (fun z => some (Value.int z)) (zof hval), ?_, pf67⟩⟩
          rw [sf67, ssp61]
          rfl
        · try dsimp only [tvI_i, tvJ_j, tvR_r] at q66
          refine tw_aload rfl rfl ?_
          refine tw_aload rfl rfl ?_
          refine tw_getS rfl (hi_44_2 ggp61.1) ?_
          refine tw_push rfl ?_
          refine tw_virt2 rfl (f_refuse hG hX (ggp61).1 ppp61 ((cFr_T ggp61).trans hT) ((cFr_n ggp61).trans hN)) (fun wp68 hp68 p68 => ?_)
          obtain ⟨gp68, rfl, up68⟩ := p68
          have ggp68 := cFr_t ggp61 gp68
          refine tw_pop rfl ?_
          refine tw_push rfl ?_
          have hix : x.toNatClampNeg = (cs hp61).1 + k := zof_cl hx
          have hln := cNl ppp61 ((cFr_n ggp61).trans hN)
          have hTx : tA hp61 45 x.toNatClampNeg = T ((cs hp61).1 + k) := by rw [hix, ((cFr_T ggp61).trans hT)]
          have hnd : ¬ ((cs hp61).1 + k < n ∧ 48 ≤ (T ((cs hp61).1 + k)).toInt ∧ (T ((cs hp61).1 + k)).toInt ≤ 57) := by rw [← hTx]; omega
          have hrd : rD T n (cs hp61).1 = (cs hp61).1 + k := hd.symm.trans (rD_n hnd)
          have hpl := cPl ppp61
          have hbb : rB T n (cs h).1 = (cs hp61).1 := by rw [ssp61]; rfl
          have h400 := cP_400 ppp61
          rw [((cFr_n ggp61).trans hN)] at h400
          have hk0 : k ≠ 0 := fun z => q63 (Int32.toInt_inj.mp (by rw [hx, hpl, z]; rfl))
          have hsb : (x - tvI (tF hp61 44 2)).toInt = (((cs hp61).1 + k : Nat) : Int) - ((cs hp61).1 : Nat) := zsb hx hpl (by omega) (by omega)
          have z0 := q64
          have z1 := q66
          exact tw_iret rfl ⟨ggp68, Or.inr ⟨_, rM_b hbb hrd hk0 (by omega), rfl, cFt_of ppp61 up68 (w := 1) rfl (by decide)⟩⟩
    · try dsimp only [tvI_i, tvJ_j, tvR_r] at q63
      have q63i := zeqi rfl q63
      refine tw_aload rfl rfl ?_
      refine tw_aload rfl rfl ?_
      refine tw_getS rfl (hi_44_2 ggp61.1) ?_
      refine tw_push rfl ?_
      refine tw_virt2 rfl (f_refuse hG hX (ggp61).1 ppp61 ((cFr_T ggp61).trans hT) ((cFr_n ggp61).trans hN)) (fun wp69 hp69 p69 => ?_)
      obtain ⟨gp69, rfl, up69⟩ := p69
      have ggp69 := cFr_t ggp61 gp69
      refine tw_pop rfl ?_
      refine tw_push rfl ?_
      have hix : x.toNatClampNeg = (cs hp61).1 + k := zof_cl hx
      have hln := cNl ppp61 ((cFr_n ggp61).trans hN)
      have hTx : tA hp61 45 x.toNatClampNeg = T ((cs hp61).1 + k) := by rw [hix, ((cFr_T ggp61).trans hT)]
      have hnd : ¬ ((cs hp61).1 + k < n ∧ 48 ≤ (T ((cs hp61).1 + k)).toInt ∧ (T ((cs hp61).1 + k)).toInt ≤ 57) := by rw [← hTx]; omega
      have hrd : rD T n (cs hp61).1 = (cs hp61).1 + k := hd.symm.trans (rD_n hnd)
      have hpl := cPl ppp61
      have hbb : rB T n (cs h).1 = (cs hp61).1 := by rw [ssp61]; rfl
      have h400 := cP_400 ppp61
      rw [((cFr_n ggp61).trans hN)] at h400
      have hk0 : k = 0 := by have z : x.toInt = (tvI (tF hp61 44 2)).toInt := congrArg Int32.toInt q63; omega
      subst hk0
      exact tw_iret rfl ⟨ggp69, Or.inr ⟨_, rM_a hbb hrd, rfl, cFt_of ppp61 up69 (w := 0) rfl (by decide)⟩⟩
  · try dsimp only [tvI_i, tvJ_j, tvR_r] at q62
    refine tw_aload rfl rfl ?_
    refine tw_getS rfl (hs_44_0 ggp61.1) ?_
    refine tw_iload rfl rfl ?_
    refine tw_bald rfl (fun f70 => ?_)
    refine tw_push rfl ?_
    refine tw_ic_lt rfl (fun q71 => ?_) (fun q71 => ?_)
    · try dsimp only [tvI_i, tvJ_j, tvR_r] at q71
      refine tw_iload rfl rfl ?_
      refine tw_aload rfl rfl ?_
      refine tw_getS rfl (hi_44_2 ggp61.1) ?_
      refine tw_ic_ne rfl (fun q72 => ?_) (fun q72 => ?_)
      · try dsimp only [tvI_i, tvJ_j, tvR_r] at q72
        have q72i := zneq rfl q72
        refine tw_iload rfl rfl ?_
        refine tw_aload rfl rfl ?_
        refine tw_getS rfl (hi_44_2 ggp61.1) ?_
        refine tw_isub rfl ?_
        refine tw_push rfl ?_
        refine tw_ic_gt rfl (fun q73 => ?_) (fun q73 => ?_)
        · try dsimp only [tvI_i, tvJ_j, tvR_r] at q73
          refine tw_aload rfl rfl ?_
          refine tw_aload rfl rfl ?_
          refine tw_getS rfl (hi_44_2 ggp61.1) ?_
          refine tw_push rfl ?_
          refine tw_virt2 rfl (f_refuse hG hX (ggp61).1 ppp61 ((cFr_T ggp61).trans hT) ((cFr_n ggp61).trans hN)) (fun wp74 hp74 p74 => ?_)
          obtain ⟨gp74, rfl, up74⟩ := p74
          have ggp74 := cFr_t ggp61 gp74
          refine tw_pop rfl ?_
          refine tw_push rfl ?_
          have hix : x.toNatClampNeg = (cs hp61).1 + k := zof_cl hx
          have hln := cNl ppp61 ((cFr_n ggp61).trans hN)
          have hTx : tA hp61 45 x.toNatClampNeg = T ((cs hp61).1 + k) := by rw [hix, ((cFr_T ggp61).trans hT)]
          have hnd : ¬ ((cs hp61).1 + k < n ∧ 48 ≤ (T ((cs hp61).1 + k)).toInt ∧ (T ((cs hp61).1 + k)).toInt ≤ 57) := by rw [← hTx]; omega
          have hrd : rD T n (cs hp61).1 = (cs hp61).1 + k := hd.symm.trans (rD_n hnd)
          have hpl := cPl ppp61
          have hbb : rB T n (cs h).1 = (cs hp61).1 := by rw [ssp61]; rfl
          have h400 := cP_400 ppp61
          rw [((cFr_n ggp61).trans hN)] at h400
          have hk0 : k ≠ 0 := fun z => q72 (Int32.toInt_inj.mp (by rw [hx, hpl, z]; rfl))
          have hsb : (x - tvI (tF hp61 44 2)).toInt = (((cs hp61).1 + k : Nat) : Int) - ((cs hp61).1 : Nat) := zsb hx hpl (by omega) (by omega)
          have z0 := q73
          exact tw_iret rfl ⟨ggp74, Or.inr ⟨_, rM_b hbb hrd hk0 (by omega), rfl, cFt_of ppp61 up74 (w := 1) rfl (by decide)⟩⟩
        · try dsimp only [tvI_i, tvJ_j, tvR_r] at q73
          refine tw_iload rfl rfl ?_
          refine tw_iload rfl rfl ?_
          refine tw_ic_le rfl (fun q75 => ?_) (fun q75 => ?_)
          · try dsimp only [tvI_i, tvJ_j, tvR_r] at q75
            refine tw_aload rfl rfl ?_
            refine tw_iload rfl rfl ?_
            refine tw_put rfl (fun f76 => ?_)
            refine tG_set f76 (hw_44_2 f76 (ggp61).1) (fun hf76 ef76 => ?_)
            try dsimp only [tvI_i] at ef76
            have gf76 := cFr_s ggp61 ef76 (by decide)
            obtain ⟨pf76, sf76⟩ := cTo ppp61 ((cFr_n ggp61).trans hN) ef76 hx (by omega) hkn
            refine tw_iload rfl rfl ?_
            have hix : x.toNatClampNeg = (cs hp61).1 + k := zof_cl hx
            have hln := cNl ppp61 ((cFr_n ggp61).trans hN)
            have hTx : tA hp61 45 x.toNatClampNeg = T ((cs hp61).1 + k) := by rw [hix, ((cFr_T ggp61).trans hT)]
            have hnd : ¬ ((cs hp61).1 + k < n ∧ 48 ≤ (T ((cs hp61).1 + k)).toInt ∧ (T ((cs hp61).1 + k)).toInt ≤ 57) := by rw [← hTx]; omega
            have hrd : rD T n (cs hp61).1 = (cs hp61).1 + k := hd.symm.trans (rD_n hnd)
            have hpl := cPl ppp61
            have hbb : rB T n (cs h).1 = (cs hp61).1 := by rw [ssp61]; rfl
            have h400 := cP_400 ppp61
            rw [((cFr_n ggp61).trans hN)] at h400
            have hk0 : k ≠ 0 := fun z => q72 (Int32.toInt_inj.mp (by rw [hx, hpl, z]; rfl))
            have hsb : (x - tvI (tF hp61 44 2)).toInt = (((cs hp61).1 + k : Nat) : Int) - ((cs hp61).1 : Nat) := zsb hx hpl (by omega) (by omega)
            have z0 := q73
            have z1 := q75
            have hval : y.toInt = ((rV T (cs hp61).1 k : Nat) : Int) := by omega
            refine tw_iret rfl ⟨gf76, Or.inl ⟨_, rM_c hbb hrd hk0 (by omega), congrArg (fun z => some (Value.int z)) (zof hval), ?_, pf76⟩⟩
            rw [sf76, ssp61]
            rfl
          · try dsimp only [tvI_i, tvJ_j, tvR_r] at q75
            refine tw_aload rfl rfl ?_
            refine tw_aload rfl rfl ?_
            refine tw_getS rfl (hi_44_2 ggp61.1) ?_
            refine tw_push rfl ?_
            refine tw_virt2 rfl (f_refuse hG hX (ggp61).1 ppp61 ((cFr_T ggp61).trans hT) ((cFr_n ggp61).trans hN)) (fun wp77 hp77 p77 => ?_)
            obtain ⟨gp77, rfl, up77⟩ := p77
            have ggp77 := cFr_t ggp61 gp77
            refine tw_pop rfl ?_
            refine tw_push rfl ?_
            have hix : x.toNatClampNeg = (cs hp61).1 + k := zof_cl hx
            have hln := cNl ppp61 ((cFr_n ggp61).trans hN)
            have hTx : tA hp61 45 x.toNatClampNeg = T ((cs hp61).1 + k) := by rw [hix, ((cFr_T ggp61).trans hT)]
            have hnd : ¬ ((cs hp61).1 + k < n ∧ 48 ≤ (T ((cs hp61).1 + k)).toInt ∧ (T ((cs hp61).1 + k)).toInt ≤ 57) := by rw [← hTx]; omega
            have hrd : rD T n (cs hp61).1 = (cs hp61).1 + k := hd.symm.trans (rD_n hnd)
            have hpl := cPl ppp61
            have hbb : rB T n (cs h).1 = (cs hp61).1 := by rw [ssp61]; rfl
            have h400 := cP_400 ppp61
            rw [((cFr_n ggp61).trans hN)] at h400
            have hk0 : k ≠ 0 := fun z => q72 (Int32.toInt_inj.mp (by rw [hx, hpl, z]; rfl))
            have hsb : (x - tvI (tF hp61 44 2)).toInt = (((cs hp61).1 + k : Nat) : Int) - ((cs hp61).1 : Nat) := zsb hx hpl (by omega) (by omega)
            have z0 := q73
            have z1 := q75
            exact tw_iret rfl ⟨ggp77, Or.inr ⟨_, rM_b hbb hrd hk0 (by omega), rfl, cFt_of ppp61 up77 (w := 1) rfl (by decide)⟩⟩
      · try dsimp only [tvI_i, tvJ_j, tvR_r] at q72
        have q72i := zeqi rfl q72
        refine tw_aload rfl rfl ?_
        refine tw_aload rfl rfl ?_
        refine tw_getS rfl (hi_44_2 ggp61.1) ?_
        refine tw_push rfl ?_
        refine tw_virt2 rfl (f_refuse hG hX (ggp61).1 ppp61 ((cFr_T ggp61).trans hT) ((cFr_n ggp61).trans hN)) (fun wp78 hp78 p78 => ?_)
        obtain ⟨gp78, rfl, up78⟩ := p78
        have ggp78 := cFr_t ggp61 gp78
        refine tw_pop rfl ?_
        refine tw_push rfl ?_
        have hix : x.toNatClampNeg = (cs hp61).1 + k := zof_cl hx
        have hln := cNl ppp61 ((cFr_n ggp61).trans hN)
        have hTx : tA hp61 45 x.toNatClampNeg = T ((cs hp61).1 + k) := by rw [hix, ((cFr_T ggp61).trans hT)]
        have hnd : ¬ ((cs hp61).1 + k < n ∧ 48 ≤ (T ((cs hp61).1 + k)).toInt ∧ (T ((cs hp61).1 + k)).toInt ≤ 57) := by rw [← hTx]; omega
        have hrd : rD T n (cs hp61).1 = (cs hp61).1 + k := hd.symm.trans (rD_n hnd)
        have hpl := cPl ppp61
        have hbb : rB T n (cs h).1 = (cs hp61).1 := by rw [ssp61]; rfl
        have h400 := cP_400 ppp61
        rw [((cFr_n ggp61).trans hN)] at h400
        have hk0 : k = 0 := by have z : x.toInt = (tvI (tF hp61 44 2)).toInt := congrArg Int32.toInt q72; omega
        subst hk0
        exact tw_iret rfl ⟨ggp78, Or.inr ⟨_, rM_a hbb hrd, rfl, cFt_of ppp61 up78 (w := 0) rfl (by decide)⟩⟩
    · try dsimp only [tvI_i, tvJ_j, tvR_r] at q71
      refine tw_aload rfl rfl ?_
      refine tw_getS rfl (hs_44_0 ggp61.1) ?_
      refine tw_iload rfl rfl ?_
      refine tw_bald rfl (fun f79 => ?_)
      refine tw_push rfl ?_
      refine tw_ic_gt rfl (fun q80 => ?_) (fun q80 => ?_)
      · try dsimp only [tvI_i, tvJ_j, tvR_r] at q80
        refine tw_iload rfl rfl ?_
        refine tw_aload rfl rfl ?_
        refine tw_getS rfl (hi_44_2 ggp61.1) ?_
        refine tw_ic_ne rfl (fun q81 => ?_) (fun q81 => ?_)
        · try dsimp only [tvI_i, tvJ_j, tvR_r] at q81
          have q81i := zneq rfl q81
          refine tw_iload rfl rfl ?_
          refine tw_aload rfl rfl ?_
          refine tw_getS rfl (hi_44_2 ggp61.1) ?_
          refine tw_isub rfl ?_
          refine tw_push rfl ?_
          refine tw_ic_gt rfl (fun q82 => ?_) (fun q82 => ?_)
          · try dsimp only [tvI_i, tvJ_j, tvR_r] at q82
            refine tw_aload rfl rfl ?_
            refine tw_aload rfl rfl ?_
            refine tw_getS rfl (hi_44_2 ggp61.1) ?_
            refine tw_push rfl ?_
            refine tw_virt2 rfl (f_refuse hG hX (ggp61).1 ppp61 ((cFr_T ggp61).trans hT) ((cFr_n ggp61).trans hN)) (fun wp83 hp83 p83 => ?_)
            obtain ⟨gp83, rfl, up83⟩ := p83
            have ggp83 := cFr_t ggp61 gp83
            refine tw_pop rfl ?_
            refine tw_push rfl ?_
            have hix : x.toNatClampNeg = (cs hp61).1 + k := zof_cl hx
            have hln := cNl ppp61 ((cFr_n ggp61).trans hN)
            have hTx : tA hp61 45 x.toNatClampNeg = T ((cs hp61).1 + k) := by rw [hix, ((cFr_T ggp61).trans hT)]
            have hnd : ¬ ((cs hp61).1 + k < n ∧ 48 ≤ (T ((cs hp61).1 + k)).toInt ∧ (T ((cs hp61).1 + k)).toInt ≤ 57) := by rw [← hTx]; omega
            have hrd : rD T n (cs hp61).1 = (cs hp61).1 + k := hd.symm.trans (rD_n hnd)
            have hpl := cPl ppp61
            have hbb : rB T n (cs h).1 = (cs hp61).1 := by rw [ssp61]; rfl
            have h400 := cP_400 ppp61
            rw [((cFr_n ggp61).trans hN)] at h400
            have hk0 : k ≠ 0 := fun z => q81 (Int32.toInt_inj.mp (by rw [hx, hpl, z]; rfl))
            have hsb : (x - tvI (tF hp61 44 2)).toInt = (((cs hp61).1 + k : Nat) : Int) - ((cs hp61).1 : Nat) := zsb hx hpl (by omega) (by omega)
            have z0 := q82
            exact tw_iret rfl ⟨ggp83, Or.inr ⟨_, rM_b hbb hrd hk0 (by omega), rfl, cFt_of ppp61 up83 (w := 1) rfl (by decide)⟩⟩
          · try dsimp only [tvI_i, tvJ_j, tvR_r] at q82
            refine tw_iload rfl rfl ?_
            refine tw_iload rfl rfl ?_
            refine tw_ic_le rfl (fun q84 => ?_) (fun q84 => ?_)
            · try dsimp only [tvI_i, tvJ_j, tvR_r] at q84
              refine tw_aload rfl rfl ?_
              refine tw_iload rfl rfl ?_
              refine tw_put rfl (fun f85 => ?_)
              refine tG_set f85 (hw_44_2 f85 (ggp61).1) (fun hf85 ef85 => ?_)
              try dsimp only [tvI_i] at ef85
              have gf85 := cFr_s ggp61 ef85 (by decide)
              obtain ⟨pf85, sf85⟩ := cTo ppp61 ((cFr_n ggp61).trans hN) ef85 hx (by omega) hkn
              refine tw_iload rfl rfl ?_
              have hix : x.toNatClampNeg = (cs hp61).1 + k := zof_cl hx
              have hln := cNl ppp61 ((cFr_n ggp61).trans hN)
              have hTx : tA hp61 45 x.toNatClampNeg = T ((cs hp61).1 + k) := by rw [hix, ((cFr_T ggp61).trans hT)]
              have hnd : ¬ ((cs hp61).1 + k < n ∧ 48 ≤ (T ((cs hp61).1 + k)).toInt ∧ (T ((cs hp61).1 + k)).toInt ≤ 57) := by rw [← hTx]; omega
              have hrd : rD T n (cs hp61).1 = (cs hp61).1 + k := hd.symm.trans (rD_n hnd)
              have hpl := cPl ppp61
              have hbb : rB T n (cs h).1 = (cs hp61).1 := by rw [ssp61]; rfl
              have h400 := cP_400 ppp61
              rw [((cFr_n ggp61).trans hN)] at h400
              have hk0 : k ≠ 0 := fun z => q81 (Int32.toInt_inj.mp (by rw [hx, hpl, z]; rfl))
              have hsb : (x - tvI (tF hp61 44 2)).toInt = (((cs hp61).1 + k : Nat) : Int) - ((cs hp61).1 : Nat) := zsb hx hpl (by omega) (by omega)
              have z0 := q82
              have z1 := q84
              have hval : y.toInt = ((rV T (cs hp61).1 k : Nat) : Int) := by omega
              refine tw_iret rfl ⟨gf85, Or.inl ⟨_, rM_c hbb hrd hk0 (by omega), congrArg (fun z => some (Value.int z)) (zof hval), ?_, pf85⟩⟩
              rw [sf85, ssp61]
              rfl
            · try dsimp only [tvI_i, tvJ_j, tvR_r] at q84
              refine tw_aload rfl rfl ?_
              refine tw_aload rfl rfl ?_
              refine tw_getS rfl (hi_44_2 ggp61.1) ?_
              refine tw_push rfl ?_
              refine tw_virt2 rfl (f_refuse hG hX (ggp61).1 ppp61 ((cFr_T ggp61).trans hT) ((cFr_n ggp61).trans hN)) (fun wp86 hp86 p86 => ?_)
              obtain ⟨gp86, rfl, up86⟩ := p86
              have ggp86 := cFr_t ggp61 gp86
              refine tw_pop rfl ?_
              refine tw_push rfl ?_
              have hix : x.toNatClampNeg = (cs hp61).1 + k := zof_cl hx
              have hln := cNl ppp61 ((cFr_n ggp61).trans hN)
              have hTx : tA hp61 45 x.toNatClampNeg = T ((cs hp61).1 + k) := by rw [hix, ((cFr_T ggp61).trans hT)]
              have hnd : ¬ ((cs hp61).1 + k < n ∧ 48 ≤ (T ((cs hp61).1 + k)).toInt ∧ (T ((cs hp61).1 + k)).toInt ≤ 57) := by rw [← hTx]; omega
              have hrd : rD T n (cs hp61).1 = (cs hp61).1 + k := hd.symm.trans (rD_n hnd)
              have hpl := cPl ppp61
              have hbb : rB T n (cs h).1 = (cs hp61).1 := by rw [ssp61]; rfl
              have h400 := cP_400 ppp61
              rw [((cFr_n ggp61).trans hN)] at h400
              have hk0 : k ≠ 0 := fun z => q81 (Int32.toInt_inj.mp (by rw [hx, hpl, z]; rfl))
              have hsb : (x - tvI (tF hp61 44 2)).toInt = (((cs hp61).1 + k : Nat) : Int) - ((cs hp61).1 : Nat) := zsb hx hpl (by omega) (by omega)
              have z0 := q82
              have z1 := q84
              exact tw_iret rfl ⟨ggp86, Or.inr ⟨_, rM_b hbb hrd hk0 (by omega), rfl, cFt_of ppp61 up86 (w := 1) rfl (by decide)⟩⟩
        · try dsimp only [tvI_i, tvJ_j, tvR_r] at q81
          have q81i := zeqi rfl q81
          refine tw_aload rfl rfl ?_
          refine tw_aload rfl rfl ?_
          refine tw_getS rfl (hi_44_2 ggp61.1) ?_
          refine tw_push rfl ?_
          refine tw_virt2 rfl (f_refuse hG hX (ggp61).1 ppp61 ((cFr_T ggp61).trans hT) ((cFr_n ggp61).trans hN)) (fun wp87 hp87 p87 => ?_)
          obtain ⟨gp87, rfl, up87⟩ := p87
          have ggp87 := cFr_t ggp61 gp87
          refine tw_pop rfl ?_
          refine tw_push rfl ?_
          have hix : x.toNatClampNeg = (cs hp61).1 + k := zof_cl hx
          have hln := cNl ppp61 ((cFr_n ggp61).trans hN)
          have hTx : tA hp61 45 x.toNatClampNeg = T ((cs hp61).1 + k) := by rw [hix, ((cFr_T ggp61).trans hT)]
          have hnd : ¬ ((cs hp61).1 + k < n ∧ 48 ≤ (T ((cs hp61).1 + k)).toInt ∧ (T ((cs hp61).1 + k)).toInt ≤ 57) := by rw [← hTx]; omega
          have hrd : rD T n (cs hp61).1 = (cs hp61).1 + k := hd.symm.trans (rD_n hnd)
          have hpl := cPl ppp61
          have hbb : rB T n (cs h).1 = (cs hp61).1 := by rw [ssp61]; rfl
          have h400 := cP_400 ppp61
          rw [((cFr_n ggp61).trans hN)] at h400
          have hk0 : k = 0 := by have z : x.toInt = (tvI (tF hp61 44 2)).toInt := congrArg Int32.toInt q81; omega
          subst hk0
          exact tw_iret rfl ⟨ggp87, Or.inr ⟨_, rM_a hbb hrd, rfl, cFt_of ppp61 up87 (w := 0) rfl (by decide)⟩⟩
      · try dsimp only [tvI_i, tvJ_j, tvR_r] at q80
        refine tw_iload rfl rfl ?_
        refine tw_push rfl ?_
        refine tw_imul rfl ?_
        refine tw_aload rfl rfl ?_
        refine tw_getS rfl (hs_44_0 ggp61.1) ?_
        refine tw_iload rfl rfl ?_
        refine tw_bald rfl (fun f88 => ?_)
        refine tw_push rfl ?_
        refine tw_isub rfl ?_
        refine tw_iadd rfl ?_
        refine tw_push rfl ?_
        refine tw_imin rfl ?_
        refine tw_istore rfl ?_
        refine tw_iinc rfl rfl ?_
        refine tw_goto rfl ?_
        have hix : x.toNatClampNeg = (cs hp61).1 + k := zof_cl hx
        have hln := cNl ppp61 ((cFr_n ggp61).trans hN)
        have hTx : tA hp61 45 x.toNatClampNeg = T ((cs hp61).1 + k) := by rw [hix, ((cFr_T ggp61).trans hT)]
        have ht : 48 ≤ (T ((cs hp61).1 + k)).toInt ∧ (T ((cs hp61).1 + k)).toInt ≤ 57 := by rw [← hTx]; exact ⟨by omega, by omega⟩
        exact tG_cut (zW_mono zTt G dp) (Or.inr ⟨rfl, rfl, rfl, k + 1, _, _, _, zincL hx q62, by omega, (rD_y ⟨by omega, ht⟩).symm.trans hd, ((cNum (t := tA hp61 45 x.toNatClampNeg) hv (by rw [hTx]; exact ht)).trans (by rw [hTx]; rfl)), rfl⟩)
theorem f_comparisonHere {G : zG} (hG : G.1 = zProg) (hX : G.2.1 = ztx) {h : zH} {T : Nat → Int32} {n : Nat} (hs : tSh h) (hp : cP h) (hT : tA h 45 = T) (hN : cn h = n)  : tC zTt G 82 [.ref 44] h (fun w h2 => cFr h h2 ∧ ((∃ q, rCm T n (rB T n (cs h).1) = some q ∧ (cs h).2.1 ≠ 80 ∧ w = some (.int (Int32.ofNat q.1)) ∧ cs h2 = (q.2, (cs h).2.1 + 1, (cs h).2.2) ∧ cP h2) ∨ (w = some (.int (-1)) ∧ ∃ e, cFt h2 e ∧ ((rCm T n (rB T n (cs h).1) = none ∧ e = 1 + 8 * (rB T n (cs h).1) + 0) ∨ (∃ q, rCm T n (rB T n (cs h).1) = some q ∧ (cs h).2.1 = 80 ∧ e = 1 + 8 * (rB T n (cs h).1) + 3))))) := by
  refine tC_in (by rw [hG]; rfl) (fun dp => ?_)
  have g0 := cFr_r hs
  have hpn : (cs h).1 ≤ n := by rw [← hN]; exact cP_le hp
  refine tw_aload rfl rfl ?_
  refine tw_virt0 rfl (f_signHere hG hX (g0).1 hp ((cFr_T g0).trans hT) ((cFr_n g0).trans hN)) (fun wp89 hp89 p89 => ?_)
  obtain ⟨gp89, ppp89, ssp89, t3p89, cp89, rfl, kp89⟩ := p89
  have ggp89 := cFr_t g0 gp89
  refine tw_istore rfl ?_
  refine tw_iload rfl rfl ?_
  refine tw_push rfl ?_
  refine tw_ic_eq rfl (fun q90 => ?_) (fun q90 => ?_)
  · try dsimp only [tvI_i, tvJ_j, tvR_r] at q90
    have q90i := zeqi (Y := 60) (by decide) q90
    refine tw_aload rfl rfl ?_
    refine tw_virt0 rfl (f_countOne hG hX (ggp89).1 ppp89 ((cFr_T ggp89).trans hT) ((cFr_n ggp89).trans hN)) (fun w9 hp91 p91 => ?_)
    obtain ⟨gp91, ⟨rfl, p91, ppp91, t3p91⟩ | ⟨rfl, xp91, p91, up91⟩⟩ := p91
    · have ggp91 := cFr_t ggp89 gp91
      refine tw_if_ne rfl (fun _ => ?_) (fun z => absurd z (by decide))
      refine tw_aload rfl rfl ?_
      refine tw_dup rfl ?_
      refine tw_getS rfl (hi_44_2 ggp91.1) ?_
      refine tw_push rfl ?_
      refine tw_iadd rfl ?_
      refine tw_put rfl (fun f92 => ?_)
      refine tG_set f92 (hw_44_2 f92 (ggp91).1) (fun hf92 ef92 => ?_)
      try dsimp only [tvI_i] at ef92
      have gf92 := cFr_s ggp91 ef92 (by decide)
      have hbn := ((sgn_k kp89 60 (by decide)).mp q90).1
      obtain ⟨hcnf92, hcef92⟩ := rC_y p91
      have hlf92 : (cs hp91).1 < n := by rw [hcef92]; show (cs hp89).1 < n; rw [ssp89]; exact hbn
      obtain ⟨pf92, sf92⟩ := cInc ppp91 hlf92 ((cFr_n ggp91).trans hN) ef92
      rw [hcef92] at sf92
      refine tw_iload rfl rfl ?_
      refine tw_push rfl ?_
      refine tw_ic_ne rfl (fun q93 => ?_) (fun q93 => ?_)
      · try dsimp only [tvI_i, tvJ_j, tvR_r] at q93
        have q93i := zneq (Y := 61) (by decide) q93
        refine tw_aload rfl rfl ?_
        refine tw_getS rfl (hi_44_2 (gf92).1) ?_
        refine tw_aload rfl rfl ?_
        refine tw_getS rfl (hi_44_1 (gf92).1) ?_
        refine tw_ic_ge rfl (fun q94 => ?_) (fun q94 => ?_)
        · try dsimp only [tvI_i, tvJ_j, tvR_r] at q94
          refine tw_iload rfl rfl ?_
          refine tw_push rfl ?_
          refine tw_ic_ne rfl (fun q95 => ?_) (fun q95 => ?_)
          · try dsimp only [tvI_i, tvJ_j, tvR_r] at q95
            have q95i := zneq (Y := 60) (by decide) q95
            exact absurd q90 q95
          · try dsimp only [tvI_i, tvJ_j, tvR_r] at q95
            have q95i := zeqi (Y := 60) (by decide) q95
            refine tw_push rfl ?_
            refine tw_goto rfl ?_
            have hbb : (cs hp89).1 = (rB T n (cs h).1) := by rw [ssp89]; rfl
            rw [ssp89] at hcnf92
            have hb1 : (cs hf92).1 = (rB T n (cs h).1) + 1 := by rw [sf92, ssp89]; rfl
            have hy : ¬ ((rB T n (cs h).1) + 1 < n ∧ T ((rB T n (cs h).1) + 1) = 61) := by
              rw [← hb1, ← ((cFr_T gf92).trans hT)]
              rintro ⟨y1, y2⟩
              exact cGe pf92 ((cFr_n gf92).trans hN) q94 y1
            exact tw_iret rfl ⟨gf92, Or.inl ⟨_, (cm60 ((sgn_k kp89 60 (by decide)).mp q90)).trans (if_neg hy), hcnf92, rfl, (by rw [sf92, ssp89]; rfl), pf92⟩⟩
        · try dsimp only [tvI_i, tvJ_j, tvR_r] at q94
          refine tw_aload rfl rfl ?_
          refine tw_getS rfl (hs_44_0 (gf92).1) ?_
          refine tw_aload rfl rfl ?_
          refine tw_getS rfl (hi_44_2 (gf92).1) ?_
          refine tw_bald rfl (fun f96 => ?_)
          refine tw_push rfl ?_
          refine tw_ic_ne rfl (fun q97 => ?_) (fun q97 => ?_)
          · try dsimp only [tvI_i, tvJ_j, tvR_r] at q97
            have q97i := zneq (Y := 61) (by decide) q97
            refine tw_iload rfl rfl ?_
            refine tw_push rfl ?_
            refine tw_ic_ne rfl (fun q98 => ?_) (fun q98 => ?_)
            · try dsimp only [tvI_i, tvJ_j, tvR_r] at q98
              have q98i := zneq (Y := 60) (by decide) q98
              exact absurd q90 q98
            · try dsimp only [tvI_i, tvJ_j, tvR_r] at q98
              have q98i := zeqi (Y := 60) (by decide) q98
              refine tw_push rfl ?_
              refine tw_goto rfl ?_
              have hbb : (cs hp89).1 = (rB T n (cs h).1) := by rw [ssp89]; rfl
              rw [ssp89] at hcnf92
              have hb1 : (cs hf92).1 = (rB T n (cs h).1) + 1 := by rw [sf92, ssp89]; rfl
              have hy : ¬ ((rB T n (cs h).1) + 1 < n ∧ T ((rB T n (cs h).1) + 1) = 61) := by
                rw [← hb1, ← ((cFr_T gf92).trans hT)]
                rintro ⟨y1, y2⟩
                exact q97 y2
              exact tw_iret rfl ⟨gf92, Or.inl ⟨_, (cm60 ((sgn_k kp89 60 (by decide)).mp q90)).trans (if_neg hy), hcnf92, rfl, (by rw [sf92, ssp89]; rfl), pf92⟩⟩
          · try dsimp only [tvI_i, tvJ_j, tvR_r] at q97
            have q97i := zeqi (Y := 61) (by decide) q97
            refine tw_aload rfl rfl ?_
            refine tw_dup rfl ?_
            refine tw_getS rfl (hi_44_2 (gf92).1) ?_
            refine tw_push rfl ?_
            refine tw_iadd rfl ?_
            refine tw_put rfl (fun f99 => ?_)
            refine tG_set f99 (hw_44_2 f99 (gf92).1) (fun hf99 ef99 => ?_)
            try dsimp only [tvI_i] at ef99
            have gf99 := cFr_s gf92 ef99 (by decide)
            have hlf99 := cLt pf92 ((cFr_n gf92).trans hN) q94
            obtain ⟨pf99, sf99⟩ := cInc pf92 hlf99 ((cFr_n gf92).trans hN) ef99
            refine tw_iload rfl rfl ?_
            refine tw_push rfl ?_
            refine tw_ic_ne rfl (fun q100 => ?_) (fun q100 => ?_)
            · try dsimp only [tvI_i, tvJ_j, tvR_r] at q100
              have q100i := zneq (Y := 60) (by decide) q100
              exact absurd q90 q100
            · try dsimp only [tvI_i, tvJ_j, tvR_r] at q100
              have q100i := zeqi (Y := 60) (by decide) q100
              refine tw_push rfl ?_
              refine tw_goto rfl ?_
              have hbb : (cs hp89).1 = (rB T n (cs h).1) := by rw [ssp89]; rfl
              rw [ssp89] at hcnf92
              have hb1 : (cs hf92).1 = (rB T n (cs h).1) + 1 := by rw [sf92, ssp89]; rfl
              have hy : (rB T n (cs h).1) + 1 < n ∧ T ((rB T n (cs h).1) + 1) = 61 := by rw [← hb1]; exact ⟨hlf99, by rw [← ((cFr_T gf92).trans hT)]; exact q97⟩
              exact tw_iret rfl ⟨gf99, Or.inl ⟨_, (cm60 ((sgn_k kp89 60 (by decide)).mp q90)).trans (if_pos hy), hcnf92, rfl, (by rw [sf99, sf92, ssp89]; rfl), pf99⟩⟩
      · try dsimp only [tvI_i, tvJ_j, tvR_r] at q93
        have q93i := zeqi (Y := 61) (by decide) q93
        exact absurd (q90.symm.trans q93) (by decide)
    · have ggp91 := cFr_t ggp89 gp91
      refine tw_if_ne rfl (fun z => absurd z (by decide)) (fun _ => ?_)
      refine tw_push rfl ?_
      have hbb : (cs hp89).1 = (rB T n (cs h).1) := by rw [ssp89]; rfl
      obtain ⟨o1, o2⟩ := rC_n p91
      rw [hbb] at o2
      rw [ssp89] at o1
      obtain ⟨q9, hq9⟩ := cm_s (Or.inr (Or.inl ((sgn_k kp89 60 (by decide)).mp q90)))
      exact tw_iret rfl ⟨ggp91, Or.inr ⟨rfl, _, up91, Or.inr ⟨q9, hq9, o1, o2⟩⟩⟩
  · try dsimp only [tvI_i, tvJ_j, tvR_r] at q90
    have q90i := zneq (Y := 60) (by decide) q90
    refine tw_iload rfl rfl ?_
    refine tw_push rfl ?_
    refine tw_ic_eq rfl (fun q101 => ?_) (fun q101 => ?_)
    · try dsimp only [tvI_i, tvJ_j, tvR_r] at q101
      have q101i := zeqi (Y := 61) (by decide) q101
      refine tw_aload rfl rfl ?_
      refine tw_virt0 rfl (f_countOne hG hX (ggp89).1 ppp89 ((cFr_T ggp89).trans hT) ((cFr_n ggp89).trans hN)) (fun w9 hp102 p102 => ?_)
      obtain ⟨gp102, ⟨rfl, p102, ppp102, t3p102⟩ | ⟨rfl, xp102, p102, up102⟩⟩ := p102
      · have ggp102 := cFr_t ggp89 gp102
        refine tw_if_ne rfl (fun _ => ?_) (fun z => absurd z (by decide))
        refine tw_aload rfl rfl ?_
        refine tw_dup rfl ?_
        refine tw_getS rfl (hi_44_2 ggp102.1) ?_
        refine tw_push rfl ?_
        refine tw_iadd rfl ?_
        refine tw_put rfl (fun f103 => ?_)
        refine tG_set f103 (hw_44_2 f103 (ggp102).1) (fun hf103 ef103 => ?_)
        try dsimp only [tvI_i] at ef103
        have gf103 := cFr_s ggp102 ef103 (by decide)
        have hbn := ((sgn_k kp89 61 (by decide)).mp q101).1
        obtain ⟨hcnf103, hcef103⟩ := rC_y p102
        have hlf103 : (cs hp102).1 < n := by rw [hcef103]; show (cs hp89).1 < n; rw [ssp89]; exact hbn
        obtain ⟨pf103, sf103⟩ := cInc ppp102 hlf103 ((cFr_n ggp102).trans hN) ef103
        rw [hcef103] at sf103
        refine tw_iload rfl rfl ?_
        refine tw_push rfl ?_
        refine tw_ic_ne rfl (fun q104 => ?_) (fun q104 => ?_)
        · try dsimp only [tvI_i, tvJ_j, tvR_r] at q104
          have q104i := zneq (Y := 61) (by decide) q104
          exact absurd q101 q104
        · try dsimp only [tvI_i, tvJ_j, tvR_r] at q104
          have q104i := zeqi (Y := 61) (by decide) q104
          refine tw_push rfl ?_
          have hbb : (cs hp89).1 = (rB T n (cs h).1) := by rw [ssp89]; rfl
          rw [ssp89] at hcnf103
          exact tw_iret rfl ⟨gf103, Or.inl ⟨_, cm61 ((sgn_k kp89 61 (by decide)).mp q101), hcnf103, rfl, (by rw [sf103, ssp89]; rfl), pf103⟩⟩
      · have ggp102 := cFr_t ggp89 gp102
        refine tw_if_ne rfl (fun z => absurd z (by decide)) (fun _ => ?_)
        refine tw_push rfl ?_
        have hbb : (cs hp89).1 = (rB T n (cs h).1) := by rw [ssp89]; rfl
        obtain ⟨o1, o2⟩ := rC_n p102
        rw [hbb] at o2
        rw [ssp89] at o1
        obtain ⟨q9, hq9⟩ := cm_s (Or.inl ((sgn_k kp89 61 (by decide)).mp q101))
        exact tw_iret rfl ⟨ggp102, Or.inr ⟨rfl, _, up102, Or.inr ⟨q9, hq9, o1, o2⟩⟩⟩
    · try dsimp only [tvI_i, tvJ_j, tvR_r] at q101
      have q101i := zneq (Y := 61) (by decide) q101
      refine tw_iload rfl rfl ?_
      refine tw_push rfl ?_
      refine tw_ic_eq rfl (fun q105 => ?_) (fun q105 => ?_)
      · try dsimp only [tvI_i, tvJ_j, tvR_r] at q105
        have q105i := zeqi (Y := 62) (by decide) q105
        refine tw_aload rfl rfl ?_
        refine tw_virt0 rfl (f_countOne hG hX (ggp89).1 ppp89 ((cFr_T ggp89).trans hT) ((cFr_n ggp89).trans hN)) (fun w9 hp106 p106 => ?_)
        obtain ⟨gp106, ⟨rfl, p106, ppp106, t3p106⟩ | ⟨rfl, xp106, p106, up106⟩⟩ := p106
        · have ggp106 := cFr_t ggp89 gp106
          refine tw_if_ne rfl (fun _ => ?_) (fun z => absurd z (by decide))
          refine tw_aload rfl rfl ?_
          refine tw_dup rfl ?_
          refine tw_getS rfl (hi_44_2 ggp106.1) ?_
          refine tw_push rfl ?_
          refine tw_iadd rfl ?_
          refine tw_put rfl (fun f107 => ?_)
          refine tG_set f107 (hw_44_2 f107 (ggp106).1) (fun hf107 ef107 => ?_)
          try dsimp only [tvI_i] at ef107
          have gf107 := cFr_s ggp106 ef107 (by decide)
          have hbn := ((sgn_k kp89 62 (by decide)).mp q105).1
          obtain ⟨hcnf107, hcef107⟩ := rC_y p106
          have hlf107 : (cs hp106).1 < n := by rw [hcef107]; show (cs hp89).1 < n; rw [ssp89]; exact hbn
          obtain ⟨pf107, sf107⟩ := cInc ppp106 hlf107 ((cFr_n ggp106).trans hN) ef107
          rw [hcef107] at sf107
          refine tw_iload rfl rfl ?_
          refine tw_push rfl ?_
          refine tw_ic_ne rfl (fun q108 => ?_) (fun q108 => ?_)
          · try dsimp only [tvI_i, tvJ_j, tvR_r] at q108
            have q108i := zneq (Y := 61) (by decide) q108
            refine tw_aload rfl rfl ?_
            refine tw_getS rfl (hi_44_2 (gf107).1) ?_
            refine tw_aload rfl rfl ?_
            refine tw_getS rfl (hi_44_1 (gf107).1) ?_
            refine tw_ic_ge rfl (fun q109 => ?_) (fun q109 => ?_)
            · try dsimp only [tvI_i, tvJ_j, tvR_r] at q109
              refine tw_iload rfl rfl ?_
              refine tw_push rfl ?_
              refine tw_ic_ne rfl (fun q110 => ?_) (fun q110 => ?_)
              · try dsimp only [tvI_i, tvJ_j, tvR_r] at q110
                have q110i := zneq (Y := 60) (by decide) q110
                refine tw_push rfl ?_
                have hbb : (cs hp89).1 = (rB T n (cs h).1) := by rw [ssp89]; rfl
                rw [ssp89] at hcnf107
                have hb1 : (cs hf107).1 = (rB T n (cs h).1) + 1 := by rw [sf107, ssp89]; rfl
                have hy : ¬ ((rB T n (cs h).1) + 1 < n ∧ T ((rB T n (cs h).1) + 1) = 61) := by
                  rw [← hb1, ← ((cFr_T gf107).trans hT)]
                  rintro ⟨y1, y2⟩
                  exact cGe pf107 ((cFr_n gf107).trans hN) q109 y1
                exact tw_iret rfl ⟨gf107, Or.inl ⟨_, (cm62 ((sgn_k kp89 62 (by decide)).mp q105)).trans (if_neg hy), hcnf107, rfl, (by rw [sf107, ssp89]; rfl), pf107⟩⟩
              · try dsimp only [tvI_i, tvJ_j, tvR_r] at q110
                have q110i := zeqi (Y := 60) (by decide) q110
                exact absurd (q105.symm.trans q110) (by decide)
            · try dsimp only [tvI_i, tvJ_j, tvR_r] at q109
              refine tw_aload rfl rfl ?_
              refine tw_getS rfl (hs_44_0 (gf107).1) ?_
              refine tw_aload rfl rfl ?_
              refine tw_getS rfl (hi_44_2 (gf107).1) ?_
              refine tw_bald rfl (fun f111 => ?_)
              refine tw_push rfl ?_
              refine tw_ic_ne rfl (fun q112 => ?_) (fun q112 => ?_)
              · try dsimp only [tvI_i, tvJ_j, tvR_r] at q112
                have q112i := zneq (Y := 61) (by decide) q112
                refine tw_iload rfl rfl ?_
                refine tw_push rfl ?_
                refine tw_ic_ne rfl (fun q113 => ?_) (fun q113 => ?_)
                · try dsimp only [tvI_i, tvJ_j, tvR_r] at q113
                  have q113i := zneq (Y := 60) (by decide) q113
                  refine tw_push rfl ?_
                  have hbb : (cs hp89).1 = (rB T n (cs h).1) := by rw [ssp89]; rfl
                  rw [ssp89] at hcnf107
                  have hb1 : (cs hf107).1 = (rB T n (cs h).1) + 1 := by rw [sf107, ssp89]; rfl
                  have hy : ¬ ((rB T n (cs h).1) + 1 < n ∧ T ((rB T n (cs h).1) + 1) = 61) := by
                    rw [← hb1, ← ((cFr_T gf107).trans hT)]
                    rintro ⟨y1, y2⟩
                    exact q112 y2
                  exact tw_iret rfl ⟨gf107, Or.inl ⟨_, (cm62 ((sgn_k kp89 62 (by decide)).mp q105)).trans (if_neg hy), hcnf107, rfl, (by rw [sf107, ssp89]; rfl), pf107⟩⟩
                · try dsimp only [tvI_i, tvJ_j, tvR_r] at q113
                  have q113i := zeqi (Y := 60) (by decide) q113
                  exact absurd (q105.symm.trans q113) (by decide)
              · try dsimp only [tvI_i, tvJ_j, tvR_r] at q112
                have q112i := zeqi (Y := 61) (by decide) q112
                refine tw_aload rfl rfl ?_
                refine tw_dup rfl ?_
                refine tw_getS rfl (hi_44_2 (gf107).1) ?_
                refine tw_push rfl ?_
                refine tw_iadd rfl ?_
                refine tw_put rfl (fun f114 => ?_)
                refine tG_set f114 (hw_44_2 f114 (gf107).1) (fun hf114 ef114 => ?_)
                try dsimp only [tvI_i] at ef114
                have gf114 := cFr_s gf107 ef114 (by decide)
                have hlf114 := cLt pf107 ((cFr_n gf107).trans hN) q109
                obtain ⟨pf114, sf114⟩ := cInc pf107 hlf114 ((cFr_n gf107).trans hN) ef114
                refine tw_iload rfl rfl ?_
                refine tw_push rfl ?_
                refine tw_ic_ne rfl (fun q115 => ?_) (fun q115 => ?_)
                · try dsimp only [tvI_i, tvJ_j, tvR_r] at q115
                  have q115i := zneq (Y := 60) (by decide) q115
                  refine tw_push rfl ?_
                  have hbb : (cs hp89).1 = (rB T n (cs h).1) := by rw [ssp89]; rfl
                  rw [ssp89] at hcnf107
                  have hb1 : (cs hf107).1 = (rB T n (cs h).1) + 1 := by rw [sf107, ssp89]; rfl
                  have hy : (rB T n (cs h).1) + 1 < n ∧ T ((rB T n (cs h).1) + 1) = 61 := by rw [← hb1]; exact ⟨hlf114, by rw [← ((cFr_T gf107).trans hT)]; exact q112⟩
                  exact tw_iret rfl ⟨gf114, Or.inl ⟨_, (cm62 ((sgn_k kp89 62 (by decide)).mp q105)).trans (if_pos hy), hcnf107, rfl, (by rw [sf114, sf107, ssp89]; rfl), pf114⟩⟩
                · try dsimp only [tvI_i, tvJ_j, tvR_r] at q115
                  have q115i := zeqi (Y := 60) (by decide) q115
                  exact absurd (q105.symm.trans q115) (by decide)
          · try dsimp only [tvI_i, tvJ_j, tvR_r] at q108
            have q108i := zeqi (Y := 61) (by decide) q108
            exact absurd (q105.symm.trans q108) (by decide)
        · have ggp106 := cFr_t ggp89 gp106
          refine tw_if_ne rfl (fun z => absurd z (by decide)) (fun _ => ?_)
          refine tw_push rfl ?_
          have hbb : (cs hp89).1 = (rB T n (cs h).1) := by rw [ssp89]; rfl
          obtain ⟨o1, o2⟩ := rC_n p106
          rw [hbb] at o2
          rw [ssp89] at o1
          obtain ⟨q9, hq9⟩ := cm_s (Or.inr (Or.inr ((sgn_k kp89 62 (by decide)).mp q105)))
          exact tw_iret rfl ⟨ggp106, Or.inr ⟨rfl, _, up106, Or.inr ⟨q9, hq9, o1, o2⟩⟩⟩
      · try dsimp only [tvI_i, tvJ_j, tvR_r] at q105
        have q105i := zneq (Y := 62) (by decide) q105
        refine tw_aload rfl rfl ?_
        refine tw_aload rfl rfl ?_
        refine tw_getS rfl (hi_44_2 ggp89.1) ?_
        refine tw_push rfl ?_
        refine tw_virt2 rfl (f_refuse hG hX (ggp89).1 ppp89 ((cFr_T ggp89).trans hT) ((cFr_n ggp89).trans hN)) (fun wp116 hp116 p116 => ?_)
        obtain ⟨gp116, rfl, up116⟩ := p116
        have ggp116 := cFr_t ggp89 gp116
        refine tw_pop rfl ?_
        refine tw_push rfl ?_
        have hbb : (cs hp89).1 = (rB T n (cs h).1) := by rw [ssp89]; rfl
        have hft := cFt_of ppp89 up116 (w := 0) rfl (by decide)
        rw [hbb] at hft
        exact tw_iret rfl ⟨ggp116, Or.inr ⟨rfl, _, hft, Or.inl ⟨cm_n (fun z => q101 ((sgn_k kp89 61 (by decide)).mpr z)) (fun z => q90 ((sgn_k kp89 60 (by decide)).mpr z)) (fun z => q105 ((sgn_k kp89 62 (by decide)).mpr z)), rfl⟩⟩⟩
theorem zd1 {x : Int32} {d : Nat} (hx : x.toInt = d) (hd : d ≤ 10) : (x + 1).toInt = ((d + 1 : Nat) : Int) := zincN hx (by omega)
theorem wrd_k {T : Nat → Int32} {n b k : Nat} {i : Int32} (w : wrd T n b i) (hk : k < 20) {K : Int32} (hK : K.toInt = k) : i = K ↔ rW T n b (rWd k) = true := (by
  rw [← w.2 k hk, ← hK]
  exact Int32.toInt_inj.symm)
theorem cTw_of {h : zH} {k : Nat} {i : Int32} (hi : i.toInt = k) (hk : k < 20) : (100000 + i).toNatClampNeg = 100000 + k := by
  have e : (100000 + i).toInt = 100000 + k := by
    rw [Int32.toInt_add, hi]
    exact Int.bmod_eq_of_le (by show (-2147483648 : Int) ≤ 100000 + (k : Int); omega) (by show 100000 + (k : Int) < (2147483648 : Int); omega)
  rw [zclE, e]
  omega
theorem cPe {T : Nat → Int32} {n m d : Nat} {h h2 : zH} (p : cP h) (hn : cn h = n) (k : pE T n m d (cs h) (.inr (cs h2))) : rPg n (cs h) (cs h2) := pE_pg k (by rw [← hn]; exact cP_le p)
theorem cHc {h : zH} (p : cP h) (q : (cs h).2.2.length < (cs h).1) : (tvI (tF h 44 5)).toInt < (tvI (tF h 44 2)).toInt := by
  have q : (cCo h).length < (tvI (tF h 44 2)).toNatClampNeg := q
  rw [cCo_len, zclE, zclE] at q
  have := p.1
  have := p.2.2.1
  omega
theorem c400 {T : Nat → Int32} {n x : Nat} (h : 400 ≤ x) (h2 : x ≤ n) (hn : n ≤ 400) {c : Prop} : ¬ (rB T n x < n ∧ c) := by
  have := rB_ge (T := T) (n := n) (p := x)
  intro z
  omega
theorem rB_400 {T : Nat → Int32} {n x : Nat} (h : n ≤ x) : rB T n x = x := rB_n (by omega)
theorem w400 {T : Nat → Int32} {n x i : Nat} (hi : i < 20) (h : n ≤ x) : ¬ rW T n x (rWd i) = true := fun z => by
  have := (rW_l hi z).1
  omega
theorem f_takeWord {G : zG} (hG : G.1 = zProg) (hX : G.2.1 = ztx) {h : zH} {T : Nat → Int32} {n : Nat} (hs : tSh h) (hp : cP h) (hT : tA h 45 = T) (hN : cn h = n) {i : Int32} {k E : Nat} (hi : i.toInt = k) (hk : k < 12) (hE : (tvI (tF h 44 3)).toInt = E) (hE1 : (cs h).1 < E) (hE2 : E ≤ n) : tC zTt G 86 [.ref 44, .int i] h (fun w h2 => cFr h h2 ∧ w = some (.int 1) ∧ cs h2 = rU (100000 + k) (rA E (cs h)) ∧ cP h2) := by
  refine tC_in (by rw [hG]; rfl) (fun dp => ?_)
  have g0 := cFr_r hs
  have hpn : (cs h).1 ≤ n := by rw [← hN]; exact cP_le hp
  refine tw_aload rfl rfl ?_
  refine tw_aload rfl rfl ?_
  refine tw_getS rfl (hi_44_3 hs) ?_
  refine tw_put rfl (fun f117 => ?_)
  refine tG_set f117 (hw_44_2 f117 (g0).1) (fun hf117 ef117 => ?_)
  try dsimp only [tvI_i] at ef117
  have gf117 := cFr_s g0 ef117 (by decide)
  obtain ⟨pf117, sf117⟩ := cTo hp ((cFr_n g0).trans hN) ef117 hE (by omega) hE2
  refine tw_aload rfl rfl ?_
  refine tw_push rfl ?_
  refine tw_iload rfl rfl ?_
  refine tw_iadd rfl ?_
  refine tw_virt1 rfl (f_putCode hG hX (gf117).1 pf117 ((cFr_T gf117).trans hT) ((cFr_n gf117).trans hN) (cHc pf117 (by rw [sf117]; show (cs h).2.2.length < E; have := cP_len hp; omega))) (fun wp118 hp118 p118 => ?_)
  obtain ⟨gp118, rfl, ssp118, ppp118⟩ := p118
  have ggp118 := cFr_t gf117 gp118
  refine tw_push rfl ?_
  refine tw_iret rfl ⟨ggp118, rfl, ?_, ppp118⟩
  rw [ssp118, sf117]
  show rU (100000 + i).toNatClampNeg _ = _
  rw [cTw_of (h := h) hi (by omega)]
theorem zoN {v : Nat} (h : v ≤ 200000) : (Int32.ofNat v).toNatClampNeg = v := zof_cl (zofI (by omega))
theorem zoN9 {v : Nat} (h : v ≤ 200000) : ¬ Int32.ofNat v = -1 := fun z => by
  have e := zofI (e := v) (by omega)
  rw [z] at e
  have : ((-1 : Int32)).toInt = -1 := by decide
  omega
theorem f_readValue {G : zG} (hG : G.1 = zProg) (hX : G.2.1 = ztx) {dp : Nat} (IH : cIH G dp) {h : zH} {T : Nat → Int32} {n : Nat} (hs : tSh h) (hp : cP h) (hT : tA h 45 = T) (hN : cn h = n) {x : Int32} {d : Nat} (hx : x.toInt = d) (hd : d ≤ 10) : tCp zTt G (dp + 1) 85 [.ref 44, .int x] h (cR T n 0 d h) := by
  refine tCp_in (by rw [hG]; rfl) ?_
  have g0 := cFr_r hs
  have hpn : (cs h).1 ≤ n := by rw [← hN]; exact cP_le hp
  have c129 : (12 : Int32).toInt = 12 := rfl
  have c4009 : (400 : Int32).toInt = 400 := rfl
  have c109 : (10 : Int32).toInt = 10 := rfl
  refine tw_aload rfl rfl ?_
  refine tw_virt0 rfl (f_signHere hG hX (g0).1 hp ((cFr_T g0).trans hT) ((cFr_n g0).trans hN)) (fun wp119 hp119 p119 => ?_)
  obtain ⟨gp119, ppp119, ssp119, t3p119, cp119, rfl, kp119⟩ := p119
  have ggp119 := cFr_t g0 gp119
  refine tw_push rfl ?_
  refine tw_ic_ne rfl (fun q120 => ?_) (fun q120 => ?_)
  · try dsimp only [tvI_i, tvJ_j, tvR_r] at q120
    have q120i := zneq (Y := 40) (by decide) q120
    refine tw_aload rfl rfl ?_
    refine tw_virt0 rfl (f_wordHere hG hX (ggp119).1 ppp119 ((cFr_T ggp119).trans hT) ((cFr_n ggp119).trans hN)) (fun wp121 hp121 p121 => ?_)
    obtain ⟨gp121, ppp121, ssp121, eep121, ip121, rfl, kwp121⟩ := p121
    have ggp121 := cFr_t ggp119 gp121
    have hbS : rB T n (cs hp119).1 = (rB T n (cs h).1) := by rw [ssp119]; exact rB_2
    rw [hbS] at ssp121 eep121 kwp121
    rw [ssp119] at ssp121
    refine tw_istore rfl ?_
    refine tw_iload rfl rfl ?_
    refine tw_push rfl ?_
    refine tw_ic_eq rfl (fun q122 => ?_) (fun q122 => ?_)
    · try dsimp only [tvI_i, tvJ_j, tvR_r] at q122
      have q122i := zeqi (Y := (-1)) (by decide) q122
      refine tw_aload rfl rfl ?_
      refine tw_getS rfl (hi_44_2 ggp121.1) ?_
      refine tw_istore rfl ?_
      refine tw_aload rfl rfl ?_
      refine tw_push rfl ?_
      refine tw_virt1 rfl (f_numberHere hG hX (ggp121).1 ppp121 ((cFr_T ggp121).trans hT) ((cFr_n ggp121).trans hN) (m := 99999) (M := 99999) rfl (by decide)) (fun w9 hp123 p123 => ?_)
      obtain ⟨gp123, ⟨vp123, p123, rfl, ssp123, ppp123⟩ | ⟨xp123, p123, rfl, up123⟩⟩ := p123
      · have ggp123 := cFr_t ggp121 gp123
        have hrm := p123
        rw [ssp121] at hrm
        refine tw_istore rfl ?_
        refine tw_iload rfl rfl ?_
        refine tw_push rfl ?_
        refine tw_ic_ne rfl (fun q124 => ?_) (fun q124 => ?_)
        · try dsimp only [tvI_i, tvJ_j, tvR_r] at q124
          have q124i := zneq (Y := (-1)) (by decide) q124
          refine tw_aload rfl rfl ?_
          refine tw_getS rfl (hi_44_8 ggp123.1) ?_
          refine tw_push rfl ?_
          refine tw_ic_ne rfl (fun q125 => ?_) (fun q125 => ?_)
          · try dsimp only [tvI_i, tvJ_j, tvR_r] at q125
            have q125i := zneq (Y := 80) (by decide) q125
            refine tw_aload rfl rfl ?_
            refine tw_dup rfl ?_
            refine tw_getS rfl (hi_44_8 ggp123.1) ?_
            refine tw_push rfl ?_
            refine tw_iadd rfl ?_
            refine tw_put rfl (fun f126 => ?_)
            refine tG_set f126 (hw_44_8 f126 (ggp123).1) (fun hf126 ef126 => ?_)
            try dsimp only [tvI_i] at ef126
            have gf126 := cFr_s ggp123 ef126 (by decide)
            obtain ⟨pf126, sf126⟩ := cCnt ppp123 q125 ef126
            refine tw_aload rfl rfl ?_
            refine tw_iload rfl rfl ?_
            refine tw_virt1 rfl (f_putCode hG hX (gf126).1 pf126 ((cFr_T gf126).trans hT) ((cFr_n gf126).trans hN) (cHc pf126 (by rw [sf126]; show (cs hp123).2.2.length < (cs hp123).1; rw [ssp123, ssp121]; show (cs h).2.2.length < vp123.1; have z := (rM_r (rB_le (T := T) hpn) hrm).1; rw [rB_2] at z; have := rB_ge (T := T) (n := n) (p := (cs h).1); have := cP_len hp; omega))) (fun wp127 hp127 p127 => ?_)
            obtain ⟨gp127, rfl, ssp127, ppp127⟩ := p127
            have ggp127 := cFr_t gf126 gp127
            refine tw_push rfl ?_
            have hi9 : ip121.toInt = -1 := congrArg Int32.toInt q122
            have hnw : ∀ k, k < 12 → ¬ rW T n (rB T n (cs h).1) (rWd k) = true := fun k hk z => by have y := (kwp121.2 k (by omega)).mpr z; omega
            have h80 := cn80 ppp123 q125
            rw [ssp123, ssp121] at h80
            refine tw_iret rfl ⟨ggp127, Or.inl ⟨rfl, ?_, ppp127⟩⟩
            rw [ssp127, sf126, ssp123, ssp121]
            have e9 := zoN (v := vp123.2) (by have := (rM_r (rB_le (T := T) hpn) hrm).2.2; omega)
            show pE T n 0 d (cs h) (.inr (vp123.1, (cs h).2.1 + 1, (cs h).2.2 ++ [(Int32.ofNat vp123.2).toNatClampNeg]))
            rw [e9]
            exact pE_0z (fun z => q120 ((sgn_k kp119 40 (by decide)).mpr z)) hnw hrm h80
          · try dsimp only [tvI_i, tvJ_j, tvR_r] at q125
            have q125i := zeqi (Y := 80) (by decide) q125
            refine tw_aload rfl rfl ?_
            refine tw_iload rfl rfl ?_
            refine tw_push rfl ?_
            refine tw_virt2 rfl (f_refuse hG hX (ggp123).1 ppp123 ((cFr_T ggp123).trans hT) ((cFr_n ggp123).trans hN)) (fun wp128 hp128 p128 => ?_)
            obtain ⟨gp128, rfl, up128⟩ := p128
            have ggp128 := cFr_t ggp123 gp128
            have hi9 : ip121.toInt = -1 := congrArg Int32.toInt q122
            have hnw : ∀ k, k < 12 → ¬ rW T n (rB T n (cs h).1) (rWd k) = true := fun k hk z => by have y := (kwp121.2 k (by omega)).mpr z; omega
            have hft := cFt_of ppp121 up128 (w := 3) rfl (by decide)
            rw [ssp121] at hft
            have h80 := c80 q125
            rw [ssp123, ssp121] at h80
            exact tw_iret rfl ⟨ggp128, Or.inr ⟨rfl, _, pE_0y (fun z => q120 ((sgn_k kp119 40 (by decide)).mpr z)) hnw hrm h80, hft⟩⟩
        · try dsimp only [tvI_i, tvJ_j, tvR_r] at q124
          have q124i := zeqi (Y := (-1)) (by decide) q124
          exact absurd q124 (zoN9 (by have := (rM_r (rB_le (T := T) hpn) hrm).2.2; omega))
      · have ggp123 := cFr_t ggp121 gp123
        have hrm := p123
        rw [ssp121] at hrm
        refine tw_istore rfl ?_
        refine tw_iload rfl rfl ?_
        refine tw_push rfl ?_
        refine tw_ic_ne rfl (fun z => absurd z (by decide)) (fun _ => ?_)
        refine tw_push rfl ?_
        have hi9 : ip121.toInt = -1 := congrArg Int32.toInt q122
        have hnw : ∀ k, k < 12 → ¬ rW T n (rB T n (cs h).1) (rWd k) = true := fun k hk z => by have y := (kwp121.2 k (by omega)).mpr z; omega
        exact tw_iret rfl ⟨ggp123, Or.inr ⟨rfl, _, pE_0m (fun z => q120 ((sgn_k kp119 40 (by decide)).mpr z)) hnw hrm, up123⟩⟩
    · try dsimp only [tvI_i, tvJ_j, tvR_r] at q122
      have q122i := zneq (Y := (-1)) (by decide) q122
      refine tw_iload rfl rfl ?_
      refine tw_push rfl ?_
      refine tw_ic_ge rfl (fun q129 => ?_) (fun q129 => ?_)
      · try dsimp only [tvI_i, tvJ_j, tvR_r] at q129
        refine tw_aload rfl rfl ?_
        refine tw_getS rfl (hi_44_2 ggp121.1) ?_
        refine tw_istore rfl ?_
        refine tw_aload rfl rfl ?_
        refine tw_push rfl ?_
        refine tw_virt1 rfl (f_numberHere hG hX (ggp121).1 ppp121 ((cFr_T ggp121).trans hT) ((cFr_n ggp121).trans hN) (m := 99999) (M := 99999) rfl (by decide)) (fun w9 hp130 p130 => ?_)
        obtain ⟨gp130, ⟨vp130, p130, rfl, ssp130, ppp130⟩ | ⟨xp130, p130, rfl, up130⟩⟩ := p130
        · have ggp130 := cFr_t ggp121 gp130
          have hrm := p130
          rw [ssp121] at hrm
          refine tw_istore rfl ?_
          refine tw_iload rfl rfl ?_
          refine tw_push rfl ?_
          refine tw_ic_ne rfl (fun q131 => ?_) (fun q131 => ?_)
          · try dsimp only [tvI_i, tvJ_j, tvR_r] at q131
            have q131i := zneq (Y := (-1)) (by decide) q131
            refine tw_aload rfl rfl ?_
            refine tw_getS rfl (hi_44_8 ggp130.1) ?_
            refine tw_push rfl ?_
            refine tw_ic_ne rfl (fun q132 => ?_) (fun q132 => ?_)
            · try dsimp only [tvI_i, tvJ_j, tvR_r] at q132
              have q132i := zneq (Y := 80) (by decide) q132
              refine tw_aload rfl rfl ?_
              refine tw_dup rfl ?_
              refine tw_getS rfl (hi_44_8 ggp130.1) ?_
              refine tw_push rfl ?_
              refine tw_iadd rfl ?_
              refine tw_put rfl (fun f133 => ?_)
              refine tG_set f133 (hw_44_8 f133 (ggp130).1) (fun hf133 ef133 => ?_)
              try dsimp only [tvI_i] at ef133
              have gf133 := cFr_s ggp130 ef133 (by decide)
              obtain ⟨pf133, sf133⟩ := cCnt ppp130 q132 ef133
              refine tw_aload rfl rfl ?_
              refine tw_iload rfl rfl ?_
              refine tw_virt1 rfl (f_putCode hG hX (gf133).1 pf133 ((cFr_T gf133).trans hT) ((cFr_n gf133).trans hN) (cHc pf133 (by rw [sf133]; show (cs hp130).2.2.length < (cs hp130).1; rw [ssp130, ssp121]; show (cs h).2.2.length < vp130.1; have z := (rM_r (rB_le (T := T) hpn) hrm).1; rw [rB_2] at z; have := rB_ge (T := T) (n := n) (p := (cs h).1); have := cP_len hp; omega))) (fun wp134 hp134 p134 => ?_)
              obtain ⟨gp134, rfl, ssp134, ppp134⟩ := p134
              have ggp134 := cFr_t gf133 gp134
              refine tw_push rfl ?_
              have hi9 : 12 ≤ ip121.toInt := by have z := q129; exact z
              have hnw : ∀ k, k < 12 → ¬ rW T n (rB T n (cs h).1) (rWd k) = true := fun k hk z => by have y := (kwp121.2 k (by omega)).mpr z; omega
              have h80 := cn80 ppp130 q132
              rw [ssp130, ssp121] at h80
              refine tw_iret rfl ⟨ggp134, Or.inl ⟨rfl, ?_, ppp134⟩⟩
              rw [ssp134, sf133, ssp130, ssp121]
              have e9 := zoN (v := vp130.2) (by have := (rM_r (rB_le (T := T) hpn) hrm).2.2; omega)
              show pE T n 0 d (cs h) (.inr (vp130.1, (cs h).2.1 + 1, (cs h).2.2 ++ [(Int32.ofNat vp130.2).toNatClampNeg]))
              rw [e9]
              exact pE_0z (fun z => q120 ((sgn_k kp119 40 (by decide)).mpr z)) hnw hrm h80
            · try dsimp only [tvI_i, tvJ_j, tvR_r] at q132
              have q132i := zeqi (Y := 80) (by decide) q132
              refine tw_aload rfl rfl ?_
              refine tw_iload rfl rfl ?_
              refine tw_push rfl ?_
              refine tw_virt2 rfl (f_refuse hG hX (ggp130).1 ppp130 ((cFr_T ggp130).trans hT) ((cFr_n ggp130).trans hN)) (fun wp135 hp135 p135 => ?_)
              obtain ⟨gp135, rfl, up135⟩ := p135
              have ggp135 := cFr_t ggp130 gp135
              have hi9 : 12 ≤ ip121.toInt := by have z := q129; exact z
              have hnw : ∀ k, k < 12 → ¬ rW T n (rB T n (cs h).1) (rWd k) = true := fun k hk z => by have y := (kwp121.2 k (by omega)).mpr z; omega
              have hft := cFt_of ppp121 up135 (w := 3) rfl (by decide)
              rw [ssp121] at hft
              have h80 := c80 q132
              rw [ssp130, ssp121] at h80
              exact tw_iret rfl ⟨ggp135, Or.inr ⟨rfl, _, pE_0y (fun z => q120 ((sgn_k kp119 40 (by decide)).mpr z)) hnw hrm h80, hft⟩⟩
          · try dsimp only [tvI_i, tvJ_j, tvR_r] at q131
            have q131i := zeqi (Y := (-1)) (by decide) q131
            exact absurd q131 (zoN9 (by have := (rM_r (rB_le (T := T) hpn) hrm).2.2; omega))
        · have ggp130 := cFr_t ggp121 gp130
          have hrm := p130
          rw [ssp121] at hrm
          refine tw_istore rfl ?_
          refine tw_iload rfl rfl ?_
          refine tw_push rfl ?_
          refine tw_ic_ne rfl (fun z => absurd z (by decide)) (fun _ => ?_)
          refine tw_push rfl ?_
          have hi9 : 12 ≤ ip121.toInt := by have z := q129; exact z
          have hnw : ∀ k, k < 12 → ¬ rW T n (rB T n (cs h).1) (rWd k) = true := fun k hk z => by have y := (kwp121.2 k (by omega)).mpr z; omega
          exact tw_iret rfl ⟨ggp130, Or.inr ⟨rfl, _, pE_0m (fun z => q120 ((sgn_k kp119 40 (by decide)).mpr z)) hnw hrm, up130⟩⟩
      · try dsimp only [tvI_i, tvJ_j, tvR_r] at q129
        refine tw_aload rfl rfl ?_
        refine tw_virt0 rfl (f_countOne hG hX (ggp121).1 ppp121 ((cFr_T ggp121).trans hT) ((cFr_n ggp121).trans hN)) (fun w9 hp136 p136 => ?_)
        obtain ⟨gp136, ⟨rfl, p136, ppp136, t3p136⟩ | ⟨rfl, xp136, p136, up136⟩⟩ := p136
        · have ggp136 := cFr_t ggp121 gp136
          have kwb := kwp121.1
          have hk12 : rW T n (rB T n (cs h).1) (rWd ip121.toInt.toNat) = true := (kwp121.2 ip121.toInt.toNat (by omega)).mp (by omega)
          have hEb : (rB T n (cs h).1) < rE T n (rB T n (cs h).1) := by have z := rE_ge (T := T) (n := n) (p := (rB T n (cs h).1) + 1); rw [← rE_y (rW_l (by omega) hk12)] at z; omega
          refine tw_if_eq rfl (fun z => absurd z (by decide)) (fun _ => ?_)
          refine tw_aload rfl rfl ?_
          refine tw_iload rfl rfl ?_
          refine tw_virt1 rfl (f_takeWord hG hX (ggp136).1 ppp136 ((cFr_T ggp136).trans hT) ((cFr_n ggp136).trans hN) (i := ip121) (k := ip121.toInt.toNat) (E := rE T n (rB T n (cs h).1)) (by have := kwp121.1; omega) (by omega) (by rw [t3p136]; exact eep121) (by rw [(rC_y p136).2]; show (cs hp121).1 < _; rw [ssp121]; exact hEb) (rE_le (rB_le hpn))) (fun wp137 hp137 p137 => ?_)
          obtain ⟨gp137, rfl, ssp137, ppp137⟩ := p137
          have ggp137 := cFr_t ggp136 gp137
          refine tw_if_eq rfl (fun z => absurd z (by decide)) (fun _ => ?_)
          refine tw_push rfl ?_
          refine tw_goto rfl ?_
          obtain ⟨hcn, hce⟩ := rC_y p136
          rw [ssp121] at hcn
          refine tw_iret rfl ⟨ggp137, Or.inl ⟨rfl, ?_, ppp137⟩⟩
          rw [ssp137, hce, ssp121]
          exact pE_0w (by omega) hk12 hcn
        · have ggp136 := cFr_t ggp121 gp136
          have kwb := kwp121.1
          have hk12 : rW T n (rB T n (cs h).1) (rWd ip121.toInt.toNat) = true := (kwp121.2 ip121.toInt.toNat (by omega)).mp (by omega)
          have hEb : (rB T n (cs h).1) < rE T n (rB T n (cs h).1) := by have z := rE_ge (T := T) (n := n) (p := (rB T n (cs h).1) + 1); rw [← rE_y (rW_l (by omega) hk12)] at z; omega
          refine tw_if_eq rfl (fun _ => ?_) (fun z => absurd z (by decide))
          refine tw_push rfl ?_
          obtain ⟨o1, o2⟩ := rC_n p136
          rw [ssp121] at o1 o2
          subst o2
          exact tw_iret rfl ⟨ggp136, Or.inr ⟨rfl, _, pE_0x (k := ip121.toInt.toNat) (by omega) hk12 o1, up136⟩⟩
  · try dsimp only [tvI_i, tvJ_j, tvR_r] at q120
    have q120i := zeqi (Y := 40) (by decide) q120
    refine tw_iload rfl rfl ?_
    refine tw_push rfl ?_
    refine tw_ic_ne rfl (fun q138 => ?_) (fun q138 => ?_)
    · try dsimp only [tvI_i, tvJ_j, tvR_r] at q138
      have q138i := zneq (Y := 10) (by decide) q138
      refine tw_aload rfl rfl ?_
      refine tw_virt0 rfl (f_countOne hG hX (ggp119).1 ppp119 ((cFr_T ggp119).trans hT) ((cFr_n ggp119).trans hN)) (fun w9 hp139 p139 => ?_)
      obtain ⟨gp139, ⟨rfl, p139, ppp139, t3p139⟩ | ⟨rfl, xp139, p139, up139⟩⟩ := p139
      · have ggp139 := cFr_t ggp119 gp139
        refine tw_if_ne rfl (fun _ => ?_) (fun z => absurd z (by decide))
        refine tw_aload rfl rfl ?_
        refine tw_dup rfl ?_
        refine tw_getS rfl (hi_44_2 ggp139.1) ?_
        refine tw_push rfl ?_
        refine tw_iadd rfl ?_
        refine tw_put rfl (fun f140 => ?_)
        refine tG_set f140 (hw_44_2 f140 (ggp139).1) (fun hf140 ef140 => ?_)
        try dsimp only [tvI_i] at ef140
        have gf140 := cFr_s ggp139 ef140 (by decide)
        obtain ⟨hcn, hce⟩ := rC_y p139
        have hw := (sgn_k kp119 40 (by decide)).mp q120
        have hlf140 : (cs hp139).1 < n := by rw [hce]; show (cs hp119).1 < n; rw [ssp119]; exact hw.1
        obtain ⟨pf140, sf140⟩ := cInc ppp139 hlf140 ((cFr_n ggp139).trans hN) ef140
        rw [hce, ssp119] at sf140
        refine tw_aload rfl rfl ?_
        refine tw_iload rfl rfl ?_
        refine tw_push rfl ?_
        refine tw_iadd rfl ?_
        refine tw_virt1p rfl (IH 3 83 (by decide) _ _ _ (d + 1) _ (gf140).1 pf140 ((cFr_T gf140).trans hT) ((cFr_n gf140).trans hN) (zd1 hx hd) (by omega)) (fun w9 hp141 p141 => ?_)
        obtain ⟨gp141, ⟨rfl, p141, ppp141⟩ | ⟨rfl, xp141, p141, up141⟩⟩ := p141
        · have ggp141 := cFr_t gf140 gp141
          refine tw_if_eq rfl (fun z => absurd z (by decide)) (fun _ => ?_)
          refine tw_aload rfl rfl ?_
          refine tw_push rfl ?_
          refine tw_virt1 rfl (f_takeSign hG hX (ggp141).1 ppp141 ((cFr_T ggp141).trans hT) ((cFr_n ggp141).trans hN) (y := 41) (by decide)) (fun w9 hp142 p142 => ?_)
          obtain ⟨gp142, ⟨rfl, p142, ppp142⟩ | ⟨rfl, xp142, p142, up142⟩⟩ := p142
          · have ggp142 := cFr_t ggp141 gp142
            refine tw_if_eq rfl (fun z => absurd z (by decide)) (fun _ => ?_)
            refine tw_push rfl ?_
            refine tw_goto rfl ?_
            have hw9 := ((sgn_k kp119 40 (by decide)).mp q120)
            have hd10 : d ≠ 10 := fun z => q138 (Int32.toInt_inj.mp (by rw [hx, z]; rfl))
            rw [ssp119] at hcn
            rw [sf140] at p141
            exact tw_iret rfl ⟨ggp142, Or.inl ⟨rfl, pE_0d hw9 hd10 hcn p141 p142, ppp142⟩⟩
          · have ggp142 := cFr_t ggp141 gp142
            refine tw_if_eq rfl (fun _ => ?_) (fun z => absurd z (by decide))
            refine tw_push rfl ?_
            have hw9 := ((sgn_k kp119 40 (by decide)).mp q120)
            have hd10 : d ≠ 10 := fun z => q138 (Int32.toInt_inj.mp (by rw [hx, z]; rfl))
            rw [ssp119] at hcn
            rw [sf140] at p141
            exact tw_iret rfl ⟨ggp142, Or.inr ⟨rfl, _, pE_0d hw9 hd10 hcn p141 p142, up142⟩⟩
        · have ggp141 := cFr_t gf140 gp141
          refine tw_if_eq rfl (fun _ => ?_) (fun z => absurd z (by decide))
          refine tw_push rfl ?_
          have hw9 := ((sgn_k kp119 40 (by decide)).mp q120)
          have hd10 : d ≠ 10 := fun z => q138 (Int32.toInt_inj.mp (by rw [hx, z]; rfl))
          rw [ssp119] at hcn
          rw [sf140] at p141
          exact tw_iret rfl ⟨ggp141, Or.inr ⟨rfl, _, pE_0c hw9 hd10 hcn p141, up141⟩⟩
      · have ggp139 := cFr_t ggp119 gp139
        refine tw_if_ne rfl (fun z => absurd z (by decide)) (fun _ => ?_)
        refine tw_push rfl ?_
        have hw9 := ((sgn_k kp119 40 (by decide)).mp q120)
        have hd10 : d ≠ 10 := fun z => q138 (Int32.toInt_inj.mp (by rw [hx, z]; rfl))
        obtain ⟨o1, o2⟩ := rC_n p139
        rw [ssp119] at o1 o2
        subst o2
        exact tw_iret rfl ⟨ggp139, Or.inr ⟨rfl, _, pE_0b hw9 hd10 o1, up139⟩⟩
    · try dsimp only [tvI_i, tvJ_j, tvR_r] at q138
      have q138i := zeqi (Y := 10) (by decide) q138
      refine tw_aload rfl rfl ?_
      refine tw_aload rfl rfl ?_
      refine tw_getS rfl (hi_44_2 ggp119.1) ?_
      refine tw_push rfl ?_
      refine tw_virt2 rfl (f_refuse hG hX (ggp119).1 ppp119 ((cFr_T ggp119).trans hT) ((cFr_n ggp119).trans hN)) (fun wp143 hp143 p143 => ?_)
      obtain ⟨gp143, rfl, up143⟩ := p143
      have ggp143 := cFr_t ggp119 gp143
      have hw9 := ((sgn_k kp119 40 (by decide)).mp q120)
      have hd10 : d = 10 := by have z : x.toInt = 10 := congrArg Int32.toInt q138; omega
      have hft := cFt_of ppp119 up143 (w := 2) rfl (by decide)
      rw [ssp119] at hft
      exact tw_iret rfl ⟨ggp143, Or.inr ⟨rfl, _, pE_0a hw9 hd10, hft⟩⟩
theorem wlen_k : (rWd 18).length = 3 ∧ (rWd 17).length = 2 ∧ (rWd 19).length = 3 ∧ (rWd 16).length = 2 := by decide +kernel
theorem f_readTerm {G : zG} (hG : G.1 = zProg) (hX : G.2.1 = ztx) {dp : Nat} (IH : cIH G dp) {h : zH} {T : Nat → Int32} {n : Nat} (hs : tSh h) (hp : cP h) (hT : tA h 45 = T) (hN : cn h = n) {x : Int32} {d : Nat} (hx : x.toInt = d) (hd : d ≤ 10) : tCp zTt G (dp + 1) 84 [.ref 44, .int x] h (cR T n 1 d h) := by
  refine tCp_in (by rw [hG]; rfl) ?_
  have g0 := cFr_r hs
  have hpn : (cs h).1 ≤ n := by rw [← hN]; exact cP_le hp
  have c129 : (12 : Int32).toInt = 12 := rfl
  have c4009 : (400 : Int32).toInt = 400 := rfl
  have c109 : (10 : Int32).toInt = 10 := rfl
  refine tw_aload rfl rfl ?_
  refine tw_iload rfl rfl ?_
  refine tw_virt1p rfl (IH 0 85 (by decide) _ _ _ d _ (g0).1 hp ((cFr_T g0).trans hT) ((cFr_n g0).trans hN) hx hd) (fun w9 hp144 p144 => ?_)
  obtain ⟨gp144, ⟨rfl, p144, ppp144⟩ | ⟨rfl, xp144, p144, up144⟩⟩ := p144
  · have ggp144 := cFr_t g0 gp144
    refine tw_if_ne rfl (fun _ => ?_) (fun z => absurd z (by decide))
    refine tw_push rfl ?_
    refine tw_istore rfl ?_
    refine tG_loop (zW_mono zTt G dp) (zW_conj zTt G dp) (V := fun pc L st h9 _ _ => pc = 12 ∧ st = [] ∧ ∃ (h1 : zH) (k : Nat) (y : Int32), h1 = h9 ∧ y.toInt = k ∧ k ≤ (cs h1).1 ∧ cFr h h1 ∧ cP h1 ∧ (∀ r, pE T n 2 d (cs h1) r → pE T n 1 d (cs h) r) ∧ L = [some (.ref 44), some (.int x), some (.int y)]) ?_ (⟨rfl, rfl, _, 0, _, rfl, rfl, Nat.zero_le _, ggp144, ppp144, fun r z => pE_q (by decide) p144 z, rfl⟩)
    rintro _ _ _ _ _ _ ⟨rfl, rfl, h1, k, y, rfl, hy, hk, g1, p1, hR, rfl⟩
    refine tw_iload rfl rfl ?_
    refine tw_push rfl ?_
    refine tw_ic_ge rfl (fun q145 => ?_) (fun q145 => ?_)
    · try dsimp only [tvI_i, tvJ_j, tvR_r] at q145
      refine tw_push rfl ?_
      have h4 : 400 ≤ (cs h1).1 := by omega
      have h5 := cP_400 p1
      rw [((cFr_n g1).trans hN)] at h5
      have h6 := rB_400 (T := T) (show n ≤ (cs h1).1 by omega)
      have h7 := pE_2n (T := T) (n := n) (d := d) (s := cs h1) (c400 (T := T) h4 (by have := cP_le p1; rw [((cFr_n g1).trans hN)] at this; exact this) h5)
      rw [h6] at h7
      exact tw_iret rfl ⟨g1, Or.inl ⟨rfl, hR _ h7, p1⟩⟩
    · try dsimp only [tvI_i, tvJ_j, tvR_r] at q145
      refine tw_aload rfl rfl ?_
      refine tw_virt0 rfl (f_signHere hG hX (g1).1 p1 ((cFr_T g1).trans hT) ((cFr_n g1).trans hN)) (fun wp146 hp146 p146 => ?_)
      obtain ⟨gp146, ppp146, ssp146, t3p146, cp146, rfl, kp146⟩ := p146
      have ggp146 := cFr_t g1 gp146
      refine tw_push rfl ?_
      refine tw_ic_ne rfl (fun q147 => ?_) (fun q147 => ?_)
      · try dsimp only [tvI_i, tvJ_j, tvR_r] at q147
        have q147i := zneq (Y := 42) (by decide) q147
        refine tw_push rfl ?_
        have h7 := pE_2n (T := T) (n := n) (d := d) (s := cs h1) (fun z => q147 ((sgn_k kp146 42 (by decide)).mpr z))
        rw [← ssp146] at h7
        exact tw_iret rfl ⟨ggp146, Or.inl ⟨rfl, hR _ h7, ppp146⟩⟩
      · try dsimp only [tvI_i, tvJ_j, tvR_r] at q147
        have q147i := zeqi (Y := 42) (by decide) q147
        refine tw_aload rfl rfl ?_
        refine tw_dup rfl ?_
        refine tw_getS rfl (hi_44_2 ggp146.1) ?_
        refine tw_push rfl ?_
        refine tw_iadd rfl ?_
        refine tw_put rfl (fun f148 => ?_)
        refine tG_set f148 (hw_44_2 f148 (ggp146).1) (fun hf148 ef148 => ?_)
        try dsimp only [tvI_i] at ef148
        have gf148 := cFr_s ggp146 ef148 (by decide)
        have hwf148 := ((sgn_k kp146 42 (by decide)).mp q147)
        have hlf148 : (cs hp146).1 < n := by rw [ssp146]; exact hwf148.1
        obtain ⟨pf148, sf148⟩ := cInc ppp146 hlf148 ((cFr_n ggp146).trans hN) ef148
        rw [ssp146] at sf148
        refine tw_aload rfl rfl ?_
        refine tw_iload rfl rfl ?_
        refine tw_virt1p rfl (IH 0 85 (by decide) _ _ _ d _ (gf148).1 pf148 ((cFr_T gf148).trans hT) ((cFr_n gf148).trans hN) hx hd) (fun w9 hp149 p149 => ?_)
        obtain ⟨gp149, ⟨rfl, p149, ppp149⟩ | ⟨rfl, xp149, p149, up149⟩⟩ := p149
        · have ggp149 := cFr_t gf148 gp149
          refine tw_if_ne rfl (fun _ => ?_) (fun z => absurd z (by decide))
          refine tw_aload rfl rfl ?_
          refine tw_push rfl ?_
          refine tw_virt1 rfl (f_putCode hG hX (ggp149).1 ppp149 ((cFr_T ggp149).trans hT) ((cFr_n ggp149).trans hN) (cHc ppp149 (by have z := cPe pf148 ((cFr_n gf148).trans hN) p149; have z2 := cP_len p1; have z3 := rB_ge (T := T) (n := n) (p := (cs h1).1); obtain ⟨z4, z5, z6⟩ := z; rw [sf148] at z4 z6; have z4 : (rB T n (cs h1).1) + 1 ≤ (cs hp149).1 := z4; have z6 : (rB T n (cs h1).1) + 1 + (cs hp149).2.2.length ≤ (cs hp149).1 + (cs h1).2.2.length := z6; omega))) (fun wp150 hp150 p150 => ?_)
          obtain ⟨gp150, rfl, ssp150, ppp150⟩ := p150
          have ggp150 := cFr_t ggp149 gp150
          refine tw_iinc rfl rfl ?_
          refine tw_goto rfl ?_
          have z := cPe pf148 ((cFr_n gf148).trans hN) p149
          have z3 := rB_ge (T := T) (n := n) (p := (cs h1).1)
          obtain ⟨z4, z5, z6⟩ := z
          have hon := p149
          rw [sf148] at z4 hon
          have z4 : (rB T n (cs h1).1) + 1 ≤ (cs hp149).1 := z4
          exact tG_cut (zW_mono zTt G dp) (Or.inr ⟨rfl, rfl, _, k + 1, _, rfl, zincL hy q145, (by rw [ssp150]; show k + 1 ≤ (cs hp149).1; omega), ggp150, ppp150, fun r w => hR r (pE_2y hwf148 hon (by rw [ssp150] at w; exact w)), rfl⟩)
        · have ggp149 := cFr_t gf148 gp149
          refine tw_if_ne rfl (fun z => absurd z (by decide)) (fun _ => ?_)
          refine tw_push rfl ?_
          have hoff := p149
          rw [sf148] at hoff
          exact tw_iret rfl ⟨ggp149, Or.inr ⟨rfl, _, hR _ (pE_2f hwf148 hoff), up149⟩⟩
  · have ggp144 := cFr_t g0 gp144
    refine tw_if_ne rfl (fun z => absurd z (by decide)) (fun _ => ?_)
    refine tw_push rfl ?_
    exact tw_iret rfl ⟨ggp144, Or.inr ⟨rfl, _, pE_qf (c := 2) (by decide) p144, up144⟩⟩
theorem f_readSum {G : zG} (hG : G.1 = zProg) (hX : G.2.1 = ztx) {dp : Nat} (IH : cIH G dp) {h : zH} {T : Nat → Int32} {n : Nat} (hs : tSh h) (hp : cP h) (hT : tA h 45 = T) (hN : cn h = n) {x : Int32} {d : Nat} (hx : x.toInt = d) (hd : d ≤ 10) : tCp zTt G (dp + 1) 83 [.ref 44, .int x] h (cR T n 3 d h) := by
  refine tCp_in (by rw [hG]; rfl) ?_
  have g0 := cFr_r hs
  have hpn : (cs h).1 ≤ n := by rw [← hN]; exact cP_le hp
  have c129 : (12 : Int32).toInt = 12 := rfl
  have c4009 : (400 : Int32).toInt = 400 := rfl
  have c109 : (10 : Int32).toInt = 10 := rfl
  refine tw_aload rfl rfl ?_
  refine tw_iload rfl rfl ?_
  refine tw_virt1p rfl (IH 1 84 (by decide) _ _ _ d _ (g0).1 hp ((cFr_T g0).trans hT) ((cFr_n g0).trans hN) hx hd) (fun w9 hp151 p151 => ?_)
  obtain ⟨gp151, ⟨rfl, p151, ppp151⟩ | ⟨rfl, xp151, p151, up151⟩⟩ := p151
  · have ggp151 := cFr_t g0 gp151
    refine tw_if_ne rfl (fun _ => ?_) (fun z => absurd z (by decide))
    refine tw_push rfl ?_
    refine tw_istore rfl ?_
    refine tG_loop (zW_mono zTt G dp) (zW_conj zTt G dp) (V := fun pc L st h9 _ _ => pc = 12 ∧ st = [] ∧ ∃ (h1 : zH) (k : Nat) (y : Int32) (v3 : Option Value), h1 = h9 ∧ y.toInt = k ∧ k ≤ (cs h1).1 ∧ cFr h h1 ∧ cP h1 ∧ (∀ r, pE T n 4 d (cs h1) r → pE T n 3 d (cs h) r) ∧ L = [some (.ref 44), some (.int x), some (.int y), v3]) ?_ (⟨rfl, rfl, _, 0, _, _, rfl, rfl, Nat.zero_le _, ggp151, ppp151, fun r z => pE_q (by decide) p151 z, rfl⟩)
    rintro _ _ _ _ _ _ ⟨rfl, rfl, h1, k, y, v3, rfl, hy, hk, g1, p1, hR, rfl⟩
    refine tw_iload rfl rfl ?_
    refine tw_push rfl ?_
    refine tw_ic_ge rfl (fun q152 => ?_) (fun q152 => ?_)
    · try dsimp only [tvI_i, tvJ_j, tvR_r] at q152
      refine tw_push rfl ?_
      have h4 : 400 ≤ (cs h1).1 := by omega
      have h5 := cP_400 p1
      rw [((cFr_n g1).trans hN)] at h5
      have h6 := rB_400 (T := T) (show n ≤ (cs h1).1 by omega)
      have h7 := pE_4n (T := T) (n := n) (d := d) (s := cs h1) (c400 (T := T) h4 (by have := cP_le p1; rw [((cFr_n g1).trans hN)] at this; exact this) h5) (c400 (T := T) h4 (by have := cP_le p1; rw [((cFr_n g1).trans hN)] at this; exact this) h5)
      rw [h6] at h7
      exact tw_iret rfl ⟨g1, Or.inl ⟨rfl, hR _ h7, p1⟩⟩
    · try dsimp only [tvI_i, tvJ_j, tvR_r] at q152
      refine tw_aload rfl rfl ?_
      refine tw_virt0 rfl (f_signHere hG hX (g1).1 p1 ((cFr_T g1).trans hT) ((cFr_n g1).trans hN)) (fun wp153 hp153 p153 => ?_)
      obtain ⟨gp153, ppp153, ssp153, t3p153, cp153, rfl, kp153⟩ := p153
      have ggp153 := cFr_t g1 gp153
      refine tw_istore rfl ?_
      refine tw_iload rfl rfl ?_
      refine tw_push rfl ?_
      refine tw_ic_eq rfl (fun q154 => ?_) (fun q154 => ?_)
      · try dsimp only [tvI_i, tvJ_j, tvR_r] at q154
        have q154i := zeqi (Y := 43) (by decide) q154
        refine tw_aload rfl rfl ?_
        refine tw_dup rfl ?_
        refine tw_getS rfl (hi_44_2 ggp153.1) ?_
        refine tw_push rfl ?_
        refine tw_iadd rfl ?_
        refine tw_put rfl (fun f155 => ?_)
        refine tG_set f155 (hw_44_2 f155 (ggp153).1) (fun hf155 ef155 => ?_)
        try dsimp only [tvI_i] at ef155
        have gf155 := cFr_s ggp153 ef155 (by decide)
        have hwf155 := ((sgn_k kp153 43 (by decide)).mp q154)
        have hlf155 : (cs hp153).1 < n := by rw [ssp153]; exact hwf155.1
        obtain ⟨pf155, sf155⟩ := cInc ppp153 hlf155 ((cFr_n ggp153).trans hN) ef155
        rw [ssp153] at sf155
        refine tw_aload rfl rfl ?_
        refine tw_iload rfl rfl ?_
        refine tw_virt1p rfl (IH 1 84 (by decide) _ _ _ d _ (gf155).1 pf155 ((cFr_T gf155).trans hT) ((cFr_n gf155).trans hN) hx hd) (fun w9 hp156 p156 => ?_)
        obtain ⟨gp156, ⟨rfl, p156, ppp156⟩ | ⟨rfl, xp156, p156, up156⟩⟩ := p156
        · have ggp156 := cFr_t gf155 gp156
          refine tw_if_ne rfl (fun _ => ?_) (fun z => absurd z (by decide))
          refine tw_aload rfl rfl ?_
          refine tw_iload rfl rfl ?_
          refine tw_push rfl ?_
          refine tw_ic_ne rfl (fun q157 => ?_) (fun q157 => ?_)
          · try dsimp only [tvI_i, tvJ_j, tvR_r] at q157
            have q157i := zneq (Y := 43) (by decide) q157
            exact absurd q154 q157
          · try dsimp only [tvI_i, tvJ_j, tvR_r] at q157
            have q157i := zeqi (Y := 43) (by decide) q157
            refine tw_push rfl ?_
            refine tw_goto rfl ?_
            refine tw_virt1 rfl (f_putCode hG hX (ggp156).1 ppp156 ((cFr_T ggp156).trans hT) ((cFr_n ggp156).trans hN) (cHc ppp156 (by have z := cPe pf155 ((cFr_n gf155).trans hN) p156; have z2 := cP_len p1; have z3 := rB_ge (T := T) (n := n) (p := (cs h1).1); obtain ⟨z4, z5, z6⟩ := z; rw [sf155] at z4 z6; have z4 : (rB T n (cs h1).1) + 1 ≤ (cs hp156).1 := z4; have z6 : (rB T n (cs h1).1) + 1 + (cs hp156).2.2.length ≤ (cs hp156).1 + (cs h1).2.2.length := z6; omega))) (fun wp158 hp158 p158 => ?_)
            obtain ⟨gp158, rfl, ssp158, ppp158⟩ := p158
            have ggp158 := cFr_t ggp156 gp158
            refine tw_iinc rfl rfl ?_
            refine tw_goto rfl ?_
            have z := cPe pf155 ((cFr_n gf155).trans hN) p156
            have z3 := rB_ge (T := T) (n := n) (p := (cs h1).1)
            obtain ⟨z4, z5, z6⟩ := z
            have hon := p156
            rw [sf155] at z4 hon
            have z4 : (rB T n (cs h1).1) + 1 ≤ (cs hp156).1 := z4
            exact tG_cut (zW_mono zTt G dp) (Or.inr ⟨rfl, rfl, _, k + 1, _, _, rfl, zincL hy q152, (by rw [ssp158]; show k + 1 ≤ (cs hp156).1; omega), ggp158, ppp158, fun r w => hR r (pE_4p hwf155 hon (by rw [ssp158] at w; exact w)), rfl⟩)
        · have ggp156 := cFr_t gf155 gp156
          refine tw_if_ne rfl (fun z => absurd z (by decide)) (fun _ => ?_)
          refine tw_push rfl ?_
          have hoff := p156
          rw [sf155] at hoff
          exact tw_iret rfl ⟨ggp156, Or.inr ⟨rfl, _, hR _ (pE_4pf hwf155 hoff), up156⟩⟩
      · try dsimp only [tvI_i, tvJ_j, tvR_r] at q154
        have q154i := zneq (Y := 43) (by decide) q154
        refine tw_iload rfl rfl ?_
        refine tw_push rfl ?_
        refine tw_ic_eq rfl (fun q159 => ?_) (fun q159 => ?_)
        · try dsimp only [tvI_i, tvJ_j, tvR_r] at q159
          have q159i := zeqi (Y := 45) (by decide) q159
          refine tw_aload rfl rfl ?_
          refine tw_dup rfl ?_
          refine tw_getS rfl (hi_44_2 ggp153.1) ?_
          refine tw_push rfl ?_
          refine tw_iadd rfl ?_
          refine tw_put rfl (fun f160 => ?_)
          refine tG_set f160 (hw_44_2 f160 (ggp153).1) (fun hf160 ef160 => ?_)
          try dsimp only [tvI_i] at ef160
          have gf160 := cFr_s ggp153 ef160 (by decide)
          have hwf160 := ((sgn_k kp153 45 (by decide)).mp q159)
          have hlf160 : (cs hp153).1 < n := by rw [ssp153]; exact hwf160.1
          obtain ⟨pf160, sf160⟩ := cInc ppp153 hlf160 ((cFr_n ggp153).trans hN) ef160
          rw [ssp153] at sf160
          refine tw_aload rfl rfl ?_
          refine tw_iload rfl rfl ?_
          refine tw_virt1p rfl (IH 1 84 (by decide) _ _ _ d _ (gf160).1 pf160 ((cFr_T gf160).trans hT) ((cFr_n gf160).trans hN) hx hd) (fun w9 hp161 p161 => ?_)
          obtain ⟨gp161, ⟨rfl, p161, ppp161⟩ | ⟨rfl, xp161, p161, up161⟩⟩ := p161
          · have ggp161 := cFr_t gf160 gp161
            refine tw_if_ne rfl (fun _ => ?_) (fun z => absurd z (by decide))
            refine tw_aload rfl rfl ?_
            refine tw_iload rfl rfl ?_
            refine tw_push rfl ?_
            refine tw_ic_ne rfl (fun q162 => ?_) (fun q162 => ?_)
            · try dsimp only [tvI_i, tvJ_j, tvR_r] at q162
              have q162i := zneq (Y := 43) (by decide) q162
              refine tw_push rfl ?_
              refine tw_virt1 rfl (f_putCode hG hX (ggp161).1 ppp161 ((cFr_T ggp161).trans hT) ((cFr_n ggp161).trans hN) (cHc ppp161 (by have z := cPe pf160 ((cFr_n gf160).trans hN) p161; have z2 := cP_len p1; have z3 := rB_ge (T := T) (n := n) (p := (cs h1).1); obtain ⟨z4, z5, z6⟩ := z; rw [sf160] at z4 z6; have z4 : (rB T n (cs h1).1) + 1 ≤ (cs hp161).1 := z4; have z6 : (rB T n (cs h1).1) + 1 + (cs hp161).2.2.length ≤ (cs hp161).1 + (cs h1).2.2.length := z6; omega))) (fun wp163 hp163 p163 => ?_)
              obtain ⟨gp163, rfl, ssp163, ppp163⟩ := p163
              have ggp163 := cFr_t ggp161 gp163
              refine tw_iinc rfl rfl ?_
              refine tw_goto rfl ?_
              have z := cPe pf160 ((cFr_n gf160).trans hN) p161
              have z3 := rB_ge (T := T) (n := n) (p := (cs h1).1)
              obtain ⟨z4, z5, z6⟩ := z
              have hon := p161
              rw [sf160] at z4 hon
              have z4 : (rB T n (cs h1).1) + 1 ≤ (cs hp161).1 := z4
              exact tG_cut (zW_mono zTt G dp) (Or.inr ⟨rfl, rfl, _, k + 1, _, _, rfl, zincL hy q152, (by rw [ssp163]; show k + 1 ≤ (cs hp161).1; omega), ggp163, ppp163, fun r w => hR r (pE_4m hwf160 hon (by rw [ssp163] at w; exact w)), rfl⟩)
            · try dsimp only [tvI_i, tvJ_j, tvR_r] at q162
              have q162i := zeqi (Y := 43) (by decide) q162
              exact absurd q162 q154
          · have ggp161 := cFr_t gf160 gp161
            refine tw_if_ne rfl (fun z => absurd z (by decide)) (fun _ => ?_)
            refine tw_push rfl ?_
            have hoff := p161
            rw [sf160] at hoff
            exact tw_iret rfl ⟨ggp161, Or.inr ⟨rfl, _, hR _ (pE_4mf hwf160 hoff), up161⟩⟩
        · try dsimp only [tvI_i, tvJ_j, tvR_r] at q159
          have q159i := zneq (Y := 45) (by decide) q159
          refine tw_goto rfl ?_
          refine tw_push rfl ?_
          have h7 := pE_4n (T := T) (n := n) (d := d) (s := cs h1) (fun z => q154 ((sgn_k kp153 43 (by decide)).mpr z)) (fun z => q159 ((sgn_k kp153 45 (by decide)).mpr z))
          rw [← ssp153] at h7
          exact tw_iret rfl ⟨ggp153, Or.inl ⟨rfl, hR _ h7, ppp153⟩⟩
  · have ggp151 := cFr_t g0 gp151
    refine tw_if_ne rfl (fun z => absurd z (by decide)) (fun _ => ?_)
    refine tw_push rfl ?_
    exact tw_iret rfl ⟨ggp151, Or.inr ⟨rfl, _, pE_qf (c := 4) (by decide) p151, up151⟩⟩
theorem f_readPart {G : zG} (hG : G.1 = zProg) (hX : G.2.1 = ztx) {dp : Nat} (IH : cIH G dp) {h : zH} {T : Nat → Int32} {n : Nat} (hs : tSh h) (hp : cP h) (hT : tA h 45 = T) (hN : cn h = n) {x : Int32} {d : Nat} (hx : x.toInt = d) (hd : d ≤ 10) : tCp zTt G (dp + 1) 79 [.ref 44, .int x] h (cR T n 7 d h) := by
  refine tCp_in (by rw [hG]; rfl) ?_
  have g0 := cFr_r hs
  have hpn : (cs h).1 ≤ n := by rw [← hN]; exact cP_le hp
  have c129 : (12 : Int32).toInt = 12 := rfl
  have c4009 : (400 : Int32).toInt = 400 := rfl
  have c109 : (10 : Int32).toInt = 10 := rfl
  refine tw_aload rfl rfl ?_
  refine tw_iload rfl rfl ?_
  refine tw_virt1p rfl (IH 6 80 (by decide) _ _ _ d _ (g0).1 hp ((cFr_T g0).trans hT) ((cFr_n g0).trans hN) hx hd) (fun w9 hp164 p164 => ?_)
  obtain ⟨gp164, ⟨rfl, p164, ppp164⟩ | ⟨rfl, xp164, p164, up164⟩⟩ := p164
  · have ggp164 := cFr_t g0 gp164
    refine tw_if_ne rfl (fun _ => ?_) (fun z => absurd z (by decide))
    refine tw_push rfl ?_
    refine tw_istore rfl ?_
    refine tG_loop (zW_mono zTt G dp) (zW_conj zTt G dp) (V := fun pc L st h9 _ _ => pc = 12 ∧ st = [] ∧ ∃ (h1 : zH) (k : Nat) (y : Int32), h1 = h9 ∧ y.toInt = k ∧ k ≤ (cs h1).1 ∧ cFr h h1 ∧ cP h1 ∧ (∀ r, pE T n 8 d (cs h1) r → pE T n 7 d (cs h) r) ∧ L = [some (.ref 44), some (.int x), some (.int y)]) ?_ (⟨rfl, rfl, _, 0, _, rfl, rfl, Nat.zero_le _, ggp164, ppp164, fun r z => pE_q (by decide) p164 z, rfl⟩)
    rintro _ _ _ _ _ _ ⟨rfl, rfl, h1, k, y, rfl, hy, hk, g1, p1, hR, rfl⟩
    refine tw_iload rfl rfl ?_
    refine tw_push rfl ?_
    refine tw_ic_ge rfl (fun q165 => ?_) (fun q165 => ?_)
    · try dsimp only [tvI_i, tvJ_j, tvR_r] at q165
      refine tw_push rfl ?_
      have h4 : 400 ≤ (cs h1).1 := by omega
      have h5 := cP_400 p1
      rw [((cFr_n g1).trans hN)] at h5
      have h6 := rB_400 (T := T) (show n ≤ (cs h1).1 by omega)
      have h7 := pE_8n (T := T) (n := n) (d := d) (s := cs h1) (w400 (by decide) (by rw [h6]; omega))
      rw [h6] at h7
      exact tw_iret rfl ⟨g1, Or.inl ⟨rfl, hR _ h7, p1⟩⟩
    · try dsimp only [tvI_i, tvJ_j, tvR_r] at q165
      refine tw_aload rfl rfl ?_
      refine tw_virt0 rfl (f_wordHere hG hX (g1).1 p1 ((cFr_T g1).trans hT) ((cFr_n g1).trans hN)) (fun wp166 hp166 p166 => ?_)
      obtain ⟨gp166, ppp166, ssp166, eep166, ip166, rfl, kwp166⟩ := p166
      have ggp166 := cFr_t g1 gp166
      refine tw_push rfl ?_
      refine tw_ic_ne rfl (fun q167 => ?_) (fun q167 => ?_)
      · try dsimp only [tvI_i, tvJ_j, tvR_r] at q167
        have q167i := zneq (Y := 18) (by decide) q167
        refine tw_push rfl ?_
        have h7 := pE_8n (T := T) (n := n) (d := d) (s := cs h1) (fun z => q167 ((wrd_k (k := 18) kwp166 (by decide) (K := 18) rfl).mpr z))
        rw [← ssp166] at h7
        exact tw_iret rfl ⟨ggp166, Or.inl ⟨rfl, hR _ h7, ppp166⟩⟩
      · try dsimp only [tvI_i, tvJ_j, tvR_r] at q167
        have q167i := zeqi (Y := 18) (by decide) q167
        refine tw_aload rfl rfl ?_
        refine tw_aload rfl rfl ?_
        refine tw_getS rfl (hi_44_3 ggp166.1) ?_
        refine tw_put rfl (fun f168 => ?_)
        refine tG_set f168 (hw_44_2 f168 (ggp166).1) (fun hf168 ef168 => ?_)
        try dsimp only [tvI_i] at ef168
        have gf168 := cFr_s ggp166 ef168 (by decide)
        have hwf168 := ((wrd_k (k := 18) kwp166 (by decide) (K := 18) rfl).mp q167)
        have h9wf168 : rE T n (rB T n (cs h1).1) = (rB T n (cs h1).1) + 3 := by rw [rW_e hwf168, wlen_k.1]
        rw [h9wf168] at eep166
        have hp1n : (cs h1).1 ≤ n := by rw [← ((cFr_n g1).trans hN)]; exact cP_le p1
        have hr9f168 := rE_le (T := T) (rB_le (T := T) hp1n)
        rw [h9wf168] at hr9f168
        obtain ⟨pf168, sf168⟩ := cTo ppp166 ((cFr_n ggp166).trans hN) ef168 eep166 (by rw [ssp166]; exact Nat.le_add_right _ _) hr9f168
        rw [ssp166] at sf168
        refine tw_aload rfl rfl ?_
        refine tw_iload rfl rfl ?_
        refine tw_virt1p rfl (IH 6 80 (by decide) _ _ _ d _ (gf168).1 pf168 ((cFr_T gf168).trans hT) ((cFr_n gf168).trans hN) hx hd) (fun w9 hp169 p169 => ?_)
        obtain ⟨gp169, ⟨rfl, p169, ppp169⟩ | ⟨rfl, xp169, p169, up169⟩⟩ := p169
        · have ggp169 := cFr_t gf168 gp169
          refine tw_if_ne rfl (fun _ => ?_) (fun z => absurd z (by decide))
          refine tw_aload rfl rfl ?_
          refine tw_push rfl ?_
          refine tw_virt1 rfl (f_putCode hG hX (ggp169).1 ppp169 ((cFr_T ggp169).trans hT) ((cFr_n ggp169).trans hN) (cHc ppp169 (by have z := cPe pf168 ((cFr_n gf168).trans hN) p169; have z2 := cP_len p1; have z3 := rB_ge (T := T) (n := n) (p := (cs h1).1); obtain ⟨z4, z5, z6⟩ := z; rw [sf168] at z4 z6; have z4 : (rB T n (cs h1).1) + 3 ≤ (cs hp169).1 := z4; have z6 : (rB T n (cs h1).1) + 3 + (cs hp169).2.2.length ≤ (cs hp169).1 + (cs h1).2.2.length := z6; omega))) (fun wp170 hp170 p170 => ?_)
          obtain ⟨gp170, rfl, ssp170, ppp170⟩ := p170
          have ggp170 := cFr_t ggp169 gp170
          refine tw_iinc rfl rfl ?_
          refine tw_goto rfl ?_
          have z := cPe pf168 ((cFr_n gf168).trans hN) p169
          have z3 := rB_ge (T := T) (n := n) (p := (cs h1).1)
          obtain ⟨z4, z5, z6⟩ := z
          have hon := p169
          rw [sf168] at z4 hon
          have z4 : (rB T n (cs h1).1) + 3 ≤ (cs hp169).1 := z4
          exact tG_cut (zW_mono zTt G dp) (Or.inr ⟨rfl, rfl, _, k + 1, _, rfl, zincL hy q165, (by rw [ssp170]; show k + 1 ≤ (cs hp169).1; omega), ggp170, ppp170, fun r w => hR r (pE_8y hwf168 hon (by rw [ssp170] at w; exact w)), rfl⟩)
        · have ggp169 := cFr_t gf168 gp169
          refine tw_if_ne rfl (fun z => absurd z (by decide)) (fun _ => ?_)
          refine tw_push rfl ?_
          have hoff := p169
          rw [sf168] at hoff
          exact tw_iret rfl ⟨ggp169, Or.inr ⟨rfl, _, hR _ (pE_8f hwf168 hoff), up169⟩⟩
  · have ggp164 := cFr_t g0 gp164
    refine tw_if_ne rfl (fun z => absurd z (by decide)) (fun _ => ?_)
    refine tw_push rfl ?_
    exact tw_iret rfl ⟨ggp164, Or.inr ⟨rfl, _, pE_qf (c := 8) (by decide) p164, up164⟩⟩
theorem f_readTest {G : zG} (hG : G.1 = zProg) (hX : G.2.1 = ztx) {dp : Nat} (IH : cIH G dp) {h : zH} {T : Nat → Int32} {n : Nat} (hs : tSh h) (hp : cP h) (hT : tA h 45 = T) (hN : cn h = n) {x : Int32} {d : Nat} (hx : x.toInt = d) (hd : d ≤ 10) : tCp zTt G (dp + 1) 78 [.ref 44, .int x] h (cR T n 9 d h) := by
  refine tCp_in (by rw [hG]; rfl) ?_
  have g0 := cFr_r hs
  have hpn : (cs h).1 ≤ n := by rw [← hN]; exact cP_le hp
  have c129 : (12 : Int32).toInt = 12 := rfl
  have c4009 : (400 : Int32).toInt = 400 := rfl
  have c109 : (10 : Int32).toInt = 10 := rfl
  refine tw_aload rfl rfl ?_
  refine tw_iload rfl rfl ?_
  refine tw_virt1p rfl (IH 7 79 (by decide) _ _ _ d _ (g0).1 hp ((cFr_T g0).trans hT) ((cFr_n g0).trans hN) hx hd) (fun w9 hp171 p171 => ?_)
  obtain ⟨gp171, ⟨rfl, p171, ppp171⟩ | ⟨rfl, xp171, p171, up171⟩⟩ := p171
  · have ggp171 := cFr_t g0 gp171
    refine tw_if_ne rfl (fun _ => ?_) (fun z => absurd z (by decide))
    refine tw_push rfl ?_
    refine tw_istore rfl ?_
    refine tG_loop (zW_mono zTt G dp) (zW_conj zTt G dp) (V := fun pc L st h9 _ _ => pc = 12 ∧ st = [] ∧ ∃ (h1 : zH) (k : Nat) (y : Int32), h1 = h9 ∧ y.toInt = k ∧ k ≤ (cs h1).1 ∧ cFr h h1 ∧ cP h1 ∧ (∀ r, pE T n 10 d (cs h1) r → pE T n 9 d (cs h) r) ∧ L = [some (.ref 44), some (.int x), some (.int y)]) ?_ (⟨rfl, rfl, _, 0, _, rfl, rfl, Nat.zero_le _, ggp171, ppp171, fun r z => pE_q (by decide) p171 z, rfl⟩)
    rintro _ _ _ _ _ _ ⟨rfl, rfl, h1, k, y, rfl, hy, hk, g1, p1, hR, rfl⟩
    refine tw_iload rfl rfl ?_
    refine tw_push rfl ?_
    refine tw_ic_ge rfl (fun q172 => ?_) (fun q172 => ?_)
    · try dsimp only [tvI_i, tvJ_j, tvR_r] at q172
      refine tw_push rfl ?_
      have h4 : 400 ≤ (cs h1).1 := by omega
      have h5 := cP_400 p1
      rw [((cFr_n g1).trans hN)] at h5
      have h6 := rB_400 (T := T) (show n ≤ (cs h1).1 by omega)
      have h7 := pE_10n (T := T) (n := n) (d := d) (s := cs h1) (w400 (by decide) (by rw [h6]; omega))
      rw [h6] at h7
      exact tw_iret rfl ⟨g1, Or.inl ⟨rfl, hR _ h7, p1⟩⟩
    · try dsimp only [tvI_i, tvJ_j, tvR_r] at q172
      refine tw_aload rfl rfl ?_
      refine tw_virt0 rfl (f_wordHere hG hX (g1).1 p1 ((cFr_T g1).trans hT) ((cFr_n g1).trans hN)) (fun wp173 hp173 p173 => ?_)
      obtain ⟨gp173, ppp173, ssp173, eep173, ip173, rfl, kwp173⟩ := p173
      have ggp173 := cFr_t g1 gp173
      refine tw_push rfl ?_
      refine tw_ic_ne rfl (fun q174 => ?_) (fun q174 => ?_)
      · try dsimp only [tvI_i, tvJ_j, tvR_r] at q174
        have q174i := zneq (Y := 17) (by decide) q174
        refine tw_push rfl ?_
        have h7 := pE_10n (T := T) (n := n) (d := d) (s := cs h1) (fun z => q174 ((wrd_k (k := 17) kwp173 (by decide) (K := 17) rfl).mpr z))
        rw [← ssp173] at h7
        exact tw_iret rfl ⟨ggp173, Or.inl ⟨rfl, hR _ h7, ppp173⟩⟩
      · try dsimp only [tvI_i, tvJ_j, tvR_r] at q174
        have q174i := zeqi (Y := 17) (by decide) q174
        refine tw_aload rfl rfl ?_
        refine tw_aload rfl rfl ?_
        refine tw_getS rfl (hi_44_3 ggp173.1) ?_
        refine tw_put rfl (fun f175 => ?_)
        refine tG_set f175 (hw_44_2 f175 (ggp173).1) (fun hf175 ef175 => ?_)
        try dsimp only [tvI_i] at ef175
        have gf175 := cFr_s ggp173 ef175 (by decide)
        have hwf175 := ((wrd_k (k := 17) kwp173 (by decide) (K := 17) rfl).mp q174)
        have h9wf175 : rE T n (rB T n (cs h1).1) = (rB T n (cs h1).1) + 2 := by rw [rW_e hwf175, wlen_k.2.1]
        rw [h9wf175] at eep173
        have hp1n : (cs h1).1 ≤ n := by rw [← ((cFr_n g1).trans hN)]; exact cP_le p1
        have hr9f175 := rE_le (T := T) (rB_le (T := T) hp1n)
        rw [h9wf175] at hr9f175
        obtain ⟨pf175, sf175⟩ := cTo ppp173 ((cFr_n ggp173).trans hN) ef175 eep173 (by rw [ssp173]; exact Nat.le_add_right _ _) hr9f175
        rw [ssp173] at sf175
        refine tw_aload rfl rfl ?_
        refine tw_iload rfl rfl ?_
        refine tw_virt1p rfl (IH 7 79 (by decide) _ _ _ d _ (gf175).1 pf175 ((cFr_T gf175).trans hT) ((cFr_n gf175).trans hN) hx hd) (fun w9 hp176 p176 => ?_)
        obtain ⟨gp176, ⟨rfl, p176, ppp176⟩ | ⟨rfl, xp176, p176, up176⟩⟩ := p176
        · have ggp176 := cFr_t gf175 gp176
          refine tw_if_ne rfl (fun _ => ?_) (fun z => absurd z (by decide))
          refine tw_aload rfl rfl ?_
          refine tw_push rfl ?_
          refine tw_virt1 rfl (f_putCode hG hX (ggp176).1 ppp176 ((cFr_T ggp176).trans hT) ((cFr_n ggp176).trans hN) (cHc ppp176 (by have z := cPe pf175 ((cFr_n gf175).trans hN) p176; have z2 := cP_len p1; have z3 := rB_ge (T := T) (n := n) (p := (cs h1).1); obtain ⟨z4, z5, z6⟩ := z; rw [sf175] at z4 z6; have z4 : (rB T n (cs h1).1) + 2 ≤ (cs hp176).1 := z4; have z6 : (rB T n (cs h1).1) + 2 + (cs hp176).2.2.length ≤ (cs hp176).1 + (cs h1).2.2.length := z6; omega))) (fun wp177 hp177 p177 => ?_)
          obtain ⟨gp177, rfl, ssp177, ppp177⟩ := p177
          have ggp177 := cFr_t ggp176 gp177
          refine tw_iinc rfl rfl ?_
          refine tw_goto rfl ?_
          have z := cPe pf175 ((cFr_n gf175).trans hN) p176
          have z3 := rB_ge (T := T) (n := n) (p := (cs h1).1)
          obtain ⟨z4, z5, z6⟩ := z
          have hon := p176
          rw [sf175] at z4 hon
          have z4 : (rB T n (cs h1).1) + 2 ≤ (cs hp176).1 := z4
          exact tG_cut (zW_mono zTt G dp) (Or.inr ⟨rfl, rfl, _, k + 1, _, rfl, zincL hy q172, (by rw [ssp177]; show k + 1 ≤ (cs hp176).1; omega), ggp177, ppp177, fun r w => hR r (pE_10y hwf175 hon (by rw [ssp177] at w; exact w)), rfl⟩)
        · have ggp176 := cFr_t gf175 gp176
          refine tw_if_ne rfl (fun z => absurd z (by decide)) (fun _ => ?_)
          refine tw_push rfl ?_
          have hoff := p176
          rw [sf175] at hoff
          exact tw_iret rfl ⟨ggp176, Or.inr ⟨rfl, _, hR _ (pE_10f hwf175 hoff), up176⟩⟩
  · have ggp171 := cFr_t g0 gp171
    refine tw_if_ne rfl (fun z => absurd z (by decide)) (fun _ => ?_)
    refine tw_push rfl ?_
    exact tw_iret rfl ⟨ggp171, Or.inr ⟨rfl, _, pE_qf (c := 10) (by decide) p171, up171⟩⟩
theorem f_readComparison {G : zG} (hG : G.1 = zProg) (hX : G.2.1 = ztx) {dp : Nat} (IH : cIH G dp) {h : zH} {T : Nat → Int32} {n : Nat} (hs : tSh h) (hp : cP h) (hT : tA h 45 = T) (hN : cn h = n) {x : Int32} {d : Nat} (hx : x.toInt = d) (hd : d ≤ 10) : tCp zTt G (dp + 1) 81 [.ref 44, .int x] h (cR T n 5 d h) := by
  refine tCp_in (by rw [hG]; rfl) ?_
  have g0 := cFr_r hs
  have hpn : (cs h).1 ≤ n := by rw [← hN]; exact cP_le hp
  have c129 : (12 : Int32).toInt = 12 := rfl
  have c4009 : (400 : Int32).toInt = 400 := rfl
  have c109 : (10 : Int32).toInt = 10 := rfl
  refine tw_aload rfl rfl ?_
  refine tw_iload rfl rfl ?_
  refine tw_virt1p rfl (IH 3 83 (by decide) _ _ _ d _ (g0).1 hp ((cFr_T g0).trans hT) ((cFr_n g0).trans hN) hx hd) (fun w9 hp178 p178 => ?_)
  obtain ⟨gp178, ⟨rfl, p178, ppp178⟩ | ⟨rfl, xp178, p178, up178⟩⟩ := p178
  · have ggp178 := cFr_t g0 gp178
    refine tw_if_ne rfl (fun _ => ?_) (fun z => absurd z (by decide))
    refine tw_aload rfl rfl ?_
    refine tw_virt0 rfl (f_comparisonHere hG hX (ggp178).1 ppp178 ((cFr_T ggp178).trans hT) ((cFr_n ggp178).trans hN)) (fun w9 hp179 p179 => ?_)
    obtain ⟨gp179, ⟨vp179, p179, c8p179, rfl, ssp179, ppp179⟩ | ⟨rfl, xp179, up179, p179⟩⟩ := p179
    · have ggp179 := cFr_t ggp178 gp179
      refine tw_istore rfl ?_
      refine tw_iload rfl rfl ?_
      refine tw_push rfl ?_
      refine tw_ic_eq rfl (fun q180 => ?_) (fun q180 => ?_)
      · try dsimp only [tvI_i, tvJ_j, tvR_r] at q180
        have q180i := zeqi (Y := (-1)) (by decide) q180
        exact absurd q180 (zoN9 (by have := (rCm_r p179).2.1; omega))
      · try dsimp only [tvI_i, tvJ_j, tvR_r] at q180
        have q180i := zneq (Y := (-1)) (by decide) q180
        refine tw_aload rfl rfl ?_
        refine tw_iload rfl rfl ?_
        refine tw_virt1p rfl (IH 3 83 (by decide) _ _ _ d _ (ggp179).1 ppp179 ((cFr_T ggp179).trans hT) ((cFr_n ggp179).trans hN) hx hd) (fun w9 hp181 p181 => ?_)
        obtain ⟨gp181, ⟨rfl, p181, ppp181⟩ | ⟨rfl, xp181, p181, up181⟩⟩ := p181
        · have ggp181 := cFr_t ggp179 gp181
          refine tw_if_ne rfl (fun _ => ?_) (fun z => absurd z (by decide))
          refine tw_aload rfl rfl ?_
          refine tw_iload rfl rfl ?_
          refine tw_virt1 rfl (f_putCode hG hX (ggp181).1 ppp181 ((cFr_T ggp181).trans hT) ((cFr_n ggp181).trans hN) (cHc ppp181 (by have z := cPe ppp179 ((cFr_n ggp179).trans hN) p181; have z1 := cP_len ppp178; have z3 := rB_ge (T := T) (n := n) (p := (cs hp178).1); have z7 := (rCm_r p179).2.2; obtain ⟨z4, z5, z6⟩ := z; rw [ssp179] at z4 z6; have z4 : vp179.2 ≤ (cs hp181).1 := z4; have z6 : vp179.2 + (cs hp181).2.2.length ≤ (cs hp181).1 + (cs hp178).2.2.length := z6; omega))) (fun wp182 hp182 p182 => ?_)
          obtain ⟨gp182, rfl, ssp182, ppp182⟩ := p182
          have ggp182 := cFr_t ggp181 gp182
          refine tw_push rfl ?_
          have ho := p181
          rw [ssp179] at ho
          refine tw_iret rfl ⟨ggp182, Or.inl ⟨rfl, ?_, ppp182⟩⟩
          rw [ssp182]
          show pE T n 5 d (cs h) (.inr (rU (Int32.ofNat vp179.1).toNatClampNeg _))
          rw [zoN (v := vp179.1) (by have := (rCm_r p179).2.1; omega)]
          exact pE_5e p178 p179 c8p179 ho
        · have ggp181 := cFr_t ggp179 gp181
          refine tw_if_ne rfl (fun z => absurd z (by decide)) (fun _ => ?_)
          refine tw_push rfl ?_
          have ho := p181
          rw [ssp179] at ho
          exact tw_iret rfl ⟨ggp181, Or.inr ⟨rfl, _, pE_5d p178 p179 c8p179 ho, up181⟩⟩
    · have ggp179 := cFr_t ggp178 gp179
      refine tw_istore rfl ?_
      refine tw_iload rfl rfl ?_
      refine tw_push rfl ?_
      refine tw_ic_eq rfl (fun _ => ?_) (fun z => absurd z (by decide))
      refine tw_push rfl ?_
      rcases p179 with ⟨a1, rfl⟩ | ⟨q9, a1, a2, rfl⟩
      · exact tw_iret rfl ⟨ggp179, Or.inr ⟨rfl, _, pE_5b p178 a1, up179⟩⟩
      · exact tw_iret rfl ⟨ggp179, Or.inr ⟨rfl, _, pE_5c p178 a1 a2, up179⟩⟩
  · have ggp178 := cFr_t g0 gp178
    refine tw_if_ne rfl (fun z => absurd z (by decide)) (fun _ => ?_)
    refine tw_push rfl ?_
    exact tw_iret rfl ⟨ggp178, Or.inr ⟨rfl, _, pE_5a p178, up178⟩⟩
theorem f_readFact {G : zG} (hG : G.1 = zProg) (hX : G.2.1 = ztx) {dp : Nat} (IH : cIH G dp) {h : zH} {T : Nat → Int32} {n : Nat} (hs : tSh h) (hp : cP h) (hT : tA h 45 = T) (hN : cn h = n) {x : Int32} {d : Nat} (hx : x.toInt = d) (hd : d ≤ 10) : tCp zTt G (dp + 1) 80 [.ref 44, .int x] h (cR T n 6 d h) := by
  refine tCp_in (by rw [hG]; rfl) ?_
  have g0 := cFr_r hs
  have hpn : (cs h).1 ≤ n := by rw [← hN]; exact cP_le hp
  have c129 : (12 : Int32).toInt = 12 := rfl
  have c4009 : (400 : Int32).toInt = 400 := rfl
  have c109 : (10 : Int32).toInt = 10 := rfl
  refine tw_aload rfl rfl ?_
  refine tw_virt0 rfl (f_wordHere hG hX (g0).1 hp ((cFr_T g0).trans hT) ((cFr_n g0).trans hN)) (fun wp183 hp183 p183 => ?_)
  obtain ⟨gp183, ppp183, ssp183, eep183, ip183, rfl, kwp183⟩ := p183
  have ggp183 := cFr_t g0 gp183
  refine tw_push rfl ?_
  refine tw_ic_ne rfl (fun q184 => ?_) (fun q184 => ?_)
  · try dsimp only [tvI_i, tvJ_j, tvR_r] at q184
    have q184i := zneq (Y := 19) (by decide) q184
    refine tw_push rfl ?_
    refine tw_istore rfl ?_
    refine tw_aload rfl rfl ?_
    refine tw_virt0 rfl (f_signHere hG hX (ggp183).1 ppp183 ((cFr_T ggp183).trans hT) ((cFr_n ggp183).trans hN)) (fun wp185 hp185 p185 => ?_)
    obtain ⟨gp185, ppp185, ssp185, t3p185, cp185, rfl, kp185⟩ := p185
    have ggp185 := cFr_t ggp183 gp185
    refine tw_push rfl ?_
    refine tw_ic_ne rfl (fun q186 => ?_) (fun q186 => ?_)
    · try dsimp only [tvI_i, tvJ_j, tvR_r] at q186
      have q186i := zneq (Y := 91) (by decide) q186
      refine tw_push rfl ?_
      refine tw_istore rfl ?_
      refine tw_iload rfl rfl ?_
      refine tw_if_ne rfl (fun z => absurd z (by decide)) (fun _ => ?_)
      refine tw_iload rfl rfl ?_
      refine tw_if_ne rfl (fun z => absurd z (by decide)) (fun _ => ?_)
      refine tw_aload rfl rfl ?_
      refine tw_iload rfl rfl ?_
      refine tw_virt1p rfl (IH 5 81 (by decide) _ _ _ d _ (ggp185).1 ppp185 ((cFr_T ggp185).trans hT) ((cFr_n ggp185).trans hN) hx hd) (fun w9 hp187 p187 => ?_)
      obtain ⟨gp187, ⟨rfl, p187, ppp187⟩ | ⟨rfl, xp187, p187, up187⟩⟩ := p187
      · have ggp187 := cFr_t ggp185 gp187
        have hK := (sgn_k kp185 91 (by decide))
        rw [ssp183, show (rA (rB T n (cs h).1) (cs h)).1 = (rB T n (cs h).1) from rfl, rB_2] at hK
        have hss : cs hp185 = rA (rB T n (cs h).1) (cs h) := by rw [ssp185, ssp183]; show rA (rB T n (rB T n (cs h).1)) _ = _; rw [rB_2]; rfl
        have ho := p187
        rw [hss] at ho
        exact tw_iret rfl ⟨ggp187, Or.inl ⟨rfl, (pE_6h (fun z => q184 ((wrd_k (k := 19) kwp183 (by decide) (K := 19) rfl).mpr z)) (fun z => q186 (hK.mpr z)) ho), ppp187⟩⟩
      · have ggp187 := cFr_t ggp185 gp187
        have hK := (sgn_k kp185 91 (by decide))
        rw [ssp183, show (rA (rB T n (cs h).1) (cs h)).1 = (rB T n (cs h).1) from rfl, rB_2] at hK
        have hss : cs hp185 = rA (rB T n (cs h).1) (cs h) := by rw [ssp185, ssp183]; show rA (rB T n (rB T n (cs h).1)) _ = _; rw [rB_2]; rfl
        have ho := p187
        rw [hss] at ho
        exact tw_iret rfl ⟨ggp187, Or.inr ⟨rfl, _, (pE_6h (fun z => q184 ((wrd_k (k := 19) kwp183 (by decide) (K := 19) rfl).mpr z)) (fun z => q186 (hK.mpr z)) ho), up187⟩⟩
    · try dsimp only [tvI_i, tvJ_j, tvR_r] at q186
      have q186i := zeqi (Y := 91) (by decide) q186
      refine tw_push rfl ?_
      refine tw_goto rfl ?_
      refine tw_istore rfl ?_
      refine tw_iload rfl rfl ?_
      refine tw_if_ne rfl (fun z => absurd z (by decide)) (fun _ => ?_)
      refine tw_iload rfl rfl ?_
      refine tw_if_ne rfl (fun _ => ?_) (fun z => absurd z (by decide))
      refine tw_iload rfl rfl ?_
      refine tw_push rfl ?_
      refine tw_ic_ne rfl (fun q188 => ?_) (fun q188 => ?_)
      · try dsimp only [tvI_i, tvJ_j, tvR_r] at q188
        have q188i := zneq (Y := 10) (by decide) q188
        refine tw_iload rfl rfl ?_
        refine tw_if_eq rfl (fun z => absurd z (by decide)) (fun _ => ?_)
        refine tw_aload rfl rfl ?_
        refine tw_dup rfl ?_
        refine tw_getS rfl (hi_44_2 ggp185.1) ?_
        refine tw_push rfl ?_
        refine tw_iadd rfl ?_
        refine tw_put rfl (fun f189 => ?_)
        refine tG_set f189 (hw_44_2 f189 (ggp185).1) (fun hf189 ef189 => ?_)
        try dsimp only [tvI_i] at ef189
        have gf189 := cFr_s ggp185 ef189 (by decide)
        have hw9 : (rB T n (cs h).1) < n ∧ T (rB T n (cs h).1) = 91 := by have z := (sgn_k kp185 91 (by decide)).mp q186; rw [ssp183] at z; rw [show (rA (rB T n (cs h).1) (cs h)).1 = (rB T n (cs h).1) from rfl, rB_2] at z; exact z
        have hlf189 : (cs hp185).1 < n := by rw [ssp185, ssp183]; show rB T n (rB T n (cs h).1) < n; rw [rB_2]; exact hw9.1
        obtain ⟨pf189, sf189⟩ := cInc ppp185 hlf189 ((cFr_n ggp185).trans hN) ef189
        rw [ssp185, ssp183] at sf189
        have sf189 : cs hf189 = rA ((rB T n (cs h).1) + 1) (cs h) := by rw [sf189]; show rA (rB T n (rB T n (cs h).1) + 1) _ = _; rw [rB_2]; rfl
        refine tw_aload rfl rfl ?_
        refine tw_iload rfl rfl ?_
        refine tw_push rfl ?_
        refine tw_iadd rfl ?_
        refine tw_virt1p rfl (IH 9 78 (by decide) _ _ _ (d + 1) _ (gf189).1 pf189 ((cFr_T gf189).trans hT) ((cFr_n gf189).trans hN) (zd1 hx hd) (by omega)) (fun w9 hp190 p190 => ?_)
        obtain ⟨gp190, ⟨rfl, p190, ppp190⟩ | ⟨rfl, xp190, p190, up190⟩⟩ := p190
        · have ggp190 := cFr_t gf189 gp190
          refine tw_if_eq rfl (fun z => absurd z (by decide)) (fun _ => ?_)
          refine tw_aload rfl rfl ?_
          refine tw_push rfl ?_
          refine tw_virt1 rfl (f_takeSign hG hX (ggp190).1 ppp190 ((cFr_T ggp190).trans hT) ((cFr_n ggp190).trans hN) (y := 93) (by decide)) (fun w9 hp191 p191 => ?_)
          obtain ⟨gp191, ⟨rfl, p191, ppp191⟩ | ⟨rfl, xp191, p191, up191⟩⟩ := p191
          · have ggp191 := cFr_t ggp190 gp191
            refine tw_if_eq rfl (fun z => absurd z (by decide)) (fun _ => ?_)
            refine tw_push rfl ?_
            refine tw_goto rfl ?_
            have hd10 : d ≠ 10 := fun z => q188 (Int32.toInt_inj.mp (by rw [hx, z]; rfl))
            have ho := p190
            rw [sf189] at ho
            exact tw_iret rfl ⟨ggp191, Or.inl ⟨rfl, pE_6g hw9 hd10 ho p191, ppp191⟩⟩
          · have ggp191 := cFr_t ggp190 gp191
            refine tw_if_eq rfl (fun _ => ?_) (fun z => absurd z (by decide))
            refine tw_push rfl ?_
            have hd10 : d ≠ 10 := fun z => q188 (Int32.toInt_inj.mp (by rw [hx, z]; rfl))
            have ho := p190
            rw [sf189] at ho
            exact tw_iret rfl ⟨ggp191, Or.inr ⟨rfl, _, pE_6g hw9 hd10 ho p191, up191⟩⟩
        · have ggp190 := cFr_t gf189 gp190
          refine tw_if_eq rfl (fun _ => ?_) (fun z => absurd z (by decide))
          refine tw_push rfl ?_
          have hd10 : d ≠ 10 := fun z => q188 (Int32.toInt_inj.mp (by rw [hx, z]; rfl))
          have ho := p190
          rw [sf189] at ho
          exact tw_iret rfl ⟨ggp190, Or.inr ⟨rfl, _, pE_6e hw9 hd10 ho, up190⟩⟩
      · try dsimp only [tvI_i, tvJ_j, tvR_r] at q188
        have q188i := zeqi (Y := 10) (by decide) q188
        refine tw_aload rfl rfl ?_
        refine tw_aload rfl rfl ?_
        refine tw_getS rfl (hi_44_2 ggp185.1) ?_
        refine tw_push rfl ?_
        refine tw_virt2 rfl (f_refuse hG hX (ggp185).1 ppp185 ((cFr_T ggp185).trans hT) ((cFr_n ggp185).trans hN)) (fun wp192 hp192 p192 => ?_)
        obtain ⟨gp192, rfl, up192⟩ := p192
        have ggp192 := cFr_t ggp185 gp192
        have hd10 : d = 10 := by have z : x.toInt = 10 := congrArg Int32.toInt q188; omega
        have hss : cs hp185 = rA (rB T n (cs h).1) (cs h) := by rw [ssp185, ssp183]; show rA (rB T n (rB T n (cs h).1)) _ = _; rw [rB_2]; rfl
        have hft := cFt_of ppp185 up192 (w := 2) rfl (by decide)
        rw [hss] at hft
        have hK := (sgn_k kp185 91 (by decide))
        rw [ssp183, show (rA (rB T n (cs h).1) (cs h)).1 = (rB T n (cs h).1) from rfl, rB_2] at hK
        exact tw_iret rfl ⟨ggp192, Or.inr ⟨rfl, _, pE_6d (hK.mp q186) hd10, hft⟩⟩
  · try dsimp only [tvI_i, tvJ_j, tvR_r] at q184
    have q184i := zeqi (Y := 19) (by decide) q184
    refine tw_push rfl ?_
    refine tw_goto rfl ?_
    refine tw_istore rfl ?_
    refine tw_aload rfl rfl ?_
    refine tw_virt0 rfl (f_signHere hG hX (ggp183).1 ppp183 ((cFr_T ggp183).trans hT) ((cFr_n ggp183).trans hN)) (fun wp193 hp193 p193 => ?_)
    obtain ⟨gp193, ppp193, ssp193, t3p193, cp193, rfl, kp193⟩ := p193
    have ggp193 := cFr_t ggp183 gp193
    refine tw_push rfl ?_
    refine tw_ic_ne rfl (fun q194 => ?_) (fun q194 => ?_)
    · try dsimp only [tvI_i, tvJ_j, tvR_r] at q194
      have q194i := zneq (Y := 91) (by decide) q194
      refine tw_push rfl ?_
      refine tw_istore rfl ?_
      refine tw_iload rfl rfl ?_
      refine tw_if_ne rfl (fun _ => ?_) (fun z => absurd z (by decide))
      refine tw_iload rfl rfl ?_
      refine tw_push rfl ?_
      refine tw_ic_ne rfl (fun q195 => ?_) (fun q195 => ?_)
      · try dsimp only [tvI_i, tvJ_j, tvR_r] at q195
        have q195i := zneq (Y := 10) (by decide) q195
        refine tw_iload rfl rfl ?_
        refine tw_if_eq rfl (fun _ => ?_) (fun z => absurd z (by decide))
        refine tw_aload rfl rfl ?_
        refine tw_aload rfl rfl ?_
        refine tw_getS rfl (hi_44_3 ggp193.1) ?_
        refine tw_put rfl (fun f196 => ?_)
        refine tG_set f196 (hw_44_2 f196 (ggp193).1) (fun hf196 ef196 => ?_)
        try dsimp only [tvI_i] at ef196
        have gf196 := cFr_s ggp193 ef196 (by decide)
        have hw9 := (wrd_k (k := 19) kwp183 (by decide) (K := 19) rfl).mp q184
        have h9w : rE T n (rB T n (cs h).1) = (rB T n (cs h).1) + 3 := by rw [rW_e hw9, wlen_k.2.2.1]
        have hr9 := rE_le (T := T) (rB_le (T := T) hpn)
        rw [h9w] at hr9 eep183
        obtain ⟨pf196, sf196⟩ := cTo ppp193 ((cFr_n ggp193).trans hN) ef196 (by rw [t3p193]; exact eep183) (by rw [ssp193, ssp183]; show rB T n (rB T n (cs h).1) ≤ _; rw [rB_2]; exact Nat.le_add_right _ _) hr9
        rw [ssp193, ssp183] at sf196
        have sf196 : cs hf196 = rA ((rB T n (cs h).1) + 3) (cs h) := sf196
        refine tw_aload rfl rfl ?_
        refine tw_iload rfl rfl ?_
        refine tw_push rfl ?_
        refine tw_iadd rfl ?_
        refine tw_virt1p rfl (IH 6 80 (by decide) _ _ _ (d + 1) _ (gf196).1 pf196 ((cFr_T gf196).trans hT) ((cFr_n gf196).trans hN) (zd1 hx hd) (by omega)) (fun w9 hp197 p197 => ?_)
        obtain ⟨gp197, ⟨rfl, p197, ppp197⟩ | ⟨rfl, xp197, p197, up197⟩⟩ := p197
        · have ggp197 := cFr_t gf196 gp197
          refine tw_if_ne rfl (fun _ => ?_) (fun z => absurd z (by decide))
          refine tw_aload rfl rfl ?_
          refine tw_push rfl ?_
          refine tw_virt1 rfl (f_putCode hG hX (ggp197).1 ppp197 ((cFr_T ggp197).trans hT) ((cFr_n ggp197).trans hN) (cHc ppp197 (by have z := cPe pf196 ((cFr_n gf196).trans hN) p197; have z2 := cP_len hp; have z3 := rB_ge (T := T) (n := n) (p := (cs h).1); obtain ⟨z4, z5, z6⟩ := z; rw [sf196] at z4 z6; have z4 : (rB T n (cs h).1) + 3 ≤ (cs hp197).1 := z4; have z6 : (rB T n (cs h).1) + 3 + (cs hp197).2.2.length ≤ (cs hp197).1 + (cs h).2.2.length := z6; omega))) (fun wp198 hp198 p198 => ?_)
          obtain ⟨gp198, rfl, ssp198, ppp198⟩ := p198
          have ggp198 := cFr_t ggp197 gp198
          refine tw_push rfl ?_
          have hd10 : d ≠ 10 := fun z => q195 (Int32.toInt_inj.mp (by rw [hx, z]; rfl))
          have ho := p197
          rw [sf196] at ho
          refine tw_iret rfl ⟨ggp198, Or.inl ⟨rfl, ?_, ppp198⟩⟩
          rw [ssp198]
          exact pE_6c hw9 hd10 ho
        · have ggp197 := cFr_t gf196 gp197
          refine tw_if_ne rfl (fun z => absurd z (by decide)) (fun _ => ?_)
          refine tw_push rfl ?_
          have hd10 : d ≠ 10 := fun z => q195 (Int32.toInt_inj.mp (by rw [hx, z]; rfl))
          have ho := p197
          rw [sf196] at ho
          exact tw_iret rfl ⟨ggp197, Or.inr ⟨rfl, _, pE_6b hw9 hd10 ho, up197⟩⟩
      · try dsimp only [tvI_i, tvJ_j, tvR_r] at q195
        have q195i := zeqi (Y := 10) (by decide) q195
        refine tw_aload rfl rfl ?_
        refine tw_aload rfl rfl ?_
        refine tw_getS rfl (hi_44_2 ggp193.1) ?_
        refine tw_push rfl ?_
        refine tw_virt2 rfl (f_refuse hG hX (ggp193).1 ppp193 ((cFr_T ggp193).trans hT) ((cFr_n ggp193).trans hN)) (fun wp199 hp199 p199 => ?_)
        obtain ⟨gp199, rfl, up199⟩ := p199
        have ggp199 := cFr_t ggp193 gp199
        have hd10 : d = 10 := by have z : x.toInt = 10 := congrArg Int32.toInt q195; omega
        have hss : cs hp193 = rA (rB T n (cs h).1) (cs h) := by rw [ssp193, ssp183]; show rA (rB T n (rB T n (cs h).1)) _ = _; rw [rB_2]; rfl
        have hft := cFt_of ppp193 up199 (w := 2) rfl (by decide)
        rw [hss] at hft
        have hw9 := (wrd_k (k := 19) kwp183 (by decide) (K := 19) rfl).mp q184
        exact tw_iret rfl ⟨ggp199, Or.inr ⟨rfl, _, pE_6a hw9 hd10, hft⟩⟩
    · try dsimp only [tvI_i, tvJ_j, tvR_r] at q194
      have q194i := zeqi (Y := 91) (by decide) q194
      have hw9 := (wrd_k (k := 19) kwp183 (by decide) (K := 19) rfl).mp q184
      have z := (sgn_k kp193 91 (by decide)).mp q194
      rw [ssp183, show (rA (rB T n (cs h).1) (cs h)).1 = (rB T n (cs h).1) from rfl, rB_2] at z
      exact absurd hw9 (no_91 z (by decide))
theorem f_rec {G : zG} (hG : G.1 = zProg) (hX : G.2.1 = ztx) : ∀ dp, cIH G dp
  | 0 => fun m j hm h T n d x hs hp hT hN hx hd z => z.elim
  | dp + 1 => by
    have IH := f_rec hG hX dp
    intro m j hm h T n d x hs hp hT hN hx hd
    have hm : (m, j) = (0, 85) ∨ (m, j) = (1, 84) ∨ (m, j) = (3, 83) ∨ (m, j) = (5, 81) ∨ (m, j) = (6, 80) ∨ (m, j) = (7, 79) ∨ (m, j) = (9, 78) := by
      unfold cML at hm
      simpa using hm
    rcases hm with e | e | e | e | e | e | e <;> cases e
    · exact f_readValue hG hX IH hs hp hT hN hx hd
    · exact f_readTerm hG hX IH hs hp hT hN hx hd
    · exact f_readSum hG hX IH hs hp hT hN hx hd
    · exact f_readComparison hG hX IH hs hp hT hN hx hd
    · exact f_readFact hG hX IH hs hp hT hN hx hd
    · exact f_readPart hG hX IH hs hp hT hN hx hd
    · exact f_readTest hG hX IH hs hp hT hN hx hd
theorem tC_rec {G : zG} (hG : G.1 = zProg) (hX : G.2.1 = ztx) {m j : Nat} (hm : (m, j) ∈ cML) {h : zH} {T : Nat → Int32} {n d : Nat} {x : Int32} (hs : tSh h) (hp : cP h) (hT : tA h 45 = T) (hN : cn h = n) (hx : x.toInt = d) (hd : d ≤ 10) : tC zTt G j [.ref 44, .int x] h (cR T n m d h) := fun dp => f_rec hG hX dp m j hm h T n d x hs hp hT hN hx hd
/-! clauses, and a whole rule -/
noncomputable abbrev rCt : Type := Nat × Nat × Nat × Nat
noncomputable def rCl3 (T : Nat → Int32) (n k th f0 : Nat) (s2 : rS) (r : Nat ⊕ (rS × rCt)) : Prop :=
  (rW T n (rB T n s2.1) (rWd 16) = true ∧ ((∃ e, pE T n 9 0 (rA (rB T n s2.1 + 2) s2) (.inl e) ∧ r = .inl e) ∨ ∃ s3, pE T n 9 0 (rA (rB T n s2.1 + 2) s2) (.inr s3) ∧ r = .inr (s3, th, f0, s2.2.2.length, s3.2.2.length)))
  ∨ (¬ rW T n (rB T n s2.1) (rWd 16) = true ∧ k = 15 ∧ r = .inl (1 + 8 * rB T n s2.1 + 0))
  ∨ (¬ rW T n (rB T n s2.1) (rWd 16) = true ∧ k ≠ 15 ∧ r = .inr (rA (rB T n s2.1) s2, th, f0, s2.2.2.length, s2.2.2.length))
noncomputable def rCl2 (T : Nat → Int32) (n k th : Nat) (s1 : rS) (r : Nat ⊕ (rS × rCt)) : Prop :=
  (k = 15 ∧ rCl3 T n k th s1.2.2.length s1 r) ∨ (k ≠ 15 ∧ ((∃ e, pE T n 3 0 s1 (.inl e) ∧ r = .inl e) ∨ ∃ s2, pE T n 3 0 s1 (.inr s2) ∧ rCl3 T n k th s1.2.2.length s2 r))
noncomputable def rCl1 (T : Nat → Int32) (n k : Nat) (s0 : rS) (r : Nat ⊕ (rS × rCt)) : Prop :=
  (k = 12 ∧ ((∃ e, rM T n 2 s0.1 = .inl e ∧ r = .inl e) ∨ ∃ q, rM T n 2 s0.1 = .inr q ∧ rCl2 T n k q.2 (rA q.1 s0) r)) ∨ (k ≠ 12 ∧ rCl2 T n k k s0 r)
noncomputable def rCl (T : Nat → Int32) (n c : Nat) (s : rS) (r : Nat ⊕ (rS × rCt)) : Prop :=
  ((∀ k, 12 ≤ k → k ≤ 15 → ¬ rW T n (rB T n s.1) (rWd k) = true) ∧ r = .inl (1 + 8 * rB T n s.1 + 0))
  ∨ (∃ k, 12 ≤ k ∧ k ≤ 15 ∧ rW T n (rB T n s.1) (rWd k) = true ∧ ((c = 12 ∧ r = .inl (1 + 8 * rB T n s.1 + 4)) ∨ (c ≠ 12 ∧ rCl1 T n k (rA (rE T n (rB T n s.1)) s) r)))
noncomputable def rRu (T : Nat → Int32) (n : Nat) : Nat → rS → List rCt → Nat ⊕ (rS × List rCt) → Prop
  | 0, _, _, _ => False
  | f + 1, s, cl, r => (∃ e, rCl T n cl.length s (.inl e) ∧ r = .inl e) ∨ ∃ s1 c, rCl T n cl.length s (.inr (s1, c)) ∧ ((¬ rB T n s1.1 < n ∧ r = .inr (rA (rB T n s1.1) s1, cl ++ [c])) ∨ ((rB T n s1.1 < n ∧ T (rB T n s1.1) = 59) ∧ rRu T n f (rA (rB T n s1.1 + 1) s1) (cl ++ [c]) r) ∨ ((rB T n s1.1 < n ∧ ¬ T (rB T n s1.1) = 59) ∧ r = .inl (1 + 8 * rB T n s1.1 + 0)))
noncomputable def cCl (h : zH) : List rCt := (List.range (tvI (tF h 44 7)).toNatClampNeg).map (fun i => ((tA h 47 (4 * i)).toNatClampNeg, (tA h 47 (4 * i + 1)).toNatClampNeg, (tA h 47 (4 * i + 2)).toNatClampNeg, (tA h 47 (4 * i + 3)).toNatClampNeg))
noncomputable def cFq (h h2 : zH) : Prop := tSh h2 ∧ (∀ p b, ¬ (p = 44 ∧ (b = 2 ∨ b = 3 ∨ b = 5 ∨ b = 7 ∨ b = 8 ∨ b = 9)) → tF h2 p b = tF h p b) ∧ (∀ p, p ≠ 46 → p ≠ 47 → tA h2 p = tA h p) ∧ tN h2 = tN h
noncomputable def cQ (h : zH) : Prop := 0 ≤ (tvI (tF h 44 7)).toInt ∧ (tvI (tF h 44 7)).toInt ≤ 12 ∧ tN h 47 = 48
section RQ
variable {h h1 h2 : zH}
theorem cFq_f (k : cFr h h2) : cFq h h2 := ⟨k.1, fun p b z => k.2.1 p b (fun w => z ⟨w.1, by omega⟩), fun p z _ => k.2.2.1 p z, k.2.2.2⟩
theorem cFq_t (a : cFq h h1) (k : cFq h1 h2) : cFq h h2 := ⟨k.1, fun p q z => (k.2.1 p q z).trans (a.2.1 p q z), fun p z w => (k.2.2.1 p z w).trans (a.2.2.1 p z w), k.2.2.2.trans a.2.2.2⟩
theorem cFr_7 (k : cFr h h2) : tF h2 44 7 = tF h 44 7 := k.2.1 44 7 (by decide)
theorem cCl_f (k : cFr h h2) : cCl h2 = cCl h := by
  unfold cCl
  rw [cFr_7 k, k.2.2.1 47 (by decide)]
theorem cQ_f (k : cFr h h2) (q : cQ h) : cQ h2 := by
  unfold cQ
  rw [cFr_7 k, k.2.2.2]
  exact q
theorem cCl_len : (cCl h).length = (tvI (tF h 44 7)).toNatClampNeg := by unfold cCl; rw [List.length_map, List.length_range]
theorem cFq_T (a : cFq h h1) : tA h1 45 = tA h 45 := a.2.2.1 45 (by decide) (by decide)
theorem cFq_n (a : cFq h h1) : cn h1 = cn h := by
  unfold cn
  rw [a.2.1 44 1 (by decide)]
/-- a clause is kept -/
theorem cKp_of {a b c : Int32} {k1 k2 k3 k4 : Nat} (hs : tSh h) (q : cQ h) (h12 : (tvI (tF h 44 7)).toInt < 12) {i0 i1 i2 i3 : Int32} (e0 : i0.toInt = 4 * (tvI (tF h 44 7)).toInt) (e1 : i1.toInt = 4 * (tvI (tF h 44 7)).toInt + 1) (e2 : i2.toInt = 4 * (tvI (tF h 44 7)).toInt + 2) (e3 : i3.toInt = 4 * (tvI (tF h 44 7)).toInt + 3)
  {g1 g2 g3 g4 : zH} (d1 : g1 = tSA h 47 i0.toNatClampNeg a) (f1 : tIn h 47 k1 i0) (d2 : g2 = tSA g1 47 i1.toNatClampNeg b) (f2 : tIn g1 47 k2 i1) (d3 : g3 = tSA g2 47 i2.toNatClampNeg c) (f3 : tIn g2 47 k3 i2) {x5 : Int32} (h5 : x5 = tvI (tF h 44 5)) (d4 : g4 = tSA g3 47 i3.toNatClampNeg x5) (f4 : tIn g3 47 k4 i3) {x7 : Int32} (h7 : x7 = tvI (tF h 44 7) + 1) (f5 : tFd g4 44 7) :
  cFq h (tSF g4 44 7 (.int x7)) ∧ cCl (tSF g4 44 7 (.int x7)) = cCl h ++ [(a.toNatClampNeg, b.toNatClampNeg, c.toNatClampNeg, (tvI (tF h 44 5)).toNatClampNeg)] ∧ cQ (tSF g4 44 7 (.int x7)) ∧ cs (tSF g4 44 7 (.int x7)) = cs h ∧ (∀ b, b ≠ 7 → tF (tSF g4 44 7 (.int x7)) 44 b = tF h 44 b) ∧ tA (tSF g4 44 7 (.int x7)) 45 = tA h 45 := by
  subst h5 h7
  have F4 : tF g4 = tF h := by rw [d4, tF_tSA, d3, tF_tSA, d2, tF_tSA, d1, tF_tSA]
  have N4 : tN g4 = tN h := by rw [d4, tN_tSA, d3, tN_tSA, d2, tN_tSA, d1, tN_tSA]
  have A4 : ∀ p, p ≠ 47 → tA g4 p = tA h p := fun p hp => by rw [d4, tA_nz hp, d3, tA_nz hp, d2, tA_nz hp, d1, tA_nz hp]
  have hs4 := tSh_F F4 hs
  have e := cSet_of f5 (hw_44_7 (x := tvI (tF h 44 7) + 1) f5 hs4)
  have n0 : i0.toNatClampNeg = 4 * (tvI (tF h 44 7)).toNatClampNeg := by rw [zclE, zclE]; have := q.1; omega
  have n1 : i1.toNatClampNeg = 4 * (tvI (tF h 44 7)).toNatClampNeg + 1 := by rw [zclE, zclE]; have := q.1; omega
  have n2 : i2.toNatClampNeg = 4 * (tvI (tF h 44 7)).toNatClampNeg + 2 := by rw [zclE, zclE]; have := q.1; omega
  have n3 : i3.toNatClampNeg = 4 * (tvI (tF h 44 7)).toNatClampNeg + 3 := by rw [zclE, zclE]; have := q.1; omega
  have A47 : ∀ i, tA g4 47 i = if i = i3.toNatClampNeg then tvI (tF h 44 5) else if i = i2.toNatClampNeg then c else if i = i1.toNatClampNeg then b else if i = i0.toNatClampNeg then a else tA h 47 i := by
    intro i
    rw [d4, tA_tSA f4.cell, d3, tA_tSA f3.cell, d2, tA_tSA f2.cell, d1, tA_tSA f1.cell]
    simp only [true_and]
  generalize tSF g4 44 7 (.int (tvI (tF h 44 7) + 1)) = h3 at e
  have hF : ∀ b, b ≠ 7 → tF h3 44 b = tF h 44 b := fun b hb => (e.2.2.1 44 b (fun z => hb z.2)).trans (by rw [F4])
  have i7 : (tvI (tF h 44 7) + 1).toInt = (tvI (tF h 44 7)).toInt + 1 := zj1 (y := 12) q.1 h12
  have i7n : (tvI (tF h 44 7) + 1).toNatClampNeg = (tvI (tF h 44 7)).toNatClampNeg + 1 := zj1n (y := 12) q.1 h12
  refine ⟨⟨e.1, fun p b z => (e.2.2.1 p b (fun w => z ⟨w.1, by omega⟩)).trans (by rw [F4]), fun p _ z => (congrFun e.2.2.2.1 p).trans (A4 p z), e.2.2.2.2.trans N4⟩, ?_, ⟨?_, ?_, ?_⟩, ?_, hF, (congrFun e.2.2.2.1 45).trans (A4 45 (by decide))⟩
  · unfold cCl
    rw [cI_x e, i7n, List.range_succ, List.map_append, e.2.2.2.1]
    refine congr (congrArg HAppend.hAppend (List.map_congr_left (fun i hi => ?_))) ?_
    · have hi := List.mem_range.mp hi
      rw [A47, A47, A47, A47, n0, n1, n2, n3]
      rw [if_neg (by omega), if_neg (by omega), if_neg (by omega), if_neg (by omega), if_neg (by omega), if_neg (by omega), if_neg (by omega), if_neg (by omega), if_neg (by omega), if_neg (by omega), if_neg (by omega), if_neg (by omega), if_neg (by omega), if_neg (by omega), if_neg (by omega), if_neg (by omega)]
    · show [((tA g4 47 (4 * (tvI (tF h 44 7)).toNatClampNeg)).toNatClampNeg, (tA g4 47 (4 * (tvI (tF h 44 7)).toNatClampNeg + 1)).toNatClampNeg, (tA g4 47 (4 * (tvI (tF h 44 7)).toNatClampNeg + 2)).toNatClampNeg, (tA g4 47 (4 * (tvI (tF h 44 7)).toNatClampNeg + 3)).toNatClampNeg)] = _
      rw [A47, A47, A47, A47, n0, n1, n2, n3]
      rw [if_neg (by omega), if_neg (by omega), if_neg (by omega), if_pos rfl, if_neg (by omega), if_neg (by omega), if_pos rfl, if_neg (by omega), if_pos rfl, if_pos rfl]
  · rw [cI_x e, i7]; have := q.1; omega
  · rw [cI_x e, i7]; omega
  · rw [e.2.2.2.2, N4]; exact q.2.2
  · unfold cs cCo
    rw [hF 2 (by decide), hF 8 (by decide), hF 5 (by decide), e.2.2.2.1, A4 46 (by decide)]
theorem cP_q (p : cP h) (hF : ∀ b, b ≠ 7 → tF h2 44 b = tF h 44 b) (hT : tA h2 45 = tA h 45) (hN : tN h2 = tN h) : cP h2 := by
  unfold cP
  rw [hF 2 (by decide), hF 1 (by decide), hF 8 (by decide), hF 5 (by decide), hF 9 (by decide), hT, hN]
  exact p
theorem zm4 {x : Int32} (h0 : 0 ≤ x.toInt) (h1 : x.toInt ≤ 12) : (x * 4).toInt = 4 * x.toInt := by
  rw [Int32.toInt_mul, show (4 : Int32).toInt = 4 from rfl]
  exact (Int.bmod_eq_of_le (by show (-2147483648 : Int) ≤ x.toInt * 4; omega) (by show x.toInt * 4 < (2147483648 : Int); omega)).trans (by omega)
theorem zm4a {x y : Int32} {Y : Int} (h0 : 0 ≤ x.toInt) (h1 : x.toInt ≤ 12) (hy : y.toInt = Y) (hY : 0 ≤ Y ∧ Y ≤ 10) : (x * 4 + y).toInt = 4 * x.toInt + Y := by
  rw [Int32.toInt_add, zm4 h0 h1, hy]
  exact Int.bmod_eq_of_le (by show (-2147483648 : Int) ≤ 4 * x.toInt + Y; omega) (by show 4 * x.toInt + Y < (2147483648 : Int); omega)
theorem c12 (q : cQ h) : (cCl h).length = 12 ↔ tvI (tF h 44 7) = 12 := by
  rw [cCl_len, zclE]
  have := q.1
  constructor
  · intro z
    refine Int32.toInt_inj.mp ?_
    show _ = (12 : Int)
    omega
  · intro z
    rw [z]; rfl
end RQ
theorem f_keepClause {G : zG} (hG : G.1 = zProg) (hX : G.2.1 = ztx) {h : zH} {T : Nat → Int32} {n : Nat} (hs : tSh h) (hp : cP h) (hT : tA h 45 = T) (hN : cn h = n) {a b c : Int32} (hq : cQ h) (h12 : (tvI (tF h 44 7)).toInt < 12) : tC zTt G 77 [.ref 44, .int a, .int b, .int c] h (fun w h2 => w = none ∧ cFq h h2 ∧ cCl h2 = cCl h ++ [(a.toNatClampNeg, b.toNatClampNeg, c.toNatClampNeg, (tvI (tF h 44 5)).toNatClampNeg)] ∧ cQ h2 ∧ cs h2 = cs h ∧ cP h2) := by
  refine tC_in (by rw [hG]; rfl) (fun dp => ?_)
  have g0 := cFr_r hs
  have hpn : (cs h).1 ≤ n := by rw [← hN]; exact cP_le hp
  refine tw_aload rfl rfl ?_
  refine tw_getS rfl (hi_44_7 hs) ?_
  refine tw_push rfl ?_
  refine tw_imul rfl ?_
  refine tw_istore rfl ?_
  refine tw_iload rfl rfl ?_
  refine tw_push rfl ?_
  refine tw_iadd rfl ?_
  refine tw_aload rfl rfl ?_
  refine tw_getS rfl (hs_44_6 hs) ?_
  refine tw_alen rfl ?_
  refine tw_ic_le rfl (fun q200 => ?_) (fun q200 => ?_)
  · try dsimp only [tvI_i, tvJ_j, tvR_r] at q200
    refine tw_aload rfl rfl ?_
    refine tw_getS rfl (hs_44_6 hs) ?_
    refine tw_iload rfl rfl ?_
    refine tw_iload rfl rfl ?_
    refine tw_iast rfl (fun f201 => ?_)
    refine tw_aload rfl rfl ?_
    refine tw_getS rfl (hs_44_6 (tSh_SA hs)) ?_
    refine tw_iload rfl rfl ?_
    refine tw_push rfl ?_
    refine tw_iadd rfl ?_
    refine tw_iload rfl rfl ?_
    refine tw_iast rfl (fun f202 => ?_)
    refine tw_aload rfl rfl ?_
    refine tw_getS rfl (hs_44_6 (tSh_SA (tSh_SA hs))) ?_
    refine tw_iload rfl rfl ?_
    refine tw_push rfl ?_
    refine tw_iadd rfl ?_
    refine tw_iload rfl rfl ?_
    refine tw_iast rfl (fun f203 => ?_)
    refine tw_aload rfl rfl ?_
    refine tw_getS rfl (hs_44_6 (tSh_SA (tSh_SA (tSh_SA hs)))) ?_
    refine tw_iload rfl rfl ?_
    refine tw_push rfl ?_
    refine tw_iadd rfl ?_
    refine tw_aload rfl rfl ?_
    refine tw_getS rfl (tF_a (tF_a (tF_a (hi_44_5 hs)))) ?_
    refine tw_iast rfl (fun f204 => ?_)
    refine tw_aload rfl rfl ?_
    refine tw_dup rfl ?_
    refine tw_getS rfl (tF_a (tF_a (tF_a (tF_a (hi_44_7 hs))))) ?_
    refine tw_push rfl ?_
    refine tw_iadd rfl ?_
    refine tw_put rfl (fun f205 => ?_)
    refine tw_vret rfl ?_
    refine (fun K => ⟨rfl, K.1, K.2.1, K.2.2.1, K.2.2.2.1, cP_q hp K.2.2.2.2.1 K.2.2.2.2.2 K.1.2.2.2⟩ : _ → _) (cKp_of hs hq h12 (zm4 hq.1 hq.2.1) (zm4a hq.1 hq.2.1 rfl (by decide)) (zm4a hq.1 hq.2.1 rfl (by decide)) (zm4a hq.1 hq.2.1 rfl (by decide)) rfl f201 rfl f202 rfl f203 rfl rfl f204 rfl f205)
  · try dsimp only [tvI_i, tvJ_j, tvR_r] at q200
    have e9 : (Int32.ofNat (tN h 47)).toInt = 48 := by rw [hq.2.2]; rfl
    have e8 := zm4a (y := 4) (Y := 4) hq.1 hq.2.1 rfl (by decide)
    have z := q200
    exfalso
    have e7 : (tvI (tF h 44 7) * 4 + 4).toInt ≤ 48 := by omega
    first | omega | exact absurd z (by omega) | (rw [e9] at z; omega)
theorem f_readClause {G : zG} (hG : G.1 = zProg) (hX : G.2.1 = ztx) {h : zH} {T : Nat → Int32} {n : Nat} (hs : tSh h) (hp : cP h) (hT : tA h 45 = T) (hN : cn h = n) (hq : cQ h) : tC zTt G 76 [.ref 44] h (fun w h2 => cFq h h2 ∧ cQ h2 ∧ ((w = some (.int 1) ∧ ∃ c, rCl T n (cCl h).length (cs h) (.inr (cs h2, c)) ∧ cCl h2 = cCl h ++ [c] ∧ cP h2) ∨ (w = some (.int 0) ∧ ∃ e, rCl T n (cCl h).length (cs h) (.inl e) ∧ cFt h2 e))) := by
  refine tC_in (by rw [hG]; rfl) (fun dp => ?_)
  have g0 := cFr_r hs
  have hpn : (cs h).1 ≤ n := by rw [← hN]; exact cP_le hp
  have c129 : (12 : Int32).toInt = 12 := rfl
  have c159 : (15 : Int32).toInt = 15 := rfl
  refine tw_aload rfl rfl ?_
  refine tw_virt0 rfl (f_wordHere hG hX (g0).1 hp ((cFr_T g0).trans hT) ((cFr_n g0).trans hN)) (fun wp206 hp206 p206 => ?_)
  obtain ⟨gp206, ppp206, ssp206, eep206, ip206, rfl, kwp206⟩ := p206
  have ggp206 := cFr_t g0 gp206
  refine tw_istore rfl ?_
  refine tw_iload rfl rfl ?_
  refine tw_push rfl ?_
  refine tw_ic_lt rfl (fun q207 => ?_) (fun q207 => ?_)
  · try dsimp only [tvI_i, tvJ_j, tvR_r] at q207
    refine tw_aload rfl rfl ?_
    refine tw_aload rfl rfl ?_
    refine tw_getS rfl (hi_44_2 ggp206.1) ?_
    refine tw_push rfl ?_
    refine tw_virt2 rfl (f_refuse hG hX (ggp206).1 ppp206 ((cFr_T ggp206).trans hT) ((cFr_n ggp206).trans hN)) (fun wp208 hp208 p208 => ?_)
    obtain ⟨gp208, rfl, up208⟩ := p208
    have ggp208 := cFr_t ggp206 gp208
    have kwb := kwp206.1
    have hft := cFt_of ppp206 up208 (w := 0) rfl (by decide)
    rw [ssp206] at hft
    have z0 := q207
    exact tw_iret rfl ⟨cFq_f ggp208, cQ_f ggp208 hq, Or.inr ⟨rfl, _, Or.inl ⟨fun k h1 h2 z => by have y := (kwp206.2 k (by omega)).mpr z; omega, rfl⟩, hft⟩⟩
  · try dsimp only [tvI_i, tvJ_j, tvR_r] at q207
    refine tw_iload rfl rfl ?_
    refine tw_push rfl ?_
    refine tw_ic_le rfl (fun q209 => ?_) (fun q209 => ?_)
    · try dsimp only [tvI_i, tvJ_j, tvR_r] at q209
      refine tw_aload rfl rfl ?_
      refine tw_getS rfl (hi_44_7 ggp206.1) ?_
      refine tw_push rfl ?_
      refine tw_ic_ne rfl (fun q210 => ?_) (fun q210 => ?_)
      · try dsimp only [tvI_i, tvJ_j, tvR_r] at q210
        have q210i := zneq (Y := 12) (by decide) q210
        refine tw_aload rfl rfl ?_
        refine tw_aload rfl rfl ?_
        refine tw_getS rfl (hi_44_3 ggp206.1) ?_
        refine tw_put rfl (fun f211 => ?_)
        refine tG_set f211 (hw_44_2 f211 (ggp206).1) (fun hf211 ef211 => ?_)
        try dsimp only [tvI_i] at ef211
        have gf211 := cFr_s ggp206 ef211 (by decide)
        have kwb := kwp206.1
        have hk1 : 12 ≤ ip206.toInt := by have z := q207; omega
        have hk2 : ip206.toInt ≤ 15 := by have z := q209; omega
        have hkw : rW T n (rB T n (cs h).1) (rWd ip206.toInt.toNat) = true := (kwp206.2 ip206.toInt.toNat (by omega)).mp (by omega)
        have hc12 : (cCl h).length ≠ 12 := fun z => q210 ((congrArg tvI (cFr_7 ggp206)).trans ((c12 hq).mp z))
        have hlt12 : (tvI (tF h 44 7)).toInt < 12 := by have a := hq.2.1; have b : (tvI (tF h 44 7)).toInt ≠ 12 := fun z => q210 ((congrArg tvI (cFr_7 ggp206)).trans (Int32.toInt_inj.mp z)); omega
        obtain ⟨pf211, sf211⟩ := cTo ppp206 ((cFr_n ggp206).trans hN) ef211 eep206 (by rw [ssp206]; exact rE_ge) (rE_le (rB_le hpn))
        have sf211 : cs hf211 = rA (rE T n (rB T n (cs h).1)) (cs h) := by rw [sf211, ssp206]; rfl
        refine tw_iload rfl rfl ?_
        refine tw_push rfl ?_
        refine tw_ic_ne rfl (fun q212 => ?_) (fun q212 => ?_)
        · try dsimp only [tvI_i, tvJ_j, tvR_r] at q212
          have q212i := zneq (Y := 15) (by decide) q212
          refine tw_push rfl ?_
          refine tw_istore rfl ?_
          refine tw_iload rfl rfl ?_
          refine tw_push rfl ?_
          refine tw_ic_ne rfl (fun q213 => ?_) (fun q213 => ?_)
          · try dsimp only [tvI_i, tvJ_j, tvR_r] at q213
            have q213i := zneq (Y := 12) (by decide) q213
            refine tw_aload rfl rfl ?_
            refine tw_getS rfl (hi_44_5 (gf211).1) ?_
            refine tw_istore rfl ?_
            refine tw_iload rfl rfl ?_
            refine tw_if_ne rfl (fun z => absurd z (by decide)) (fun _ => ?_)
            refine tw_aload rfl rfl ?_
            refine tw_push rfl ?_
            refine tw_virt1 rfl (tC_rec hG hX (m := 3) (d := 0) (by decide) (gf211).1 pf211 ((cFr_T gf211).trans hT) ((cFr_n gf211).trans hN) rfl (by decide)) (fun w9 hp214 p214 => ?_)
            obtain ⟨gp214, ⟨rfl, p214, ppp214⟩ | ⟨rfl, xp214, p214, up214⟩⟩ := p214
            · have ggp214 := cFr_t gf211 gp214
              refine tw_if_ne rfl (fun _ => ?_) (fun z => absurd z (by decide))
              refine tw_aload rfl rfl ?_
              refine tw_getS rfl (hi_44_5 ggp214.1) ?_
              refine tw_istore rfl ?_
              refine tw_aload rfl rfl ?_
              refine tw_virt0 rfl (f_wordHere hG hX (ggp214).1 ppp214 ((cFr_T ggp214).trans hT) ((cFr_n ggp214).trans hN)) (fun wp215 hp215 p215 => ?_)
              obtain ⟨gp215, ppp215, ssp215, eep215, ip215, rfl, kwp215⟩ := p215
              have ggp215 := cFr_t ggp214 gp215
              refine tw_push rfl ?_
              refine tw_ic_ne rfl (fun q216 => ?_) (fun q216 => ?_)
              · try dsimp only [tvI_i, tvJ_j, tvR_r] at q216
                have q216i := zneq (Y := 16) (by decide) q216
                refine tw_iload rfl rfl ?_
                refine tw_if_eq rfl (fun _ => ?_) (fun z => absurd z (by decide))
                refine tw_aload rfl rfl ?_
                refine tw_iload rfl rfl ?_
                refine tw_iload rfl rfl ?_
                refine tw_iload rfl rfl ?_
                refine tw_virt3 rfl (f_keepClause hG hX (ggp215).1 ppp215 ((cFr_T ggp215).trans hT) ((cFr_n ggp215).trans hN) (cQ_f ggp215 hq) (by have := cFr_7 ggp215; rw [this]; exact hlt12)) (fun wp217 hp217 p217 => ?_)
                obtain ⟨rfl, gqp217, clp217, qqp217, ssp217, ppp217⟩ := p217
                refine tw_push rfl ?_
                have hk15 : ip206.toInt.toNat ≠ 15 := by have z := q212i; omega
                have hk12 : ip206.toInt.toNat ≠ 12 := by have z := q213i; omega
                have hx1 := sf211
                have ho := p214
                rw [hx1] at ho
                have hnw : ¬ rW T n (rB T n (cs hp214).1) (rWd 16) = true := fun z => q216 ((wrd_k (k := 16) kwp215 (by decide) (K := 16) rfl).mpr z)
                have hc3 : rCl3 T n ip206.toInt.toNat (ip206.toInt.toNat) (rA (rE T n (rB T n (cs h).1)) (cs h)).2.2.length (cs hp214) (.inr (cs hp215, ip206.toInt.toNat, (rA (rE T n (rB T n (cs h).1)) (cs h)).2.2.length, (cs hp214).2.2.length, (cs hp215).2.2.length)) := Or.inr (Or.inr ⟨hnw, hk15, by rw [ssp215]; rfl⟩)
                have hthv : (ip206).toNatClampNeg = ip206.toInt.toNat := rfl
                have hclk : cCl hp217 = cCl h ++ [(ip206.toInt.toNat, (rA (rE T n (rB T n (cs h).1)) (cs h)).2.2.length, (cs hp214).2.2.length, (cs hp215).2.2.length)] := by
                  rw [clp217, cCl_f ggp215, ← hx1, show (cs hf211).2.2.length = _ from cCo_len, show (cs hp215).2.2.length = _ from cCo_len, show (cs hp214).2.2.length = _ from cCo_len]
                  exact congrArg (fun z => cCl h ++ [(z, _, _, _)]) hthv
                have hcz : rCl T n (cCl h).length (cs h) (.inr (cs hp217, ip206.toInt.toNat, (rA (rE T n (rB T n (cs h).1)) (cs h)).2.2.length, (cs hp214).2.2.length, (cs hp215).2.2.length)) := by rw [ssp217]; exact Or.inr ⟨ip206.toInt.toNat, by omega, by omega, hkw, Or.inr ⟨hc12, Or.inr ⟨hk12, Or.inr ⟨hk15, Or.inr ⟨_, ho, hc3⟩⟩⟩⟩⟩
                exact tw_iret rfl ⟨cFq_t (cFq_f ggp215) gqp217, qqp217, Or.inl ⟨rfl, _, hcz, hclk, ppp217⟩⟩
              · try dsimp only [tvI_i, tvJ_j, tvR_r] at q216
                have q216i := zeqi (Y := 16) (by decide) q216
                refine tw_aload rfl rfl ?_
                refine tw_aload rfl rfl ?_
                refine tw_getS rfl (hi_44_3 ggp215.1) ?_
                refine tw_put rfl (fun f218 => ?_)
                refine tG_set f218 (hw_44_2 f218 (ggp215).1) (fun hf218 ef218 => ?_)
                try dsimp only [tvI_i] at ef218
                have gf218 := cFr_s ggp215 ef218 (by decide)
                have hw16 := (wrd_k (k := 16) kwp215 (by decide) (K := 16) rfl).mp q216
                have h9w : rE T n (rB T n (cs hp214).1) = rB T n (cs hp214).1 + 2 := by rw [rW_e hw16, wlen_k.2.2.2]
                have hyn : (cs hp214).1 ≤ n := by rw [← ((cFr_n ggp214).trans hN)]; exact cP_le ppp214
                have hr9 := rE_le (T := T) (rB_le (T := T) hyn)
                rw [h9w] at hr9 eep215
                obtain ⟨pf218, sf218⟩ := cTo ppp215 ((cFr_n ggp215).trans hN) ef218 eep215 (by rw [ssp215]; exact Nat.le_add_right _ _) hr9
                have sf218 : cs hf218 = rA (rB T n (cs hp214).1 + 2) (cs hp214) := by rw [sf218, ssp215]; rfl
                refine tw_aload rfl rfl ?_
                refine tw_push rfl ?_
                refine tw_virt1 rfl (tC_rec hG hX (m := 9) (d := 0) (by decide) (gf218).1 pf218 ((cFr_T gf218).trans hT) ((cFr_n gf218).trans hN) rfl (by decide)) (fun w9 hp219 p219 => ?_)
                obtain ⟨gp219, ⟨rfl, p219, ppp219⟩ | ⟨rfl, xp219, p219, up219⟩⟩ := p219
                · have ggp219 := cFr_t gf218 gp219
                  refine tw_if_ne rfl (fun _ => ?_) (fun z => absurd z (by decide))
                  refine tw_aload rfl rfl ?_
                  refine tw_iload rfl rfl ?_
                  refine tw_iload rfl rfl ?_
                  refine tw_iload rfl rfl ?_
                  refine tw_virt3 rfl (f_keepClause hG hX (ggp219).1 ppp219 ((cFr_T ggp219).trans hT) ((cFr_n ggp219).trans hN) (cQ_f ggp219 hq) (by have := cFr_7 ggp219; rw [this]; exact hlt12)) (fun wp220 hp220 p220 => ?_)
                  obtain ⟨rfl, gqp220, clp220, qqp220, ssp220, ppp220⟩ := p220
                  refine tw_push rfl ?_
                  have hk15 : ip206.toInt.toNat ≠ 15 := by have z := q212i; omega
                  have hk12 : ip206.toInt.toNat ≠ 12 := by have z := q213i; omega
                  have hx1 := sf211
                  have ho := p214
                  rw [hx1] at ho
                  have ht := p219
                  rw [sf218] at ht
                  have hc3 : rCl3 T n ip206.toInt.toNat (ip206.toInt.toNat) (rA (rE T n (rB T n (cs h).1)) (cs h)).2.2.length (cs hp214) (.inr (cs hp219, ip206.toInt.toNat, (rA (rE T n (rB T n (cs h).1)) (cs h)).2.2.length, (cs hp214).2.2.length, (cs hp219).2.2.length)) := Or.inl ⟨hw16, Or.inr ⟨_, ht, rfl⟩⟩
                  have hthv : (ip206).toNatClampNeg = ip206.toInt.toNat := rfl
                  have hclk : cCl hp220 = cCl h ++ [(ip206.toInt.toNat, (rA (rE T n (rB T n (cs h).1)) (cs h)).2.2.length, (cs hp214).2.2.length, (cs hp219).2.2.length)] := by
                    rw [clp220, cCl_f ggp219, ← hx1, show (cs hf211).2.2.length = _ from cCo_len, show (cs hp219).2.2.length = _ from cCo_len, show (cs hp214).2.2.length = _ from cCo_len]
                    exact congrArg (fun z => cCl h ++ [(z, _, _, _)]) hthv
                  have hcz : rCl T n (cCl h).length (cs h) (.inr (cs hp220, ip206.toInt.toNat, (rA (rE T n (rB T n (cs h).1)) (cs h)).2.2.length, (cs hp214).2.2.length, (cs hp219).2.2.length)) := by rw [ssp220]; exact Or.inr ⟨ip206.toInt.toNat, by omega, by omega, hkw, Or.inr ⟨hc12, Or.inr ⟨hk12, Or.inr ⟨hk15, Or.inr ⟨_, ho, hc3⟩⟩⟩⟩⟩
                  exact tw_iret rfl ⟨cFq_t (cFq_f ggp219) gqp220, qqp220, Or.inl ⟨rfl, _, hcz, hclk, ppp220⟩⟩
                · have ggp219 := cFr_t gf218 gp219
                  refine tw_if_ne rfl (fun z => absurd z (by decide)) (fun _ => ?_)
                  refine tw_push rfl ?_
                  have hk15 : ip206.toInt.toNat ≠ 15 := by have z := q212i; omega
                  have hk12 : ip206.toInt.toNat ≠ 12 := by have z := q213i; omega
                  have hx1 := sf211
                  have ho := p214
                  rw [hx1] at ho
                  have ht := p219
                  rw [sf218] at ht
                  have hc3 : rCl3 T n ip206.toInt.toNat (ip206.toInt.toNat) (rA (rE T n (rB T n (cs h).1)) (cs h)).2.2.length (cs hp214) (.inl _) := Or.inl ⟨hw16, Or.inl ⟨_, ht, rfl⟩⟩
                  exact tw_iret rfl ⟨cFq_f ggp219, cQ_f ggp219 hq, Or.inr ⟨rfl, _, Or.inr ⟨ip206.toInt.toNat, by omega, by omega, hkw, Or.inr ⟨hc12, Or.inr ⟨hk12, Or.inr ⟨hk15, Or.inr ⟨_, ho, hc3⟩⟩⟩⟩⟩, up219⟩⟩
            · have ggp214 := cFr_t gf211 gp214
              refine tw_if_ne rfl (fun z => absurd z (by decide)) (fun _ => ?_)
              refine tw_push rfl ?_
              have hk15 : ip206.toInt.toNat ≠ 15 := by have z := q212i; omega
              have hk12 : ip206.toInt.toNat ≠ 12 := by have z := q213i; omega
              have hx1 := sf211
              have ho := p214
              rw [hx1] at ho
              exact tw_iret rfl ⟨cFq_f ggp214, cQ_f ggp214 hq, Or.inr ⟨rfl, _, Or.inr ⟨ip206.toInt.toNat, by omega, by omega, hkw, Or.inr ⟨hc12, Or.inr ⟨hk12, Or.inr ⟨hk15, Or.inl ⟨_, ho, rfl⟩⟩⟩⟩⟩, up214⟩⟩
          · try dsimp only [tvI_i, tvJ_j, tvR_r] at q213
            have q213i := zeqi (Y := 12) (by decide) q213
            refine tw_aload rfl rfl ?_
            refine tw_push rfl ?_
            refine tw_virt1 rfl (f_numberHere hG hX (gf211).1 pf211 ((cFr_T gf211).trans hT) ((cFr_n gf211).trans hN) (m := 2) (M := 2) rfl (by decide)) (fun w9 hp221 p221 => ?_)
            obtain ⟨gp221, ⟨vp221, p221, rfl, ssp221, ppp221⟩ | ⟨xp221, p221, rfl, up221⟩⟩ := p221
            · have ggp221 := cFr_t gf211 gp221
              refine tw_istore rfl ?_
              refine tw_iload rfl rfl ?_
              refine tw_push rfl ?_
              refine tw_ic_ne rfl (fun q222 => ?_) (fun q222 => ?_)
              · try dsimp only [tvI_i, tvJ_j, tvR_r] at q222
                have q222i := zneq (Y := (-1)) (by decide) q222
                refine tw_aload rfl rfl ?_
                refine tw_getS rfl (hi_44_5 ggp221.1) ?_
                refine tw_istore rfl ?_
                refine tw_iload rfl rfl ?_
                refine tw_if_ne rfl (fun z => absurd z (by decide)) (fun _ => ?_)
                refine tw_aload rfl rfl ?_
                refine tw_push rfl ?_
                refine tw_virt1 rfl (tC_rec hG hX (m := 3) (d := 0) (by decide) (ggp221).1 ppp221 ((cFr_T ggp221).trans hT) ((cFr_n ggp221).trans hN) rfl (by decide)) (fun w9 hp223 p223 => ?_)
                obtain ⟨gp223, ⟨rfl, p223, ppp223⟩ | ⟨rfl, xp223, p223, up223⟩⟩ := p223
                · have ggp223 := cFr_t ggp221 gp223
                  refine tw_if_ne rfl (fun _ => ?_) (fun z => absurd z (by decide))
                  refine tw_aload rfl rfl ?_
                  refine tw_getS rfl (hi_44_5 ggp223.1) ?_
                  refine tw_istore rfl ?_
                  refine tw_aload rfl rfl ?_
                  refine tw_virt0 rfl (f_wordHere hG hX (ggp223).1 ppp223 ((cFr_T ggp223).trans hT) ((cFr_n ggp223).trans hN)) (fun wp224 hp224 p224 => ?_)
                  obtain ⟨gp224, ppp224, ssp224, eep224, ip224, rfl, kwp224⟩ := p224
                  have ggp224 := cFr_t ggp223 gp224
                  refine tw_push rfl ?_
                  refine tw_ic_ne rfl (fun q225 => ?_) (fun q225 => ?_)
                  · try dsimp only [tvI_i, tvJ_j, tvR_r] at q225
                    have q225i := zneq (Y := 16) (by decide) q225
                    refine tw_iload rfl rfl ?_
                    refine tw_if_eq rfl (fun _ => ?_) (fun z => absurd z (by decide))
                    refine tw_aload rfl rfl ?_
                    refine tw_iload rfl rfl ?_
                    refine tw_iload rfl rfl ?_
                    refine tw_iload rfl rfl ?_
                    refine tw_virt3 rfl (f_keepClause hG hX (ggp224).1 ppp224 ((cFr_T ggp224).trans hT) ((cFr_n ggp224).trans hN) (cQ_f ggp224 hq) (by have := cFr_7 ggp224; rw [this]; exact hlt12)) (fun wp226 hp226 p226 => ?_)
                    obtain ⟨rfl, gqp226, clp226, qqp226, ssp226, ppp226⟩ := p226
                    refine tw_push rfl ?_
                    have hk15 : ip206.toInt.toNat ≠ 15 := by have z := q212i; omega
                    have hk12 : ip206.toInt.toNat = 12 := by have z := q213i; omega
                    have hrm := p221
                    rw [sf211] at hrm
                    have hx1 : cs hp221 = rA vp221.1 (rA (rE T n (rB T n (cs h).1)) (cs h)) := by rw [ssp221, sf211]
                    have ho := p223
                    rw [hx1] at ho
                    have hnw : ¬ rW T n (rB T n (cs hp223).1) (rWd 16) = true := fun z => q225 ((wrd_k (k := 16) kwp224 (by decide) (K := 16) rfl).mpr z)
                    have hc3 : rCl3 T n ip206.toInt.toNat (vp221.2) (rA vp221.1 (rA (rE T n (rB T n (cs h).1)) (cs h))).2.2.length (cs hp223) (.inr (cs hp224, vp221.2, (rA vp221.1 (rA (rE T n (rB T n (cs h).1)) (cs h))).2.2.length, (cs hp223).2.2.length, (cs hp224).2.2.length)) := Or.inr (Or.inr ⟨hnw, hk15, by rw [ssp224]; rfl⟩)
                    have hthv : (Int32.ofNat vp221.2).toNatClampNeg = vp221.2 := zoN (by have := (rM_r (rE_le (rB_le hpn)) hrm).2.2; omega)
                    have hclk : cCl hp226 = cCl h ++ [(vp221.2, (rA vp221.1 (rA (rE T n (rB T n (cs h).1)) (cs h))).2.2.length, (cs hp223).2.2.length, (cs hp224).2.2.length)] := by
                      rw [clp226, cCl_f ggp224, ← hx1, show (cs hp221).2.2.length = _ from cCo_len, show (cs hp224).2.2.length = _ from cCo_len, show (cs hp223).2.2.length = _ from cCo_len]
                      exact congrArg (fun z => cCl h ++ [(z, _, _, _)]) hthv
                    have hcz : rCl T n (cCl h).length (cs h) (.inr (cs hp226, vp221.2, (rA vp221.1 (rA (rE T n (rB T n (cs h).1)) (cs h))).2.2.length, (cs hp223).2.2.length, (cs hp224).2.2.length)) := by rw [ssp226]; exact Or.inr ⟨ip206.toInt.toNat, by omega, by omega, hkw, Or.inr ⟨hc12, Or.inl ⟨hk12, Or.inr ⟨vp221, hrm, Or.inr ⟨hk15, Or.inr ⟨_, ho, hc3⟩⟩⟩⟩⟩⟩
                    exact tw_iret rfl ⟨cFq_t (cFq_f ggp224) gqp226, qqp226, Or.inl ⟨rfl, _, hcz, hclk, ppp226⟩⟩
                  · try dsimp only [tvI_i, tvJ_j, tvR_r] at q225
                    have q225i := zeqi (Y := 16) (by decide) q225
                    refine tw_aload rfl rfl ?_
                    refine tw_aload rfl rfl ?_
                    refine tw_getS rfl (hi_44_3 ggp224.1) ?_
                    refine tw_put rfl (fun f227 => ?_)
                    refine tG_set f227 (hw_44_2 f227 (ggp224).1) (fun hf227 ef227 => ?_)
                    try dsimp only [tvI_i] at ef227
                    have gf227 := cFr_s ggp224 ef227 (by decide)
                    have hw16 := (wrd_k (k := 16) kwp224 (by decide) (K := 16) rfl).mp q225
                    have h9w : rE T n (rB T n (cs hp223).1) = rB T n (cs hp223).1 + 2 := by rw [rW_e hw16, wlen_k.2.2.2]
                    have hyn : (cs hp223).1 ≤ n := by rw [← ((cFr_n ggp223).trans hN)]; exact cP_le ppp223
                    have hr9 := rE_le (T := T) (rB_le (T := T) hyn)
                    rw [h9w] at hr9 eep224
                    obtain ⟨pf227, sf227⟩ := cTo ppp224 ((cFr_n ggp224).trans hN) ef227 eep224 (by rw [ssp224]; exact Nat.le_add_right _ _) hr9
                    have sf227 : cs hf227 = rA (rB T n (cs hp223).1 + 2) (cs hp223) := by rw [sf227, ssp224]; rfl
                    refine tw_aload rfl rfl ?_
                    refine tw_push rfl ?_
                    refine tw_virt1 rfl (tC_rec hG hX (m := 9) (d := 0) (by decide) (gf227).1 pf227 ((cFr_T gf227).trans hT) ((cFr_n gf227).trans hN) rfl (by decide)) (fun w9 hp228 p228 => ?_)
                    obtain ⟨gp228, ⟨rfl, p228, ppp228⟩ | ⟨rfl, xp228, p228, up228⟩⟩ := p228
                    · have ggp228 := cFr_t gf227 gp228
                      refine tw_if_ne rfl (fun _ => ?_) (fun z => absurd z (by decide))
                      refine tw_aload rfl rfl ?_
                      refine tw_iload rfl rfl ?_
                      refine tw_iload rfl rfl ?_
                      refine tw_iload rfl rfl ?_
                      refine tw_virt3 rfl (f_keepClause hG hX (ggp228).1 ppp228 ((cFr_T ggp228).trans hT) ((cFr_n ggp228).trans hN) (cQ_f ggp228 hq) (by have := cFr_7 ggp228; rw [this]; exact hlt12)) (fun wp229 hp229 p229 => ?_)
                      obtain ⟨rfl, gqp229, clp229, qqp229, ssp229, ppp229⟩ := p229
                      refine tw_push rfl ?_
                      have hk15 : ip206.toInt.toNat ≠ 15 := by have z := q212i; omega
                      have hk12 : ip206.toInt.toNat = 12 := by have z := q213i; omega
                      have hrm := p221
                      rw [sf211] at hrm
                      have hx1 : cs hp221 = rA vp221.1 (rA (rE T n (rB T n (cs h).1)) (cs h)) := by rw [ssp221, sf211]
                      have ho := p223
                      rw [hx1] at ho
                      have ht := p228
                      rw [sf227] at ht
                      have hc3 : rCl3 T n ip206.toInt.toNat (vp221.2) (rA vp221.1 (rA (rE T n (rB T n (cs h).1)) (cs h))).2.2.length (cs hp223) (.inr (cs hp228, vp221.2, (rA vp221.1 (rA (rE T n (rB T n (cs h).1)) (cs h))).2.2.length, (cs hp223).2.2.length, (cs hp228).2.2.length)) := Or.inl ⟨hw16, Or.inr ⟨_, ht, rfl⟩⟩
                      have hthv : (Int32.ofNat vp221.2).toNatClampNeg = vp221.2 := zoN (by have := (rM_r (rE_le (rB_le hpn)) hrm).2.2; omega)
                      have hclk : cCl hp229 = cCl h ++ [(vp221.2, (rA vp221.1 (rA (rE T n (rB T n (cs h).1)) (cs h))).2.2.length, (cs hp223).2.2.length, (cs hp228).2.2.length)] := by
                        rw [clp229, cCl_f ggp228, ← hx1, show (cs hp221).2.2.length = _ from cCo_len, show (cs hp228).2.2.length = _ from cCo_len, show (cs hp223).2.2.length = _ from cCo_len]
                        exact congrArg (fun z => cCl h ++ [(z, _, _, _)]) hthv
                      have hcz : rCl T n (cCl h).length (cs h) (.inr (cs hp229, vp221.2, (rA vp221.1 (rA (rE T n (rB T n (cs h).1)) (cs h))).2.2.length, (cs hp223).2.2.length, (cs hp228).2.2.length)) := by rw [ssp229]; exact Or.inr ⟨ip206.toInt.toNat, by omega, by omega, hkw, Or.inr ⟨hc12, Or.inl ⟨hk12, Or.inr ⟨vp221, hrm, Or.inr ⟨hk15, Or.inr ⟨_, ho, hc3⟩⟩⟩⟩⟩⟩
                      exact tw_iret rfl ⟨cFq_t (cFq_f ggp228) gqp229, qqp229, Or.inl ⟨rfl, _, hcz, hclk, ppp229⟩⟩
                    · have ggp228 := cFr_t gf227 gp228
                      refine tw_if_ne rfl (fun z => absurd z (by decide)) (fun _ => ?_)
                      refine tw_push rfl ?_
                      have hk15 : ip206.toInt.toNat ≠ 15 := by have z := q212i; omega
                      have hk12 : ip206.toInt.toNat = 12 := by have z := q213i; omega
                      have hrm := p221
                      rw [sf211] at hrm
                      have hx1 : cs hp221 = rA vp221.1 (rA (rE T n (rB T n (cs h).1)) (cs h)) := by rw [ssp221, sf211]
                      have ho := p223
                      rw [hx1] at ho
                      have ht := p228
                      rw [sf227] at ht
                      have hc3 : rCl3 T n ip206.toInt.toNat (vp221.2) (rA vp221.1 (rA (rE T n (rB T n (cs h).1)) (cs h))).2.2.length (cs hp223) (.inl _) := Or.inl ⟨hw16, Or.inl ⟨_, ht, rfl⟩⟩
                      exact tw_iret rfl ⟨cFq_f ggp228, cQ_f ggp228 hq, Or.inr ⟨rfl, _, Or.inr ⟨ip206.toInt.toNat, by omega, by omega, hkw, Or.inr ⟨hc12, Or.inl ⟨hk12, Or.inr ⟨vp221, hrm, Or.inr ⟨hk15, Or.inr ⟨_, ho, hc3⟩⟩⟩⟩⟩⟩, up228⟩⟩
                · have ggp223 := cFr_t ggp221 gp223
                  refine tw_if_ne rfl (fun z => absurd z (by decide)) (fun _ => ?_)
                  refine tw_push rfl ?_
                  have hk15 : ip206.toInt.toNat ≠ 15 := by have z := q212i; omega
                  have hk12 : ip206.toInt.toNat = 12 := by have z := q213i; omega
                  have hrm := p221
                  rw [sf211] at hrm
                  have hx1 : cs hp221 = rA vp221.1 (rA (rE T n (rB T n (cs h).1)) (cs h)) := by rw [ssp221, sf211]
                  have ho := p223
                  rw [hx1] at ho
                  exact tw_iret rfl ⟨cFq_f ggp223, cQ_f ggp223 hq, Or.inr ⟨rfl, _, Or.inr ⟨ip206.toInt.toNat, by omega, by omega, hkw, Or.inr ⟨hc12, Or.inl ⟨hk12, Or.inr ⟨vp221, hrm, Or.inr ⟨hk15, Or.inl ⟨_, ho, rfl⟩⟩⟩⟩⟩⟩, up223⟩⟩
              · try dsimp only [tvI_i, tvJ_j, tvR_r] at q222
                have q222i := zeqi (Y := (-1)) (by decide) q222
                exact absurd q222 (zoN9 (by have := (rM_r (rE_le (rB_le hpn)) (by have y := p221; rw [sf211] at y; exact y)).2.2; omega))
            · have ggp221 := cFr_t gf211 gp221
              refine tw_istore rfl ?_
              refine tw_iload rfl rfl ?_
              refine tw_push rfl ?_
              refine tw_ic_ne rfl (fun z => absurd z (by decide)) (fun _ => ?_)
              refine tw_push rfl ?_
              have hk15 : ip206.toInt.toNat ≠ 15 := by have z := q212i; omega
              have hk12 : ip206.toInt.toNat = 12 := by have z := q213i; omega
              have hrm := p221
              rw [sf211] at hrm
              exact tw_iret rfl ⟨cFq_f ggp221, cQ_f ggp221 hq, Or.inr ⟨rfl, _, Or.inr ⟨ip206.toInt.toNat, by omega, by omega, hkw, Or.inr ⟨hc12, Or.inl ⟨hk12, Or.inl ⟨_, hrm, rfl⟩⟩⟩⟩, up221⟩⟩
        · try dsimp only [tvI_i, tvJ_j, tvR_r] at q212
          have q212i := zeqi (Y := 15) (by decide) q212
          refine tw_push rfl ?_
          refine tw_goto rfl ?_
          refine tw_istore rfl ?_
          refine tw_iload rfl rfl ?_
          refine tw_push rfl ?_
          refine tw_ic_ne rfl (fun q230 => ?_) (fun q230 => ?_)
          · try dsimp only [tvI_i, tvJ_j, tvR_r] at q230
            have q230i := zneq (Y := 12) (by decide) q230
            refine tw_aload rfl rfl ?_
            refine tw_getS rfl (hi_44_5 (gf211).1) ?_
            refine tw_istore rfl ?_
            refine tw_iload rfl rfl ?_
            refine tw_if_ne rfl (fun _ => ?_) (fun z => absurd z (by decide))
            refine tw_aload rfl rfl ?_
            refine tw_getS rfl (hi_44_5 (gf211).1) ?_
            refine tw_istore rfl ?_
            refine tw_aload rfl rfl ?_
            refine tw_virt0 rfl (f_wordHere hG hX (gf211).1 pf211 ((cFr_T gf211).trans hT) ((cFr_n gf211).trans hN)) (fun wp231 hp231 p231 => ?_)
            obtain ⟨gp231, ppp231, ssp231, eep231, ip231, rfl, kwp231⟩ := p231
            have ggp231 := cFr_t gf211 gp231
            refine tw_push rfl ?_
            refine tw_ic_ne rfl (fun q232 => ?_) (fun q232 => ?_)
            · try dsimp only [tvI_i, tvJ_j, tvR_r] at q232
              have q232i := zneq (Y := 16) (by decide) q232
              refine tw_iload rfl rfl ?_
              refine tw_if_eq rfl (fun z => absurd z (by decide)) (fun _ => ?_)
              refine tw_aload rfl rfl ?_
              refine tw_aload rfl rfl ?_
              refine tw_getS rfl (hi_44_2 ggp231.1) ?_
              refine tw_push rfl ?_
              refine tw_virt2 rfl (f_refuse hG hX (ggp231).1 ppp231 ((cFr_T ggp231).trans hT) ((cFr_n ggp231).trans hN)) (fun wp233 hp233 p233 => ?_)
              obtain ⟨gp233, rfl, up233⟩ := p233
              have ggp233 := cFr_t ggp231 gp233
              have hk15 : ip206.toInt.toNat = 15 := by have z := q212i; omega
              have hk12 : ip206.toInt.toNat ≠ 12 := by omega
              have hx1 := sf211
              have hy1 := hx1
              have hnw : ¬ rW T n (rB T n (cs hf211).1) (rWd 16) = true := fun z => q232 ((wrd_k (k := 16) kwp231 (by decide) (K := 16) rfl).mpr z)
              have hft := cFt_of ppp231 up233 (w := 0) rfl (by decide)
              rw [ssp231, hx1] at hft
              rw [hx1] at hnw
              have hc3 : rCl3 T n ip206.toInt.toNat (ip206.toInt.toNat) (rA (rE T n (rB T n (cs h).1)) (cs h)).2.2.length (rA (rE T n (rB T n (cs h).1)) (cs h)) (.inl (1 + 8 * rB T n (rA (rE T n (rB T n (cs h).1)) (cs h)).1 + 0)) := Or.inr (Or.inl ⟨hnw, hk15, rfl⟩)
              have hft2 : cFt hp233 (1 + 8 * rB T n (rA (rE T n (rB T n (cs h).1)) (cs h)).1 + 0) := hft
              exact tw_iret rfl ⟨cFq_f ggp233, cQ_f ggp233 hq, Or.inr ⟨rfl, _, Or.inr ⟨ip206.toInt.toNat, by omega, by omega, hkw, Or.inr ⟨hc12, Or.inr ⟨hk12, Or.inl ⟨hk15, hc3⟩⟩⟩⟩, hft2⟩⟩
            · try dsimp only [tvI_i, tvJ_j, tvR_r] at q232
              have q232i := zeqi (Y := 16) (by decide) q232
              refine tw_aload rfl rfl ?_
              refine tw_aload rfl rfl ?_
              refine tw_getS rfl (hi_44_3 ggp231.1) ?_
              refine tw_put rfl (fun f234 => ?_)
              refine tG_set f234 (hw_44_2 f234 (ggp231).1) (fun hf234 ef234 => ?_)
              try dsimp only [tvI_i] at ef234
              have gf234 := cFr_s ggp231 ef234 (by decide)
              have hw16 := (wrd_k (k := 16) kwp231 (by decide) (K := 16) rfl).mp q232
              have h9w : rE T n (rB T n (cs hf211).1) = rB T n (cs hf211).1 + 2 := by rw [rW_e hw16, wlen_k.2.2.2]
              have hyn : (cs hf211).1 ≤ n := by rw [← ((cFr_n gf211).trans hN)]; exact cP_le pf211
              have hr9 := rE_le (T := T) (rB_le (T := T) hyn)
              rw [h9w] at hr9 eep231
              obtain ⟨pf234, sf234⟩ := cTo ppp231 ((cFr_n ggp231).trans hN) ef234 eep231 (by rw [ssp231]; exact Nat.le_add_right _ _) hr9
              have sf234 : cs hf234 = rA (rB T n (cs hf211).1 + 2) (cs hf211) := by rw [sf234, ssp231]; rfl
              refine tw_aload rfl rfl ?_
              refine tw_push rfl ?_
              refine tw_virt1 rfl (tC_rec hG hX (m := 9) (d := 0) (by decide) (gf234).1 pf234 ((cFr_T gf234).trans hT) ((cFr_n gf234).trans hN) rfl (by decide)) (fun w9 hp235 p235 => ?_)
              obtain ⟨gp235, ⟨rfl, p235, ppp235⟩ | ⟨rfl, xp235, p235, up235⟩⟩ := p235
              · have ggp235 := cFr_t gf234 gp235
                refine tw_if_ne rfl (fun _ => ?_) (fun z => absurd z (by decide))
                refine tw_aload rfl rfl ?_
                refine tw_iload rfl rfl ?_
                refine tw_iload rfl rfl ?_
                refine tw_iload rfl rfl ?_
                refine tw_virt3 rfl (f_keepClause hG hX (ggp235).1 ppp235 ((cFr_T ggp235).trans hT) ((cFr_n ggp235).trans hN) (cQ_f ggp235 hq) (by have := cFr_7 ggp235; rw [this]; exact hlt12)) (fun wp236 hp236 p236 => ?_)
                obtain ⟨rfl, gqp236, clp236, qqp236, ssp236, ppp236⟩ := p236
                refine tw_push rfl ?_
                have hk15 : ip206.toInt.toNat = 15 := by have z := q212i; omega
                have hk12 : ip206.toInt.toNat ≠ 12 := by omega
                have hx1 := sf211
                have hy1 := hx1
                rw [hx1] at hw16
                have ht := p235
                rw [sf234, hx1] at ht
                have hc3 : rCl3 T n ip206.toInt.toNat (ip206.toInt.toNat) (rA (rE T n (rB T n (cs h).1)) (cs h)).2.2.length (rA (rE T n (rB T n (cs h).1)) (cs h)) (.inr (cs hp235, ip206.toInt.toNat, (rA (rE T n (rB T n (cs h).1)) (cs h)).2.2.length, (rA (rE T n (rB T n (cs h).1)) (cs h)).2.2.length, (cs hp235).2.2.length)) := Or.inl ⟨hw16, Or.inr ⟨_, ht, rfl⟩⟩
                have hthv : (ip206).toNatClampNeg = ip206.toInt.toNat := rfl
                have hclk : cCl hp236 = cCl h ++ [(ip206.toInt.toNat, (rA (rE T n (rB T n (cs h).1)) (cs h)).2.2.length, (rA (rE T n (rB T n (cs h).1)) (cs h)).2.2.length, (cs hp235).2.2.length)] := by
                  rw [clp236, cCl_f ggp235, ← hx1, show (cs hf211).2.2.length = _ from cCo_len, show (cs hp235).2.2.length = _ from cCo_len]
                  exact congrArg (fun z => cCl h ++ [(z, _, _, _)]) hthv
                have hcz : rCl T n (cCl h).length (cs h) (.inr (cs hp236, ip206.toInt.toNat, (rA (rE T n (rB T n (cs h).1)) (cs h)).2.2.length, (rA (rE T n (rB T n (cs h).1)) (cs h)).2.2.length, (cs hp235).2.2.length)) := by rw [ssp236]; exact Or.inr ⟨ip206.toInt.toNat, by omega, by omega, hkw, Or.inr ⟨hc12, Or.inr ⟨hk12, Or.inl ⟨hk15, hc3⟩⟩⟩⟩
                exact tw_iret rfl ⟨cFq_t (cFq_f ggp235) gqp236, qqp236, Or.inl ⟨rfl, _, hcz, hclk, ppp236⟩⟩
              · have ggp235 := cFr_t gf234 gp235
                refine tw_if_ne rfl (fun z => absurd z (by decide)) (fun _ => ?_)
                refine tw_push rfl ?_
                have hk15 : ip206.toInt.toNat = 15 := by have z := q212i; omega
                have hk12 : ip206.toInt.toNat ≠ 12 := by omega
                have hx1 := sf211
                have hy1 := hx1
                rw [hx1] at hw16
                have ht := p235
                rw [sf234, hx1] at ht
                have hc3 : rCl3 T n ip206.toInt.toNat (ip206.toInt.toNat) (rA (rE T n (rB T n (cs h).1)) (cs h)).2.2.length (rA (rE T n (rB T n (cs h).1)) (cs h)) (.inl _) := Or.inl ⟨hw16, Or.inl ⟨_, ht, rfl⟩⟩
                exact tw_iret rfl ⟨cFq_f ggp235, cQ_f ggp235 hq, Or.inr ⟨rfl, _, Or.inr ⟨ip206.toInt.toNat, by omega, by omega, hkw, Or.inr ⟨hc12, Or.inr ⟨hk12, Or.inl ⟨hk15, hc3⟩⟩⟩⟩, up235⟩⟩
          · try dsimp only [tvI_i, tvJ_j, tvR_r] at q230
            have q230i := zeqi (Y := 12) (by decide) q230
            exact absurd (q212.symm.trans q230) (by decide)
      · try dsimp only [tvI_i, tvJ_j, tvR_r] at q210
        have q210i := zeqi (Y := 12) (by decide) q210
        refine tw_aload rfl rfl ?_
        refine tw_aload rfl rfl ?_
        refine tw_getS rfl (hi_44_2 ggp206.1) ?_
        refine tw_push rfl ?_
        refine tw_virt2 rfl (f_refuse hG hX (ggp206).1 ppp206 ((cFr_T ggp206).trans hT) ((cFr_n ggp206).trans hN)) (fun wp237 hp237 p237 => ?_)
        obtain ⟨gp237, rfl, up237⟩ := p237
        have ggp237 := cFr_t ggp206 gp237
        have kwb := kwp206.1
        have hk1 : 12 ≤ ip206.toInt := by have z := q207; omega
        have hk2 : ip206.toInt ≤ 15 := by have z := q209; omega
        have hkw : rW T n (rB T n (cs h).1) (rWd ip206.toInt.toNat) = true := (kwp206.2 ip206.toInt.toNat (by omega)).mp (by omega)
        have hft := cFt_of ppp206 up237 (w := 4) rfl (by decide)
        rw [ssp206] at hft
        have h12 : (cCl h).length = 12 := (c12 hq).mpr ((congrArg tvI (cFr_7 ggp206)).symm.trans q210)
        exact tw_iret rfl ⟨cFq_f ggp237, cQ_f ggp237 hq, Or.inr ⟨rfl, _, Or.inr ⟨ip206.toInt.toNat, by omega, by omega, hkw, Or.inl ⟨h12, rfl⟩⟩, hft⟩⟩
    · try dsimp only [tvI_i, tvJ_j, tvR_r] at q209
      refine tw_aload rfl rfl ?_
      refine tw_aload rfl rfl ?_
      refine tw_getS rfl (hi_44_2 ggp206.1) ?_
      refine tw_push rfl ?_
      refine tw_virt2 rfl (f_refuse hG hX (ggp206).1 ppp206 ((cFr_T ggp206).trans hT) ((cFr_n ggp206).trans hN)) (fun wp238 hp238 p238 => ?_)
      obtain ⟨gp238, rfl, up238⟩ := p238
      have ggp238 := cFr_t ggp206 gp238
      have kwb := kwp206.1
      have hft := cFt_of ppp206 up238 (w := 0) rfl (by decide)
      rw [ssp206] at hft
      have z0 := q207
      have z1 := q209
      exact tw_iret rfl ⟨cFq_f ggp238, cQ_f ggp238 hq, Or.inr ⟨rfl, _, Or.inl ⟨fun k h1 h2 z => by have y := (kwp206.2 k (by omega)).mpr z; omega, rfl⟩, hft⟩⟩
