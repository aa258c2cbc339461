/-! what is answered: small helpers -/
noncomputable def tBo (P : Prop) (w : Option Value) : Prop := (P ∧ w = some (.int 1)) ∨ (¬ P ∧ w = some (.int 0))
theorem tBo_i {P R : Prop} {w : Option Value} (e : P ↔ R) (k : tBo P w) : tBo R w := k.imp (fun z => ⟨e.mp z.1, z.2⟩) (fun z => ⟨fun y => z.1 (e.mpr y), z.2⟩)
theorem zpB_c {b : Int × Int} {r : List (Int × Int)} {xs : List Int32} (h : zpB (b :: r) xs) : ∃ x ys, xs = x :: ys ∧ (b.1 ≤ x.toInt ∧ x.toInt ≤ b.2) ∧ zpB r ys := by
  obtain ⟨lo, hi⟩ := b
  cases xs with
  | nil => exact h.elim
  | cons x ys => exact ⟨x, ys, rfl, h.1, h.2⟩
theorem zpB_n {xs : List Int32} (h : zpB [] xs) : xs = [] := by
  cases xs with
  | nil => rfl
  | cons x ys => exact h.elim
theorem zclx {x : Int32} (h : 0 ≤ x.toInt) : (x.toNatClampNeg : Int) = x.toInt := by
  show ((x.toInt.toNat : Nat) : Int) = _
  omega
theorem zclE {x : Int32} : x.toNatClampNeg = x.toInt.toNat := rfl
theorem zeqi {x y : Int32} {Y : Int} (hy : y.toInt = Y) (h : x = y) : x.toInt = Y := by rw [h]; exact hy
theorem zneq {x y : Int32} {Y : Int} (hy : y.toInt = Y) (h : ¬ x = y) : x.toInt ≠ Y := fun z => h (Int32.toInt_inj.mp (z.trans hy.symm))
theorem zsub1 {x : Int32} (h : 0 ≤ x.toInt) : (x - 1).toInt = x.toInt - 1 := by
  have := Int32.toInt_lt x
  rw [Int32.toInt_sub]
  exact Int.bmod_eq_of_le (by show (-2147483648 : Int) ≤ x.toInt - 1; omega) (by show x.toInt - 1 < (2147483648 : Int); omega)
noncomputable def tRwl : List (Nat × Nat) := [(4, 5), (14, 15), (27, 28), (97, 98)]
noncomputable def tRw (h : zH) : Prop := ∀ q ∈ tRwl, ∀ i, i < tN h q.1 → tO h q.1 i = some (q.2 + i)
theorem tRw_A {h : zH} {r i : Nat} {x : Int32} (k : tRw h) : tRw (tSA h r i x) := by unfold tRw; rw [tO_tSA, tN_tSA]; exact k
theorem tRw_J {h : zH} {r i : Nat} {x : Int64} (k : tRw h) : tRw (tSJ h r i x) := by unfold tRw; rw [tO_tSJ, tN_tSJ]; exact k
theorem tRw_F {h : zH} {r b : Nat} {w : Value} (k : tRw h) : tRw (tSF h r b w) := by unfold tRw; rw [tO_tSF, tN_tSF]; exact k
theorem tRw_at {h : zH} (k : tRw h) {p q : Nat} (hm : (p, q) ∈ tRwl) {i : Int32} (z : tInO h p i) : zrf (tO h p i.toNatClampNeg) = .ref (q + i.toNatClampNeg) := by
  rw [k (p, q) hm _ z.rg.2]
  rfl
theorem tfr_N {xs : Nat → Int32} {τ : List Nat} {h h2 : zH} {W : Nat → Nat → Bool} {p t : Nat} (hB : zBs xs τ h) (hf : yFr W τ h h2) (ht : zTG[p]? = some t) : tN h2 p = tN h p := by
  obtain ⟨ct, c, a1, a2, -⟩ := hB.1.2 _ _ (hB.2.1 _ _ ht)
  obtain ⟨c2, b1, b2⟩ := hf _ _ _ (hB.2.1 _ _ ht) a2
  unfold tN
  rw [a2, b1]
  match c, c2, b2 with
  | .inr (x, fs), .inr (y, gs), b2 => rfl
  | .inl (k, N, x), .inl (k2, N2, y), b2 => exact b2.2.1.symm
theorem tfr_Fs {xs : Nat → Int32} {τ : List Nat} {h h2 : zH} {W : Nat → Nat → Bool} {p t b : Nat} (hB : zBs xs τ h) (hf : yFr W τ h h2) (ht : τ[p]? = some t) (hW : W t b = false) : tF h2 p b = tF h p b := by
  obtain ⟨ct, c, a1, a2, -⟩ := hB.1.2 _ _ ht
  obtain ⟨c2, b1, b2⟩ := hf _ _ _ ht a2
  unfold tF
  rw [a2, b1]
  match c, c2, b2 with
  | .inr (x, fs), .inr (y, gs), b2 =>
    dsimp only
    rw [List.getD_eq_getElem?_getD, List.getD_eq_getElem?_getD, b2.2.2 b hW]
  | .inl (k, N, x), .inl (k2, N2, y), b2 => rfl
theorem car_tag {xs : Nat → Int32} {τ : List Nat} {h : zH} (hB : zBs xs τ h) {i r : Nat} (hi : (i : Int) < (tvI (tF h 36 4)).toInt) (hr : tO h 39 i = some r) : τ[r]? = some 150 := by
  have hn := (kb_36_4 hB).2
  obtain ⟨a, b, c⟩ := tkd_o hB (p := 39) (t := 15) rfl rfl
  obtain ⟨-, -, c3⟩ := c i (by omega)
  rw [hr] at c3
  rcases c3 with z | z | z
  · cases z
  · have : zoi (some r) = (r : Int) := rfl
    omega
  · exact z
theorem car_lt {xs : Nat → Int32} {τ : List Nat} {h : zH} (hB : zBs xs τ h) {i r : Nat} (hi : (i : Int) < (tvI (tF h 36 4)).toInt) (hr : tO h 39 i = some r) : r < h.length := by
  have z := car_tag hB hi hr
  rcases Nat.lt_or_ge r τ.length with q | q
  · have := hB.1.1; omega
  · rw [List.getElem?_eq_none q] at z; cases z
theorem car_ne {xs : Nat → Int32} {τ : List Nat} {h : zH} (hB : zBs xs τ h) {i r : Nat} (hi : (i : Int) < (tvI (tF h 36 4)).toInt) (hr : tO h 39 i = some r) {p t : Nat} (ht : zTG[p]? = some t) (hn : t ≠ 150) : r ≠ p := by
  intro e
  subst e
  have z := car_tag hB hi hr
  rw [hB.2.1 _ _ ht] at z
  cases z
  exact hn rfl
theorem zBs_len {xs : Nat → Int32} {τ : List Nat} {h : zH} (hB : zBs xs τ h) : 182 ≤ h.length := by
  have z := hB.2.1 181 149 rfl
  rcases Nat.lt_or_ge 181 τ.length with q | q
  · have := hB.1.1; omega
  · rw [List.getElem?_eq_none q] at z; cases z
/-- a count: what is told is the next of so many, or none -/
noncomputable def phN (p b : Nat) (C : Prop) (h : zH) (w : Option Value) (h2 : zH) : Prop := (C ∧ w = some (tF h p b) ∧ tF h2 p b = .int (tvI (tF h p b) + 1)) ∨ (¬ C ∧ w = some (.int (-1)) ∧ tF h2 p b = tF h p b)
theorem phN_a {p b q c : Nat} {C D : Prop} {h h2 h3 : zH} {w w2 : Option Value} (hR : tF h p b = tF h q c) (e1 : tF h2 q c = tF h q c) (e2 : tF h3 p b = tF h2 p b) (hCD : C ↔ D) (k1 : phN p b C h w h2) (k2 : phN q c D h2 w2 h3) : w2 = w ∧ tF h3 p b = tF h3 q c := by
  rcases k1 with ⟨c1, rfl, f1⟩ | ⟨c1, rfl, f1⟩ <;> rcases k2 with ⟨c2, rfl, f2⟩ | ⟨c2, rfl, f2⟩
  · rw [e2, f1, f2, e1, hR]
    exact ⟨rfl, rfl⟩
  · exact absurd (hCD.mp c1) c2
  · exact absurd (hCD.mpr c2) c1
  · rw [e2, f1, f2, e1, hR]
    exact ⟨rfl, rfl⟩
theorem zi1 {x : Int32} : x + 1 - 1 = x := Int32.add_sub_cancel x 1
/-- a count and what is told in arrays at its place -/
noncomputable def phA (p b : Nat) (C : Prop) (l : List (Nat × Int32)) (h : zH) (w : Option Value) (h2 : zH) : Prop := (C ∧ w = some (tF h p b) ∧ tF h2 p b = .int (tvI (tF h p b) + 1) ∧ ∀ q ∈ l, tA h2 q.1 = fun j => if j = (tvI (tF h p b)).toNatClampNeg then q.2 else tA h q.1 j) ∨ (¬ C ∧ w = some (.int (-1)) ∧ tF h2 p b = tF h p b ∧ ∀ q ∈ l, tA h2 q.1 = tA h q.1)
theorem phA_a {p b q c : Nat} {C D : Prop} {l m : List (Nat × Int32)} {h h2 h3 : zH} {w w2 : Option Value} (hR : tF h p b = tF h q c) (e1 : tF h2 q c = tF h q c) (e2 : tF h3 p b = tF h2 p b) (hCD : C ↔ D) (k1 : phA p b C l h w h2) (k2 : phA q c D m h2 w2 h3) : w2 = w ∧ tF h3 p b = tF h3 q c ∧ ∀ P Q v, (P, v) ∈ l → (Q, v) ∈ m → tA h P = tA h Q → tA h2 Q = tA h Q → tA h3 P = tA h2 P → tA h3 P = tA h3 Q := by
  rcases k1 with ⟨c1, rfl, f1, g1⟩ | ⟨c1, rfl, f1, g1⟩ <;> rcases k2 with ⟨c2, rfl, f2, g2⟩ | ⟨c2, rfl, f2, g2⟩
  · refine ⟨by rw [e1, hR], by rw [e2, f1, f2, e1, hR], fun P Q v hP hQ a1 a2 a3 => ?_⟩
    rw [a3, g1 _ hP, g2 _ hQ, e1, ← hR]
    dsimp only
    rw [a1, a2]
  · exact absurd (hCD.mp c1) c2
  · exact absurd (hCD.mpr c2) c1
  · refine ⟨rfl, by rw [e2, f1, f2, e1, hR], fun P Q v hP hQ a1 a2 a3 => ?_⟩
    have h1 := g1 _ hP
    have h2 := g2 _ hQ
    dsimp only at h1 h2
    rw [a3, h1, h2, a1, a2]
theorem tA_st {h : zH} {r i : Nat} {x : Int32} {kd : Nat} {z : Int32} (hf : tIn h r kd z) {f : Nat → Int32} (k : tA h r = f) : tA (tSA h r i x) r = fun j => if j = i then x else f j := by
  rw [tA_tSA hf.cell]
  funext j
  dsimp only
  rw [k]
  by_cases e : j = i
  · rw [if_pos ⟨rfl, e⟩, if_pos e]
  · rw [if_neg (fun z => e z.2), if_neg e]
theorem tA_n {h : zH} {r i p : Nat} {x : Int32} {f : Nat → Int32} (hn : p ≠ r) (k : tA h p = f) : tA (tSA h r i x) p = f := by rw [tA_nz hn]; exact k
theorem tA_ff {h : zH} {r b p : Nat} {w : Value} {f : Nat → Int32} (k : tA h p = f) : tA (tSF h r b w) p = f := by rw [tA_tSF]; exact k
theorem tA_jj {h : zH} {r i p : Nat} {x : Int64} {f : Nat → Int32} (k : tA h p = f) : tA (tSJ h r i x) p = f := by rw [tA_tSJ]; exact k
theorem tA_oo {h : zH} {r i p : Nat} {x : Option Nat} {f : Nat → Int32} (k : tA h p = f) : tA (tSO h r i x) p = f := by rw [tA_tSO]; exact k
noncomputable def R_now (h : zH) : Prop := tF h 0 14 = tF h 111 1
noncomputable def R_rsr (h : zH) : Prop := (∀ i j, i ≤ j → j < (tvI (tF h 54 9)).toNatClampNeg → (tA h 62 i).toInt ≤ (tA h 62 j).toInt) ∧ ∀ i, i < (tvI (tF h 54 9)).toNatClampNeg → (tA h 62 i).toInt ≤ (tvI (tF h 0 14)).toInt
noncomputable def ph_clock (p b : Nat) (month : Int32) (h : zH) (w : Option Value) (h2 : zH) : Prop := (((tvI (tF h p b)).toInt ≤ month.toInt ∧ month.toInt ≤ 599) ∧ w = some (.int 1) ∧ tF h2 p b = .int month) ∨ (¬ ((tvI (tF h p b)).toInt ≤ month.toInt ∧ month.toInt ≤ 599) ∧ w = some (.int 0) ∧ tF h2 p b = tF h p b)
theorem f_isWithin {G : zG} (hG : G.1 = zProg) {h : zH} {n lo hi : Int32} {LO HI : Int} (hlo : lo.toInt = LO) (hhi : hi.toInt = HI) : tC zTt G 158 [.int n, .int lo, .int hi] h (fun w h2 => tBo (LO ≤ n.toInt ∧ n.toInt ≤ HI) w ∧ h2 = h) := by
  refine tC_in (by rw [hG]; rfl) (fun dp => ?_)
  refine tw_iload rfl rfl ?_
  refine tw_iload rfl rfl ?_
  refine tw_ic_lt rfl (fun q1 => ?_) (fun q1 => ?_)
  · try dsimp only [tvI_i, tvJ_j, tvR_r] at q1
    refine tw_push rfl ?_
    exact tw_iret rfl ⟨Or.inr ⟨by omega, rfl⟩, rfl⟩
  · try dsimp only [tvI_i, tvJ_j, tvR_r] at q1
    refine tw_iload rfl rfl ?_
    refine tw_iload rfl rfl ?_
    refine tw_ic_gt rfl (fun q2 => ?_) (fun q2 => ?_)
    · try dsimp only [tvI_i, tvJ_j, tvR_r] at q2
      refine tw_push rfl ?_
      exact tw_iret rfl ⟨Or.inr ⟨by omega, rfl⟩, rfl⟩
    · try dsimp only [tvI_i, tvJ_j, tvR_r] at q2
      refine tw_push rfl ?_
      refine tw_goto rfl ?_
      exact tw_iret rfl ⟨Or.inl ⟨by omega, rfl⟩, rfl⟩
theorem f_isMonth {G : zG} (hG : G.1 = zProg) {h : zH} {n : Int32} : tC zTt G 159 [.int n] h (fun w h2 => tBo (0 ≤ n.toInt ∧ n.toInt ≤ 599) w ∧ h2 = h) := by
  refine tC_in (by rw [hG]; rfl) (fun dp => ?_)
  refine tw_iload rfl rfl ?_
  refine tw_push rfl ?_
  refine tw_push rfl ?_
  refine tw_stat3 rfl (f_isWithin hG (LO := 0) (HI := 599) (by decide) (by decide)) (fun w9 h9 p3 => ?_)
  obtain ⟨⟨p3, rfl⟩ | ⟨p3, rfl⟩, rfl⟩ := p3
  · try dsimp only [tvI_i, tvJ_j, tvR_r] at p3
    exact tw_iret rfl ⟨Or.inl ⟨p3, rfl⟩, rfl⟩
  · try dsimp only [tvI_i, tvJ_j, tvR_r] at p3
    exact tw_iret rfl ⟨Or.inr ⟨p3, rfl⟩, rfl⟩
theorem f_clock {G : zG} (hG : G.1 = zProg) {h : zH} {month : Int32} (hs : tSh h) (hk : 0 ≤ (tvI (tF h 0 14)).toInt) : tC zTt G 110 [.ref 0, .int month] h (ph_clock 0 14 month h) := by
  refine tC_in (by rw [hG]; rfl) (fun dp => ?_)
  refine tw_iload rfl rfl ?_
  refine tw_stat1 rfl (f_isMonth hG) (fun w9 h9 p4 => ?_)
  obtain ⟨⟨p4, rfl⟩ | ⟨p4, rfl⟩, rfl⟩ := p4
  · try dsimp only [tvI_i, tvJ_j, tvR_r] at p4
    refine tw_if_eq rfl (fun z => absurd z (by decide)) (fun _ => ?_)
    refine tw_iload rfl rfl ?_
    refine tw_aload rfl rfl ?_
    refine tw_getS rfl (hi_0_14 hs) ?_
    refine tw_ic_ge rfl (fun q5 => ?_) (fun q5 => ?_)
    · try dsimp only [tvI_i, tvJ_j, tvR_r] at q5
      refine tw_aload rfl rfl ?_
      refine tw_iload rfl rfl ?_
      refine tw_put rfl (fun f6 => ?_)
      refine tw_push rfl ?_
      exact tw_iret rfl (Or.inl ⟨by omega, rfl, (tF_same f6)⟩)
    · try dsimp only [tvI_i, tvJ_j, tvR_r] at q5
      refine tw_push rfl ?_
      exact tw_iret rfl (Or.inr ⟨by omega, rfl, rfl⟩)
  · try dsimp only [tvI_i, tvJ_j, tvR_r] at p4
    refine tw_if_eq rfl (fun _ => ?_) (fun z => absurd z (by decide))
    refine tw_push rfl ?_
    exact tw_iret rfl (Or.inr ⟨by omega, rfl, rfl⟩)
theorem f_in {G : zG} (hG : G.1 = zProg) {h : zH} {x lo hi : Int64} {X LO HI : Int} (hx : x.toInt = X) (hlo : lo.toInt = LO) (hhi : hi.toInt = HI) : tC zTt G 171 [.long x, .long lo, .long hi] h (fun w h2 => tBo (LO ≤ X ∧ X ≤ HI) w ∧ h2 = h) := by
  refine tC_in (by rw [hG]; rfl) (fun dp => ?_)
  refine tw_lload rfl rfl ?_
  refine tw_lload rfl rfl ?_
  refine tw_lc_lt rfl rfl (fun q7 => ?_) (fun q7 => ?_)
  · try dsimp only [tvI_i, tvJ_j, tvR_r] at q7
    refine tw_push rfl ?_
    exact tw_iret rfl ⟨Or.inr ⟨by omega, rfl⟩, rfl⟩
  · try dsimp only [tvI_i, tvJ_j, tvR_r] at q7
    refine tw_lload rfl rfl ?_
    refine tw_lload rfl rfl ?_
    refine tw_lc_gt rfl rfl (fun q8 => ?_) (fun q8 => ?_)
    · try dsimp only [tvI_i, tvJ_j, tvR_r] at q8
      refine tw_push rfl ?_
      exact tw_iret rfl ⟨Or.inr ⟨by omega, rfl⟩, rfl⟩
    · try dsimp only [tvI_i, tvJ_j, tvR_r] at q8
      refine tw_push rfl ?_
      refine tw_goto rfl ?_
      exact tw_iret rfl ⟨Or.inl ⟨by omega, rfl⟩, rfl⟩
theorem g_clock {G : zG} (hG : G.1 = zProg) {h : zH} {month : Int32} (hs : tSh h) : tC zTt G 174 [.ref 111, .int month] h (ph_clock 111 1 month h) := by
  refine tC_in (by rw [hG]; rfl) (fun dp => ?_)
  refine tw_iload rfl rfl ?_
  refine tw_i2l rfl ?_
  refine tw_aload rfl rfl ?_
  refine tw_getS rfl (hi_111_1 hs) ?_
  refine tw_i2l rfl ?_
  refine tw_push rfl ?_
  refine tw_stat3 rfl (f_in hG   (HI := 599) (Int32.toInt_toInt64 _) (Int32.toInt_toInt64 _) (by decide)) (fun w9 h9 p9 => ?_)
  obtain ⟨⟨p9, rfl⟩ | ⟨p9, rfl⟩, rfl⟩ := p9
  · try dsimp only [tvI_i, tvJ_j, tvR_r] at p9
    refine tw_if_ne rfl (fun _ => ?_) (fun z => absurd z (by decide))
    refine tw_aload rfl rfl ?_
    refine tw_iload rfl rfl ?_
    refine tw_put rfl (fun f10 => ?_)
    refine tw_push rfl ?_
    exact tw_iret rfl (Or.inl ⟨by omega, rfl, (tF_same f10)⟩)
  · try dsimp only [tvI_i, tvJ_j, tvR_r] at p9
    refine tw_if_ne rfl (fun z => absurd z (by decide)) (fun _ => ?_)
    refine tw_push rfl ?_
    exact tw_iret rfl (Or.inr ⟨by omega, rfl, rfl⟩)
theorem a_clock {month : Int32} {h h2 h3 : zH} {w w2 : Option Value} (hR : R_now h) (e1 : tF h2 111 1 = tF h 111 1) (e2 : tF h3 0 14 = tF h2 0 14) (k1 : ph_clock 0 14 month h w h2) (k2 : ph_clock 111 1 month h2 w2 h3) : w2 = w ∧ R_now h3 := by
  unfold R_now at *
  unfold ph_clock at k1 k2
  rw [e1, ← hR] at k2
  rw [e2]
  rcases k1 with ⟨c1, rfl, f1⟩ | ⟨c1, rfl, f1⟩ <;> rcases k2 with ⟨c2, rfl, f2⟩ | ⟨c2, rfl, f2⟩
  · exact ⟨rfl, f1.trans f2.symm⟩
  · exact absurd c1 c2
  · exact absurd c2 c1
  · exact ⟨rfl, f1.trans f2.symm⟩
theorem zand2 {A C D : Prop} (h : A ∧ C) (d : D) : A ∧ C ∧ D := ⟨h.1, h.2, d⟩
theorem a_clock_rsr {month : Int32} {h h2 h3 : zH} {w : Option Value} (hR : R_rsr h) (k1 : ph_clock 0 14 month h w h2) (e2 : tF h3 0 14 = tF h2 0 14) (o1 : tA h2 62 = tA h 62) (o2 : tF h2 54 9 = tF h 54 9) (t1 : tA h3 62 = tA h2 62) (t2 : tF h3 54 9 = tF h2 54 9) : R_rsr h3 := by
  unfold R_rsr at *
  rw [t1, t2, o1, o2, e2]
  refine ⟨hR.1, fun i hi => ?_⟩
  have := hR.2 i hi
  rcases k1 with ⟨c1, -, f1⟩ | ⟨c1, -, f1⟩
  · rw [f1]
    show _ ≤ month.toInt
    omega
  · rw [f1]
    exact this
noncomputable def R_rw (h : zH) : Prop := tRw h
noncomputable def R_kinds (h : zH) : Prop := tF h 1 6 = tF h 111 3
theorem f_isFirm {G : zG} (hG : G.1 = zProg) {h : zH} {n : Int32} : tC zTt G 160 [.int n] h (fun w h2 => tBo (0 ≤ n.toInt ∧ n.toInt ≤ 3) w ∧ h2 = h) := by
  refine tC_in (by rw [hG]; rfl) (fun dp => ?_)
  refine tw_iload rfl rfl ?_
  refine tw_push rfl ?_
  refine tw_push rfl ?_
  refine tw_stat3 rfl (f_isWithin hG (LO := 0) (HI := 3) (by decide) (by decide)) (fun w9 h9 p11 => ?_)
  obtain ⟨⟨p11, rfl⟩ | ⟨p11, rfl⟩, rfl⟩ := p11
  · try dsimp only [tvI_i, tvJ_j, tvR_r] at p11
    exact tw_iret rfl ⟨Or.inl ⟨p11, rfl⟩, rfl⟩
  · try dsimp only [tvI_i, tvJ_j, tvR_r] at p11
    exact tw_iret rfl ⟨Or.inr ⟨p11, rfl⟩, rfl⟩
theorem f_fill {G : zG} (hG : G.1 = zProg) {h : zH} {r : Nat} {a b c : Int32} : tC zTt G 30 [.ref r, .int a, .int b, .int c] h (fun w h2 => w = none ∧ h2 = tSA (tSA (tSA h r 0 a) r 1 b) r 2 c ∧ tIn h r 0 0 ∧ tIn (tSA h r 0 a) r 0 1 ∧ tIn (tSA (tSA h r 0 a) r 1 b) r 0 2) := by
  refine tC_in (by rw [hG]; rfl) (fun dp => ?_)
  refine tw_aload rfl rfl ?_
  refine tw_push rfl ?_
  refine tw_iload rfl rfl ?_
  refine tw_iast rfl (fun f12 => ?_)
  refine tw_aload rfl rfl ?_
  refine tw_push rfl ?_
  refine tw_iload rfl rfl ?_
  refine tw_iast rfl (fun f13 => ?_)
  refine tw_aload rfl rfl ?_
  refine tw_push rfl ?_
  refine tw_iload rfl rfl ?_
  refine tw_iast rfl (fun f14 => ?_)
  exact tw_vret rfl ⟨rfl, rfl, f12, f13, f14⟩
theorem wret1 {h : zH} {p b : Nat} (k : tF h p b = .int (tvI (tF h p b))) : some (Value.int (tvI (tF h p b) + 1 - 1)) = some (tF h p b) := by rw [zi1]; exact congrArg some k.symm
theorem f_addKind {G : zG} (hG : G.1 = zProg) {h : zH} {firm : Int32} {a : Int32} {b : Int32} {c : Int32} (hs : tSh h) (hr : tRw h) : tC zTt G 28 [.ref 1, .int firm, .int a, .int b, .int c] h (phN 1 6 ((tvI (tF h 1 6)).toInt ≠ 8) h) := by
  refine tC_in (by rw [hG]; rfl) (fun dp => ?_)
  refine tw_aload rfl rfl ?_
  refine tw_getS rfl (hi_1_6 hs) ?_
  refine tw_push rfl ?_
  refine tw_ic_ne rfl (fun q15 => ?_) (fun q15 => ?_)
  · try dsimp only [tvI_i, tvJ_j, tvR_r] at q15
    have q15i := zneq (Y := 8) (by decide) q15
    refine tw_aload rfl rfl ?_
    refine tw_getS rfl (hs_1_1 hs) ?_
    refine tw_aload rfl rfl ?_
    refine tw_getS rfl (hi_1_6 hs) ?_
    refine tw_iload rfl rfl ?_
    refine tw_iast rfl (fun f16 => ?_)
    refine tw_aload rfl rfl ?_
    refine tw_getS rfl (hs_1_2 (tSh_SA hs)) ?_
    refine tw_aload rfl rfl ?_
    refine tw_getS rfl (tF_a (hi_1_6 hs)) ?_
    refine tw_aaldS rfl (fun z => tRw_at (tRw_A hr) (p := 4) (q := 5) (by decide) z) ?_
    refine tw_iload rfl rfl ?_
    refine tw_iload rfl rfl ?_
    refine tw_iload rfl rfl ?_
    refine tw_stat4 rfl (f_fill hG) (fun wp18 hp18 p18 => ?_)
    obtain ⟨rfl, rfl, p18a, p18b, p18c⟩ := p18
    refine tw_aload rfl rfl ?_
    refine tw_dup rfl ?_
    refine tw_getS rfl (tF_a (tF_a (tF_a (tF_a (hi_1_6 hs))))) ?_
    refine tw_dup_x1 rfl ?_
    refine tw_push rfl ?_
    refine tw_iadd rfl ?_
    refine tw_put rfl (fun f19 => ?_)
    exact tw_iret rfl (Or.inl ⟨by omega, congrArg some (hi_1_6 hs).symm, (tF_same f19)⟩)
  · try dsimp only [tvI_i, tvJ_j, tvR_r] at q15
    have q15i := zeqi (Y := 8) (by decide) q15
    refine tw_push rfl ?_
    exact tw_iret rfl (Or.inr ⟨by omega, rfl, rfl⟩)
theorem f_kind {G : zG} (hG : G.1 = zProg) {h : zH} {firm : Int32} {a : Int32} {b : Int32} {c : Int32} (hs : tSh h) (hr : tRw h) : tC zTt G 113 [.ref 0, .int firm, .int a, .int b, .int c] h (phN 1 6 (((0 ≤ firm.toInt ∧ firm.toInt ≤ 3) ∧ (0 ≤ a.toInt ∧ a.toInt ≤ 99999) ∧ (0 ≤ b.toInt ∧ b.toInt ≤ 99999) ∧ (0 ≤ c.toInt ∧ c.toInt ≤ 99999)) ∧ (tvI (tF h 1 6)).toInt ≠ 8) h) := by
  refine tC_in (by rw [hG]; rfl) (fun dp => ?_)
  refine tw_iload rfl rfl ?_
  refine tw_stat1 rfl (f_isFirm hG) (fun w9 h9 p20 => ?_)
  obtain ⟨⟨p20, rfl⟩ | ⟨p20, rfl⟩, rfl⟩ := p20
  · try dsimp only [tvI_i, tvJ_j, tvR_r] at p20
    refine tw_if_eq rfl (fun z => absurd z (by decide)) (fun _ => ?_)
    refine tw_iload rfl rfl ?_
    refine tw_push rfl ?_
    refine tw_push rfl ?_
    refine tw_stat3 rfl (f_isWithin hG (LO := 0) (HI := 99999) (by decide) (by decide)) (fun w9 h9 p21 => ?_)
    obtain ⟨⟨p21, rfl⟩ | ⟨p21, rfl⟩, rfl⟩ := p21
    · try dsimp only [tvI_i, tvJ_j, tvR_r] at p21
      refine tw_if_eq rfl (fun z => absurd z (by decide)) (fun _ => ?_)
      refine tw_iload rfl rfl ?_
      refine tw_push rfl ?_
      refine tw_push rfl ?_
      refine tw_stat3 rfl (f_isWithin hG (LO := 0) (HI := 99999) (by decide) (by decide)) (fun w9 h9 p22 => ?_)
      obtain ⟨⟨p22, rfl⟩ | ⟨p22, rfl⟩, rfl⟩ := p22
      · try dsimp only [tvI_i, tvJ_j, tvR_r] at p22
        refine tw_if_eq rfl (fun z => absurd z (by decide)) (fun _ => ?_)
        refine tw_iload rfl rfl ?_
        refine tw_push rfl ?_
        refine tw_push rfl ?_
        refine tw_stat3 rfl (f_isWithin hG (LO := 0) (HI := 99999) (by decide) (by decide)) (fun w9 h9 p23 => ?_)
        obtain ⟨⟨p23, rfl⟩ | ⟨p23, rfl⟩, rfl⟩ := p23
        · try dsimp only [tvI_i, tvJ_j, tvR_r] at p23
          refine tw_if_eq rfl (fun z => absurd z (by decide)) (fun _ => ?_)
          refine tw_push rfl ?_
          refine tw_goto rfl ?_
          refine tw_istore rfl ?_
          refine tw_iload rfl rfl ?_
          refine tw_if_eq rfl (fun z => absurd z (by decide)) (fun _ => ?_)
          refine tw_aload rfl rfl ?_
          refine tw_getS rfl (hs_0_0 hs) ?_
          refine tw_iload rfl rfl ?_
          refine tw_iload rfl rfl ?_
          refine tw_iload rfl rfl ?_
          refine tw_iload rfl rfl ?_
          refine tw_virt4 rfl (f_addKind hG  hs hr) (fun w9 h9 p24 => ?_)
          rcases p24 with ⟨p24, rfl, p24e⟩ | ⟨p24, rfl, p24e⟩
          · refine tw_goto rfl ?_
            exact tw_iret rfl (Or.inl ⟨by omega, congrArg some (hi_1_6 hs).symm, p24e⟩)
          · refine tw_goto rfl ?_
            exact tw_iret rfl (Or.inr ⟨by omega, rfl, p24e⟩)
        · try dsimp only [tvI_i, tvJ_j, tvR_r] at p23
          refine tw_if_eq rfl (fun _ => ?_) (fun z => absurd z (by decide))
          refine tw_push rfl ?_
          refine tw_istore rfl ?_
          refine tw_iload rfl rfl ?_
          refine tw_if_eq rfl (fun _ => ?_) (fun z => absurd z (by decide))
          refine tw_push rfl ?_
          exact tw_iret rfl (Or.inr ⟨by omega, rfl, rfl⟩)
      · try dsimp only [tvI_i, tvJ_j, tvR_r] at p22
        refine tw_if_eq rfl (fun _ => ?_) (fun z => absurd z (by decide))
        refine tw_push rfl ?_
        refine tw_istore rfl ?_
        refine tw_iload rfl rfl ?_
        refine tw_if_eq rfl (fun _ => ?_) (fun z => absurd z (by decide))
        refine tw_push rfl ?_
        exact tw_iret rfl (Or.inr ⟨by omega, rfl, rfl⟩)
    · try dsimp only [tvI_i, tvJ_j, tvR_r] at p21
      refine tw_if_eq rfl (fun _ => ?_) (fun z => absurd z (by decide))
      refine tw_push rfl ?_
      refine tw_istore rfl ?_
      refine tw_iload rfl rfl ?_
      refine tw_if_eq rfl (fun _ => ?_) (fun z => absurd z (by decide))
      refine tw_push rfl ?_
      exact tw_iret rfl (Or.inr ⟨by omega, rfl, rfl⟩)
  · try dsimp only [tvI_i, tvJ_j, tvR_r] at p20
    refine tw_if_eq rfl (fun _ => ?_) (fun z => absurd z (by decide))
    refine tw_push rfl ?_
    refine tw_istore rfl ?_
    refine tw_iload rfl rfl ?_
    refine tw_if_eq rfl (fun _ => ?_) (fun z => absurd z (by decide))
    refine tw_push rfl ?_
    exact tw_iret rfl (Or.inr ⟨by omega, rfl, rfl⟩)
theorem g_kind {G : zG} (hG : G.1 = zProg) {h : zH} {firm : Int32} {a : Int32} {b : Int32} {c : Int32} (hs : tSh h)  : tC zTt G 181 [.ref 111, .int firm, .int a, .int b, .int c] h (phN 111 3 (((0 ≤ firm.toInt ∧ firm.toInt ≤ 3) ∧ (0 ≤ a.toInt ∧ a.toInt ≤ 99999) ∧ (0 ≤ b.toInt ∧ b.toInt ≤ 99999) ∧ (0 ≤ c.toInt ∧ c.toInt ≤ 99999)) ∧ (tvI (tF h 111 3)).toInt ≠ 8) h) := by
  refine tC_in (by rw [hG]; rfl) (fun dp => ?_)
  refine tw_aload rfl rfl ?_
  refine tw_getS rfl (hi_111_3 hs) ?_
  refine tw_push rfl ?_
  refine tw_ic_eq rfl (fun q25 => ?_) (fun q25 => ?_)
  · try dsimp only [tvI_i, tvJ_j, tvR_r] at q25
    have q25i := zeqi (Y := 8) (by decide) q25
    refine tw_push rfl ?_
    exact tw_iret rfl (Or.inr ⟨by omega, rfl, rfl⟩)
  · try dsimp only [tvI_i, tvJ_j, tvR_r] at q25
    have q25i := zneq (Y := 8) (by decide) q25
    refine tw_iload rfl rfl ?_
    refine tw_i2l rfl ?_
    refine tw_push rfl ?_
    refine tw_push rfl ?_
    refine tw_stat3 rfl (f_in hG  (LO := 0) (HI := 3) (Int32.toInt_toInt64 _) (by decide) (by decide)) (fun w9 h9 p26 => ?_)
    obtain ⟨⟨p26, rfl⟩ | ⟨p26, rfl⟩, rfl⟩ := p26
    · try dsimp only [tvI_i, tvJ_j, tvR_r] at p26
      refine tw_if_eq rfl (fun z => absurd z (by decide)) (fun _ => ?_)
      refine tw_iload rfl rfl ?_
      refine tw_i2l rfl ?_
      refine tw_push rfl ?_
      refine tw_push rfl ?_
      refine tw_stat3 rfl (f_in hG  (LO := 0) (HI := 99999) (Int32.toInt_toInt64 _) (by decide) (by decide)) (fun w9 h9 p27 => ?_)
      obtain ⟨⟨p27, rfl⟩ | ⟨p27, rfl⟩, rfl⟩ := p27
      · try dsimp only [tvI_i, tvJ_j, tvR_r] at p27
        refine tw_if_eq rfl (fun z => absurd z (by decide)) (fun _ => ?_)
        refine tw_iload rfl rfl ?_
        refine tw_i2l rfl ?_
        refine tw_push rfl ?_
        refine tw_push rfl ?_
        refine tw_stat3 rfl (f_in hG  (LO := 0) (HI := 99999) (Int32.toInt_toInt64 _) (by decide) (by decide)) (fun w9 h9 p28 => ?_)
        obtain ⟨⟨p28, rfl⟩ | ⟨p28, rfl⟩, rfl⟩ := p28
        · try dsimp only [tvI_i, tvJ_j, tvR_r] at p28
          refine tw_if_eq rfl (fun z => absurd z (by decide)) (fun _ => ?_)
          refine tw_iload rfl rfl ?_
          refine tw_i2l rfl ?_
          refine tw_push rfl ?_
          refine tw_push rfl ?_
          refine tw_stat3 rfl (f_in hG  (LO := 0) (HI := 99999) (Int32.toInt_toInt64 _) (by decide) (by decide)) (fun w9 h9 p29 => ?_)
          obtain ⟨⟨p29, rfl⟩ | ⟨p29, rfl⟩, rfl⟩ := p29
          · try dsimp only [tvI_i, tvJ_j, tvR_r] at p29
            refine tw_if_ne rfl (fun _ => ?_) (fun z => absurd z (by decide))
            refine tw_aload rfl rfl ?_
            refine tw_getS rfl (hs_111_9 hs) ?_
            refine tw_aload rfl rfl ?_
            refine tw_getS rfl (hi_111_3 hs) ?_
            refine tw_iload rfl rfl ?_
            refine tw_iast rfl (fun f30 => ?_)
            refine tw_aload rfl rfl ?_
            refine tw_getS rfl (hs_111_10 (tSh_SA hs)) ?_
            refine tw_push rfl ?_
            refine tw_aload rfl rfl ?_
            refine tw_getS rfl (tF_a (hi_111_3 hs)) ?_
            refine tw_imul rfl ?_
            refine tw_iload rfl rfl ?_
            refine tw_iast rfl (fun f31 => ?_)
            refine tw_aload rfl rfl ?_
            refine tw_getS rfl (hs_111_10 (tSh_SA (tSh_SA hs))) ?_
            refine tw_push rfl ?_
            refine tw_aload rfl rfl ?_
            refine tw_getS rfl (tF_a (tF_a (hi_111_3 hs))) ?_
            refine tw_imul rfl ?_
            refine tw_push rfl ?_
            refine tw_iadd rfl ?_
            refine tw_iload rfl rfl ?_
            refine tw_iast rfl (fun f32 => ?_)
            refine tw_aload rfl rfl ?_
            refine tw_getS rfl (hs_111_10 (tSh_SA (tSh_SA (tSh_SA hs)))) ?_
            refine tw_push rfl ?_
            refine tw_aload rfl rfl ?_
            refine tw_getS rfl (tF_a (tF_a (tF_a (hi_111_3 hs)))) ?_
            refine tw_imul rfl ?_
            refine tw_push rfl ?_
            refine tw_iadd rfl ?_
            refine tw_iload rfl rfl ?_
            refine tw_iast rfl (fun f33 => ?_)
            refine tw_aload rfl rfl ?_
            refine tw_dup rfl ?_
            refine tw_getS rfl (tF_a (tF_a (tF_a (tF_a (hi_111_3 hs))))) ?_
            refine tw_push rfl ?_
            refine tw_iadd rfl ?_
            refine tw_put rfl (fun f34 => ?_)
            refine tw_aload rfl rfl ?_
            refine tw_getS rfl (tF_same f34) ?_
            refine tw_push rfl ?_
            refine tw_isub rfl ?_
            exact tw_iret rfl (Or.inl ⟨by omega, wret1 (hi_111_3 hs), (tF_same f34)⟩)
          · try dsimp only [tvI_i, tvJ_j, tvR_r] at p29
            refine tw_if_ne rfl (fun z => absurd z (by decide)) (fun _ => ?_)
            refine tw_push rfl ?_
            exact tw_iret rfl (Or.inr ⟨by omega, rfl, rfl⟩)
        · try dsimp only [tvI_i, tvJ_j, tvR_r] at p28
          refine tw_if_eq rfl (fun _ => ?_) (fun z => absurd z (by decide))
          refine tw_push rfl ?_
          exact tw_iret rfl (Or.inr ⟨by omega, rfl, rfl⟩)
      · try dsimp only [tvI_i, tvJ_j, tvR_r] at p27
        refine tw_if_eq rfl (fun _ => ?_) (fun z => absurd z (by decide))
        refine tw_push rfl ?_
        exact tw_iret rfl (Or.inr ⟨by omega, rfl, rfl⟩)
    · try dsimp only [tvI_i, tvJ_j, tvR_r] at p26
      refine tw_if_eq rfl (fun _ => ?_) (fun z => absurd z (by decide))
      refine tw_push rfl ?_
      exact tw_iret rfl (Or.inr ⟨by omega, rfl, rfl⟩)
theorem a_kind {firm : Int32} {a : Int32} {b : Int32} {c : Int32} {h h2 h3 : zH} {w w2 : Option Value}  (hR : R_kinds h) (e1 : tF h2 111 3 = tF h 111 3) (e2 : tF h3 1 6 = tF h2 1 6) (k1 : phN 1 6 (((0 ≤ firm.toInt ∧ firm.toInt ≤ 3) ∧ (0 ≤ a.toInt ∧ a.toInt ≤ 99999) ∧ (0 ≤ b.toInt ∧ b.toInt ≤ 99999) ∧ (0 ≤ c.toInt ∧ c.toInt ≤ 99999)) ∧ (tvI (tF h 1 6)).toInt ≠ 8) h w h2) (k2 : phN 111 3 (((0 ≤ firm.toInt ∧ firm.toInt ≤ 3) ∧ (0 ≤ a.toInt ∧ a.toInt ≤ 99999) ∧ (0 ≤ b.toInt ∧ b.toInt ≤ 99999) ∧ (0 ≤ c.toInt ∧ c.toInt ≤ 99999)) ∧ (tvI (tF h2 111 3)).toInt ≠ 8) h2 w2 h3) : w2 = w ∧ R_kinds h3 := by
  refine phN_a hR e1 e2 ?_ k1 k2
  have hR2 := hR
  unfold R_kinds at hR2
  rw [e1, ← hR2]
noncomputable def R_people (h : zH) : Prop := tF h 36 2 = tF h 111 2
theorem f_addPerson {G : zG} (hG : G.1 = zProg) {h : zH} {firm : Int32} (hs : tSh h) : tC zTt G 16 [.ref 36, .int firm] h (phN 36 2 ((tvI (tF h 36 2)).toInt ≠ 60) h) := by
  refine tC_in (by rw [hG]; rfl) (fun dp => ?_)
  refine tw_aload rfl rfl ?_
  refine tw_getS rfl (hi_36_2 hs) ?_
  refine tw_push rfl ?_
  refine tw_ic_ne rfl (fun q35 => ?_) (fun q35 => ?_)
  · try dsimp only [tvI_i, tvJ_j, tvR_r] at q35
    have q35i := zneq (Y := 60) (by decide) q35
    refine tw_aload rfl rfl ?_
    refine tw_getS rfl (hs_36_0 hs) ?_
    refine tw_aload rfl rfl ?_
    refine tw_getS rfl (hi_36_2 hs) ?_
    refine tw_iload rfl rfl ?_
    refine tw_iast rfl (fun f36 => ?_)
    refine tw_aload rfl rfl ?_
    refine tw_dup rfl ?_
    refine tw_getS rfl (tF_a (hi_36_2 hs)) ?_
    refine tw_dup_x1 rfl ?_
    refine tw_push rfl ?_
    refine tw_iadd rfl ?_
    refine tw_put rfl (fun f37 => ?_)
    exact tw_iret rfl (Or.inl ⟨by omega, congrArg some (hi_36_2 hs).symm, (tF_same f37)⟩)
  · try dsimp only [tvI_i, tvJ_j, tvR_r] at q35
    have q35i := zeqi (Y := 60) (by decide) q35
    refine tw_push rfl ?_
    exact tw_iret rfl (Or.inr ⟨by omega, rfl, rfl⟩)
theorem f_person {G : zG} (hG : G.1 = zProg) {h : zH} {firm : Int32} (hs : tSh h) : tC zTt G 111 [.ref 0, .int firm] h (phN 36 2 ((-1 ≤ firm.toInt ∧ firm.toInt ≤ 3) ∧ (tvI (tF h 36 2)).toInt ≠ 60) h) := by
  refine tC_in (by rw [hG]; rfl) (fun dp => ?_)
  refine tw_iload rfl rfl ?_
  refine tw_push rfl ?_
  refine tw_ic_eq rfl (fun q38 => ?_) (fun q38 => ?_)
  · try dsimp only [tvI_i, tvJ_j, tvR_r] at q38
    have q38i := zeqi (Y := (-1)) (by decide) q38
    refine tw_aload rfl rfl ?_
    refine tw_getS rfl (hs_0_1 hs) ?_
    refine tw_iload rfl rfl ?_
    refine tw_virt1 rfl (f_addPerson hG  hs) (fun w9 h9 p39 => ?_)
    rcases p39 with ⟨p39, rfl, p39e⟩ | ⟨p39, rfl, p39e⟩
    · refine tw_goto rfl ?_
      exact tw_iret rfl (Or.inl ⟨by omega, congrArg some (hi_36_2 hs).symm, p39e⟩)
    · refine tw_goto rfl ?_
      exact tw_iret rfl (Or.inr ⟨by omega, rfl, p39e⟩)
  · try dsimp only [tvI_i, tvJ_j, tvR_r] at q38
    have q38i := zneq (Y := (-1)) (by decide) q38
    refine tw_iload rfl rfl ?_
    refine tw_stat1 rfl (f_isFirm hG) (fun w9 h9 p40 => ?_)
    obtain ⟨⟨p40, rfl⟩ | ⟨p40, rfl⟩, rfl⟩ := p40
    · try dsimp only [tvI_i, tvJ_j, tvR_r] at p40
      refine tw_if_eq rfl (fun z => absurd z (by decide)) (fun _ => ?_)
      refine tw_aload rfl rfl ?_
      refine tw_getS rfl (hs_0_1 hs) ?_
      refine tw_iload rfl rfl ?_
      refine tw_virt1 rfl (f_addPerson hG  hs) (fun w9 h9 p41 => ?_)
      rcases p41 with ⟨p41, rfl, p41e⟩ | ⟨p41, rfl, p41e⟩
      · refine tw_goto rfl ?_
        exact tw_iret rfl (Or.inl ⟨by omega, congrArg some (hi_36_2 hs).symm, p41e⟩)
      · refine tw_goto rfl ?_
        exact tw_iret rfl (Or.inr ⟨by omega, rfl, p41e⟩)
    · try dsimp only [tvI_i, tvJ_j, tvR_r] at p40
      refine tw_if_eq rfl (fun _ => ?_) (fun z => absurd z (by decide))
      refine tw_push rfl ?_
      exact tw_iret rfl (Or.inr ⟨by omega, rfl, rfl⟩)
theorem g_person {G : zG} (hG : G.1 = zProg) {h : zH} {firm : Int32} (hs : tSh h)  : tC zTt G 179 [.ref 111, .int firm] h (phN 111 2 ((-1 ≤ firm.toInt ∧ firm.toInt ≤ 3) ∧ (tvI (tF h 111 2)).toInt ≠ 60) h) := by
  refine tC_in (by rw [hG]; rfl) (fun dp => ?_)
  refine tw_aload rfl rfl ?_
  refine tw_getS rfl (hi_111_2 hs) ?_
  refine tw_push rfl ?_
  refine tw_ic_eq rfl (fun q42 => ?_) (fun q42 => ?_)
  · try dsimp only [tvI_i, tvJ_j, tvR_r] at q42
    have q42i := zeqi (Y := 60) (by decide) q42
    refine tw_push rfl ?_
    exact tw_iret rfl (Or.inr ⟨by omega, rfl, rfl⟩)
  · try dsimp only [tvI_i, tvJ_j, tvR_r] at q42
    have q42i := zneq (Y := 60) (by decide) q42
    refine tw_iload rfl rfl ?_
    refine tw_i2l rfl ?_
    refine tw_push rfl ?_
    refine tw_push rfl ?_
    refine tw_stat3 rfl (f_in hG  (LO := (-1)) (HI := 3) (Int32.toInt_toInt64 _) (by decide) (by decide)) (fun w9 h9 p43 => ?_)
    obtain ⟨⟨p43, rfl⟩ | ⟨p43, rfl⟩, rfl⟩ := p43
    · try dsimp only [tvI_i, tvJ_j, tvR_r] at p43
      refine tw_if_ne rfl (fun _ => ?_) (fun z => absurd z (by decide))
      refine tw_aload rfl rfl ?_
      refine tw_getS rfl (hs_111_7 hs) ?_
      refine tw_aload rfl rfl ?_
      refine tw_getS rfl (hi_111_2 hs) ?_
      refine tw_iload rfl rfl ?_
      refine tw_iast rfl (fun f44 => ?_)
      refine tw_aload rfl rfl ?_
      refine tw_dup rfl ?_
      refine tw_getS rfl (tF_a (hi_111_2 hs)) ?_
      refine tw_push rfl ?_
      refine tw_iadd rfl ?_
      refine tw_put rfl (fun f45 => ?_)
      refine tw_aload rfl rfl ?_
      refine tw_getS rfl (tF_same f45) ?_
      refine tw_push rfl ?_
      refine tw_isub rfl ?_
      exact tw_iret rfl (Or.inl ⟨by omega, wret1 (hi_111_2 hs), (tF_same f45)⟩)
    · try dsimp only [tvI_i, tvJ_j, tvR_r] at p43
      refine tw_if_ne rfl (fun z => absurd z (by decide)) (fun _ => ?_)
      refine tw_push rfl ?_
      exact tw_iret rfl (Or.inr ⟨by omega, rfl, rfl⟩)
theorem a_person {firm : Int32} {h h2 h3 : zH} {w w2 : Option Value}  (hR : R_people h) (e1 : tF h2 111 2 = tF h 111 2) (e2 : tF h3 36 2 = tF h2 36 2) (k1 : phN 36 2 ((-1 ≤ firm.toInt ∧ firm.toInt ≤ 3) ∧ (tvI (tF h 36 2)).toInt ≠ 60) h w h2) (k2 : phN 111 2 ((-1 ≤ firm.toInt ∧ firm.toInt ≤ 3) ∧ (tvI (tF h2 111 2)).toInt ≠ 60) h2 w2 h3) : w2 = w ∧ R_people h3 := by
  refine phN_a hR e1 e2 ?_ k1 k2
  have hR2 := hR
  unfold R_people at hR2
  rw [e1, ← hR2]
noncomputable def R_tests (h : zH) : Prop := tF h 54 5 = tF h 111 50
noncomputable def R_tkind (h : zH) : Prop := tA h 55 = tA h 145
noncomputable def R_tsort (h : zH) : Prop := tA h 56 = tA h 146
noncomputable def R_tspeed (h : zH) : Prop := tA h 57 = tA h 147
noncomputable def R_tburn (h : zH) : Prop := tA h 58 = tA h 151
theorem f_hasKind {G : zG} (hG : G.1 = zProg) {h : zH} {n : Int32} (hs : tSh h) : tC zTt G 25 [.ref 1, .int n] h (fun w h2 => tBo (0 ≤ n.toInt ∧ n.toInt < (tvI (tF h 1 6)).toInt) w ∧ h2 = h) := by
  refine tC_in (by rw [hG]; rfl) (fun dp => ?_)
  refine tw_iload rfl rfl ?_
  refine tw_if_lt rfl (fun q46 => ?_) (fun q46 => ?_)
  · try dsimp only [tvI_i, tvJ_j, tvR_r] at q46
    refine tw_push rfl ?_
    exact tw_iret rfl ⟨Or.inr ⟨by omega, rfl⟩, rfl⟩
  · try dsimp only [tvI_i, tvJ_j, tvR_r] at q46
    refine tw_iload rfl rfl ?_
    refine tw_aload rfl rfl ?_
    refine tw_getS rfl (hi_1_6 hs) ?_
    refine tw_ic_ge rfl (fun q47 => ?_) (fun q47 => ?_)
    · try dsimp only [tvI_i, tvJ_j, tvR_r] at q47
      refine tw_push rfl ?_
      exact tw_iret rfl ⟨Or.inr ⟨by omega, rfl⟩, rfl⟩
    · try dsimp only [tvI_i, tvJ_j, tvR_r] at q47
      refine tw_push rfl ?_
      refine tw_goto rfl ?_
      exact tw_iret rfl ⟨Or.inl ⟨by omega, rfl⟩, rfl⟩
theorem f_isSort {G : zG} (hG : G.1 = zProg) {h : zH} {n : Int32} : tC zTt G 161 [.int n] h (fun w h2 => tBo (0 ≤ n.toInt ∧ n.toInt ≤ 2) w ∧ h2 = h) := by
  refine tC_in (by rw [hG]; rfl) (fun dp => ?_)
  refine tw_iload rfl rfl ?_
  refine tw_push rfl ?_
  refine tw_push rfl ?_
  refine tw_stat3 rfl (f_isWithin hG (LO := 0) (HI := 2) (by decide) (by decide)) (fun w9 h9 p48 => ?_)
  obtain ⟨⟨p48, rfl⟩ | ⟨p48, rfl⟩, rfl⟩ := p48
  · try dsimp only [tvI_i, tvJ_j, tvR_r] at p48
    exact tw_iret rfl ⟨Or.inl ⟨p48, rfl⟩, rfl⟩
  · try dsimp only [tvI_i, tvJ_j, tvR_r] at p48
    exact tw_iret rfl ⟨Or.inr ⟨p48, rfl⟩, rfl⟩
theorem f_isSpeed {G : zG} (hG : G.1 = zProg) {h : zH} {n : Int32} : tC zTt G 162 [.int n] h (fun w h2 => tBo (0 ≤ n.toInt ∧ n.toInt ≤ 200) w ∧ h2 = h) := by
  refine tC_in (by rw [hG]; rfl) (fun dp => ?_)
  refine tw_iload rfl rfl ?_
  refine tw_push rfl ?_
  refine tw_push rfl ?_
  refine tw_stat3 rfl (f_isWithin hG (LO := 0) (HI := 200) (by decide) (by decide)) (fun w9 h9 p49 => ?_)
  obtain ⟨⟨p49, rfl⟩ | ⟨p49, rfl⟩, rfl⟩ := p49
  · try dsimp only [tvI_i, tvJ_j, tvR_r] at p49
    exact tw_iret rfl ⟨Or.inl ⟨p49, rfl⟩, rfl⟩
  · try dsimp only [tvI_i, tvJ_j, tvR_r] at p49
    exact tw_iret rfl ⟨Or.inr ⟨p49, rfl⟩, rfl⟩
theorem f_addTest {G : zG} (hG : G.1 = zProg) {h : zH} {k : Int32} {s : Int32} {v : Int32} {u : Int32} (bu : 0 ≤ u.toInt ∧ u.toInt ≤ 1) (hs : tSh h) : tC zTt G 103 [.ref 54, .int k, .int s, .int v, .int u] h (phA 54 5 ((tvI (tF h 54 5)).toInt ≠ 200) [(55, k), (56, s), (57, v), (58, u)] h) := by
  refine tC_in (by rw [hG]; rfl) (fun dp => ?_)
  refine tw_aload rfl rfl ?_
  refine tw_getS rfl (hi_54_5 hs) ?_
  refine tw_push rfl ?_
  refine tw_ic_ne rfl (fun q50 => ?_) (fun q50 => ?_)
  · try dsimp only [tvI_i, tvJ_j, tvR_r] at q50
    have q50i := zneq (Y := 200) (by decide) q50
    refine tw_aload rfl rfl ?_
    refine tw_getS rfl (hs_54_0 hs) ?_
    refine tw_aload rfl rfl ?_
    refine tw_getS rfl (hi_54_5 hs) ?_
    refine tw_iload rfl rfl ?_
    refine tw_iast rfl (fun f51 => ?_)
    refine tw_aload rfl rfl ?_
    refine tw_getS rfl (hs_54_1 (tSh_SA hs)) ?_
    refine tw_aload rfl rfl ?_
    refine tw_getS rfl (tF_a (hi_54_5 hs)) ?_
    refine tw_iload rfl rfl ?_
    refine tw_iast rfl (fun f52 => ?_)
    refine tw_aload rfl rfl ?_
    refine tw_getS rfl (hs_54_2 (tSh_SA (tSh_SA hs))) ?_
    refine tw_aload rfl rfl ?_
    refine tw_getS rfl (tF_a (tF_a (hi_54_5 hs))) ?_
    refine tw_iload rfl rfl ?_
    refine tw_iast rfl (fun f53 => ?_)
    refine tw_aload rfl rfl ?_
    refine tw_getS rfl (hs_54_3 (tSh_SA (tSh_SA (tSh_SA hs)))) ?_
    refine tw_aload rfl rfl ?_
    refine tw_getS rfl (tF_a (tF_a (tF_a (hi_54_5 hs)))) ?_
    refine tw_iload rfl rfl ?_
    refine tw_bastZ bu rfl (fun kf54 f54 => ?_)
    refine tw_aload rfl rfl ?_
    refine tw_dup rfl ?_
    refine tw_getS rfl (tF_a (tF_a (tF_a (tF_a (hi_54_5 hs))))) ?_
    refine tw_dup_x1 rfl ?_
    refine tw_push rfl ?_
    refine tw_iadd rfl ?_
    refine tw_put rfl (fun f55 => ?_)
    exact tw_iret rfl (Or.inl ⟨by omega, congrArg some (hi_54_5 hs).symm, (tF_same f55), (fun q hq => by rcases List.mem_cons.mp hq with rfl | hq; (show tA _ 55 = _; exact (tA_ff (tA_n (by decide) (tA_n (by decide) (tA_n (by decide) (tA_st f51 rfl)))))); rcases List.mem_cons.mp hq with rfl | hq; (show tA _ 56 = _; exact (tA_ff (tA_n (by decide) (tA_n (by decide) (tA_st f52 (tA_n (by decide) rfl)))))); rcases List.mem_cons.mp hq with rfl | hq; (show tA _ 57 = _; exact (tA_ff (tA_n (by decide) (tA_st f53 (tA_n (by decide) (tA_n (by decide) rfl)))))); rcases List.mem_cons.mp hq with rfl | hq; (show tA _ 58 = _; exact (tA_ff (tA_st f54 (tA_n (by decide) (tA_n (by decide) (tA_n (by decide) rfl)))))); cases hq)⟩)
  · try dsimp only [tvI_i, tvJ_j, tvR_r] at q50
    have q50i := zeqi (Y := 200) (by decide) q50
    refine tw_push rfl ?_
    exact tw_iret rfl (Or.inr ⟨by omega, rfl, rfl, fun _ _ => rfl⟩)
theorem f_test {G : zG} (hG : G.1 = zProg) {h : zH} {k : Int32} {s : Int32} {v : Int32} {u : Int32} (bu : 0 ≤ u.toInt ∧ u.toInt ≤ 1) (hs : tSh h) : tC zTt G 129 [.ref 0, .int k, .int s, .int v, .int u] h (phA 54 5 (((0 ≤ k.toInt ∧ k.toInt < (tvI (tF h 1 6)).toInt) ∧ (0 ≤ s.toInt ∧ s.toInt ≤ 2) ∧ (0 ≤ v.toInt ∧ v.toInt ≤ 200)) ∧ (tvI (tF h 54 5)).toInt ≠ 200) [(55, k), (56, s), (57, v), (58, u)] h) := by
  refine tC_in (by rw [hG]; rfl) (fun dp => ?_)
  refine tw_aload rfl rfl ?_
  refine tw_getS rfl (hs_0_0 hs) ?_
  refine tw_iload rfl rfl ?_
  refine tw_virt1 rfl (f_hasKind hG hs) (fun w9 h9 p56 => ?_)
  obtain ⟨⟨p56, rfl⟩ | ⟨p56, rfl⟩, rfl⟩ := p56
  · try dsimp only [tvI_i, tvJ_j, tvR_r] at p56
    refine tw_if_eq rfl (fun z => absurd z (by decide)) (fun _ => ?_)
    refine tw_iload rfl rfl ?_
    refine tw_stat1 rfl (f_isSort hG) (fun w9 h9 p57 => ?_)
    obtain ⟨⟨p57, rfl⟩ | ⟨p57, rfl⟩, rfl⟩ := p57
    · try dsimp only [tvI_i, tvJ_j, tvR_r] at p57
      refine tw_if_eq rfl (fun z => absurd z (by decide)) (fun _ => ?_)
      refine tw_iload rfl rfl ?_
      refine tw_stat1 rfl (f_isSpeed hG) (fun w9 h9 p58 => ?_)
      obtain ⟨⟨p58, rfl⟩ | ⟨p58, rfl⟩, rfl⟩ := p58
      · try dsimp only [tvI_i, tvJ_j, tvR_r] at p58
        refine tw_if_eq rfl (fun z => absurd z (by decide)) (fun _ => ?_)
        refine tw_push rfl ?_
        refine tw_goto rfl ?_
        refine tw_istore rfl ?_
        refine tw_iload rfl rfl ?_
        refine tw_if_eq rfl (fun z => absurd z (by decide)) (fun _ => ?_)
        refine tw_aload rfl rfl ?_
        refine tw_getS rfl (hs_0_4 hs) ?_
        refine tw_iload rfl rfl ?_
        refine tw_iload rfl rfl ?_
        refine tw_iload rfl rfl ?_
        refine tw_iload rfl rfl ?_
        refine tw_virt4 rfl (f_addTest hG bu hs) (fun w9 h9 p59 => ?_)
        rcases p59 with ⟨p59, rfl, p59e, p59g⟩ | ⟨p59, rfl, p59e, p59g⟩
        · refine tw_goto rfl ?_
          exact tw_iret rfl (Or.inl ⟨by omega, congrArg some (hi_54_5 hs).symm, p59e, p59g⟩)
        · refine tw_goto rfl ?_
          exact tw_iret rfl (Or.inr ⟨by omega, rfl, p59e, p59g⟩)
      · try dsimp only [tvI_i, tvJ_j, tvR_r] at p58
        refine tw_if_eq rfl (fun _ => ?_) (fun z => absurd z (by decide))
        refine tw_push rfl ?_
        refine tw_istore rfl ?_
        refine tw_iload rfl rfl ?_
        refine tw_if_eq rfl (fun _ => ?_) (fun z => absurd z (by decide))
        refine tw_push rfl ?_
        exact tw_iret rfl (Or.inr ⟨by omega, rfl, rfl, fun _ _ => rfl⟩)
    · try dsimp only [tvI_i, tvJ_j, tvR_r] at p57
      refine tw_if_eq rfl (fun _ => ?_) (fun z => absurd z (by decide))
      refine tw_push rfl ?_
      refine tw_istore rfl ?_
      refine tw_iload rfl rfl ?_
      refine tw_if_eq rfl (fun _ => ?_) (fun z => absurd z (by decide))
      refine tw_push rfl ?_
      exact tw_iret rfl (Or.inr ⟨by omega, rfl, rfl, fun _ _ => rfl⟩)
  · try dsimp only [tvI_i, tvJ_j, tvR_r] at p56
    refine tw_if_eq rfl (fun _ => ?_) (fun z => absurd z (by decide))
    refine tw_push rfl ?_
    refine tw_istore rfl ?_
    refine tw_iload rfl rfl ?_
    refine tw_if_eq rfl (fun _ => ?_) (fun z => absurd z (by decide))
    refine tw_push rfl ?_
    exact tw_iret rfl (Or.inr ⟨by omega, rfl, rfl, fun _ _ => rfl⟩)
theorem g_isKind {G : zG} (hG : G.1 = zProg) {h : zH} {n : Int32} (hs : tSh h) (hk : 0 ≤ (tvI (tF h 111 3)).toInt) : tC zTt G 176 [.ref 111, .int n] h (fun w h2 => tBo (0 ≤ n.toInt ∧ n.toInt < (tvI (tF h 111 3)).toInt) w ∧ h2 = h) := by
  refine tC_in (by rw [hG]; rfl) (fun dp => ?_)
  refine tw_iload rfl rfl ?_
  refine tw_i2l rfl ?_
  refine tw_push rfl ?_
  refine tw_aload rfl rfl ?_
  refine tw_getS rfl (hi_111_3 hs) ?_
  refine tw_push rfl ?_
  refine tw_isub rfl ?_
  refine tw_i2l rfl ?_
  refine tw_stat3 rfl (f_in hG  (LO := 0)  (Int32.toInt_toInt64 _) (by decide) (Int32.toInt_toInt64 _)) (fun w9 h9 p60 => ?_)
  obtain ⟨⟨p60, rfl⟩ | ⟨p60, rfl⟩, rfl⟩ := p60
  · try dsimp only [tvI_i, tvJ_j, tvR_r] at p60
    exact tw_iret rfl ⟨Or.inl ⟨by have e := zsub1 hk; have := p60; omega, rfl⟩, rfl⟩
  · try dsimp only [tvI_i, tvJ_j, tvR_r] at p60
    exact tw_iret rfl ⟨Or.inr ⟨by have e := zsub1 hk; have := p60; omega, rfl⟩, rfl⟩
theorem g_isSort {G : zG} (hG : G.1 = zProg) {h : zH} {n : Int32} : tC zTt G 173 [.int n] h (fun w h2 => tBo (0 ≤ n.toInt ∧ n.toInt ≤ 2) w ∧ h2 = h) := by
  refine tC_in (by rw [hG]; rfl) (fun dp => ?_)
  refine tw_iload rfl rfl ?_
  refine tw_i2l rfl ?_
  refine tw_push rfl ?_
  refine tw_push rfl ?_
  refine tw_stat3 rfl (f_in hG  (LO := 0) (HI := 2) (Int32.toInt_toInt64 _) (by decide) (by decide)) (fun w9 h9 p61 => ?_)
  obtain ⟨⟨p61, rfl⟩ | ⟨p61, rfl⟩, rfl⟩ := p61
  · try dsimp only [tvI_i, tvJ_j, tvR_r] at p61
    exact tw_iret rfl ⟨Or.inl ⟨p61, rfl⟩, rfl⟩
  · try dsimp only [tvI_i, tvJ_j, tvR_r] at p61
    exact tw_iret rfl ⟨Or.inr ⟨p61, rfl⟩, rfl⟩
theorem g_test {G : zG} (hG : G.1 = zProg) {h : zH} {k : Int32} {s : Int32} {v : Int32} {u : Int32} (bu : 0 ≤ u.toInt ∧ u.toInt ≤ 1) (hs : tSh h) (hk3 : 0 ≤ (tvI (tF h 111 3)).toInt) : tC zTt G 238 [.ref 111, .int k, .int s, .int v, .int u] h (phA 111 50 (((0 ≤ k.toInt ∧ k.toInt < (tvI (tF h 111 3)).toInt) ∧ (0 ≤ s.toInt ∧ s.toInt ≤ 2) ∧ (0 ≤ v.toInt ∧ v.toInt ≤ 200)) ∧ (tvI (tF h 111 50)).toInt ≠ 200) [(145, k), (146, s), (147, v), (151, u)] h) := by
  refine tC_in (by rw [hG]; rfl) (fun dp => ?_)
  refine tw_aload rfl rfl ?_
  refine tw_getS rfl (hi_111_50 hs) ?_
  refine tw_push rfl ?_
  refine tw_ic_eq rfl (fun q62 => ?_) (fun q62 => ?_)
  · try dsimp only [tvI_i, tvJ_j, tvR_r] at q62
    have q62i := zeqi (Y := 200) (by decide) q62
    refine tw_push rfl ?_
    exact tw_iret rfl (Or.inr ⟨by omega, rfl, rfl, fun _ _ => rfl⟩)
  · try dsimp only [tvI_i, tvJ_j, tvR_r] at q62
    have q62i := zneq (Y := 200) (by decide) q62
    refine tw_aload rfl rfl ?_
    refine tw_iload rfl rfl ?_
    refine tw_virt1 rfl (g_isKind hG hs hk3) (fun w9 h9 p63 => ?_)
    obtain ⟨⟨p63, rfl⟩ | ⟨p63, rfl⟩, rfl⟩ := p63
    · try dsimp only [tvI_i, tvJ_j, tvR_r] at p63
      refine tw_if_eq rfl (fun z => absurd z (by decide)) (fun _ => ?_)
      refine tw_iload rfl rfl ?_
      refine tw_stat1 rfl (g_isSort hG) (fun w9 h9 p64 => ?_)
      obtain ⟨⟨p64, rfl⟩ | ⟨p64, rfl⟩, rfl⟩ := p64
      · try dsimp only [tvI_i, tvJ_j, tvR_r] at p64
        refine tw_if_eq rfl (fun z => absurd z (by decide)) (fun _ => ?_)
        refine tw_iload rfl rfl ?_
        refine tw_i2l rfl ?_
        refine tw_push rfl ?_
        refine tw_push rfl ?_
        refine tw_stat3 rfl (f_in hG  (LO := 0) (HI := 200) (Int32.toInt_toInt64 _) (by decide) (by decide)) (fun w9 h9 p65 => ?_)
        obtain ⟨⟨p65, rfl⟩ | ⟨p65, rfl⟩, rfl⟩ := p65
        · try dsimp only [tvI_i, tvJ_j, tvR_r] at p65
          refine tw_if_ne rfl (fun _ => ?_) (fun z => absurd z (by decide))
          refine tw_aload rfl rfl ?_
          refine tw_getS rfl (hs_111_52 hs) ?_
          refine tw_aload rfl rfl ?_
          refine tw_getS rfl (hi_111_50 hs) ?_
          refine tw_iload rfl rfl ?_
          refine tw_iast rfl (fun f66 => ?_)
          refine tw_aload rfl rfl ?_
          refine tw_getS rfl (hs_111_53 (tSh_SA hs)) ?_
          refine tw_aload rfl rfl ?_
          refine tw_getS rfl (tF_a (hi_111_50 hs)) ?_
          refine tw_iload rfl rfl ?_
          refine tw_iast rfl (fun f67 => ?_)
          refine tw_aload rfl rfl ?_
          refine tw_getS rfl (hs_111_54 (tSh_SA (tSh_SA hs))) ?_
          refine tw_aload rfl rfl ?_
          refine tw_getS rfl (tF_a (tF_a (hi_111_50 hs))) ?_
          refine tw_iload rfl rfl ?_
          refine tw_iast rfl (fun f68 => ?_)
          refine tw_aload rfl rfl ?_
          refine tw_getS rfl (hs_111_58 (tSh_SA (tSh_SA (tSh_SA hs)))) ?_
          refine tw_aload rfl rfl ?_
          refine tw_getS rfl (tF_a (tF_a (tF_a (hi_111_50 hs)))) ?_
          refine tw_iload rfl rfl ?_
          refine tw_bastZ bu rfl (fun kf69 f69 => ?_)
          refine tw_aload rfl rfl ?_
          refine tw_dup rfl ?_
          refine tw_getS rfl (tF_a (tF_a (tF_a (tF_a (hi_111_50 hs))))) ?_
          refine tw_push rfl ?_
          refine tw_iadd rfl ?_
          refine tw_put rfl (fun f70 => ?_)
          refine tw_aload rfl rfl ?_
          refine tw_getS rfl (tF_same f70) ?_
          refine tw_push rfl ?_
          refine tw_isub rfl ?_
          exact tw_iret rfl (Or.inl ⟨by omega, wret1 (hi_111_50 hs), (tF_same f70), (fun q hq => by rcases List.mem_cons.mp hq with rfl | hq; (show tA _ 145 = _; exact (tA_ff (tA_n (by decide) (tA_n (by decide) (tA_n (by decide) (tA_st f66 rfl)))))); rcases List.mem_cons.mp hq with rfl | hq; (show tA _ 146 = _; exact (tA_ff (tA_n (by decide) (tA_n (by decide) (tA_st f67 (tA_n (by decide) rfl)))))); rcases List.mem_cons.mp hq with rfl | hq; (show tA _ 147 = _; exact (tA_ff (tA_n (by decide) (tA_st f68 (tA_n (by decide) (tA_n (by decide) rfl)))))); rcases List.mem_cons.mp hq with rfl | hq; (show tA _ 151 = _; exact (tA_ff (tA_st f69 (tA_n (by decide) (tA_n (by decide) (tA_n (by decide) rfl)))))); cases hq)⟩)
        · try dsimp only [tvI_i, tvJ_j, tvR_r] at p65
          refine tw_if_ne rfl (fun z => absurd z (by decide)) (fun _ => ?_)
          refine tw_push rfl ?_
          exact tw_iret rfl (Or.inr ⟨by omega, rfl, rfl, fun _ _ => rfl⟩)
      · try dsimp only [tvI_i, tvJ_j, tvR_r] at p64
        refine tw_if_eq rfl (fun _ => ?_) (fun z => absurd z (by decide))
        refine tw_push rfl ?_
        exact tw_iret rfl (Or.inr ⟨by omega, rfl, rfl, fun _ _ => rfl⟩)
    · try dsimp only [tvI_i, tvJ_j, tvR_r] at p63
      refine tw_if_eq rfl (fun _ => ?_) (fun z => absurd z (by decide))
      refine tw_push rfl ?_
      exact tw_iret rfl (Or.inr ⟨by omega, rfl, rfl, fun _ _ => rfl⟩)
theorem a_test {k : Int32} {s : Int32} {v : Int32} {u : Int32} {h h2 h3 : zH} {w w2 : Option Value} (h_kinds : R_kinds h) (hR : R_tests h) (e1 : tF h2 111 50 = tF h 111 50) (e2 : tF h3 54 5 = tF h2 54 5) (o_kinds : tF h2 111 3 = tF h 111 3) (h_tkind : R_tkind h) (o_tkind : tA h2 145 = tA h 145) (t_tkind : tA h3 55 = tA h2 55) (h_tsort : R_tsort h) (o_tsort : tA h2 146 = tA h 146) (t_tsort : tA h3 56 = tA h2 56) (h_tspeed : R_tspeed h) (o_tspeed : tA h2 147 = tA h 147) (t_tspeed : tA h3 57 = tA h2 57) (h_tburn : R_tburn h) (o_tburn : tA h2 151 = tA h 151) (t_tburn : tA h3 58 = tA h2 58) (k1 : phA 54 5 (((0 ≤ k.toInt ∧ k.toInt < (tvI (tF h 1 6)).toInt) ∧ (0 ≤ s.toInt ∧ s.toInt ≤ 2) ∧ (0 ≤ v.toInt ∧ v.toInt ≤ 200)) ∧ (tvI (tF h 54 5)).toInt ≠ 200) [(55, k), (56, s), (57, v), (58, u)] h w h2) (k2 : phA 111 50 (((0 ≤ k.toInt ∧ k.toInt < (tvI (tF h2 111 3)).toInt) ∧ (0 ≤ s.toInt ∧ s.toInt ≤ 2) ∧ (0 ≤ v.toInt ∧ v.toInt ≤ 200)) ∧ (tvI (tF h2 111 50)).toInt ≠ 200) [(145, k), (146, s), (147, v), (151, u)] h2 w2 h3) : w2 = w ∧ R_tests h3 ∧ R_tkind h3 ∧ R_tsort h3 ∧ R_tspeed h3 ∧ R_tburn h3 := by
  have hC : (((0 ≤ k.toInt ∧ k.toInt < (tvI (tF h 1 6)).toInt) ∧ (0 ≤ s.toInt ∧ s.toInt ≤ 2) ∧ (0 ≤ v.toInt ∧ v.toInt ≤ 200)) ∧ (tvI (tF h 54 5)).toInt ≠ 200) ↔ (((0 ≤ k.toInt ∧ k.toInt < (tvI (tF h2 111 3)).toInt) ∧ (0 ≤ s.toInt ∧ s.toInt ≤ 2) ∧ (0 ≤ v.toInt ∧ v.toInt ≤ 200)) ∧ (tvI (tF h2 111 50)).toInt ≠ 200) := by
    have hR2 := hR
    unfold R_tests at hR2
    unfold R_kinds at h_kinds
    rw [o_kinds, ← h_kinds]
    rw [e1, ← hR2]
  obtain ⟨r1, r2, r3⟩ := phA_a hR e1 e2 hC k1 k2
  exact ⟨r1, r2, r3 55 145 k (by simp) (by simp) h_tkind o_tkind t_tkind, r3 56 146 s (by simp) (by simp) h_tsort o_tsort t_tsort, r3 57 147 v (by simp) (by simp) h_tspeed o_tspeed t_tspeed, r3 58 151 u (by simp) (by simp) h_tburn o_tburn t_tburn⟩
/-! bits of a long -/
noncomputable def tB (x : Int64) (p : Int32) : Prop := (x >>> (p.toInt64 &&& 63)) &&& 1 = 1
theorem tB_k : ∀ n, n < 64 → ((Int32.ofNat n).toInt64 &&& 63).toBitVec.smod 64 = BitVec.ofNat 64 n := by decide +kernel
theorem zofP {p : Int32} (h : 0 ≤ p.toInt) : p = Int32.ofNat p.toInt.toNat := by
  have := Int32.toInt_lt p
  refine Int32.toInt_inj.mp ?_
  rw [yofN (by omega)]
  omega
theorem tB_g {x : Int64} {p : Int32} (h : 0 ≤ p.toInt ∧ p.toInt < 64) : tB x p ↔ x.toBitVec.getLsbD p.toInt.toNat = true := by
  have hk := tB_k p.toInt.toNat (by omega)
  rw [← zofP h.1] at hk
  have e : ((x >>> (p.toInt64 &&& 63)) &&& 1).toBitVec = (x.toBitVec.sshiftRight p.toInt.toNat) &&& 1#64 := by
    show (x.toBitVec.sshiftRight' ((p.toInt64 &&& 63).toBitVec.smod 64)) &&& 1#64 = _
    rw [hk]
    show (x.toBitVec.sshiftRight (BitVec.ofNat 64 p.toInt.toNat).toNat) &&& 1#64 = _
    rw [BitVec.toNat_ofNat, Nat.mod_eq_of_lt (by omega)]
  have e2 : (x.toBitVec.sshiftRight p.toInt.toNat).getLsbD 0 = x.toBitVec.getLsbD p.toInt.toNat := by
    rw [BitVec.getLsbD_sshiftRight]
    have e9 : p.toNatClampNeg = p.toInt.toNat := rfl
    simp
    intro z
    omega
  unfold tB
  rw [← Int64.toBitVec_inj, e, BitVec.and_one_eq_setWidth_ofBool_getLsbD, e2]
  cases x.toBitVec.getLsbD p.toInt.toNat <;> decide
theorem tB_or {x : Int64} {p q : Int32} (hp : 0 ≤ p.toInt ∧ p.toInt < 64) (hq : 0 ≤ q.toInt ∧ q.toInt < 64) : tB (x ||| ((1 : Int64) <<< (q.toInt64 &&& 63))) p ↔ tB x p ∨ p = q := by
  have hk := tB_k q.toInt.toNat (by omega)
  rw [← zofP hq.1] at hk
  rw [tB_g hp, tB_g hp]
  have e : (x ||| ((1 : Int64) <<< (q.toInt64 &&& 63))).toBitVec = x.toBitVec ||| ((1#64) <<< q.toInt.toNat) := by
    show x.toBitVec ||| ((1#64) <<< ((q.toInt64 &&& 63).toBitVec.smod 64)) = _
    rw [hk]
    show x.toBitVec ||| ((1#64) <<< (BitVec.ofNat 64 q.toInt.toNat).toNat) = _
    rw [BitVec.toNat_ofNat, Nat.mod_eq_of_lt (by omega)]
  rw [e, BitVec.getLsbD_or, BitVec.getLsbD_shiftLeft, BitVec.getLsbD_one, Bool.or_eq_true]
  have e3 : (decide (p.toInt.toNat < 64) && !decide (p.toInt.toNat < q.toInt.toNat) && (decide (0 < 64) && decide (p.toInt.toNat - q.toInt.toNat = 0))) = true ↔ p = q := by
    have e9 : p.toNatClampNeg = p.toInt.toNat := rfl
    have e8 : q.toNatClampNeg = q.toInt.toNat := rfl
    constructor
    · intro z
      simp at z
      exact Int32.toInt_inj.mp (by omega)
    · rintro rfl
      simp
      omega
  rw [← e3]
theorem tB_0 {p : Int32} (hp : 0 ≤ p.toInt ∧ p.toInt < 64) : ¬ tB 0 p := by
  rw [tB_g hp]
  show ¬ (0#64).getLsbD _ = true
  simp
theorem tJ_st {h : zH} {r i : Nat} {x : Int64} {z : Int32} (hf : tInJ h r z) {f : Nat → Int64} (k : tJ h r = f) : tJ (tSJ h r i x) r = fun j => if j = i then x else f j := by
  obtain ⟨N, g, e, -⟩ := hf
  rw [tJ_tSJ ⟨_, _, _, e⟩]
  funext j
  dsimp only
  rw [k]
  by_cases e : j = i
  · rw [if_pos ⟨rfl, e⟩, if_pos e]
  · rw [if_neg (fun z => e z.2), if_neg e]
theorem tJ_ff {h : zH} {r b p : Nat} {w : Value} {f : Nat → Int64} (k : tJ h p = f) : tJ (tSF h r b w) p = f := by rw [tJ_tSF]; exact k
theorem tJ_aa {h : zH} {r i p : Nat} {x : Int32} {f : Nat → Int64} (k : tJ h p = f) : tJ (tSA h r i x) p = f := by rw [tJ_tSA]; exact k
/-- among the first n pairs there is this one -/
noncomputable def sF (a b : Nat → Int32) (t p : Int32) (n : Nat) : Prop := ∃ i, i < n ∧ a i = t ∧ b i = p
section SF
variable {a b : Nat → Int32} {t p x y : Int32} {n : Nat} {P : Prop}
theorem sF_s (h : sF a b t p n) : sF a b t p (n + 1) := by
  obtain ⟨i, h1, h2⟩ := h
  exact ⟨i, by omega, h2⟩
theorem sF_y (hx : x.toNatClampNeg = n) (h1 : a x.toNatClampNeg = t) (h2 : b x.toNatClampNeg = p) : sF a b t p (n + 1) := ⟨x.toNatClampNeg, by omega, h1, h2⟩
theorem sF_n (hx : x.toNatClampNeg = n) (h : ¬ sF a b t p n) (q : ¬ (a x.toNatClampNeg = t ∧ b x.toNatClampNeg = p)) : ¬ sF a b t p (n + 1) := by
  rintro ⟨i, h1, h2⟩
  rcases Nat.lt_or_ge i n with z | z
  · exact h ⟨i, z, h2⟩
  · have e : i = x.toNatClampNeg := by omega
    rw [e] at h2
    exact q h2
theorem sF_v (hy : (y = 1 ∧ P) ∨ (y = 0 ∧ ¬ P)) : (y = 0 → ¬ P) ∧ (¬ y = 0 → P) := by
  rcases hy with ⟨rfl, z⟩ | ⟨rfl, z⟩
  · exact ⟨fun q => absurd q (by decide), fun _ => z⟩
  · exact ⟨fun _ => z, fun q => absurd rfl q⟩
/-- one pair more at the end -/
theorem sF_up {c d : Nat → Int32} {u v : Int32} (hc : c = fun j => if j = n then u else a j) (hd : d = fun j => if j = n then v else b j) : sF c d t p (n + 1) ↔ sF a b t p n ∨ (u = t ∧ v = p) := by
  subst hc hd
  constructor
  · rintro ⟨i, h1, h2, h3⟩
    dsimp only at h2 h3
    by_cases e : i = n
    · rw [if_pos e] at h2 h3
      exact Or.inr ⟨h2, h3⟩
    · rw [if_neg e] at h2 h3
      exact Or.inl ⟨i, by omega, h2, h3⟩
  · rintro (⟨i, h1, h2, h3⟩ | ⟨h2, h3⟩)
    · exact ⟨i, by omega, by dsimp only; rw [if_neg (by omega)]; exact h2, by dsimp only; rw [if_neg (by omega)]; exact h3⟩
    · exact ⟨n, by omega, by dsimp only; rw [if_pos rfl]; exact h2, by dsimp only; rw [if_pos rfl]; exact h3⟩
end SF
noncomputable def R_readings (h : zH) : Prop := tF h 54 9 = tF h 111 51
noncomputable def R_rtest (h : zH) : Prop := tA h 60 = tA h 148
noncomputable def R_rby (h : zH) : Prop := tA h 61 = tA h 149
noncomputable def R_rin (h : zH) : Prop := tA h 62 = tA h 150
noncomputable def R_rdb (h : zH) : Prop := ∀ t p : Int32, (0 ≤ t.toInt ∧ t.toInt < 200) → (0 ≤ p.toInt ∧ p.toInt < 60) → (tB (tJ h 59 t.toNatClampNeg) p ↔ sF (tA h 60) (tA h 61) t p (tvI (tF h 54 9)).toNatClampNeg)
theorem zof {x : Int32} {n : Nat} (h : x.toInt = n) : x = Int32.ofNat n := by
  have hx := Int32.toInt_lt x
  exact Int32.toInt_inj.mp (h.trans (yofN (by omega)).symm)
theorem zof_cl {x : Int32} {n : Nat} (h : x.toInt = n) : x.toNatClampNeg = n := by rw [zclE, h]; rfl
theorem zincN {x : Int32} {n : Nat} (h : x.toInt = n) (hn : n < 2147483647) : (x + 1).toInt = ((n + 1 : Nat) : Int) := by
  rw [Int32.toInt_add, h]
  exact Int.bmod_eq_of_le (by show (-2147483648 : Int) ≤ (n : Int) + 1; omega) (by show (n : Int) + 1 < (2147483648 : Int); omega)
theorem zen {x y : Int32} {n : Nat} (hx : x.toInt = n) (hn : (n : Int) ≤ y.toInt) (hq : y.toInt ≤ x.toInt) : n = y.toNatClampNeg := by
  rw [zclE]
  omega
theorem zincL {x y : Int32} {n : Nat} (h : x.toInt = n) (hy : x.toInt < y.toInt) : (x + 1).toInt = ((n + 1 : Nat) : Int) := zincN h (by have := Int32.toInt_lt y; omega)
theorem f_hasTest {G : zG} (hG : G.1 = zProg) {h : zH} {n : Int32} (hs : tSh h) : tC zTt G 102 [.ref 54, .int n] h (fun w h2 => tBo (0 ≤ n.toInt ∧ n.toInt < (tvI (tF h 54 5)).toInt) w ∧ h2 = h) := by
  refine tC_in (by rw [hG]; rfl) (fun dp => ?_)
  refine tw_iload rfl rfl ?_
  refine tw_if_lt rfl (fun q71 => ?_) (fun q71 => ?_)
  · try dsimp only [tvI_i, tvJ_j, tvR_r] at q71
    refine tw_push rfl ?_
    exact tw_iret rfl ⟨Or.inr ⟨by omega, rfl⟩, rfl⟩
  · try dsimp only [tvI_i, tvJ_j, tvR_r] at q71
    refine tw_iload rfl rfl ?_
    refine tw_aload rfl rfl ?_
    refine tw_getS rfl (hi_54_5 hs) ?_
    refine tw_ic_ge rfl (fun q72 => ?_) (fun q72 => ?_)
    · try dsimp only [tvI_i, tvJ_j, tvR_r] at q72
      refine tw_push rfl ?_
      exact tw_iret rfl ⟨Or.inr ⟨by omega, rfl⟩, rfl⟩
    · try dsimp only [tvI_i, tvJ_j, tvR_r] at q72
      refine tw_push rfl ?_
      refine tw_goto rfl ?_
      exact tw_iret rfl ⟨Or.inl ⟨by omega, rfl⟩, rfl⟩
theorem f_hasPerson {G : zG} (hG : G.1 = zProg) {h : zH} {n : Int32} (hs : tSh h) : tC zTt G 15 [.ref 36, .int n] h (fun w h2 => tBo (0 ≤ n.toInt ∧ n.toInt < (tvI (tF h 36 2)).toInt) w ∧ h2 = h) := by
  refine tC_in (by rw [hG]; rfl) (fun dp => ?_)
  refine tw_iload rfl rfl ?_
  refine tw_if_lt rfl (fun q73 => ?_) (fun q73 => ?_)
  · try dsimp only [tvI_i, tvJ_j, tvR_r] at q73
    refine tw_push rfl ?_
    exact tw_iret rfl ⟨Or.inr ⟨by omega, rfl⟩, rfl⟩
  · try dsimp only [tvI_i, tvJ_j, tvR_r] at q73
    refine tw_iload rfl rfl ?_
    refine tw_aload rfl rfl ?_
    refine tw_getS rfl (hi_36_2 hs) ?_
    refine tw_ic_ge rfl (fun q74 => ?_) (fun q74 => ?_)
    · try dsimp only [tvI_i, tvJ_j, tvR_r] at q74
      refine tw_push rfl ?_
      exact tw_iret rfl ⟨Or.inr ⟨by omega, rfl⟩, rfl⟩
    · try dsimp only [tvI_i, tvJ_j, tvR_r] at q74
      refine tw_push rfl ?_
      refine tw_goto rfl ?_
      exact tw_iret rfl ⟨Or.inl ⟨by omega, rfl⟩, rfl⟩
theorem f_addReading {G : zG} (hG : G.1 = zProg) {h : zH} {t p m : Int32} (hs : tSh h) : tC zTt G 104 [.ref 54, .int t, .int p, .int m] h (fun w h2 => (((tvI (tF h 54 9)).toInt ≠ 600 ∧ ¬ tB (tJ h 59 t.toNatClampNeg) p) ∧ w = some (.int 1) ∧ tF h2 54 9 = .int (tvI (tF h 54 9) + 1) ∧ tJ h2 59 = (fun j => if j = t.toNatClampNeg then tJ h 59 t.toNatClampNeg ||| ((1 : Int64) <<< (p.toInt64 &&& 63)) else tJ h 59 j) ∧ tA h2 60 = (fun j => if j = (tvI (tF h 54 9)).toNatClampNeg then t else tA h 60 j) ∧ tA h2 61 = (fun j => if j = (tvI (tF h 54 9)).toNatClampNeg then p else tA h 61 j) ∧ tA h2 62 = (fun j => if j = (tvI (tF h 54 9)).toNatClampNeg then m else tA h 62 j)) ∨ (¬ ((tvI (tF h 54 9)).toInt ≠ 600 ∧ ¬ tB (tJ h 59 t.toNatClampNeg) p) ∧ w = some (.int 0) ∧ h2 = h)) := by
  refine tC_in (by rw [hG]; rfl) (fun dp => ?_)
  refine tw_aload rfl rfl ?_
  refine tw_getS rfl (hi_54_9 hs) ?_
  refine tw_push rfl ?_
  refine tw_ic_eq rfl (fun q75 => ?_) (fun q75 => ?_)
  · try dsimp only [tvI_i, tvJ_j, tvR_r] at q75
    have q75i := zeqi (Y := 600) (by decide) q75
    refine tw_push rfl ?_
    exact tw_iret rfl (Or.inr ⟨fun z => absurd z.1 (by omega), rfl, rfl⟩)
  · try dsimp only [tvI_i, tvJ_j, tvR_r] at q75
    have q75i := zneq (Y := 600) (by decide) q75
    refine tw_aload rfl rfl ?_
    refine tw_getS rfl (hs_54_4 hs) ?_
    refine tw_iload rfl rfl ?_
    refine tw_lald rfl (fun f76 => ?_)
    refine tw_iload rfl rfl ?_
    refine tw_lshr rfl ?_
    refine tw_push rfl ?_
    refine tw_land rfl ?_
    refine tw_push rfl ?_
    refine tw_lc_ne rfl rfl (fun q77 => ?_) (fun q77 => ?_)
    · try dsimp only [tvI_i, tvJ_j, tvR_r] at q77
      refine tw_aload rfl rfl ?_
      refine tw_getS rfl (hs_54_4 hs) ?_
      refine tw_iload rfl rfl ?_
      refine tw_dup2 rfl ?_
      refine tw_lald rfl (fun f78 => ?_)
      refine tw_push rfl ?_
      refine tw_iload rfl rfl ?_
      refine tw_lshl rfl ?_
      refine tw_lor rfl ?_
      refine tw_last rfl (fun f79 => ?_)
      refine tw_aload rfl rfl ?_
      refine tw_getS rfl (hs_54_6 (tSh_SJ hs)) ?_
      refine tw_aload rfl rfl ?_
      refine tw_getS rfl (tF_j (hi_54_9 hs)) ?_
      refine tw_iload rfl rfl ?_
      refine tw_iast rfl (fun f80 => ?_)
      refine tw_aload rfl rfl ?_
      refine tw_getS rfl (hs_54_7 (tSh_SA (tSh_SJ hs))) ?_
      refine tw_aload rfl rfl ?_
      refine tw_getS rfl (tF_a (tF_j (hi_54_9 hs))) ?_
      refine tw_iload rfl rfl ?_
      refine tw_iast rfl (fun f81 => ?_)
      refine tw_aload rfl rfl ?_
      refine tw_getS rfl (hs_54_8 (tSh_SA (tSh_SA (tSh_SJ hs)))) ?_
      refine tw_aload rfl rfl ?_
      refine tw_getS rfl (tF_a (tF_a (tF_j (hi_54_9 hs)))) ?_
      refine tw_iload rfl rfl ?_
      refine tw_iast rfl (fun f82 => ?_)
      refine tw_aload rfl rfl ?_
      refine tw_dup rfl ?_
      refine tw_getS rfl (tF_a (tF_a (tF_a (tF_j (hi_54_9 hs))))) ?_
      refine tw_push rfl ?_
      refine tw_iadd rfl ?_
      refine tw_put rfl (fun f83 => ?_)
      refine tw_push rfl ?_
      exact tw_iret rfl (Or.inl ⟨⟨by omega, q77⟩, rfl, (tF_same f83), (tJ_ff (tJ_aa (tJ_aa (tJ_aa (tJ_st f79 rfl))))), (tA_ff (tA_n (by decide) (tA_n (by decide) (tA_st f80 (tA_jj rfl))))), (tA_ff (tA_n (by decide) (tA_st f81 (tA_n (by decide) (tA_jj rfl))))), (tA_ff (tA_st f82 (tA_n (by decide) (tA_n (by decide) (tA_jj rfl)))))⟩)
    · try dsimp only [tvI_i, tvJ_j, tvR_r] at q77
      refine tw_push rfl ?_
      exact tw_iret rfl (Or.inr ⟨fun z => z.2 q77, rfl, rfl⟩)
noncomputable def ph_rdc (t p : Int32) (h : zH) (w : Option Value) (h2 : zH) : Prop := ((((0 ≤ t.toInt ∧ t.toInt < (tvI (tF h 54 5)).toInt) ∧ (0 ≤ p.toInt ∧ p.toInt < (tvI (tF h 36 2)).toInt)) ∧ (tvI (tF h 54 9)).toInt ≠ 600 ∧ ¬ tB (tJ h 59 t.toNatClampNeg) p) ∧ w = some (.int 1) ∧ tF h2 54 9 = .int (tvI (tF h 54 9) + 1) ∧ tJ h2 59 = (fun j => if j = t.toNatClampNeg then tJ h 59 t.toNatClampNeg ||| ((1 : Int64) <<< (p.toInt64 &&& 63)) else tJ h 59 j) ∧ tA h2 60 = (fun j => if j = (tvI (tF h 54 9)).toNatClampNeg then t else tA h 60 j) ∧ tA h2 61 = (fun j => if j = (tvI (tF h 54 9)).toNatClampNeg then p else tA h 61 j) ∧ tA h2 62 = (fun j => if j = (tvI (tF h 54 9)).toNatClampNeg then tvI (tF h 0 14) else tA h 62 j)) ∨ (¬ (((0 ≤ t.toInt ∧ t.toInt < (tvI (tF h 54 5)).toInt) ∧ (0 ≤ p.toInt ∧ p.toInt < (tvI (tF h 36 2)).toInt)) ∧ (tvI (tF h 54 9)).toInt ≠ 600 ∧ ¬ tB (tJ h 59 t.toNatClampNeg) p) ∧ w = some (.int 0) ∧ h2 = h)
theorem f_reads {G : zG} (hG : G.1 = zProg) {h : zH} {t p : Int32} (hs : tSh h) : tC zTt G 130 [.ref 0, .int t, .int p] h (ph_rdc t p h) := by
  refine tC_in (by rw [hG]; rfl) (fun dp => ?_)
  refine tw_aload rfl rfl ?_
  refine tw_getS rfl (hs_0_4 hs) ?_
  refine tw_iload rfl rfl ?_
  refine tw_virt1 rfl (f_hasTest hG hs) (fun w9 h9 p84 => ?_)
  obtain ⟨⟨p84, rfl⟩ | ⟨p84, rfl⟩, rfl⟩ := p84
  · try dsimp only [tvI_i, tvJ_j, tvR_r] at p84
    refine tw_if_eq rfl (fun z => absurd z (by decide)) (fun _ => ?_)
    refine tw_aload rfl rfl ?_
    refine tw_getS rfl (hs_0_1 hs) ?_
    refine tw_iload rfl rfl ?_
    refine tw_virt1 rfl (f_hasPerson hG hs) (fun w9 h9 p85 => ?_)
    obtain ⟨⟨p85, rfl⟩ | ⟨p85, rfl⟩, rfl⟩ := p85
    · try dsimp only [tvI_i, tvJ_j, tvR_r] at p85
      refine tw_if_eq rfl (fun z => absurd z (by decide)) (fun _ => ?_)
      refine tw_aload rfl rfl ?_
      refine tw_getS rfl (hs_0_4 hs) ?_
      refine tw_iload rfl rfl ?_
      refine tw_iload rfl rfl ?_
      refine tw_aload rfl rfl ?_
      refine tw_getS rfl (hi_0_14 hs) ?_
      refine tw_virt3 rfl (f_addReading hG hs) (fun w9 h9 p86 => ?_)
      rcases p86 with ⟨p86, rfl, p86e⟩ | ⟨p86, rfl, rfl⟩
      · refine tw_if_eq rfl (fun z => absurd z (by decide)) (fun _ => ?_)
        refine tw_push rfl ?_
        refine tw_goto rfl ?_
        exact tw_iret rfl (Or.inl ⟨⟨by omega, p86⟩, rfl, p86e⟩)
      · refine tw_if_eq rfl (fun _ => ?_) (fun z => absurd z (by decide))
        refine tw_push rfl ?_
        exact tw_iret rfl (Or.inr ⟨fun z => p86 z.2, rfl, rfl⟩)
    · try dsimp only [tvI_i, tvJ_j, tvR_r] at p85
      refine tw_if_eq rfl (fun _ => ?_) (fun z => absurd z (by decide))
      refine tw_push rfl ?_
      exact tw_iret rfl (Or.inr ⟨fun z => absurd z.1 (by omega), rfl, rfl⟩)
  · try dsimp only [tvI_i, tvJ_j, tvR_r] at p84
    refine tw_if_eq rfl (fun _ => ?_) (fun z => absurd z (by decide))
    refine tw_push rfl ?_
    exact tw_iret rfl (Or.inr ⟨fun z => absurd z.1 (by omega), rfl, rfl⟩)
theorem g_isPerson {G : zG} (hG : G.1 = zProg) {h : zH} {n : Int32} (hs : tSh h) (hk : 0 ≤ (tvI (tF h 111 2)).toInt) : tC zTt G 175 [.ref 111, .int n] h (fun w h2 => tBo (0 ≤ n.toInt ∧ n.toInt < (tvI (tF h 111 2)).toInt) w ∧ h2 = h) := by
  refine tC_in (by rw [hG]; rfl) (fun dp => ?_)
  refine tw_iload rfl rfl ?_
  refine tw_i2l rfl ?_
  refine tw_push rfl ?_
  refine tw_aload rfl rfl ?_
  refine tw_getS rfl (hi_111_2 hs) ?_
  refine tw_push rfl ?_
  refine tw_isub rfl ?_
  refine tw_i2l rfl ?_
  refine tw_stat3 rfl (f_in hG  (LO := 0)  (Int32.toInt_toInt64 _) (by decide) (Int32.toInt_toInt64 _)) (fun w9 h9 p87 => ?_)
  obtain ⟨⟨p87, rfl⟩ | ⟨p87, rfl⟩, rfl⟩ := p87
  · try dsimp only [tvI_i, tvJ_j, tvR_r] at p87
    exact tw_iret rfl ⟨Or.inl ⟨by have e := zsub1 hk; have := p87; omega, rfl⟩, rfl⟩
  · try dsimp only [tvI_i, tvJ_j, tvR_r] at p87
    exact tw_iret rfl ⟨Or.inr ⟨by have e := zsub1 hk; have := p87; omega, rfl⟩, rfl⟩
noncomputable def ph_rdm (t p : Int32) (h : zH) (w : Option Value) (h2 : zH) : Prop := (((((0 ≤ t.toInt ∧ t.toInt < (tvI (tF h 111 50)).toInt) ∧ (0 ≤ p.toInt ∧ p.toInt < (tvI (tF h 111 2)).toInt)) ∧ (tvI (tF h 111 51)).toInt ≠ 600) ∧ ¬ sF (tA h 148) (tA h 149) t p (tvI (tF h 111 51)).toNatClampNeg) ∧ w = some (.int 1) ∧ tF h2 111 51 = .int (tvI (tF h 111 51) + 1) ∧ tA h2 148 = (fun j => if j = (tvI (tF h 111 51)).toNatClampNeg then t else tA h 148 j) ∧ tA h2 149 = (fun j => if j = (tvI (tF h 111 51)).toNatClampNeg then p else tA h 149 j) ∧ tA h2 150 = (fun j => if j = (tvI (tF h 111 51)).toNatClampNeg then tvI (tF h 111 1) else tA h 150 j)) ∨ (¬ ((((0 ≤ t.toInt ∧ t.toInt < (tvI (tF h 111 50)).toInt) ∧ (0 ≤ p.toInt ∧ p.toInt < (tvI (tF h 111 2)).toInt)) ∧ (tvI (tF h 111 51)).toInt ≠ 600) ∧ ¬ sF (tA h 148) (tA h 149) t p (tvI (tF h 111 51)).toNatClampNeg) ∧ w = some (.int 0) ∧ h2 = h)
theorem g_reads {G : zG} (hG : G.1 = zProg) {h : zH} {t p : Int32} (hs : tSh h) (h0 : 0 ≤ (tvI (tF h 111 51)).toInt) (hk50 : 0 ≤ (tvI (tF h 111 50)).toInt) (hk2 : 0 ≤ (tvI (tF h 111 2)).toInt) : tC zTt G 239 [.ref 111, .int t, .int p] h (ph_rdm t p h) := by
  refine tC_in (by rw [hG]; rfl) (fun dp => ?_)
  have e50 := zsub1 hk50
  refine tw_push rfl ?_
  refine tw_istore rfl ?_
  refine tw_push rfl ?_
  refine tw_istore rfl ?_
  refine tG_loop (zW_mono zTt G dp) (zW_conj zTt G dp) (V := fun pc L st h9 _ _ => pc = 5 ∧ st = [] ∧ h = h9 ∧ ∃ (n : Nat) (x y : Int32), x.toInt = n ∧ (n : Int) ≤ (tvI (tF h 111 51)).toInt ∧ ((y = 1 ∧ sF (tA h 148) (tA h 149) t p n) ∨ (y = 0 ∧ ¬ sF (tA h 148) (tA h 149) t p n)) ∧ L = [some (.ref 111), some (.int t), some (.int p), some (.int y), some (.int x)]) ?_ (⟨rfl, rfl, rfl, 0, 0, 0, rfl, h0, Or.inr ⟨rfl, fun z => by obtain ⟨i, z, -⟩ := z; omega⟩, rfl⟩)
  rintro _ _ _ _ _ _ ⟨rfl, rfl, rfl, n, x, y, hx, hn, hy, rfl⟩
  refine tw_iload rfl rfl ?_
  refine tw_aload rfl rfl ?_
  refine tw_getS rfl (hi_111_51 hs) ?_
  refine tw_ic_ge rfl (fun q88 => ?_) (fun q88 => ?_)
  · try dsimp only [tvI_i, tvJ_j, tvR_r] at q88
    refine tw_iload rfl rfl ?_
    refine tw_if_ne rfl (fun q89 => ?_) (fun q89 => ?_)
    · try dsimp only [tvI_i, tvJ_j, tvR_r] at q89
      have q89i := zneq (Y := 0) (by decide) q89
      refine tw_push rfl ?_
      have en := zen hx hn q88
      subst en
      exact tw_iret rfl (Or.inr ⟨fun z => z.2 ((sF_v hy).2 q89), rfl, rfl⟩)
    · try dsimp only [tvI_i, tvJ_j, tvR_r] at q89
      have q89i := zeqi (Y := 0) (by decide) q89
      refine tw_aload rfl rfl ?_
      refine tw_getS rfl (hi_111_51 hs) ?_
      refine tw_push rfl ?_
      refine tw_ic_eq rfl (fun q90 => ?_) (fun q90 => ?_)
      · try dsimp only [tvI_i, tvJ_j, tvR_r] at q90
        have q90i := zeqi (Y := 600) (by decide) q90
        refine tw_push rfl ?_
        have en := zen hx hn q88
        subst en
        exact tw_iret rfl (Or.inr ⟨fun z => absurd z.1 (by omega), rfl, rfl⟩)
      · try dsimp only [tvI_i, tvJ_j, tvR_r] at q90
        have q90i := zneq (Y := 600) (by decide) q90
        refine tw_iload rfl rfl ?_
        refine tw_i2l rfl ?_
        refine tw_push rfl ?_
        refine tw_aload rfl rfl ?_
        refine tw_getS rfl (hi_111_50 hs) ?_
        refine tw_push rfl ?_
        refine tw_isub rfl ?_
        refine tw_i2l rfl ?_
        refine tw_stat3 rfl (f_in hG  (LO := 0)  (Int32.toInt_toInt64 _) (by decide) (Int32.toInt_toInt64 _)) (fun w9 h9 p91 => ?_)
        obtain ⟨⟨p91, rfl⟩ | ⟨p91, rfl⟩, rfl⟩ := p91
        · try dsimp only [tvI_i, tvJ_j, tvR_r] at p91
          refine tw_if_eq rfl (fun z => absurd z (by decide)) (fun _ => ?_)
          refine tw_aload rfl rfl ?_
          refine tw_iload rfl rfl ?_
          refine tw_virt1 rfl (g_isPerson hG hs hk2) (fun w9 h9 p92 => ?_)
          obtain ⟨⟨p92, rfl⟩ | ⟨p92, rfl⟩, rfl⟩ := p92
          · try dsimp only [tvI_i, tvJ_j, tvR_r] at p92
            refine tw_if_ne rfl (fun _ => ?_) (fun z => absurd z (by decide))
            refine tw_aload rfl rfl ?_
            refine tw_getS rfl (hs_111_55 hs) ?_
            refine tw_aload rfl rfl ?_
            refine tw_getS rfl (hi_111_51 hs) ?_
            refine tw_iload rfl rfl ?_
            refine tw_iast rfl (fun f93 => ?_)
            refine tw_aload rfl rfl ?_
            refine tw_getS rfl (hs_111_56 (tSh_SA hs)) ?_
            refine tw_aload rfl rfl ?_
            refine tw_getS rfl (tF_a (hi_111_51 hs)) ?_
            refine tw_iload rfl rfl ?_
            refine tw_iast rfl (fun f94 => ?_)
            refine tw_aload rfl rfl ?_
            refine tw_getS rfl (hs_111_57 (tSh_SA (tSh_SA hs))) ?_
            refine tw_aload rfl rfl ?_
            refine tw_getS rfl (tF_a (tF_a (hi_111_51 hs))) ?_
            refine tw_aload rfl rfl ?_
            refine tw_getS rfl (tF_a (tF_a (hi_111_1 hs))) ?_
            refine tw_iast rfl (fun f95 => ?_)
            refine tw_aload rfl rfl ?_
            refine tw_dup rfl ?_
            refine tw_getS rfl (tF_a (tF_a (tF_a (hi_111_51 hs)))) ?_
            refine tw_push rfl ?_
            refine tw_iadd rfl ?_
            refine tw_put rfl (fun f96 => ?_)
            refine tw_push rfl ?_
            have en := zen hx hn q88
            subst en
            exact tw_iret rfl (Or.inl ⟨⟨by omega, (sF_v hy).1 q89⟩, rfl, (tF_same f96), (tA_ff (tA_n (by decide) (tA_n (by decide) (tA_st f93 rfl)))), (tA_ff (tA_n (by decide) (tA_st f94 (tA_n (by decide) rfl)))), (tA_ff (tA_st f95 (tA_n (by decide) (tA_n (by decide) rfl))))⟩)
          · try dsimp only [tvI_i, tvJ_j, tvR_r] at p92
            refine tw_if_ne rfl (fun z => absurd z (by decide)) (fun _ => ?_)
            refine tw_push rfl ?_
            have en := zen hx hn q88
            subst en
            exact tw_iret rfl (Or.inr ⟨fun z => absurd z.1 (by omega), rfl, rfl⟩)
        · try dsimp only [tvI_i, tvJ_j, tvR_r] at p91
          refine tw_if_eq rfl (fun _ => ?_) (fun z => absurd z (by decide))
          refine tw_push rfl ?_
          have en := zen hx hn q88
          subst en
          exact tw_iret rfl (Or.inr ⟨fun z => absurd z.1 (by omega), rfl, rfl⟩)
  · try dsimp only [tvI_i, tvJ_j, tvR_r] at q88
    refine tw_iload rfl rfl ?_
    refine tw_if_ne rfl (fun q97 => ?_) (fun q97 => ?_)
    · try dsimp only [tvI_i, tvJ_j, tvR_r] at q97
      have q97i := zneq (Y := 0) (by decide) q97
      refine tw_push rfl ?_
      refine tw_goto rfl ?_
      refine tw_istore rfl ?_
      refine tw_iinc rfl rfl ?_
      refine tw_goto rfl ?_
      exact tG_cut (zW_mono zTt G dp) (Or.inr ⟨rfl, rfl, rfl, n + 1, _, _, zincL hx q88, by omega, Or.inl ⟨rfl, sF_s ((sF_v hy).2 q97)⟩, rfl⟩)
    · try dsimp only [tvI_i, tvJ_j, tvR_r] at q97
      have q97i := zeqi (Y := 0) (by decide) q97
      refine tw_aload rfl rfl ?_
      refine tw_getS rfl (hs_111_55 hs) ?_
      refine tw_iload rfl rfl ?_
      refine tw_iald rfl (fun f98 => ?_)
      refine tw_iload rfl rfl ?_
      refine tw_ic_ne rfl (fun q99 => ?_) (fun q99 => ?_)
      · try dsimp only [tvI_i, tvJ_j, tvR_r] at q99
        have q99i := zneq rfl q99
        refine tw_push rfl ?_
        refine tw_istore rfl ?_
        refine tw_iinc rfl rfl ?_
        refine tw_goto rfl ?_
        exact tG_cut (zW_mono zTt G dp) (Or.inr ⟨rfl, rfl, rfl, n + 1, _, _, zincL hx q88, by omega, Or.inr ⟨rfl, sF_n (zof_cl hx) ((sF_v hy).1 q97) (fun z => q99 z.1)⟩, rfl⟩)
      · try dsimp only [tvI_i, tvJ_j, tvR_r] at q99
        have q99i := zeqi rfl q99
        refine tw_aload rfl rfl ?_
        refine tw_getS rfl (hs_111_56 hs) ?_
        refine tw_iload rfl rfl ?_
        refine tw_iald rfl (fun f100 => ?_)
        refine tw_iload rfl rfl ?_
        refine tw_ic_ne rfl (fun q101 => ?_) (fun q101 => ?_)
        · try dsimp only [tvI_i, tvJ_j, tvR_r] at q101
          have q101i := zneq rfl q101
          refine tw_push rfl ?_
          refine tw_istore rfl ?_
          refine tw_iinc rfl rfl ?_
          refine tw_goto rfl ?_
          exact tG_cut (zW_mono zTt G dp) (Or.inr ⟨rfl, rfl, rfl, n + 1, _, _, zincL hx q88, by omega, Or.inr ⟨rfl, sF_n (zof_cl hx) ((sF_v hy).1 q97) (fun z => q101 z.2)⟩, rfl⟩)
        · try dsimp only [tvI_i, tvJ_j, tvR_r] at q101
          have q101i := zeqi rfl q101
          refine tw_push rfl ?_
          refine tw_goto rfl ?_
          refine tw_istore rfl ?_
          refine tw_iinc rfl rfl ?_
          refine tw_goto rfl ?_
          exact tG_cut (zW_mono zTt G dp) (Or.inr ⟨rfl, rfl, rfl, n + 1, _, _, zincL hx q88, by omega, Or.inl ⟨rfl, sF_y (zof_cl hx) q99 q101⟩, rfl⟩)
theorem a_reads {xs : Nat → Int32} {τ : List Nat} {t p : Int32} {h h2 h3 : zH} {w w2 : Option Value} (hB : zBs xs τ h) (hT : R_tests h) (hP : R_people h) (hW : R_now h) (hA : R_readings h) (h1 : R_rtest h) (h4 : R_rby h) (h5 : R_rin h) (hD : R_rdb h) (e1 : tF h2 111 50 = tF h 111 50) (e3 : tF h2 111 2 = tF h 111 2) (e4 : tF h2 111 1 = tF h 111 1) (e5 : tF h2 111 51 = tF h 111 51) (o1 : tA h2 148 = tA h 148) (o2 : tA h2 149 = tA h 149) (o3 : tA h2 150 = tA h 150) (e2 : tF h3 54 9 = tF h2 54 9) (t1 : tA h3 60 = tA h2 60) (t2 : tA h3 61 = tA h2 61) (t3 : tA h3 62 = tA h2 62) (t4 : tJ h3 59 = tJ h2 59) (k1 : ph_rdc t p h w h2) (k2 : ph_rdm t p h2 w2 h3) : w2 = w ∧ R_readings h3 ∧ R_rtest h3 ∧ R_rby h3 ∧ R_rin h3 ∧ R_rdb h3 := by
  have hA0 := hA
  unfold R_tests at hT
  unfold R_people at hP
  unfold R_now at hW
  unfold R_readings at hA0
  have h10 := h1
  have h40 := h4
  unfold R_rtest at h10
  unfold R_rby at h40
  unfold R_rin at h5
  unfold ph_rdm at k2
  rw [e1, e3, e4, e5, o1, o2, o3, ← hT, ← hP, ← hW, ← hA0, ← h10, ← h40, ← h5] at k2
  have n1 := kb_54_9 hB
  have n2 := kb_54_5 hB
  have n3 := kb_36_2 hB
  have hC : ((0 ≤ t.toInt ∧ t.toInt < (tvI (tF h 54 5)).toInt) ∧ (0 ≤ p.toInt ∧ p.toInt < (tvI (tF h 36 2)).toInt)) → (tB (tJ h 59 t.toNatClampNeg) p ↔ sF (tA h 60) (tA h 61) t p (tvI (tF h 54 9)).toNatClampNeg) := fun z => hD t p (by omega) (by omega)
  rcases k1 with ⟨c1, rfl, f1, f2, f3, f4, f5⟩ | ⟨c1, rfl, rfl⟩ <;> rcases k2 with ⟨c2, rfl, g1, g3, g4, g5⟩ | ⟨c2, rfl, rfl⟩
  · have en : (tvI (tF h3 54 9)).toNatClampNeg = (tvI (tF h 54 9)).toNatClampNeg + 1 := by
      rw [e2, f1]
      show (tvI (tF h 54 9) + 1).toNatClampNeg = _
      have := zincN (x := tvI (tF h 54 9)) (n := (tvI (tF h 54 9)).toInt.toNat) (by omega) (by omega)
      rw [zclE, zclE, this]
      rfl
    refine ⟨rfl, by unfold R_readings; rw [e2, f1, g1], by unfold R_rtest; rw [t1, f3, g3], by unfold R_rby; rw [t2, f4, g4], by unfold R_rin; rw [t3, f5, g5], ?_⟩
    intro a b ha hb
    rw [en, sF_up (t1.trans f3) (t2.trans f4), t4, f2]
    dsimp only
    by_cases z : a.toNatClampNeg = t.toNatClampNeg
    · have za : a = t := by
        rw [zclE, zclE] at z
        exact Int32.toInt_inj.mp (by omega)
      subst za
      rw [if_pos rfl, tB_or (by omega) (by omega), hD a b ha hb]
      exact ⟨fun q => q.imp id (fun e => ⟨rfl, e.symm⟩), fun q => q.imp id (fun e => e.2.symm)⟩
    · rw [if_neg z, hD a b ha hb]
      exact ⟨Or.inl, fun q => q.resolve_right (fun e => z (by rw [e.1]))⟩
  · exact absurd ⟨⟨c1.1, c1.2.1⟩, fun q => c1.2.2 ((hC c1.1).mpr q)⟩ c2
  · exact absurd ⟨c2.1.1, c2.1.2, fun q => c2.2 ((hC c2.1.1).mp q)⟩ c1
  · exact ⟨rfl, hA, h1, h4, by unfold R_rin; exact h5, hD⟩
theorem zand6 {A C D E F X Y : Prop} (h : A ∧ C ∧ D ∧ E ∧ F ∧ X) (y : Y) : A ∧ C ∧ D ∧ E ∧ F ∧ X ∧ Y := ⟨h.1, h.2.1, h.2.2.1, h.2.2.2.1, h.2.2.2.2.1, h.2.2.2.2.2, y⟩
theorem a_reads_rsr {xs : Nat → Int32} {τ : List Nat} {t p : Int32} {h h2 h3 : zH} {w : Option Value} (hB : zBs xs τ h) (hR : R_rsr h) (k1 : ph_rdc t p h w h2) (e2 : tF h3 54 9 = tF h2 54 9) (t3 : tA h3 62 = tA h2 62) (o1 : tF h2 0 14 = tF h 0 14) (o2 : tF h3 0 14 = tF h2 0 14) : R_rsr h3 := by
  have n1 := kb_54_9 hB
  rcases k1 with ⟨c1, rfl, f1, f2, f3, f4, f5⟩ | ⟨c1, rfl, rfl⟩
  · have en : (tvI (tF h3 54 9)).toNatClampNeg = (tvI (tF h 54 9)).toNatClampNeg + 1 := by
      rw [e2, f1]
      show (tvI (tF h 54 9) + 1).toNatClampNeg = _
      have := zincN (x := tvI (tF h 54 9)) (n := (tvI (tF h 54 9)).toInt.toNat) (by omega) (by omega)
      rw [zclE, zclE, this]
      rfl
    unfold R_rsr
    rw [en, t3, f5, o2, o1]
    dsimp only
    refine ⟨fun i j hij hj => ?_, fun i hi => ?_⟩
    · by_cases zj : j = (tvI (tF h 54 9)).toNatClampNeg
      · rw [if_pos zj]
        by_cases zi : i = (tvI (tF h 54 9)).toNatClampNeg
        · rw [if_pos zi]
          exact Int.le_refl _
        · rw [if_neg zi]
          exact hR.2 i (by omega)
      · rw [if_neg zj, if_neg (by omega)]
        exact hR.1 i j hij (by omega)
    · by_cases zi : i = (tvI (tF h 54 9)).toNatClampNeg
      · rw [if_pos zi]
        exact Int.le_refl _
      · rw [if_neg zi]
        exact hR.2 i (by omega)
  · unfold R_rsr
    rw [e2, t3, o2]
    exact hR
/-- the best speed that the first n readings tell -/
noncomputable def sK (rt rb ri tk ts tp tb : Nat → Int32) (p k s m z : Int32) : Nat → Int32
  | 0 => -1
  | n + 1 => if (rb n = p ∧ (ri n).toInt ≤ m.toInt ∧ tk (rt n).toNatClampNeg = k ∧ ts (rt n).toNatClampNeg = s ∧ tb (rt n).toNatClampNeg = z) ∧ (sK rt rb ri tk ts tp tb p k s m z n = -1 ∨ (if z = 0 then sK rt rb ri tk ts tp tb p k s m z n < tp (rt n).toNatClampNeg else tp (rt n).toNatClampNeg < sK rt rb ri tk ts tp tb p k s m z n)) then tp (rt n).toNatClampNeg else sK rt rb ri tk ts tp tb p k s m z n
section SK
variable {rt rb ri tk ts tp tb : Nat → Int32} {p k s m z x : Int32} {n N : Nat}
noncomputable abbrev sKc (rt rb ri tk ts tb : Nat → Int32) (p k s m z x : Int32) : Prop := rb x.toNatClampNeg = p ∧ (ri x.toNatClampNeg).toInt ≤ m.toInt ∧ tk (rt x.toNatClampNeg).toNatClampNeg = k ∧ ts (rt x.toNatClampNeg).toNatClampNeg = s ∧ tb (rt x.toNatClampNeg).toNatClampNeg = z
theorem sK_S (hx : x.toNatClampNeg = n) : sK rt rb ri tk ts tp tb p k s m z (n + 1) = if sKc rt rb ri tk ts tb p k s m z x ∧ (sK rt rb ri tk ts tp tb p k s m z n = -1 ∨ (if z = 0 then sK rt rb ri tk ts tp tb p k s m z n < tp (rt x.toNatClampNeg).toNatClampNeg else tp (rt x.toNatClampNeg).toNatClampNeg < sK rt rb ri tk ts tp tb p k s m z n)) then tp (rt x.toNatClampNeg).toNatClampNeg else sK rt rb ri tk ts tp tb p k s m z n := by
  subst hx
  rfl
theorem sK_no (hx : x.toNatClampNeg = n) (h : ¬ sKc rt rb ri tk ts tb p k s m z x) : sK rt rb ri tk ts tp tb p k s m z (n + 1) = sK rt rb ri tk ts tp tb p k s m z n := by
  rw [sK_S hx, if_neg (fun q => h q.1)]
theorem sK_y0 (hx : x.toNatClampNeg = n) (h : sKc rt rb ri tk ts tb p k s m z x) (hb : sK rt rb ri tk ts tp tb p k s m z n = -1) : sK rt rb ri tk ts tp tb p k s m z (n + 1) = tp (rt x.toNatClampNeg).toNatClampNeg := by
  rw [sK_S hx, if_pos ⟨h, Or.inl hb⟩]
theorem sK_mn (hx : x.toNatClampNeg = n) (h : sKc rt rb ri tk ts tb p k s m z x) (hb : ¬ sK rt rb ri tk ts tp tb p k s m z n = -1) (hz : ¬ z = 0) : sK rt rb ri tk ts tp tb p k s m z (n + 1) = if tp (rt x.toNatClampNeg).toNatClampNeg < sK rt rb ri tk ts tp tb p k s m z n then tp (rt x.toNatClampNeg).toNatClampNeg else sK rt rb ri tk ts tp tb p k s m z n := by
  rw [sK_S hx]
  by_cases q : tp (rt x.toNatClampNeg).toNatClampNeg < sK rt rb ri tk ts tp tb p k s m z n
  · rw [if_pos ⟨h, Or.inr (by rw [if_neg hz]; exact q)⟩, if_pos q]
  · rw [if_neg q, if_neg]
    rintro ⟨-, q2 | q2⟩
    · exact hb q2
    · rw [if_neg hz] at q2
      exact q q2
theorem sK_mx (hx : x.toNatClampNeg = n) (h : sKc rt rb ri tk ts tb p k s m z x) (hp : 0 ≤ (tp (rt x.toNatClampNeg).toNatClampNeg).toInt) (hz : z = 0) : sK rt rb ri tk ts tp tb p k s m z (n + 1) = if sK rt rb ri tk ts tp tb p k s m z n < tp (rt x.toNatClampNeg).toNatClampNeg then tp (rt x.toNatClampNeg).toNatClampNeg else sK rt rb ri tk ts tp tb p k s m z n := by
  rw [sK_S hx]
  by_cases q : sK rt rb ri tk ts tp tb p k s m z n < tp (rt x.toNatClampNeg).toNatClampNeg
  · rw [if_pos ⟨h, Or.inr (by rw [if_pos hz]; exact q)⟩, if_pos q]
  · rw [if_neg q, if_neg]
    rintro ⟨-, q2 | q2⟩
    · rw [q2] at q
      refine q (Int32.lt_iff_toInt_lt.mpr ?_)
      have : (-1 : Int32).toInt = -1 := by decide
      omega
    · rw [if_pos hz] at q2
      exact q q2
theorem sK_l1 (hx : x.toNatClampNeg = n) (h : sKc rt rb ri tk ts tb p k s m z x) (hz : ¬ z = 0) (hb : ¬ sK rt rb ri tk ts tp tb p k s m z n = -1) : ((tp (rt x.toNatClampNeg).toNatClampNeg).toInt < (sK rt rb ri tk ts tp tb p k s m z n).toInt → sK rt rb ri tk ts tp tb p k s m z (n + 1) = tp (rt x.toNatClampNeg).toNatClampNeg) ∧ ((sK rt rb ri tk ts tp tb p k s m z n).toInt ≤ (tp (rt x.toNatClampNeg).toNatClampNeg).toInt → sK rt rb ri tk ts tp tb p k s m z (n + 1) = sK rt rb ri tk ts tp tb p k s m z n) := by
  rw [sK_mn hx h hb hz]
  exact ⟨fun q => if_pos (Int32.lt_iff_toInt_lt.mpr q), fun q => if_neg (fun r => by have := Int32.lt_iff_toInt_lt.mp r; omega)⟩
theorem sK_l0 (hx : x.toNatClampNeg = n) (h : sKc rt rb ri tk ts tb p k s m z x) (hz : z = 0) (hb : ¬ sK rt rb ri tk ts tp tb p k s m z n = -1) : ((sK rt rb ri tk ts tp tb p k s m z n).toInt < (tp (rt x.toNatClampNeg).toNatClampNeg).toInt → sK rt rb ri tk ts tp tb p k s m z (n + 1) = tp (rt x.toNatClampNeg).toNatClampNeg) ∧ ((tp (rt x.toNatClampNeg).toNatClampNeg).toInt ≤ (sK rt rb ri tk ts tp tb p k s m z n).toInt → sK rt rb ri tk ts tp tb p k s m z (n + 1) = sK rt rb ri tk ts tp tb p k s m z n) := by
  rw [sK_S hx]
  refine ⟨fun q => if_pos ⟨h, Or.inr (by rw [if_pos hz]; exact Int32.lt_iff_toInt_lt.mpr q)⟩, fun q => if_neg ?_⟩
  rintro ⟨-, q2 | q2⟩
  · exact hb q2
  · rw [if_pos hz] at q2
    have := Int32.lt_iff_toInt_lt.mp q2
    omega
theorem sK_stop (hx : x.toNatClampNeg = n) (hn : n ≤ N) (hS : ∀ i j, i ≤ j → j < N → (ri i).toInt ≤ (ri j).toInt) (q : m.toInt < (ri x.toNatClampNeg).toInt) : sK rt rb ri tk ts tp tb p k s m z n = sK rt rb ri tk ts tp tb p k s m z N := by
  obtain ⟨d, rfl⟩ : ∃ d, N = n + d := ⟨N - n, by omega⟩
  induction d with
  | zero => rfl
  | succ d ih =>
    rw [ih (by omega) (fun i j a b => hS i j a (by omega))]
    show _ = sK rt rb ri tk ts tp tb p k s m z ((n + d) + 1)
    conv => rhs; unfold sK
    rw [if_neg]
    rintro ⟨⟨-, r, -⟩, -⟩
    have := hS n (n + d) (by omega) (by omega)
    rw [hx] at q
    omega
end SK
theorem zone {y : Int32} (h : 0 ≤ y.toInt ∧ y.toInt ≤ 1) (q : ¬ y = 0) : y = 1 := by
  refine Int32.toInt_inj.mp ?_
  have : y.toInt ≠ 0 := fun z => q (Int32.toInt_inj.mp z)
  have e : (1 : Int32).toInt = 1 := by decide
  omega
theorem f_isOf {G : zG} (hG : G.1 = zProg) {h : zH} {t k s : Int32} (hs : tSh h) : tC zTt G 105 [.ref 54, .int t, .int k, .int s] h (fun w h2 => tBo (tA h 55 t.toNatClampNeg = k ∧ tA h 56 t.toNatClampNeg = s) w ∧ h2 = h) := by
  refine tC_in (by rw [hG]; rfl) (fun dp => ?_)
  refine tw_aload rfl rfl ?_
  refine tw_getS rfl (hs_54_0 hs) ?_
  refine tw_iload rfl rfl ?_
  refine tw_iald rfl (fun f102 => ?_)
  refine tw_iload rfl rfl ?_
  refine tw_ic_ne rfl (fun q103 => ?_) (fun q103 => ?_)
  · try dsimp only [tvI_i, tvJ_j, tvR_r] at q103
    have q103i := zneq rfl q103
    refine tw_push rfl ?_
    exact tw_iret rfl ⟨Or.inr ⟨fun z => q103 z.1, rfl⟩, rfl⟩
  · try dsimp only [tvI_i, tvJ_j, tvR_r] at q103
    have q103i := zeqi rfl q103
    refine tw_aload rfl rfl ?_
    refine tw_getS rfl (hs_54_1 hs) ?_
    refine tw_iload rfl rfl ?_
    refine tw_iald rfl (fun f104 => ?_)
    refine tw_iload rfl rfl ?_
    refine tw_ic_ne rfl (fun q105 => ?_) (fun q105 => ?_)
    · try dsimp only [tvI_i, tvJ_j, tvR_r] at q105
      have q105i := zneq rfl q105
      refine tw_push rfl ?_
      exact tw_iret rfl ⟨Or.inr ⟨fun z => q105 z.2, rfl⟩, rfl⟩
    · try dsimp only [tvI_i, tvJ_j, tvR_r] at q105
      have q105i := zeqi rfl q105
      refine tw_push rfl ?_
      refine tw_goto rfl ?_
      exact tw_iret rfl ⟨Or.inl ⟨⟨q103, q105⟩, rfl⟩, rfl⟩
theorem f_leastBurned {G : zG} (hG : G.1 = zProg) {h : zH} {p k s m : Int32} (hs : tSh h) (h0 : 0 ≤ (tvI (tF h 54 9)).toInt) (hS : ∀ i j, i ≤ j → j < (tvI (tF h 54 9)).toNatClampNeg → (tA h 62 i).toInt ≤ (tA h 62 j).toInt) (hZ : ∀ x : Int32, (0 ≤ x.toInt ∧ x.toInt < (tvI (tF h 54 9)).toInt) → (0 ≤ (tA h 58 (tA h 60 x.toNatClampNeg).toNatClampNeg).toInt ∧ (tA h 58 (tA h 60 x.toNatClampNeg).toNatClampNeg).toInt ≤ 1) ∧ 0 ≤ (tA h 57 (tA h 60 x.toNatClampNeg).toNatClampNeg).toInt) : tC zTt G 106 [.ref 54, .int p, .int k, .int s, .int m] h (fun w h2 => w = some (.int (sK (tA h 60) (tA h 61) (tA h 62) (tA h 55) (tA h 56) (tA h 57) (tA h 58) p k s m 1 (tvI (tF h 54 9)).toNatClampNeg)) ∧ h2 = h) := by
  refine tC_in (by rw [hG]; rfl) (fun dp => ?_)
  refine tw_push rfl ?_
  refine tw_istore rfl ?_
  refine tw_push rfl ?_
  refine tw_istore rfl ?_
  refine tG_loop (zW_mono zTt G dp) (zW_conj zTt G dp) (V := fun pc L st h9 _ _ => pc = 6 ∧ st = [] ∧ h = h9 ∧ ∃ (n : Nat) (x y : Int32) (l7 : Option Value), x.toInt = n ∧ (n : Int) ≤ (tvI (tF h 54 9)).toInt ∧ y = sK (tA h 60) (tA h 61) (tA h 62) (tA h 55) (tA h 56) (tA h 57) (tA h 58) p k s m 1 n ∧ L = [some (.ref 54), some (.int p), some (.int k), some (.int s), some (.int m), some (.int y), some (.int x), l7]) ?_ (⟨rfl, rfl, rfl, 0, 0, _, none, rfl, h0, rfl, rfl⟩)
  rintro _ _ _ _ _ _ ⟨rfl, rfl, rfl, n, x, _, l7, hx, hn, rfl, rfl⟩
  refine tw_iload rfl rfl ?_
  refine tw_aload rfl rfl ?_
  refine tw_getS rfl (hi_54_9 hs) ?_
  refine tw_ic_ge rfl (fun q106 => ?_) (fun q106 => ?_)
  · try dsimp only [tvI_i, tvJ_j, tvR_r] at q106
    refine tw_iload rfl rfl ?_
    have en := zen hx hn q106
    subst en
    exact tw_iret rfl ⟨rfl, rfl⟩
  · try dsimp only [tvI_i, tvJ_j, tvR_r] at q106
    refine tw_aload rfl rfl ?_
    refine tw_getS rfl (hs_54_8 hs) ?_
    refine tw_iload rfl rfl ?_
    refine tw_iald rfl (fun f107 => ?_)
    refine tw_iload rfl rfl ?_
    refine tw_ic_gt rfl (fun q108 => ?_) (fun q108 => ?_)
    · try dsimp only [tvI_i, tvJ_j, tvR_r] at q108
      refine tw_iload rfl rfl ?_
      exact tw_iret rfl ⟨congrArg (fun z => some (Value.int z)) (sK_stop (rt := tA _ 60) (rb := tA _ 61) (ri := tA _ 62) (tk := tA _ 55) (ts := tA _ 56) (tp := tA _ 57) (tb := tA _ 58) (p := p) (k := k) (s := s) (m := m) (z := 1) (x := x) (zof_cl hx) (by rw [zclE]; omega) hS (by omega)), rfl⟩
    · try dsimp only [tvI_i, tvJ_j, tvR_r] at q108
      refine tw_aload rfl rfl ?_
      refine tw_getS rfl (hs_54_6 hs) ?_
      refine tw_iload rfl rfl ?_
      refine tw_iald rfl (fun f109 => ?_)
      refine tw_istore rfl ?_
      refine tw_aload rfl rfl ?_
      refine tw_getS rfl (hs_54_7 hs) ?_
      refine tw_iload rfl rfl ?_
      refine tw_iald rfl (fun f110 => ?_)
      refine tw_iload rfl rfl ?_
      refine tw_ic_ne rfl (fun q111 => ?_) (fun q111 => ?_)
      · try dsimp only [tvI_i, tvJ_j, tvR_r] at q111
        have q111i := zneq rfl q111
        refine tw_iinc rfl rfl ?_
        refine tw_goto rfl ?_
        exact tG_cut (zW_mono zTt G dp) (Or.inr ⟨rfl, rfl, rfl, n + 1, _, _, _, zincL hx q106, by omega, (sK_no (rt := tA _ 60) (rb := tA _ 61) (ri := tA _ 62) (tk := tA _ 55) (ts := tA _ 56) (tp := tA _ 57) (tb := tA _ 58) (p := p) (k := k) (s := s) (m := m) (z := 1) (x := x) (zof_cl hx) (fun z => q111 z.1)).symm, rfl⟩)
      · try dsimp only [tvI_i, tvJ_j, tvR_r] at q111
        have q111i := zeqi rfl q111
        refine tw_aload rfl rfl ?_
        refine tw_iload rfl rfl ?_
        refine tw_iload rfl rfl ?_
        refine tw_iload rfl rfl ?_
        refine tw_virt3 rfl (f_isOf hG hs) (fun w9 h9 p112 => ?_)
        obtain ⟨⟨p112, rfl⟩ | ⟨p112, rfl⟩, rfl⟩ := p112
        · try dsimp only [tvI_i, tvJ_j, tvR_r] at p112
          refine tw_if_eq rfl (fun z => absurd z (by decide)) (fun _ => ?_)
          refine tw_aload rfl rfl ?_
          refine tw_getS rfl (hs_54_3 hs) ?_
          refine tw_iload rfl rfl ?_
          refine tw_bald rfl (fun f113 => ?_)
          refine tw_if_eq rfl (fun q114 => ?_) (fun q114 => ?_)
          · try dsimp only [tvI_i, tvJ_j, tvR_r] at q114
            have q114i := zeqi (Y := 0) (by decide) q114
            refine tw_iinc rfl rfl ?_
            refine tw_goto rfl ?_
            exact tG_cut (zW_mono zTt G dp) (Or.inr ⟨rfl, rfl, rfl, n + 1, _, _, _, zincL hx q106, by omega, (sK_no (rt := tA _ 60) (rb := tA _ 61) (ri := tA _ 62) (tk := tA _ 55) (ts := tA _ 56) (tp := tA _ 57) (tb := tA _ 58) (p := p) (k := k) (s := s) (m := m) (z := 1) (x := x) (zof_cl hx) (fun z => absurd (z.2.2.2.2.symm.trans q114) (by decide))).symm, rfl⟩)
          · try dsimp only [tvI_i, tvJ_j, tvR_r] at q114
            have q114i := zneq (Y := 0) (by decide) q114
            refine tw_iload rfl rfl ?_
            refine tw_push rfl ?_
            refine tw_ic_ne rfl (fun q115 => ?_) (fun q115 => ?_)
            · try dsimp only [tvI_i, tvJ_j, tvR_r] at q115
              have q115i := zneq (Y := (-1)) (by decide) q115
              refine tw_iload rfl rfl ?_
              refine tw_aload rfl rfl ?_
              refine tw_getS rfl (hs_54_2 hs) ?_
              refine tw_iload rfl rfl ?_
              refine tw_iald rfl (fun f116 => ?_)
              refine tw_imin rfl ?_
              refine tw_istore rfl ?_
              refine tw_iinc rfl rfl ?_
              refine tw_goto rfl ?_
              exact tG_cut (zW_mono zTt G dp) (Or.inr ⟨rfl, rfl, rfl, n + 1, _, _, _, zincL hx q106, by omega, (sK_mn (rt := tA _ 60) (rb := tA _ 61) (ri := tA _ 62) (tk := tA _ 55) (ts := tA _ 56) (tp := tA _ 57) (tb := tA _ 58) (p := p) (k := k) (s := s) (m := m) (z := 1) (x := x) (zof_cl hx) ⟨q111, by omega, p112.1, p112.2, zone (hZ x (by omega)).1 q114⟩ q115 (by decide)).symm, rfl⟩)
            · try dsimp only [tvI_i, tvJ_j, tvR_r] at q115
              have q115i := zeqi (Y := (-1)) (by decide) q115
              refine tw_aload rfl rfl ?_
              refine tw_getS rfl (hs_54_2 hs) ?_
              refine tw_iload rfl rfl ?_
              refine tw_iald rfl (fun f117 => ?_)
              refine tw_goto rfl ?_
              refine tw_istore rfl ?_
              refine tw_iinc rfl rfl ?_
              refine tw_goto rfl ?_
              exact tG_cut (zW_mono zTt G dp) (Or.inr ⟨rfl, rfl, rfl, n + 1, _, _, _, zincL hx q106, by omega, (sK_y0 (rt := tA _ 60) (rb := tA _ 61) (ri := tA _ 62) (tk := tA _ 55) (ts := tA _ 56) (tp := tA _ 57) (tb := tA _ 58) (p := p) (k := k) (s := s) (m := m) (z := 1) (x := x) (zof_cl hx) ⟨q111, by omega, p112.1, p112.2, zone (hZ x (by omega)).1 q114⟩ q115).symm, rfl⟩)
        · try dsimp only [tvI_i, tvJ_j, tvR_r] at p112
          refine tw_if_eq rfl (fun _ => ?_) (fun z => absurd z (by decide))
          refine tw_iinc rfl rfl ?_
          refine tw_goto rfl ?_
          exact tG_cut (zW_mono zTt G dp) (Or.inr ⟨rfl, rfl, rfl, n + 1, _, _, _, zincL hx q106, by omega, (sK_no (rt := tA _ 60) (rb := tA _ 61) (ri := tA _ 62) (tk := tA _ 55) (ts := tA _ 56) (tp := tA _ 57) (tb := tA _ 58) (p := p) (k := k) (s := s) (m := m) (z := 1) (x := x) (zof_cl hx) (fun z => p112 ⟨z.2.2.1, z.2.2.2.1⟩)).symm, rfl⟩)
theorem f_greatestUnburned {G : zG} (hG : G.1 = zProg) {h : zH} {p k s m : Int32} (hs : tSh h) (h0 : 0 ≤ (tvI (tF h 54 9)).toInt) (hS : ∀ i j, i ≤ j → j < (tvI (tF h 54 9)).toNatClampNeg → (tA h 62 i).toInt ≤ (tA h 62 j).toInt) (hZ : ∀ x : Int32, (0 ≤ x.toInt ∧ x.toInt < (tvI (tF h 54 9)).toInt) → (0 ≤ (tA h 58 (tA h 60 x.toNatClampNeg).toNatClampNeg).toInt ∧ (tA h 58 (tA h 60 x.toNatClampNeg).toNatClampNeg).toInt ≤ 1) ∧ 0 ≤ (tA h 57 (tA h 60 x.toNatClampNeg).toNatClampNeg).toInt) : tC zTt G 107 [.ref 54, .int p, .int k, .int s, .int m] h (fun w h2 => w = some (.int (sK (tA h 60) (tA h 61) (tA h 62) (tA h 55) (tA h 56) (tA h 57) (tA h 58) p k s m 0 (tvI (tF h 54 9)).toNatClampNeg)) ∧ h2 = h) := by
  refine tC_in (by rw [hG]; rfl) (fun dp => ?_)
  refine tw_push rfl ?_
  refine tw_istore rfl ?_
  refine tw_push rfl ?_
  refine tw_istore rfl ?_
  refine tG_loop (zW_mono zTt G dp) (zW_conj zTt G dp) (V := fun pc L st h9 _ _ => pc = 6 ∧ st = [] ∧ h = h9 ∧ ∃ (n : Nat) (x y : Int32) (l7 : Option Value), x.toInt = n ∧ (n : Int) ≤ (tvI (tF h 54 9)).toInt ∧ y = sK (tA h 60) (tA h 61) (tA h 62) (tA h 55) (tA h 56) (tA h 57) (tA h 58) p k s m 0 n ∧ L = [some (.ref 54), some (.int p), some (.int k), some (.int s), some (.int m), some (.int y), some (.int x), l7]) ?_ (⟨rfl, rfl, rfl, 0, 0, _, none, rfl, h0, rfl, rfl⟩)
  rintro _ _ _ _ _ _ ⟨rfl, rfl, rfl, n, x, _, l7, hx, hn, rfl, rfl⟩
  refine tw_iload rfl rfl ?_
  refine tw_aload rfl rfl ?_
  refine tw_getS rfl (hi_54_9 hs) ?_
  refine tw_ic_ge rfl (fun q118 => ?_) (fun q118 => ?_)
  · try dsimp only [tvI_i, tvJ_j, tvR_r] at q118
    refine tw_iload rfl rfl ?_
    have en := zen hx hn q118
    subst en
    exact tw_iret rfl ⟨rfl, rfl⟩
  · try dsimp only [tvI_i, tvJ_j, tvR_r] at q118
    refine tw_aload rfl rfl ?_
    refine tw_getS rfl (hs_54_8 hs) ?_
    refine tw_iload rfl rfl ?_
    refine tw_iald rfl (fun f119 => ?_)
    refine tw_iload rfl rfl ?_
    refine tw_ic_gt rfl (fun q120 => ?_) (fun q120 => ?_)
    · try dsimp only [tvI_i, tvJ_j, tvR_r] at q120
      refine tw_iload rfl rfl ?_
      exact tw_iret rfl ⟨congrArg (fun z => some (Value.int z)) (sK_stop (rt := tA _ 60) (rb := tA _ 61) (ri := tA _ 62) (tk := tA _ 55) (ts := tA _ 56) (tp := tA _ 57) (tb := tA _ 58) (p := p) (k := k) (s := s) (m := m) (z := 0) (x := x) (zof_cl hx) (by rw [zclE]; omega) hS (by omega)), rfl⟩
    · try dsimp only [tvI_i, tvJ_j, tvR_r] at q120
      refine tw_aload rfl rfl ?_
      refine tw_getS rfl (hs_54_6 hs) ?_
      refine tw_iload rfl rfl ?_
      refine tw_iald rfl (fun f121 => ?_)
      refine tw_istore rfl ?_
      refine tw_aload rfl rfl ?_
      refine tw_getS rfl (hs_54_7 hs) ?_
      refine tw_iload rfl rfl ?_
      refine tw_iald rfl (fun f122 => ?_)
      refine tw_iload rfl rfl ?_
      refine tw_ic_ne rfl (fun q123 => ?_) (fun q123 => ?_)
      · try dsimp only [tvI_i, tvJ_j, tvR_r] at q123
        have q123i := zneq rfl q123
        refine tw_iinc rfl rfl ?_
        refine tw_goto rfl ?_
        exact tG_cut (zW_mono zTt G dp) (Or.inr ⟨rfl, rfl, rfl, n + 1, _, _, _, zincL hx q118, by omega, (sK_no (rt := tA _ 60) (rb := tA _ 61) (ri := tA _ 62) (tk := tA _ 55) (ts := tA _ 56) (tp := tA _ 57) (tb := tA _ 58) (p := p) (k := k) (s := s) (m := m) (z := 0) (x := x) (zof_cl hx) (fun z => q123 z.1)).symm, rfl⟩)
      · try dsimp only [tvI_i, tvJ_j, tvR_r] at q123
        have q123i := zeqi rfl q123
        refine tw_aload rfl rfl ?_
        refine tw_iload rfl rfl ?_
        refine tw_iload rfl rfl ?_
        refine tw_iload rfl rfl ?_
        refine tw_virt3 rfl (f_isOf hG hs) (fun w9 h9 p124 => ?_)
        obtain ⟨⟨p124, rfl⟩ | ⟨p124, rfl⟩, rfl⟩ := p124
        · try dsimp only [tvI_i, tvJ_j, tvR_r] at p124
          refine tw_if_eq rfl (fun z => absurd z (by decide)) (fun _ => ?_)
          refine tw_aload rfl rfl ?_
          refine tw_getS rfl (hs_54_3 hs) ?_
          refine tw_iload rfl rfl ?_
          refine tw_bald rfl (fun f125 => ?_)
          refine tw_if_ne rfl (fun q126 => ?_) (fun q126 => ?_)
          · try dsimp only [tvI_i, tvJ_j, tvR_r] at q126
            have q126i := zneq (Y := 0) (by decide) q126
            refine tw_iinc rfl rfl ?_
            refine tw_goto rfl ?_
            exact tG_cut (zW_mono zTt G dp) (Or.inr ⟨rfl, rfl, rfl, n + 1, _, _, _, zincL hx q118, by omega, (sK_no (rt := tA _ 60) (rb := tA _ 61) (ri := tA _ 62) (tk := tA _ 55) (ts := tA _ 56) (tp := tA _ 57) (tb := tA _ 58) (p := p) (k := k) (s := s) (m := m) (z := 0) (x := x) (zof_cl hx) (fun z => q126 z.2.2.2.2)).symm, rfl⟩)
          · try dsimp only [tvI_i, tvJ_j, tvR_r] at q126
            have q126i := zeqi (Y := 0) (by decide) q126
            refine tw_iload rfl rfl ?_
            refine tw_aload rfl rfl ?_
            refine tw_getS rfl (hs_54_2 hs) ?_
            refine tw_iload rfl rfl ?_
            refine tw_iald rfl (fun f127 => ?_)
            refine tw_imax rfl ?_
            refine tw_istore rfl ?_
            refine tw_iinc rfl rfl ?_
            refine tw_goto rfl ?_
            exact tG_cut (zW_mono zTt G dp) (Or.inr ⟨rfl, rfl, rfl, n + 1, _, _, _, zincL hx q118, by omega, (sK_mx (rt := tA _ 60) (rb := tA _ 61) (ri := tA _ 62) (tk := tA _ 55) (ts := tA _ 56) (tp := tA _ 57) (tb := tA _ 58) (p := p) (k := k) (s := s) (m := m) (z := 0) (x := x) (zof_cl hx) ⟨q123, by omega, p124.1, p124.2, q126⟩ (hZ x (by omega)).2 rfl).symm, rfl⟩)
        · try dsimp only [tvI_i, tvJ_j, tvR_r] at p124
          refine tw_if_eq rfl (fun _ => ?_) (fun z => absurd z (by decide))
          refine tw_iinc rfl rfl ?_
          refine tw_goto rfl ?_
          exact tG_cut (zW_mono zTt G dp) (Or.inr ⟨rfl, rfl, rfl, n + 1, _, _, _, zincL hx q118, by omega, (sK_no (rt := tA _ 60) (rb := tA _ 61) (ri := tA _ 62) (tk := tA _ 55) (ts := tA _ 56) (tp := tA _ 57) (tb := tA _ 58) (p := p) (k := k) (s := s) (m := m) (z := 0) (x := x) (zof_cl hx) (fun z => p124 ⟨z.2.2.1, z.2.2.2.1⟩)).symm, rfl⟩)
theorem g_knewOf {G : zG} (hG : G.1 = zProg) {h : zH} {p k s m z : Int32} (hs : tSh h) (h0 : 0 ≤ (tvI (tF h 111 51)).toInt) : tC zTt G 240 [.ref 111, .int p, .int k, .int s, .int m, .int z] h (fun w h2 => w = some (.int (sK (tA h 148) (tA h 149) (tA h 150) (tA h 145) (tA h 146) (tA h 147) (tA h 151) p k s m z (tvI (tF h 111 51)).toNatClampNeg)) ∧ h2 = h) := by
  refine tC_in (by rw [hG]; rfl) (fun dp => ?_)
  refine tw_push rfl ?_
  refine tw_istore rfl ?_
  refine tw_push rfl ?_
  refine tw_istore rfl ?_
  refine tG_loop (zW_mono zTt G dp) (zW_conj zTt G dp) (V := fun pc L st h9 _ _ => pc = 6 ∧ st = [] ∧ h = h9 ∧ ∃ (n : Nat) (x y : Int32) (l8 l9 : Option Value), x.toInt = n ∧ (n : Int) ≤ (tvI (tF h 111 51)).toInt ∧ y = sK (tA h 148) (tA h 149) (tA h 150) (tA h 145) (tA h 146) (tA h 147) (tA h 151) p k s m z n ∧ L = [some (.ref 111), some (.int p), some (.int k), some (.int s), some (.int m), some (.int z), some (.int y), some (.int x), l8, l9]) ?_ (⟨rfl, rfl, rfl, 0, 0, _, none, none, rfl, h0, rfl, rfl⟩)
  rintro _ _ _ _ _ _ ⟨rfl, rfl, rfl, n, x, _, l8, l9, hx, hn, rfl, rfl⟩
  refine tw_iload rfl rfl ?_
  refine tw_aload rfl rfl ?_
  refine tw_getS rfl (hi_111_51 hs) ?_
  refine tw_ic_ge rfl (fun q128 => ?_) (fun q128 => ?_)
  · try dsimp only [tvI_i, tvJ_j, tvR_r] at q128
    refine tw_iload rfl rfl ?_
    have en := zen hx hn q128
    subst en
    exact tw_iret rfl ⟨rfl, rfl⟩
  · try dsimp only [tvI_i, tvJ_j, tvR_r] at q128
    refine tw_aload rfl rfl ?_
    refine tw_getS rfl (hs_111_55 hs) ?_
    refine tw_iload rfl rfl ?_
    refine tw_iald rfl (fun f129 => ?_)
    refine tw_istore rfl ?_
    refine tw_aload rfl rfl ?_
    refine tw_getS rfl (hs_111_56 hs) ?_
    refine tw_iload rfl rfl ?_
    refine tw_iald rfl (fun f130 => ?_)
    refine tw_iload rfl rfl ?_
    refine tw_ic_ne rfl (fun q131 => ?_) (fun q131 => ?_)
    · try dsimp only [tvI_i, tvJ_j, tvR_r] at q131
      have q131i := zneq rfl q131
      refine tw_push rfl ?_
      refine tw_istore rfl ?_
      refine tw_iload rfl rfl ?_
      refine tw_if_eq rfl (fun _ => ?_) (fun z => absurd z (by decide))
      refine tw_iload rfl rfl ?_
      refine tw_istore rfl ?_
      refine tw_iinc rfl rfl ?_
      refine tw_goto rfl ?_
      exact tG_cut (zW_mono zTt G dp) (Or.inr ⟨rfl, rfl, rfl, n + 1, _, _, _, _, zincL hx q128, by omega, (sK_no (rt := tA _ 148) (rb := tA _ 149) (ri := tA _ 150) (tk := tA _ 145) (ts := tA _ 146) (tp := tA _ 147) (tb := tA _ 151) (p := p) (k := k) (s := s) (m := m) (z := z) (x := x) (zof_cl hx) (fun z => q131 z.1)).symm, rfl⟩)
    · try dsimp only [tvI_i, tvJ_j, tvR_r] at q131
      have q131i := zeqi rfl q131
      refine tw_aload rfl rfl ?_
      refine tw_getS rfl (hs_111_57 hs) ?_
      refine tw_iload rfl rfl ?_
      refine tw_iald rfl (fun f132 => ?_)
      refine tw_iload rfl rfl ?_
      refine tw_ic_gt rfl (fun q133 => ?_) (fun q133 => ?_)
      · try dsimp only [tvI_i, tvJ_j, tvR_r] at q133
        refine tw_push rfl ?_
        refine tw_istore rfl ?_
        refine tw_iload rfl rfl ?_
        refine tw_if_eq rfl (fun _ => ?_) (fun z => absurd z (by decide))
        refine tw_iload rfl rfl ?_
        refine tw_istore rfl ?_
        refine tw_iinc rfl rfl ?_
        refine tw_goto rfl ?_
        exact tG_cut (zW_mono zTt G dp) (Or.inr ⟨rfl, rfl, rfl, n + 1, _, _, _, _, zincL hx q128, by omega, (sK_no (rt := tA _ 148) (rb := tA _ 149) (ri := tA _ 150) (tk := tA _ 145) (ts := tA _ 146) (tp := tA _ 147) (tb := tA _ 151) (p := p) (k := k) (s := s) (m := m) (z := z) (x := x) (zof_cl hx) (fun z => absurd z.2.1 (by omega))).symm, rfl⟩)
      · try dsimp only [tvI_i, tvJ_j, tvR_r] at q133
        refine tw_aload rfl rfl ?_
        refine tw_getS rfl (hs_111_52 hs) ?_
        refine tw_iload rfl rfl ?_
        refine tw_iald rfl (fun f134 => ?_)
        refine tw_iload rfl rfl ?_
        refine tw_ic_ne rfl (fun q135 => ?_) (fun q135 => ?_)
        · try dsimp only [tvI_i, tvJ_j, tvR_r] at q135
          have q135i := zneq rfl q135
          refine tw_push rfl ?_
          refine tw_istore rfl ?_
          refine tw_iload rfl rfl ?_
          refine tw_if_eq rfl (fun _ => ?_) (fun z => absurd z (by decide))
          refine tw_iload rfl rfl ?_
          refine tw_istore rfl ?_
          refine tw_iinc rfl rfl ?_
          refine tw_goto rfl ?_
          exact tG_cut (zW_mono zTt G dp) (Or.inr ⟨rfl, rfl, rfl, n + 1, _, _, _, _, zincL hx q128, by omega, (sK_no (rt := tA _ 148) (rb := tA _ 149) (ri := tA _ 150) (tk := tA _ 145) (ts := tA _ 146) (tp := tA _ 147) (tb := tA _ 151) (p := p) (k := k) (s := s) (m := m) (z := z) (x := x) (zof_cl hx) (fun z => q135 z.2.2.1)).symm, rfl⟩)
        · try dsimp only [tvI_i, tvJ_j, tvR_r] at q135
          have q135i := zeqi rfl q135
          refine tw_aload rfl rfl ?_
          refine tw_getS rfl (hs_111_53 hs) ?_
          refine tw_iload rfl rfl ?_
          refine tw_iald rfl (fun f136 => ?_)
          refine tw_iload rfl rfl ?_
          refine tw_ic_ne rfl (fun q137 => ?_) (fun q137 => ?_)
          · try dsimp only [tvI_i, tvJ_j, tvR_r] at q137
            have q137i := zneq rfl q137
            refine tw_push rfl ?_
            refine tw_istore rfl ?_
            refine tw_iload rfl rfl ?_
            refine tw_if_eq rfl (fun _ => ?_) (fun z => absurd z (by decide))
            refine tw_iload rfl rfl ?_
            refine tw_istore rfl ?_
            refine tw_iinc rfl rfl ?_
            refine tw_goto rfl ?_
            exact tG_cut (zW_mono zTt G dp) (Or.inr ⟨rfl, rfl, rfl, n + 1, _, _, _, _, zincL hx q128, by omega, (sK_no (rt := tA _ 148) (rb := tA _ 149) (ri := tA _ 150) (tk := tA _ 145) (ts := tA _ 146) (tp := tA _ 147) (tb := tA _ 151) (p := p) (k := k) (s := s) (m := m) (z := z) (x := x) (zof_cl hx) (fun z => q137 z.2.2.2.1)).symm, rfl⟩)
          · try dsimp only [tvI_i, tvJ_j, tvR_r] at q137
            have q137i := zeqi rfl q137
            refine tw_aload rfl rfl ?_
            refine tw_getS rfl (hs_111_58 hs) ?_
            refine tw_iload rfl rfl ?_
            refine tw_bald rfl (fun f138 => ?_)
            refine tw_iload rfl rfl ?_
            refine tw_ic_ne rfl (fun q139 => ?_) (fun q139 => ?_)
            · try dsimp only [tvI_i, tvJ_j, tvR_r] at q139
              have q139i := zneq rfl q139
              refine tw_push rfl ?_
              refine tw_istore rfl ?_
              refine tw_iload rfl rfl ?_
              refine tw_if_eq rfl (fun _ => ?_) (fun z => absurd z (by decide))
              refine tw_iload rfl rfl ?_
              refine tw_istore rfl ?_
              refine tw_iinc rfl rfl ?_
              refine tw_goto rfl ?_
              exact tG_cut (zW_mono zTt G dp) (Or.inr ⟨rfl, rfl, rfl, n + 1, _, _, _, _, zincL hx q128, by omega, (sK_no (rt := tA _ 148) (rb := tA _ 149) (ri := tA _ 150) (tk := tA _ 145) (ts := tA _ 146) (tp := tA _ 147) (tb := tA _ 151) (p := p) (k := k) (s := s) (m := m) (z := z) (x := x) (zof_cl hx) (fun z => q139 z.2.2.2.2)).symm, rfl⟩)
            · try dsimp only [tvI_i, tvJ_j, tvR_r] at q139
              have q139i := zeqi rfl q139
              refine tw_push rfl ?_
              refine tw_goto rfl ?_
              refine tw_istore rfl ?_
              refine tw_iload rfl rfl ?_
              refine tw_if_eq rfl (fun z => absurd z (by decide)) (fun _ => ?_)
              refine tw_iload rfl rfl ?_
              refine tw_push rfl ?_
              refine tw_ic_eq rfl (fun q140 => ?_) (fun q140 => ?_)
              · try dsimp only [tvI_i, tvJ_j, tvR_r] at q140
                have q140i := zeqi (Y := (-1)) (by decide) q140
                refine tw_aload rfl rfl ?_
                refine tw_getS rfl (hs_111_54 hs) ?_
                refine tw_iload rfl rfl ?_
                refine tw_iald rfl (fun f141 => ?_)
                refine tw_goto rfl ?_
                refine tw_istore rfl ?_
                refine tw_iinc rfl rfl ?_
                refine tw_goto rfl ?_
                exact tG_cut (zW_mono zTt G dp) (Or.inr ⟨rfl, rfl, rfl, n + 1, _, _, _, _, zincL hx q128, by omega, (sK_y0 (rt := tA _ 148) (rb := tA _ 149) (ri := tA _ 150) (tk := tA _ 145) (ts := tA _ 146) (tp := tA _ 147) (tb := tA _ 151) (p := p) (k := k) (s := s) (m := m) (z := z) (x := x) (zof_cl hx) ⟨q131, by omega, q135, q137, q139⟩ q140).symm, rfl⟩)
              · try dsimp only [tvI_i, tvJ_j, tvR_r] at q140
                have q140i := zneq (Y := (-1)) (by decide) q140
                refine tw_iload rfl rfl ?_
                refine tw_if_eq rfl (fun q142 => ?_) (fun q142 => ?_)
                · try dsimp only [tvI_i, tvJ_j, tvR_r] at q142
                  have q142i := zeqi (Y := 0) (by decide) q142
                  refine tw_aload rfl rfl ?_
                  refine tw_getS rfl (hs_111_54 hs) ?_
                  refine tw_iload rfl rfl ?_
                  refine tw_iald rfl (fun f143 => ?_)
                  refine tw_iload rfl rfl ?_
                  refine tw_ic_le rfl (fun q144 => ?_) (fun q144 => ?_)
                  · try dsimp only [tvI_i, tvJ_j, tvR_r] at q144
                    refine tw_iload rfl rfl ?_
                    refine tw_istore rfl ?_
                    refine tw_iinc rfl rfl ?_
                    refine tw_goto rfl ?_
                    exact tG_cut (zW_mono zTt G dp) (Or.inr ⟨rfl, rfl, rfl, n + 1, _, _, _, _, zincL hx q128, by omega, ((sK_l0 (rt := tA _ 148) (rb := tA _ 149) (ri := tA _ 150) (tk := tA _ 145) (ts := tA _ 146) (tp := tA _ 147) (tb := tA _ 151) (p := p) (k := k) (s := s) (m := m) (z := z) (x := x) (zof_cl hx) ⟨q131, by omega, q135, q137, q139⟩ q142 q140).2 (by omega)).symm, rfl⟩)
                  · try dsimp only [tvI_i, tvJ_j, tvR_r] at q144
                    refine tw_aload rfl rfl ?_
                    refine tw_getS rfl (hs_111_54 hs) ?_
                    refine tw_iload rfl rfl ?_
                    refine tw_iald rfl (fun f145 => ?_)
                    refine tw_goto rfl ?_
                    refine tw_istore rfl ?_
                    refine tw_iinc rfl rfl ?_
                    refine tw_goto rfl ?_
                    exact tG_cut (zW_mono zTt G dp) (Or.inr ⟨rfl, rfl, rfl, n + 1, _, _, _, _, zincL hx q128, by omega, ((sK_l0 (rt := tA _ 148) (rb := tA _ 149) (ri := tA _ 150) (tk := tA _ 145) (ts := tA _ 146) (tp := tA _ 147) (tb := tA _ 151) (p := p) (k := k) (s := s) (m := m) (z := z) (x := x) (zof_cl hx) ⟨q131, by omega, q135, q137, q139⟩ q142 q140).1 (by omega)).symm, rfl⟩)
                · try dsimp only [tvI_i, tvJ_j, tvR_r] at q142
                  have q142i := zneq (Y := 0) (by decide) q142
                  refine tw_aload rfl rfl ?_
                  refine tw_getS rfl (hs_111_54 hs) ?_
                  refine tw_iload rfl rfl ?_
                  refine tw_iald rfl (fun f146 => ?_)
                  refine tw_iload rfl rfl ?_
                  refine tw_ic_ge rfl (fun q147 => ?_) (fun q147 => ?_)
                  · try dsimp only [tvI_i, tvJ_j, tvR_r] at q147
                    refine tw_iload rfl rfl ?_
                    refine tw_istore rfl ?_
                    refine tw_iinc rfl rfl ?_
                    refine tw_goto rfl ?_
                    exact tG_cut (zW_mono zTt G dp) (Or.inr ⟨rfl, rfl, rfl, n + 1, _, _, _, _, zincL hx q128, by omega, ((sK_l1 (rt := tA _ 148) (rb := tA _ 149) (ri := tA _ 150) (tk := tA _ 145) (ts := tA _ 146) (tp := tA _ 147) (tb := tA _ 151) (p := p) (k := k) (s := s) (m := m) (z := z) (x := x) (zof_cl hx) ⟨q131, by omega, q135, q137, q139⟩ q142 q140).2 (by omega)).symm, rfl⟩)
                  · try dsimp only [tvI_i, tvJ_j, tvR_r] at q147
                    refine tw_goto rfl ?_
                    refine tw_aload rfl rfl ?_
                    refine tw_getS rfl (hs_111_54 hs) ?_
                    refine tw_iload rfl rfl ?_
                    refine tw_iald rfl (fun f148 => ?_)
                    refine tw_goto rfl ?_
                    refine tw_istore rfl ?_
                    refine tw_iinc rfl rfl ?_
                    refine tw_goto rfl ?_
                    exact tG_cut (zW_mono zTt G dp) (Or.inr ⟨rfl, rfl, rfl, n + 1, _, _, _, _, zincL hx q128, by omega, ((sK_l1 (rt := tA _ 148) (rb := tA _ 149) (ri := tA _ 150) (tk := tA _ 145) (ts := tA _ 146) (tp := tA _ 147) (tb := tA _ 151) (p := p) (k := k) (s := s) (m := m) (z := z) (x := x) (zof_cl hx) ⟨q131, by omega, q135, q137, q139⟩ q142 q140).1 (by omega)).symm, rfl⟩)
noncomputable def ph_kn (P a K b N c A0 A1 A2 A3 A4 A5 A6 : Nat) (p k s m u : Int32) (h : zH) (w : Option Value) (h2 : zH) : Prop := (((0 ≤ p.toInt ∧ p.toInt < (tvI (tF h P a)).toInt) ∧ (0 ≤ k.toInt ∧ k.toInt < (tvI (tF h K b)).toInt) ∧ (0 ≤ s.toInt ∧ s.toInt ≤ 2) ∧ (0 ≤ m.toInt ∧ m.toInt ≤ 599) ∧ (0 ≤ u.toInt ∧ u.toInt ≤ 1)) ∧ w = some (.int (sK (tA h A0) (tA h A1) (tA h A2) (tA h A3) (tA h A4) (tA h A5) (tA h A6) p k s m (if u = 0 then 1 else 0) (tvI (tF h N c)).toNatClampNeg)) ∧ h2 = h) ∨ (¬ ((0 ≤ p.toInt ∧ p.toInt < (tvI (tF h P a)).toInt) ∧ (0 ≤ k.toInt ∧ k.toInt < (tvI (tF h K b)).toInt) ∧ (0 ≤ s.toInt ∧ s.toInt ≤ 2) ∧ (0 ≤ m.toInt ∧ m.toInt ≤ 599) ∧ (0 ≤ u.toInt ∧ u.toInt ≤ 1)) ∧ w = some (.int (-2)) ∧ h2 = h)
theorem f_knew {G : zG} (hG : G.1 = zProg) {h : zH} {p k s m u : Int32} (hs : tSh h) (h0 : 0 ≤ (tvI (tF h 54 9)).toInt) (hS : ∀ i j, i ≤ j → j < (tvI (tF h 54 9)).toNatClampNeg → (tA h 62 i).toInt ≤ (tA h 62 j).toInt) (hZ : ∀ x : Int32, (0 ≤ x.toInt ∧ x.toInt < (tvI (tF h 54 9)).toInt) → (0 ≤ (tA h 58 (tA h 60 x.toNatClampNeg).toNatClampNeg).toInt ∧ (tA h 58 (tA h 60 x.toNatClampNeg).toNatClampNeg).toInt ≤ 1) ∧ 0 ≤ (tA h 57 (tA h 60 x.toNatClampNeg).toNatClampNeg).toInt) : tC zTt G 131 [.ref 0, .int p, .int k, .int s, .int m, .int u] h (ph_kn 36 2 1 6 54 9 60 61 62 55 56 57 58 p k s m u h) := by
  refine tC_in (by rw [hG]; rfl) (fun dp => ?_)
  refine tw_aload rfl rfl ?_
  refine tw_getS rfl (hs_0_1 hs) ?_
  refine tw_iload rfl rfl ?_
  refine tw_virt1 rfl (f_hasPerson hG hs) (fun w9 h9 p149 => ?_)
  obtain ⟨⟨p149, rfl⟩ | ⟨p149, rfl⟩, rfl⟩ := p149
  · try dsimp only [tvI_i, tvJ_j, tvR_r] at p149
    refine tw_if_eq rfl (fun z => absurd z (by decide)) (fun _ => ?_)
    refine tw_aload rfl rfl ?_
    refine tw_getS rfl (hs_0_0 hs) ?_
    refine tw_iload rfl rfl ?_
    refine tw_virt1 rfl (f_hasKind hG hs) (fun w9 h9 p150 => ?_)
    obtain ⟨⟨p150, rfl⟩ | ⟨p150, rfl⟩, rfl⟩ := p150
    · try dsimp only [tvI_i, tvJ_j, tvR_r] at p150
      refine tw_if_eq rfl (fun z => absurd z (by decide)) (fun _ => ?_)
      refine tw_iload rfl rfl ?_
      refine tw_stat1 rfl (f_isSort hG) (fun w9 h9 p151 => ?_)
      obtain ⟨⟨p151, rfl⟩ | ⟨p151, rfl⟩, rfl⟩ := p151
      · try dsimp only [tvI_i, tvJ_j, tvR_r] at p151
        refine tw_if_eq rfl (fun z => absurd z (by decide)) (fun _ => ?_)
        refine tw_iload rfl rfl ?_
        refine tw_stat1 rfl (f_isMonth hG) (fun w9 h9 p152 => ?_)
        obtain ⟨⟨p152, rfl⟩ | ⟨p152, rfl⟩, rfl⟩ := p152
        · try dsimp only [tvI_i, tvJ_j, tvR_r] at p152
          refine tw_if_eq rfl (fun z => absurd z (by decide)) (fun _ => ?_)
          refine tw_push rfl ?_
          refine tw_goto rfl ?_
          refine tw_istore rfl ?_
          refine tw_iload rfl rfl ?_
          refine tw_if_eq rfl (fun z => absurd z (by decide)) (fun _ => ?_)
          refine tw_iload rfl rfl ?_
          refine tw_push rfl ?_
          refine tw_push rfl ?_
          refine tw_stat3 rfl (f_isWithin hG (LO := 0) (HI := 1) (by decide) (by decide)) (fun w9 h9 p153 => ?_)
          obtain ⟨⟨p153, rfl⟩ | ⟨p153, rfl⟩, rfl⟩ := p153
          · try dsimp only [tvI_i, tvJ_j, tvR_r] at p153
            refine tw_if_ne rfl (fun _ => ?_) (fun z => absurd z (by decide))
            refine tw_iload rfl rfl ?_
            refine tw_if_ne rfl (fun q154 => ?_) (fun q154 => ?_)
            · try dsimp only [tvI_i, tvJ_j, tvR_r] at q154
              have q154i := zneq (Y := 0) (by decide) q154
              refine tw_aload rfl rfl ?_
              refine tw_getS rfl (hs_0_4 hs) ?_
              refine tw_iload rfl rfl ?_
              refine tw_iload rfl rfl ?_
              refine tw_iload rfl rfl ?_
              refine tw_iload rfl rfl ?_
              refine tw_virt4 rfl (f_greatestUnburned hG hs h0 hS hZ) (fun w9 h9 p155 => ?_)
              obtain ⟨rfl, rfl⟩ := p155
              exact tw_iret rfl (Or.inl ⟨by omega, by rw [if_neg q154] <;> rfl, rfl⟩)
            · try dsimp only [tvI_i, tvJ_j, tvR_r] at q154
              have q154i := zeqi (Y := 0) (by decide) q154
              refine tw_aload rfl rfl ?_
              refine tw_getS rfl (hs_0_4 hs) ?_
              refine tw_iload rfl rfl ?_
              refine tw_iload rfl rfl ?_
              refine tw_iload rfl rfl ?_
              refine tw_iload rfl rfl ?_
              refine tw_virt4 rfl (f_leastBurned hG hs h0 hS hZ) (fun w9 h9 p156 => ?_)
              obtain ⟨rfl, rfl⟩ := p156
              exact tw_iret rfl (Or.inl ⟨by omega, by rw [if_pos q154] <;> rfl, rfl⟩)
          · try dsimp only [tvI_i, tvJ_j, tvR_r] at p153
            refine tw_if_ne rfl (fun z => absurd z (by decide)) (fun _ => ?_)
            refine tw_push rfl ?_
            exact tw_iret rfl (Or.inr ⟨by omega, rfl, rfl⟩)
        · try dsimp only [tvI_i, tvJ_j, tvR_r] at p152
          refine tw_if_eq rfl (fun _ => ?_) (fun z => absurd z (by decide))
          refine tw_push rfl ?_
          refine tw_istore rfl ?_
          refine tw_iload rfl rfl ?_
          refine tw_if_eq rfl (fun _ => ?_) (fun z => absurd z (by decide))
          refine tw_push rfl ?_
          exact tw_iret rfl (Or.inr ⟨by omega, rfl, rfl⟩)
      · try dsimp only [tvI_i, tvJ_j, tvR_r] at p151
        refine tw_if_eq rfl (fun _ => ?_) (fun z => absurd z (by decide))
        refine tw_push rfl ?_
        refine tw_istore rfl ?_
        refine tw_iload rfl rfl ?_
        refine tw_if_eq rfl (fun _ => ?_) (fun z => absurd z (by decide))
        refine tw_push rfl ?_
        exact tw_iret rfl (Or.inr ⟨by omega, rfl, rfl⟩)
    · try dsimp only [tvI_i, tvJ_j, tvR_r] at p150
      refine tw_if_eq rfl (fun _ => ?_) (fun z => absurd z (by decide))
      refine tw_push rfl ?_
      refine tw_istore rfl ?_
      refine tw_iload rfl rfl ?_
      refine tw_if_eq rfl (fun _ => ?_) (fun z => absurd z (by decide))
      refine tw_push rfl ?_
      exact tw_iret rfl (Or.inr ⟨by omega, rfl, rfl⟩)
  · try dsimp only [tvI_i, tvJ_j, tvR_r] at p149
    refine tw_if_eq rfl (fun _ => ?_) (fun z => absurd z (by decide))
    refine tw_push rfl ?_
    refine tw_istore rfl ?_
    refine tw_iload rfl rfl ?_
    refine tw_if_eq rfl (fun _ => ?_) (fun z => absurd z (by decide))
    refine tw_push rfl ?_
    exact tw_iret rfl (Or.inr ⟨by omega, rfl, rfl⟩)
theorem g_isMonth {G : zG} (hG : G.1 = zProg) {h : zH} {n : Int32} : tC zTt G 172 [.int n] h (fun w h2 => tBo (0 ≤ n.toInt ∧ n.toInt ≤ 599) w ∧ h2 = h) := by
  refine tC_in (by rw [hG]; rfl) (fun dp => ?_)
  refine tw_iload rfl rfl ?_
  refine tw_i2l rfl ?_
  refine tw_push rfl ?_
  refine tw_push rfl ?_
  refine tw_stat3 rfl (f_in hG  (LO := 0) (HI := 599) (Int32.toInt_toInt64 _) (by decide) (by decide)) (fun w9 h9 p157 => ?_)
  obtain ⟨⟨p157, rfl⟩ | ⟨p157, rfl⟩, rfl⟩ := p157
  · try dsimp only [tvI_i, tvJ_j, tvR_r] at p157
    exact tw_iret rfl ⟨Or.inl ⟨p157, rfl⟩, rfl⟩
  · try dsimp only [tvI_i, tvJ_j, tvR_r] at p157
    exact tw_iret rfl ⟨Or.inr ⟨p157, rfl⟩, rfl⟩
theorem g_isAsked {G : zG} (hG : G.1 = zProg) {h : zH} {k s m : Int32} (hs : tSh h) (hk3 : 0 ≤ (tvI (tF h 111 3)).toInt) : tC zTt G 234 [.ref 111, .int k, .int s, .int m] h (fun w h2 => tBo ((0 ≤ k.toInt ∧ k.toInt < (tvI (tF h 111 3)).toInt) ∧ (0 ≤ s.toInt ∧ s.toInt ≤ 2) ∧ (0 ≤ m.toInt ∧ m.toInt ≤ 599)) w ∧ h2 = h) := by
  refine tC_in (by rw [hG]; rfl) (fun dp => ?_)
  refine tw_aload rfl rfl ?_
  refine tw_iload rfl rfl ?_
  refine tw_virt1 rfl (g_isKind hG hs hk3) (fun w9 h9 p158 => ?_)
  obtain ⟨⟨p158, rfl⟩ | ⟨p158, rfl⟩, rfl⟩ := p158
  · try dsimp only [tvI_i, tvJ_j, tvR_r] at p158
    refine tw_if_eq rfl (fun z => absurd z (by decide)) (fun _ => ?_)
    refine tw_iload rfl rfl ?_
    refine tw_stat1 rfl (g_isSort hG) (fun w9 h9 p159 => ?_)
    obtain ⟨⟨p159, rfl⟩ | ⟨p159, rfl⟩, rfl⟩ := p159
    · try dsimp only [tvI_i, tvJ_j, tvR_r] at p159
      refine tw_if_eq rfl (fun z => absurd z (by decide)) (fun _ => ?_)
      refine tw_iload rfl rfl ?_
      refine tw_stat1 rfl (g_isMonth hG) (fun w9 h9 p160 => ?_)
      obtain ⟨⟨p160, rfl⟩ | ⟨p160, rfl⟩, rfl⟩ := p160
      · try dsimp only [tvI_i, tvJ_j, tvR_r] at p160
        refine tw_if_eq rfl (fun z => absurd z (by decide)) (fun _ => ?_)
        refine tw_push rfl ?_
        refine tw_goto rfl ?_
        exact tw_iret rfl ⟨Or.inl ⟨by omega, rfl⟩, rfl⟩
      · try dsimp only [tvI_i, tvJ_j, tvR_r] at p160
        refine tw_if_eq rfl (fun _ => ?_) (fun z => absurd z (by decide))
        refine tw_push rfl ?_
        exact tw_iret rfl ⟨Or.inr ⟨by omega, rfl⟩, rfl⟩
    · try dsimp only [tvI_i, tvJ_j, tvR_r] at p159
      refine tw_if_eq rfl (fun _ => ?_) (fun z => absurd z (by decide))
      refine tw_push rfl ?_
      exact tw_iret rfl ⟨Or.inr ⟨by omega, rfl⟩, rfl⟩
  · try dsimp only [tvI_i, tvJ_j, tvR_r] at p158
    refine tw_if_eq rfl (fun _ => ?_) (fun z => absurd z (by decide))
    refine tw_push rfl ?_
    exact tw_iret rfl ⟨Or.inr ⟨by omega, rfl⟩, rfl⟩
theorem g_knew {G : zG} (hG : G.1 = zProg) {h : zH} {p k s m u : Int32} (hs : tSh h) (hr0 : 0 ≤ (tvI (tF h 111 51)).toInt) (hk2 : 0 ≤ (tvI (tF h 111 2)).toInt) (hk3 : 0 ≤ (tvI (tF h 111 3)).toInt) : tC zTt G 241 [.ref 111, .int p, .int k, .int s, .int m, .int u] h (ph_kn 111 2 111 3 111 51 148 149 150 145 146 147 151 p k s m u h) := by
  refine tC_in (by rw [hG]; rfl) (fun dp => ?_)
  refine tw_aload rfl rfl ?_
  refine tw_iload rfl rfl ?_
  refine tw_virt1 rfl (g_isPerson hG hs hk2) (fun w9 h9 p161 => ?_)
  obtain ⟨⟨p161, rfl⟩ | ⟨p161, rfl⟩, rfl⟩ := p161
  · try dsimp only [tvI_i, tvJ_j, tvR_r] at p161
    refine tw_if_eq rfl (fun z => absurd z (by decide)) (fun _ => ?_)
    refine tw_aload rfl rfl ?_
    refine tw_iload rfl rfl ?_
    refine tw_iload rfl rfl ?_
    refine tw_iload rfl rfl ?_
    refine tw_virt3 rfl (g_isAsked hG hs hk3) (fun w9 h9 p162 => ?_)
    obtain ⟨⟨p162, rfl⟩ | ⟨p162, rfl⟩, rfl⟩ := p162
    · try dsimp only [tvI_i, tvJ_j, tvR_r] at p162
      refine tw_if_eq rfl (fun z => absurd z (by decide)) (fun _ => ?_)
      refine tw_iload rfl rfl ?_
      refine tw_i2l rfl ?_
      refine tw_push rfl ?_
      refine tw_push rfl ?_
      refine tw_stat3 rfl (f_in hG  (LO := 0) (HI := 1) (Int32.toInt_toInt64 _) (by decide) (by decide)) (fun w9 h9 p163 => ?_)
      obtain ⟨⟨p163, rfl⟩ | ⟨p163, rfl⟩, rfl⟩ := p163
      · try dsimp only [tvI_i, tvJ_j, tvR_r] at p163
        refine tw_if_eq rfl (fun z => absurd z (by decide)) (fun _ => ?_)
        refine tw_aload rfl rfl ?_
        refine tw_iload rfl rfl ?_
        refine tw_iload rfl rfl ?_
        refine tw_iload rfl rfl ?_
        refine tw_iload rfl rfl ?_
        refine tw_iload rfl rfl ?_
        refine tw_if_ne rfl (fun q164 => ?_) (fun q164 => ?_)
        · try dsimp only [tvI_i, tvJ_j, tvR_r] at q164
          have q164i := zneq (Y := 0) (by decide) q164
          refine tw_push rfl ?_
          refine tw_virt5 rfl (g_knewOf hG hs hr0) (fun w9 h9 p165 => ?_)
          obtain ⟨rfl, rfl⟩ := p165
          refine tw_goto rfl ?_
          exact tw_iret rfl (Or.inl ⟨by omega, by rw [if_neg q164] <;> rfl, rfl⟩)
        · try dsimp only [tvI_i, tvJ_j, tvR_r] at q164
          have q164i := zeqi (Y := 0) (by decide) q164
          refine tw_push rfl ?_
          refine tw_goto rfl ?_
          refine tw_virt5 rfl (g_knewOf hG hs hr0) (fun w9 h9 p166 => ?_)
          obtain ⟨rfl, rfl⟩ := p166
          refine tw_goto rfl ?_
          exact tw_iret rfl (Or.inl ⟨by omega, by rw [if_pos q164] <;> rfl, rfl⟩)
      · try dsimp only [tvI_i, tvJ_j, tvR_r] at p163
        refine tw_if_eq rfl (fun _ => ?_) (fun z => absurd z (by decide))
        refine tw_push rfl ?_
        exact tw_iret rfl (Or.inr ⟨by omega, rfl, rfl⟩)
    · try dsimp only [tvI_i, tvJ_j, tvR_r] at p162
      refine tw_if_eq rfl (fun _ => ?_) (fun z => absurd z (by decide))
      refine tw_push rfl ?_
      exact tw_iret rfl (Or.inr ⟨by omega, rfl, rfl⟩)
  · try dsimp only [tvI_i, tvJ_j, tvR_r] at p161
    refine tw_if_eq rfl (fun _ => ?_) (fun z => absurd z (by decide))
    refine tw_push rfl ?_
    exact tw_iret rfl (Or.inr ⟨by omega, rfl, rfl⟩)
theorem a_knew {p k s m u : Int32} {h h2 h3 : zH} {w w2 : Option Value} (hP : R_people h) (hK : R_kinds h) (hN : R_readings h) (h1 : R_rtest h) (h4 : R_rby h) (h5 : R_rin h) (h6 : R_tkind h) (h7 : R_tsort h) (h8 : R_tspeed h) (h9 : R_tburn h) (k1 : ph_kn 36 2 1 6 54 9 60 61 62 55 56 57 58 p k s m u h w h2) (k2 : ph_kn 111 2 111 3 111 51 148 149 150 145 146 147 151 p k s m u h2 w2 h3) : w2 = w := by
  unfold R_people at hP
  unfold R_kinds at hK
  unfold R_readings at hN
  unfold R_rtest at h1
  unfold R_rby at h4
  unfold R_rin at h5
  unfold R_tkind at h6
  unfold R_tsort at h7
  unfold R_tspeed at h8
  unfold R_tburn at h9
  have e : h2 = h := by
    rcases k1 with ⟨-, -, e⟩ | ⟨-, -, e⟩ <;> exact e
  subst e
  unfold ph_kn at k1 k2
  rw [← hP, ← hK, ← hN, ← h1, ← h4, ← h5, ← h6, ← h7, ← h8, ← h9] at k2
  rcases k1 with ⟨c1, rfl, -⟩ | ⟨c1, rfl, -⟩ <;> rcases k2 with ⟨c2, rfl, -⟩ | ⟨c2, rfl, -⟩
  · rfl
  · exact absurd c1 c2
  · exact absurd c2 c1
  · rfl
theorem knew_hZ {xs : Nat → Int32} {τ : List Nat} {h : zH} (hB : zBs xs τ h) : ∀ x : Int32, (0 ≤ x.toInt ∧ x.toInt < (tvI (tF h 54 9)).toInt) → (0 ≤ (tA h 58 (tA h 60 x.toNatClampNeg).toNatClampNeg).toInt ∧ (tA h 58 (tA h 60 x.toNatClampNeg).toNatClampNeg).toInt ≤ 1) ∧ 0 ≤ (tA h 57 (tA h 60 x.toNatClampNeg).toNatClampNeg).toInt := by
  intro x hx
  have n1 := (kb_54_9 hB).2
  have a := (ka_60 hB).2 x.toNatClampNeg (by rw [zclE]; omega)
  have b : (tA h 60 x.toNatClampNeg).toNatClampNeg < 200 := by rw [zclE]; omega
  exact ⟨(ka_58 hB).2 _ b, ((ka_57 hB).2 _ b).1⟩
