/-! what is answered: small helpers -/
noncomputable def tBo (P : Prop) (w : Option Value) : Prop := (P ∧ w = some (.int 1)) ∨ (¬ P ∧ w = some (.int 0))
theorem tBo_i {P R : Prop} {w : Option Value} (e : P ↔ R) (k : tBo P w) : tBo R w := k.imp (fun z => ⟨e.mp z.1, z.2⟩) (fun z => ⟨fun y => z.1 (e.mpr y), z.2⟩)
theorem zpB_c {b : Int × Int} {r : List (Int × Int)} {xs : List Int32} (h : zpB (b :: r) xs) : ∃ x ys, xs = x :: ys ∧ (b.1 ≤ x.toInt ∧ x.toInt ≤ b.2) ∧ zpB r ys := by
  obtain ⟨lo, hi⟩ := b
  cases xs with
  | nil => exact h.elim
  | cons x ys => exact ⟨x, ys, rfl, h.1, h.2⟩
theorem zpB_n {xs : List Int32} (h : zpB [] xs) : xs = [] := by
  cases xs with
  | nil => rfl
  | cons x ys => exact h.elim
theorem zclx {x : Int32} (h : 0 ≤ x.toInt) : (x.toNatClampNeg : Int) = x.toInt := by
  show ((x.toInt.toNat : Nat) : Int) = _
  omega
theorem zclE {x : Int32} : x.toNatClampNeg = x.toInt.toNat := rfl
theorem zeqi {x y : Int32} {Y : Int} (hy : y.toInt = Y) (h : x = y) : x.toInt = Y := by rw [h]; exact hy
theorem zneq {x y : Int32} {Y : Int} (hy : y.toInt = Y) (h : ¬ x = y) : x.toInt ≠ Y := fun z => h (Int32.toInt_inj.mp (z.trans hy.symm))
theorem zsub1 {x : Int32} (h : 0 ≤ x.toInt) : (x - 1).toInt = x.toInt - 1 := by
  have := Int32.toInt_lt x
  rw [Int32.toInt_sub]
  exact Int.bmod_eq_of_le (by show (-2147483648 : Int) ≤ x.toInt - 1; omega) (by show x.toInt - 1 < (2147483648 : Int); omega)
noncomputable def tRwl : List (Nat × Nat) := [(4, 5), (14, 15), (27, 28), (97, 98)]
noncomputable def tRw (h : zH) : Prop := ∀ q ∈ tRwl, ∀ i, i < tN h q.1 → tO h q.1 i = some (q.2 + i)
theorem tRw_A {h : zH} {r i : Nat} {x : Int32} (k : tRw h) : tRw (tSA h r i x) := by unfold tRw; rw [tO_tSA, tN_tSA]; exact k
theorem tRw_J {h : zH} {r i : Nat} {x : Int64} (k : tRw h) : tRw (tSJ h r i x) := by unfold tRw; rw [tO_tSJ, tN_tSJ]; exact k
theorem tRw_F {h : zH} {r b : Nat} {w : Value} (k : tRw h) : tRw (tSF h r b w) := by unfold tRw; rw [tO_tSF, tN_tSF]; exact k
theorem tRw_at {h : zH} (k : tRw h) {p q : Nat} (hm : (p, q) ∈ tRwl) {i : Int32} (z : tInO h p i) : zrf (tO h p i.toNatClampNeg) = .ref (q + i.toNatClampNeg) := by
  rw [k (p, q) hm _ z.rg.2]
  rfl
theorem tfr_N {xs : Nat → Int32} {τ : List Nat} {h h2 : zH} {W : Nat → Nat → Bool} {p t : Nat} (hB : zBs xs τ h) (hf : yFr W τ h h2) (ht : zTG[p]? = some t) : tN h2 p = tN h p := by
  obtain ⟨ct, c, a1, a2, -⟩ := hB.1.2 _ _ (hB.2.1 _ _ ht)
  obtain ⟨c2, b1, b2⟩ := hf _ _ _ (hB.2.1 _ _ ht) a2
  unfold tN
  rw [a2, b1]
  match c, c2, b2 with
  | .inr (x, fs), .inr (y, gs), b2 => rfl
  | .inl (k, N, x), .inl (k2, N2, y), b2 => exact b2.2.1.symm
theorem tfr_Fs {xs : Nat → Int32} {τ : List Nat} {h h2 : zH} {W : Nat → Nat → Bool} {p t b : Nat} (hB : zBs xs τ h) (hf : yFr W τ h h2) (ht : τ[p]? = some t) (hW : W t b = false) : tF h2 p b = tF h p b := by
  obtain ⟨ct, c, a1, a2, -⟩ := hB.1.2 _ _ ht
  obtain ⟨c2, b1, b2⟩ := hf _ _ _ ht a2
  unfold tF
  rw [a2, b1]
  match c, c2, b2 with
  | .inr (x, fs), .inr (y, gs), b2 =>
    dsimp only
    rw [List.getD_eq_getElem?_getD, List.getD_eq_getElem?_getD, b2.2.2 b hW]
  | .inl (k, N, x), .inl (k2, N2, y), b2 => rfl
theorem car_tag {xs : Nat → Int32} {τ : List Nat} {h : zH} (hB : zBs xs τ h) {i r : Nat} (hi : (i : Int) < (tvI (tF h 36 4)).toInt) (hr : tO h 39 i = some r) : τ[r]? = some 150 := by
  have hn := (kb_36_4 hB).2
  obtain ⟨a, b, c⟩ := tkd_o hB (p := 39) (t := 15) rfl rfl
  obtain ⟨-, -, c3⟩ := c i (by omega)
  rw [hr] at c3
  rcases c3 with z | z | z
  · cases z
  · have : zoi (some r) = (r : Int) := rfl
    omega
  · exact z
theorem car_lt {xs : Nat → Int32} {τ : List Nat} {h : zH} (hB : zBs xs τ h) {i r : Nat} (hi : (i : Int) < (tvI (tF h 36 4)).toInt) (hr : tO h 39 i = some r) : r < h.length := by
  have z := car_tag hB hi hr
  rcases Nat.lt_or_ge r τ.length with q | q
  · have := hB.1.1; omega
  · rw [List.getElem?_eq_none q] at z; cases z
theorem car_ne {xs : Nat → Int32} {τ : List Nat} {h : zH} (hB : zBs xs τ h) {i r : Nat} (hi : (i : Int) < (tvI (tF h 36 4)).toInt) (hr : tO h 39 i = some r) {p t : Nat} (ht : zTG[p]? = some t) (hn : t ≠ 150) : r ≠ p := by
  intro e
  subst e
  have z := car_tag hB hi hr
  rw [hB.2.1 _ _ ht] at z
  cases z
  exact hn rfl
theorem zBs_len {xs : Nat → Int32} {τ : List Nat} {h : zH} (hB : zBs xs τ h) : 182 ≤ h.length := by
  have z := hB.2.1 181 149 rfl
  rcases Nat.lt_or_ge 181 τ.length with q | q
  · have := hB.1.1; omega
  · rw [List.getElem?_eq_none q] at z; cases z
/-- a count: what is told is the next of so many, or none -/
noncomputable def phN (p b : Nat) (C : Prop) (h : zH) (w : Option Value) (h2 : zH) : Prop := (C ∧ w = some (tF h p b) ∧ tF h2 p b = .int (tvI (tF h p b) + 1)) ∨ (¬ C ∧ w = some (.int (-1)) ∧ tF h2 p b = tF h p b)
theorem phN_a {p b q c : Nat} {C D : Prop} {h h2 h3 : zH} {w w2 : Option Value} (hR : tF h p b = tF h q c) (e1 : tF h2 q c = tF h q c) (e2 : tF h3 p b = tF h2 p b) (hCD : C ↔ D) (k1 : phN p b C h w h2) (k2 : phN q c D h2 w2 h3) : w2 = w ∧ tF h3 p b = tF h3 q c := by
  rcases k1 with ⟨c1, rfl, f1⟩ | ⟨c1, rfl, f1⟩ <;> rcases k2 with ⟨c2, rfl, f2⟩ | ⟨c2, rfl, f2⟩
  · rw [e2, f1, f2, e1, hR]
    exact ⟨rfl, rfl⟩
  · exact absurd (hCD.mp c1) c2
  · exact absurd (hCD.mpr c2) c1
  · rw [e2, f1, f2, e1, hR]
    exact ⟨rfl, rfl⟩
theorem zi1 {x : Int32} : x + 1 - 1 = x := Int32.add_sub_cancel x 1
/-- a count and what is told in arrays at its place -/
noncomputable def phA (p b : Nat) (C : Prop) (l : List (Nat × Int32)) (h : zH) (w : Option Value) (h2 : zH) : Prop := (C ∧ w = some (tF h p b) ∧ tF h2 p b = .int (tvI (tF h p b) + 1) ∧ ∀ q ∈ l, tA h2 q.1 = fun j => if j = (tvI (tF h p b)).toNatClampNeg then q.2 else tA h q.1 j) ∨ (¬ C ∧ w = some (.int (-1)) ∧ tF h2 p b = tF h p b ∧ ∀ q ∈ l, tA h2 q.1 = tA h q.1)
theorem phA_a {p b q c : Nat} {C D : Prop} {l m : List (Nat × Int32)} {h h2 h3 : zH} {w w2 : Option Value} (hR : tF h p b = tF h q c) (e1 : tF h2 q c = tF h q c) (e2 : tF h3 p b = tF h2 p b) (hCD : C ↔ D) (k1 : phA p b C l h w h2) (k2 : phA q c D m h2 w2 h3) : w2 = w ∧ tF h3 p b = tF h3 q c ∧ ∀ P Q v, (P, v) ∈ l → (Q, v) ∈ m → tA h P = tA h Q → tA h2 Q = tA h Q → tA h3 P = tA h2 P → tA h3 P = tA h3 Q := by
  rcases k1 with ⟨c1, rfl, f1, g1⟩ | ⟨c1, rfl, f1, g1⟩ <;> rcases k2 with ⟨c2, rfl, f2, g2⟩ | ⟨c2, rfl, f2, g2⟩
  · refine ⟨by rw [e1, hR], by rw [e2, f1, f2, e1, hR], fun P Q v hP hQ a1 a2 a3 => ?_⟩
    rw [a3, g1 _ hP, g2 _ hQ, e1, ← hR]
    dsimp only
    rw [a1, a2]
  · exact absurd (hCD.mp c1) c2
  · exact absurd (hCD.mpr c2) c1
  · refine ⟨rfl, by rw [e2, f1, f2, e1, hR], fun P Q v hP hQ a1 a2 a3 => ?_⟩
    have h1 := g1 _ hP
    have h2 := g2 _ hQ
    dsimp only at h1 h2
    rw [a3, h1, h2, a1, a2]
theorem tA_st {h : zH} {r i : Nat} {x : Int32} {kd : Nat} {z : Int32} (hf : tIn h r kd z) {f : Nat → Int32} (k : tA h r = f) : tA (tSA h r i x) r = fun j => if j = i then x else f j := by
  rw [tA_tSA hf.cell]
  funext j
  dsimp only
  rw [k]
  by_cases e : j = i
  · rw [if_pos ⟨rfl, e⟩, if_pos e]
  · rw [if_neg (fun z => e z.2), if_neg e]
theorem tA_n {h : zH} {r i p : Nat} {x : Int32} {f : Nat → Int32} (hn : p ≠ r) (k : tA h p = f) : tA (tSA h r i x) p = f := by rw [tA_nz hn]; exact k
theorem tA_ff {h : zH} {r b p : Nat} {w : Value} {f : Nat → Int32} (k : tA h p = f) : tA (tSF h r b w) p = f := by rw [tA_tSF]; exact k
theorem tA_jj {h : zH} {r i p : Nat} {x : Int64} {f : Nat → Int32} (k : tA h p = f) : tA (tSJ h r i x) p = f := by rw [tA_tSJ]; exact k
theorem tA_oo {h : zH} {r i p : Nat} {x : Option Nat} {f : Nat → Int32} (k : tA h p = f) : tA (tSO h r i x) p = f := by rw [tA_tSO]; exact k
noncomputable def R_now (h : zH) : Prop := tF h 0 14 = tF h 111 1
noncomputable def ph_clock (p b : Nat) (month : Int32) (h : zH) (w : Option Value) (h2 : zH) : Prop := (((tvI (tF h p b)).toInt ≤ month.toInt ∧ month.toInt ≤ 599) ∧ w = some (.int 1) ∧ tF h2 p b = .int month) ∨ (¬ ((tvI (tF h p b)).toInt ≤ month.toInt ∧ month.toInt ≤ 599) ∧ w = some (.int 0) ∧ tF h2 p b = tF h p b)
theorem f_isWithin {G : zG} (hG : G.1 = zProg) {h : zH} {n lo hi : Int32} {LO HI : Int} (hlo : lo.toInt = LO) (hhi : hi.toInt = HI) : tC zTt G 158 [.int n, .int lo, .int hi] h (fun w h2 => tBo (LO ≤ n.toInt ∧ n.toInt ≤ HI) w ∧ h2 = h) := by
  refine tC_in (by rw [hG]; rfl) (fun dp => ?_)
  refine tw_iload rfl rfl ?_
  refine tw_iload rfl rfl ?_
  refine tw_ic_lt rfl (fun q1 => ?_) (fun q1 => ?_)
  · try dsimp only [tvI_i, tvJ_j, tvR_r] at q1
    refine tw_push rfl ?_
    exact tw_iret rfl ⟨Or.inr ⟨by omega, rfl⟩, rfl⟩
  · try dsimp only [tvI_i, tvJ_j, tvR_r] at q1
    refine tw_iload rfl rfl ?_
    refine tw_iload rfl rfl ?_
    refine tw_ic_gt rfl (fun q2 => ?_) (fun q2 => ?_)
    · try dsimp only [tvI_i, tvJ_j, tvR_r] at q2
      refine tw_push rfl ?_
      exact tw_iret rfl ⟨Or.inr ⟨by omega, rfl⟩, rfl⟩
    · try dsimp only [tvI_i, tvJ_j, tvR_r] at q2
      refine tw_push rfl ?_
      refine tw_goto rfl ?_
      exact tw_iret rfl ⟨Or.inl ⟨by omega, rfl⟩, rfl⟩
theorem f_isMonth {G : zG} (hG : G.1 = zProg) {h : zH} {n : Int32} : tC zTt G 159 [.int n] h (fun w h2 => tBo (0 ≤ n.toInt ∧ n.toInt ≤ 599) w ∧ h2 = h) := by
  refine tC_in (by rw [hG]; rfl) (fun dp => ?_)
  refine tw_iload rfl rfl ?_
  refine tw_push rfl ?_
  refine tw_push rfl ?_
  refine tw_stat3 rfl (f_isWithin hG (LO := 0) (HI := 599) (by decide) (by decide)) (fun w9 h9 p3 => ?_)
  obtain ⟨⟨p3, rfl⟩ | ⟨p3, rfl⟩, rfl⟩ := p3
  · try dsimp only [tvI_i, tvJ_j, tvR_r] at p3
    exact tw_iret rfl ⟨Or.inl ⟨p3, rfl⟩, rfl⟩
  · try dsimp only [tvI_i, tvJ_j, tvR_r] at p3
    exact tw_iret rfl ⟨Or.inr ⟨p3, rfl⟩, rfl⟩
theorem f_clock {G : zG} (hG : G.1 = zProg) {h : zH} {month : Int32} (hs : tSh h) (hk : 0 ≤ (tvI (tF h 0 14)).toInt) : tC zTt G 110 [.ref 0, .int month] h (ph_clock 0 14 month h) := by
  refine tC_in (by rw [hG]; rfl) (fun dp => ?_)
  refine tw_iload rfl rfl ?_
  refine tw_stat1 rfl (f_isMonth hG) (fun w9 h9 p4 => ?_)
  obtain ⟨⟨p4, rfl⟩ | ⟨p4, rfl⟩, rfl⟩ := p4
  · try dsimp only [tvI_i, tvJ_j, tvR_r] at p4
    refine tw_if_eq rfl (fun z => absurd z (by decide)) (fun _ => ?_)
    refine tw_iload rfl rfl ?_
    refine tw_aload rfl rfl ?_
    refine tw_getS rfl (hi_0_14 hs) ?_
    refine tw_ic_ge rfl (fun q5 => ?_) (fun q5 => ?_)
    · try dsimp only [tvI_i, tvJ_j, tvR_r] at q5
      refine tw_aload rfl rfl ?_
      refine tw_iload rfl rfl ?_
      refine tw_put rfl (fun f6 => ?_)
      refine tw_push rfl ?_
      exact tw_iret rfl (Or.inl ⟨by omega, rfl, (tF_same f6)⟩)
    · try dsimp only [tvI_i, tvJ_j, tvR_r] at q5
      refine tw_push rfl ?_
      exact tw_iret rfl (Or.inr ⟨by omega, rfl, rfl⟩)
  · try dsimp only [tvI_i, tvJ_j, tvR_r] at p4
    refine tw_if_eq rfl (fun _ => ?_) (fun z => absurd z (by decide))
    refine tw_push rfl ?_
    exact tw_iret rfl (Or.inr ⟨by omega, rfl, rfl⟩)
theorem f_in {G : zG} (hG : G.1 = zProg) {h : zH} {x lo hi : Int64} {X LO HI : Int} (hx : x.toInt = X) (hlo : lo.toInt = LO) (hhi : hi.toInt = HI) : tC zTt G 171 [.long x, .long lo, .long hi] h (fun w h2 => tBo (LO ≤ X ∧ X ≤ HI) w ∧ h2 = h) := by
  refine tC_in (by rw [hG]; rfl) (fun dp => ?_)
  refine tw_lload rfl rfl ?_
  refine tw_lload rfl rfl ?_
  refine tw_lc_lt rfl rfl (fun q7 => ?_) (fun q7 => ?_)
  · try dsimp only [tvI_i, tvJ_j, tvR_r] at q7
    refine tw_push rfl ?_
    exact tw_iret rfl ⟨Or.inr ⟨by omega, rfl⟩, rfl⟩
  · try dsimp only [tvI_i, tvJ_j, tvR_r] at q7
    refine tw_lload rfl rfl ?_
    refine tw_lload rfl rfl ?_
    refine tw_lc_gt rfl rfl (fun q8 => ?_) (fun q8 => ?_)
    · try dsimp only [tvI_i, tvJ_j, tvR_r] at q8
      refine tw_push rfl ?_
      exact tw_iret rfl ⟨Or.inr ⟨by omega, rfl⟩, rfl⟩
    · try dsimp only [tvI_i, tvJ_j, tvR_r] at q8
      refine tw_push rfl ?_
      refine tw_goto rfl ?_
      exact tw_iret rfl ⟨Or.inl ⟨by omega, rfl⟩, rfl⟩
theorem g_clock {G : zG} (hG : G.1 = zProg) {h : zH} {month : Int32} (hs : tSh h) : tC zTt G 174 [.ref 111, .int month] h (ph_clock 111 1 month h) := by
  refine tC_in (by rw [hG]; rfl) (fun dp => ?_)
  refine tw_iload rfl rfl ?_
  refine tw_i2l rfl ?_
  refine tw_aload rfl rfl ?_
  refine tw_getS rfl (hi_111_1 hs) ?_
  refine tw_i2l rfl ?_
  refine tw_push rfl ?_
  refine tw_stat3 rfl (f_in hG   (HI := 599) (Int32.toInt_toInt64 _) (Int32.toInt_toInt64 _) (by decide)) (fun w9 h9 p9 => ?_)
  obtain ⟨⟨p9, rfl⟩ | ⟨p9, rfl⟩, rfl⟩ := p9
  · try dsimp only [tvI_i, tvJ_j, tvR_r] at p9
    refine tw_if_ne rfl (fun _ => ?_) (fun z => absurd z (by decide))
    refine tw_aload rfl rfl ?_
    refine tw_iload rfl rfl ?_
    refine tw_put rfl (fun f10 => ?_)
    refine tw_push rfl ?_
    exact tw_iret rfl (Or.inl ⟨by omega, rfl, (tF_same f10)⟩)
  · try dsimp only [tvI_i, tvJ_j, tvR_r] at p9
    refine tw_if_ne rfl (fun z => absurd z (by decide)) (fun _ => ?_)
    refine tw_push rfl ?_
    exact tw_iret rfl (Or.inr ⟨by omega, rfl, rfl⟩)
theorem a_clock {month : Int32} {h h2 h3 : zH} {w w2 : Option Value} (hR : R_now h) (e1 : tF h2 111 1 = tF h 111 1) (e2 : tF h3 0 14 = tF h2 0 14) (k1 : ph_clock 0 14 month h w h2) (k2 : ph_clock 111 1 month h2 w2 h3) : w2 = w ∧ R_now h3 := by
  unfold R_now at *
  unfold ph_clock at k1 k2
  rw [e1, ← hR] at k2
  rw [e2]
  rcases k1 with ⟨c1, rfl, f1⟩ | ⟨c1, rfl, f1⟩ <;> rcases k2 with ⟨c2, rfl, f2⟩ | ⟨c2, rfl, f2⟩
  · exact ⟨rfl, f1.trans f2.symm⟩
  · exact absurd c1 c2
  · exact absurd c2 c1
  · exact ⟨rfl, f1.trans f2.symm⟩
noncomputable def R_rw (h : zH) : Prop := tRw h
noncomputable def R_kinds (h : zH) : Prop := tF h 1 6 = tF h 111 3
theorem f_isFirm {G : zG} (hG : G.1 = zProg) {h : zH} {n : Int32} : tC zTt G 160 [.int n] h (fun w h2 => tBo (0 ≤ n.toInt ∧ n.toInt ≤ 3) w ∧ h2 = h) := by
  refine tC_in (by rw [hG]; rfl) (fun dp => ?_)
  refine tw_iload rfl rfl ?_
  refine tw_push rfl ?_
  refine tw_push rfl ?_
  refine tw_stat3 rfl (f_isWithin hG (LO := 0) (HI := 3) (by decide) (by decide)) (fun w9 h9 p11 => ?_)
  obtain ⟨⟨p11, rfl⟩ | ⟨p11, rfl⟩, rfl⟩ := p11
  · try dsimp only [tvI_i, tvJ_j, tvR_r] at p11
    exact tw_iret rfl ⟨Or.inl ⟨p11, rfl⟩, rfl⟩
  · try dsimp only [tvI_i, tvJ_j, tvR_r] at p11
    exact tw_iret rfl ⟨Or.inr ⟨p11, rfl⟩, rfl⟩
theorem f_fill {G : zG} (hG : G.1 = zProg) {h : zH} {r : Nat} {a b c : Int32} : tC zTt G 30 [.ref r, .int a, .int b, .int c] h (fun w h2 => w = none ∧ h2 = tSA (tSA (tSA h r 0 a) r 1 b) r 2 c ∧ tIn h r 0 0 ∧ tIn (tSA h r 0 a) r 0 1 ∧ tIn (tSA (tSA h r 0 a) r 1 b) r 0 2) := by
  refine tC_in (by rw [hG]; rfl) (fun dp => ?_)
  refine tw_aload rfl rfl ?_
  refine tw_push rfl ?_
  refine tw_iload rfl rfl ?_
  refine tw_iast rfl (fun f12 => ?_)
  refine tw_aload rfl rfl ?_
  refine tw_push rfl ?_
  refine tw_iload rfl rfl ?_
  refine tw_iast rfl (fun f13 => ?_)
  refine tw_aload rfl rfl ?_
  refine tw_push rfl ?_
  refine tw_iload rfl rfl ?_
  refine tw_iast rfl (fun f14 => ?_)
  exact tw_vret rfl ⟨rfl, rfl, f12, f13, f14⟩
theorem wret1 {h : zH} {p b : Nat} (k : tF h p b = .int (tvI (tF h p b))) : some (Value.int (tvI (tF h p b) + 1 - 1)) = some (tF h p b) := by rw [zi1]; exact congrArg some k.symm
theorem f_addKind {G : zG} (hG : G.1 = zProg) {h : zH} {firm : Int32} {a : Int32} {b : Int32} {c : Int32} (hs : tSh h) (hr : tRw h) : tC zTt G 28 [.ref 1, .int firm, .int a, .int b, .int c] h (phN 1 6 ((tvI (tF h 1 6)).toInt ≠ 8) h) := by
  refine tC_in (by rw [hG]; rfl) (fun dp => ?_)
  refine tw_aload rfl rfl ?_
  refine tw_getS rfl (hi_1_6 hs) ?_
  refine tw_push rfl ?_
  refine tw_ic_ne rfl (fun q15 => ?_) (fun q15 => ?_)
  · try dsimp only [tvI_i, tvJ_j, tvR_r] at q15
    have q15i := zneq (Y := 8) (by decide) q15
    refine tw_aload rfl rfl ?_
    refine tw_getS rfl (hs_1_1 hs) ?_
    refine tw_aload rfl rfl ?_
    refine tw_getS rfl (hi_1_6 hs) ?_
    refine tw_iload rfl rfl ?_
    refine tw_iast rfl (fun f16 => ?_)
    refine tw_aload rfl rfl ?_
    refine tw_getS rfl (hs_1_2 (tSh_SA hs)) ?_
    refine tw_aload rfl rfl ?_
    refine tw_getS rfl (tF_a (hi_1_6 hs)) ?_
    refine tw_aaldS rfl (fun z => tRw_at (tRw_A hr) (p := 4) (q := 5) (by decide) z) ?_
    refine tw_iload rfl rfl ?_
    refine tw_iload rfl rfl ?_
    refine tw_iload rfl rfl ?_
    refine tw_stat4 rfl (f_fill hG) (fun wp18 hp18 p18 => ?_)
    obtain ⟨rfl, rfl, p18a, p18b, p18c⟩ := p18
    refine tw_aload rfl rfl ?_
    refine tw_dup rfl ?_
    refine tw_getS rfl (tF_a (tF_a (tF_a (tF_a (hi_1_6 hs))))) ?_
    refine tw_dup_x1 rfl ?_
    refine tw_push rfl ?_
    refine tw_iadd rfl ?_
    refine tw_put rfl (fun f19 => ?_)
    exact tw_iret rfl (Or.inl ⟨by omega, congrArg some (hi_1_6 hs).symm, (tF_same f19)⟩)
  · try dsimp only [tvI_i, tvJ_j, tvR_r] at q15
    have q15i := zeqi (Y := 8) (by decide) q15
    refine tw_push rfl ?_
    exact tw_iret rfl (Or.inr ⟨by omega, rfl, rfl⟩)
theorem f_kind {G : zG} (hG : G.1 = zProg) {h : zH} {firm : Int32} {a : Int32} {b : Int32} {c : Int32} (hs : tSh h) (hr : tRw h) : tC zTt G 113 [.ref 0, .int firm, .int a, .int b, .int c] h (phN 1 6 (((0 ≤ firm.toInt ∧ firm.toInt ≤ 3) ∧ (0 ≤ a.toInt ∧ a.toInt ≤ 99999) ∧ (0 ≤ b.toInt ∧ b.toInt ≤ 99999) ∧ (0 ≤ c.toInt ∧ c.toInt ≤ 99999)) ∧ (tvI (tF h 1 6)).toInt ≠ 8) h) := by
  refine tC_in (by rw [hG]; rfl) (fun dp => ?_)
  refine tw_iload rfl rfl ?_
  refine tw_stat1 rfl (f_isFirm hG) (fun w9 h9 p20 => ?_)
  obtain ⟨⟨p20, rfl⟩ | ⟨p20, rfl⟩, rfl⟩ := p20
  · try dsimp only [tvI_i, tvJ_j, tvR_r] at p20
    refine tw_if_eq rfl (fun z => absurd z (by decide)) (fun _ => ?_)
    refine tw_iload rfl rfl ?_
    refine tw_push rfl ?_
    refine tw_push rfl ?_
    refine tw_stat3 rfl (f_isWithin hG (LO := 0) (HI := 99999) (by decide) (by decide)) (fun w9 h9 p21 => ?_)
    obtain ⟨⟨p21, rfl⟩ | ⟨p21, rfl⟩, rfl⟩ := p21
    · try dsimp only [tvI_i, tvJ_j, tvR_r] at p21
      refine tw_if_eq rfl (fun z => absurd z (by decide)) (fun _ => ?_)
      refine tw_iload rfl rfl ?_
      refine tw_push rfl ?_
      refine tw_push rfl ?_
      refine tw_stat3 rfl (f_isWithin hG (LO := 0) (HI := 99999) (by decide) (by decide)) (fun w9 h9 p22 => ?_)
      obtain ⟨⟨p22, rfl⟩ | ⟨p22, rfl⟩, rfl⟩ := p22
      · try dsimp only [tvI_i, tvJ_j, tvR_r] at p22
        refine tw_if_eq rfl (fun z => absurd z (by decide)) (fun _ => ?_)
        refine tw_iload rfl rfl ?_
        refine tw_push rfl ?_
        refine tw_push rfl ?_
        refine tw_stat3 rfl (f_isWithin hG (LO := 0) (HI := 99999) (by decide) (by decide)) (fun w9 h9 p23 => ?_)
        obtain ⟨⟨p23, rfl⟩ | ⟨p23, rfl⟩, rfl⟩ := p23
        · try dsimp only [tvI_i, tvJ_j, tvR_r] at p23
          refine tw_if_eq rfl (fun z => absurd z (by decide)) (fun _ => ?_)
          refine tw_push rfl ?_
          refine tw_goto rfl ?_
          refine tw_istore rfl ?_
          refine tw_iload rfl rfl ?_
          refine tw_if_eq rfl (fun z => absurd z (by decide)) (fun _ => ?_)
          refine tw_aload rfl rfl ?_
          refine tw_getS rfl (hs_0_0 hs) ?_
          refine tw_iload rfl rfl ?_
          refine tw_iload rfl rfl ?_
          refine tw_iload rfl rfl ?_
          refine tw_iload rfl rfl ?_
          refine tw_virt4 rfl (f_addKind hG  hs hr) (fun w9 h9 p24 => ?_)
          rcases p24 with ⟨p24, rfl, p24e⟩ | ⟨p24, rfl, p24e⟩
          · refine tw_goto rfl ?_
            exact tw_iret rfl (Or.inl ⟨by omega, congrArg some (hi_1_6 hs).symm, p24e⟩)
          · refine tw_goto rfl ?_
            exact tw_iret rfl (Or.inr ⟨by omega, rfl, p24e⟩)
        · try dsimp only [tvI_i, tvJ_j, tvR_r] at p23
          refine tw_if_eq rfl (fun _ => ?_) (fun z => absurd z (by decide))
          refine tw_push rfl ?_
          refine tw_istore rfl ?_
          refine tw_iload rfl rfl ?_
          refine tw_if_eq rfl (fun _ => ?_) (fun z => absurd z (by decide))
          refine tw_push rfl ?_
          exact tw_iret rfl (Or.inr ⟨by omega, rfl, rfl⟩)
      · try dsimp only [tvI_i, tvJ_j, tvR_r] at p22
        refine tw_if_eq rfl (fun _ => ?_) (fun z => absurd z (by decide))
        refine tw_push rfl ?_
        refine tw_istore rfl ?_
        refine tw_iload rfl rfl ?_
        refine tw_if_eq rfl (fun _ => ?_) (fun z => absurd z (by decide))
        refine tw_push rfl ?_
        exact tw_iret rfl (Or.inr ⟨by omega, rfl, rfl⟩)
    · try dsimp only [tvI_i, tvJ_j, tvR_r] at p21
      refine tw_if_eq rfl (fun _ => ?_) (fun z => absurd z (by decide))
      refine tw_push rfl ?_
      refine tw_istore rfl ?_
      refine tw_iload rfl rfl ?_
      refine tw_if_eq rfl (fun _ => ?_) (fun z => absurd z (by decide))
      refine tw_push rfl ?_
      exact tw_iret rfl (Or.inr ⟨by omega, rfl, rfl⟩)
  · try dsimp only [tvI_i, tvJ_j, tvR_r] at p20
    refine tw_if_eq rfl (fun _ => ?_) (fun z => absurd z (by decide))
    refine tw_push rfl ?_
    refine tw_istore rfl ?_
    refine tw_iload rfl rfl ?_
    refine tw_if_eq rfl (fun _ => ?_) (fun z => absurd z (by decide))
    refine tw_push rfl ?_
    exact tw_iret rfl (Or.inr ⟨by omega, rfl, rfl⟩)
theorem g_kind {G : zG} (hG : G.1 = zProg) {h : zH} {firm : Int32} {a : Int32} {b : Int32} {c : Int32} (hs : tSh h)  : tC zTt G 181 [.ref 111, .int firm, .int a, .int b, .int c] h (phN 111 3 (((0 ≤ firm.toInt ∧ firm.toInt ≤ 3) ∧ (0 ≤ a.toInt ∧ a.toInt ≤ 99999) ∧ (0 ≤ b.toInt ∧ b.toInt ≤ 99999) ∧ (0 ≤ c.toInt ∧ c.toInt ≤ 99999)) ∧ (tvI (tF h 111 3)).toInt ≠ 8) h) := by
  refine tC_in (by rw [hG]; rfl) (fun dp => ?_)
  refine tw_aload rfl rfl ?_
  refine tw_getS rfl (hi_111_3 hs) ?_
  refine tw_push rfl ?_
  refine tw_ic_eq rfl (fun q25 => ?_) (fun q25 => ?_)
  · try dsimp only [tvI_i, tvJ_j, tvR_r] at q25
    have q25i := zeqi (Y := 8) (by decide) q25
    refine tw_push rfl ?_
    exact tw_iret rfl (Or.inr ⟨by omega, rfl, rfl⟩)
  · try dsimp only [tvI_i, tvJ_j, tvR_r] at q25
    have q25i := zneq (Y := 8) (by decide) q25
    refine tw_iload rfl rfl ?_
    refine tw_i2l rfl ?_
    refine tw_push rfl ?_
    refine tw_push rfl ?_
    refine tw_stat3 rfl (f_in hG  (LO := 0) (HI := 3) (Int32.toInt_toInt64 _) (by decide) (by decide)) (fun w9 h9 p26 => ?_)
    obtain ⟨⟨p26, rfl⟩ | ⟨p26, rfl⟩, rfl⟩ := p26
    · try dsimp only [tvI_i, tvJ_j, tvR_r] at p26
      refine tw_if_eq rfl (fun z => absurd z (by decide)) (fun _ => ?_)
      refine tw_iload rfl rfl ?_
      refine tw_i2l rfl ?_
      refine tw_push rfl ?_
      refine tw_push rfl ?_
      refine tw_stat3 rfl (f_in hG  (LO := 0) (HI := 99999) (Int32.toInt_toInt64 _) (by decide) (by decide)) (fun w9 h9 p27 => ?_)
      obtain ⟨⟨p27, rfl⟩ | ⟨p27, rfl⟩, rfl⟩ := p27
      · try dsimp only [tvI_i, tvJ_j, tvR_r] at p27
        refine tw_if_eq rfl (fun z => absurd z (by decide)) (fun _ => ?_)
        refine tw_iload rfl rfl ?_
        refine tw_i2l rfl ?_
        refine tw_push rfl ?_
        refine tw_push rfl ?_
        refine tw_stat3 rfl (f_in hG  (LO := 0) (HI := 99999) (Int32.toInt_toInt64 _) (by decide) (by decide)) (fun w9 h9 p28 => ?_)
        obtain ⟨⟨p28, rfl⟩ | ⟨p28, rfl⟩, rfl⟩ := p28
        · try dsimp only [tvI_i, tvJ_j, tvR_r] at p28
          refine tw_if_eq rfl (fun z => absurd z (by decide)) (fun _ => ?_)
          refine tw_iload rfl rfl ?_
          refine tw_i2l rfl ?_
          refine tw_push rfl ?_
          refine tw_push rfl ?_
          refine tw_stat3 rfl (f_in hG  (LO := 0) (HI := 99999) (Int32.toInt_toInt64 _) (by decide) (by decide)) (fun w9 h9 p29 => ?_)
          obtain ⟨⟨p29, rfl⟩ | ⟨p29, rfl⟩, rfl⟩ := p29
          · try dsimp only [tvI_i, tvJ_j, tvR_r] at p29
            refine tw_if_ne rfl (fun _ => ?_) (fun z => absurd z (by decide))
            refine tw_aload rfl rfl ?_
            refine tw_getS rfl (hs_111_9 hs) ?_
            refine tw_aload rfl rfl ?_
            refine tw_getS rfl (hi_111_3 hs) ?_
            refine tw_iload rfl rfl ?_
            refine tw_iast rfl (fun f30 => ?_)
            refine tw_aload rfl rfl ?_
            refine tw_getS rfl (hs_111_10 (tSh_SA hs)) ?_
            refine tw_push rfl ?_
            refine tw_aload rfl rfl ?_
            refine tw_getS rfl (tF_a (hi_111_3 hs)) ?_
            refine tw_imul rfl ?_
            refine tw_iload rfl rfl ?_
            refine tw_iast rfl (fun f31 => ?_)
            refine tw_aload rfl rfl ?_
            refine tw_getS rfl (hs_111_10 (tSh_SA (tSh_SA hs))) ?_
            refine tw_push rfl ?_
            refine tw_aload rfl rfl ?_
            refine tw_getS rfl (tF_a (tF_a (hi_111_3 hs))) ?_
            refine tw_imul rfl ?_
            refine tw_push rfl ?_
            refine tw_iadd rfl ?_
            refine tw_iload rfl rfl ?_
            refine tw_iast rfl (fun f32 => ?_)
            refine tw_aload rfl rfl ?_
            refine tw_getS rfl (hs_111_10 (tSh_SA (tSh_SA (tSh_SA hs)))) ?_
            refine tw_push rfl ?_
            refine tw_aload rfl rfl ?_
            refine tw_getS rfl (tF_a (tF_a (tF_a (hi_111_3 hs)))) ?_
            refine tw_imul rfl ?_
            refine tw_push rfl ?_
            refine tw_iadd rfl ?_
            refine tw_iload rfl rfl ?_
            refine tw_iast rfl (fun f33 => ?_)
            refine tw_aload rfl rfl ?_
            refine tw_dup rfl ?_
            refine tw_getS rfl (tF_a (tF_a (tF_a (tF_a (hi_111_3 hs))))) ?_
            refine tw_push rfl ?_
            refine tw_iadd rfl ?_
            refine tw_put rfl (fun f34 => ?_)
            refine tw_aload rfl rfl ?_
            refine tw_getS rfl (tF_same f34) ?_
            refine tw_push rfl ?_
            refine tw_isub rfl ?_
            exact tw_iret rfl (Or.inl ⟨by omega, wret1 (hi_111_3 hs), (tF_same f34)⟩)
          · try dsimp only [tvI_i, tvJ_j, tvR_r] at p29
            refine tw_if_ne rfl (fun z => absurd z (by decide)) (fun _ => ?_)
            refine tw_push rfl ?_
            exact tw_iret rfl (Or.inr ⟨by omega, rfl, rfl⟩)
        · try dsimp only [tvI_i, tvJ_j, tvR_r] at p28
          refine tw_if_eq rfl (fun _ => ?_) (fun z => absurd z (by decide))
          refine tw_push rfl ?_
          exact tw_iret rfl (Or.inr ⟨by omega, rfl, rfl⟩)
      · try dsimp only [tvI_i, tvJ_j, tvR_r] at p27
        refine tw_if_eq rfl (fun _ => ?_) (fun z => absurd z (by decide))
        refine tw_push rfl ?_
        exact tw_iret rfl (Or.inr ⟨by omega, rfl, rfl⟩)
    · try dsimp only [tvI_i, tvJ_j, tvR_r] at p26
      refine tw_if_eq rfl (fun _ => ?_) (fun z => absurd z (by decide))
      refine tw_push rfl ?_
      exact tw_iret rfl (Or.inr ⟨by omega, rfl, rfl⟩)
theorem a_kind {firm : Int32} {a : Int32} {b : Int32} {c : Int32} {h h2 h3 : zH} {w w2 : Option Value}  (hR : R_kinds h) (e1 : tF h2 111 3 = tF h 111 3) (e2 : tF h3 1 6 = tF h2 1 6) (k1 : phN 1 6 (((0 ≤ firm.toInt ∧ firm.toInt ≤ 3) ∧ (0 ≤ a.toInt ∧ a.toInt ≤ 99999) ∧ (0 ≤ b.toInt ∧ b.toInt ≤ 99999) ∧ (0 ≤ c.toInt ∧ c.toInt ≤ 99999)) ∧ (tvI (tF h 1 6)).toInt ≠ 8) h w h2) (k2 : phN 111 3 (((0 ≤ firm.toInt ∧ firm.toInt ≤ 3) ∧ (0 ≤ a.toInt ∧ a.toInt ≤ 99999) ∧ (0 ≤ b.toInt ∧ b.toInt ≤ 99999) ∧ (0 ≤ c.toInt ∧ c.toInt ≤ 99999)) ∧ (tvI (tF h2 111 3)).toInt ≠ 8) h2 w2 h3) : w2 = w ∧ R_kinds h3 := by
  refine phN_a hR e1 e2 ?_ k1 k2
  have hR2 := hR
  unfold R_kinds at hR2
  rw [e1, ← hR2]
noncomputable def R_people (h : zH) : Prop := tF h 36 2 = tF h 111 2
theorem f_addPerson {G : zG} (hG : G.1 = zProg) {h : zH} {firm : Int32} (hs : tSh h) : tC zTt G 16 [.ref 36, .int firm] h (phN 36 2 ((tvI (tF h 36 2)).toInt ≠ 60) h) := by
  refine tC_in (by rw [hG]; rfl) (fun dp => ?_)
  refine tw_aload rfl rfl ?_
  refine tw_getS rfl (hi_36_2 hs) ?_
  refine tw_push rfl ?_
  refine tw_ic_ne rfl (fun q35 => ?_) (fun q35 => ?_)
  · try dsimp only [tvI_i, tvJ_j, tvR_r] at q35
    have q35i := zneq (Y := 60) (by decide) q35
    refine tw_aload rfl rfl ?_
    refine tw_getS rfl (hs_36_0 hs) ?_
    refine tw_aload rfl rfl ?_
    refine tw_getS rfl (hi_36_2 hs) ?_
    refine tw_iload rfl rfl ?_
    refine tw_iast rfl (fun f36 => ?_)
    refine tw_aload rfl rfl ?_
    refine tw_dup rfl ?_
    refine tw_getS rfl (tF_a (hi_36_2 hs)) ?_
    refine tw_dup_x1 rfl ?_
    refine tw_push rfl ?_
    refine tw_iadd rfl ?_
    refine tw_put rfl (fun f37 => ?_)
    exact tw_iret rfl (Or.inl ⟨by omega, congrArg some (hi_36_2 hs).symm, (tF_same f37)⟩)
  · try dsimp only [tvI_i, tvJ_j, tvR_r] at q35
    have q35i := zeqi (Y := 60) (by decide) q35
    refine tw_push rfl ?_
    exact tw_iret rfl (Or.inr ⟨by omega, rfl, rfl⟩)
theorem f_person {G : zG} (hG : G.1 = zProg) {h : zH} {firm : Int32} (hs : tSh h) : tC zTt G 111 [.ref 0, .int firm] h (phN 36 2 ((-1 ≤ firm.toInt ∧ firm.toInt ≤ 3) ∧ (tvI (tF h 36 2)).toInt ≠ 60) h) := by
  refine tC_in (by rw [hG]; rfl) (fun dp => ?_)
  refine tw_iload rfl rfl ?_
  refine tw_push rfl ?_
  refine tw_ic_eq rfl (fun q38 => ?_) (fun q38 => ?_)
  · try dsimp only [tvI_i, tvJ_j, tvR_r] at q38
    have q38i := zeqi (Y := (-1)) (by decide) q38
    refine tw_aload rfl rfl ?_
    refine tw_getS rfl (hs_0_1 hs) ?_
    refine tw_iload rfl rfl ?_
    refine tw_virt1 rfl (f_addPerson hG  hs) (fun w9 h9 p39 => ?_)
    rcases p39 with ⟨p39, rfl, p39e⟩ | ⟨p39, rfl, p39e⟩
    · refine tw_goto rfl ?_
      exact tw_iret rfl (Or.inl ⟨by omega, congrArg some (hi_36_2 hs).symm, p39e⟩)
    · refine tw_goto rfl ?_
      exact tw_iret rfl (Or.inr ⟨by omega, rfl, p39e⟩)
  · try dsimp only [tvI_i, tvJ_j, tvR_r] at q38
    have q38i := zneq (Y := (-1)) (by decide) q38
    refine tw_iload rfl rfl ?_
    refine tw_stat1 rfl (f_isFirm hG) (fun w9 h9 p40 => ?_)
    obtain ⟨⟨p40, rfl⟩ | ⟨p40, rfl⟩, rfl⟩ := p40
    · try dsimp only [tvI_i, tvJ_j, tvR_r] at p40
      refine tw_if_eq rfl (fun z => absurd z (by decide)) (fun _ => ?_)
      refine tw_aload rfl rfl ?_
      refine tw_getS rfl (hs_0_1 hs) ?_
      refine tw_iload rfl rfl ?_
      refine tw_virt1 rfl (f_addPerson hG  hs) (fun w9 h9 p41 => ?_)
      rcases p41 with ⟨p41, rfl, p41e⟩ | ⟨p41, rfl, p41e⟩
      · refine tw_goto rfl ?_
        exact tw_iret rfl (Or.inl ⟨by omega, congrArg some (hi_36_2 hs).symm, p41e⟩)
      · refine tw_goto rfl ?_
        exact tw_iret rfl (Or.inr ⟨by omega, rfl, p41e⟩)
    · try dsimp only [tvI_i, tvJ_j, tvR_r] at p40
      refine tw_if_eq rfl (fun _ => ?_) (fun z => absurd z (by decide))
      refine tw_push rfl ?_
      exact tw_iret rfl (Or.inr ⟨by omega, rfl, rfl⟩)
theorem g_person {G : zG} (hG : G.1 = zProg) {h : zH} {firm : Int32} (hs : tSh h)  : tC zTt G 179 [.ref 111, .int firm] h (phN 111 2 ((-1 ≤ firm.toInt ∧ firm.toInt ≤ 3) ∧ (tvI (tF h 111 2)).toInt ≠ 60) h) := by
  refine tC_in (by rw [hG]; rfl) (fun dp => ?_)
  refine tw_aload rfl rfl ?_
  refine tw_getS rfl (hi_111_2 hs) ?_
  refine tw_push rfl ?_
  refine tw_ic_eq rfl (fun q42 => ?_) (fun q42 => ?_)
  · try dsimp only [tvI_i, tvJ_j, tvR_r] at q42
    have q42i := zeqi (Y := 60) (by decide) q42
    refine tw_push rfl ?_
    exact tw_iret rfl (Or.inr ⟨by omega, rfl, rfl⟩)
  · try dsimp only [tvI_i, tvJ_j, tvR_r] at q42
    have q42i := zneq (Y := 60) (by decide) q42
    refine tw_iload rfl rfl ?_
    refine tw_i2l rfl ?_
    refine tw_push rfl ?_
    refine tw_push rfl ?_
    refine tw_stat3 rfl (f_in hG  (LO := (-1)) (HI := 3) (Int32.toInt_toInt64 _) (by decide) (by decide)) (fun w9 h9 p43 => ?_)
    obtain ⟨⟨p43, rfl⟩ | ⟨p43, rfl⟩, rfl⟩ := p43
    · try dsimp only [tvI_i, tvJ_j, tvR_r] at p43
      refine tw_if_ne rfl (fun _ => ?_) (fun z => absurd z (by decide))
      refine tw_aload rfl rfl ?_
      refine tw_getS rfl (hs_111_7 hs) ?_
      refine tw_aload rfl rfl ?_
      refine tw_getS rfl (hi_111_2 hs) ?_
      refine tw_iload rfl rfl ?_
      refine tw_iast rfl (fun f44 => ?_)
      refine tw_aload rfl rfl ?_
      refine tw_dup rfl ?_
      refine tw_getS rfl (tF_a (hi_111_2 hs)) ?_
      refine tw_push rfl ?_
      refine tw_iadd rfl ?_
      refine tw_put rfl (fun f45 => ?_)
      refine tw_aload rfl rfl ?_
      refine tw_getS rfl (tF_same f45) ?_
      refine tw_push rfl ?_
      refine tw_isub rfl ?_
      exact tw_iret rfl (Or.inl ⟨by omega, wret1 (hi_111_2 hs), (tF_same f45)⟩)
    · try dsimp only [tvI_i, tvJ_j, tvR_r] at p43
      refine tw_if_ne rfl (fun z => absurd z (by decide)) (fun _ => ?_)
      refine tw_push rfl ?_
      exact tw_iret rfl (Or.inr ⟨by omega, rfl, rfl⟩)
theorem a_person {firm : Int32} {h h2 h3 : zH} {w w2 : Option Value}  (hR : R_people h) (e1 : tF h2 111 2 = tF h 111 2) (e2 : tF h3 36 2 = tF h2 36 2) (k1 : phN 36 2 ((-1 ≤ firm.toInt ∧ firm.toInt ≤ 3) ∧ (tvI (tF h 36 2)).toInt ≠ 60) h w h2) (k2 : phN 111 2 ((-1 ≤ firm.toInt ∧ firm.toInt ≤ 3) ∧ (tvI (tF h2 111 2)).toInt ≠ 60) h2 w2 h3) : w2 = w ∧ R_people h3 := by
  refine phN_a hR e1 e2 ?_ k1 k2
  have hR2 := hR
  unfold R_people at hR2
  rw [e1, ← hR2]
noncomputable def R_tests (h : zH) : Prop := tF h 54 5 = tF h 111 50
theorem f_hasKind {G : zG} (hG : G.1 = zProg) {h : zH} {n : Int32} (hs : tSh h) : tC zTt G 25 [.ref 1, .int n] h (fun w h2 => tBo (0 ≤ n.toInt ∧ n.toInt < (tvI (tF h 1 6)).toInt) w ∧ h2 = h) := by
  refine tC_in (by rw [hG]; rfl) (fun dp => ?_)
  refine tw_iload rfl rfl ?_
  refine tw_if_lt rfl (fun q46 => ?_) (fun q46 => ?_)
  · try dsimp only [tvI_i, tvJ_j, tvR_r] at q46
    refine tw_push rfl ?_
    exact tw_iret rfl ⟨Or.inr ⟨by omega, rfl⟩, rfl⟩
  · try dsimp only [tvI_i, tvJ_j, tvR_r] at q46
    refine tw_iload rfl rfl ?_
    refine tw_aload rfl rfl ?_
    refine tw_getS rfl (hi_1_6 hs) ?_
    refine tw_ic_ge rfl (fun q47 => ?_) (fun q47 => ?_)
    · try dsimp only [tvI_i, tvJ_j, tvR_r] at q47
      refine tw_push rfl ?_
      exact tw_iret rfl ⟨Or.inr ⟨by omega, rfl⟩, rfl⟩
    · try dsimp only [tvI_i, tvJ_j, tvR_r] at q47
      refine tw_push rfl ?_
      refine tw_goto rfl ?_
      exact tw_iret rfl ⟨Or.inl ⟨by omega, rfl⟩, rfl⟩
theorem f_isSort {G : zG} (hG : G.1 = zProg) {h : zH} {n : Int32} : tC zTt G 161 [.int n] h (fun w h2 => tBo (0 ≤ n.toInt ∧ n.toInt ≤ 2) w ∧ h2 = h) := by
  refine tC_in (by rw [hG]; rfl) (fun dp => ?_)
  refine tw_iload rfl rfl ?_
  refine tw_push rfl ?_
  refine tw_push rfl ?_
  refine tw_stat3 rfl (f_isWithin hG (LO := 0) (HI := 2) (by decide) (by decide)) (fun w9 h9 p48 => ?_)
  obtain ⟨⟨p48, rfl⟩ | ⟨p48, rfl⟩, rfl⟩ := p48
  · try dsimp only [tvI_i, tvJ_j, tvR_r] at p48
    exact tw_iret rfl ⟨Or.inl ⟨p48, rfl⟩, rfl⟩
  · try dsimp only [tvI_i, tvJ_j, tvR_r] at p48
    exact tw_iret rfl ⟨Or.inr ⟨p48, rfl⟩, rfl⟩
theorem f_isSpeed {G : zG} (hG : G.1 = zProg) {h : zH} {n : Int32} : tC zTt G 162 [.int n] h (fun w h2 => tBo (0 ≤ n.toInt ∧ n.toInt ≤ 200) w ∧ h2 = h) := by
  refine tC_in (by rw [hG]; rfl) (fun dp => ?_)
  refine tw_iload rfl rfl ?_
  refine tw_push rfl ?_
  refine tw_push rfl ?_
  refine tw_stat3 rfl (f_isWithin hG (LO := 0) (HI := 200) (by decide) (by decide)) (fun w9 h9 p49 => ?_)
  obtain ⟨⟨p49, rfl⟩ | ⟨p49, rfl⟩, rfl⟩ := p49
  · try dsimp only [tvI_i, tvJ_j, tvR_r] at p49
    exact tw_iret rfl ⟨Or.inl ⟨p49, rfl⟩, rfl⟩
  · try dsimp only [tvI_i, tvJ_j, tvR_r] at p49
    exact tw_iret rfl ⟨Or.inr ⟨p49, rfl⟩, rfl⟩
theorem f_addTest {G : zG} (hG : G.1 = zProg) {h : zH} {k : Int32} {s : Int32} {v : Int32} {u : Int32} (bu : 0 ≤ u.toInt ∧ u.toInt ≤ 1) (hs : tSh h) : tC zTt G 103 [.ref 54, .int k, .int s, .int v, .int u] h (phA 54 5 ((tvI (tF h 54 5)).toInt ≠ 200) [] h) := by
  refine tC_in (by rw [hG]; rfl) (fun dp => ?_)
  refine tw_aload rfl rfl ?_
  refine tw_getS rfl (hi_54_5 hs) ?_
  refine tw_push rfl ?_
  refine tw_ic_ne rfl (fun q50 => ?_) (fun q50 => ?_)
  · try dsimp only [tvI_i, tvJ_j, tvR_r] at q50
    have q50i := zneq (Y := 200) (by decide) q50
    refine tw_aload rfl rfl ?_
    refine tw_getS rfl (hs_54_0 hs) ?_
    refine tw_aload rfl rfl ?_
    refine tw_getS rfl (hi_54_5 hs) ?_
    refine tw_iload rfl rfl ?_
    refine tw_iast rfl (fun f51 => ?_)
    refine tw_aload rfl rfl ?_
    refine tw_getS rfl (hs_54_1 (tSh_SA hs)) ?_
    refine tw_aload rfl rfl ?_
    refine tw_getS rfl (tF_a (hi_54_5 hs)) ?_
    refine tw_iload rfl rfl ?_
    refine tw_iast rfl (fun f52 => ?_)
    refine tw_aload rfl rfl ?_
    refine tw_getS rfl (hs_54_2 (tSh_SA (tSh_SA hs))) ?_
    refine tw_aload rfl rfl ?_
    refine tw_getS rfl (tF_a (tF_a (hi_54_5 hs))) ?_
    refine tw_iload rfl rfl ?_
    refine tw_iast rfl (fun f53 => ?_)
    refine tw_aload rfl rfl ?_
    refine tw_getS rfl (hs_54_3 (tSh_SA (tSh_SA (tSh_SA hs)))) ?_
    refine tw_aload rfl rfl ?_
    refine tw_getS rfl (tF_a (tF_a (tF_a (hi_54_5 hs)))) ?_
    refine tw_iload rfl rfl ?_
    refine tw_bastZ bu rfl (fun kf54 f54 => ?_)
    refine tw_aload rfl rfl ?_
    refine tw_dup rfl ?_
    refine tw_getS rfl (tF_a (tF_a (tF_a (tF_a (hi_54_5 hs))))) ?_
    refine tw_dup_x1 rfl ?_
    refine tw_push rfl ?_
    refine tw_iadd rfl ?_
    refine tw_put rfl (fun f55 => ?_)
    exact tw_iret rfl (Or.inl ⟨by omega, congrArg some (hi_54_5 hs).symm, (tF_same f55), (fun q hq => by cases hq)⟩)
  · try dsimp only [tvI_i, tvJ_j, tvR_r] at q50
    have q50i := zeqi (Y := 200) (by decide) q50
    refine tw_push rfl ?_
    exact tw_iret rfl (Or.inr ⟨by omega, rfl, rfl, fun _ _ => rfl⟩)
theorem f_test {G : zG} (hG : G.1 = zProg) {h : zH} {k : Int32} {s : Int32} {v : Int32} {u : Int32} (bu : 0 ≤ u.toInt ∧ u.toInt ≤ 1) (hs : tSh h) : tC zTt G 129 [.ref 0, .int k, .int s, .int v, .int u] h (phA 54 5 (((0 ≤ k.toInt ∧ k.toInt < (tvI (tF h 1 6)).toInt) ∧ (0 ≤ s.toInt ∧ s.toInt ≤ 2) ∧ (0 ≤ v.toInt ∧ v.toInt ≤ 200)) ∧ (tvI (tF h 54 5)).toInt ≠ 200) [] h) := by
  refine tC_in (by rw [hG]; rfl) (fun dp => ?_)
  refine tw_aload rfl rfl ?_
  refine tw_getS rfl (hs_0_0 hs) ?_
  refine tw_iload rfl rfl ?_
  refine tw_virt1 rfl (f_hasKind hG hs) (fun w9 h9 p56 => ?_)
  obtain ⟨⟨p56, rfl⟩ | ⟨p56, rfl⟩, rfl⟩ := p56
  · try dsimp only [tvI_i, tvJ_j, tvR_r] at p56
    refine tw_if_eq rfl (fun z => absurd z (by decide)) (fun _ => ?_)
    refine tw_iload rfl rfl ?_
    refine tw_stat1 rfl (f_isSort hG) (fun w9 h9 p57 => ?_)
    obtain ⟨⟨p57, rfl⟩ | ⟨p57, rfl⟩, rfl⟩ := p57
    · try dsimp only [tvI_i, tvJ_j, tvR_r] at p57
      refine tw_if_eq rfl (fun z => absurd z (by decide)) (fun _ => ?_)
      refine tw_iload rfl rfl ?_
      refine tw_stat1 rfl (f_isSpeed hG) (fun w9 h9 p58 => ?_)
      obtain ⟨⟨p58, rfl⟩ | ⟨p58, rfl⟩, rfl⟩ := p58
      · try dsimp only [tvI_i, tvJ_j, tvR_r] at p58
        refine tw_if_eq rfl (fun z => absurd z (by decide)) (fun _ => ?_)
        refine tw_push rfl ?_
        refine tw_goto rfl ?_
        refine tw_istore rfl ?_
        refine tw_iload rfl rfl ?_
        refine tw_if_eq rfl (fun z => absurd z (by decide)) (fun _ => ?_)
        refine tw_aload rfl rfl ?_
        refine tw_getS rfl (hs_0_4 hs) ?_
        refine tw_iload rfl rfl ?_
        refine tw_iload rfl rfl ?_
        refine tw_iload rfl rfl ?_
        refine tw_iload rfl rfl ?_
        refine tw_virt4 rfl (f_addTest hG bu hs) (fun w9 h9 p59 => ?_)
        rcases p59 with ⟨p59, rfl, p59e, p59g⟩ | ⟨p59, rfl, p59e, p59g⟩
        · refine tw_goto rfl ?_
          exact tw_iret rfl (Or.inl ⟨by omega, congrArg some (hi_54_5 hs).symm, p59e, p59g⟩)
        · refine tw_goto rfl ?_
          exact tw_iret rfl (Or.inr ⟨by omega, rfl, p59e, p59g⟩)
      · try dsimp only [tvI_i, tvJ_j, tvR_r] at p58
        refine tw_if_eq rfl (fun _ => ?_) (fun z => absurd z (by decide))
        refine tw_push rfl ?_
        refine tw_istore rfl ?_
        refine tw_iload rfl rfl ?_
        refine tw_if_eq rfl (fun _ => ?_) (fun z => absurd z (by decide))
        refine tw_push rfl ?_
        exact tw_iret rfl (Or.inr ⟨by omega, rfl, rfl, fun _ _ => rfl⟩)
    · try dsimp only [tvI_i, tvJ_j, tvR_r] at p57
      refine tw_if_eq rfl (fun _ => ?_) (fun z => absurd z (by decide))
      refine tw_push rfl ?_
      refine tw_istore rfl ?_
      refine tw_iload rfl rfl ?_
      refine tw_if_eq rfl (fun _ => ?_) (fun z => absurd z (by decide))
      refine tw_push rfl ?_
      exact tw_iret rfl (Or.inr ⟨by omega, rfl, rfl, fun _ _ => rfl⟩)
  · try dsimp only [tvI_i, tvJ_j, tvR_r] at p56
    refine tw_if_eq rfl (fun _ => ?_) (fun z => absurd z (by decide))
    refine tw_push rfl ?_
    refine tw_istore rfl ?_
    refine tw_iload rfl rfl ?_
    refine tw_if_eq rfl (fun _ => ?_) (fun z => absurd z (by decide))
    refine tw_push rfl ?_
    exact tw_iret rfl (Or.inr ⟨by omega, rfl, rfl, fun _ _ => rfl⟩)
theorem g_isKind {G : zG} (hG : G.1 = zProg) {h : zH} {n : Int32} (hs : tSh h) (hk : 0 ≤ (tvI (tF h 111 3)).toInt) : tC zTt G 176 [.ref 111, .int n] h (fun w h2 => tBo (0 ≤ n.toInt ∧ n.toInt < (tvI (tF h 111 3)).toInt) w ∧ h2 = h) := by
  refine tC_in (by rw [hG]; rfl) (fun dp => ?_)
  refine tw_iload rfl rfl ?_
  refine tw_i2l rfl ?_
  refine tw_push rfl ?_
  refine tw_aload rfl rfl ?_
  refine tw_getS rfl (hi_111_3 hs) ?_
  refine tw_push rfl ?_
  refine tw_isub rfl ?_
  refine tw_i2l rfl ?_
  refine tw_stat3 rfl (f_in hG  (LO := 0)  (Int32.toInt_toInt64 _) (by decide) (Int32.toInt_toInt64 _)) (fun w9 h9 p60 => ?_)
  obtain ⟨⟨p60, rfl⟩ | ⟨p60, rfl⟩, rfl⟩ := p60
  · try dsimp only [tvI_i, tvJ_j, tvR_r] at p60
    exact tw_iret rfl ⟨Or.inl ⟨by have e := zsub1 hk; have := p60; omega, rfl⟩, rfl⟩
  · try dsimp only [tvI_i, tvJ_j, tvR_r] at p60
    exact tw_iret rfl ⟨Or.inr ⟨by have e := zsub1 hk; have := p60; omega, rfl⟩, rfl⟩
theorem g_isSort {G : zG} (hG : G.1 = zProg) {h : zH} {n : Int32} : tC zTt G 173 [.int n] h (fun w h2 => tBo (0 ≤ n.toInt ∧ n.toInt ≤ 2) w ∧ h2 = h) := by
  refine tC_in (by rw [hG]; rfl) (fun dp => ?_)
  refine tw_iload rfl rfl ?_
  refine tw_i2l rfl ?_
  refine tw_push rfl ?_
  refine tw_push rfl ?_
  refine tw_stat3 rfl (f_in hG  (LO := 0) (HI := 2) (Int32.toInt_toInt64 _) (by decide) (by decide)) (fun w9 h9 p61 => ?_)
  obtain ⟨⟨p61, rfl⟩ | ⟨p61, rfl⟩, rfl⟩ := p61
  · try dsimp only [tvI_i, tvJ_j, tvR_r] at p61
    exact tw_iret rfl ⟨Or.inl ⟨p61, rfl⟩, rfl⟩
  · try dsimp only [tvI_i, tvJ_j, tvR_r] at p61
    exact tw_iret rfl ⟨Or.inr ⟨p61, rfl⟩, rfl⟩
theorem g_test {G : zG} (hG : G.1 = zProg) {h : zH} {k : Int32} {s : Int32} {v : Int32} {u : Int32} (bu : 0 ≤ u.toInt ∧ u.toInt ≤ 1) (hs : tSh h) (hk3 : 0 ≤ (tvI (tF h 111 3)).toInt) : tC zTt G 238 [.ref 111, .int k, .int s, .int v, .int u] h (phA 111 50 (((0 ≤ k.toInt ∧ k.toInt < (tvI (tF h 111 3)).toInt) ∧ (0 ≤ s.toInt ∧ s.toInt ≤ 2) ∧ (0 ≤ v.toInt ∧ v.toInt ≤ 200)) ∧ (tvI (tF h 111 50)).toInt ≠ 200) [] h) := by
  refine tC_in (by rw [hG]; rfl) (fun dp => ?_)
  refine tw_aload rfl rfl ?_
  refine tw_getS rfl (hi_111_50 hs) ?_
  refine tw_push rfl ?_
  refine tw_ic_eq rfl (fun q62 => ?_) (fun q62 => ?_)
  · try dsimp only [tvI_i, tvJ_j, tvR_r] at q62
    have q62i := zeqi (Y := 200) (by decide) q62
    refine tw_push rfl ?_
    exact tw_iret rfl (Or.inr ⟨by omega, rfl, rfl, fun _ _ => rfl⟩)
  · try dsimp only [tvI_i, tvJ_j, tvR_r] at q62
    have q62i := zneq (Y := 200) (by decide) q62
    refine tw_aload rfl rfl ?_
    refine tw_iload rfl rfl ?_
    refine tw_virt1 rfl (g_isKind hG hs hk3) (fun w9 h9 p63 => ?_)
    obtain ⟨⟨p63, rfl⟩ | ⟨p63, rfl⟩, rfl⟩ := p63
    · try dsimp only [tvI_i, tvJ_j, tvR_r] at p63
      refine tw_if_eq rfl (fun z => absurd z (by decide)) (fun _ => ?_)
      refine tw_iload rfl rfl ?_
      refine tw_stat1 rfl (g_isSort hG) (fun w9 h9 p64 => ?_)
      obtain ⟨⟨p64, rfl⟩ | ⟨p64, rfl⟩, rfl⟩ := p64
      · try dsimp only [tvI_i, tvJ_j, tvR_r] at p64
        refine tw_if_eq rfl (fun z => absurd z (by decide)) (fun _ => ?_)
        refine tw_iload rfl rfl ?_
        refine tw_i2l rfl ?_
        refine tw_push rfl ?_
        refine tw_push rfl ?_
        refine tw_stat3 rfl (f_in hG  (LO := 0) (HI := 200) (Int32.toInt_toInt64 _) (by decide) (by decide)) (fun w9 h9 p65 => ?_)
        obtain ⟨⟨p65, rfl⟩ | ⟨p65, rfl⟩, rfl⟩ := p65
        · try dsimp only [tvI_i, tvJ_j, tvR_r] at p65
          refine tw_if_ne rfl (fun _ => ?_) (fun z => absurd z (by decide))
          refine tw_aload rfl rfl ?_
          refine tw_getS rfl (hs_111_52 hs) ?_
          refine tw_aload rfl rfl ?_
          refine tw_getS rfl (hi_111_50 hs) ?_
          refine tw_iload rfl rfl ?_
          refine tw_iast rfl (fun f66 => ?_)
          refine tw_aload rfl rfl ?_
          refine tw_getS rfl (hs_111_53 (tSh_SA hs)) ?_
          refine tw_aload rfl rfl ?_
          refine tw_getS rfl (tF_a (hi_111_50 hs)) ?_
          refine tw_iload rfl rfl ?_
          refine tw_iast rfl (fun f67 => ?_)
          refine tw_aload rfl rfl ?_
          refine tw_getS rfl (hs_111_54 (tSh_SA (tSh_SA hs))) ?_
          refine tw_aload rfl rfl ?_
          refine tw_getS rfl (tF_a (tF_a (hi_111_50 hs))) ?_
          refine tw_iload rfl rfl ?_
          refine tw_iast rfl (fun f68 => ?_)
          refine tw_aload rfl rfl ?_
          refine tw_getS rfl (hs_111_58 (tSh_SA (tSh_SA (tSh_SA hs)))) ?_
          refine tw_aload rfl rfl ?_
          refine tw_getS rfl (tF_a (tF_a (tF_a (hi_111_50 hs)))) ?_
          refine tw_iload rfl rfl ?_
          refine tw_bastZ bu rfl (fun kf69 f69 => ?_)
          refine tw_aload rfl rfl ?_
          refine tw_dup rfl ?_
          refine tw_getS rfl (tF_a (tF_a (tF_a (tF_a (hi_111_50 hs))))) ?_
          refine tw_push rfl ?_
          refine tw_iadd rfl ?_
          refine tw_put rfl (fun f70 => ?_)
          refine tw_aload rfl rfl ?_
          refine tw_getS rfl (tF_same f70) ?_
          refine tw_push rfl ?_
          refine tw_isub rfl ?_
          exact tw_iret rfl (Or.inl ⟨by omega, wret1 (hi_111_50 hs), (tF_same f70), (fun q hq => by cases hq)⟩)
        · try dsimp only [tvI_i, tvJ_j, tvR_r] at p65
          refine tw_if_ne rfl (fun z => absurd z (by decide)) (fun _ => ?_)
          refine tw_push rfl ?_
          exact tw_iret rfl (Or.inr ⟨by omega, rfl, rfl, fun _ _ => rfl⟩)
      · try dsimp only [tvI_i, tvJ_j, tvR_r] at p64
        refine tw_if_eq rfl (fun _ => ?_) (fun z => absurd z (by decide))
        refine tw_push rfl ?_
        exact tw_iret rfl (Or.inr ⟨by omega, rfl, rfl, fun _ _ => rfl⟩)
    · try dsimp only [tvI_i, tvJ_j, tvR_r] at p63
      refine tw_if_eq rfl (fun _ => ?_) (fun z => absurd z (by decide))
      refine tw_push rfl ?_
      exact tw_iret rfl (Or.inr ⟨by omega, rfl, rfl, fun _ _ => rfl⟩)
theorem a_test {k : Int32} {s : Int32} {v : Int32} {h h2 h3 : zH} {w w2 : Option Value} (h_kinds : R_kinds h) (hR : R_tests h) (e1 : tF h2 111 50 = tF h 111 50) (e2 : tF h3 54 5 = tF h2 54 5) (o_kinds : tF h2 111 3 = tF h 111 3) (k1 : phA 54 5 (((0 ≤ k.toInt ∧ k.toInt < (tvI (tF h 1 6)).toInt) ∧ (0 ≤ s.toInt ∧ s.toInt ≤ 2) ∧ (0 ≤ v.toInt ∧ v.toInt ≤ 200)) ∧ (tvI (tF h 54 5)).toInt ≠ 200) [] h w h2) (k2 : phA 111 50 (((0 ≤ k.toInt ∧ k.toInt < (tvI (tF h2 111 3)).toInt) ∧ (0 ≤ s.toInt ∧ s.toInt ≤ 2) ∧ (0 ≤ v.toInt ∧ v.toInt ≤ 200)) ∧ (tvI (tF h2 111 50)).toInt ≠ 200) [] h2 w2 h3) : w2 = w ∧ R_tests h3 := by
  have hC : (((0 ≤ k.toInt ∧ k.toInt < (tvI (tF h 1 6)).toInt) ∧ (0 ≤ s.toInt ∧ s.toInt ≤ 2) ∧ (0 ≤ v.toInt ∧ v.toInt ≤ 200)) ∧ (tvI (tF h 54 5)).toInt ≠ 200) ↔ (((0 ≤ k.toInt ∧ k.toInt < (tvI (tF h2 111 3)).toInt) ∧ (0 ≤ s.toInt ∧ s.toInt ≤ 2) ∧ (0 ≤ v.toInt ∧ v.toInt ≤ 200)) ∧ (tvI (tF h2 111 50)).toInt ≠ 200) := by
    have hR2 := hR
    unfold R_tests at hR2
    unfold R_kinds at h_kinds
    rw [o_kinds, ← h_kinds]
    rw [e1, ← hR2]
  obtain ⟨r1, r2, r3⟩ := phA_a hR e1 e2 hC k1 k2
  exact ⟨r1, r2⟩
/-! bits of a long -/
noncomputable def tB (x : Int64) (p : Int32) : Prop := (x >>> (p.toInt64 &&& 63)) &&& 1 = 1
theorem tB_k : ∀ n, n < 64 → ((Int32.ofNat n).toInt64 &&& 63).toBitVec.smod 64 = BitVec.ofNat 64 n := by decide +kernel
theorem zofP {p : Int32} (h : 0 ≤ p.toInt) : p = Int32.ofNat p.toInt.toNat := by
  have := Int32.toInt_lt p
  refine Int32.toInt_inj.mp ?_
  rw [yofN (by omega)]
  omega
theorem tB_g {x : Int64} {p : Int32} (h : 0 ≤ p.toInt ∧ p.toInt < 64) : tB x p ↔ x.toBitVec.getLsbD p.toInt.toNat = true := by
  have hk := tB_k p.toInt.toNat (by omega)
  rw [← zofP h.1] at hk
  have e : ((x >>> (p.toInt64 &&& 63)) &&& 1).toBitVec = (x.toBitVec.sshiftRight p.toInt.toNat) &&& 1#64 := by
    show (x.toBitVec.sshiftRight' ((p.toInt64 &&& 63).toBitVec.smod 64)) &&& 1#64 = _
    rw [hk]
    show (x.toBitVec.sshiftRight (BitVec.ofNat 64 p.toInt.toNat).toNat) &&& 1#64 = _
    rw [BitVec.toNat_ofNat, Nat.mod_eq_of_lt (by omega)]
  have e2 : (x.toBitVec.sshiftRight p.toInt.toNat).getLsbD 0 = x.toBitVec.getLsbD p.toInt.toNat := by
    rw [BitVec.getLsbD_sshiftRight]
    have e9 : p.toNatClampNeg = p.toInt.toNat := rfl
    simp
    intro z
    omega
  unfold tB
  rw [← Int64.toBitVec_inj, e, BitVec.and_one_eq_setWidth_ofBool_getLsbD, e2]
  cases x.toBitVec.getLsbD p.toInt.toNat <;> decide
theorem tB_or {x : Int64} {p q : Int32} (hp : 0 ≤ p.toInt ∧ p.toInt < 64) (hq : 0 ≤ q.toInt ∧ q.toInt < 64) : tB (x ||| ((1 : Int64) <<< (q.toInt64 &&& 63))) p ↔ tB x p ∨ p = q := by
  have hk := tB_k q.toInt.toNat (by omega)
  rw [← zofP hq.1] at hk
  rw [tB_g hp, tB_g hp]
  have e : (x ||| ((1 : Int64) <<< (q.toInt64 &&& 63))).toBitVec = x.toBitVec ||| ((1#64) <<< q.toInt.toNat) := by
    show x.toBitVec ||| ((1#64) <<< ((q.toInt64 &&& 63).toBitVec.smod 64)) = _
    rw [hk]
    show x.toBitVec ||| ((1#64) <<< (BitVec.ofNat 64 q.toInt.toNat).toNat) = _
    rw [BitVec.toNat_ofNat, Nat.mod_eq_of_lt (by omega)]
  rw [e, BitVec.getLsbD_or, BitVec.getLsbD_shiftLeft, BitVec.getLsbD_one, Bool.or_eq_true]
  have e3 : (decide (p.toInt.toNat < 64) && !decide (p.toInt.toNat < q.toInt.toNat) && (decide (0 < 64) && decide (p.toInt.toNat - q.toInt.toNat = 0))) = true ↔ p = q := by
    have e9 : p.toNatClampNeg = p.toInt.toNat := rfl
    have e8 : q.toNatClampNeg = q.toInt.toNat := rfl
    constructor
    · intro z
      simp at z
      exact Int32.toInt_inj.mp (by omega)
    · rintro rfl
      simp
      omega
  rw [← e3]
theorem tB_0 {p : Int32} (hp : 0 ≤ p.toInt ∧ p.toInt < 64) : ¬ tB 0 p := by
  rw [tB_g hp]
  show ¬ (0#64).getLsbD _ = true
  simp
theorem tJ_st {h : zH} {r i : Nat} {x : Int64} {z : Int32} (hf : tInJ h r z) {f : Nat → Int64} (k : tJ h r = f) : tJ (tSJ h r i x) r = fun j => if j = i then x else f j := by
  obtain ⟨N, g, e, -⟩ := hf
  rw [tJ_tSJ ⟨_, _, _, e⟩]
  funext j
  dsimp only
  rw [k]
  by_cases e : j = i
  · rw [if_pos ⟨rfl, e⟩, if_pos e]
  · rw [if_neg (fun z => e z.2), if_neg e]
theorem tJ_ff {h : zH} {r b p : Nat} {w : Value} {f : Nat → Int64} (k : tJ h p = f) : tJ (tSF h r b w) p = f := by rw [tJ_tSF]; exact k
theorem tJ_aa {h : zH} {r i p : Nat} {x : Int32} {f : Nat → Int64} (k : tJ h p = f) : tJ (tSA h r i x) p = f := by rw [tJ_tSA]; exact k
/-- among the first n pairs there is this one -/
noncomputable def sF (a b : Nat → Int32) (t p : Int32) (n : Nat) : Prop := ∃ i, i < n ∧ a i = t ∧ b i = p
section SF
variable {a b : Nat → Int32} {t p x y : Int32} {n : Nat} {P : Prop}
theorem sF_s (h : sF a b t p n) : sF a b t p (n + 1) := by
  obtain ⟨i, h1, h2⟩ := h
  exact ⟨i, by omega, h2⟩
theorem sF_y (hx : x.toNatClampNeg = n) (h1 : a x.toNatClampNeg = t) (h2 : b x.toNatClampNeg = p) : sF a b t p (n + 1) := ⟨x.toNatClampNeg, by omega, h1, h2⟩
theorem sF_n (hx : x.toNatClampNeg = n) (h : ¬ sF a b t p n) (q : ¬ (a x.toNatClampNeg = t ∧ b x.toNatClampNeg = p)) : ¬ sF a b t p (n + 1) := by
  rintro ⟨i, h1, h2⟩
  rcases Nat.lt_or_ge i n with z | z
  · exact h ⟨i, z, h2⟩
  · have e : i = x.toNatClampNeg := by omega
    rw [e] at h2
    exact q h2
theorem sF_v (hy : (y = 1 ∧ P) ∨ (y = 0 ∧ ¬ P)) : (y = 0 → ¬ P) ∧ (¬ y = 0 → P) := by
  rcases hy with ⟨rfl, z⟩ | ⟨rfl, z⟩
  · exact ⟨fun q => absurd q (by decide), fun _ => z⟩
  · exact ⟨fun _ => z, fun q => absurd rfl q⟩
/-- one pair more at the end -/
theorem sF_up {c d : Nat → Int32} {u v : Int32} (hc : c = fun j => if j = n then u else a j) (hd : d = fun j => if j = n then v else b j) : sF c d t p (n + 1) ↔ sF a b t p n ∨ (u = t ∧ v = p) := by
  subst hc hd
  constructor
  · rintro ⟨i, h1, h2, h3⟩
    dsimp only at h2 h3
    by_cases e : i = n
    · rw [if_pos e] at h2 h3
      exact Or.inr ⟨h2, h3⟩
    · rw [if_neg e] at h2 h3
      exact Or.inl ⟨i, by omega, h2, h3⟩
  · rintro (⟨i, h1, h2, h3⟩ | ⟨h2, h3⟩)
    · exact ⟨i, by omega, by dsimp only; rw [if_neg (by omega)]; exact h2, by dsimp only; rw [if_neg (by omega)]; exact h3⟩
    · exact ⟨n, by omega, by dsimp only; rw [if_pos rfl]; exact h2, by dsimp only; rw [if_pos rfl]; exact h3⟩
end SF
noncomputable def R_readings (h : zH) : Prop := tF h 54 9 = tF h 111 51
noncomputable def R_rtest (h : zH) : Prop := tA h 60 = tA h 148
noncomputable def R_rby (h : zH) : Prop := tA h 61 = tA h 149
noncomputable def R_rin (h : zH) : Prop := tA h 62 = tA h 150
noncomputable def R_rdb (h : zH) : Prop := ∀ t p : Int32, (0 ≤ t.toInt ∧ t.toInt < 200) → (0 ≤ p.toInt ∧ p.toInt < 60) → (tB (tJ h 59 t.toNatClampNeg) p ↔ sF (tA h 60) (tA h 61) t p (tvI (tF h 54 9)).toNatClampNeg)
theorem zof {x : Int32} {n : Nat} (h : x.toInt = n) : x = Int32.ofNat n := by
  have hx := Int32.toInt_lt x
  exact Int32.toInt_inj.mp (h.trans (yofN (by omega)).symm)
theorem zof_cl {x : Int32} {n : Nat} (h : x.toInt = n) : x.toNatClampNeg = n := by rw [zclE, h]; rfl
theorem zincN {x : Int32} {n : Nat} (h : x.toInt = n) (hn : n < 2147483647) : (x + 1).toInt = ((n + 1 : Nat) : Int) := by
  rw [Int32.toInt_add, h]
  exact Int.bmod_eq_of_le (by show (-2147483648 : Int) ≤ (n : Int) + 1; omega) (by show (n : Int) + 1 < (2147483648 : Int); omega)
theorem zen {x y : Int32} {n : Nat} (hx : x.toInt = n) (hn : (n : Int) ≤ y.toInt) (hq : y.toInt ≤ x.toInt) : n = y.toNatClampNeg := by
  rw [zclE]
  omega
theorem zincL {x y : Int32} {n : Nat} (h : x.toInt = n) (hy : x.toInt < y.toInt) : (x + 1).toInt = ((n + 1 : Nat) : Int) := zincN h (by have := Int32.toInt_lt y; omega)
theorem f_hasTest {G : zG} (hG : G.1 = zProg) {h : zH} {n : Int32} (hs : tSh h) : tC zTt G 102 [.ref 54, .int n] h (fun w h2 => tBo (0 ≤ n.toInt ∧ n.toInt < (tvI (tF h 54 5)).toInt) w ∧ h2 = h) := by
  refine tC_in (by rw [hG]; rfl) (fun dp => ?_)
  refine tw_iload rfl rfl ?_
  refine tw_if_lt rfl (fun q71 => ?_) (fun q71 => ?_)
  · try dsimp only [tvI_i, tvJ_j, tvR_r] at q71
    refine tw_push rfl ?_
    exact tw_iret rfl ⟨Or.inr ⟨by omega, rfl⟩, rfl⟩
  · try dsimp only [tvI_i, tvJ_j, tvR_r] at q71
    refine tw_iload rfl rfl ?_
    refine tw_aload rfl rfl ?_
    refine tw_getS rfl (hi_54_5 hs) ?_
    refine tw_ic_ge rfl (fun q72 => ?_) (fun q72 => ?_)
    · try dsimp only [tvI_i, tvJ_j, tvR_r] at q72
      refine tw_push rfl ?_
      exact tw_iret rfl ⟨Or.inr ⟨by omega, rfl⟩, rfl⟩
    · try dsimp only [tvI_i, tvJ_j, tvR_r] at q72
      refine tw_push rfl ?_
      refine tw_goto rfl ?_
      exact tw_iret rfl ⟨Or.inl ⟨by omega, rfl⟩, rfl⟩
theorem f_hasPerson {G : zG} (hG : G.1 = zProg) {h : zH} {n : Int32} (hs : tSh h) : tC zTt G 15 [.ref 36, .int n] h (fun w h2 => tBo (0 ≤ n.toInt ∧ n.toInt < (tvI (tF h 36 2)).toInt) w ∧ h2 = h) := by
  refine tC_in (by rw [hG]; rfl) (fun dp => ?_)
  refine tw_iload rfl rfl ?_
  refine tw_if_lt rfl (fun q73 => ?_) (fun q73 => ?_)
  · try dsimp only [tvI_i, tvJ_j, tvR_r] at q73
    refine tw_push rfl ?_
    exact tw_iret rfl ⟨Or.inr ⟨by omega, rfl⟩, rfl⟩
  · try dsimp only [tvI_i, tvJ_j, tvR_r] at q73
    refine tw_iload rfl rfl ?_
    refine tw_aload rfl rfl ?_
    refine tw_getS rfl (hi_36_2 hs) ?_
    refine tw_ic_ge rfl (fun q74 => ?_) (fun q74 => ?_)
    · try dsimp only [tvI_i, tvJ_j, tvR_r] at q74
      refine tw_push rfl ?_
      exact tw_iret rfl ⟨Or.inr ⟨by omega, rfl⟩, rfl⟩
    · try dsimp only [tvI_i, tvJ_j, tvR_r] at q74
      refine tw_push rfl ?_
      refine tw_goto rfl ?_
      exact tw_iret rfl ⟨Or.inl ⟨by omega, rfl⟩, rfl⟩
theorem f_addReading {G : zG} (hG : G.1 = zProg) {h : zH} {t p m : Int32} (hs : tSh h) : tC zTt G 104 [.ref 54, .int t, .int p, .int m] h (fun w h2 => (((tvI (tF h 54 9)).toInt ≠ 600 ∧ ¬ tB (tJ h 59 t.toNatClampNeg) p) ∧ w = some (.int 1) ∧ tF h2 54 9 = .int (tvI (tF h 54 9) + 1) ∧ tJ h2 59 = (fun j => if j = t.toNatClampNeg then tJ h 59 t.toNatClampNeg ||| ((1 : Int64) <<< (p.toInt64 &&& 63)) else tJ h 59 j) ∧ tA h2 60 = (fun j => if j = (tvI (tF h 54 9)).toNatClampNeg then t else tA h 60 j) ∧ tA h2 61 = (fun j => if j = (tvI (tF h 54 9)).toNatClampNeg then p else tA h 61 j) ∧ tA h2 62 = (fun j => if j = (tvI (tF h 54 9)).toNatClampNeg then m else tA h 62 j)) ∨ (¬ ((tvI (tF h 54 9)).toInt ≠ 600 ∧ ¬ tB (tJ h 59 t.toNatClampNeg) p) ∧ w = some (.int 0) ∧ h2 = h)) := by
  refine tC_in (by rw [hG]; rfl) (fun dp => ?_)
  refine tw_aload rfl rfl ?_
  refine tw_getS rfl (hi_54_9 hs) ?_
  refine tw_push rfl ?_
  refine tw_ic_eq rfl (fun q75 => ?_) (fun q75 => ?_)
  · try dsimp only [tvI_i, tvJ_j, tvR_r] at q75
    have q75i := zeqi (Y := 600) (by decide) q75
    refine tw_push rfl ?_
    exact tw_iret rfl (Or.inr ⟨fun z => absurd z.1 (by omega), rfl, rfl⟩)
  · try dsimp only [tvI_i, tvJ_j, tvR_r] at q75
    have q75i := zneq (Y := 600) (by decide) q75
    refine tw_aload rfl rfl ?_
    refine tw_getS rfl (hs_54_4 hs) ?_
    refine tw_iload rfl rfl ?_
    refine tw_lald rfl (fun f76 => ?_)
    refine tw_iload rfl rfl ?_
    refine tw_lshr rfl ?_
    refine tw_push rfl ?_
    refine tw_land rfl ?_
    refine tw_push rfl ?_
    refine tw_lc_ne rfl rfl (fun q77 => ?_) (fun q77 => ?_)
    · try dsimp only [tvI_i, tvJ_j, tvR_r] at q77
      refine tw_aload rfl rfl ?_
      refine tw_getS rfl (hs_54_4 hs) ?_
      refine tw_iload rfl rfl ?_
      refine tw_dup2 rfl ?_
      refine tw_lald rfl (fun f78 => ?_)
      refine tw_push rfl ?_
      refine tw_iload rfl rfl ?_
      refine tw_lshl rfl ?_
      refine tw_lor rfl ?_
      refine tw_last rfl (fun f79 => ?_)
      refine tw_aload rfl rfl ?_
      refine tw_getS rfl (hs_54_6 (tSh_SJ hs)) ?_
      refine tw_aload rfl rfl ?_
      refine tw_getS rfl (tF_j (hi_54_9 hs)) ?_
      refine tw_iload rfl rfl ?_
      refine tw_iast rfl (fun f80 => ?_)
      refine tw_aload rfl rfl ?_
      refine tw_getS rfl (hs_54_7 (tSh_SA (tSh_SJ hs))) ?_
      refine tw_aload rfl rfl ?_
      refine tw_getS rfl (tF_a (tF_j (hi_54_9 hs))) ?_
      refine tw_iload rfl rfl ?_
      refine tw_iast rfl (fun f81 => ?_)
      refine tw_aload rfl rfl ?_
      refine tw_getS rfl (hs_54_8 (tSh_SA (tSh_SA (tSh_SJ hs)))) ?_
      refine tw_aload rfl rfl ?_
      refine tw_getS rfl (tF_a (tF_a (tF_j (hi_54_9 hs)))) ?_
      refine tw_iload rfl rfl ?_
      refine tw_iast rfl (fun f82 => ?_)
      refine tw_aload rfl rfl ?_
      refine tw_dup rfl ?_
      refine tw_getS rfl (tF_a (tF_a (tF_a (tF_j (hi_54_9 hs))))) ?_
      refine tw_push rfl ?_
      refine tw_iadd rfl ?_
      refine tw_put rfl (fun f83 => ?_)
      refine tw_push rfl ?_
      exact tw_iret rfl (Or.inl ⟨⟨by omega, q77⟩, rfl, (tF_same f83), (tJ_ff (tJ_aa (tJ_aa (tJ_aa (tJ_st f79 rfl))))), (tA_ff (tA_n (by decide) (tA_n (by decide) (tA_st f80 (tA_jj rfl))))), (tA_ff (tA_n (by decide) (tA_st f81 (tA_n (by decide) (tA_jj rfl))))), (tA_ff (tA_st f82 (tA_n (by decide) (tA_n (by decide) (tA_jj rfl)))))⟩)
    · try dsimp only [tvI_i, tvJ_j, tvR_r] at q77
      refine tw_push rfl ?_
      exact tw_iret rfl (Or.inr ⟨fun z => z.2 q77, rfl, rfl⟩)
noncomputable def ph_rdc (t p : Int32) (h : zH) (w : Option Value) (h2 : zH) : Prop := ((((0 ≤ t.toInt ∧ t.toInt < (tvI (tF h 54 5)).toInt) ∧ (0 ≤ p.toInt ∧ p.toInt < (tvI (tF h 36 2)).toInt)) ∧ (tvI (tF h 54 9)).toInt ≠ 600 ∧ ¬ tB (tJ h 59 t.toNatClampNeg) p) ∧ w = some (.int 1) ∧ tF h2 54 9 = .int (tvI (tF h 54 9) + 1) ∧ tJ h2 59 = (fun j => if j = t.toNatClampNeg then tJ h 59 t.toNatClampNeg ||| ((1 : Int64) <<< (p.toInt64 &&& 63)) else tJ h 59 j) ∧ tA h2 60 = (fun j => if j = (tvI (tF h 54 9)).toNatClampNeg then t else tA h 60 j) ∧ tA h2 61 = (fun j => if j = (tvI (tF h 54 9)).toNatClampNeg then p else tA h 61 j) ∧ tA h2 62 = (fun j => if j = (tvI (tF h 54 9)).toNatClampNeg then tvI (tF h 0 14) else tA h 62 j)) ∨ (¬ (((0 ≤ t.toInt ∧ t.toInt < (tvI (tF h 54 5)).toInt) ∧ (0 ≤ p.toInt ∧ p.toInt < (tvI (tF h 36 2)).toInt)) ∧ (tvI (tF h 54 9)).toInt ≠ 600 ∧ ¬ tB (tJ h 59 t.toNatClampNeg) p) ∧ w = some (.int 0) ∧ h2 = h)
theorem f_reads {G : zG} (hG : G.1 = zProg) {h : zH} {t p : Int32} (hs : tSh h) : tC zTt G 130 [.ref 0, .int t, .int p] h (ph_rdc t p h) := by
  refine tC_in (by rw [hG]; rfl) (fun dp => ?_)
  refine tw_aload rfl rfl ?_
  refine tw_getS rfl (hs_0_4 hs) ?_
  refine tw_iload rfl rfl ?_
  refine tw_virt1 rfl (f_hasTest hG hs) (fun w9 h9 p84 => ?_)
  obtain ⟨⟨p84, rfl⟩ | ⟨p84, rfl⟩, rfl⟩ := p84
  · try dsimp only [tvI_i, tvJ_j, tvR_r] at p84
    refine tw_if_eq rfl (fun z => absurd z (by decide)) (fun _ => ?_)
    refine tw_aload rfl rfl ?_
    refine tw_getS rfl (hs_0_1 hs) ?_
    refine tw_iload rfl rfl ?_
    refine tw_virt1 rfl (f_hasPerson hG hs) (fun w9 h9 p85 => ?_)
    obtain ⟨⟨p85, rfl⟩ | ⟨p85, rfl⟩, rfl⟩ := p85
    · try dsimp only [tvI_i, tvJ_j, tvR_r] at p85
      refine tw_if_eq rfl (fun z => absurd z (by decide)) (fun _ => ?_)
      refine tw_aload rfl rfl ?_
      refine tw_getS rfl (hs_0_4 hs) ?_
      refine tw_iload rfl rfl ?_
      refine tw_iload rfl rfl ?_
      refine tw_aload rfl rfl ?_
      refine tw_getS rfl (hi_0_14 hs) ?_
      refine tw_virt3 rfl (f_addReading hG hs) (fun w9 h9 p86 => ?_)
      rcases p86 with ⟨p86, rfl, p86e⟩ | ⟨p86, rfl, rfl⟩
      · refine tw_if_eq rfl (fun z => absurd z (by decide)) (fun _ => ?_)
        refine tw_push rfl ?_
        refine tw_goto rfl ?_
        exact tw_iret rfl (Or.inl ⟨⟨by omega, p86⟩, rfl, p86e⟩)
      · refine tw_if_eq rfl (fun _ => ?_) (fun z => absurd z (by decide))
        refine tw_push rfl ?_
        exact tw_iret rfl (Or.inr ⟨fun z => p86 z.2, rfl, rfl⟩)
    · try dsimp only [tvI_i, tvJ_j, tvR_r] at p85
      refine tw_if_eq rfl (fun _ => ?_) (fun z => absurd z (by decide))
      refine tw_push rfl ?_
      exact tw_iret rfl (Or.inr ⟨fun z => absurd z.1 (by omega), rfl, rfl⟩)
  · try dsimp only [tvI_i, tvJ_j, tvR_r] at p84
    refine tw_if_eq rfl (fun _ => ?_) (fun z => absurd z (by decide))
    refine tw_push rfl ?_
    exact tw_iret rfl (Or.inr ⟨fun z => absurd z.1 (by omega), rfl, rfl⟩)
theorem g_isPerson {G : zG} (hG : G.1 = zProg) {h : zH} {n : Int32} (hs : tSh h) (hk : 0 ≤ (tvI (tF h 111 2)).toInt) : tC zTt G 175 [.ref 111, .int n] h (fun w h2 => tBo (0 ≤ n.toInt ∧ n.toInt < (tvI (tF h 111 2)).toInt) w ∧ h2 = h) := by
  refine tC_in (by rw [hG]; rfl) (fun dp => ?_)
  refine tw_iload rfl rfl ?_
  refine tw_i2l rfl ?_
  refine tw_push rfl ?_
  refine tw_aload rfl rfl ?_
  refine tw_getS rfl (hi_111_2 hs) ?_
  refine tw_push rfl ?_
  refine tw_isub rfl ?_
  refine tw_i2l rfl ?_
  refine tw_stat3 rfl (f_in hG  (LO := 0)  (Int32.toInt_toInt64 _) (by decide) (Int32.toInt_toInt64 _)) (fun w9 h9 p87 => ?_)
  obtain ⟨⟨p87, rfl⟩ | ⟨p87, rfl⟩, rfl⟩ := p87
  · try dsimp only [tvI_i, tvJ_j, tvR_r] at p87
    exact tw_iret rfl ⟨Or.inl ⟨by have e := zsub1 hk; have := p87; omega, rfl⟩, rfl⟩
  · try dsimp only [tvI_i, tvJ_j, tvR_r] at p87
    exact tw_iret rfl ⟨Or.inr ⟨by have e := zsub1 hk; have := p87; omega, rfl⟩, rfl⟩
noncomputable def ph_rdm (t p : Int32) (h : zH) (w : Option Value) (h2 : zH) : Prop := (((((0 ≤ t.toInt ∧ t.toInt < (tvI (tF h 111 50)).toInt) ∧ (0 ≤ p.toInt ∧ p.toInt < (tvI (tF h 111 2)).toInt)) ∧ (tvI (tF h 111 51)).toInt ≠ 600) ∧ ¬ sF (tA h 148) (tA h 149) t p (tvI (tF h 111 51)).toNatClampNeg) ∧ w = some (.int 1) ∧ tF h2 111 51 = .int (tvI (tF h 111 51) + 1) ∧ tA h2 148 = (fun j => if j = (tvI (tF h 111 51)).toNatClampNeg then t else tA h 148 j) ∧ tA h2 149 = (fun j => if j = (tvI (tF h 111 51)).toNatClampNeg then p else tA h 149 j) ∧ tA h2 150 = (fun j => if j = (tvI (tF h 111 51)).toNatClampNeg then tvI (tF h 111 1) else tA h 150 j)) ∨ (¬ ((((0 ≤ t.toInt ∧ t.toInt < (tvI (tF h 111 50)).toInt) ∧ (0 ≤ p.toInt ∧ p.toInt < (tvI (tF h 111 2)).toInt)) ∧ (tvI (tF h 111 51)).toInt ≠ 600) ∧ ¬ sF (tA h 148) (tA h 149) t p (tvI (tF h 111 51)).toNatClampNeg) ∧ w = some (.int 0) ∧ h2 = h)
theorem g_reads {G : zG} (hG : G.1 = zProg) {h : zH} {t p : Int32} (hs : tSh h) (h0 : 0 ≤ (tvI (tF h 111 51)).toInt) (hk50 : 0 ≤ (tvI (tF h 111 50)).toInt) (hk2 : 0 ≤ (tvI (tF h 111 2)).toInt) : tC zTt G 239 [.ref 111, .int t, .int p] h (ph_rdm t p h) := by
  refine tC_in (by rw [hG]; rfl) (fun dp => ?_)
  have e50 := zsub1 hk50
  refine tw_push rfl ?_
  refine tw_istore rfl ?_
  refine tw_push rfl ?_
  refine tw_istore rfl ?_
  refine tG_loop (zW_mono zTt G dp) (zW_conj zTt G dp) (V := fun pc L st h9 _ _ => pc = 5 ∧ st = [] ∧ h = h9 ∧ ∃ (n : Nat) (x y : Int32), x.toInt = n ∧ (n : Int) ≤ (tvI (tF h 111 51)).toInt ∧ ((y = 1 ∧ sF (tA h 148) (tA h 149) t p n) ∨ (y = 0 ∧ ¬ sF (tA h 148) (tA h 149) t p n)) ∧ L = [some (.ref 111), some (.int t), some (.int p), some (.int y), some (.int x)]) ?_ (⟨rfl, rfl, rfl, 0, 0, 0, rfl, h0, Or.inr ⟨rfl, fun z => by obtain ⟨i, z, -⟩ := z; omega⟩, rfl⟩)
  rintro _ _ _ _ _ _ ⟨rfl, rfl, rfl, n, x, y, hx, hn, hy, rfl⟩
  refine tw_iload rfl rfl ?_
  refine tw_aload rfl rfl ?_
  refine tw_getS rfl (hi_111_51 hs) ?_
  refine tw_ic_ge rfl (fun q88 => ?_) (fun q88 => ?_)
  · try dsimp only [tvI_i, tvJ_j, tvR_r] at q88
    refine tw_iload rfl rfl ?_
    refine tw_if_ne rfl (fun q89 => ?_) (fun q89 => ?_)
    · try dsimp only [tvI_i, tvJ_j, tvR_r] at q89
      have q89i := zneq (Y := 0) (by decide) q89
      refine tw_push rfl ?_
      have en := zen hx hn q88
      subst en
      exact tw_iret rfl (Or.inr ⟨fun z => z.2 ((sF_v hy).2 q89), rfl, rfl⟩)
    · try dsimp only [tvI_i, tvJ_j, tvR_r] at q89
      have q89i := zeqi (Y := 0) (by decide) q89
      refine tw_aload rfl rfl ?_
      refine tw_getS rfl (hi_111_51 hs) ?_
      refine tw_push rfl ?_
      refine tw_ic_eq rfl (fun q90 => ?_) (fun q90 => ?_)
      · try dsimp only [tvI_i, tvJ_j, tvR_r] at q90
        have q90i := zeqi (Y := 600) (by decide) q90
        refine tw_push rfl ?_
        have en := zen hx hn q88
        subst en
        exact tw_iret rfl (Or.inr ⟨fun z => absurd z.1 (by omega), rfl, rfl⟩)
      · try dsimp only [tvI_i, tvJ_j, tvR_r] at q90
        have q90i := zneq (Y := 600) (by decide) q90
        refine tw_iload rfl rfl ?_
        refine tw_i2l rfl ?_
        refine tw_push rfl ?_
        refine tw_aload rfl rfl ?_
        refine tw_getS rfl (hi_111_50 hs) ?_
        refine tw_push rfl ?_
        refine tw_isub rfl ?_
        refine tw_i2l rfl ?_
        refine tw_stat3 rfl (f_in hG  (LO := 0)  (Int32.toInt_toInt64 _) (by decide) (Int32.toInt_toInt64 _)) (fun w9 h9 p91 => ?_)
        obtain ⟨⟨p91, rfl⟩ | ⟨p91, rfl⟩, rfl⟩ := p91
        · try dsimp only [tvI_i, tvJ_j, tvR_r] at p91
          refine tw_if_eq rfl (fun z => absurd z (by decide)) (fun _ => ?_)
          refine tw_aload rfl rfl ?_
          refine tw_iload rfl rfl ?_
          refine tw_virt1 rfl (g_isPerson hG hs hk2) (fun w9 h9 p92 => ?_)
          obtain ⟨⟨p92, rfl⟩ | ⟨p92, rfl⟩, rfl⟩ := p92
          · try dsimp only [tvI_i, tvJ_j, tvR_r] at p92
            refine tw_if_ne rfl (fun _ => ?_) (fun z => absurd z (by decide))
            refine tw_aload rfl rfl ?_
            refine tw_getS rfl (hs_111_55 hs) ?_
            refine tw_aload rfl rfl ?_
            refine tw_getS rfl (hi_111_51 hs) ?_
            refine tw_iload rfl rfl ?_
            refine tw_iast rfl (fun f93 => ?_)
            refine tw_aload rfl rfl ?_
            refine tw_getS rfl (hs_111_56 (tSh_SA hs)) ?_
            refine tw_aload rfl rfl ?_
            refine tw_getS rfl (tF_a (hi_111_51 hs)) ?_
            refine tw_iload rfl rfl ?_
            refine tw_iast rfl (fun f94 => ?_)
            refine tw_aload rfl rfl ?_
            refine tw_getS rfl (hs_111_57 (tSh_SA (tSh_SA hs))) ?_
            refine tw_aload rfl rfl ?_
            refine tw_getS rfl (tF_a (tF_a (hi_111_51 hs))) ?_
            refine tw_aload rfl rfl ?_
            refine tw_getS rfl (tF_a (tF_a (hi_111_1 hs))) ?_
            refine tw_iast rfl (fun f95 => ?_)
            refine tw_aload rfl rfl ?_
            refine tw_dup rfl ?_
            refine tw_getS rfl (tF_a (tF_a (tF_a (hi_111_51 hs)))) ?_
            refine tw_push rfl ?_
            refine tw_iadd rfl ?_
            refine tw_put rfl (fun f96 => ?_)
            refine tw_push rfl ?_
            have en := zen hx hn q88
            subst en
            exact tw_iret rfl (Or.inl ⟨⟨by omega, (sF_v hy).1 q89⟩, rfl, (tF_same f96), (tA_ff (tA_n (by decide) (tA_n (by decide) (tA_st f93 rfl)))), (tA_ff (tA_n (by decide) (tA_st f94 (tA_n (by decide) rfl)))), (tA_ff (tA_st f95 (tA_n (by decide) (tA_n (by decide) rfl))))⟩)
          · try dsimp only [tvI_i, tvJ_j, tvR_r] at p92
            refine tw_if_ne rfl (fun z => absurd z (by decide)) (fun _ => ?_)
            refine tw_push rfl ?_
            have en := zen hx hn q88
            subst en
            exact tw_iret rfl (Or.inr ⟨fun z => absurd z.1 (by omega), rfl, rfl⟩)
        · try dsimp only [tvI_i, tvJ_j, tvR_r] at p91
          refine tw_if_eq rfl (fun _ => ?_) (fun z => absurd z (by decide))
          refine tw_push rfl ?_
          have en := zen hx hn q88
          subst en
          exact tw_iret rfl (Or.inr ⟨fun z => absurd z.1 (by omega), rfl, rfl⟩)
  · try dsimp only [tvI_i, tvJ_j, tvR_r] at q88
    refine tw_iload rfl rfl ?_
    refine tw_if_ne rfl (fun q97 => ?_) (fun q97 => ?_)
    · try dsimp only [tvI_i, tvJ_j, tvR_r] at q97
      have q97i := zneq (Y := 0) (by decide) q97
      refine tw_push rfl ?_
      refine tw_goto rfl ?_
      refine tw_istore rfl ?_
      refine tw_iinc rfl rfl ?_
      refine tw_goto rfl ?_
      exact tG_cut (zW_mono zTt G dp) (Or.inr ⟨rfl, rfl, rfl, n + 1, _, _, zincL hx q88, by omega, Or.inl ⟨rfl, sF_s ((sF_v hy).2 q97)⟩, rfl⟩)
    · try dsimp only [tvI_i, tvJ_j, tvR_r] at q97
      have q97i := zeqi (Y := 0) (by decide) q97
      refine tw_aload rfl rfl ?_
      refine tw_getS rfl (hs_111_55 hs) ?_
      refine tw_iload rfl rfl ?_
      refine tw_iald rfl (fun f98 => ?_)
      refine tw_iload rfl rfl ?_
      refine tw_ic_ne rfl (fun q99 => ?_) (fun q99 => ?_)
      · try dsimp only [tvI_i, tvJ_j, tvR_r] at q99
        have q99i := zneq rfl q99
        refine tw_push rfl ?_
        refine tw_istore rfl ?_
        refine tw_iinc rfl rfl ?_
        refine tw_goto rfl ?_
        exact tG_cut (zW_mono zTt G dp) (Or.inr ⟨rfl, rfl, rfl, n + 1, _, _, zincL hx q88, by omega, Or.inr ⟨rfl, sF_n (zof_cl hx) ((sF_v hy).1 q97) (fun z => q99 z.1)⟩, rfl⟩)
      · try dsimp only [tvI_i, tvJ_j, tvR_r] at q99
        have q99i := zeqi rfl q99
        refine tw_aload rfl rfl ?_
        refine tw_getS rfl (hs_111_56 hs) ?_
        refine tw_iload rfl rfl ?_
        refine tw_iald rfl (fun f100 => ?_)
        refine tw_iload rfl rfl ?_
        refine tw_ic_ne rfl (fun q101 => ?_) (fun q101 => ?_)
        · try dsimp only [tvI_i, tvJ_j, tvR_r] at q101
          have q101i := zneq rfl q101
          refine tw_push rfl ?_
          refine tw_istore rfl ?_
          refine tw_iinc rfl rfl ?_
          refine tw_goto rfl ?_
          exact tG_cut (zW_mono zTt G dp) (Or.inr ⟨rfl, rfl, rfl, n + 1, _, _, zincL hx q88, by omega, Or.inr ⟨rfl, sF_n (zof_cl hx) ((sF_v hy).1 q97) (fun z => q101 z.2)⟩, rfl⟩)
        · try dsimp only [tvI_i, tvJ_j, tvR_r] at q101
          have q101i := zeqi rfl q101
          refine tw_push rfl ?_
          refine tw_goto rfl ?_
          refine tw_istore rfl ?_
          refine tw_iinc rfl rfl ?_
          refine tw_goto rfl ?_
          exact tG_cut (zW_mono zTt G dp) (Or.inr ⟨rfl, rfl, rfl, n + 1, _, _, zincL hx q88, by omega, Or.inl ⟨rfl, sF_y (zof_cl hx) q99 q101⟩, rfl⟩)
theorem a_reads {xs : Nat → Int32} {τ : List Nat} {t p : Int32} {h h2 h3 : zH} {w w2 : Option Value} (hB : zBs xs τ h) (hT : R_tests h) (hP : R_people h) (hW : R_now h) (hA : R_readings h) (h1 : R_rtest h) (h4 : R_rby h) (h5 : R_rin h) (hD : R_rdb h) (e1 : tF h2 111 50 = tF h 111 50) (e3 : tF h2 111 2 = tF h 111 2) (e4 : tF h2 111 1 = tF h 111 1) (e5 : tF h2 111 51 = tF h 111 51) (o1 : tA h2 148 = tA h 148) (o2 : tA h2 149 = tA h 149) (o3 : tA h2 150 = tA h 150) (e2 : tF h3 54 9 = tF h2 54 9) (t1 : tA h3 60 = tA h2 60) (t2 : tA h3 61 = tA h2 61) (t3 : tA h3 62 = tA h2 62) (t4 : tJ h3 59 = tJ h2 59) (k1 : ph_rdc t p h w h2) (k2 : ph_rdm t p h2 w2 h3) : w2 = w ∧ R_readings h3 ∧ R_rtest h3 ∧ R_rby h3 ∧ R_rin h3 ∧ R_rdb h3 := by
  have hA0 := hA
  unfold R_tests at hT
  unfold R_people at hP
  unfold R_now at hW
  unfold R_readings at hA0
  have h10 := h1
  have h40 := h4
  unfold R_rtest at h10
  unfold R_rby at h40
  unfold R_rin at h5
  unfold ph_rdm at k2
  rw [e1, e3, e4, e5, o1, o2, o3, ← hT, ← hP, ← hW, ← hA0, ← h10, ← h40, ← h5] at k2
  have n1 := kb_54_9 hB
  have n2 := kb_54_5 hB
  have n3 := kb_36_2 hB
  have hC : ((0 ≤ t.toInt ∧ t.toInt < (tvI (tF h 54 5)).toInt) ∧ (0 ≤ p.toInt ∧ p.toInt < (tvI (tF h 36 2)).toInt)) → (tB (tJ h 59 t.toNatClampNeg) p ↔ sF (tA h 60) (tA h 61) t p (tvI (tF h 54 9)).toNatClampNeg) := fun z => hD t p (by omega) (by omega)
  rcases k1 with ⟨c1, rfl, f1, f2, f3, f4, f5⟩ | ⟨c1, rfl, rfl⟩ <;> rcases k2 with ⟨c2, rfl, g1, g3, g4, g5⟩ | ⟨c2, rfl, rfl⟩
  · have en : (tvI (tF h3 54 9)).toNatClampNeg = (tvI (tF h 54 9)).toNatClampNeg + 1 := by
      rw [e2, f1]
      show (tvI (tF h 54 9) + 1).toNatClampNeg = _
      have := zincN (x := tvI (tF h 54 9)) (n := (tvI (tF h 54 9)).toInt.toNat) (by omega) (by omega)
      rw [zclE, zclE, this]
      rfl
    refine ⟨rfl, by unfold R_readings; rw [e2, f1, g1], by unfold R_rtest; rw [t1, f3, g3], by unfold R_rby; rw [t2, f4, g4], by unfold R_rin; rw [t3, f5, g5], ?_⟩
    intro a b ha hb
    rw [en, sF_up (t1.trans f3) (t2.trans f4), t4, f2]
    dsimp only
    by_cases z : a.toNatClampNeg = t.toNatClampNeg
    · have za : a = t := by
        rw [zclE, zclE] at z
        exact Int32.toInt_inj.mp (by omega)
      subst za
      rw [if_pos rfl, tB_or (by omega) (by omega), hD a b ha hb]
      exact ⟨fun q => q.imp id (fun e => ⟨rfl, e.symm⟩), fun q => q.imp id (fun e => e.2.symm)⟩
    · rw [if_neg z, hD a b ha hb]
      exact ⟨Or.inl, fun q => q.resolve_right (fun e => z (by rw [e.1]))⟩
  · exact absurd ⟨⟨c1.1, c1.2.1⟩, fun q => c1.2.2 ((hC c1.1).mpr q)⟩ c2
  · exact absurd ⟨c2.1.1, c2.1.2, fun q => c2.2 ((hC c2.1.1).mp q)⟩ c1
  · exact ⟨rfl, hA, h1, h4, by unfold R_rin; exact h5, hD⟩
