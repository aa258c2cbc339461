/-! what is answered: small helpers -/
noncomputable def tBo (P : Prop) (w : Option Value) : Prop := (P ∧ w = some (.int 1)) ∨ (¬ P ∧ w = some (.int 0))
theorem tBo_i {P R : Prop} {w : Option Value} (e : P ↔ R) (k : tBo P w) : tBo R w := k.imp (fun z => ⟨e.mp z.1, z.2⟩) (fun z => ⟨fun y => z.1 (e.mpr y), z.2⟩)
theorem zpB_c {b : Int × Int} {r : List (Int × Int)} {xs : List Int32} (h : zpB (b :: r) xs) : ∃ x ys, xs = x :: ys ∧ (b.1 ≤ x.toInt ∧ x.toInt ≤ b.2) ∧ zpB r ys := by
  obtain ⟨lo, hi⟩ := b
  cases xs with
  | nil => exact h.elim
  | cons x ys => exact ⟨x, ys, rfl, h.1, h.2⟩
theorem zpB_n {xs : List Int32} (h : zpB [] xs) : xs = [] := by
  cases xs with
  | nil => rfl
  | cons x ys => exact h.elim
theorem zclx {x : Int32} (h : 0 ≤ x.toInt) : (x.toNatClampNeg : Int) = x.toInt := by
  show ((x.toInt.toNat : Nat) : Int) = _
  omega
theorem zclE {x : Int32} : x.toNatClampNeg = x.toInt.toNat := rfl
theorem zeqi {x y : Int32} {Y : Int} (hy : y.toInt = Y) (h : x = y) : x.toInt = Y := by rw [h]; exact hy
theorem zneq {x y : Int32} {Y : Int} (hy : y.toInt = Y) (h : ¬ x = y) : x.toInt ≠ Y := fun z => h (Int32.toInt_inj.mp (z.trans hy.symm))
theorem zsub1 {x : Int32} (h : 0 ≤ x.toInt) : (x - 1).toInt = x.toInt - 1 := by
  have := Int32.toInt_lt x
  rw [Int32.toInt_sub]
  exact Int.bmod_eq_of_le (by show (-2147483648 : Int) ≤ x.toInt - 1; omega) (by show x.toInt - 1 < (2147483648 : Int); omega)
noncomputable def tRwl : List (Nat × Nat) := [(4, 5), (14, 15), (27, 28), (97, 98)]
noncomputable def tRw (h : zH) : Prop := ∀ q ∈ tRwl, ∀ i, i < tN h q.1 → tO h q.1 i = some (q.2 + i)
theorem tRw_A {h : zH} {r i : Nat} {x : Int32} (k : tRw h) : tRw (tSA h r i x) := by unfold tRw; rw [tO_tSA, tN_tSA]; exact k
theorem tRw_J {h : zH} {r i : Nat} {x : Int64} (k : tRw h) : tRw (tSJ h r i x) := by unfold tRw; rw [tO_tSJ, tN_tSJ]; exact k
theorem tRw_F {h : zH} {r b : Nat} {w : Value} (k : tRw h) : tRw (tSF h r b w) := by unfold tRw; rw [tO_tSF, tN_tSF]; exact k
theorem tRw_at {h : zH} (k : tRw h) {p q : Nat} (hm : (p, q) ∈ tRwl) {i : Int32} (z : tInO h p i) : zrf (tO h p i.toNatClampNeg) = .ref (q + i.toNatClampNeg) := by
  rw [k (p, q) hm _ z.rg.2]
  rfl
theorem tfr_N {xs : Nat → Int32} {τ : List Nat} {h h2 : zH} {W : Nat → Nat → Bool} {p t : Nat} (hB : zBs xs τ h) (hf : yFr W τ h h2) (ht : zTG[p]? = some t) : tN h2 p = tN h p := by
  obtain ⟨ct, c, a1, a2, -⟩ := hB.1.2 _ _ (hB.2.1 _ _ ht)
  obtain ⟨c2, b1, b2⟩ := hf _ _ _ (hB.2.1 _ _ ht) a2
  unfold tN
  rw [a2, b1]
  match c, c2, b2 with
  | .inr (x, fs), .inr (y, gs), b2 => rfl
  | .inl (k, N, x), .inl (k2, N2, y), b2 => exact b2.2.1.symm
theorem tfr_Fs {xs : Nat → Int32} {τ : List Nat} {h h2 : zH} {W : Nat → Nat → Bool} {p t b : Nat} (hB : zBs xs τ h) (hf : yFr W τ h h2) (ht : τ[p]? = some t) (hW : W t b = false) : tF h2 p b = tF h p b := by
  obtain ⟨ct, c, a1, a2, -⟩ := hB.1.2 _ _ ht
  obtain ⟨c2, b1, b2⟩ := hf _ _ _ ht a2
  unfold tF
  rw [a2, b1]
  match c, c2, b2 with
  | .inr (x, fs), .inr (y, gs), b2 =>
    dsimp only
    rw [List.getD_eq_getElem?_getD, List.getD_eq_getElem?_getD, b2.2.2 b hW]
  | .inl (k, N, x), .inl (k2, N2, y), b2 => rfl
theorem car_tag {xs : Nat → Int32} {τ : List Nat} {h : zH} (hB : zBs xs τ h) {i r : Nat} (hi : (i : Int) < (tvI (tF h 36 4)).toInt) (hr : tO h 39 i = some r) : τ[r]? = some 150 := by
  have hn := (kb_36_4 hB).2
  obtain ⟨a, b, c⟩ := tkd_o hB (p := 39) (t := 15) rfl rfl
  obtain ⟨-, -, c3⟩ := c i (by omega)
  rw [hr] at c3
  rcases c3 with z | z | z
  · cases z
  · have : zoi (some r) = (r : Int) := rfl
    omega
  · exact z
theorem car_lt {xs : Nat → Int32} {τ : List Nat} {h : zH} (hB : zBs xs τ h) {i r : Nat} (hi : (i : Int) < (tvI (tF h 36 4)).toInt) (hr : tO h 39 i = some r) : r < h.length := by
  have z := car_tag hB hi hr
  rcases Nat.lt_or_ge r τ.length with q | q
  · have := hB.1.1; omega
  · rw [List.getElem?_eq_none q] at z; cases z
theorem car_ne {xs : Nat → Int32} {τ : List Nat} {h : zH} (hB : zBs xs τ h) {i r : Nat} (hi : (i : Int) < (tvI (tF h 36 4)).toInt) (hr : tO h 39 i = some r) {p t : Nat} (ht : zTG[p]? = some t) (hn : t ≠ 150) : r ≠ p := by
  intro e
  subst e
  have z := car_tag hB hi hr
  rw [hB.2.1 _ _ ht] at z
  cases z
  exact hn rfl
theorem zBs_len {xs : Nat → Int32} {τ : List Nat} {h : zH} (hB : zBs xs τ h) : 182 ≤ h.length := by
  have z := hB.2.1 181 149 rfl
  rcases Nat.lt_or_ge 181 τ.length with q | q
  · have := hB.1.1; omega
  · rw [List.getElem?_eq_none q] at z; cases z
/-- a count: what is told is the next of so many, or none -/
noncomputable def phN (p b : Nat) (C : Prop) (h : zH) (w : Option Value) (h2 : zH) : Prop := (C ∧ w = some (tF h p b) ∧ tF h2 p b = .int (tvI (tF h p b) + 1)) ∨ (¬ C ∧ w = some (.int (-1)) ∧ tF h2 p b = tF h p b)
theorem phN_a {p b q c : Nat} {C D : Prop} {h h2 h3 : zH} {w w2 : Option Value} (hR : tF h p b = tF h q c) (e1 : tF h2 q c = tF h q c) (e2 : tF h3 p b = tF h2 p b) (hCD : C ↔ D) (k1 : phN p b C h w h2) (k2 : phN q c D h2 w2 h3) : w2 = w ∧ tF h3 p b = tF h3 q c := by
  rcases k1 with ⟨c1, rfl, f1⟩ | ⟨c1, rfl, f1⟩ <;> rcases k2 with ⟨c2, rfl, f2⟩ | ⟨c2, rfl, f2⟩
  · rw [e2, f1, f2, e1, hR]
    exact ⟨rfl, rfl⟩
  · exact absurd (hCD.mp c1) c2
  · exact absurd (hCD.mpr c2) c1
  · rw [e2, f1, f2, e1, hR]
    exact ⟨rfl, rfl⟩
theorem zi1 {x : Int32} : x + 1 - 1 = x := Int32.add_sub_cancel x 1
/-- a count and what is told in arrays at its place -/
noncomputable def phA (p b : Nat) (C : Prop) (l : List (Nat × Int32)) (h : zH) (w : Option Value) (h2 : zH) : Prop := (C ∧ w = some (tF h p b) ∧ tF h2 p b = .int (tvI (tF h p b) + 1) ∧ ∀ q ∈ l, tA h2 q.1 = fun j => if j = (tvI (tF h p b)).toNatClampNeg then q.2 else tA h q.1 j) ∨ (¬ C ∧ w = some (.int (-1)) ∧ tF h2 p b = tF h p b ∧ ∀ q ∈ l, tA h2 q.1 = tA h q.1)
theorem phA_a {p b q c : Nat} {C D : Prop} {l m : List (Nat × Int32)} {h h2 h3 : zH} {w w2 : Option Value} (hR : tF h p b = tF h q c) (e1 : tF h2 q c = tF h q c) (e2 : tF h3 p b = tF h2 p b) (hCD : C ↔ D) (k1 : phA p b C l h w h2) (k2 : phA q c D m h2 w2 h3) : w2 = w ∧ tF h3 p b = tF h3 q c ∧ ∀ P Q v, (P, v) ∈ l → (Q, v) ∈ m → tA h P = tA h Q → tA h2 Q = tA h Q → tA h3 P = tA h2 P → tA h3 P = tA h3 Q := by
  rcases k1 with ⟨c1, rfl, f1, g1⟩ | ⟨c1, rfl, f1, g1⟩ <;> rcases k2 with ⟨c2, rfl, f2, g2⟩ | ⟨c2, rfl, f2, g2⟩
  · refine ⟨by rw [e1, hR], by rw [e2, f1, f2, e1, hR], fun P Q v hP hQ a1 a2 a3 => ?_⟩
    rw [a3, g1 _ hP, g2 _ hQ, e1, ← hR]
    dsimp only
    rw [a1, a2]
  · exact absurd (hCD.mp c1) c2
  · exact absurd (hCD.mpr c2) c1
  · refine ⟨rfl, by rw [e2, f1, f2, e1, hR], fun P Q v hP hQ a1 a2 a3 => ?_⟩
    have h1 := g1 _ hP
    have h2 := g2 _ hQ
    dsimp only at h1 h2
    rw [a3, h1, h2, a1, a2]
theorem tA_st {h : zH} {r i : Nat} {x : Int32} {kd : Nat} {z : Int32} (hf : tIn h r kd z) {f : Nat → Int32} (k : tA h r = f) : tA (tSA h r i x) r = fun j => if j = i then x else f j := by
  rw [tA_tSA hf.cell]
  funext j
  dsimp only
  rw [k]
  by_cases e : j = i
  · rw [if_pos ⟨rfl, e⟩, if_pos e]
  · rw [if_neg (fun z => e z.2), if_neg e]
theorem tA_n {h : zH} {r i p : Nat} {x : Int32} {f : Nat → Int32} (hn : p ≠ r) (k : tA h p = f) : tA (tSA h r i x) p = f := by rw [tA_nz hn]; exact k
theorem tA_ff {h : zH} {r b p : Nat} {w : Value} {f : Nat → Int32} (k : tA h p = f) : tA (tSF h r b w) p = f := by rw [tA_tSF]; exact k
theorem tA_jj {h : zH} {r i p : Nat} {x : Int64} {f : Nat → Int32} (k : tA h p = f) : tA (tSJ h r i x) p = f := by rw [tA_tSJ]; exact k
theorem tA_oo {h : zH} {r i p : Nat} {x : Option Nat} {f : Nat → Int32} (k : tA h p = f) : tA (tSO h r i x) p = f := by rw [tA_tSO]; exact k
noncomputable def R_now (h : zH) : Prop := tF h 0 14 = tF h 111 1
noncomputable def ph_clock (p b : Nat) (month : Int32) (h : zH) (w : Option Value) (h2 : zH) : Prop := (((tvI (tF h p b)).toInt ≤ month.toInt ∧ month.toInt ≤ 599) ∧ w = some (.int 1) ∧ tF h2 p b = .int month) ∨ (¬ ((tvI (tF h p b)).toInt ≤ month.toInt ∧ month.toInt ≤ 599) ∧ w = some (.int 0) ∧ tF h2 p b = tF h p b)
theorem f_isWithin {G : zG} (hG : G.1 = zProg) {h : zH} {n lo hi : Int32} {LO HI : Int} (hlo : lo.toInt = LO) (hhi : hi.toInt = HI) : tC zTt G 158 [.int n, .int lo, .int hi] h (fun w h2 => tBo (LO ≤ n.toInt ∧ n.toInt ≤ HI) w ∧ h2 = h) := by
  refine tC_in (by rw [hG]; rfl) (fun dp => ?_)
  refine tw_iload rfl rfl ?_
  refine tw_iload rfl rfl ?_
  refine tw_ic_lt rfl (fun q1 => ?_) (fun q1 => ?_)
  · try dsimp only [tvI_i, tvJ_j, tvR_r] at q1
    refine tw_push rfl ?_
    exact tw_iret rfl ⟨Or.inr ⟨by omega, rfl⟩, rfl⟩
  · try dsimp only [tvI_i, tvJ_j, tvR_r] at q1
    refine tw_iload rfl rfl ?_
    refine tw_iload rfl rfl ?_
    refine tw_ic_gt rfl (fun q2 => ?_) (fun q2 => ?_)
    · try dsimp only [tvI_i, tvJ_j, tvR_r] at q2
      refine tw_push rfl ?_
      exact tw_iret rfl ⟨Or.inr ⟨by omega, rfl⟩, rfl⟩
    · try dsimp only [tvI_i, tvJ_j, tvR_r] at q2
      refine tw_push rfl ?_
      refine tw_goto rfl ?_
      exact tw_iret rfl ⟨Or.inl ⟨by omega, rfl⟩, rfl⟩
theorem f_isMonth {G : zG} (hG : G.1 = zProg) {h : zH} {n : Int32} : tC zTt G 159 [.int n] h (fun w h2 => tBo (0 ≤ n.toInt ∧ n.toInt ≤ 599) w ∧ h2 = h) := by
  refine tC_in (by rw [hG]; rfl) (fun dp => ?_)
  refine tw_iload rfl rfl ?_
  refine tw_push rfl ?_
  refine tw_push rfl ?_
  refine tw_stat3 rfl (f_isWithin hG (LO := 0) (HI := 599) (by decide) (by decide)) (fun w9 h9 p3 => ?_)
  obtain ⟨⟨p3, rfl⟩ | ⟨p3, rfl⟩, rfl⟩ := p3
  · try dsimp only [tvI_i, tvJ_j, tvR_r] at p3
    exact tw_iret rfl ⟨Or.inl ⟨p3, rfl⟩, rfl⟩
  · try dsimp only [tvI_i, tvJ_j, tvR_r] at p3
    exact tw_iret rfl ⟨Or.inr ⟨p3, rfl⟩, rfl⟩
theorem f_clock {G : zG} (hG : G.1 = zProg) {h : zH} {month : Int32} (hs : tSh h) (hk : 0 ≤ (tvI (tF h 0 14)).toInt) : tC zTt G 110 [.ref 0, .int month] h (ph_clock 0 14 month h) := by
  refine tC_in (by rw [hG]; rfl) (fun dp => ?_)
  refine tw_iload rfl rfl ?_
  refine tw_stat1 rfl (f_isMonth hG) (fun w9 h9 p4 => ?_)
  obtain ⟨⟨p4, rfl⟩ | ⟨p4, rfl⟩, rfl⟩ := p4
  · try dsimp only [tvI_i, tvJ_j, tvR_r] at p4
    refine tw_if_eq rfl (fun z => absurd z (by decide)) (fun _ => ?_)
    refine tw_iload rfl rfl ?_
    refine tw_aload rfl rfl ?_
    refine tw_getS rfl (hi_0_14 hs) ?_
    refine tw_ic_ge rfl (fun q5 => ?_) (fun q5 => ?_)
    · try dsimp only [tvI_i, tvJ_j, tvR_r] at q5
      refine tw_aload rfl rfl ?_
      refine tw_iload rfl rfl ?_
      refine tw_put rfl (fun f6 => ?_)
      refine tw_push rfl ?_
      exact tw_iret rfl (Or.inl ⟨by omega, rfl, (tF_same f6)⟩)
    · try dsimp only [tvI_i, tvJ_j, tvR_r] at q5
      refine tw_push rfl ?_
      exact tw_iret rfl (Or.inr ⟨by omega, rfl, rfl⟩)
  · try dsimp only [tvI_i, tvJ_j, tvR_r] at p4
    refine tw_if_eq rfl (fun _ => ?_) (fun z => absurd z (by decide))
    refine tw_push rfl ?_
    exact tw_iret rfl (Or.inr ⟨by omega, rfl, rfl⟩)
theorem f_in {G : zG} (hG : G.1 = zProg) {h : zH} {x lo hi : Int64} {X LO HI : Int} (hx : x.toInt = X) (hlo : lo.toInt = LO) (hhi : hi.toInt = HI) : tC zTt G 171 [.long x, .long lo, .long hi] h (fun w h2 => tBo (LO ≤ X ∧ X ≤ HI) w ∧ h2 = h) := by
  refine tC_in (by rw [hG]; rfl) (fun dp => ?_)
  refine tw_lload rfl rfl ?_
  refine tw_lload rfl rfl ?_
  refine tw_lc_lt rfl rfl (fun q7 => ?_) (fun q7 => ?_)
  · try dsimp only [tvI_i, tvJ_j, tvR_r] at q7
    refine tw_push rfl ?_
    exact tw_iret rfl ⟨Or.inr ⟨by omega, rfl⟩, rfl⟩
  · try dsimp only [tvI_i, tvJ_j, tvR_r] at q7
    refine tw_lload rfl rfl ?_
    refine tw_lload rfl rfl ?_
    refine tw_lc_gt rfl rfl (fun q8 => ?_) (fun q8 => ?_)
    · try dsimp only [tvI_i, tvJ_j, tvR_r] at q8
      refine tw_push rfl ?_
      exact tw_iret rfl ⟨Or.inr ⟨by omega, rfl⟩, rfl⟩
    · try dsimp only [tvI_i, tvJ_j, tvR_r] at q8
      refine tw_push rfl ?_
      refine tw_goto rfl ?_
      exact tw_iret rfl ⟨Or.inl ⟨by omega, rfl⟩, rfl⟩
theorem g_clock {G : zG} (hG : G.1 = zProg) {h : zH} {month : Int32} (hs : tSh h) : tC zTt G 174 [.ref 111, .int month] h (ph_clock 111 1 month h) := by
  refine tC_in (by rw [hG]; rfl) (fun dp => ?_)
  refine tw_iload rfl rfl ?_
  refine tw_i2l rfl ?_
  refine tw_aload rfl rfl ?_
  refine tw_getS rfl (hi_111_1 hs) ?_
  refine tw_i2l rfl ?_
  refine tw_push rfl ?_
  refine tw_stat3 rfl (f_in hG   (HI := 599) (Int32.toInt_toInt64 _) (Int32.toInt_toInt64 _) (by decide)) (fun w9 h9 p9 => ?_)
  obtain ⟨⟨p9, rfl⟩ | ⟨p9, rfl⟩, rfl⟩ := p9
  · try dsimp only [tvI_i, tvJ_j, tvR_r] at p9
    refine tw_if_ne rfl (fun _ => ?_) (fun z => absurd z (by decide))
    refine tw_aload rfl rfl ?_
    refine tw_iload rfl rfl ?_
    refine tw_put rfl (fun f10 => ?_)
    refine tw_push rfl ?_
    exact tw_iret rfl (Or.inl ⟨by omega, rfl, (tF_same f10)⟩)
  · try dsimp only [tvI_i, tvJ_j, tvR_r] at p9
    refine tw_if_ne rfl (fun z => absurd z (by decide)) (fun _ => ?_)
    refine tw_push rfl ?_
    exact tw_iret rfl (Or.inr ⟨by omega, rfl, rfl⟩)
theorem a_clock {month : Int32} {h h2 h3 : zH} {w w2 : Option Value} (hR : R_now h) (e1 : tF h2 111 1 = tF h 111 1) (e2 : tF h3 0 14 = tF h2 0 14) (k1 : ph_clock 0 14 month h w h2) (k2 : ph_clock 111 1 month h2 w2 h3) : w2 = w ∧ R_now h3 := by
  unfold R_now at *
  unfold ph_clock at k1 k2
  rw [e1, ← hR] at k2
  rw [e2]
  rcases k1 with ⟨c1, rfl, f1⟩ | ⟨c1, rfl, f1⟩ <;> rcases k2 with ⟨c2, rfl, f2⟩ | ⟨c2, rfl, f2⟩
  · exact ⟨rfl, f1.trans f2.symm⟩
  · exact absurd c1 c2
  · exact absurd c2 c1
  · exact ⟨rfl, f1.trans f2.symm⟩
noncomputable def R_rw (h : zH) : Prop := tRw h
noncomputable def R_kinds (h : zH) : Prop := tF h 1 6 = tF h 111 3
theorem f_isFirm {G : zG} (hG : G.1 = zProg) {h : zH} {n : Int32} : tC zTt G 160 [.int n] h (fun w h2 => tBo (0 ≤ n.toInt ∧ n.toInt ≤ 3) w ∧ h2 = h) := by
  refine tC_in (by rw [hG]; rfl) (fun dp => ?_)
  refine tw_iload rfl rfl ?_
  refine tw_push rfl ?_
  refine tw_push rfl ?_
  refine tw_stat3 rfl (f_isWithin hG (LO := 0) (HI := 3) (by decide) (by decide)) (fun w9 h9 p11 => ?_)
  obtain ⟨⟨p11, rfl⟩ | ⟨p11, rfl⟩, rfl⟩ := p11
  · try dsimp only [tvI_i, tvJ_j, tvR_r] at p11
    exact tw_iret rfl ⟨Or.inl ⟨p11, rfl⟩, rfl⟩
  · try dsimp only [tvI_i, tvJ_j, tvR_r] at p11
    exact tw_iret rfl ⟨Or.inr ⟨p11, rfl⟩, rfl⟩
theorem f_fill {G : zG} (hG : G.1 = zProg) {h : zH} {r : Nat} {a b c : Int32} : tC zTt G 30 [.ref r, .int a, .int b, .int c] h (fun w h2 => w = none ∧ h2 = tSA (tSA (tSA h r 0 a) r 1 b) r 2 c ∧ tIn h r 0 0 ∧ tIn (tSA h r 0 a) r 0 1 ∧ tIn (tSA (tSA h r 0 a) r 1 b) r 0 2) := by
  refine tC_in (by rw [hG]; rfl) (fun dp => ?_)
  refine tw_aload rfl rfl ?_
  refine tw_push rfl ?_
  refine tw_iload rfl rfl ?_
  refine tw_iast rfl (fun f12 => ?_)
  refine tw_aload rfl rfl ?_
  refine tw_push rfl ?_
  refine tw_iload rfl rfl ?_
  refine tw_iast rfl (fun f13 => ?_)
  refine tw_aload rfl rfl ?_
  refine tw_push rfl ?_
  refine tw_iload rfl rfl ?_
  refine tw_iast rfl (fun f14 => ?_)
  exact tw_vret rfl ⟨rfl, rfl, f12, f13, f14⟩
theorem wret1 {h : zH} {p b : Nat} (k : tF h p b = .int (tvI (tF h p b))) : some (Value.int (tvI (tF h p b) + 1 - 1)) = some (tF h p b) := by rw [zi1]; exact congrArg some k.symm
theorem f_addKind {G : zG} (hG : G.1 = zProg) {h : zH} {firm : Int32} {a : Int32} {b : Int32} {c : Int32} (hs : tSh h) (hr : tRw h) : tC zTt G 28 [.ref 1, .int firm, .int a, .int b, .int c] h (phN 1 6 ((tvI (tF h 1 6)).toInt ≠ 8) h) := by
  refine tC_in (by rw [hG]; rfl) (fun dp => ?_)
  refine tw_aload rfl rfl ?_
  refine tw_getS rfl (hi_1_6 hs) ?_
  refine tw_push rfl ?_
  refine tw_ic_ne rfl (fun q15 => ?_) (fun q15 => ?_)
  · try dsimp only [tvI_i, tvJ_j, tvR_r] at q15
    have q15i := zneq (Y := 8) (by decide) q15
    refine tw_aload rfl rfl ?_
    refine tw_getS rfl (hs_1_1 hs) ?_
    refine tw_aload rfl rfl ?_
    refine tw_getS rfl (hi_1_6 hs) ?_
    refine tw_iload rfl rfl ?_
    refine tw_iast rfl (fun f16 => ?_)
    refine tw_aload rfl rfl ?_
    refine tw_getS rfl (hs_1_2 (tSh_SA hs)) ?_
    refine tw_aload rfl rfl ?_
    refine tw_getS rfl (tF_a (hi_1_6 hs)) ?_
    refine tw_aaldS rfl (fun z => tRw_at (tRw_A hr) (p := 4) (q := 5) (by decide) z) ?_
    refine tw_iload rfl rfl ?_
    refine tw_iload rfl rfl ?_
    refine tw_iload rfl rfl ?_
    refine tw_stat4 rfl (f_fill hG) (fun wp18 hp18 p18 => ?_)
    obtain ⟨rfl, rfl, p18a, p18b, p18c⟩ := p18
    refine tw_aload rfl rfl ?_
    refine tw_dup rfl ?_
    refine tw_getS rfl (tF_a (tF_a (tF_a (tF_a (hi_1_6 hs))))) ?_
    refine tw_dup_x1 rfl ?_
    refine tw_push rfl ?_
    refine tw_iadd rfl ?_
    refine tw_put rfl (fun f19 => ?_)
    exact tw_iret rfl (Or.inl ⟨by omega, congrArg some (hi_1_6 hs).symm, (tF_same f19)⟩)
  · try dsimp only [tvI_i, tvJ_j, tvR_r] at q15
    have q15i := zeqi (Y := 8) (by decide) q15
    refine tw_push rfl ?_
    exact tw_iret rfl (Or.inr ⟨by omega, rfl, rfl⟩)
theorem f_kind {G : zG} (hG : G.1 = zProg) {h : zH} {firm : Int32} {a : Int32} {b : Int32} {c : Int32} (hs : tSh h) (hr : tRw h) : tC zTt G 113 [.ref 0, .int firm, .int a, .int b, .int c] h (phN 1 6 (((0 ≤ firm.toInt ∧ firm.toInt ≤ 3) ∧ (0 ≤ a.toInt ∧ a.toInt ≤ 99999) ∧ (0 ≤ b.toInt ∧ b.toInt ≤ 99999) ∧ (0 ≤ c.toInt ∧ c.toInt ≤ 99999)) ∧ (tvI (tF h 1 6)).toInt ≠ 8) h) := by
  refine tC_in (by rw [hG]; rfl) (fun dp => ?_)
  refine tw_iload rfl rfl ?_
  refine tw_stat1 rfl (f_isFirm hG) (fun w9 h9 p20 => ?_)
  obtain ⟨⟨p20, rfl⟩ | ⟨p20, rfl⟩, rfl⟩ := p20
  · try dsimp only [tvI_i, tvJ_j, tvR_r] at p20
    refine tw_if_eq rfl (fun z => absurd z (by decide)) (fun _ => ?_)
    refine tw_iload rfl rfl ?_
    refine tw_push rfl ?_
    refine tw_push rfl ?_
    refine tw_stat3 rfl (f_isWithin hG (LO := 0) (HI := 99999) (by decide) (by decide)) (fun w9 h9 p21 => ?_)
    obtain ⟨⟨p21, rfl⟩ | ⟨p21, rfl⟩, rfl⟩ := p21
    · try dsimp only [tvI_i, tvJ_j, tvR_r] at p21
      refine tw_if_eq rfl (fun z => absurd z (by decide)) (fun _ => ?_)
      refine tw_iload rfl rfl ?_
      refine tw_push rfl ?_
      refine tw_push rfl ?_
      refine tw_stat3 rfl (f_isWithin hG (LO := 0) (HI := 99999) (by decide) (by decide)) (fun w9 h9 p22 => ?_)
      obtain ⟨⟨p22, rfl⟩ | ⟨p22, rfl⟩, rfl⟩ := p22
      · try dsimp only [tvI_i, tvJ_j, tvR_r] at p22
        refine tw_if_eq rfl (fun z => absurd z (by decide)) (fun _ => ?_)
        refine tw_iload rfl rfl ?_
        refine tw_push rfl ?_
        refine tw_push rfl ?_
        refine tw_stat3 rfl (f_isWithin hG (LO := 0) (HI := 99999) (by decide) (by decide)) (fun w9 h9 p23 => ?_)
        obtain ⟨⟨p23, rfl⟩ | ⟨p23, rfl⟩, rfl⟩ := p23
        · try dsimp only [tvI_i, tvJ_j, tvR_r] at p23
          refine tw_if_eq rfl (fun z => absurd z (by decide)) (fun _ => ?_)
          refine tw_push rfl ?_
          refine tw_goto rfl ?_
          refine tw_istore rfl ?_
          refine tw_iload rfl rfl ?_
          refine tw_if_eq rfl (fun z => absurd z (by decide)) (fun _ => ?_)
          refine tw_aload rfl rfl ?_
          refine tw_getS rfl (hs_0_0 hs) ?_
          refine tw_iload rfl rfl ?_
          refine tw_iload rfl rfl ?_
          refine tw_iload rfl rfl ?_
          refine tw_iload rfl rfl ?_
          refine tw_virt4 rfl (f_addKind hG  hs hr) (fun w9 h9 p24 => ?_)
          rcases p24 with ⟨p24, rfl, p24e⟩ | ⟨p24, rfl, p24e⟩
          · refine tw_goto rfl ?_
            exact tw_iret rfl (Or.inl ⟨by omega, congrArg some (hi_1_6 hs).symm, p24e⟩)
          · refine tw_goto rfl ?_
            exact tw_iret rfl (Or.inr ⟨by omega, rfl, p24e⟩)
        · try dsimp only [tvI_i, tvJ_j, tvR_r] at p23
          refine tw_if_eq rfl (fun _ => ?_) (fun z => absurd z (by decide))
          refine tw_push rfl ?_
          refine tw_istore rfl ?_
          refine tw_iload rfl rfl ?_
          refine tw_if_eq rfl (fun _ => ?_) (fun z => absurd z (by decide))
          refine tw_push rfl ?_
          exact tw_iret rfl (Or.inr ⟨by omega, rfl, rfl⟩)
      · try dsimp only [tvI_i, tvJ_j, tvR_r] at p22
        refine tw_if_eq rfl (fun _ => ?_) (fun z => absurd z (by decide))
        refine tw_push rfl ?_
        refine tw_istore rfl ?_
        refine tw_iload rfl rfl ?_
        refine tw_if_eq rfl (fun _ => ?_) (fun z => absurd z (by decide))
        refine tw_push rfl ?_
        exact tw_iret rfl (Or.inr ⟨by omega, rfl, rfl⟩)
    · try dsimp only [tvI_i, tvJ_j, tvR_r] at p21
      refine tw_if_eq rfl (fun _ => ?_) (fun z => absurd z (by decide))
      refine tw_push rfl ?_
      refine tw_istore rfl ?_
      refine tw_iload rfl rfl ?_
      refine tw_if_eq rfl (fun _ => ?_) (fun z => absurd z (by decide))
      refine tw_push rfl ?_
      exact tw_iret rfl (Or.inr ⟨by omega, rfl, rfl⟩)
  · try dsimp only [tvI_i, tvJ_j, tvR_r] at p20
    refine tw_if_eq rfl (fun _ => ?_) (fun z => absurd z (by decide))
    refine tw_push rfl ?_
    refine tw_istore rfl ?_
    refine tw_iload rfl rfl ?_
    refine tw_if_eq rfl (fun _ => ?_) (fun z => absurd z (by decide))
    refine tw_push rfl ?_
    exact tw_iret rfl (Or.inr ⟨by omega, rfl, rfl⟩)
theorem g_kind {G : zG} (hG : G.1 = zProg) {h : zH} {firm : Int32} {a : Int32} {b : Int32} {c : Int32} (hs : tSh h)  : tC zTt G 181 [.ref 111, .int firm, .int a, .int b, .int c] h (phN 111 3 (((0 ≤ firm.toInt ∧ firm.toInt ≤ 3) ∧ (0 ≤ a.toInt ∧ a.toInt ≤ 99999) ∧ (0 ≤ b.toInt ∧ b.toInt ≤ 99999) ∧ (0 ≤ c.toInt ∧ c.toInt ≤ 99999)) ∧ (tvI (tF h 111 3)).toInt ≠ 8) h) := by
  refine tC_in (by rw [hG]; rfl) (fun dp => ?_)
  refine tw_aload rfl rfl ?_
  refine tw_getS rfl (hi_111_3 hs) ?_
  refine tw_push rfl ?_
  refine tw_ic_eq rfl (fun q25 => ?_) (fun q25 => ?_)
  · try dsimp only [tvI_i, tvJ_j, tvR_r] at q25
    have q25i := zeqi (Y := 8) (by decide) q25
    refine tw_push rfl ?_
    exact tw_iret rfl (Or.inr ⟨by omega, rfl, rfl⟩)
  · try dsimp only [tvI_i, tvJ_j, tvR_r] at q25
    have q25i := zneq (Y := 8) (by decide) q25
    refine tw_iload rfl rfl ?_
    refine tw_i2l rfl ?_
    refine tw_push rfl ?_
    refine tw_push rfl ?_
    refine tw_stat3 rfl (f_in hG  (LO := 0) (HI := 3) (Int32.toInt_toInt64 _) (by decide) (by decide)) (fun w9 h9 p26 => ?_)
    obtain ⟨⟨p26, rfl⟩ | ⟨p26, rfl⟩, rfl⟩ := p26
    · try dsimp only [tvI_i, tvJ_j, tvR_r] at p26
      refine tw_if_eq rfl (fun z => absurd z (by decide)) (fun _ => ?_)
      refine tw_iload rfl rfl ?_
      refine tw_i2l rfl ?_
      refine tw_push rfl ?_
      refine tw_push rfl ?_
      refine tw_stat3 rfl (f_in hG  (LO := 0) (HI := 99999) (Int32.toInt_toInt64 _) (by decide) (by decide)) (fun w9 h9 p27 => ?_)
      obtain ⟨⟨p27, rfl⟩ | ⟨p27, rfl⟩, rfl⟩ := p27
      · try dsimp only [tvI_i, tvJ_j, tvR_r] at p27
        refine tw_if_eq rfl (fun z => absurd z (by decide)) (fun _ => ?_)
        refine tw_iload rfl rfl ?_
        refine tw_i2l rfl ?_
        refine tw_push rfl ?_
        refine tw_push rfl ?_
        refine tw_stat3 rfl (f_in hG  (LO := 0) (HI := 99999) (Int32.toInt_toInt64 _) (by decide) (by decide)) (fun w9 h9 p28 => ?_)
        obtain ⟨⟨p28, rfl⟩ | ⟨p28, rfl⟩, rfl⟩ := p28
        · try dsimp only [tvI_i, tvJ_j, tvR_r] at p28
          refine tw_if_eq rfl (fun z => absurd z (by decide)) (fun _ => ?_)
          refine tw_iload rfl rfl ?_
          refine tw_i2l rfl ?_
          refine tw_push rfl ?_
          refine tw_push rfl ?_
          refine tw_stat3 rfl (f_in hG  (LO := 0) (HI := 99999) (Int32.toInt_toInt64 _) (by decide) (by decide)) (fun w9 h9 p29 => ?_)
          obtain ⟨⟨p29, rfl⟩ | ⟨p29, rfl⟩, rfl⟩ := p29
          · try dsimp only [tvI_i, tvJ_j, tvR_r] at p29
            refine tw_if_ne rfl (fun _ => ?_) (fun z => absurd z (by decide))
            refine tw_aload rfl rfl ?_
            refine tw_getS rfl (hs_111_9 hs) ?_
            refine tw_aload rfl rfl ?_
            refine tw_getS rfl (hi_111_3 hs) ?_
            refine tw_iload rfl rfl ?_
            refine tw_iast rfl (fun f30 => ?_)
            refine tw_aload rfl rfl ?_
            refine tw_getS rfl (hs_111_10 (tSh_SA hs)) ?_
            refine tw_push rfl ?_
            refine tw_aload rfl rfl ?_
            refine tw_getS rfl (tF_a (hi_111_3 hs)) ?_
            refine tw_imul rfl ?_
            refine tw_iload rfl rfl ?_
            refine tw_iast rfl (fun f31 => ?_)
            refine tw_aload rfl rfl ?_
            refine tw_getS rfl (hs_111_10 (tSh_SA (tSh_SA hs))) ?_
            refine tw_push rfl ?_
            refine tw_aload rfl rfl ?_
            refine tw_getS rfl (tF_a (tF_a (hi_111_3 hs))) ?_
            refine tw_imul rfl ?_
            refine tw_push rfl ?_
            refine tw_iadd rfl ?_
            refine tw_iload rfl rfl ?_
            refine tw_iast rfl (fun f32 => ?_)
            refine tw_aload rfl rfl ?_
            refine tw_getS rfl (hs_111_10 (tSh_SA (tSh_SA (tSh_SA hs)))) ?_
            refine tw_push rfl ?_
            refine tw_aload rfl rfl ?_
            refine tw_getS rfl (tF_a (tF_a (tF_a (hi_111_3 hs)))) ?_
            refine tw_imul rfl ?_
            refine tw_push rfl ?_
            refine tw_iadd rfl ?_
            refine tw_iload rfl rfl ?_
            refine tw_iast rfl (fun f33 => ?_)
            refine tw_aload rfl rfl ?_
            refine tw_dup rfl ?_
            refine tw_getS rfl (tF_a (tF_a (tF_a (tF_a (hi_111_3 hs))))) ?_
            refine tw_push rfl ?_
            refine tw_iadd rfl ?_
            refine tw_put rfl (fun f34 => ?_)
            refine tw_aload rfl rfl ?_
            refine tw_getS rfl (tF_same f34) ?_
            refine tw_push rfl ?_
            refine tw_isub rfl ?_
            exact tw_iret rfl (Or.inl ⟨by omega, wret1 (hi_111_3 hs), (tF_same f34)⟩)
          · try dsimp only [tvI_i, tvJ_j, tvR_r] at p29
            refine tw_if_ne rfl (fun z => absurd z (by decide)) (fun _ => ?_)
            refine tw_push rfl ?_
            exact tw_iret rfl (Or.inr ⟨by omega, rfl, rfl⟩)
        · try dsimp only [tvI_i, tvJ_j, tvR_r] at p28
          refine tw_if_eq rfl (fun _ => ?_) (fun z => absurd z (by decide))
          refine tw_push rfl ?_
          exact tw_iret rfl (Or.inr ⟨by omega, rfl, rfl⟩)
      · try dsimp only [tvI_i, tvJ_j, tvR_r] at p27
        refine tw_if_eq rfl (fun _ => ?_) (fun z => absurd z (by decide))
        refine tw_push rfl ?_
        exact tw_iret rfl (Or.inr ⟨by omega, rfl, rfl⟩)
    · try dsimp only [tvI_i, tvJ_j, tvR_r] at p26
      refine tw_if_eq rfl (fun _ => ?_) (fun z => absurd z (by decide))
      refine tw_push rfl ?_
      exact tw_iret rfl (Or.inr ⟨by omega, rfl, rfl⟩)
theorem a_kind {firm : Int32} {a : Int32} {b : Int32} {c : Int32} {h h2 h3 : zH} {w w2 : Option Value}  (hR : R_kinds h) (e1 : tF h2 111 3 = tF h 111 3) (e2 : tF h3 1 6 = tF h2 1 6) (k1 : phN 1 6 (((0 ≤ firm.toInt ∧ firm.toInt ≤ 3) ∧ (0 ≤ a.toInt ∧ a.toInt ≤ 99999) ∧ (0 ≤ b.toInt ∧ b.toInt ≤ 99999) ∧ (0 ≤ c.toInt ∧ c.toInt ≤ 99999)) ∧ (tvI (tF h 1 6)).toInt ≠ 8) h w h2) (k2 : phN 111 3 (((0 ≤ firm.toInt ∧ firm.toInt ≤ 3) ∧ (0 ≤ a.toInt ∧ a.toInt ≤ 99999) ∧ (0 ≤ b.toInt ∧ b.toInt ≤ 99999) ∧ (0 ≤ c.toInt ∧ c.toInt ≤ 99999)) ∧ (tvI (tF h2 111 3)).toInt ≠ 8) h2 w2 h3) : w2 = w ∧ R_kinds h3 := by
  refine phN_a hR e1 e2 ?_ k1 k2
  have hR2 := hR
  unfold R_kinds at hR2
  rw [e1, ← hR2]
noncomputable def R_people (h : zH) : Prop := tF h 36 2 = tF h 111 2
theorem f_addPerson {G : zG} (hG : G.1 = zProg) {h : zH} {firm : Int32} (hs : tSh h) : tC zTt G 16 [.ref 36, .int firm] h (phN 36 2 ((tvI (tF h 36 2)).toInt ≠ 60) h) := by
  refine tC_in (by rw [hG]; rfl) (fun dp => ?_)
  refine tw_aload rfl rfl ?_
  refine tw_getS rfl (hi_36_2 hs) ?_
  refine tw_push rfl ?_
  refine tw_ic_ne rfl (fun q35 => ?_) (fun q35 => ?_)
  · try dsimp only [tvI_i, tvJ_j, tvR_r] at q35
    have q35i := zneq (Y := 60) (by decide) q35
    refine tw_aload rfl rfl ?_
    refine tw_getS rfl (hs_36_0 hs) ?_
    refine tw_aload rfl rfl ?_
    refine tw_getS rfl (hi_36_2 hs) ?_
    refine tw_iload rfl rfl ?_
    refine tw_iast rfl (fun f36 => ?_)
    refine tw_aload rfl rfl ?_
    refine tw_dup rfl ?_
    refine tw_getS rfl (tF_a (hi_36_2 hs)) ?_
    refine tw_dup_x1 rfl ?_
    refine tw_push rfl ?_
    refine tw_iadd rfl ?_
    refine tw_put rfl (fun f37 => ?_)
    exact tw_iret rfl (Or.inl ⟨by omega, congrArg some (hi_36_2 hs).symm, (tF_same f37)⟩)
  · try dsimp only [tvI_i, tvJ_j, tvR_r] at q35
    have q35i := zeqi (Y := 60) (by decide) q35
    refine tw_push rfl ?_
    exact tw_iret rfl (Or.inr ⟨by omega, rfl, rfl⟩)
theorem f_person {G : zG} (hG : G.1 = zProg) {h : zH} {firm : Int32} (hs : tSh h) : tC zTt G 111 [.ref 0, .int firm] h (phN 36 2 ((-1 ≤ firm.toInt ∧ firm.toInt ≤ 3) ∧ (tvI (tF h 36 2)).toInt ≠ 60) h) := by
  refine tC_in (by rw [hG]; rfl) (fun dp => ?_)
  refine tw_iload rfl rfl ?_
  refine tw_push rfl ?_
  refine tw_ic_eq rfl (fun q38 => ?_) (fun q38 => ?_)
  · try dsimp only [tvI_i, tvJ_j, tvR_r] at q38
    have q38i := zeqi (Y := (-1)) (by decide) q38
    refine tw_aload rfl rfl ?_
    refine tw_getS rfl (hs_0_1 hs) ?_
    refine tw_iload rfl rfl ?_
    refine tw_virt1 rfl (f_addPerson hG  hs) (fun w9 h9 p39 => ?_)
    rcases p39 with ⟨p39, rfl, p39e⟩ | ⟨p39, rfl, p39e⟩
    · refine tw_goto rfl ?_
      exact tw_iret rfl (Or.inl ⟨by omega, congrArg some (hi_36_2 hs).symm, p39e⟩)
    · refine tw_goto rfl ?_
      exact tw_iret rfl (Or.inr ⟨by omega, rfl, p39e⟩)
  · try dsimp only [tvI_i, tvJ_j, tvR_r] at q38
    have q38i := zneq (Y := (-1)) (by decide) q38
    refine tw_iload rfl rfl ?_
    refine tw_stat1 rfl (f_isFirm hG) (fun w9 h9 p40 => ?_)
    obtain ⟨⟨p40, rfl⟩ | ⟨p40, rfl⟩, rfl⟩ := p40
    · try dsimp only [tvI_i, tvJ_j, tvR_r] at p40
      refine tw_if_eq rfl (fun z => absurd z (by decide)) (fun _ => ?_)
      refine tw_aload rfl rfl ?_
      refine tw_getS rfl (hs_0_1 hs) ?_
      refine tw_iload rfl rfl ?_
      refine tw_virt1 rfl (f_addPerson hG  hs) (fun w9 h9 p41 => ?_)
      rcases p41 with ⟨p41, rfl, p41e⟩ | ⟨p41, rfl, p41e⟩
      · refine tw_goto rfl ?_
        exact tw_iret rfl (Or.inl ⟨by omega, congrArg some (hi_36_2 hs).symm, p41e⟩)
      · refine tw_goto rfl ?_
        exact tw_iret rfl (Or.inr ⟨by omega, rfl, p41e⟩)
    · try dsimp only [tvI_i, tvJ_j, tvR_r] at p40
      refine tw_if_eq rfl (fun _ => ?_) (fun z => absurd z (by decide))
      refine tw_push rfl ?_
      exact tw_iret rfl (Or.inr ⟨by omega, rfl, rfl⟩)
theorem g_person {G : zG} (hG : G.1 = zProg) {h : zH} {firm : Int32} (hs : tSh h)  : tC zTt G 179 [.ref 111, .int firm] h (phN 111 2 ((-1 ≤ firm.toInt ∧ firm.toInt ≤ 3) ∧ (tvI (tF h 111 2)).toInt ≠ 60) h) := by
  refine tC_in (by rw [hG]; rfl) (fun dp => ?_)
  refine tw_aload rfl rfl ?_
  refine tw_getS rfl (hi_111_2 hs) ?_
  refine tw_push rfl ?_
  refine tw_ic_eq rfl (fun q42 => ?_) (fun q42 => ?_)
  · try dsimp only [tvI_i, tvJ_j, tvR_r] at q42
    have q42i := zeqi (Y := 60) (by decide) q42
    refine tw_push rfl ?_
    exact tw_iret rfl (Or.inr ⟨by omega, rfl, rfl⟩)
  · try dsimp only [tvI_i, tvJ_j, tvR_r] at q42
    have q42i := zneq (Y := 60) (by decide) q42
    refine tw_iload rfl rfl ?_
    refine tw_i2l rfl ?_
    refine tw_push rfl ?_
    refine tw_push rfl ?_
    refine tw_stat3 rfl (f_in hG  (LO := (-1)) (HI := 3) (Int32.toInt_toInt64 _) (by decide) (by decide)) (fun w9 h9 p43 => ?_)
    obtain ⟨⟨p43, rfl⟩ | ⟨p43, rfl⟩, rfl⟩ := p43
    · try dsimp only [tvI_i, tvJ_j, tvR_r] at p43
      refine tw_if_ne rfl (fun _ => ?_) (fun z => absurd z (by decide))
      refine tw_aload rfl rfl ?_
      refine tw_getS rfl (hs_111_7 hs) ?_
      refine tw_aload rfl rfl ?_
      refine tw_getS rfl (hi_111_2 hs) ?_
      refine tw_iload rfl rfl ?_
      refine tw_iast rfl (fun f44 => ?_)
      refine tw_aload rfl rfl ?_
      refine tw_dup rfl ?_
      refine tw_getS rfl (tF_a (hi_111_2 hs)) ?_
      refine tw_push rfl ?_
      refine tw_iadd rfl ?_
      refine tw_put rfl (fun f45 => ?_)
      refine tw_aload rfl rfl ?_
      refine tw_getS rfl (tF_same f45) ?_
      refine tw_push rfl ?_
      refine tw_isub rfl ?_
      exact tw_iret rfl (Or.inl ⟨by omega, wret1 (hi_111_2 hs), (tF_same f45)⟩)
    · try dsimp only [tvI_i, tvJ_j, tvR_r] at p43
      refine tw_if_ne rfl (fun z => absurd z (by decide)) (fun _ => ?_)
      refine tw_push rfl ?_
      exact tw_iret rfl (Or.inr ⟨by omega, rfl, rfl⟩)
theorem a_person {firm : Int32} {h h2 h3 : zH} {w w2 : Option Value}  (hR : R_people h) (e1 : tF h2 111 2 = tF h 111 2) (e2 : tF h3 36 2 = tF h2 36 2) (k1 : phN 36 2 ((-1 ≤ firm.toInt ∧ firm.toInt ≤ 3) ∧ (tvI (tF h 36 2)).toInt ≠ 60) h w h2) (k2 : phN 111 2 ((-1 ≤ firm.toInt ∧ firm.toInt ≤ 3) ∧ (tvI (tF h2 111 2)).toInt ≠ 60) h2 w2 h3) : w2 = w ∧ R_people h3 := by
  refine phN_a hR e1 e2 ?_ k1 k2
  have hR2 := hR
  unfold R_people at hR2
  rw [e1, ← hR2]
noncomputable def R_cl (h : zH) : Prop := (∀ i : Nat, (i : Int) < (tvI (tF h 36 4)).toInt → ∃ r, tO h 39 i = some r) ∧ (∀ i j : Nat, (i : Int) < (tvI (tF h 36 4)).toInt → (j : Int) < (tvI (tF h 36 4)).toInt → tO h 39 i = tO h 39 j → i = j)
noncomputable def R_ckind (h : zH) : Prop := ∀ i r : Nat, (i : Int) < (tvI (tF h 36 4)).toInt → tO h 39 i = some r → tF h r 0 = .int (tA h 121 i)
noncomputable def R_ccr (h : zH) : Prop := ∀ i r : Nat, (i : Int) < (tvI (tF h 36 4)).toInt → tO h 39 i = some r → tF h r 6 = .int (tA h 127 i)
noncomputable def R_cwr (h : zH) : Prop := ∀ i r : Nat, (i : Int) < (tvI (tF h 36 4)).toInt → tO h 39 i = some r → tF h r 7 = .int (tA h 120 i)
noncomputable def R_cw0 (h : zH) : Prop := ∀ i : Nat, (tvI (tF h 36 4)).toInt ≤ (i : Int) → tA h 120 i = 0
noncomputable def R_cars (h : zH) : Prop := tF h 36 4 = tF h 111 5
theorem tF_ap {h l : zH} {p b : Nat} {w : Value} (hl : p < h.length) (k : tF h p b = w) : tF (h ++ l) p b = w := by
  unfold tF at k ⊢
  rw [List.getElem?_append_left hl]
  exact k
theorem tA_ap {h l : zH} {p : Nat} (hl : p < h.length) : tA (h ++ l) p = tA h p := by
  funext i
  unfold tA
  rw [List.getElem?_append_left hl]
theorem tO_ap {h l : zH} {p : Nat} (hl : p < h.length) : tO (h ++ l) p = tO h p := by
  funext i
  unfold tO
  rw [List.getElem?_append_left hl]
theorem tF_nw {h : zH} {a : Nat} {fs : List Value} {x : zC} {b : Nat} : tF (h ++ [.inr (a, fs), x]) h.length b = fs.getD b .null := by
  unfold tF
  rw [List.getElem?_append_right (Nat.le_refl _), Nat.sub_self]
  rfl
theorem tSh_ap {h l : zH} (hl : 182 ≤ h.length) (k : tSh h) : tSh (h ++ l) := by
  have a1 : tSr.all (fun q => Nat.blt q.1 182) = true := by decide +kernel
  have a2 : tSi.all (fun q => Nat.blt q.1 182) = true := by decide +kernel
  refine ⟨fun q hq => tF_ap ?_ (k.1 q hq), fun q hq => ?_⟩
  · have := Nat.le_of_ble_eq_true (List.all_eq_true.mp a1 q hq)
    omega
  · have := Nat.le_of_ble_eq_true (List.all_eq_true.mp a2 q hq)
    have e : tF (h ++ l) q.1 q.2 = tF h q.1 q.2 := tF_ap (by omega) rfl
    rw [e]
    exact k.2 q hq
theorem f_carInit {G : zG} (hG : G.1 = zProg) {h : zH} {k m o t : Int32} : tC zTt G 0 [.ref h.length, .int k, .int m, .int o, .int t] (h ++ [.inr (0, zcls zTt 0)]) (fun w h2 => w = none ∧ ∃ g : Nat → Int32, (∀ i, i < 12 → g i = 600) ∧ h2 = h ++ [.inr (0, [.int k, .int m, .int t, .int o, .int o, .int m, .int m, .int 0, .int 0, .int 0, .ref (h.length + 1)]), .inl (0, 12, .inl g)]) :=
  tC_of (zcar_init (d := 0) hG (fun g hg => ⟨rfl, g, hg, rfl⟩))
theorem f_hasKind {G : zG} (hG : G.1 = zProg) {h : zH} {n : Int32} (hs : tSh h) : tC zTt G 25 [.ref 1, .int n] h (fun w h2 => tBo (0 ≤ n.toInt ∧ n.toInt < (tvI (tF h 1 6)).toInt) w ∧ h2 = h) := by
  refine tC_in (by rw [hG]; rfl) (fun dp => ?_)
  refine tw_iload rfl rfl ?_
  refine tw_if_lt rfl (fun q46 => ?_) (fun q46 => ?_)
  · try dsimp only [tvI_i, tvJ_j, tvR_r] at q46
    refine tw_push rfl ?_
    exact tw_iret rfl ⟨Or.inr ⟨by omega, rfl⟩, rfl⟩
  · try dsimp only [tvI_i, tvJ_j, tvR_r] at q46
    refine tw_iload rfl rfl ?_
    refine tw_aload rfl rfl ?_
    refine tw_getS rfl (hi_1_6 hs) ?_
    refine tw_ic_ge rfl (fun q47 => ?_) (fun q47 => ?_)
    · try dsimp only [tvI_i, tvJ_j, tvR_r] at q47
      refine tw_push rfl ?_
      exact tw_iret rfl ⟨Or.inr ⟨by omega, rfl⟩, rfl⟩
    · try dsimp only [tvI_i, tvJ_j, tvR_r] at q47
      refine tw_push rfl ?_
      refine tw_goto rfl ?_
      exact tw_iret rfl ⟨Or.inl ⟨by omega, rfl⟩, rfl⟩
theorem f_hasPerson {G : zG} (hG : G.1 = zProg) {h : zH} {n : Int32} (hs : tSh h) : tC zTt G 15 [.ref 36, .int n] h (fun w h2 => tBo (0 ≤ n.toInt ∧ n.toInt < (tvI (tF h 36 2)).toInt) w ∧ h2 = h) := by
  refine tC_in (by rw [hG]; rfl) (fun dp => ?_)
  refine tw_iload rfl rfl ?_
  refine tw_if_lt rfl (fun q48 => ?_) (fun q48 => ?_)
  · try dsimp only [tvI_i, tvJ_j, tvR_r] at q48
    refine tw_push rfl ?_
    exact tw_iret rfl ⟨Or.inr ⟨by omega, rfl⟩, rfl⟩
  · try dsimp only [tvI_i, tvJ_j, tvR_r] at q48
    refine tw_iload rfl rfl ?_
    refine tw_aload rfl rfl ?_
    refine tw_getS rfl (hi_36_2 hs) ?_
    refine tw_ic_ge rfl (fun q49 => ?_) (fun q49 => ?_)
    · try dsimp only [tvI_i, tvJ_j, tvR_r] at q49
      refine tw_push rfl ?_
      exact tw_iret rfl ⟨Or.inr ⟨by omega, rfl⟩, rfl⟩
    · try dsimp only [tvI_i, tvJ_j, tvR_r] at q49
      refine tw_push rfl ?_
      refine tw_goto rfl ?_
      exact tw_iret rfl ⟨Or.inl ⟨by omega, rfl⟩, rfl⟩
theorem f_addCar {G : zG} (hG : G.1 = zProg) {h : zH} {k m o t : Int32} (hs : tSh h) (hl : 182 ≤ h.length) : tC zTt G 20 [.ref 36, .int k, .int m, .int o, .int t] h (fun w h2 => ((tvI (tF h 36 4)).toInt ≠ 300 ∧ w = some (tF h 36 4) ∧ tF h2 36 4 = .int (tvI (tF h 36 4) + 1) ∧ tO h2 39 = (fun j => if j = (tvI (tF h 36 4)).toNatClampNeg then some h.length else tO h 39 j) ∧ (∀ p b, p < h.length → ¬ (p = 36 ∧ b = 4) → tF h2 p b = tF h p b) ∧ tF h2 h.length 0 = .int k ∧ tF h2 h.length 6 = .int m ∧ tF h2 h.length 7 = .int 0) ∨ (¬ (tvI (tF h 36 4)).toInt ≠ 300 ∧ w = some (.int (-1)) ∧ h2 = h)) := by
  refine tC_in (by rw [hG]; rfl) (fun dp => ?_)
  refine tw_aload rfl rfl ?_
  refine tw_getS rfl (hi_36_4 hs) ?_
  refine tw_push rfl ?_
  refine tw_ic_ne rfl (fun q50 => ?_) (fun q50 => ?_)
  · try dsimp only [tvI_i, tvJ_j, tvR_r] at q50
    have q50i := zneq (Y := 300) (by decide) q50
    refine tw_aload rfl rfl ?_
    refine tw_getS rfl (hs_36_3 hs) ?_
    refine tw_aload rfl rfl ?_
    refine tw_getS rfl (hi_36_4 hs) ?_
    refine tw_new rfl rfl ?_
    refine tw_dup rfl ?_
    refine tw_iload rfl rfl ?_
    refine tw_iload rfl rfl ?_
    refine tw_iload rfl rfl ?_
    refine tw_iload rfl rfl ?_
    refine tw_spec4 rfl (f_carInit hG) (fun wp51 hp51 p51 => ?_)
    obtain ⟨rfl, p51g, p51h, rfl⟩ := p51
    refine tw_aast rfl (fun f52 => ?_)
    refine tw_aload rfl rfl ?_
    refine tw_dup rfl ?_
    refine tw_getS rfl (tF_o (tF_ap (by omega) (hi_36_4 hs))) ?_
    refine tw_dup_x1 rfl ?_
    refine tw_push rfl ?_
    refine tw_iadd rfl ?_
    refine tw_put rfl (fun f53 => ?_)
    refine tw_iret rfl (Or.inl ⟨by omega, congrArg some (hi_36_4 hs).symm, tF_same f53, ?_, fun p b hp hn => tF_ne hn (tF_o (tF_ap hp rfl)), (tF_ne (by omega) (tF_o tF_nw)), (tF_ne (by omega) (tF_o tF_nw)), (tF_ne (by omega) (tF_o tF_nw))⟩)
    rw [tO_tSF, tO_tSO f52.cell]
    funext j
    dsimp only
    rw [tO_ap (by omega)]
    by_cases e : j = (tvI (tF h 36 4)).toNatClampNeg
    · rw [if_pos ⟨rfl, e⟩, if_pos e]
    · rw [if_neg (fun z => e z.2), if_neg e]
  · try dsimp only [tvI_i, tvJ_j, tvR_r] at q50
    have q50i := zeqi (Y := 300) (by decide) q50
    refine tw_push rfl ?_
    exact tw_iret rfl (Or.inr ⟨by omega, rfl, rfl⟩)
noncomputable def ph_carc (k m o : Int32) (h : zH) (w : Option Value) (h2 : zH) : Prop := ((((0 ≤ k.toInt ∧ k.toInt < (tvI (tF h 1 6)).toInt) ∧ (0 ≤ m.toInt ∧ m.toInt ≤ (tvI (tF h 0 14)).toInt) ∧ (0 ≤ o.toInt ∧ o.toInt < (tvI (tF h 36 2)).toInt)) ∧ (tvI (tF h 36 4)).toInt ≠ 300) ∧ w = some (tF h 36 4) ∧ tF h2 36 4 = .int (tvI (tF h 36 4) + 1) ∧ tO h2 39 = (fun j => if j = (tvI (tF h 36 4)).toNatClampNeg then some h.length else tO h 39 j) ∧ (∀ p b, p < h.length → ¬ (p = 36 ∧ b = 4) → tF h2 p b = tF h p b) ∧ tF h2 h.length 0 = .int k ∧ tF h2 h.length 6 = .int m ∧ tF h2 h.length 7 = .int 0) ∨ (¬ (((0 ≤ k.toInt ∧ k.toInt < (tvI (tF h 1 6)).toInt) ∧ (0 ≤ m.toInt ∧ m.toInt ≤ (tvI (tF h 0 14)).toInt) ∧ (0 ≤ o.toInt ∧ o.toInt < (tvI (tF h 36 2)).toInt)) ∧ (tvI (tF h 36 4)).toInt ≠ 300) ∧ w = some (.int (-1)) ∧ h2 = h)
theorem f_car {G : zG} (hG : G.1 = zProg) {h : zH} {k m o : Int32} (hs : tSh h) (hl : 182 ≤ h.length) : tC zTt G 116 [.ref 0, .int k, .int m, .int o] h (ph_carc k m o h) := by
  refine tC_in (by rw [hG]; rfl) (fun dp => ?_)
  refine tw_aload rfl rfl ?_
  refine tw_getS rfl (hs_0_0 hs) ?_
  refine tw_iload rfl rfl ?_
  refine tw_virt1 rfl (f_hasKind hG hs) (fun w9 h9 p54 => ?_)
  obtain ⟨⟨p54, rfl⟩ | ⟨p54, rfl⟩, rfl⟩ := p54
  · try dsimp only [tvI_i, tvJ_j, tvR_r] at p54
    refine tw_if_eq rfl (fun z => absurd z (by decide)) (fun _ => ?_)
    refine tw_iload rfl rfl ?_
    refine tw_push rfl ?_
    refine tw_aload rfl rfl ?_
    refine tw_getS rfl (hi_0_14 hs) ?_
    refine tw_stat3 rfl (f_isWithin hG (LO := 0)  (by decide) rfl) (fun w9 h9 p55 => ?_)
    obtain ⟨⟨p55, rfl⟩ | ⟨p55, rfl⟩, rfl⟩ := p55
    · try dsimp only [tvI_i, tvJ_j, tvR_r] at p55
      refine tw_if_eq rfl (fun z => absurd z (by decide)) (fun _ => ?_)
      refine tw_aload rfl rfl ?_
      refine tw_getS rfl (hs_0_1 hs) ?_
      refine tw_iload rfl rfl ?_
      refine tw_virt1 rfl (f_hasPerson hG hs) (fun w9 h9 p56 => ?_)
      obtain ⟨⟨p56, rfl⟩ | ⟨p56, rfl⟩, rfl⟩ := p56
      · try dsimp only [tvI_i, tvJ_j, tvR_r] at p56
        refine tw_if_eq rfl (fun z => absurd z (by decide)) (fun _ => ?_)
        refine tw_push rfl ?_
        refine tw_goto rfl ?_
        refine tw_istore rfl ?_
        refine tw_iload rfl rfl ?_
        refine tw_if_eq rfl (fun z => absurd z (by decide)) (fun _ => ?_)
        refine tw_aload rfl rfl ?_
        refine tw_getS rfl (hs_0_1 hs) ?_
        refine tw_iload rfl rfl ?_
        refine tw_iload rfl rfl ?_
        refine tw_iload rfl rfl ?_
        refine tw_aload rfl rfl ?_
        refine tw_getS rfl (hi_0_14 hs) ?_
        refine tw_virt4 rfl (f_addCar hG hs hl) (fun w9 h9 p57 => ?_)
        rcases p57 with ⟨p57, rfl, p57e⟩ | ⟨p57, rfl, rfl⟩
        · refine tw_goto rfl ?_
          exact tw_iret rfl (Or.inl ⟨by omega, congrArg some (hi_36_4 hs).symm, p57e⟩)
        · refine tw_goto rfl ?_
          exact tw_iret rfl (Or.inr ⟨by omega, rfl, rfl⟩)
      · try dsimp only [tvI_i, tvJ_j, tvR_r] at p56
        refine tw_if_eq rfl (fun _ => ?_) (fun z => absurd z (by decide))
        refine tw_push rfl ?_
        refine tw_istore rfl ?_
        refine tw_iload rfl rfl ?_
        refine tw_if_eq rfl (fun _ => ?_) (fun z => absurd z (by decide))
        refine tw_push rfl ?_
        exact tw_iret rfl (Or.inr ⟨by omega, rfl, rfl⟩)
    · try dsimp only [tvI_i, tvJ_j, tvR_r] at p55
      refine tw_if_eq rfl (fun _ => ?_) (fun z => absurd z (by decide))
      refine tw_push rfl ?_
      refine tw_istore rfl ?_
      refine tw_iload rfl rfl ?_
      refine tw_if_eq rfl (fun _ => ?_) (fun z => absurd z (by decide))
      refine tw_push rfl ?_
      exact tw_iret rfl (Or.inr ⟨by omega, rfl, rfl⟩)
  · try dsimp only [tvI_i, tvJ_j, tvR_r] at p54
    refine tw_if_eq rfl (fun _ => ?_) (fun z => absurd z (by decide))
    refine tw_push rfl ?_
    refine tw_istore rfl ?_
    refine tw_iload rfl rfl ?_
    refine tw_if_eq rfl (fun _ => ?_) (fun z => absurd z (by decide))
    refine tw_push rfl ?_
    exact tw_iret rfl (Or.inr ⟨by omega, rfl, rfl⟩)
theorem g_isKind {G : zG} (hG : G.1 = zProg) {h : zH} {n : Int32} (hs : tSh h) (hk : 0 ≤ (tvI (tF h 111 3)).toInt) : tC zTt G 176 [.ref 111, .int n] h (fun w h2 => tBo (0 ≤ n.toInt ∧ n.toInt < (tvI (tF h 111 3)).toInt) w ∧ h2 = h) := by
  refine tC_in (by rw [hG]; rfl) (fun dp => ?_)
  refine tw_iload rfl rfl ?_
  refine tw_i2l rfl ?_
  refine tw_push rfl ?_
  refine tw_aload rfl rfl ?_
  refine tw_getS rfl (hi_111_3 hs) ?_
  refine tw_push rfl ?_
  refine tw_isub rfl ?_
  refine tw_i2l rfl ?_
  refine tw_stat3 rfl (f_in hG  (LO := 0)  (Int32.toInt_toInt64 _) (by decide) (Int32.toInt_toInt64 _)) (fun w9 h9 p58 => ?_)
  obtain ⟨⟨p58, rfl⟩ | ⟨p58, rfl⟩, rfl⟩ := p58
  · try dsimp only [tvI_i, tvJ_j, tvR_r] at p58
    exact tw_iret rfl ⟨Or.inl ⟨by have e := zsub1 hk; have := p58; omega, rfl⟩, rfl⟩
  · try dsimp only [tvI_i, tvJ_j, tvR_r] at p58
    exact tw_iret rfl ⟨Or.inr ⟨by have e := zsub1 hk; have := p58; omega, rfl⟩, rfl⟩
theorem g_isPerson {G : zG} (hG : G.1 = zProg) {h : zH} {n : Int32} (hs : tSh h) (hk : 0 ≤ (tvI (tF h 111 2)).toInt) : tC zTt G 175 [.ref 111, .int n] h (fun w h2 => tBo (0 ≤ n.toInt ∧ n.toInt < (tvI (tF h 111 2)).toInt) w ∧ h2 = h) := by
  refine tC_in (by rw [hG]; rfl) (fun dp => ?_)
  refine tw_iload rfl rfl ?_
  refine tw_i2l rfl ?_
  refine tw_push rfl ?_
  refine tw_aload rfl rfl ?_
  refine tw_getS rfl (hi_111_2 hs) ?_
  refine tw_push rfl ?_
  refine tw_isub rfl ?_
  refine tw_i2l rfl ?_
  refine tw_stat3 rfl (f_in hG  (LO := 0)  (Int32.toInt_toInt64 _) (by decide) (Int32.toInt_toInt64 _)) (fun w9 h9 p59 => ?_)
  obtain ⟨⟨p59, rfl⟩ | ⟨p59, rfl⟩, rfl⟩ := p59
  · try dsimp only [tvI_i, tvJ_j, tvR_r] at p59
    exact tw_iret rfl ⟨Or.inl ⟨by have e := zsub1 hk; have := p59; omega, rfl⟩, rfl⟩
  · try dsimp only [tvI_i, tvJ_j, tvR_r] at p59
    exact tw_iret rfl ⟨Or.inr ⟨by have e := zsub1 hk; have := p59; omega, rfl⟩, rfl⟩
theorem g_car {G : zG} (hG : G.1 = zProg) {h : zH} {k m o : Int32} (hs : tSh h) (hk3 : 0 ≤ (tvI (tF h 111 3)).toInt) (hk2 : 0 ≤ (tvI (tF h 111 2)).toInt) : tC zTt G 184 [.ref 111, .int k, .int m, .int o] h (phA 111 5 (((0 ≤ k.toInt ∧ k.toInt < (tvI (tF h 111 3)).toInt) ∧ (0 ≤ m.toInt ∧ m.toInt ≤ (tvI (tF h 111 1)).toInt) ∧ (0 ≤ o.toInt ∧ o.toInt < (tvI (tF h 111 2)).toInt)) ∧ (tvI (tF h 111 5)).toInt ≠ 300) [(121, k), (127, m)] h) := by
  refine tC_in (by rw [hG]; rfl) (fun dp => ?_)
  refine tw_aload rfl rfl ?_
  refine tw_getS rfl (hi_111_5 hs) ?_
  refine tw_push rfl ?_
  refine tw_ic_eq rfl (fun q60 => ?_) (fun q60 => ?_)
  · try dsimp only [tvI_i, tvJ_j, tvR_r] at q60
    have q60i := zeqi (Y := 300) (by decide) q60
    refine tw_push rfl ?_
    exact tw_iret rfl (Or.inr ⟨by omega, rfl, rfl, fun _ _ => rfl⟩)
  · try dsimp only [tvI_i, tvJ_j, tvR_r] at q60
    have q60i := zneq (Y := 300) (by decide) q60
    refine tw_aload rfl rfl ?_
    refine tw_iload rfl rfl ?_
    refine tw_virt1 rfl (g_isKind hG hs hk3) (fun w9 h9 p61 => ?_)
    obtain ⟨⟨p61, rfl⟩ | ⟨p61, rfl⟩, rfl⟩ := p61
    · try dsimp only [tvI_i, tvJ_j, tvR_r] at p61
      refine tw_if_eq rfl (fun z => absurd z (by decide)) (fun _ => ?_)
      refine tw_iload rfl rfl ?_
      refine tw_i2l rfl ?_
      refine tw_push rfl ?_
      refine tw_aload rfl rfl ?_
      refine tw_getS rfl (hi_111_1 hs) ?_
      refine tw_i2l rfl ?_
      refine tw_stat3 rfl (f_in hG  (LO := 0)  (Int32.toInt_toInt64 _) (by decide) (Int32.toInt_toInt64 _)) (fun w9 h9 p62 => ?_)
      obtain ⟨⟨p62, rfl⟩ | ⟨p62, rfl⟩, rfl⟩ := p62
      · try dsimp only [tvI_i, tvJ_j, tvR_r] at p62
        refine tw_if_eq rfl (fun z => absurd z (by decide)) (fun _ => ?_)
        refine tw_aload rfl rfl ?_
        refine tw_iload rfl rfl ?_
        refine tw_virt1 rfl (g_isPerson hG hs hk2) (fun w9 h9 p63 => ?_)
        obtain ⟨⟨p63, rfl⟩ | ⟨p63, rfl⟩, rfl⟩ := p63
        · try dsimp only [tvI_i, tvJ_j, tvR_r] at p63
          refine tw_if_ne rfl (fun _ => ?_) (fun z => absurd z (by decide))
          refine tw_aload rfl rfl ?_
          refine tw_getS rfl (hs_111_16 hs) ?_
          refine tw_aload rfl rfl ?_
          refine tw_getS rfl (hi_111_5 hs) ?_
          refine tw_iload rfl rfl ?_
          refine tw_iast rfl (fun f64 => ?_)
          refine tw_aload rfl rfl ?_
          refine tw_getS rfl (hs_111_17 (tSh_SA hs)) ?_
          refine tw_aload rfl rfl ?_
          refine tw_getS rfl (tF_a (hi_111_5 hs)) ?_
          refine tw_iload rfl rfl ?_
          refine tw_iast rfl (fun f65 => ?_)
          refine tw_aload rfl rfl ?_
          refine tw_getS rfl (hs_111_18 (tSh_SA (tSh_SA hs))) ?_
          refine tw_aload rfl rfl ?_
          refine tw_getS rfl (tF_a (tF_a (hi_111_5 hs))) ?_
          refine tw_aload rfl rfl ?_
          refine tw_getS rfl (tF_a (tF_a (hi_111_1 hs))) ?_
          refine tw_iast rfl (fun f66 => ?_)
          refine tw_aload rfl rfl ?_
          refine tw_getS rfl (hs_111_19 (tSh_SA (tSh_SA (tSh_SA hs)))) ?_
          refine tw_aload rfl rfl ?_
          refine tw_getS rfl (tF_a (tF_a (tF_a (hi_111_5 hs)))) ?_
          refine tw_iload rfl rfl ?_
          refine tw_iast rfl (fun f67 => ?_)
          refine tw_aload rfl rfl ?_
          refine tw_getS rfl (hs_111_20 (tSh_SA (tSh_SA (tSh_SA (tSh_SA hs))))) ?_
          refine tw_aload rfl rfl ?_
          refine tw_getS rfl (tF_a (tF_a (tF_a (tF_a (hi_111_5 hs))))) ?_
          refine tw_iload rfl rfl ?_
          refine tw_iast rfl (fun f68 => ?_)
          refine tw_aload rfl rfl ?_
          refine tw_getS rfl (hs_111_21 (tSh_SA (tSh_SA (tSh_SA (tSh_SA (tSh_SA hs)))))) ?_
          refine tw_aload rfl rfl ?_
          refine tw_getS rfl (tF_a (tF_a (tF_a (tF_a (tF_a (hi_111_5 hs)))))) ?_
          refine tw_iload rfl rfl ?_
          refine tw_iast rfl (fun f69 => ?_)
          refine tw_aload rfl rfl ?_
          refine tw_getS rfl (hs_111_22 (tSh_SA (tSh_SA (tSh_SA (tSh_SA (tSh_SA (tSh_SA hs))))))) ?_
          refine tw_aload rfl rfl ?_
          refine tw_getS rfl (tF_a (tF_a (tF_a (tF_a (tF_a (tF_a (hi_111_5 hs))))))) ?_
          refine tw_iload rfl rfl ?_
          refine tw_iast rfl (fun f70 => ?_)
          refine tw_aload rfl rfl ?_
          refine tw_dup rfl ?_
          refine tw_getS rfl (tF_a (tF_a (tF_a (tF_a (tF_a (tF_a (tF_a (hi_111_5 hs)))))))) ?_
          refine tw_push rfl ?_
          refine tw_iadd rfl ?_
          refine tw_put rfl (fun f71 => ?_)
          refine tw_aload rfl rfl ?_
          refine tw_getS rfl (tF_same f71) ?_
          refine tw_push rfl ?_
          refine tw_isub rfl ?_
          exact tw_iret rfl (Or.inl ⟨by omega, wret1 (hi_111_5 hs), (tF_same f71), (fun q hq => by rcases List.mem_cons.mp hq with rfl | hq; (show tA _ 121 = _; exact (tA_ff (tA_n (by decide) (tA_n (by decide) (tA_n (by decide) (tA_n (by decide) (tA_n (by decide) (tA_n (by decide) (tA_st f64 rfl))))))))); rcases List.mem_cons.mp hq with rfl | hq; (show tA _ 127 = _; exact (tA_ff (tA_st f70 (tA_n (by decide) (tA_n (by decide) (tA_n (by decide) (tA_n (by decide) (tA_n (by decide) (tA_n (by decide) rfl))))))))); cases hq)⟩)
        · try dsimp only [tvI_i, tvJ_j, tvR_r] at p63
          refine tw_if_ne rfl (fun z => absurd z (by decide)) (fun _ => ?_)
          refine tw_push rfl ?_
          exact tw_iret rfl (Or.inr ⟨by omega, rfl, rfl, fun _ _ => rfl⟩)
      · try dsimp only [tvI_i, tvJ_j, tvR_r] at p62
        refine tw_if_eq rfl (fun _ => ?_) (fun z => absurd z (by decide))
        refine tw_push rfl ?_
        exact tw_iret rfl (Or.inr ⟨by omega, rfl, rfl, fun _ _ => rfl⟩)
    · try dsimp only [tvI_i, tvJ_j, tvR_r] at p61
      refine tw_if_eq rfl (fun _ => ?_) (fun z => absurd z (by decide))
      refine tw_push rfl ?_
      exact tw_iret rfl (Or.inr ⟨by omega, rfl, rfl, fun _ _ => rfl⟩)
theorem a_car {xs : Nat → Int32} {τ τ2 : List Nat} {k m o : Int32} {h h2 h3 : zH} {w w2 : Option Value} (hB : zBs xs τ h) (hB2 : zBs xs τ2 h2) (hK : R_kinds h) (hW : R_now h) (hP : R_people h) (hR : R_cars h) (hL : R_cl h) (h_ckind : R_ckind h) (o_ckind : tA h2 121 = tA h 121) (h_ccr : R_ccr h) (o_ccr : tA h2 127 = tA h 127) (h_cwr : R_cwr h) (o_cwr : tA h2 120 = tA h 120) (e1 : tF h2 111 5 = tF h 111 5) (e3 : tF h2 111 3 = tF h 111 3) (e4 : tF h2 111 1 = tF h 111 1) (e5 : tF h2 111 2 = tF h 111 2) (e2 : tF h3 36 4 = tF h2 36 4) (e6 : tO h3 39 = tO h2 39) (e7 : ∀ i r f : Nat, (i : Int) < (tvI (tF h2 36 4)).toInt → tO h2 39 i = some r → tF h3 r f = tF h2 r f) (hwr : R_cw0 h) (o9 : tA h3 120 = tA h2 120) (k1 : ph_carc k m o h w h2) (k2 : phA 111 5 (((0 ≤ k.toInt ∧ k.toInt < (tvI (tF h2 111 3)).toInt) ∧ (0 ≤ m.toInt ∧ m.toInt ≤ (tvI (tF h2 111 1)).toInt) ∧ (0 ≤ o.toInt ∧ o.toInt < (tvI (tF h2 111 2)).toInt)) ∧ (tvI (tF h2 111 5)).toInt ≠ 300) [(121, k), (127, m)] h2 w2 h3) : w2 = w ∧ R_cars h3 ∧ R_cl h3 ∧ R_ckind h3 ∧ R_ccr h3 ∧ R_cwr h3 ∧ R_cw0 h3 := by
  unfold R_kinds at hK
  unfold R_now at hW
  unfold R_people at hP
  have hR0 := hR
  unfold R_cars at hR0
  rw [e1, e3, e4, e5, ← hK, ← hW, ← hP, ← hR0] at k2
  have n1 := (kb_36_4 hB).1
  have n2 := (kb_36_4 hB).2
  rcases k1 with ⟨c1, rfl, f1, g1, g2, f_ckind, f_ccr, f_cwr⟩ | ⟨c1, rfl, rfl⟩ <;> rcases k2 with ⟨c2, rfl, f2, q2⟩ | ⟨c2, rfl, f2, q2⟩
  · have hc : R_cars h3 := by
      unfold R_cars
      rw [e2, f1, f2, e1, ← hR0]
    have en : (tvI (tF h3 36 4)).toInt = (tvI (tF h 36 4)).toInt + 1 := by
      rw [e2, f1]
      show (tvI (tF h 36 4) + 1).toInt = _
      rw [Int32.toInt_add]
      exact Int.bmod_eq_of_le (by show (-2147483648 : Int) ≤ (tvI (tF h 36 4)).toInt + 1; omega) (by show (tvI (tF h 36 4)).toInt + 1 < (2147483648 : Int); omega)
    have en2 : (tvI (tF h2 36 4)).toInt = (tvI (tF h 36 4)).toInt + 1 := by rw [← e2]; exact en
    have eo : tO h3 39 = fun j => if j = (tvI (tF h 36 4)).toNatClampNeg then some h.length else tO h 39 j := by rw [e6, g1]
    have hnc : ((tvI (tF h 36 4)).toNatClampNeg : Int) = (tvI (tF h 36 4)).toInt := by rw [zclE]; omega
    have hL3 : R_cl h3 := by
      unfold R_cl
      rw [en, eo]
      refine ⟨fun i hi => ?_, fun i j hi hj e => ?_⟩
      · dsimp only
        by_cases z : i = (tvI (tF h 36 4)).toNatClampNeg
        · rw [if_pos z]; exact ⟨_, rfl⟩
        · rw [if_neg z]; exact hL.1 i (by omega)
      · dsimp only at e
        by_cases z : i = (tvI (tF h 36 4)).toNatClampNeg
        · by_cases z2 : j = (tvI (tF h 36 4)).toNatClampNeg
          · omega
          · rw [if_pos z, if_neg z2] at e
            have := car_lt hB (i := j) (r := h.length) (by omega) e.symm
            omega
        · by_cases z2 : j = (tvI (tF h 36 4)).toNatClampNeg
          · rw [if_neg z, if_pos z2] at e
            have := car_lt hB (i := i) (r := h.length) (by omega) e
            omega
          · rw [if_neg z, if_neg z2] at e
            exact hL.2 i j (by omega) (by omega) e
    have H_ckind : R_ckind h3 := by
      intro i r hi hr
      rw [en] at hi
      have hr2 := hr
      rw [e6] at hr2
      rw [e7 i r 0 (by omega) hr2, q2 (121, k) (by simp), e1, ← hR0]
      rw [eo] at hr
      dsimp only at hr ⊢
      by_cases z : i = (tvI (tF h 36 4)).toNatClampNeg
      · rw [if_pos z] at hr
        cases hr
        rw [if_pos z]
        exact f_ckind
      · rw [if_neg z] at hr
        have hi2 : (i : Int) < (tvI (tF h 36 4)).toInt := by omega
        rw [if_neg z, g2 r 0 (car_lt hB hi2 hr) (fun y => car_ne hB hi2 hr (p := 36) (t := 12) rfl (by decide) y.1), o_ckind]
        exact h_ckind i r hi2 hr
    have H_ccr : R_ccr h3 := by
      intro i r hi hr
      rw [en] at hi
      have hr2 := hr
      rw [e6] at hr2
      rw [e7 i r 6 (by omega) hr2, q2 (127, m) (by simp), e1, ← hR0]
      rw [eo] at hr
      dsimp only at hr ⊢
      by_cases z : i = (tvI (tF h 36 4)).toNatClampNeg
      · rw [if_pos z] at hr
        cases hr
        rw [if_pos z]
        exact f_ccr
      · rw [if_neg z] at hr
        have hi2 : (i : Int) < (tvI (tF h 36 4)).toInt := by omega
        rw [if_neg z, g2 r 6 (car_lt hB hi2 hr) (fun y => car_ne hB hi2 hr (p := 36) (t := 12) rfl (by decide) y.1), o_ccr]
        exact h_ccr i r hi2 hr
    have H_cw0 : R_cw0 h3 := by
      intro i hi
      rw [en] at hi
      rw [o9, o_cwr]
      exact hwr i (by omega)
    have H_cwr : R_cwr h3 := by
      intro i r hi hr
      rw [en] at hi
      have hr2 := hr
      rw [e6] at hr2
      rw [e7 i r 7 (by omega) hr2, o9, o_cwr]
      rw [eo] at hr
      dsimp only at hr
      by_cases z : i = (tvI (tF h 36 4)).toNatClampNeg
      · rw [if_pos z] at hr
        cases hr
        rw [hwr i (by omega)]
        exact f_cwr
      · rw [if_neg z] at hr
        have hi2 : (i : Int) < (tvI (tF h 36 4)).toInt := by omega
        rw [g2 r 7 (car_lt hB hi2 hr) (fun y => car_ne hB hi2 hr (p := 36) (t := 12) rfl (by decide) y.1)]
        exact h_cwr i r hi2 hr
    exact ⟨by rw [e1, ← hR0], hc, hL3, H_ckind, H_ccr, H_cwr, H_cw0⟩
  · exact absurd c1 c2
  · exact absurd c2 c1
  · have hc : R_cars h3 := by
      unfold R_cars
      rw [e2, f2]
      exact hR0
    have hL3 : R_cl h3 := by unfold R_cl; rw [e2, e6]; exact hL
    have H_ckind : R_ckind h3 := by
      intro i r hi hr
      rw [e2] at hi
      rw [e6] at hr
      rw [e7 i r 0 hi hr, q2 (121, k) (by simp)]
      exact h_ckind i r hi hr
    have H_ccr : R_ccr h3 := by
      intro i r hi hr
      rw [e2] at hi
      rw [e6] at hr
      rw [e7 i r 6 hi hr, q2 (127, m) (by simp)]
      exact h_ccr i r hi hr
    have H_cw0 : R_cw0 h3 := by
      intro i hi
      rw [e2] at hi
      rw [o9]
      exact hwr i hi
    have H_cwr : R_cwr h3 := by
      intro i r hi hr
      rw [e2] at hi
      rw [e6] at hr
      rw [e7 i r 7 hi hr, o9]
      exact h_cwr i r hi hr
    exact ⟨rfl, hc, hL3, H_ckind, H_ccr, H_cwr, H_cw0⟩
noncomputable def R_crashes (h : zH) : Prop := tF h 63 8 = tF h 111 59
theorem f_carAt {G : zG} (hG : G.1 = zProg) {h : zH} {n : Int32} (hs : tSh h) : tC zTt G 19 [.ref 36, .int n] h (fun w h2 => (((0 ≤ n.toInt ∧ n.toInt < (tvI (tF h 36 4)).toInt) ∧ w = some (zrf (tO h 39 n.toNatClampNeg))) ∨ (¬ (0 ≤ n.toInt ∧ n.toInt < (tvI (tF h 36 4)).toInt) ∧ w = some .null)) ∧ h2 = h) := by
  refine tC_in (by rw [hG]; rfl) (fun dp => ?_)
  refine tw_iload rfl rfl ?_
  refine tw_if_lt rfl (fun q72 => ?_) (fun q72 => ?_)
  · try dsimp only [tvI_i, tvJ_j, tvR_r] at q72
    refine tw_push rfl ?_
    exact tw_aret rfl ⟨Or.inr ⟨by omega, rfl⟩, rfl⟩
  · try dsimp only [tvI_i, tvJ_j, tvR_r] at q72
    refine tw_iload rfl rfl ?_
    refine tw_aload rfl rfl ?_
    refine tw_getS rfl (hi_36_4 hs) ?_
    refine tw_ic_ge rfl (fun q73 => ?_) (fun q73 => ?_)
    · try dsimp only [tvI_i, tvJ_j, tvR_r] at q73
      refine tw_push rfl ?_
      exact tw_aret rfl ⟨Or.inr ⟨by omega, rfl⟩, rfl⟩
    · try dsimp only [tvI_i, tvJ_j, tvR_r] at q73
      refine tw_aload rfl rfl ?_
      refine tw_getS rfl (hs_36_3 hs) ?_
      refine tw_iload rfl rfl ?_
      refine tw_aald rfl (fun f74 => ?_)
      refine tw_goto rfl ?_
      exact tw_aret rfl ⟨Or.inl ⟨by omega, rfl⟩, rfl⟩
theorem car_ge {xs : Nat → Int32} {τ : List Nat} {h : zH} (hB : zBs xs τ h) : ∀ i r : Nat, (i : Int) < (tvI (tF h 36 4)).toInt → tO h 39 i = some r → 182 ≤ r := by
  intro i r hi hr
  have z := car_tag hB hi hr
  have a : (List.range 182).all (fun p => decide (zTG[p]? ≠ some 150) && decide (p < zTG.length)) = true := by decide +kernel
  rcases Nat.lt_or_ge r 182 with q | q
  · have b := List.all_eq_true.mp a r (List.mem_range.mpr q)
    rw [Bool.and_eq_true, decide_eq_true_eq, decide_eq_true_eq] at b
    have e := hB.2.1 r zTG[r] (List.getElem?_eq_getElem b.2)
    rw [z] at e
    exact absurd (by rw [List.getElem?_eq_getElem b.2]; exact e.symm) b.1
  · exact q
theorem tSh_SFr {h : zH} {r b : Nat} {w : Value} (hr : 182 ≤ r) (k : tSh h) : tSh (tSF h r b w) := by
  have a1 : tSr.all (fun q => Nat.blt q.1 182) = true := by decide +kernel
  have a2 : tSi.all (fun q => Nat.blt q.1 182) = true := by decide +kernel
  refine ⟨fun q hq => tF_ne ?_ (k.1 q hq), fun q hq => ?_⟩
  · have := Nat.le_of_ble_eq_true (List.all_eq_true.mp a1 q hq)
    omega
  · have := Nat.le_of_ble_eq_true (List.all_eq_true.mp a2 q hq)
    have e : tF (tSF h r b w) q.1 q.2 = tF h q.1 q.2 := tF_nz (by omega)
    rw [e]
    exact k.2 q hq
theorem f_carAtR {G : zG} (hG : G.1 = zProg) {h : zH} {n : Int32} (hs : tSh h) (hL : R_cl h) (hg : ∀ i r : Nat, (i : Int) < (tvI (tF h 36 4)).toInt → tO h 39 i = some r → 182 ≤ r) : tC zTt G 19 [.ref 36, .int n] h (fun w h2 => ((∃ r, ((0 ≤ n.toInt ∧ n.toInt < (tvI (tF h 36 4)).toInt) ∧ ((n.toNatClampNeg : Nat) : Int) < (tvI (tF h 36 4)).toInt) ∧ tO h 39 n.toNatClampNeg = some r ∧ 182 ≤ r ∧ w = some (.ref r)) ∨ (¬ (0 ≤ n.toInt ∧ n.toInt < (tvI (tF h 36 4)).toInt) ∧ w = some .null)) ∧ h2 = h) := by
  refine (f_carAt hG hs).mono ?_
  rintro w h2 ⟨⟨c, rfl⟩ | ⟨c, rfl⟩, rfl⟩
  · have hi : ((n.toNatClampNeg : Nat) : Int) < (tvI (tF h2 36 4)).toInt := by rw [zclE]; omega
    obtain ⟨r, hr⟩ := hL.1 _ hi
    exact ⟨Or.inl ⟨r, ⟨c, hi⟩, hr, hg _ r hi hr, by rw [hr]; rfl⟩, rfl⟩
  · exact ⟨Or.inr ⟨c, rfl⟩, rfl⟩
theorem f_isSort {G : zG} (hG : G.1 = zProg) {h : zH} {n : Int32} : tC zTt G 161 [.int n] h (fun w h2 => tBo (0 ≤ n.toInt ∧ n.toInt ≤ 2) w ∧ h2 = h) := by
  refine tC_in (by rw [hG]; rfl) (fun dp => ?_)
  refine tw_iload rfl rfl ?_
  refine tw_push rfl ?_
  refine tw_push rfl ?_
  refine tw_stat3 rfl (f_isWithin hG (LO := 0) (HI := 2) (by decide) (by decide)) (fun w9 h9 p75 => ?_)
  obtain ⟨⟨p75, rfl⟩ | ⟨p75, rfl⟩, rfl⟩ := p75
  · try dsimp only [tvI_i, tvJ_j, tvR_r] at p75
    exact tw_iret rfl ⟨Or.inl ⟨p75, rfl⟩, rfl⟩
  · try dsimp only [tvI_i, tvJ_j, tvR_r] at p75
    exact tw_iret rfl ⟨Or.inr ⟨p75, rfl⟩, rfl⟩
theorem f_isSpeed {G : zG} (hG : G.1 = zProg) {h : zH} {n : Int32} : tC zTt G 162 [.int n] h (fun w h2 => tBo (0 ≤ n.toInt ∧ n.toInt ≤ 200) w ∧ h2 = h) := by
  refine tC_in (by rw [hG]; rfl) (fun dp => ?_)
  refine tw_iload rfl rfl ?_
  refine tw_push rfl ?_
  refine tw_push rfl ?_
  refine tw_stat3 rfl (f_isWithin hG (LO := 0) (HI := 200) (by decide) (by decide)) (fun w9 h9 p76 => ?_)
  obtain ⟨⟨p76, rfl⟩ | ⟨p76, rfl⟩, rfl⟩ := p76
  · try dsimp only [tvI_i, tvJ_j, tvR_r] at p76
    exact tw_iret rfl ⟨Or.inl ⟨p76, rfl⟩, rfl⟩
  · try dsimp only [tvI_i, tvJ_j, tvR_r] at p76
    exact tw_iret rfl ⟨Or.inr ⟨p76, rfl⟩, rfl⟩
theorem f_cfull {G : zG} (hG : G.1 = zProg) {h : zH} (hs : tSh h) {n : Int32} (hn : tF h 63 8 = .int n) : tC zTt G 7 [.ref 63] h (fun w h2 => tBo (n.toInt = 200) w ∧ h2 = h) := by
  refine tC_in (by rw [hG]; rfl) (fun dp => ?_)
  have hn0 := congrArg (fun z => (tvI z).toInt) hn
  have hn1 : (tvI (tF h 63 8)).toInt = n.toInt := hn0
  refine tw_aload rfl rfl ?_
  refine tw_getS rfl (hi_63_8 hs) ?_
  refine tw_push rfl ?_
  refine tw_ic_ne rfl (fun q77 => ?_) (fun q77 => ?_)
  · try dsimp only [tvI_i, tvJ_j, tvR_r] at q77
    have q77i := zneq (Y := 200) (by decide) q77
    refine tw_push rfl ?_
    exact tw_iret rfl ⟨Or.inr ⟨by omega, rfl⟩, rfl⟩
  · try dsimp only [tvI_i, tvJ_j, tvR_r] at q77
    have q77i := zeqi (Y := 200) (by decide) q77
    refine tw_push rfl ?_
    refine tw_goto rfl ?_
    exact tw_iret rfl ⟨Or.inl ⟨by omega, rfl⟩, rfl⟩
theorem tSh_ex {h h2 : zH} {p0 b0 : Nat} {x : Int32} (hn : tSr.all (fun q => !(Nat.beq q.1 p0 && Nat.beq q.2.1 b0)) = true) (k : tSh h) (e1 : tF h2 p0 b0 = .int x) (e2 : ∀ p b, ¬ (p = p0 ∧ b = b0) → tF h2 p b = tF h p b) : tSh h2 := by
  refine ⟨fun q hq => ?_, fun q hq => ?_⟩
  · rw [e2]
    · exact k.1 q hq
    · rintro ⟨z1, z2⟩
      have := List.all_eq_true.mp hn q hq
      rw [z1, z2] at this
      simp at this
  · by_cases e : q.1 = p0 ∧ q.2 = b0
    · rw [e.1, e.2, e1]; rfl
    · rw [e2 _ _ e]; exact k.2 q hq
theorem f_addCrash {G : zG} (hG : G.1 = zProg) {h : zH} {c k m t n : Int32} (hs : tSh h) (hn : tF h 63 8 = .int n) (hf : ¬ n.toInt = 200) : tC zTt G 8 [.ref 63, .int c, .int k, .int m, .int t] h (fun w h2 => w = some (.int n) ∧ tF h2 63 8 = .int (n + 1) ∧ (∀ p b, ¬ (p = 63 ∧ b = 8) → tF h2 p b = tF h p b) ∧ tO h2 = tO h) := by
  refine tC_in (by rw [hG]; rfl) (fun dp => ?_)
  have hnx : tvI (tF h 63 8) = n := by rw [hn]; rfl
  refine tw_aload rfl rfl ?_
  refine tw_virt0 rfl (f_cfull hG hs (hi_63_8 hs)) (fun w9 h9 p78 => ?_)
  obtain ⟨⟨p78, rfl⟩ | ⟨p78, rfl⟩, rfl⟩ := p78
  · try dsimp only [tvI_i, tvJ_j, tvR_r] at p78
    refine tw_if_eq rfl (fun z => absurd z (by decide)) (fun _ => ?_)
    refine tw_push rfl ?_
    rw [hnx] at p78
    exact absurd p78 hf
  · try dsimp only [tvI_i, tvJ_j, tvR_r] at p78
    refine tw_if_eq rfl (fun _ => ?_) (fun z => absurd z (by decide))
    refine tw_aload rfl rfl ?_
    refine tw_getS rfl (hs_63_0 hs) ?_
    refine tw_aload rfl rfl ?_
    refine tw_getS rfl (hi_63_8 hs) ?_
    refine tw_iload rfl rfl ?_
    refine tw_iast rfl (fun f79 => ?_)
    refine tw_aload rfl rfl ?_
    refine tw_getS rfl (hs_63_1 (tSh_SA hs)) ?_
    refine tw_aload rfl rfl ?_
    refine tw_getS rfl (tF_a (hi_63_8 hs)) ?_
    refine tw_iload rfl rfl ?_
    refine tw_iast rfl (fun f80 => ?_)
    refine tw_aload rfl rfl ?_
    refine tw_getS rfl (hs_63_2 (tSh_SA (tSh_SA hs))) ?_
    refine tw_aload rfl rfl ?_
    refine tw_getS rfl (tF_a (tF_a (hi_63_8 hs))) ?_
    refine tw_iload rfl rfl ?_
    refine tw_iast rfl (fun f81 => ?_)
    refine tw_aload rfl rfl ?_
    refine tw_getS rfl (hs_63_3 (tSh_SA (tSh_SA (tSh_SA hs)))) ?_
    refine tw_aload rfl rfl ?_
    refine tw_getS rfl (tF_a (tF_a (tF_a (hi_63_8 hs)))) ?_
    refine tw_iload rfl rfl ?_
    refine tw_iast rfl (fun f82 => ?_)
    refine tw_aload rfl rfl ?_
    refine tw_dup rfl ?_
    refine tw_getS rfl (tF_a (tF_a (tF_a (tF_a (hi_63_8 hs))))) ?_
    refine tw_dup_x1 rfl ?_
    refine tw_push rfl ?_
    refine tw_iadd rfl ?_
    refine tw_put rfl (fun f83 => ?_)
    exact tw_iret rfl ⟨congrArg some (congrArg Value.int hnx), (tF_same f83).trans (by rw [hnx] <;> rfl), fun p b n1 => (tF_ne n1 (tF_a (tF_a (tF_a (tF_a rfl))))), by rw [tO_tSF, tO_tSA, tO_tSA, tO_tSA, tO_tSA]⟩
theorem f_hasCrash {G : zG} (hG : G.1 = zProg) {h : zH} {n : Int32} (hs : tSh h) : tC zTt G 6 [.ref 63, .int n] h (fun w h2 => tBo (0 ≤ n.toInt ∧ n.toInt < (tvI (tF h 63 8)).toInt) w ∧ h2 = h) := by
  refine tC_in (by rw [hG]; rfl) (fun dp => ?_)
  refine tw_iload rfl rfl ?_
  refine tw_if_lt rfl (fun q84 => ?_) (fun q84 => ?_)
  · try dsimp only [tvI_i, tvJ_j, tvR_r] at q84
    refine tw_push rfl ?_
    exact tw_iret rfl ⟨Or.inr ⟨by omega, rfl⟩, rfl⟩
  · try dsimp only [tvI_i, tvJ_j, tvR_r] at q84
    refine tw_iload rfl rfl ?_
    refine tw_aload rfl rfl ?_
    refine tw_getS rfl (hi_63_8 hs) ?_
    refine tw_ic_ge rfl (fun q85 => ?_) (fun q85 => ?_)
    · try dsimp only [tvI_i, tvJ_j, tvR_r] at q85
      refine tw_push rfl ?_
      exact tw_iret rfl ⟨Or.inr ⟨by omega, rfl⟩, rfl⟩
    · try dsimp only [tvI_i, tvJ_j, tvR_r] at q85
      refine tw_push rfl ?_
      refine tw_goto rfl ?_
      exact tw_iret rfl ⟨Or.inl ⟨by omega, rfl⟩, rfl⟩
theorem f_tellOf {G : zG} (hG : G.1 = zProg) {h : zH} {x s v d u n : Int32} (bu : 0 ≤ u.toInt ∧ u.toInt ≤ 1) (hs : tSh h) (hn : tF h 63 8 = .int n) (h0 : 0 ≤ x.toInt ∧ x.toInt < n.toInt) : tC zTt G 9 [.ref 63, .int x, .int s, .int v, .int d, .int u] h (fun w h2 => w = none ∧ tF h2 = tF h ∧ tO h2 = tO h) := by
  refine tC_in (by rw [hG]; rfl) (fun dp => ?_)
  have hnx : (tvI (tF h 63 8)).toInt = n.toInt := by rw [hn]; rfl
  refine tw_aload rfl rfl ?_
  refine tw_iload rfl rfl ?_
  refine tw_virt1 rfl (f_hasCrash hG hs) (fun w9 h9 p86 => ?_)
  obtain ⟨⟨p86, rfl⟩ | ⟨p86, rfl⟩, rfl⟩ := p86
  · try dsimp only [tvI_i, tvJ_j, tvR_r] at p86
    refine tw_if_ne rfl (fun _ => ?_) (fun z => absurd z (by decide))
    refine tw_aload rfl rfl ?_
    refine tw_getS rfl (hs_63_4 hs) ?_
    refine tw_iload rfl rfl ?_
    refine tw_iload rfl rfl ?_
    refine tw_iast rfl (fun f87 => ?_)
    refine tw_aload rfl rfl ?_
    refine tw_getS rfl (hs_63_5 (tSh_SA hs)) ?_
    refine tw_iload rfl rfl ?_
    refine tw_iload rfl rfl ?_
    refine tw_iast rfl (fun f88 => ?_)
    refine tw_aload rfl rfl ?_
    refine tw_getS rfl (hs_63_6 (tSh_SA (tSh_SA hs))) ?_
    refine tw_iload rfl rfl ?_
    refine tw_iload rfl rfl ?_
    refine tw_iast rfl (fun f89 => ?_)
    refine tw_aload rfl rfl ?_
    refine tw_getS rfl (hs_63_7 (tSh_SA (tSh_SA (tSh_SA hs)))) ?_
    refine tw_iload rfl rfl ?_
    refine tw_iload rfl rfl ?_
    refine tw_bastZ bu rfl (fun kf90 f90 => ?_)
    exact tw_vret rfl ⟨rfl, by rw [tF_tSA, tF_tSA, tF_tSA, tF_tSA], by rw [tO_tSA, tO_tSA, tO_tSA, tO_tSA]⟩
  · try dsimp only [tvI_i, tvJ_j, tvR_r] at p86
    refine tw_if_ne rfl (fun z => absurd z (by decide)) (fun _ => ?_)
    exact (p86 ⟨by omega, by omega⟩).elim
noncomputable def ph_crc (c m s v d u y : Int32) (h : zH) (w : Option Value) (h2 : zH) : Prop := (((0 ≤ c.toInt ∧ c.toInt < (tvI (tF h 36 4)).toInt) ∧ (tA h 120 c.toNatClampNeg).toInt = 0 ∧ ((tA h 127 c.toNatClampNeg).toInt ≤ m.toInt ∧ m.toInt ≤ (tvI (tF h 0 14)).toInt) ∧ (0 ≤ s.toInt ∧ s.toInt ≤ 2) ∧ (0 ≤ v.toInt ∧ v.toInt ≤ 200) ∧ (0 ≤ d.toInt ∧ d.toInt ≤ 9) ∧ (tvI (tF h 63 8)).toInt ≠ 200) ∧ w = some (tF h 63 8) ∧ ∃ r, tO h 39 c.toNatClampNeg = some r ∧ tF h2 63 8 = .int (tvI (tF h 63 8) + 1) ∧ tF h2 r 6 = .int m ∧ tF h2 r 7 = .int y ∧ (∀ p b, ¬ (p = 63 ∧ b = 8) → ¬ (p = r ∧ (b = 6 ∨ b = 7)) → tF h2 p b = tF h p b) ∧ tO h2 = tO h) ∨ (¬ ((0 ≤ c.toInt ∧ c.toInt < (tvI (tF h 36 4)).toInt) ∧ (tA h 120 c.toNatClampNeg).toInt = 0 ∧ ((tA h 127 c.toNatClampNeg).toInt ≤ m.toInt ∧ m.toInt ≤ (tvI (tF h 0 14)).toInt) ∧ (0 ≤ s.toInt ∧ s.toInt ≤ 2) ∧ (0 ≤ v.toInt ∧ v.toInt ≤ 200) ∧ (0 ≤ d.toInt ∧ d.toInt ≤ 9) ∧ (tvI (tF h 63 8)).toInt ≠ 200) ∧ w = some (.int (-1)) ∧ h2 = h)
theorem zinc1 {x : Int32} (h : 0 ≤ x.toInt ∧ x.toInt ≤ 200) : (x + 1).toInt = x.toInt + 1 := by
  rw [Int32.toInt_add]
  exact Int.bmod_eq_of_le (by show (-2147483648 : Int) ≤ x.toInt + 1; omega) (by show x.toInt + 1 < (2147483648 : Int); omega)
theorem f_crash {G : zG} (hG : G.1 = zProg) {h : zH} {c m s v d u y : Int32} (bu : 0 ≤ u.toInt ∧ u.toInt ≤ 1) (bw : 0 ≤ y.toInt ∧ y.toInt ≤ 1) (hs : tSh h) (hL : R_cl h) (hg : ∀ i r : Nat, (i : Int) < (tvI (tF h 36 4)).toInt → tO h 39 i = some r → 182 ≤ r) (hR6 : R_ccr h) (hR7 : R_cwr h) (hR0 : R_ckind h) (hn0 : 0 ≤ (tvI (tF h 63 8)).toInt ∧ (tvI (tF h 63 8)).toInt ≤ 200) : tC zTt G 133 [.ref 0, .int c, .int m, .int s, .int v, .int d, .int u, .int y] h (ph_crc c m s v d u y h) := by
  refine tC_in (by rw [hG]; rfl) (fun dp => ?_)
  refine tw_aload rfl rfl ?_
  refine tw_getS rfl (hs_0_1 hs) ?_
  refine tw_iload rfl rfl ?_
  refine tw_virt1 rfl (f_carAtR hG hs hL hg) (fun w9 h9 p91 => ?_)
  obtain ⟨⟨rp91, p91, p91r, p91g, rfl⟩ | ⟨p91, rfl⟩, rfl⟩ := p91
  · refine tw_astore rfl ?_
    refine tw_aload rfl rfl ?_
    refine tw_ifnull rfl (fun z => by cases z) (fun _ _ => ?_)
    refine tw_aload rfl rfl ?_
    refine tw_getS rfl (hR7 _ _ p91.2 p91r) ?_
    refine tw_if_ne rfl (fun q94 => ?_) (fun q94 => ?_)
    · try dsimp only [tvI_i, tvJ_j, tvR_r] at q94
      have q94i := zneq (Y := 0) (by decide) q94
      refine tw_push rfl ?_
      exact tw_iret rfl (Or.inr ⟨by omega, rfl, rfl⟩)
    · try dsimp only [tvI_i, tvJ_j, tvR_r] at q94
      have q94i := zeqi (Y := 0) (by decide) q94
      refine tw_iload rfl rfl ?_
      refine tw_aload rfl rfl ?_
      refine tw_getS rfl (hR6 _ _ p91.2 p91r) ?_
      refine tw_aload rfl rfl ?_
      refine tw_getS rfl (hi_0_14 hs) ?_
      refine tw_stat3 rfl (f_isWithin hG   rfl rfl) (fun w9 h9 p95 => ?_)
      obtain ⟨⟨p95, rfl⟩ | ⟨p95, rfl⟩, rfl⟩ := p95
      · try dsimp only [tvI_i, tvJ_j, tvR_r] at p95
        refine tw_if_ne rfl (fun _ => ?_) (fun z => absurd z (by decide))
        refine tw_iload rfl rfl ?_
        refine tw_stat1 rfl (f_isSort hG) (fun w9 h9 p96 => ?_)
        obtain ⟨⟨p96, rfl⟩ | ⟨p96, rfl⟩, rfl⟩ := p96
        · try dsimp only [tvI_i, tvJ_j, tvR_r] at p96
          refine tw_if_eq rfl (fun z => absurd z (by decide)) (fun _ => ?_)
          refine tw_iload rfl rfl ?_
          refine tw_stat1 rfl (f_isSpeed hG) (fun w9 h9 p97 => ?_)
          obtain ⟨⟨p97, rfl⟩ | ⟨p97, rfl⟩, rfl⟩ := p97
          · try dsimp only [tvI_i, tvJ_j, tvR_r] at p97
            refine tw_if_eq rfl (fun z => absurd z (by decide)) (fun _ => ?_)
            refine tw_iload rfl rfl ?_
            refine tw_push rfl ?_
            refine tw_push rfl ?_
            refine tw_stat3 rfl (f_isWithin hG (LO := 0) (HI := 9) (by decide) (by decide)) (fun w9 h9 p98 => ?_)
            obtain ⟨⟨p98, rfl⟩ | ⟨p98, rfl⟩, rfl⟩ := p98
            · try dsimp only [tvI_i, tvJ_j, tvR_r] at p98
              refine tw_if_eq rfl (fun z => absurd z (by decide)) (fun _ => ?_)
              refine tw_aload rfl rfl ?_
              refine tw_getS rfl (hs_0_5 hs) ?_
              refine tw_virt0 rfl (f_cfull hG hs (hi_63_8 hs)) (fun w9 h9 p99 => ?_)
              obtain ⟨⟨p99, rfl⟩ | ⟨p99, rfl⟩, rfl⟩ := p99
              · try dsimp only [tvI_i, tvJ_j, tvR_r] at p99
                refine tw_if_eq rfl (fun z => absurd z (by decide)) (fun _ => ?_)
                refine tw_push rfl ?_
                exact tw_iret rfl (Or.inr ⟨by omega, rfl, rfl⟩)
              · try dsimp only [tvI_i, tvJ_j, tvR_r] at p99
                refine tw_if_eq rfl (fun _ => ?_) (fun z => absurd z (by decide))
                refine tw_aload rfl rfl ?_
                refine tw_iload rfl rfl ?_
                refine tw_put rfl (fun f100 => ?_)
                refine tw_aload rfl rfl ?_
                refine tw_iload rfl rfl ?_
                refine tw_put rfl (fun f101 => ?_)
                refine tw_aload rfl rfl ?_
                refine tw_getS rfl (hs_0_5 (tSh_SFr (by omega) (tSh_SFr (by omega) hs))) ?_
                refine tw_iload rfl rfl ?_
                refine tw_aload rfl rfl ?_
                refine tw_getS rfl (tF_ne (by omega) (tF_ne (by omega) (hR0 _ _ p91.2 p91r))) ?_
                refine tw_iload rfl rfl ?_
                refine tw_aload rfl rfl ?_
                refine tw_getS rfl (tF_ne (by omega) (tF_ne (by omega) (hi_0_14 hs))) ?_
                refine tw_virt4 rfl (f_addCrash hG (tSh_SFr (by omega) (tSh_SFr (by omega) hs)) (tF_ne (by omega) (tF_ne (by omega) (hi_63_8 hs))) (by omega)) (fun wp102 hp102 p102 => ?_)
                obtain ⟨rfl, p102e, p102f, p102o⟩ := p102
                refine tw_istore rfl ?_
                refine tw_aload rfl rfl ?_
                refine tw_getS rfl (hs_0_5 (tSh_ex (by decide +kernel) (tSh_SFr (by omega) (tSh_SFr (by omega) hs)) p102e p102f)) ?_
                refine tw_iload rfl rfl ?_
                refine tw_iload rfl rfl ?_
                refine tw_iload rfl rfl ?_
                refine tw_iload rfl rfl ?_
                refine tw_iload rfl rfl ?_
                refine tw_virt5 rfl (f_tellOf hG bu (tSh_ex (by decide +kernel) (tSh_SFr (by omega) (tSh_SFr (by omega) hs)) p102e p102f) p102e ⟨hn0.1, (by rw [zinc1 hn0]; exact Int.lt_succ _)⟩) (fun wp103 hp103 p103 => ?_)
                obtain ⟨rfl, p103e, p103o⟩ := p103
                refine tw_iload rfl rfl ?_
                have e63 := hi_63_8 hs
                refine tw_iret rfl (Or.inl ⟨by omega, congrArg some e63.symm, rp91, p91r, ?_, ?_, ?_, fun p b n1 n2 => ?_, ?_⟩)
                · rw [p103e, p102e]
                · rw [p103e, p102f _ _ (by omega)]; exact tF_ne (by omega) (tF_same f100)
                · rw [p103e, p102f _ _ (by omega)]; exact tF_same f101
                · rw [p103e, p102f _ _ n1]; exact (tF_ne (fun z => n2 ⟨z.1, Or.inr z.2⟩) (tF_ne (fun z => n2 ⟨z.1, Or.inl z.2⟩) rfl))
                · rw [p103o, p102o, tO_tSF, tO_tSF]
            · try dsimp only [tvI_i, tvJ_j, tvR_r] at p98
              refine tw_if_eq rfl (fun _ => ?_) (fun z => absurd z (by decide))
              refine tw_push rfl ?_
              exact tw_iret rfl (Or.inr ⟨by omega, rfl, rfl⟩)
          · try dsimp only [tvI_i, tvJ_j, tvR_r] at p97
            refine tw_if_eq rfl (fun _ => ?_) (fun z => absurd z (by decide))
            refine tw_push rfl ?_
            exact tw_iret rfl (Or.inr ⟨by omega, rfl, rfl⟩)
        · try dsimp only [tvI_i, tvJ_j, tvR_r] at p96
          refine tw_if_eq rfl (fun _ => ?_) (fun z => absurd z (by decide))
          refine tw_push rfl ?_
          exact tw_iret rfl (Or.inr ⟨by omega, rfl, rfl⟩)
      · try dsimp only [tvI_i, tvJ_j, tvR_r] at p95
        refine tw_if_ne rfl (fun z => absurd z (by decide)) (fun _ => ?_)
        refine tw_push rfl ?_
        exact tw_iret rfl (Or.inr ⟨by omega, rfl, rfl⟩)
  · refine tw_astoreN rfl ?_
    refine tw_aload rfl rfl ?_
    refine tw_ifnull rfl (fun _ => ?_) (fun _ z => by cases z)
    refine tw_push rfl ?_
    exact tw_iret rfl (Or.inr ⟨by omega, rfl, rfl⟩)
theorem g_isCar {G : zG} (hG : G.1 = zProg) {h : zH} {n : Int32} (hs : tSh h) (hk : 0 ≤ (tvI (tF h 111 5)).toInt) : tC zTt G 178 [.ref 111, .int n] h (fun w h2 => tBo (0 ≤ n.toInt ∧ n.toInt < (tvI (tF h 111 5)).toInt) w ∧ h2 = h) := by
  refine tC_in (by rw [hG]; rfl) (fun dp => ?_)
  refine tw_iload rfl rfl ?_
  refine tw_i2l rfl ?_
  refine tw_push rfl ?_
  refine tw_aload rfl rfl ?_
  refine tw_getS rfl (hi_111_5 hs) ?_
  refine tw_push rfl ?_
  refine tw_isub rfl ?_
  refine tw_i2l rfl ?_
  refine tw_stat3 rfl (f_in hG  (LO := 0)  (Int32.toInt_toInt64 _) (by decide) (Int32.toInt_toInt64 _)) (fun w9 h9 p106 => ?_)
  obtain ⟨⟨p106, rfl⟩ | ⟨p106, rfl⟩, rfl⟩ := p106
  · try dsimp only [tvI_i, tvJ_j, tvR_r] at p106
    exact tw_iret rfl ⟨Or.inl ⟨by have e := zsub1 hk; have := p106; omega, rfl⟩, rfl⟩
  · try dsimp only [tvI_i, tvJ_j, tvR_r] at p106
    exact tw_iret rfl ⟨Or.inr ⟨by have e := zsub1 hk; have := p106; omega, rfl⟩, rfl⟩
theorem g_isSort {G : zG} (hG : G.1 = zProg) {h : zH} {n : Int32} : tC zTt G 173 [.int n] h (fun w h2 => tBo (0 ≤ n.toInt ∧ n.toInt ≤ 2) w ∧ h2 = h) := by
  refine tC_in (by rw [hG]; rfl) (fun dp => ?_)
  refine tw_iload rfl rfl ?_
  refine tw_i2l rfl ?_
  refine tw_push rfl ?_
  refine tw_push rfl ?_
  refine tw_stat3 rfl (f_in hG  (LO := 0) (HI := 2) (Int32.toInt_toInt64 _) (by decide) (by decide)) (fun w9 h9 p107 => ?_)
  obtain ⟨⟨p107, rfl⟩ | ⟨p107, rfl⟩, rfl⟩ := p107
  · try dsimp only [tvI_i, tvJ_j, tvR_r] at p107
    exact tw_iret rfl ⟨Or.inl ⟨p107, rfl⟩, rfl⟩
  · try dsimp only [tvI_i, tvJ_j, tvR_r] at p107
    exact tw_iret rfl ⟨Or.inr ⟨p107, rfl⟩, rfl⟩
noncomputable def ph_crm (c m s v d u y : Int32) (h : zH) (w : Option Value) (h2 : zH) : Prop := (((0 ≤ c.toInt ∧ c.toInt < (tvI (tF h 111 5)).toInt) ∧ (tA h 120 c.toNatClampNeg).toInt = 0 ∧ ((tA h 127 c.toNatClampNeg).toInt ≤ m.toInt ∧ m.toInt ≤ (tvI (tF h 111 1)).toInt) ∧ (0 ≤ s.toInt ∧ s.toInt ≤ 2) ∧ (0 ≤ v.toInt ∧ v.toInt ≤ 200) ∧ (0 ≤ d.toInt ∧ d.toInt ≤ 9) ∧ (tvI (tF h 111 59)).toInt ≠ 200) ∧ w = some (tF h 111 59) ∧ tF h2 111 59 = .int (tvI (tF h 111 59) + 1) ∧ tA h2 127 = (fun j => if j = c.toNatClampNeg then m else tA h 127 j) ∧ tA h2 120 = (fun j => if j = c.toNatClampNeg then y else tA h 120 j)) ∨ (¬ ((0 ≤ c.toInt ∧ c.toInt < (tvI (tF h 111 5)).toInt) ∧ (tA h 120 c.toNatClampNeg).toInt = 0 ∧ ((tA h 127 c.toNatClampNeg).toInt ≤ m.toInt ∧ m.toInt ≤ (tvI (tF h 111 1)).toInt) ∧ (0 ≤ s.toInt ∧ s.toInt ≤ 2) ∧ (0 ≤ v.toInt ∧ v.toInt ≤ 200) ∧ (0 ≤ d.toInt ∧ d.toInt ≤ 9) ∧ (tvI (tF h 111 59)).toInt ≠ 200) ∧ w = some (.int (-1)) ∧ h2 = h)
theorem g_crash {G : zG} (hG : G.1 = zProg) {h : zH} {c m s v d u y : Int32} (bu : 0 ≤ u.toInt ∧ u.toInt ≤ 1) (bw : 0 ≤ y.toInt ∧ y.toInt ≤ 1) (hs : tSh h) (hk5 : 0 ≤ (tvI (tF h 111 5)).toInt) : tC zTt G 244 [.ref 111, .int c, .int m, .int s, .int v, .int d, .int u, .int y] h (ph_crm c m s v d u y h) := by
  refine tC_in (by rw [hG]; rfl) (fun dp => ?_)
  refine tw_aload rfl rfl ?_
  refine tw_getS rfl (hi_111_59 hs) ?_
  refine tw_push rfl ?_
  refine tw_ic_eq rfl (fun q108 => ?_) (fun q108 => ?_)
  · try dsimp only [tvI_i, tvJ_j, tvR_r] at q108
    have q108i := zeqi (Y := 200) (by decide) q108
    refine tw_push rfl ?_
    exact tw_iret rfl (Or.inr ⟨by omega, rfl, rfl⟩)
  · try dsimp only [tvI_i, tvJ_j, tvR_r] at q108
    have q108i := zneq (Y := 200) (by decide) q108
    refine tw_aload rfl rfl ?_
    refine tw_iload rfl rfl ?_
    refine tw_virt1 rfl (g_isCar hG hs hk5) (fun w9 h9 p109 => ?_)
    obtain ⟨⟨p109, rfl⟩ | ⟨p109, rfl⟩, rfl⟩ := p109
    · try dsimp only [tvI_i, tvJ_j, tvR_r] at p109
      refine tw_if_eq rfl (fun z => absurd z (by decide)) (fun _ => ?_)
      refine tw_aload rfl rfl ?_
      refine tw_getS rfl (hs_111_15 hs) ?_
      refine tw_iload rfl rfl ?_
      refine tw_bald rfl (fun f110 => ?_)
      refine tw_if_ne rfl (fun q111 => ?_) (fun q111 => ?_)
      · try dsimp only [tvI_i, tvJ_j, tvR_r] at q111
        have q111i := zneq (Y := 0) (by decide) q111
        refine tw_push rfl ?_
        exact tw_iret rfl (Or.inr ⟨by omega, rfl, rfl⟩)
      · try dsimp only [tvI_i, tvJ_j, tvR_r] at q111
        have q111i := zeqi (Y := 0) (by decide) q111
        refine tw_iload rfl rfl ?_
        refine tw_i2l rfl ?_
        refine tw_aload rfl rfl ?_
        refine tw_getS rfl (hs_111_22 hs) ?_
        refine tw_iload rfl rfl ?_
        refine tw_iald rfl (fun f112 => ?_)
        refine tw_i2l rfl ?_
        refine tw_aload rfl rfl ?_
        refine tw_getS rfl (hi_111_1 hs) ?_
        refine tw_i2l rfl ?_
        refine tw_stat3 rfl (f_in hG    (Int32.toInt_toInt64 _) (Int32.toInt_toInt64 _) (Int32.toInt_toInt64 _)) (fun w9 h9 p113 => ?_)
        obtain ⟨⟨p113, rfl⟩ | ⟨p113, rfl⟩, rfl⟩ := p113
        · try dsimp only [tvI_i, tvJ_j, tvR_r] at p113
          refine tw_if_eq rfl (fun z => absurd z (by decide)) (fun _ => ?_)
          refine tw_iload rfl rfl ?_
          refine tw_stat1 rfl (g_isSort hG) (fun w9 h9 p114 => ?_)
          obtain ⟨⟨p114, rfl⟩ | ⟨p114, rfl⟩, rfl⟩ := p114
          · try dsimp only [tvI_i, tvJ_j, tvR_r] at p114
            refine tw_if_eq rfl (fun z => absurd z (by decide)) (fun _ => ?_)
            refine tw_iload rfl rfl ?_
            refine tw_i2l rfl ?_
            refine tw_push rfl ?_
            refine tw_push rfl ?_
            refine tw_stat3 rfl (f_in hG  (LO := 0) (HI := 200) (Int32.toInt_toInt64 _) (by decide) (by decide)) (fun w9 h9 p115 => ?_)
            obtain ⟨⟨p115, rfl⟩ | ⟨p115, rfl⟩, rfl⟩ := p115
            · try dsimp only [tvI_i, tvJ_j, tvR_r] at p115
              refine tw_if_eq rfl (fun z => absurd z (by decide)) (fun _ => ?_)
              refine tw_iload rfl rfl ?_
              refine tw_i2l rfl ?_
              refine tw_push rfl ?_
              refine tw_push rfl ?_
              refine tw_stat3 rfl (f_in hG  (LO := 0) (HI := 9) (Int32.toInt_toInt64 _) (by decide) (by decide)) (fun w9 h9 p116 => ?_)
              obtain ⟨⟨p116, rfl⟩ | ⟨p116, rfl⟩, rfl⟩ := p116
              · try dsimp only [tvI_i, tvJ_j, tvR_r] at p116
                refine tw_if_ne rfl (fun _ => ?_) (fun z => absurd z (by decide))
                refine tw_aload rfl rfl ?_
                refine tw_getS rfl (hs_111_60 hs) ?_
                refine tw_aload rfl rfl ?_
                refine tw_getS rfl (hi_111_59 hs) ?_
                refine tw_iload rfl rfl ?_
                refine tw_iast rfl (fun f117 => ?_)
                refine tw_aload rfl rfl ?_
                refine tw_getS rfl (hs_111_61 (tSh_SA hs)) ?_
                refine tw_aload rfl rfl ?_
                refine tw_getS rfl (tF_a (hi_111_59 hs)) ?_
                refine tw_iload rfl rfl ?_
                refine tw_iast rfl (fun f118 => ?_)
                refine tw_aload rfl rfl ?_
                refine tw_getS rfl (hs_111_62 (tSh_SA (tSh_SA hs))) ?_
                refine tw_aload rfl rfl ?_
                refine tw_getS rfl (tF_a (tF_a (hi_111_59 hs))) ?_
                refine tw_iload rfl rfl ?_
                refine tw_iast rfl (fun f119 => ?_)
                refine tw_aload rfl rfl ?_
                refine tw_getS rfl (hs_111_63 (tSh_SA (tSh_SA (tSh_SA hs)))) ?_
                refine tw_aload rfl rfl ?_
                refine tw_getS rfl (tF_a (tF_a (tF_a (hi_111_59 hs)))) ?_
                refine tw_iload rfl rfl ?_
                refine tw_iast rfl (fun f120 => ?_)
                refine tw_aload rfl rfl ?_
                refine tw_getS rfl (hs_111_64 (tSh_SA (tSh_SA (tSh_SA (tSh_SA hs))))) ?_
                refine tw_aload rfl rfl ?_
                refine tw_getS rfl (tF_a (tF_a (tF_a (tF_a (hi_111_59 hs))))) ?_
                refine tw_iload rfl rfl ?_
                refine tw_iast rfl (fun f121 => ?_)
                refine tw_aload rfl rfl ?_
                refine tw_getS rfl (hs_111_65 (tSh_SA (tSh_SA (tSh_SA (tSh_SA (tSh_SA hs)))))) ?_
                refine tw_aload rfl rfl ?_
                refine tw_getS rfl (tF_a (tF_a (tF_a (tF_a (tF_a (hi_111_59 hs)))))) ?_
                refine tw_aload rfl rfl ?_
                refine tw_getS rfl (tF_a (tF_a (tF_a (tF_a (tF_a (hi_111_1 hs)))))) ?_
                refine tw_iast rfl (fun f122 => ?_)
                refine tw_aload rfl rfl ?_
                refine tw_getS rfl (hs_111_66 (tSh_SA (tSh_SA (tSh_SA (tSh_SA (tSh_SA (tSh_SA hs))))))) ?_
                refine tw_aload rfl rfl ?_
                refine tw_getS rfl (tF_a (tF_a (tF_a (tF_a (tF_a (tF_a (hi_111_59 hs))))))) ?_
                refine tw_iload rfl rfl ?_
                refine tw_bastZ bu rfl (fun kf123 f123 => ?_)
                refine tw_aload rfl rfl ?_
                refine tw_getS rfl (hs_111_22 (tSh_SA (tSh_SA (tSh_SA (tSh_SA (tSh_SA (tSh_SA (tSh_SA hs)))))))) ?_
                refine tw_iload rfl rfl ?_
                refine tw_iload rfl rfl ?_
                refine tw_iast rfl (fun f124 => ?_)
                refine tw_aload rfl rfl ?_
                refine tw_getS rfl (hs_111_15 (tSh_SA (tSh_SA (tSh_SA (tSh_SA (tSh_SA (tSh_SA (tSh_SA (tSh_SA hs))))))))) ?_
                refine tw_iload rfl rfl ?_
                refine tw_iload rfl rfl ?_
                refine tw_bastZ bw rfl (fun kf125 f125 => ?_)
                refine tw_aload rfl rfl ?_
                refine tw_dup rfl ?_
                refine tw_getS rfl (tF_a (tF_a (tF_a (tF_a (tF_a (tF_a (tF_a (tF_a (tF_a (hi_111_59 hs)))))))))) ?_
                refine tw_push rfl ?_
                refine tw_iadd rfl ?_
                refine tw_put rfl (fun f126 => ?_)
                refine tw_aload rfl rfl ?_
                refine tw_getS rfl (tF_same f126) ?_
                refine tw_push rfl ?_
                refine tw_isub rfl ?_
                exact tw_iret rfl (Or.inl ⟨by omega, wret1 (hi_111_59 hs), (tF_same f126), (tA_ff (tA_n (by decide) (tA_st f124 (tA_n (by decide) (tA_n (by decide) (tA_n (by decide) (tA_n (by decide) (tA_n (by decide) (tA_n (by decide) (tA_n (by decide) rfl)))))))))), (tA_ff (tA_st f125 (tA_n (by decide) (tA_n (by decide) (tA_n (by decide) (tA_n (by decide) (tA_n (by decide) (tA_n (by decide) (tA_n (by decide) (tA_n (by decide) rfl))))))))))⟩)
              · try dsimp only [tvI_i, tvJ_j, tvR_r] at p116
                refine tw_if_ne rfl (fun z => absurd z (by decide)) (fun _ => ?_)
                refine tw_push rfl ?_
                exact tw_iret rfl (Or.inr ⟨by omega, rfl, rfl⟩)
            · try dsimp only [tvI_i, tvJ_j, tvR_r] at p115
              refine tw_if_eq rfl (fun _ => ?_) (fun z => absurd z (by decide))
              refine tw_push rfl ?_
              exact tw_iret rfl (Or.inr ⟨by omega, rfl, rfl⟩)
          · try dsimp only [tvI_i, tvJ_j, tvR_r] at p114
            refine tw_if_eq rfl (fun _ => ?_) (fun z => absurd z (by decide))
            refine tw_push rfl ?_
            exact tw_iret rfl (Or.inr ⟨by omega, rfl, rfl⟩)
        · try dsimp only [tvI_i, tvJ_j, tvR_r] at p113
          refine tw_if_eq rfl (fun _ => ?_) (fun z => absurd z (by decide))
          refine tw_push rfl ?_
          exact tw_iret rfl (Or.inr ⟨by omega, rfl, rfl⟩)
    · try dsimp only [tvI_i, tvJ_j, tvR_r] at p109
      refine tw_if_eq rfl (fun _ => ?_) (fun z => absurd z (by decide))
      refine tw_push rfl ?_
      exact tw_iret rfl (Or.inr ⟨by omega, rfl, rfl⟩)
theorem a_crash {xs : Nat → Int32} {τ : List Nat} {c m s v d u y : Int32} {h h2 h3 : zH} {w w2 : Option Value} (hB : zBs xs τ h) (hC : R_cars h) (hW : R_now h) (hA : R_crashes h) (hL : R_cl h) (h6 : R_ccr h) (h7 : R_cwr h) (h0 : R_cw0 h) (e1 : tF h2 111 5 = tF h 111 5) (e4 : tF h2 111 1 = tF h 111 1) (e5 : tF h2 111 59 = tF h 111 59) (o1 : tA h2 127 = tA h 127) (o2 : tA h2 120 = tA h 120) (e2 : tF h3 63 8 = tF h2 63 8) (e6 : tO h3 39 = tO h2 39) (e8 : tO h2 39 = tO h 39) (e9 : tF h3 36 4 = tF h2 36 4) (e11 : tF h2 36 4 = tF h 36 4) (e7 : ∀ i r f : Nat, (i : Int) < (tvI (tF h2 36 4)).toInt → tO h2 39 i = some r → tF h3 r f = tF h2 r f) (k1 : ph_crc c m s v d u y h w h2) (k2 : ph_crm c m s v d u y h2 w2 h3) : w2 = w ∧ R_crashes h3 ∧ R_ccr h3 ∧ R_cwr h3 ∧ R_cw0 h3 := by
  have hC0 := hC
  have hA0 := hA
  unfold R_cars at hC0
  unfold R_now at hW
  unfold R_crashes at hA0
  unfold ph_crm at k2
  rw [e1, e4, e5, o1, o2, ← hC0, ← hW, ← hA0] at k2
  rw [e11, e8] at e7
  rcases k1 with ⟨c1, rfl, r, hr, f1, f2, f3, f4, f5⟩ | ⟨c1, rfl, rfl⟩ <;> rcases k2 with ⟨c2, rfl, q1, q2, q3⟩ | ⟨c2, rfl, rfl⟩
  · have hi : ((c.toNatClampNeg : Nat) : Int) < (tvI (tF h 36 4)).toInt := by rw [zclE]; omega
    have key : ∀ f x P, (f = 6 ∨ f = 7) → tF h2 r f = .int x → tA h3 P = (fun j => if j = c.toNatClampNeg then x else tA h P j) → (∀ i r : Nat, (i : Int) < (tvI (tF h 36 4)).toInt → tO h 39 i = some r → tF h r f = .int (tA h P i)) → ∀ i r : Nat, (i : Int) < (tvI (tF h3 36 4)).toInt → tO h3 39 i = some r → tF h3 r f = .int (tA h3 P i) := by
      intro f x P hf hx hP3 hold i s hi2 hs
      rw [e9, e11] at hi2
      rw [e6, e8] at hs
      rw [e7 i s f hi2 hs, hP3]
      dsimp only
      by_cases z : i = c.toNatClampNeg
      · subst z
        rw [hr] at hs
        cases hs
        rw [if_pos rfl]
        exact hx
      · rw [if_neg z, f4 s f (fun y => car_ne hB hi2 hs (p := 63) (t := 39) rfl (by decide) y.1) (fun y => z (hL.2 _ _ hi2 hi (by rw [hs, hr, y.1])))]
        exact hold i s hi2 hs
    refine ⟨rfl, ?_, key 6 m 127 (Or.inl rfl) f2 q2 h6, key 7 y 120 (Or.inr rfl) f3 q3 h7, ?_⟩
    · unfold R_crashes; rw [e2, f1, q1]
    · intro i hi2
      rw [e9, e11] at hi2
      rw [q3]
      dsimp only
      rw [if_neg (by omega)]
      exact h0 i hi2
  · exact absurd c1 c2
  · exact absurd c2 c1
  · exact ⟨rfl, hA, h6, h7, h0⟩
