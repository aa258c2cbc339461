/-! what is answered: small helpers -/
noncomputable def tBo (P : Prop) (w : Option Value) : Prop := (P ∧ w = some (.int 1)) ∨ (¬ P ∧ w = some (.int 0))
theorem tBo_i {P R : Prop} {w : Option Value} (e : P ↔ R) (k : tBo P w) : tBo R w := k.imp (fun z => ⟨e.mp z.1, z.2⟩) (fun z => ⟨fun y => z.1 (e.mpr y), z.2⟩)
theorem zpB_c {b : Int × Int} {r : List (Int × Int)} {xs : List Int32} (h : zpB (b :: r) xs) : ∃ x ys, xs = x :: ys ∧ (b.1 ≤ x.toInt ∧ x.toInt ≤ b.2) ∧ zpB r ys := by
  obtain ⟨lo, hi⟩ := b
  cases xs with
  | nil => exact h.elim
  | cons x ys => exact ⟨x, ys, rfl, h.1, h.2⟩
theorem zpB_n {xs : List Int32} (h : zpB [] xs) : xs = [] := by
  cases xs with
  | nil => rfl
  | cons x ys => exact h.elim
theorem zclx {x : Int32} (h : 0 ≤ x.toInt) : (x.toNatClampNeg : Int) = x.toInt := by
  show ((x.toInt.toNat : Nat) : Int) = _
  omega
theorem zclE {x : Int32} : x.toNatClampNeg = x.toInt.toNat := rfl
theorem zeqi {x y : Int32} {Y : Int} (hy : y.toInt = Y) (h : x = y) : x.toInt = Y := by rw [h]; exact hy
theorem zneq {x y : Int32} {Y : Int} (hy : y.toInt = Y) (h : ¬ x = y) : x.toInt ≠ Y := fun z => h (Int32.toInt_inj.mp (z.trans hy.symm))
theorem zsub1 {x : Int32} (h : 0 ≤ x.toInt) : (x - 1).toInt = x.toInt - 1 := by
  have := Int32.toInt_lt x
  rw [Int32.toInt_sub]
  exact Int.bmod_eq_of_le (by show (-2147483648 : Int) ≤ x.toInt - 1; omega) (by show x.toInt - 1 < (2147483648 : Int); omega)
noncomputable def tRwl : List (Nat × Nat) := [(4, 5), (14, 15), (27, 28), (97, 98)]
noncomputable def tRw (h : zH) : Prop := ∀ q ∈ tRwl, ∀ i, i < tN h q.1 → tO h q.1 i = some (q.2 + i)
theorem tRw_A {h : zH} {r i : Nat} {x : Int32} (k : tRw h) : tRw (tSA h r i x) := by unfold tRw; rw [tO_tSA, tN_tSA]; exact k
theorem tRw_J {h : zH} {r i : Nat} {x : Int64} (k : tRw h) : tRw (tSJ h r i x) := by unfold tRw; rw [tO_tSJ, tN_tSJ]; exact k
theorem tRw_F {h : zH} {r b : Nat} {w : Value} (k : tRw h) : tRw (tSF h r b w) := by unfold tRw; rw [tO_tSF, tN_tSF]; exact k
theorem tRw_at {h : zH} (k : tRw h) {p q : Nat} (hm : (p, q) ∈ tRwl) {i : Int32} (z : tInO h p i) : zrf (tO h p i.toNatClampNeg) = .ref (q + i.toNatClampNeg) := by
  rw [k (p, q) hm _ z.rg.2]
  rfl
theorem tfr_N {xs : Nat → Int32} {τ : List Nat} {h h2 : zH} {W : Nat → Nat → Bool} {p t : Nat} (hB : zBs xs τ h) (hf : yFr W τ h h2) (ht : zTG[p]? = some t) : tN h2 p = tN h p := by
  obtain ⟨ct, c, a1, a2, -⟩ := hB.1.2 _ _ (hB.2.1 _ _ ht)
  obtain ⟨c2, b1, b2⟩ := hf _ _ _ (hB.2.1 _ _ ht) a2
  unfold tN
  rw [a2, b1]
  match c, c2, b2 with
  | .inr (x, fs), .inr (y, gs), b2 => rfl
  | .inl (k, N, x), .inl (k2, N2, y), b2 => exact b2.2.1.symm
theorem tfr_Fs {xs : Nat → Int32} {τ : List Nat} {h h2 : zH} {W : Nat → Nat → Bool} {p t b : Nat} (hB : zBs xs τ h) (hf : yFr W τ h h2) (ht : τ[p]? = some t) (hW : W t b = false) : tF h2 p b = tF h p b := by
  obtain ⟨ct, c, a1, a2, -⟩ := hB.1.2 _ _ ht
  obtain ⟨c2, b1, b2⟩ := hf _ _ _ ht a2
  unfold tF
  rw [a2, b1]
  match c, c2, b2 with
  | .inr (x, fs), .inr (y, gs), b2 =>
    dsimp only
    rw [List.getD_eq_getElem?_getD, List.getD_eq_getElem?_getD, b2.2.2 b hW]
  | .inl (k, N, x), .inl (k2, N2, y), b2 => rfl
theorem car_tag {xs : Nat → Int32} {τ : List Nat} {h : zH} (hB : zBs xs τ h) {i r : Nat} (hi : (i : Int) < (tvI (tF h 36 4)).toInt) (hr : tO h 39 i = some r) : τ[r]? = some 150 := by
  have hn := (kb_36_4 hB).2
  obtain ⟨a, b, c⟩ := tkd_o hB (p := 39) (t := 15) rfl rfl
  obtain ⟨-, -, c3⟩ := c i (by omega)
  rw [hr] at c3
  rcases c3 with z | z | z
  · cases z
  · have : zoi (some r) = (r : Int) := rfl
    omega
  · exact z
theorem car_lt {xs : Nat → Int32} {τ : List Nat} {h : zH} (hB : zBs xs τ h) {i r : Nat} (hi : (i : Int) < (tvI (tF h 36 4)).toInt) (hr : tO h 39 i = some r) : r < h.length := by
  have z := car_tag hB hi hr
  rcases Nat.lt_or_ge r τ.length with q | q
  · have := hB.1.1; omega
  · rw [List.getElem?_eq_none q] at z; cases z
theorem car_ne {xs : Nat → Int32} {τ : List Nat} {h : zH} (hB : zBs xs τ h) {i r : Nat} (hi : (i : Int) < (tvI (tF h 36 4)).toInt) (hr : tO h 39 i = some r) {p t : Nat} (ht : zTG[p]? = some t) (hn : t ≠ 150) : r ≠ p := by
  intro e
  subst e
  have z := car_tag hB hi hr
  rw [hB.2.1 _ _ ht] at z
  cases z
  exact hn rfl
theorem zBs_len {xs : Nat → Int32} {τ : List Nat} {h : zH} (hB : zBs xs τ h) : 182 ≤ h.length := by
  have z := hB.2.1 181 149 rfl
  rcases Nat.lt_or_ge 181 τ.length with q | q
  · have := hB.1.1; omega
  · rw [List.getElem?_eq_none q] at z; cases z
/-- a count: what is told is the next of so many, or none -/
noncomputable def phN (p b : Nat) (C : Prop) (h : zH) (w : Option Value) (h2 : zH) : Prop := (C ∧ w = some (tF h p b) ∧ tF h2 p b = .int (tvI (tF h p b) + 1)) ∨ (¬ C ∧ w = some (.int (-1)) ∧ tF h2 p b = tF h p b)
theorem phN_a {p b q c : Nat} {C D : Prop} {h h2 h3 : zH} {w w2 : Option Value} (hR : tF h p b = tF h q c) (e1 : tF h2 q c = tF h q c) (e2 : tF h3 p b = tF h2 p b) (hCD : C ↔ D) (k1 : phN p b C h w h2) (k2 : phN q c D h2 w2 h3) : w2 = w ∧ tF h3 p b = tF h3 q c := by
  rcases k1 with ⟨c1, rfl, f1⟩ | ⟨c1, rfl, f1⟩ <;> rcases k2 with ⟨c2, rfl, f2⟩ | ⟨c2, rfl, f2⟩
  · rw [e2, f1, f2, e1, hR]
    exact ⟨rfl, rfl⟩
  · exact absurd (hCD.mp c1) c2
  · exact absurd (hCD.mpr c2) c1
  · rw [e2, f1, f2, e1, hR]
    exact ⟨rfl, rfl⟩
theorem zi1 {x : Int32} : x + 1 - 1 = x := Int32.add_sub_cancel x 1
/-- a count and what is told in arrays at its place -/
noncomputable def phA (p b : Nat) (C : Prop) (l : List (Nat × Int32)) (h : zH) (w : Option Value) (h2 : zH) : Prop := (C ∧ w = some (tF h p b) ∧ tF h2 p b = .int (tvI (tF h p b) + 1) ∧ ∀ q ∈ l, tA h2 q.1 = fun j => if j = (tvI (tF h p b)).toNatClampNeg then q.2 else tA h q.1 j) ∨ (¬ C ∧ w = some (.int (-1)) ∧ tF h2 p b = tF h p b ∧ ∀ q ∈ l, tA h2 q.1 = tA h q.1)
theorem phA_a {p b q c : Nat} {C D : Prop} {l m : List (Nat × Int32)} {h h2 h3 : zH} {w w2 : Option Value} (hR : tF h p b = tF h q c) (e1 : tF h2 q c = tF h q c) (e2 : tF h3 p b = tF h2 p b) (hCD : C ↔ D) (k1 : phA p b C l h w h2) (k2 : phA q c D m h2 w2 h3) : w2 = w ∧ tF h3 p b = tF h3 q c ∧ ∀ P Q v, (P, v) ∈ l → (Q, v) ∈ m → tA h P = tA h Q → tA h2 Q = tA h Q → tA h3 P = tA h2 P → tA h3 P = tA h3 Q := by
  rcases k1 with ⟨c1, rfl, f1, g1⟩ | ⟨c1, rfl, f1, g1⟩ <;> rcases k2 with ⟨c2, rfl, f2, g2⟩ | ⟨c2, rfl, f2, g2⟩
  · refine ⟨by rw [e1, hR], by rw [e2, f1, f2, e1, hR], fun P Q v hP hQ a1 a2 a3 => ?_⟩
    rw [a3, g1 _ hP, g2 _ hQ, e1, ← hR]
    dsimp only
    rw [a1, a2]
  · exact absurd (hCD.mp c1) c2
  · exact absurd (hCD.mpr c2) c1
  · refine ⟨rfl, by rw [e2, f1, f2, e1, hR], fun P Q v hP hQ a1 a2 a3 => ?_⟩
    have h1 := g1 _ hP
    have h2 := g2 _ hQ
    dsimp only at h1 h2
    rw [a3, h1, h2, a1, a2]
theorem tA_st {h : zH} {r i : Nat} {x : Int32} {kd : Nat} {z : Int32} (hf : tIn h r kd z) {f : Nat → Int32} (k : tA h r = f) : tA (tSA h r i x) r = fun j => if j = i then x else f j := by
  rw [tA_tSA hf.cell]
  funext j
  dsimp only
  rw [k]
  by_cases e : j = i
  · rw [if_pos ⟨rfl, e⟩, if_pos e]
  · rw [if_neg (fun z => e z.2), if_neg e]
theorem tA_n {h : zH} {r i p : Nat} {x : Int32} {f : Nat → Int32} (hn : p ≠ r) (k : tA h p = f) : tA (tSA h r i x) p = f := by rw [tA_nz hn]; exact k
theorem tA_ff {h : zH} {r b p : Nat} {w : Value} {f : Nat → Int32} (k : tA h p = f) : tA (tSF h r b w) p = f := by rw [tA_tSF]; exact k
theorem tA_jj {h : zH} {r i p : Nat} {x : Int64} {f : Nat → Int32} (k : tA h p = f) : tA (tSJ h r i x) p = f := by rw [tA_tSJ]; exact k
theorem tA_oo {h : zH} {r i p : Nat} {x : Option Nat} {f : Nat → Int32} (k : tA h p = f) : tA (tSO h r i x) p = f := by rw [tA_tSO]; exact k
noncomputable def R_now (h : zH) : Prop := tF h 0 14 = tF h 111 1
noncomputable def ph_clock (p b : Nat) (month : Int32) (h : zH) (w : Option Value) (h2 : zH) : Prop := (((tvI (tF h p b)).toInt ≤ month.toInt ∧ month.toInt ≤ 599) ∧ w = some (.int 1) ∧ tF h2 p b = .int month) ∨ (¬ ((tvI (tF h p b)).toInt ≤ month.toInt ∧ month.toInt ≤ 599) ∧ w = some (.int 0) ∧ tF h2 p b = tF h p b)
theorem f_isWithin {G : zG} (hG : G.1 = zProg) {h : zH} {n lo hi : Int32} {LO HI : Int} (hlo : lo.toInt = LO) (hhi : hi.toInt = HI) : tC zTt G 158 [.int n, .int lo, .int hi] h (fun w h2 => tBo (LO ≤ n.toInt ∧ n.toInt ≤ HI) w ∧ h2 = h) := by
  refine tC_in (by rw [hG]; rfl) (fun dp => ?_)
  refine tw_iload rfl rfl ?_
  refine tw_iload rfl rfl ?_
  refine tw_ic_lt rfl (fun q1 => ?_) (fun q1 => ?_)
  · try dsimp only [tvI_i, tvJ_j, tvR_r] at q1
    refine tw_push rfl ?_
    exact tw_iret rfl ⟨Or.inr ⟨by omega, rfl⟩, rfl⟩
  · try dsimp only [tvI_i, tvJ_j, tvR_r] at q1
    refine tw_iload rfl rfl ?_
    refine tw_iload rfl rfl ?_
    refine tw_ic_gt rfl (fun q2 => ?_) (fun q2 => ?_)
    · try dsimp only [tvI_i, tvJ_j, tvR_r] at q2
      refine tw_push rfl ?_
      exact tw_iret rfl ⟨Or.inr ⟨by omega, rfl⟩, rfl⟩
    · try dsimp only [tvI_i, tvJ_j, tvR_r] at q2
      refine tw_push rfl ?_
      refine tw_goto rfl ?_
      exact tw_iret rfl ⟨Or.inl ⟨by omega, rfl⟩, rfl⟩
theorem f_isMonth {G : zG} (hG : G.1 = zProg) {h : zH} {n : Int32} : tC zTt G 159 [.int n] h (fun w h2 => tBo (0 ≤ n.toInt ∧ n.toInt ≤ 599) w ∧ h2 = h) := by
  refine tC_in (by rw [hG]; rfl) (fun dp => ?_)
  refine tw_iload rfl rfl ?_
  refine tw_push rfl ?_
  refine tw_push rfl ?_
  refine tw_stat3 rfl (f_isWithin hG (LO := 0) (HI := 599) (by decide) (by decide)) (fun w9 h9 p3 => ?_)
  obtain ⟨⟨p3, rfl⟩ | ⟨p3, rfl⟩, rfl⟩ := p3
  · try dsimp only [tvI_i, tvJ_j, tvR_r] at p3
    exact tw_iret rfl ⟨Or.inl ⟨p3, rfl⟩, rfl⟩
  · try dsimp only [tvI_i, tvJ_j, tvR_r] at p3
    exact tw_iret rfl ⟨Or.inr ⟨p3, rfl⟩, rfl⟩
theorem f_clock {G : zG} (hG : G.1 = zProg) {h : zH} {month : Int32} (hs : tSh h) (hk : 0 ≤ (tvI (tF h 0 14)).toInt) : tC zTt G 110 [.ref 0, .int month] h (ph_clock 0 14 month h) := by
  refine tC_in (by rw [hG]; rfl) (fun dp => ?_)
  refine tw_iload rfl rfl ?_
  refine tw_stat1 rfl (f_isMonth hG) (fun w9 h9 p4 => ?_)
  obtain ⟨⟨p4, rfl⟩ | ⟨p4, rfl⟩, rfl⟩ := p4
  · try dsimp only [tvI_i, tvJ_j, tvR_r] at p4
    refine tw_if_eq rfl (fun z => absurd z (by decide)) (fun _ => ?_)
    refine tw_iload rfl rfl ?_
    refine tw_aload rfl rfl ?_
    refine tw_getS rfl (hi_0_14 hs) ?_
    refine tw_ic_ge rfl (fun q5 => ?_) (fun q5 => ?_)
    · try dsimp only [tvI_i, tvJ_j, tvR_r] at q5
      refine tw_aload rfl rfl ?_
      refine tw_iload rfl rfl ?_
      refine tw_put rfl (fun f6 => ?_)
      refine tw_push rfl ?_
      exact tw_iret rfl (Or.inl ⟨by omega, rfl, (tF_same f6)⟩)
    · try dsimp only [tvI_i, tvJ_j, tvR_r] at q5
      refine tw_push rfl ?_
      exact tw_iret rfl (Or.inr ⟨by omega, rfl, rfl⟩)
  · try dsimp only [tvI_i, tvJ_j, tvR_r] at p4
    refine tw_if_eq rfl (fun _ => ?_) (fun z => absurd z (by decide))
    refine tw_push rfl ?_
    exact tw_iret rfl (Or.inr ⟨by omega, rfl, rfl⟩)
theorem f_in {G : zG} (hG : G.1 = zProg) {h : zH} {x lo hi : Int64} {X LO HI : Int} (hx : x.toInt = X) (hlo : lo.toInt = LO) (hhi : hi.toInt = HI) : tC zTt G 171 [.long x, .long lo, .long hi] h (fun w h2 => tBo (LO ≤ X ∧ X ≤ HI) w ∧ h2 = h) := by
  refine tC_in (by rw [hG]; rfl) (fun dp => ?_)
  refine tw_lload rfl rfl ?_
  refine tw_lload rfl rfl ?_
  refine tw_lc_lt rfl rfl (fun q7 => ?_) (fun q7 => ?_)
  · try dsimp only [tvI_i, tvJ_j, tvR_r] at q7
    refine tw_push rfl ?_
    exact tw_iret rfl ⟨Or.inr ⟨by omega, rfl⟩, rfl⟩
  · try dsimp only [tvI_i, tvJ_j, tvR_r] at q7
    refine tw_lload rfl rfl ?_
    refine tw_lload rfl rfl ?_
    refine tw_lc_gt rfl rfl (fun q8 => ?_) (fun q8 => ?_)
    · try dsimp only [tvI_i, tvJ_j, tvR_r] at q8
      refine tw_push rfl ?_
      exact tw_iret rfl ⟨Or.inr ⟨by omega, rfl⟩, rfl⟩
    · try dsimp only [tvI_i, tvJ_j, tvR_r] at q8
      refine tw_push rfl ?_
      refine tw_goto rfl ?_
      exact tw_iret rfl ⟨Or.inl ⟨by omega, rfl⟩, rfl⟩
theorem g_clock {G : zG} (hG : G.1 = zProg) {h : zH} {month : Int32} (hs : tSh h) : tC zTt G 174 [.ref 111, .int month] h (ph_clock 111 1 month h) := by
  refine tC_in (by rw [hG]; rfl) (fun dp => ?_)
  refine tw_iload rfl rfl ?_
  refine tw_i2l rfl ?_
  refine tw_aload rfl rfl ?_
  refine tw_getS rfl (hi_111_1 hs) ?_
  refine tw_i2l rfl ?_
  refine tw_push rfl ?_
  refine tw_stat3 rfl (f_in hG   (HI := 599) (Int32.toInt_toInt64 _) (Int32.toInt_toInt64 _) (by decide)) (fun w9 h9 p9 => ?_)
  obtain ⟨⟨p9, rfl⟩ | ⟨p9, rfl⟩, rfl⟩ := p9
  · try dsimp only [tvI_i, tvJ_j, tvR_r] at p9
    refine tw_if_ne rfl (fun _ => ?_) (fun z => absurd z (by decide))
    refine tw_aload rfl rfl ?_
    refine tw_iload rfl rfl ?_
    refine tw_put rfl (fun f10 => ?_)
    refine tw_push rfl ?_
    exact tw_iret rfl (Or.inl ⟨by omega, rfl, (tF_same f10)⟩)
  · try dsimp only [tvI_i, tvJ_j, tvR_r] at p9
    refine tw_if_ne rfl (fun z => absurd z (by decide)) (fun _ => ?_)
    refine tw_push rfl ?_
    exact tw_iret rfl (Or.inr ⟨by omega, rfl, rfl⟩)
theorem a_clock {month : Int32} {h h2 h3 : zH} {w w2 : Option Value} (hR : R_now h) (e1 : tF h2 111 1 = tF h 111 1) (e2 : tF h3 0 14 = tF h2 0 14) (k1 : ph_clock 0 14 month h w h2) (k2 : ph_clock 111 1 month h2 w2 h3) : w2 = w ∧ R_now h3 := by
  unfold R_now at *
  unfold ph_clock at k1 k2
  rw [e1, ← hR] at k2
  rw [e2]
  rcases k1 with ⟨c1, rfl, f1⟩ | ⟨c1, rfl, f1⟩ <;> rcases k2 with ⟨c2, rfl, f2⟩ | ⟨c2, rfl, f2⟩
  · exact ⟨rfl, f1.trans f2.symm⟩
  · exact absurd c1 c2
  · exact absurd c2 c1
  · exact ⟨rfl, f1.trans f2.symm⟩
noncomputable def R_rw (h : zH) : Prop := tRw h
noncomputable def R_kinds (h : zH) : Prop := tF h 1 6 = tF h 111 3
theorem f_isFirm {G : zG} (hG : G.1 = zProg) {h : zH} {n : Int32} : tC zTt G 160 [.int n] h (fun w h2 => tBo (0 ≤ n.toInt ∧ n.toInt ≤ 3) w ∧ h2 = h) := by
  refine tC_in (by rw [hG]; rfl) (fun dp => ?_)
  refine tw_iload rfl rfl ?_
  refine tw_push rfl ?_
  refine tw_push rfl ?_
  refine tw_stat3 rfl (f_isWithin hG (LO := 0) (HI := 3) (by decide) (by decide)) (fun w9 h9 p11 => ?_)
  obtain ⟨⟨p11, rfl⟩ | ⟨p11, rfl⟩, rfl⟩ := p11
  · try dsimp only [tvI_i, tvJ_j, tvR_r] at p11
    exact tw_iret rfl ⟨Or.inl ⟨p11, rfl⟩, rfl⟩
  · try dsimp only [tvI_i, tvJ_j, tvR_r] at p11
    exact tw_iret rfl ⟨Or.inr ⟨p11, rfl⟩, rfl⟩
theorem f_fill {G : zG} (hG : G.1 = zProg) {h : zH} {r : Nat} {a b c : Int32} : tC zTt G 30 [.ref r, .int a, .int b, .int c] h (fun w h2 => w = none ∧ h2 = tSA (tSA (tSA h r 0 a) r 1 b) r 2 c ∧ tIn h r 0 0 ∧ tIn (tSA h r 0 a) r 0 1 ∧ tIn (tSA (tSA h r 0 a) r 1 b) r 0 2) := by
  refine tC_in (by rw [hG]; rfl) (fun dp => ?_)
  refine tw_aload rfl rfl ?_
  refine tw_push rfl ?_
  refine tw_iload rfl rfl ?_
  refine tw_iast rfl (fun f12 => ?_)
  refine tw_aload rfl rfl ?_
  refine tw_push rfl ?_
  refine tw_iload rfl rfl ?_
  refine tw_iast rfl (fun f13 => ?_)
  refine tw_aload rfl rfl ?_
  refine tw_push rfl ?_
  refine tw_iload rfl rfl ?_
  refine tw_iast rfl (fun f14 => ?_)
  exact tw_vret rfl ⟨rfl, rfl, f12, f13, f14⟩
theorem wret1 {h : zH} {p b : Nat} (k : tF h p b = .int (tvI (tF h p b))) : some (Value.int (tvI (tF h p b) + 1 - 1)) = some (tF h p b) := by rw [zi1]; exact congrArg some k.symm
theorem f_addKind {G : zG} (hG : G.1 = zProg) {h : zH} {firm : Int32} {a : Int32} {b : Int32} {c : Int32} (hs : tSh h) (hr : tRw h) : tC zTt G 28 [.ref 1, .int firm, .int a, .int b, .int c] h (phN 1 6 ((tvI (tF h 1 6)).toInt ≠ 8) h) := by
  refine tC_in (by rw [hG]; rfl) (fun dp => ?_)
  refine tw_aload rfl rfl ?_
  refine tw_getS rfl (hi_1_6 hs) ?_
  refine tw_push rfl ?_
  refine tw_ic_ne rfl (fun q15 => ?_) (fun q15 => ?_)
  · try dsimp only [tvI_i, tvJ_j, tvR_r] at q15
    have q15i := zneq (Y := 8) (by decide) q15
    refine tw_aload rfl rfl ?_
    refine tw_getS rfl (hs_1_1 hs) ?_
    refine tw_aload rfl rfl ?_
    refine tw_getS rfl (hi_1_6 hs) ?_
    refine tw_iload rfl rfl ?_
    refine tw_iast rfl (fun f16 => ?_)
    refine tw_aload rfl rfl ?_
    refine tw_getS rfl (hs_1_2 (tSh_SA hs)) ?_
    refine tw_aload rfl rfl ?_
    refine tw_getS rfl (tF_a (hi_1_6 hs)) ?_
    refine tw_aaldS rfl (fun z => tRw_at (tRw_A hr) (p := 4) (q := 5) (by decide) z) ?_
    refine tw_iload rfl rfl ?_
    refine tw_iload rfl rfl ?_
    refine tw_iload rfl rfl ?_
    refine tw_stat4 rfl (f_fill hG) (fun wp18 hp18 p18 => ?_)
    obtain ⟨rfl, rfl, p18a, p18b, p18c⟩ := p18
    refine tw_aload rfl rfl ?_
    refine tw_dup rfl ?_
    refine tw_getS rfl (tF_a (tF_a (tF_a (tF_a (hi_1_6 hs))))) ?_
    refine tw_dup_x1 rfl ?_
    refine tw_push rfl ?_
    refine tw_iadd rfl ?_
    refine tw_put rfl (fun f19 => ?_)
    exact tw_iret rfl (Or.inl ⟨by omega, congrArg some (hi_1_6 hs).symm, (tF_same f19)⟩)
  · try dsimp only [tvI_i, tvJ_j, tvR_r] at q15
    have q15i := zeqi (Y := 8) (by decide) q15
    refine tw_push rfl ?_
    exact tw_iret rfl (Or.inr ⟨by omega, rfl, rfl⟩)
theorem f_kind {G : zG} (hG : G.1 = zProg) {h : zH} {firm : Int32} {a : Int32} {b : Int32} {c : Int32} (hs : tSh h) (hr : tRw h) : tC zTt G 113 [.ref 0, .int firm, .int a, .int b, .int c] h (phN 1 6 (((0 ≤ firm.toInt ∧ firm.toInt ≤ 3) ∧ (0 ≤ a.toInt ∧ a.toInt ≤ 99999) ∧ (0 ≤ b.toInt ∧ b.toInt ≤ 99999) ∧ (0 ≤ c.toInt ∧ c.toInt ≤ 99999)) ∧ (tvI (tF h 1 6)).toInt ≠ 8) h) := by
  refine tC_in (by rw [hG]; rfl) (fun dp => ?_)
  refine tw_iload rfl rfl ?_
  refine tw_stat1 rfl (f_isFirm hG) (fun w9 h9 p20 => ?_)
  obtain ⟨⟨p20, rfl⟩ | ⟨p20, rfl⟩, rfl⟩ := p20
  · try dsimp only [tvI_i, tvJ_j, tvR_r] at p20
    refine tw_if_eq rfl (fun z => absurd z (by decide)) (fun _ => ?_)
    refine tw_iload rfl rfl ?_
    refine tw_push rfl ?_
    refine tw_push rfl ?_
    refine tw_stat3 rfl (f_isWithin hG (LO := 0) (HI := 99999) (by decide) (by decide)) (fun w9 h9 p21 => ?_)
    obtain ⟨⟨p21, rfl⟩ | ⟨p21, rfl⟩, rfl⟩ := p21
    · try dsimp only [tvI_i, tvJ_j, tvR_r] at p21
      refine tw_if_eq rfl (fun z => absurd z (by decide)) (fun _ => ?_)
      refine tw_iload rfl rfl ?_
      refine tw_push rfl ?_
      refine tw_push rfl ?_
      refine tw_stat3 rfl (f_isWithin hG (LO := 0) (HI := 99999) (by decide) (by decide)) (fun w9 h9 p22 => ?_)
      obtain ⟨⟨p22, rfl⟩ | ⟨p22, rfl⟩, rfl⟩ := p22
      · try dsimp only [tvI_i, tvJ_j, tvR_r] at p22
        refine tw_if_eq rfl (fun z => absurd z (by decide)) (fun _ => ?_)
        refine tw_iload rfl rfl ?_
        refine tw_push rfl ?_
        refine tw_push rfl ?_
        refine tw_stat3 rfl (f_isWithin hG (LO := 0) (HI := 99999) (by decide) (by decide)) (fun w9 h9 p23 => ?_)
        obtain ⟨⟨p23, rfl⟩ | ⟨p23, rfl⟩, rfl⟩ := p23
        · try dsimp only [tvI_i, tvJ_j, tvR_r] at p23
          refine tw_if_eq rfl (fun z => absurd z (by decide)) (fun _ => ?_)
          refine tw_push rfl ?_
          refine tw_goto rfl ?_
          refine tw_istore rfl ?_
          refine tw_iload rfl rfl ?_
          refine tw_if_eq rfl (fun z => absurd z (by decide)) (fun _ => ?_)
          refine tw_aload rfl rfl ?_
          refine tw_getS rfl (hs_0_0 hs) ?_
          refine tw_iload rfl rfl ?_
          refine tw_iload rfl rfl ?_
          refine tw_iload rfl rfl ?_
          refine tw_iload rfl rfl ?_
          refine tw_virt4 rfl (f_addKind hG  hs hr) (fun w9 h9 p24 => ?_)
          rcases p24 with ⟨p24, rfl, p24e⟩ | ⟨p24, rfl, p24e⟩
          · refine tw_goto rfl ?_
            exact tw_iret rfl (Or.inl ⟨by omega, congrArg some (hi_1_6 hs).symm, p24e⟩)
          · refine tw_goto rfl ?_
            exact tw_iret rfl (Or.inr ⟨by omega, rfl, p24e⟩)
        · try dsimp only [tvI_i, tvJ_j, tvR_r] at p23
          refine tw_if_eq rfl (fun _ => ?_) (fun z => absurd z (by decide))
          refine tw_push rfl ?_
          refine tw_istore rfl ?_
          refine tw_iload rfl rfl ?_
          refine tw_if_eq rfl (fun _ => ?_) (fun z => absurd z (by decide))
          refine tw_push rfl ?_
          exact tw_iret rfl (Or.inr ⟨by omega, rfl, rfl⟩)
      · try dsimp only [tvI_i, tvJ_j, tvR_r] at p22
        refine tw_if_eq rfl (fun _ => ?_) (fun z => absurd z (by decide))
        refine tw_push rfl ?_
        refine tw_istore rfl ?_
        refine tw_iload rfl rfl ?_
        refine tw_if_eq rfl (fun _ => ?_) (fun z => absurd z (by decide))
        refine tw_push rfl ?_
        exact tw_iret rfl (Or.inr ⟨by omega, rfl, rfl⟩)
    · try dsimp only [tvI_i, tvJ_j, tvR_r] at p21
      refine tw_if_eq rfl (fun _ => ?_) (fun z => absurd z (by decide))
      refine tw_push rfl ?_
      refine tw_istore rfl ?_
      refine tw_iload rfl rfl ?_
      refine tw_if_eq rfl (fun _ => ?_) (fun z => absurd z (by decide))
      refine tw_push rfl ?_
      exact tw_iret rfl (Or.inr ⟨by omega, rfl, rfl⟩)
  · try dsimp only [tvI_i, tvJ_j, tvR_r] at p20
    refine tw_if_eq rfl (fun _ => ?_) (fun z => absurd z (by decide))
    refine tw_push rfl ?_
    refine tw_istore rfl ?_
    refine tw_iload rfl rfl ?_
    refine tw_if_eq rfl (fun _ => ?_) (fun z => absurd z (by decide))
    refine tw_push rfl ?_
    exact tw_iret rfl (Or.inr ⟨by omega, rfl, rfl⟩)
theorem g_kind {G : zG} (hG : G.1 = zProg) {h : zH} {firm : Int32} {a : Int32} {b : Int32} {c : Int32} (hs : tSh h)  : tC zTt G 181 [.ref 111, .int firm, .int a, .int b, .int c] h (phN 111 3 (((0 ≤ firm.toInt ∧ firm.toInt ≤ 3) ∧ (0 ≤ a.toInt ∧ a.toInt ≤ 99999) ∧ (0 ≤ b.toInt ∧ b.toInt ≤ 99999) ∧ (0 ≤ c.toInt ∧ c.toInt ≤ 99999)) ∧ (tvI (tF h 111 3)).toInt ≠ 8) h) := by
  refine tC_in (by rw [hG]; rfl) (fun dp => ?_)
  refine tw_aload rfl rfl ?_
  refine tw_getS rfl (hi_111_3 hs) ?_
  refine tw_push rfl ?_
  refine tw_ic_eq rfl (fun q25 => ?_) (fun q25 => ?_)
  · try dsimp only [tvI_i, tvJ_j, tvR_r] at q25
    have q25i := zeqi (Y := 8) (by decide) q25
    refine tw_push rfl ?_
    exact tw_iret rfl (Or.inr ⟨by omega, rfl, rfl⟩)
  · try dsimp only [tvI_i, tvJ_j, tvR_r] at q25
    have q25i := zneq (Y := 8) (by decide) q25
    refine tw_iload rfl rfl ?_
    refine tw_i2l rfl ?_
    refine tw_push rfl ?_
    refine tw_push rfl ?_
    refine tw_stat3 rfl (f_in hG  (LO := 0) (HI := 3) (Int32.toInt_toInt64 _) (by decide) (by decide)) (fun w9 h9 p26 => ?_)
    obtain ⟨⟨p26, rfl⟩ | ⟨p26, rfl⟩, rfl⟩ := p26
    · try dsimp only [tvI_i, tvJ_j, tvR_r] at p26
      refine tw_if_eq rfl (fun z => absurd z (by decide)) (fun _ => ?_)
      refine tw_iload rfl rfl ?_
      refine tw_i2l rfl ?_
      refine tw_push rfl ?_
      refine tw_push rfl ?_
      refine tw_stat3 rfl (f_in hG  (LO := 0) (HI := 99999) (Int32.toInt_toInt64 _) (by decide) (by decide)) (fun w9 h9 p27 => ?_)
      obtain ⟨⟨p27, rfl⟩ | ⟨p27, rfl⟩, rfl⟩ := p27
      · try dsimp only [tvI_i, tvJ_j, tvR_r] at p27
        refine tw_if_eq rfl (fun z => absurd z (by decide)) (fun _ => ?_)
        refine tw_iload rfl rfl ?_
        refine tw_i2l rfl ?_
        refine tw_push rfl ?_
        refine tw_push rfl ?_
        refine tw_stat3 rfl (f_in hG  (LO := 0) (HI := 99999) (Int32.toInt_toInt64 _) (by decide) (by decide)) (fun w9 h9 p28 => ?_)
        obtain ⟨⟨p28, rfl⟩ | ⟨p28, rfl⟩, rfl⟩ := p28
        · try dsimp only [tvI_i, tvJ_j, tvR_r] at p28
          refine tw_if_eq rfl (fun z => absurd z (by decide)) (fun _ => ?_)
          refine tw_iload rfl rfl ?_
          refine tw_i2l rfl ?_
          refine tw_push rfl ?_
          refine tw_push rfl ?_
          refine tw_stat3 rfl (f_in hG  (LO := 0) (HI := 99999) (Int32.toInt_toInt64 _) (by decide) (by decide)) (fun w9 h9 p29 => ?_)
          obtain ⟨⟨p29, rfl⟩ | ⟨p29, rfl⟩, rfl⟩ := p29
          · try dsimp only [tvI_i, tvJ_j, tvR_r] at p29
            refine tw_if_ne rfl (fun _ => ?_) (fun z => absurd z (by decide))
            refine tw_aload rfl rfl ?_
            refine tw_getS rfl (hs_111_9 hs) ?_
            refine tw_aload rfl rfl ?_
            refine tw_getS rfl (hi_111_3 hs) ?_
            refine tw_iload rfl rfl ?_
            refine tw_iast rfl (fun f30 => ?_)
            refine tw_aload rfl rfl ?_
            refine tw_getS rfl (hs_111_10 (tSh_SA hs)) ?_
            refine tw_push rfl ?_
            refine tw_aload rfl rfl ?_
            refine tw_getS rfl (tF_a (hi_111_3 hs)) ?_
            refine tw_imul rfl ?_
            refine tw_iload rfl rfl ?_
            refine tw_iast rfl (fun f31 => ?_)
            refine tw_aload rfl rfl ?_
            refine tw_getS rfl (hs_111_10 (tSh_SA (tSh_SA hs))) ?_
            refine tw_push rfl ?_
            refine tw_aload rfl rfl ?_
            refine tw_getS rfl (tF_a (tF_a (hi_111_3 hs))) ?_
            refine tw_imul rfl ?_
            refine tw_push rfl ?_
            refine tw_iadd rfl ?_
            refine tw_iload rfl rfl ?_
            refine tw_iast rfl (fun f32 => ?_)
            refine tw_aload rfl rfl ?_
            refine tw_getS rfl (hs_111_10 (tSh_SA (tSh_SA (tSh_SA hs)))) ?_
            refine tw_push rfl ?_
            refine tw_aload rfl rfl ?_
            refine tw_getS rfl (tF_a (tF_a (tF_a (hi_111_3 hs)))) ?_
            refine tw_imul rfl ?_
            refine tw_push rfl ?_
            refine tw_iadd rfl ?_
            refine tw_iload rfl rfl ?_
            refine tw_iast rfl (fun f33 => ?_)
            refine tw_aload rfl rfl ?_
            refine tw_dup rfl ?_
            refine tw_getS rfl (tF_a (tF_a (tF_a (tF_a (hi_111_3 hs))))) ?_
            refine tw_push rfl ?_
            refine tw_iadd rfl ?_
            refine tw_put rfl (fun f34 => ?_)
            refine tw_aload rfl rfl ?_
            refine tw_getS rfl (tF_same f34) ?_
            refine tw_push rfl ?_
            refine tw_isub rfl ?_
            exact tw_iret rfl (Or.inl ⟨by omega, wret1 (hi_111_3 hs), (tF_same f34)⟩)
          · try dsimp only [tvI_i, tvJ_j, tvR_r] at p29
            refine tw_if_ne rfl (fun z => absurd z (by decide)) (fun _ => ?_)
            refine tw_push rfl ?_
            exact tw_iret rfl (Or.inr ⟨by omega, rfl, rfl⟩)
        · try dsimp only [tvI_i, tvJ_j, tvR_r] at p28
          refine tw_if_eq rfl (fun _ => ?_) (fun z => absurd z (by decide))
          refine tw_push rfl ?_
          exact tw_iret rfl (Or.inr ⟨by omega, rfl, rfl⟩)
      · try dsimp only [tvI_i, tvJ_j, tvR_r] at p27
        refine tw_if_eq rfl (fun _ => ?_) (fun z => absurd z (by decide))
        refine tw_push rfl ?_
        exact tw_iret rfl (Or.inr ⟨by omega, rfl, rfl⟩)
    · try dsimp only [tvI_i, tvJ_j, tvR_r] at p26
      refine tw_if_eq rfl (fun _ => ?_) (fun z => absurd z (by decide))
      refine tw_push rfl ?_
      exact tw_iret rfl (Or.inr ⟨by omega, rfl, rfl⟩)
theorem a_kind {firm : Int32} {a : Int32} {b : Int32} {c : Int32} {h h2 h3 : zH} {w w2 : Option Value}  (hR : R_kinds h) (e1 : tF h2 111 3 = tF h 111 3) (e2 : tF h3 1 6 = tF h2 1 6) (k1 : phN 1 6 (((0 ≤ firm.toInt ∧ firm.toInt ≤ 3) ∧ (0 ≤ a.toInt ∧ a.toInt ≤ 99999) ∧ (0 ≤ b.toInt ∧ b.toInt ≤ 99999) ∧ (0 ≤ c.toInt ∧ c.toInt ≤ 99999)) ∧ (tvI (tF h 1 6)).toInt ≠ 8) h w h2) (k2 : phN 111 3 (((0 ≤ firm.toInt ∧ firm.toInt ≤ 3) ∧ (0 ≤ a.toInt ∧ a.toInt ≤ 99999) ∧ (0 ≤ b.toInt ∧ b.toInt ≤ 99999) ∧ (0 ≤ c.toInt ∧ c.toInt ≤ 99999)) ∧ (tvI (tF h2 111 3)).toInt ≠ 8) h2 w2 h3) : w2 = w ∧ R_kinds h3 := by
  refine phN_a hR e1 e2 ?_ k1 k2
  have hR2 := hR
  unfold R_kinds at hR2
  rw [e1, ← hR2]
noncomputable def R_people (h : zH) : Prop := tF h 36 2 = tF h 111 2
theorem f_addPerson {G : zG} (hG : G.1 = zProg) {h : zH} {firm : Int32} (hs : tSh h) : tC zTt G 16 [.ref 36, .int firm] h (phN 36 2 ((tvI (tF h 36 2)).toInt ≠ 60) h) := by
  refine tC_in (by rw [hG]; rfl) (fun dp => ?_)
  refine tw_aload rfl rfl ?_
  refine tw_getS rfl (hi_36_2 hs) ?_
  refine tw_push rfl ?_
  refine tw_ic_ne rfl (fun q35 => ?_) (fun q35 => ?_)
  · try dsimp only [tvI_i, tvJ_j, tvR_r] at q35
    have q35i := zneq (Y := 60) (by decide) q35
    refine tw_aload rfl rfl ?_
    refine tw_getS rfl (hs_36_0 hs) ?_
    refine tw_aload rfl rfl ?_
    refine tw_getS rfl (hi_36_2 hs) ?_
    refine tw_iload rfl rfl ?_
    refine tw_iast rfl (fun f36 => ?_)
    refine tw_aload rfl rfl ?_
    refine tw_dup rfl ?_
    refine tw_getS rfl (tF_a (hi_36_2 hs)) ?_
    refine tw_dup_x1 rfl ?_
    refine tw_push rfl ?_
    refine tw_iadd rfl ?_
    refine tw_put rfl (fun f37 => ?_)
    exact tw_iret rfl (Or.inl ⟨by omega, congrArg some (hi_36_2 hs).symm, (tF_same f37)⟩)
  · try dsimp only [tvI_i, tvJ_j, tvR_r] at q35
    have q35i := zeqi (Y := 60) (by decide) q35
    refine tw_push rfl ?_
    exact tw_iret rfl (Or.inr ⟨by omega, rfl, rfl⟩)
theorem f_person {G : zG} (hG : G.1 = zProg) {h : zH} {firm : Int32} (hs : tSh h) : tC zTt G 111 [.ref 0, .int firm] h (phN 36 2 ((-1 ≤ firm.toInt ∧ firm.toInt ≤ 3) ∧ (tvI (tF h 36 2)).toInt ≠ 60) h) := by
  refine tC_in (by rw [hG]; rfl) (fun dp => ?_)
  refine tw_iload rfl rfl ?_
  refine tw_push rfl ?_
  refine tw_ic_eq rfl (fun q38 => ?_) (fun q38 => ?_)
  · try dsimp only [tvI_i, tvJ_j, tvR_r] at q38
    have q38i := zeqi (Y := (-1)) (by decide) q38
    refine tw_aload rfl rfl ?_
    refine tw_getS rfl (hs_0_1 hs) ?_
    refine tw_iload rfl rfl ?_
    refine tw_virt1 rfl (f_addPerson hG  hs) (fun w9 h9 p39 => ?_)
    rcases p39 with ⟨p39, rfl, p39e⟩ | ⟨p39, rfl, p39e⟩
    · refine tw_goto rfl ?_
      exact tw_iret rfl (Or.inl ⟨by omega, congrArg some (hi_36_2 hs).symm, p39e⟩)
    · refine tw_goto rfl ?_
      exact tw_iret rfl (Or.inr ⟨by omega, rfl, p39e⟩)
  · try dsimp only [tvI_i, tvJ_j, tvR_r] at q38
    have q38i := zneq (Y := (-1)) (by decide) q38
    refine tw_iload rfl rfl ?_
    refine tw_stat1 rfl (f_isFirm hG) (fun w9 h9 p40 => ?_)
    obtain ⟨⟨p40, rfl⟩ | ⟨p40, rfl⟩, rfl⟩ := p40
    · try dsimp only [tvI_i, tvJ_j, tvR_r] at p40
      refine tw_if_eq rfl (fun z => absurd z (by decide)) (fun _ => ?_)
      refine tw_aload rfl rfl ?_
      refine tw_getS rfl (hs_0_1 hs) ?_
      refine tw_iload rfl rfl ?_
      refine tw_virt1 rfl (f_addPerson hG  hs) (fun w9 h9 p41 => ?_)
      rcases p41 with ⟨p41, rfl, p41e⟩ | ⟨p41, rfl, p41e⟩
      · refine tw_goto rfl ?_
        exact tw_iret rfl (Or.inl ⟨by omega, congrArg some (hi_36_2 hs).symm, p41e⟩)
      · refine tw_goto rfl ?_
        exact tw_iret rfl (Or.inr ⟨by omega, rfl, p41e⟩)
    · try dsimp only [tvI_i, tvJ_j, tvR_r] at p40
      refine tw_if_eq rfl (fun _ => ?_) (fun z => absurd z (by decide))
      refine tw_push rfl ?_
      exact tw_iret rfl (Or.inr ⟨by omega, rfl, rfl⟩)
theorem g_person {G : zG} (hG : G.1 = zProg) {h : zH} {firm : Int32} (hs : tSh h)  : tC zTt G 179 [.ref 111, .int firm] h (phN 111 2 ((-1 ≤ firm.toInt ∧ firm.toInt ≤ 3) ∧ (tvI (tF h 111 2)).toInt ≠ 60) h) := by
  refine tC_in (by rw [hG]; rfl) (fun dp => ?_)
  refine tw_aload rfl rfl ?_
  refine tw_getS rfl (hi_111_2 hs) ?_
  refine tw_push rfl ?_
  refine tw_ic_eq rfl (fun q42 => ?_) (fun q42 => ?_)
  · try dsimp only [tvI_i, tvJ_j, tvR_r] at q42
    have q42i := zeqi (Y := 60) (by decide) q42
    refine tw_push rfl ?_
    exact tw_iret rfl (Or.inr ⟨by omega, rfl, rfl⟩)
  · try dsimp only [tvI_i, tvJ_j, tvR_r] at q42
    have q42i := zneq (Y := 60) (by decide) q42
    refine tw_iload rfl rfl ?_
    refine tw_i2l rfl ?_
    refine tw_push rfl ?_
    refine tw_push rfl ?_
    refine tw_stat3 rfl (f_in hG  (LO := (-1)) (HI := 3) (Int32.toInt_toInt64 _) (by decide) (by decide)) (fun w9 h9 p43 => ?_)
    obtain ⟨⟨p43, rfl⟩ | ⟨p43, rfl⟩, rfl⟩ := p43
    · try dsimp only [tvI_i, tvJ_j, tvR_r] at p43
      refine tw_if_ne rfl (fun _ => ?_) (fun z => absurd z (by decide))
      refine tw_aload rfl rfl ?_
      refine tw_getS rfl (hs_111_7 hs) ?_
      refine tw_aload rfl rfl ?_
      refine tw_getS rfl (hi_111_2 hs) ?_
      refine tw_iload rfl rfl ?_
      refine tw_iast rfl (fun f44 => ?_)
      refine tw_aload rfl rfl ?_
      refine tw_dup rfl ?_
      refine tw_getS rfl (tF_a (hi_111_2 hs)) ?_
      refine tw_push rfl ?_
      refine tw_iadd rfl ?_
      refine tw_put rfl (fun f45 => ?_)
      refine tw_aload rfl rfl ?_
      refine tw_getS rfl (tF_same f45) ?_
      refine tw_push rfl ?_
      refine tw_isub rfl ?_
      exact tw_iret rfl (Or.inl ⟨by omega, wret1 (hi_111_2 hs), (tF_same f45)⟩)
    · try dsimp only [tvI_i, tvJ_j, tvR_r] at p43
      refine tw_if_ne rfl (fun z => absurd z (by decide)) (fun _ => ?_)
      refine tw_push rfl ?_
      exact tw_iret rfl (Or.inr ⟨by omega, rfl, rfl⟩)
theorem a_person {firm : Int32} {h h2 h3 : zH} {w w2 : Option Value}  (hR : R_people h) (e1 : tF h2 111 2 = tF h 111 2) (e2 : tF h3 36 2 = tF h2 36 2) (k1 : phN 36 2 ((-1 ≤ firm.toInt ∧ firm.toInt ≤ 3) ∧ (tvI (tF h 36 2)).toInt ≠ 60) h w h2) (k2 : phN 111 2 ((-1 ≤ firm.toInt ∧ firm.toInt ≤ 3) ∧ (tvI (tF h2 111 2)).toInt ≠ 60) h2 w2 h3) : w2 = w ∧ R_people h3 := by
  refine phN_a hR e1 e2 ?_ k1 k2
  have hR2 := hR
  unfold R_people at hR2
  rw [e1, ← hR2]
noncomputable def R_parts (h : zH) : Prop := tF h 1 7 = tF h 111 4
theorem f_addPart {G : zG} (hG : G.1 = zProg) {h : zH} {price : Int32} {a : Int32} {b : Int32} {c : Int32} (hs : tSh h) (hr : tRw h) : tC zTt G 29 [.ref 1, .int price, .int a, .int b, .int c] h (phN 1 7 ((tvI (tF h 1 7)).toInt ≠ 12) h) := by
  refine tC_in (by rw [hG]; rfl) (fun dp => ?_)
  refine tw_aload rfl rfl ?_
  refine tw_getS rfl (hi_1_7 hs) ?_
  refine tw_push rfl ?_
  refine tw_ic_ne rfl (fun q46 => ?_) (fun q46 => ?_)
  · try dsimp only [tvI_i, tvJ_j, tvR_r] at q46
    have q46i := zneq (Y := 12) (by decide) q46
    refine tw_aload rfl rfl ?_
    refine tw_getS rfl (hs_1_3 hs) ?_
    refine tw_aload rfl rfl ?_
    refine tw_getS rfl (hi_1_7 hs) ?_
    refine tw_iload rfl rfl ?_
    refine tw_iast rfl (fun f47 => ?_)
    refine tw_aload rfl rfl ?_
    refine tw_getS rfl (hs_1_4 (tSh_SA hs)) ?_
    refine tw_aload rfl rfl ?_
    refine tw_getS rfl (tF_a (hi_1_7 hs)) ?_
    refine tw_aaldS rfl (fun z => tRw_at (tRw_A hr) (p := 14) (q := 15) (by decide) z) ?_
    refine tw_iload rfl rfl ?_
    refine tw_iload rfl rfl ?_
    refine tw_iload rfl rfl ?_
    refine tw_stat4 rfl (f_fill hG) (fun wp49 hp49 p49 => ?_)
    obtain ⟨rfl, rfl, p49a, p49b, p49c⟩ := p49
    refine tw_aload rfl rfl ?_
    refine tw_dup rfl ?_
    refine tw_getS rfl (tF_a (tF_a (tF_a (tF_a (hi_1_7 hs))))) ?_
    refine tw_dup_x1 rfl ?_
    refine tw_push rfl ?_
    refine tw_iadd rfl ?_
    refine tw_put rfl (fun f50 => ?_)
    exact tw_iret rfl (Or.inl ⟨by omega, congrArg some (hi_1_7 hs).symm, (tF_same f50)⟩)
  · try dsimp only [tvI_i, tvJ_j, tvR_r] at q46
    have q46i := zeqi (Y := 12) (by decide) q46
    refine tw_push rfl ?_
    exact tw_iret rfl (Or.inr ⟨by omega, rfl, rfl⟩)
theorem f_part {G : zG} (hG : G.1 = zProg) {h : zH} {price : Int32} {a : Int32} {b : Int32} {c : Int32} (hs : tSh h) (hr : tRw h) : tC zTt G 114 [.ref 0, .int price, .int a, .int b, .int c] h (phN 1 7 (((0 ≤ price.toInt ∧ price.toInt ≤ 9999) ∧ (0 ≤ a.toInt ∧ a.toInt ≤ 9999) ∧ (0 ≤ b.toInt ∧ b.toInt ≤ 9999) ∧ (0 ≤ c.toInt ∧ c.toInt ≤ 9999)) ∧ (tvI (tF h 1 7)).toInt ≠ 12) h) := by
  refine tC_in (by rw [hG]; rfl) (fun dp => ?_)
  refine tw_iload rfl rfl ?_
  refine tw_push rfl ?_
  refine tw_push rfl ?_
  refine tw_stat3 rfl (f_isWithin hG (LO := 0) (HI := 9999) (by decide) (by decide)) (fun w9 h9 p51 => ?_)
  obtain ⟨⟨p51, rfl⟩ | ⟨p51, rfl⟩, rfl⟩ := p51
  · try dsimp only [tvI_i, tvJ_j, tvR_r] at p51
    refine tw_if_eq rfl (fun z => absurd z (by decide)) (fun _ => ?_)
    refine tw_iload rfl rfl ?_
    refine tw_push rfl ?_
    refine tw_push rfl ?_
    refine tw_stat3 rfl (f_isWithin hG (LO := 0) (HI := 9999) (by decide) (by decide)) (fun w9 h9 p52 => ?_)
    obtain ⟨⟨p52, rfl⟩ | ⟨p52, rfl⟩, rfl⟩ := p52
    · try dsimp only [tvI_i, tvJ_j, tvR_r] at p52
      refine tw_if_eq rfl (fun z => absurd z (by decide)) (fun _ => ?_)
      refine tw_iload rfl rfl ?_
      refine tw_push rfl ?_
      refine tw_push rfl ?_
      refine tw_stat3 rfl (f_isWithin hG (LO := 0) (HI := 9999) (by decide) (by decide)) (fun w9 h9 p53 => ?_)
      obtain ⟨⟨p53, rfl⟩ | ⟨p53, rfl⟩, rfl⟩ := p53
      · try dsimp only [tvI_i, tvJ_j, tvR_r] at p53
        refine tw_if_eq rfl (fun z => absurd z (by decide)) (fun _ => ?_)
        refine tw_iload rfl rfl ?_
        refine tw_push rfl ?_
        refine tw_push rfl ?_
        refine tw_stat3 rfl (f_isWithin hG (LO := 0) (HI := 9999) (by decide) (by decide)) (fun w9 h9 p54 => ?_)
        obtain ⟨⟨p54, rfl⟩ | ⟨p54, rfl⟩, rfl⟩ := p54
        · try dsimp only [tvI_i, tvJ_j, tvR_r] at p54
          refine tw_if_eq rfl (fun z => absurd z (by decide)) (fun _ => ?_)
          refine tw_push rfl ?_
          refine tw_goto rfl ?_
          refine tw_istore rfl ?_
          refine tw_iload rfl rfl ?_
          refine tw_if_eq rfl (fun z => absurd z (by decide)) (fun _ => ?_)
          refine tw_aload rfl rfl ?_
          refine tw_getS rfl (hs_0_0 hs) ?_
          refine tw_iload rfl rfl ?_
          refine tw_iload rfl rfl ?_
          refine tw_iload rfl rfl ?_
          refine tw_iload rfl rfl ?_
          refine tw_virt4 rfl (f_addPart hG  hs hr) (fun w9 h9 p55 => ?_)
          rcases p55 with ⟨p55, rfl, p55e⟩ | ⟨p55, rfl, p55e⟩
          · refine tw_goto rfl ?_
            exact tw_iret rfl (Or.inl ⟨by omega, congrArg some (hi_1_7 hs).symm, p55e⟩)
          · refine tw_goto rfl ?_
            exact tw_iret rfl (Or.inr ⟨by omega, rfl, p55e⟩)
        · try dsimp only [tvI_i, tvJ_j, tvR_r] at p54
          refine tw_if_eq rfl (fun _ => ?_) (fun z => absurd z (by decide))
          refine tw_push rfl ?_
          refine tw_istore rfl ?_
          refine tw_iload rfl rfl ?_
          refine tw_if_eq rfl (fun _ => ?_) (fun z => absurd z (by decide))
          refine tw_push rfl ?_
          exact tw_iret rfl (Or.inr ⟨by omega, rfl, rfl⟩)
      · try dsimp only [tvI_i, tvJ_j, tvR_r] at p53
        refine tw_if_eq rfl (fun _ => ?_) (fun z => absurd z (by decide))
        refine tw_push rfl ?_
        refine tw_istore rfl ?_
        refine tw_iload rfl rfl ?_
        refine tw_if_eq rfl (fun _ => ?_) (fun z => absurd z (by decide))
        refine tw_push rfl ?_
        exact tw_iret rfl (Or.inr ⟨by omega, rfl, rfl⟩)
    · try dsimp only [tvI_i, tvJ_j, tvR_r] at p52
      refine tw_if_eq rfl (fun _ => ?_) (fun z => absurd z (by decide))
      refine tw_push rfl ?_
      refine tw_istore rfl ?_
      refine tw_iload rfl rfl ?_
      refine tw_if_eq rfl (fun _ => ?_) (fun z => absurd z (by decide))
      refine tw_push rfl ?_
      exact tw_iret rfl (Or.inr ⟨by omega, rfl, rfl⟩)
  · try dsimp only [tvI_i, tvJ_j, tvR_r] at p51
    refine tw_if_eq rfl (fun _ => ?_) (fun z => absurd z (by decide))
    refine tw_push rfl ?_
    refine tw_istore rfl ?_
    refine tw_iload rfl rfl ?_
    refine tw_if_eq rfl (fun _ => ?_) (fun z => absurd z (by decide))
    refine tw_push rfl ?_
    exact tw_iret rfl (Or.inr ⟨by omega, rfl, rfl⟩)
theorem g_part {G : zG} (hG : G.1 = zProg) {h : zH} {price : Int32} {a : Int32} {b : Int32} {c : Int32} (hs : tSh h)  : tC zTt G 182 [.ref 111, .int price, .int a, .int b, .int c] h (phN 111 4 (((0 ≤ price.toInt ∧ price.toInt ≤ 9999) ∧ (0 ≤ a.toInt ∧ a.toInt ≤ 9999) ∧ (0 ≤ b.toInt ∧ b.toInt ≤ 9999) ∧ (0 ≤ c.toInt ∧ c.toInt ≤ 9999)) ∧ (tvI (tF h 111 4)).toInt ≠ 12) h) := by
  refine tC_in (by rw [hG]; rfl) (fun dp => ?_)
  refine tw_aload rfl rfl ?_
  refine tw_getS rfl (hi_111_4 hs) ?_
  refine tw_push rfl ?_
  refine tw_ic_eq rfl (fun q56 => ?_) (fun q56 => ?_)
  · try dsimp only [tvI_i, tvJ_j, tvR_r] at q56
    have q56i := zeqi (Y := 12) (by decide) q56
    refine tw_push rfl ?_
    exact tw_iret rfl (Or.inr ⟨by omega, rfl, rfl⟩)
  · try dsimp only [tvI_i, tvJ_j, tvR_r] at q56
    have q56i := zneq (Y := 12) (by decide) q56
    refine tw_iload rfl rfl ?_
    refine tw_i2l rfl ?_
    refine tw_push rfl ?_
    refine tw_push rfl ?_
    refine tw_stat3 rfl (f_in hG  (LO := 0) (HI := 9999) (Int32.toInt_toInt64 _) (by decide) (by decide)) (fun w9 h9 p57 => ?_)
    obtain ⟨⟨p57, rfl⟩ | ⟨p57, rfl⟩, rfl⟩ := p57
    · try dsimp only [tvI_i, tvJ_j, tvR_r] at p57
      refine tw_if_eq rfl (fun z => absurd z (by decide)) (fun _ => ?_)
      refine tw_iload rfl rfl ?_
      refine tw_i2l rfl ?_
      refine tw_push rfl ?_
      refine tw_push rfl ?_
      refine tw_stat3 rfl (f_in hG  (LO := 0) (HI := 9999) (Int32.toInt_toInt64 _) (by decide) (by decide)) (fun w9 h9 p58 => ?_)
      obtain ⟨⟨p58, rfl⟩ | ⟨p58, rfl⟩, rfl⟩ := p58
      · try dsimp only [tvI_i, tvJ_j, tvR_r] at p58
        refine tw_if_eq rfl (fun z => absurd z (by decide)) (fun _ => ?_)
        refine tw_iload rfl rfl ?_
        refine tw_i2l rfl ?_
        refine tw_push rfl ?_
        refine tw_push rfl ?_
        refine tw_stat3 rfl (f_in hG  (LO := 0) (HI := 9999) (Int32.toInt_toInt64 _) (by decide) (by decide)) (fun w9 h9 p59 => ?_)
        obtain ⟨⟨p59, rfl⟩ | ⟨p59, rfl⟩, rfl⟩ := p59
        · try dsimp only [tvI_i, tvJ_j, tvR_r] at p59
          refine tw_if_eq rfl (fun z => absurd z (by decide)) (fun _ => ?_)
          refine tw_iload rfl rfl ?_
          refine tw_i2l rfl ?_
          refine tw_push rfl ?_
          refine tw_push rfl ?_
          refine tw_stat3 rfl (f_in hG  (LO := 0) (HI := 9999) (Int32.toInt_toInt64 _) (by decide) (by decide)) (fun w9 h9 p60 => ?_)
          obtain ⟨⟨p60, rfl⟩ | ⟨p60, rfl⟩, rfl⟩ := p60
          · try dsimp only [tvI_i, tvJ_j, tvR_r] at p60
            refine tw_if_ne rfl (fun _ => ?_) (fun z => absurd z (by decide))
            refine tw_aload rfl rfl ?_
            refine tw_getS rfl (hs_111_11 hs) ?_
            refine tw_aload rfl rfl ?_
            refine tw_getS rfl (hi_111_4 hs) ?_
            refine tw_iload rfl rfl ?_
            refine tw_iast rfl (fun f61 => ?_)
            refine tw_aload rfl rfl ?_
            refine tw_getS rfl (hs_111_12 (tSh_SA hs)) ?_
            refine tw_push rfl ?_
            refine tw_aload rfl rfl ?_
            refine tw_getS rfl (tF_a (hi_111_4 hs)) ?_
            refine tw_imul rfl ?_
            refine tw_iload rfl rfl ?_
            refine tw_iast rfl (fun f62 => ?_)
            refine tw_aload rfl rfl ?_
            refine tw_getS rfl (hs_111_12 (tSh_SA (tSh_SA hs))) ?_
            refine tw_push rfl ?_
            refine tw_aload rfl rfl ?_
            refine tw_getS rfl (tF_a (tF_a (hi_111_4 hs))) ?_
            refine tw_imul rfl ?_
            refine tw_push rfl ?_
            refine tw_iadd rfl ?_
            refine tw_iload rfl rfl ?_
            refine tw_iast rfl (fun f63 => ?_)
            refine tw_aload rfl rfl ?_
            refine tw_getS rfl (hs_111_12 (tSh_SA (tSh_SA (tSh_SA hs)))) ?_
            refine tw_push rfl ?_
            refine tw_aload rfl rfl ?_
            refine tw_getS rfl (tF_a (tF_a (tF_a (hi_111_4 hs)))) ?_
            refine tw_imul rfl ?_
            refine tw_push rfl ?_
            refine tw_iadd rfl ?_
            refine tw_iload rfl rfl ?_
            refine tw_iast rfl (fun f64 => ?_)
            refine tw_aload rfl rfl ?_
            refine tw_dup rfl ?_
            refine tw_getS rfl (tF_a (tF_a (tF_a (tF_a (hi_111_4 hs))))) ?_
            refine tw_push rfl ?_
            refine tw_iadd rfl ?_
            refine tw_put rfl (fun f65 => ?_)
            refine tw_aload rfl rfl ?_
            refine tw_getS rfl (tF_same f65) ?_
            refine tw_push rfl ?_
            refine tw_isub rfl ?_
            exact tw_iret rfl (Or.inl ⟨by omega, wret1 (hi_111_4 hs), (tF_same f65)⟩)
          · try dsimp only [tvI_i, tvJ_j, tvR_r] at p60
            refine tw_if_ne rfl (fun z => absurd z (by decide)) (fun _ => ?_)
            refine tw_push rfl ?_
            exact tw_iret rfl (Or.inr ⟨by omega, rfl, rfl⟩)
        · try dsimp only [tvI_i, tvJ_j, tvR_r] at p59
          refine tw_if_eq rfl (fun _ => ?_) (fun z => absurd z (by decide))
          refine tw_push rfl ?_
          exact tw_iret rfl (Or.inr ⟨by omega, rfl, rfl⟩)
      · try dsimp only [tvI_i, tvJ_j, tvR_r] at p58
        refine tw_if_eq rfl (fun _ => ?_) (fun z => absurd z (by decide))
        refine tw_push rfl ?_
        exact tw_iret rfl (Or.inr ⟨by omega, rfl, rfl⟩)
    · try dsimp only [tvI_i, tvJ_j, tvR_r] at p57
      refine tw_if_eq rfl (fun _ => ?_) (fun z => absurd z (by decide))
      refine tw_push rfl ?_
      exact tw_iret rfl (Or.inr ⟨by omega, rfl, rfl⟩)
theorem a_part {price : Int32} {a : Int32} {b : Int32} {c : Int32} {h h2 h3 : zH} {w w2 : Option Value}  (hR : R_parts h) (e1 : tF h2 111 4 = tF h 111 4) (e2 : tF h3 1 7 = tF h2 1 7) (k1 : phN 1 7 (((0 ≤ price.toInt ∧ price.toInt ≤ 9999) ∧ (0 ≤ a.toInt ∧ a.toInt ≤ 9999) ∧ (0 ≤ b.toInt ∧ b.toInt ≤ 9999) ∧ (0 ≤ c.toInt ∧ c.toInt ≤ 9999)) ∧ (tvI (tF h 1 7)).toInt ≠ 12) h w h2) (k2 : phN 111 4 (((0 ≤ price.toInt ∧ price.toInt ≤ 9999) ∧ (0 ≤ a.toInt ∧ a.toInt ≤ 9999) ∧ (0 ≤ b.toInt ∧ b.toInt ≤ 9999) ∧ (0 ≤ c.toInt ∧ c.toInt ≤ 9999)) ∧ (tvI (tF h2 111 4)).toInt ≠ 12) h2 w2 h3) : w2 = w ∧ R_parts h3 := by
  refine phN_a hR e1 e2 ?_ k1 k2
  have hR2 := hR
  unfold R_parts at hR2
  rw [e1, ← hR2]
noncomputable def R_cl (h : zH) : Prop := (∀ i : Nat, (i : Int) < (tvI (tF h 36 4)).toInt → ∃ r, tO h 39 i = some r) ∧ (∀ i j : Nat, (i : Int) < (tvI (tF h 36 4)).toInt → (j : Int) < (tvI (tF h 36 4)).toInt → tO h 39 i = tO h 39 j → i = j)
noncomputable def R_ckind (h : zH) : Prop := ∀ i r : Nat, (i : Int) < (tvI (tF h 36 4)).toInt → tO h 39 i = some r → tF h r 0 = .int (tA h 121 i)
noncomputable def R_ccr (h : zH) : Prop := ∀ i r : Nat, (i : Int) < (tvI (tF h 36 4)).toInt → tO h 39 i = some r → tF h r 6 = .int (tA h 127 i)
noncomputable def R_cwr (h : zH) : Prop := ∀ i r : Nat, (i : Int) < (tvI (tF h 36 4)).toInt → tO h 39 i = some r → tF h r 7 = .int (tA h 120 i)
noncomputable def R_cw0 (h : zH) : Prop := ∀ i : Nat, (tvI (tF h 36 4)).toInt ≤ (i : Int) → tA h 120 i = 0
noncomputable def R_cars (h : zH) : Prop := tF h 36 4 = tF h 111 5
theorem tF_ap {h l : zH} {p b : Nat} {w : Value} (hl : p < h.length) (k : tF h p b = w) : tF (h ++ l) p b = w := by
  unfold tF at k ⊢
  rw [List.getElem?_append_left hl]
  exact k
theorem tA_ap {h l : zH} {p : Nat} (hl : p < h.length) : tA (h ++ l) p = tA h p := by
  funext i
  unfold tA
  rw [List.getElem?_append_left hl]
theorem tO_ap {h l : zH} {p : Nat} (hl : p < h.length) : tO (h ++ l) p = tO h p := by
  funext i
  unfold tO
  rw [List.getElem?_append_left hl]
theorem tF_nw {h : zH} {a : Nat} {fs : List Value} {x : zC} {b : Nat} : tF (h ++ [.inr (a, fs), x]) h.length b = fs.getD b .null := by
  unfold tF
  rw [List.getElem?_append_right (Nat.le_refl _), Nat.sub_self]
  rfl
theorem tSh_ap {h l : zH} (hl : 182 ≤ h.length) (k : tSh h) : tSh (h ++ l) := by
  have a1 : tSr.all (fun q => Nat.blt q.1 182) = true := by decide +kernel
  have a2 : tSi.all (fun q => Nat.blt q.1 182) = true := by decide +kernel
  refine ⟨fun q hq => tF_ap ?_ (k.1 q hq), fun q hq => ?_⟩
  · have := Nat.le_of_ble_eq_true (List.all_eq_true.mp a1 q hq)
    omega
  · have := Nat.le_of_ble_eq_true (List.all_eq_true.mp a2 q hq)
    have e : tF (h ++ l) q.1 q.2 = tF h q.1 q.2 := tF_ap (by omega) rfl
    rw [e]
    exact k.2 q hq
theorem f_carInit {G : zG} (hG : G.1 = zProg) {h : zH} {k m o t : Int32} : tC zTt G 0 [.ref h.length, .int k, .int m, .int o, .int t] (h ++ [.inr (0, zcls zTt 0)]) (fun w h2 => w = none ∧ ∃ g : Nat → Int32, (∀ i, i < 12 → g i = 600) ∧ h2 = h ++ [.inr (0, [.int k, .int m, .int t, .int o, .int o, .int m, .int m, .int 0, .int 0, .int 0, .ref (h.length + 1)]), .inl (0, 12, .inl g)]) :=
  tC_of (zcar_init (d := 0) hG (fun g hg => ⟨rfl, g, hg, rfl⟩))
theorem f_hasKind {G : zG} (hG : G.1 = zProg) {h : zH} {n : Int32} (hs : tSh h) : tC zTt G 25 [.ref 1, .int n] h (fun w h2 => tBo (0 ≤ n.toInt ∧ n.toInt < (tvI (tF h 1 6)).toInt) w ∧ h2 = h) := by
  refine tC_in (by rw [hG]; rfl) (fun dp => ?_)
  refine tw_iload rfl rfl ?_
  refine tw_if_lt rfl (fun q66 => ?_) (fun q66 => ?_)
  · try dsimp only [tvI_i, tvJ_j, tvR_r] at q66
    refine tw_push rfl ?_
    exact tw_iret rfl ⟨Or.inr ⟨by omega, rfl⟩, rfl⟩
  · try dsimp only [tvI_i, tvJ_j, tvR_r] at q66
    refine tw_iload rfl rfl ?_
    refine tw_aload rfl rfl ?_
    refine tw_getS rfl (hi_1_6 hs) ?_
    refine tw_ic_ge rfl (fun q67 => ?_) (fun q67 => ?_)
    · try dsimp only [tvI_i, tvJ_j, tvR_r] at q67
      refine tw_push rfl ?_
      exact tw_iret rfl ⟨Or.inr ⟨by omega, rfl⟩, rfl⟩
    · try dsimp only [tvI_i, tvJ_j, tvR_r] at q67
      refine tw_push rfl ?_
      refine tw_goto rfl ?_
      exact tw_iret rfl ⟨Or.inl ⟨by omega, rfl⟩, rfl⟩
theorem f_hasPerson {G : zG} (hG : G.1 = zProg) {h : zH} {n : Int32} (hs : tSh h) : tC zTt G 15 [.ref 36, .int n] h (fun w h2 => tBo (0 ≤ n.toInt ∧ n.toInt < (tvI (tF h 36 2)).toInt) w ∧ h2 = h) := by
  refine tC_in (by rw [hG]; rfl) (fun dp => ?_)
  refine tw_iload rfl rfl ?_
  refine tw_if_lt rfl (fun q68 => ?_) (fun q68 => ?_)
  · try dsimp only [tvI_i, tvJ_j, tvR_r] at q68
    refine tw_push rfl ?_
    exact tw_iret rfl ⟨Or.inr ⟨by omega, rfl⟩, rfl⟩
  · try dsimp only [tvI_i, tvJ_j, tvR_r] at q68
    refine tw_iload rfl rfl ?_
    refine tw_aload rfl rfl ?_
    refine tw_getS rfl (hi_36_2 hs) ?_
    refine tw_ic_ge rfl (fun q69 => ?_) (fun q69 => ?_)
    · try dsimp only [tvI_i, tvJ_j, tvR_r] at q69
      refine tw_push rfl ?_
      exact tw_iret rfl ⟨Or.inr ⟨by omega, rfl⟩, rfl⟩
    · try dsimp only [tvI_i, tvJ_j, tvR_r] at q69
      refine tw_push rfl ?_
      refine tw_goto rfl ?_
      exact tw_iret rfl ⟨Or.inl ⟨by omega, rfl⟩, rfl⟩
theorem f_addCar {G : zG} (hG : G.1 = zProg) {h : zH} {k m o t : Int32} (hs : tSh h) (hl : 182 ≤ h.length) : tC zTt G 20 [.ref 36, .int k, .int m, .int o, .int t] h (fun w h2 => ((tvI (tF h 36 4)).toInt ≠ 300 ∧ w = some (tF h 36 4) ∧ tF h2 36 4 = .int (tvI (tF h 36 4) + 1) ∧ tO h2 39 = (fun j => if j = (tvI (tF h 36 4)).toNatClampNeg then some h.length else tO h 39 j) ∧ (∀ p b, p < h.length → ¬ (p = 36 ∧ b = 4) → tF h2 p b = tF h p b) ∧ tF h2 h.length 0 = .int k ∧ tF h2 h.length 6 = .int m ∧ tF h2 h.length 7 = .int 0) ∨ (¬ (tvI (tF h 36 4)).toInt ≠ 300 ∧ w = some (.int (-1)) ∧ h2 = h)) := by
  refine tC_in (by rw [hG]; rfl) (fun dp => ?_)
  refine tw_aload rfl rfl ?_
  refine tw_getS rfl (hi_36_4 hs) ?_
  refine tw_push rfl ?_
  refine tw_ic_ne rfl (fun q70 => ?_) (fun q70 => ?_)
  · try dsimp only [tvI_i, tvJ_j, tvR_r] at q70
    have q70i := zneq (Y := 300) (by decide) q70
    refine tw_aload rfl rfl ?_
    refine tw_getS rfl (hs_36_3 hs) ?_
    refine tw_aload rfl rfl ?_
    refine tw_getS rfl (hi_36_4 hs) ?_
    refine tw_new rfl rfl ?_
    refine tw_dup rfl ?_
    refine tw_iload rfl rfl ?_
    refine tw_iload rfl rfl ?_
    refine tw_iload rfl rfl ?_
    refine tw_iload rfl rfl ?_
    refine tw_spec4 rfl (f_carInit hG) (fun wp71 hp71 p71 => ?_)
    obtain ⟨rfl, p71g, p71h, rfl⟩ := p71
    refine tw_aast rfl (fun f72 => ?_)
    refine tw_aload rfl rfl ?_
    refine tw_dup rfl ?_
    refine tw_getS rfl (tF_o (tF_ap (by omega) (hi_36_4 hs))) ?_
    refine tw_dup_x1 rfl ?_
    refine tw_push rfl ?_
    refine tw_iadd rfl ?_
    refine tw_put rfl (fun f73 => ?_)
    refine tw_iret rfl (Or.inl ⟨by omega, congrArg some (hi_36_4 hs).symm, tF_same f73, ?_, fun p b hp hn => tF_ne hn (tF_o (tF_ap hp rfl)), (tF_ne (by omega) (tF_o tF_nw)), (tF_ne (by omega) (tF_o tF_nw)), (tF_ne (by omega) (tF_o tF_nw))⟩)
    rw [tO_tSF, tO_tSO f72.cell]
    funext j
    dsimp only
    rw [tO_ap (by omega)]
    by_cases e : j = (tvI (tF h 36 4)).toNatClampNeg
    · rw [if_pos ⟨rfl, e⟩, if_pos e]
    · rw [if_neg (fun z => e z.2), if_neg e]
  · try dsimp only [tvI_i, tvJ_j, tvR_r] at q70
    have q70i := zeqi (Y := 300) (by decide) q70
    refine tw_push rfl ?_
    exact tw_iret rfl (Or.inr ⟨by omega, rfl, rfl⟩)
noncomputable def ph_carc (k m o : Int32) (h : zH) (w : Option Value) (h2 : zH) : Prop := ((((0 ≤ k.toInt ∧ k.toInt < (tvI (tF h 1 6)).toInt) ∧ (0 ≤ m.toInt ∧ m.toInt ≤ (tvI (tF h 0 14)).toInt) ∧ (0 ≤ o.toInt ∧ o.toInt < (tvI (tF h 36 2)).toInt)) ∧ (tvI (tF h 36 4)).toInt ≠ 300) ∧ w = some (tF h 36 4) ∧ tF h2 36 4 = .int (tvI (tF h 36 4) + 1) ∧ tO h2 39 = (fun j => if j = (tvI (tF h 36 4)).toNatClampNeg then some h.length else tO h 39 j) ∧ (∀ p b, p < h.length → ¬ (p = 36 ∧ b = 4) → tF h2 p b = tF h p b) ∧ tF h2 h.length 0 = .int k ∧ tF h2 h.length 6 = .int m ∧ tF h2 h.length 7 = .int 0) ∨ (¬ (((0 ≤ k.toInt ∧ k.toInt < (tvI (tF h 1 6)).toInt) ∧ (0 ≤ m.toInt ∧ m.toInt ≤ (tvI (tF h 0 14)).toInt) ∧ (0 ≤ o.toInt ∧ o.toInt < (tvI (tF h 36 2)).toInt)) ∧ (tvI (tF h 36 4)).toInt ≠ 300) ∧ w = some (.int (-1)) ∧ h2 = h)
theorem f_car {G : zG} (hG : G.1 = zProg) {h : zH} {k m o : Int32} (hs : tSh h) (hl : 182 ≤ h.length) : tC zTt G 116 [.ref 0, .int k, .int m, .int o] h (ph_carc k m o h) := by
  refine tC_in (by rw [hG]; rfl) (fun dp => ?_)
  refine tw_aload rfl rfl ?_
  refine tw_getS rfl (hs_0_0 hs) ?_
  refine tw_iload rfl rfl ?_
  refine tw_virt1 rfl (f_hasKind hG hs) (fun w9 h9 p74 => ?_)
  obtain ⟨⟨p74, rfl⟩ | ⟨p74, rfl⟩, rfl⟩ := p74
  · try dsimp only [tvI_i, tvJ_j, tvR_r] at p74
    refine tw_if_eq rfl (fun z => absurd z (by decide)) (fun _ => ?_)
    refine tw_iload rfl rfl ?_
    refine tw_push rfl ?_
    refine tw_aload rfl rfl ?_
    refine tw_getS rfl (hi_0_14 hs) ?_
    refine tw_stat3 rfl (f_isWithin hG (LO := 0)  (by decide) rfl) (fun w9 h9 p75 => ?_)
    obtain ⟨⟨p75, rfl⟩ | ⟨p75, rfl⟩, rfl⟩ := p75
    · try dsimp only [tvI_i, tvJ_j, tvR_r] at p75
      refine tw_if_eq rfl (fun z => absurd z (by decide)) (fun _ => ?_)
      refine tw_aload rfl rfl ?_
      refine tw_getS rfl (hs_0_1 hs) ?_
      refine tw_iload rfl rfl ?_
      refine tw_virt1 rfl (f_hasPerson hG hs) (fun w9 h9 p76 => ?_)
      obtain ⟨⟨p76, rfl⟩ | ⟨p76, rfl⟩, rfl⟩ := p76
      · try dsimp only [tvI_i, tvJ_j, tvR_r] at p76
        refine tw_if_eq rfl (fun z => absurd z (by decide)) (fun _ => ?_)
        refine tw_push rfl ?_
        refine tw_goto rfl ?_
        refine tw_istore rfl ?_
        refine tw_iload rfl rfl ?_
        refine tw_if_eq rfl (fun z => absurd z (by decide)) (fun _ => ?_)
        refine tw_aload rfl rfl ?_
        refine tw_getS rfl (hs_0_1 hs) ?_
        refine tw_iload rfl rfl ?_
        refine tw_iload rfl rfl ?_
        refine tw_iload rfl rfl ?_
        refine tw_aload rfl rfl ?_
        refine tw_getS rfl (hi_0_14 hs) ?_
        refine tw_virt4 rfl (f_addCar hG hs hl) (fun w9 h9 p77 => ?_)
        rcases p77 with ⟨p77, rfl, p77e⟩ | ⟨p77, rfl, rfl⟩
        · refine tw_goto rfl ?_
          exact tw_iret rfl (Or.inl ⟨by omega, congrArg some (hi_36_4 hs).symm, p77e⟩)
        · refine tw_goto rfl ?_
          exact tw_iret rfl (Or.inr ⟨by omega, rfl, rfl⟩)
      · try dsimp only [tvI_i, tvJ_j, tvR_r] at p76
        refine tw_if_eq rfl (fun _ => ?_) (fun z => absurd z (by decide))
        refine tw_push rfl ?_
        refine tw_istore rfl ?_
        refine tw_iload rfl rfl ?_
        refine tw_if_eq rfl (fun _ => ?_) (fun z => absurd z (by decide))
        refine tw_push rfl ?_
        exact tw_iret rfl (Or.inr ⟨by omega, rfl, rfl⟩)
    · try dsimp only [tvI_i, tvJ_j, tvR_r] at p75
      refine tw_if_eq rfl (fun _ => ?_) (fun z => absurd z (by decide))
      refine tw_push rfl ?_
      refine tw_istore rfl ?_
      refine tw_iload rfl rfl ?_
      refine tw_if_eq rfl (fun _ => ?_) (fun z => absurd z (by decide))
      refine tw_push rfl ?_
      exact tw_iret rfl (Or.inr ⟨by omega, rfl, rfl⟩)
  · try dsimp only [tvI_i, tvJ_j, tvR_r] at p74
    refine tw_if_eq rfl (fun _ => ?_) (fun z => absurd z (by decide))
    refine tw_push rfl ?_
    refine tw_istore rfl ?_
    refine tw_iload rfl rfl ?_
    refine tw_if_eq rfl (fun _ => ?_) (fun z => absurd z (by decide))
    refine tw_push rfl ?_
    exact tw_iret rfl (Or.inr ⟨by omega, rfl, rfl⟩)
theorem g_isKind {G : zG} (hG : G.1 = zProg) {h : zH} {n : Int32} (hs : tSh h) (hk : 0 ≤ (tvI (tF h 111 3)).toInt) : tC zTt G 176 [.ref 111, .int n] h (fun w h2 => tBo (0 ≤ n.toInt ∧ n.toInt < (tvI (tF h 111 3)).toInt) w ∧ h2 = h) := by
  refine tC_in (by rw [hG]; rfl) (fun dp => ?_)
  refine tw_iload rfl rfl ?_
  refine tw_i2l rfl ?_
  refine tw_push rfl ?_
  refine tw_aload rfl rfl ?_
  refine tw_getS rfl (hi_111_3 hs) ?_
  refine tw_push rfl ?_
  refine tw_isub rfl ?_
  refine tw_i2l rfl ?_
  refine tw_stat3 rfl (f_in hG  (LO := 0)  (Int32.toInt_toInt64 _) (by decide) (Int32.toInt_toInt64 _)) (fun w9 h9 p78 => ?_)
  obtain ⟨⟨p78, rfl⟩ | ⟨p78, rfl⟩, rfl⟩ := p78
  · try dsimp only [tvI_i, tvJ_j, tvR_r] at p78
    exact tw_iret rfl ⟨Or.inl ⟨by have e := zsub1 hk; have := p78; omega, rfl⟩, rfl⟩
  · try dsimp only [tvI_i, tvJ_j, tvR_r] at p78
    exact tw_iret rfl ⟨Or.inr ⟨by have e := zsub1 hk; have := p78; omega, rfl⟩, rfl⟩
theorem g_isPerson {G : zG} (hG : G.1 = zProg) {h : zH} {n : Int32} (hs : tSh h) (hk : 0 ≤ (tvI (tF h 111 2)).toInt) : tC zTt G 175 [.ref 111, .int n] h (fun w h2 => tBo (0 ≤ n.toInt ∧ n.toInt < (tvI (tF h 111 2)).toInt) w ∧ h2 = h) := by
  refine tC_in (by rw [hG]; rfl) (fun dp => ?_)
  refine tw_iload rfl rfl ?_
  refine tw_i2l rfl ?_
  refine tw_push rfl ?_
  refine tw_aload rfl rfl ?_
  refine tw_getS rfl (hi_111_2 hs) ?_
  refine tw_push rfl ?_
  refine tw_isub rfl ?_
  refine tw_i2l rfl ?_
  refine tw_stat3 rfl (f_in hG  (LO := 0)  (Int32.toInt_toInt64 _) (by decide) (Int32.toInt_toInt64 _)) (fun w9 h9 p79 => ?_)
  obtain ⟨⟨p79, rfl⟩ | ⟨p79, rfl⟩, rfl⟩ := p79
  · try dsimp only [tvI_i, tvJ_j, tvR_r] at p79
    exact tw_iret rfl ⟨Or.inl ⟨by have e := zsub1 hk; have := p79; omega, rfl⟩, rfl⟩
  · try dsimp only [tvI_i, tvJ_j, tvR_r] at p79
    exact tw_iret rfl ⟨Or.inr ⟨by have e := zsub1 hk; have := p79; omega, rfl⟩, rfl⟩
theorem g_car {G : zG} (hG : G.1 = zProg) {h : zH} {k m o : Int32} (hs : tSh h) (hk3 : 0 ≤ (tvI (tF h 111 3)).toInt) (hk2 : 0 ≤ (tvI (tF h 111 2)).toInt) : tC zTt G 184 [.ref 111, .int k, .int m, .int o] h (phA 111 5 (((0 ≤ k.toInt ∧ k.toInt < (tvI (tF h 111 3)).toInt) ∧ (0 ≤ m.toInt ∧ m.toInt ≤ (tvI (tF h 111 1)).toInt) ∧ (0 ≤ o.toInt ∧ o.toInt < (tvI (tF h 111 2)).toInt)) ∧ (tvI (tF h 111 5)).toInt ≠ 300) [(121, k), (127, m)] h) := by
  refine tC_in (by rw [hG]; rfl) (fun dp => ?_)
  refine tw_aload rfl rfl ?_
  refine tw_getS rfl (hi_111_5 hs) ?_
  refine tw_push rfl ?_
  refine tw_ic_eq rfl (fun q80 => ?_) (fun q80 => ?_)
  · try dsimp only [tvI_i, tvJ_j, tvR_r] at q80
    have q80i := zeqi (Y := 300) (by decide) q80
    refine tw_push rfl ?_
    exact tw_iret rfl (Or.inr ⟨by omega, rfl, rfl, fun _ _ => rfl⟩)
  · try dsimp only [tvI_i, tvJ_j, tvR_r] at q80
    have q80i := zneq (Y := 300) (by decide) q80
    refine tw_aload rfl rfl ?_
    refine tw_iload rfl rfl ?_
    refine tw_virt1 rfl (g_isKind hG hs hk3) (fun w9 h9 p81 => ?_)
    obtain ⟨⟨p81, rfl⟩ | ⟨p81, rfl⟩, rfl⟩ := p81
    · try dsimp only [tvI_i, tvJ_j, tvR_r] at p81
      refine tw_if_eq rfl (fun z => absurd z (by decide)) (fun _ => ?_)
      refine tw_iload rfl rfl ?_
      refine tw_i2l rfl ?_
      refine tw_push rfl ?_
      refine tw_aload rfl rfl ?_
      refine tw_getS rfl (hi_111_1 hs) ?_
      refine tw_i2l rfl ?_
      refine tw_stat3 rfl (f_in hG  (LO := 0)  (Int32.toInt_toInt64 _) (by decide) (Int32.toInt_toInt64 _)) (fun w9 h9 p82 => ?_)
      obtain ⟨⟨p82, rfl⟩ | ⟨p82, rfl⟩, rfl⟩ := p82
      · try dsimp only [tvI_i, tvJ_j, tvR_r] at p82
        refine tw_if_eq rfl (fun z => absurd z (by decide)) (fun _ => ?_)
        refine tw_aload rfl rfl ?_
        refine tw_iload rfl rfl ?_
        refine tw_virt1 rfl (g_isPerson hG hs hk2) (fun w9 h9 p83 => ?_)
        obtain ⟨⟨p83, rfl⟩ | ⟨p83, rfl⟩, rfl⟩ := p83
        · try dsimp only [tvI_i, tvJ_j, tvR_r] at p83
          refine tw_if_ne rfl (fun _ => ?_) (fun z => absurd z (by decide))
          refine tw_aload rfl rfl ?_
          refine tw_getS rfl (hs_111_16 hs) ?_
          refine tw_aload rfl rfl ?_
          refine tw_getS rfl (hi_111_5 hs) ?_
          refine tw_iload rfl rfl ?_
          refine tw_iast rfl (fun f84 => ?_)
          refine tw_aload rfl rfl ?_
          refine tw_getS rfl (hs_111_17 (tSh_SA hs)) ?_
          refine tw_aload rfl rfl ?_
          refine tw_getS rfl (tF_a (hi_111_5 hs)) ?_
          refine tw_iload rfl rfl ?_
          refine tw_iast rfl (fun f85 => ?_)
          refine tw_aload rfl rfl ?_
          refine tw_getS rfl (hs_111_18 (tSh_SA (tSh_SA hs))) ?_
          refine tw_aload rfl rfl ?_
          refine tw_getS rfl (tF_a (tF_a (hi_111_5 hs))) ?_
          refine tw_aload rfl rfl ?_
          refine tw_getS rfl (tF_a (tF_a (hi_111_1 hs))) ?_
          refine tw_iast rfl (fun f86 => ?_)
          refine tw_aload rfl rfl ?_
          refine tw_getS rfl (hs_111_19 (tSh_SA (tSh_SA (tSh_SA hs)))) ?_
          refine tw_aload rfl rfl ?_
          refine tw_getS rfl (tF_a (tF_a (tF_a (hi_111_5 hs)))) ?_
          refine tw_iload rfl rfl ?_
          refine tw_iast rfl (fun f87 => ?_)
          refine tw_aload rfl rfl ?_
          refine tw_getS rfl (hs_111_20 (tSh_SA (tSh_SA (tSh_SA (tSh_SA hs))))) ?_
          refine tw_aload rfl rfl ?_
          refine tw_getS rfl (tF_a (tF_a (tF_a (tF_a (hi_111_5 hs))))) ?_
          refine tw_iload rfl rfl ?_
          refine tw_iast rfl (fun f88 => ?_)
          refine tw_aload rfl rfl ?_
          refine tw_getS rfl (hs_111_21 (tSh_SA (tSh_SA (tSh_SA (tSh_SA (tSh_SA hs)))))) ?_
          refine tw_aload rfl rfl ?_
          refine tw_getS rfl (tF_a (tF_a (tF_a (tF_a (tF_a (hi_111_5 hs)))))) ?_
          refine tw_iload rfl rfl ?_
          refine tw_iast rfl (fun f89 => ?_)
          refine tw_aload rfl rfl ?_
          refine tw_getS rfl (hs_111_22 (tSh_SA (tSh_SA (tSh_SA (tSh_SA (tSh_SA (tSh_SA hs))))))) ?_
          refine tw_aload rfl rfl ?_
          refine tw_getS rfl (tF_a (tF_a (tF_a (tF_a (tF_a (tF_a (hi_111_5 hs))))))) ?_
          refine tw_iload rfl rfl ?_
          refine tw_iast rfl (fun f90 => ?_)
          refine tw_aload rfl rfl ?_
          refine tw_dup rfl ?_
          refine tw_getS rfl (tF_a (tF_a (tF_a (tF_a (tF_a (tF_a (tF_a (hi_111_5 hs)))))))) ?_
          refine tw_push rfl ?_
          refine tw_iadd rfl ?_
          refine tw_put rfl (fun f91 => ?_)
          refine tw_aload rfl rfl ?_
          refine tw_getS rfl (tF_same f91) ?_
          refine tw_push rfl ?_
          refine tw_isub rfl ?_
          exact tw_iret rfl (Or.inl ⟨by omega, wret1 (hi_111_5 hs), (tF_same f91), (fun q hq => by rcases List.mem_cons.mp hq with rfl | hq; (show tA _ 121 = _; exact (tA_ff (tA_n (by decide) (tA_n (by decide) (tA_n (by decide) (tA_n (by decide) (tA_n (by decide) (tA_n (by decide) (tA_st f84 rfl))))))))); rcases List.mem_cons.mp hq with rfl | hq; (show tA _ 127 = _; exact (tA_ff (tA_st f90 (tA_n (by decide) (tA_n (by decide) (tA_n (by decide) (tA_n (by decide) (tA_n (by decide) (tA_n (by decide) rfl))))))))); cases hq)⟩)
        · try dsimp only [tvI_i, tvJ_j, tvR_r] at p83
          refine tw_if_ne rfl (fun z => absurd z (by decide)) (fun _ => ?_)
          refine tw_push rfl ?_
          exact tw_iret rfl (Or.inr ⟨by omega, rfl, rfl, fun _ _ => rfl⟩)
      · try dsimp only [tvI_i, tvJ_j, tvR_r] at p82
        refine tw_if_eq rfl (fun _ => ?_) (fun z => absurd z (by decide))
        refine tw_push rfl ?_
        exact tw_iret rfl (Or.inr ⟨by omega, rfl, rfl, fun _ _ => rfl⟩)
    · try dsimp only [tvI_i, tvJ_j, tvR_r] at p81
      refine tw_if_eq rfl (fun _ => ?_) (fun z => absurd z (by decide))
      refine tw_push rfl ?_
      exact tw_iret rfl (Or.inr ⟨by omega, rfl, rfl, fun _ _ => rfl⟩)
theorem a_car {xs : Nat → Int32} {τ τ2 : List Nat} {k m o : Int32} {h h2 h3 : zH} {w w2 : Option Value} (hB : zBs xs τ h) (hB2 : zBs xs τ2 h2) (hK : R_kinds h) (hW : R_now h) (hP : R_people h) (hR : R_cars h) (hL : R_cl h) (h_ckind : R_ckind h) (o_ckind : tA h2 121 = tA h 121) (h_ccr : R_ccr h) (o_ccr : tA h2 127 = tA h 127) (h_cwr : R_cwr h) (o_cwr : tA h2 120 = tA h 120) (e1 : tF h2 111 5 = tF h 111 5) (e3 : tF h2 111 3 = tF h 111 3) (e4 : tF h2 111 1 = tF h 111 1) (e5 : tF h2 111 2 = tF h 111 2) (e2 : tF h3 36 4 = tF h2 36 4) (e6 : tO h3 39 = tO h2 39) (e7 : ∀ i r f : Nat, (i : Int) < (tvI (tF h2 36 4)).toInt → tO h2 39 i = some r → tF h3 r f = tF h2 r f) (hwr : R_cw0 h) (o9 : tA h3 120 = tA h2 120) (k1 : ph_carc k m o h w h2) (k2 : phA 111 5 (((0 ≤ k.toInt ∧ k.toInt < (tvI (tF h2 111 3)).toInt) ∧ (0 ≤ m.toInt ∧ m.toInt ≤ (tvI (tF h2 111 1)).toInt) ∧ (0 ≤ o.toInt ∧ o.toInt < (tvI (tF h2 111 2)).toInt)) ∧ (tvI (tF h2 111 5)).toInt ≠ 300) [(121, k), (127, m)] h2 w2 h3) : w2 = w ∧ R_cars h3 ∧ R_cl h3 ∧ R_ckind h3 ∧ R_ccr h3 ∧ R_cwr h3 ∧ R_cw0 h3 := by
  unfold R_kinds at hK
  unfold R_now at hW
  unfold R_people at hP
  have hR0 := hR
  unfold R_cars at hR0
  rw [e1, e3, e4, e5, ← hK, ← hW, ← hP, ← hR0] at k2
  have n1 := (kb_36_4 hB).1
  have n2 := (kb_36_4 hB).2
  rcases k1 with ⟨c1, rfl, f1, g1, g2, f_ckind, f_ccr, f_cwr⟩ | ⟨c1, rfl, rfl⟩ <;> rcases k2 with ⟨c2, rfl, f2, q2⟩ | ⟨c2, rfl, f2, q2⟩
  · have hc : R_cars h3 := by
      unfold R_cars
      rw [e2, f1, f2, e1, ← hR0]
    have en : (tvI (tF h3 36 4)).toInt = (tvI (tF h 36 4)).toInt + 1 := by
      rw [e2, f1]
      show (tvI (tF h 36 4) + 1).toInt = _
      rw [Int32.toInt_add]
      exact Int.bmod_eq_of_le (by show (-2147483648 : Int) ≤ (tvI (tF h 36 4)).toInt + 1; omega) (by show (tvI (tF h 36 4)).toInt + 1 < (2147483648 : Int); omega)
    have en2 : (tvI (tF h2 36 4)).toInt = (tvI (tF h 36 4)).toInt + 1 := by rw [← e2]; exact en
    have eo : tO h3 39 = fun j => if j = (tvI (tF h 36 4)).toNatClampNeg then some h.length else tO h 39 j := by rw [e6, g1]
    have hnc : ((tvI (tF h 36 4)).toNatClampNeg : Int) = (tvI (tF h 36 4)).toInt := by rw [zclE]; omega
    have hL3 : R_cl h3 := by
      unfold R_cl
      rw [en, eo]
      refine ⟨fun i hi => ?_, fun i j hi hj e => ?_⟩
      · dsimp only
        by_cases z : i = (tvI (tF h 36 4)).toNatClampNeg
        · rw [if_pos z]; exact ⟨_, rfl⟩
        · rw [if_neg z]; exact hL.1 i (by omega)
      · dsimp only at e
        by_cases z : i = (tvI (tF h 36 4)).toNatClampNeg
        · by_cases z2 : j = (tvI (tF h 36 4)).toNatClampNeg
          · omega
          · rw [if_pos z, if_neg z2] at e
            have := car_lt hB (i := j) (r := h.length) (by omega) e.symm
            omega
        · by_cases z2 : j = (tvI (tF h 36 4)).toNatClampNeg
          · rw [if_neg z, if_pos z2] at e
            have := car_lt hB (i := i) (r := h.length) (by omega) e
            omega
          · rw [if_neg z, if_neg z2] at e
            exact hL.2 i j (by omega) (by omega) e
    have H_ckind : R_ckind h3 := by
      intro i r hi hr
      rw [en] at hi
      have hr2 := hr
      rw [e6] at hr2
      rw [e7 i r 0 (by omega) hr2, q2 (121, k) (by simp), e1, ← hR0]
      rw [eo] at hr
      dsimp only at hr ⊢
      by_cases z : i = (tvI (tF h 36 4)).toNatClampNeg
      · rw [if_pos z] at hr
        cases hr
        rw [if_pos z]
        exact f_ckind
      · rw [if_neg z] at hr
        have hi2 : (i : Int) < (tvI (tF h 36 4)).toInt := by omega
        rw [if_neg z, g2 r 0 (car_lt hB hi2 hr) (fun y => car_ne hB hi2 hr (p := 36) (t := 12) rfl (by decide) y.1), o_ckind]
        exact h_ckind i r hi2 hr
    have H_ccr : R_ccr h3 := by
      intro i r hi hr
      rw [en] at hi
      have hr2 := hr
      rw [e6] at hr2
      rw [e7 i r 6 (by omega) hr2, q2 (127, m) (by simp), e1, ← hR0]
      rw [eo] at hr
      dsimp only at hr ⊢
      by_cases z : i = (tvI (tF h 36 4)).toNatClampNeg
      · rw [if_pos z] at hr
        cases hr
        rw [if_pos z]
        exact f_ccr
      · rw [if_neg z] at hr
        have hi2 : (i : Int) < (tvI (tF h 36 4)).toInt := by omega
        rw [if_neg z, g2 r 6 (car_lt hB hi2 hr) (fun y => car_ne hB hi2 hr (p := 36) (t := 12) rfl (by decide) y.1), o_ccr]
        exact h_ccr i r hi2 hr
    have H_cw0 : R_cw0 h3 := by
      intro i hi
      rw [en] at hi
      rw [o9, o_cwr]
      exact hwr i (by omega)
    have H_cwr : R_cwr h3 := by
      intro i r hi hr
      rw [en] at hi
      have hr2 := hr
      rw [e6] at hr2
      rw [e7 i r 7 (by omega) hr2, o9, o_cwr]
      rw [eo] at hr
      dsimp only at hr
      by_cases z : i = (tvI (tF h 36 4)).toNatClampNeg
      · rw [if_pos z] at hr
        cases hr
        rw [hwr i (by omega)]
        exact f_cwr
      · rw [if_neg z] at hr
        have hi2 : (i : Int) < (tvI (tF h 36 4)).toInt := by omega
        rw [g2 r 7 (car_lt hB hi2 hr) (fun y => car_ne hB hi2 hr (p := 36) (t := 12) rfl (by decide) y.1)]
        exact h_cwr i r hi2 hr
    exact ⟨by rw [e1, ← hR0], hc, hL3, H_ckind, H_ccr, H_cwr, H_cw0⟩
  · exact absurd c1 c2
  · exact absurd c2 c1
  · have hc : R_cars h3 := by
      unfold R_cars
      rw [e2, f2]
      exact hR0
    have hL3 : R_cl h3 := by unfold R_cl; rw [e2, e6]; exact hL
    have H_ckind : R_ckind h3 := by
      intro i r hi hr
      rw [e2] at hi
      rw [e6] at hr
      rw [e7 i r 0 hi hr, q2 (121, k) (by simp)]
      exact h_ckind i r hi hr
    have H_ccr : R_ccr h3 := by
      intro i r hi hr
      rw [e2] at hi
      rw [e6] at hr
      rw [e7 i r 6 hi hr, q2 (127, m) (by simp)]
      exact h_ccr i r hi hr
    have H_cw0 : R_cw0 h3 := by
      intro i hi
      rw [e2] at hi
      rw [o9]
      exact hwr i hi
    have H_cwr : R_cwr h3 := by
      intro i r hi hr
      rw [e2] at hi
      rw [e6] at hr
      rw [e7 i r 7 hi hr, o9]
      exact h_cwr i r hi hr
    exact ⟨rfl, hc, hL3, H_ckind, H_ccr, H_cwr, H_cw0⟩
noncomputable def R_tests (h : zH) : Prop := tF h 54 5 = tF h 111 50
theorem f_isSort {G : zG} (hG : G.1 = zProg) {h : zH} {n : Int32} : tC zTt G 161 [.int n] h (fun w h2 => tBo (0 ≤ n.toInt ∧ n.toInt ≤ 2) w ∧ h2 = h) := by
  refine tC_in (by rw [hG]; rfl) (fun dp => ?_)
  refine tw_iload rfl rfl ?_
  refine tw_push rfl ?_
  refine tw_push rfl ?_
  refine tw_stat3 rfl (f_isWithin hG (LO := 0) (HI := 2) (by decide) (by decide)) (fun w9 h9 p92 => ?_)
  obtain ⟨⟨p92, rfl⟩ | ⟨p92, rfl⟩, rfl⟩ := p92
  · try dsimp only [tvI_i, tvJ_j, tvR_r] at p92
    exact tw_iret rfl ⟨Or.inl ⟨p92, rfl⟩, rfl⟩
  · try dsimp only [tvI_i, tvJ_j, tvR_r] at p92
    exact tw_iret rfl ⟨Or.inr ⟨p92, rfl⟩, rfl⟩
theorem f_isSpeed {G : zG} (hG : G.1 = zProg) {h : zH} {n : Int32} : tC zTt G 162 [.int n] h (fun w h2 => tBo (0 ≤ n.toInt ∧ n.toInt ≤ 200) w ∧ h2 = h) := by
  refine tC_in (by rw [hG]; rfl) (fun dp => ?_)
  refine tw_iload rfl rfl ?_
  refine tw_push rfl ?_
  refine tw_push rfl ?_
  refine tw_stat3 rfl (f_isWithin hG (LO := 0) (HI := 200) (by decide) (by decide)) (fun w9 h9 p93 => ?_)
  obtain ⟨⟨p93, rfl⟩ | ⟨p93, rfl⟩, rfl⟩ := p93
  · try dsimp only [tvI_i, tvJ_j, tvR_r] at p93
    exact tw_iret rfl ⟨Or.inl ⟨p93, rfl⟩, rfl⟩
  · try dsimp only [tvI_i, tvJ_j, tvR_r] at p93
    exact tw_iret rfl ⟨Or.inr ⟨p93, rfl⟩, rfl⟩
theorem f_addTest {G : zG} (hG : G.1 = zProg) {h : zH} {k : Int32} {s : Int32} {v : Int32} {u : Int32} (bu : 0 ≤ u.toInt ∧ u.toInt ≤ 1) (hs : tSh h) : tC zTt G 103 [.ref 54, .int k, .int s, .int v, .int u] h (phA 54 5 ((tvI (tF h 54 5)).toInt ≠ 200) [] h) := by
  refine tC_in (by rw [hG]; rfl) (fun dp => ?_)
  refine tw_aload rfl rfl ?_
  refine tw_getS rfl (hi_54_5 hs) ?_
  refine tw_push rfl ?_
  refine tw_ic_ne rfl (fun q94 => ?_) (fun q94 => ?_)
  · try dsimp only [tvI_i, tvJ_j, tvR_r] at q94
    have q94i := zneq (Y := 200) (by decide) q94
    refine tw_aload rfl rfl ?_
    refine tw_getS rfl (hs_54_0 hs) ?_
    refine tw_aload rfl rfl ?_
    refine tw_getS rfl (hi_54_5 hs) ?_
    refine tw_iload rfl rfl ?_
    refine tw_iast rfl (fun f95 => ?_)
    refine tw_aload rfl rfl ?_
    refine tw_getS rfl (hs_54_1 (tSh_SA hs)) ?_
    refine tw_aload rfl rfl ?_
    refine tw_getS rfl (tF_a (hi_54_5 hs)) ?_
    refine tw_iload rfl rfl ?_
    refine tw_iast rfl (fun f96 => ?_)
    refine tw_aload rfl rfl ?_
    refine tw_getS rfl (hs_54_2 (tSh_SA (tSh_SA hs))) ?_
    refine tw_aload rfl rfl ?_
    refine tw_getS rfl (tF_a (tF_a (hi_54_5 hs))) ?_
    refine tw_iload rfl rfl ?_
    refine tw_iast rfl (fun f97 => ?_)
    refine tw_aload rfl rfl ?_
    refine tw_getS rfl (hs_54_3 (tSh_SA (tSh_SA (tSh_SA hs)))) ?_
    refine tw_aload rfl rfl ?_
    refine tw_getS rfl (tF_a (tF_a (tF_a (hi_54_5 hs)))) ?_
    refine tw_iload rfl rfl ?_
    refine tw_bastZ bu rfl (fun kf98 f98 => ?_)
    refine tw_aload rfl rfl ?_
    refine tw_dup rfl ?_
    refine tw_getS rfl (tF_a (tF_a (tF_a (tF_a (hi_54_5 hs))))) ?_
    refine tw_dup_x1 rfl ?_
    refine tw_push rfl ?_
    refine tw_iadd rfl ?_
    refine tw_put rfl (fun f99 => ?_)
    exact tw_iret rfl (Or.inl ⟨by omega, congrArg some (hi_54_5 hs).symm, (tF_same f99), (fun q hq => by cases hq)⟩)
  · try dsimp only [tvI_i, tvJ_j, tvR_r] at q94
    have q94i := zeqi (Y := 200) (by decide) q94
    refine tw_push rfl ?_
    exact tw_iret rfl (Or.inr ⟨by omega, rfl, rfl, fun _ _ => rfl⟩)
theorem f_test {G : zG} (hG : G.1 = zProg) {h : zH} {k : Int32} {s : Int32} {v : Int32} {u : Int32} (bu : 0 ≤ u.toInt ∧ u.toInt ≤ 1) (hs : tSh h) : tC zTt G 129 [.ref 0, .int k, .int s, .int v, .int u] h (phA 54 5 (((0 ≤ k.toInt ∧ k.toInt < (tvI (tF h 1 6)).toInt) ∧ (0 ≤ s.toInt ∧ s.toInt ≤ 2) ∧ (0 ≤ v.toInt ∧ v.toInt ≤ 200)) ∧ (tvI (tF h 54 5)).toInt ≠ 200) [] h) := by
  refine tC_in (by rw [hG]; rfl) (fun dp => ?_)
  refine tw_aload rfl rfl ?_
  refine tw_getS rfl (hs_0_0 hs) ?_
  refine tw_iload rfl rfl ?_
  refine tw_virt1 rfl (f_hasKind hG hs) (fun w9 h9 p100 => ?_)
  obtain ⟨⟨p100, rfl⟩ | ⟨p100, rfl⟩, rfl⟩ := p100
  · try dsimp only [tvI_i, tvJ_j, tvR_r] at p100
    refine tw_if_eq rfl (fun z => absurd z (by decide)) (fun _ => ?_)
    refine tw_iload rfl rfl ?_
    refine tw_stat1 rfl (f_isSort hG) (fun w9 h9 p101 => ?_)
    obtain ⟨⟨p101, rfl⟩ | ⟨p101, rfl⟩, rfl⟩ := p101
    · try dsimp only [tvI_i, tvJ_j, tvR_r] at p101
      refine tw_if_eq rfl (fun z => absurd z (by decide)) (fun _ => ?_)
      refine tw_iload rfl rfl ?_
      refine tw_stat1 rfl (f_isSpeed hG) (fun w9 h9 p102 => ?_)
      obtain ⟨⟨p102, rfl⟩ | ⟨p102, rfl⟩, rfl⟩ := p102
      · try dsimp only [tvI_i, tvJ_j, tvR_r] at p102
        refine tw_if_eq rfl (fun z => absurd z (by decide)) (fun _ => ?_)
        refine tw_push rfl ?_
        refine tw_goto rfl ?_
        refine tw_istore rfl ?_
        refine tw_iload rfl rfl ?_
        refine tw_if_eq rfl (fun z => absurd z (by decide)) (fun _ => ?_)
        refine tw_aload rfl rfl ?_
        refine tw_getS rfl (hs_0_4 hs) ?_
        refine tw_iload rfl rfl ?_
        refine tw_iload rfl rfl ?_
        refine tw_iload rfl rfl ?_
        refine tw_iload rfl rfl ?_
        refine tw_virt4 rfl (f_addTest hG bu hs) (fun w9 h9 p103 => ?_)
        rcases p103 with ⟨p103, rfl, p103e, p103g⟩ | ⟨p103, rfl, p103e, p103g⟩
        · refine tw_goto rfl ?_
          exact tw_iret rfl (Or.inl ⟨by omega, congrArg some (hi_54_5 hs).symm, p103e, p103g⟩)
        · refine tw_goto rfl ?_
          exact tw_iret rfl (Or.inr ⟨by omega, rfl, p103e, p103g⟩)
      · try dsimp only [tvI_i, tvJ_j, tvR_r] at p102
        refine tw_if_eq rfl (fun _ => ?_) (fun z => absurd z (by decide))
        refine tw_push rfl ?_
        refine tw_istore rfl ?_
        refine tw_iload rfl rfl ?_
        refine tw_if_eq rfl (fun _ => ?_) (fun z => absurd z (by decide))
        refine tw_push rfl ?_
        exact tw_iret rfl (Or.inr ⟨by omega, rfl, rfl, fun _ _ => rfl⟩)
    · try dsimp only [tvI_i, tvJ_j, tvR_r] at p101
      refine tw_if_eq rfl (fun _ => ?_) (fun z => absurd z (by decide))
      refine tw_push rfl ?_
      refine tw_istore rfl ?_
      refine tw_iload rfl rfl ?_
      refine tw_if_eq rfl (fun _ => ?_) (fun z => absurd z (by decide))
      refine tw_push rfl ?_
      exact tw_iret rfl (Or.inr ⟨by omega, rfl, rfl, fun _ _ => rfl⟩)
  · try dsimp only [tvI_i, tvJ_j, tvR_r] at p100
    refine tw_if_eq rfl (fun _ => ?_) (fun z => absurd z (by decide))
    refine tw_push rfl ?_
    refine tw_istore rfl ?_
    refine tw_iload rfl rfl ?_
    refine tw_if_eq rfl (fun _ => ?_) (fun z => absurd z (by decide))
    refine tw_push rfl ?_
    exact tw_iret rfl (Or.inr ⟨by omega, rfl, rfl, fun _ _ => rfl⟩)
theorem g_isSort {G : zG} (hG : G.1 = zProg) {h : zH} {n : Int32} : tC zTt G 173 [.int n] h (fun w h2 => tBo (0 ≤ n.toInt ∧ n.toInt ≤ 2) w ∧ h2 = h) := by
  refine tC_in (by rw [hG]; rfl) (fun dp => ?_)
  refine tw_iload rfl rfl ?_
  refine tw_i2l rfl ?_
  refine tw_push rfl ?_
  refine tw_push rfl ?_
  refine tw_stat3 rfl (f_in hG  (LO := 0) (HI := 2) (Int32.toInt_toInt64 _) (by decide) (by decide)) (fun w9 h9 p104 => ?_)
  obtain ⟨⟨p104, rfl⟩ | ⟨p104, rfl⟩, rfl⟩ := p104
  · try dsimp only [tvI_i, tvJ_j, tvR_r] at p104
    exact tw_iret rfl ⟨Or.inl ⟨p104, rfl⟩, rfl⟩
  · try dsimp only [tvI_i, tvJ_j, tvR_r] at p104
    exact tw_iret rfl ⟨Or.inr ⟨p104, rfl⟩, rfl⟩
theorem g_test {G : zG} (hG : G.1 = zProg) {h : zH} {k : Int32} {s : Int32} {v : Int32} {u : Int32} (bu : 0 ≤ u.toInt ∧ u.toInt ≤ 1) (hs : tSh h) (hk3 : 0 ≤ (tvI (tF h 111 3)).toInt) : tC zTt G 238 [.ref 111, .int k, .int s, .int v, .int u] h (phA 111 50 (((0 ≤ k.toInt ∧ k.toInt < (tvI (tF h 111 3)).toInt) ∧ (0 ≤ s.toInt ∧ s.toInt ≤ 2) ∧ (0 ≤ v.toInt ∧ v.toInt ≤ 200)) ∧ (tvI (tF h 111 50)).toInt ≠ 200) [] h) := by
  refine tC_in (by rw [hG]; rfl) (fun dp => ?_)
  refine tw_aload rfl rfl ?_
  refine tw_getS rfl (hi_111_50 hs) ?_
  refine tw_push rfl ?_
  refine tw_ic_eq rfl (fun q105 => ?_) (fun q105 => ?_)
  · try dsimp only [tvI_i, tvJ_j, tvR_r] at q105
    have q105i := zeqi (Y := 200) (by decide) q105
    refine tw_push rfl ?_
    exact tw_iret rfl (Or.inr ⟨by omega, rfl, rfl, fun _ _ => rfl⟩)
  · try dsimp only [tvI_i, tvJ_j, tvR_r] at q105
    have q105i := zneq (Y := 200) (by decide) q105
    refine tw_aload rfl rfl ?_
    refine tw_iload rfl rfl ?_
    refine tw_virt1 rfl (g_isKind hG hs hk3) (fun w9 h9 p106 => ?_)
    obtain ⟨⟨p106, rfl⟩ | ⟨p106, rfl⟩, rfl⟩ := p106
    · try dsimp only [tvI_i, tvJ_j, tvR_r] at p106
      refine tw_if_eq rfl (fun z => absurd z (by decide)) (fun _ => ?_)
      refine tw_iload rfl rfl ?_
      refine tw_stat1 rfl (g_isSort hG) (fun w9 h9 p107 => ?_)
      obtain ⟨⟨p107, rfl⟩ | ⟨p107, rfl⟩, rfl⟩ := p107
      · try dsimp only [tvI_i, tvJ_j, tvR_r] at p107
        refine tw_if_eq rfl (fun z => absurd z (by decide)) (fun _ => ?_)
        refine tw_iload rfl rfl ?_
        refine tw_i2l rfl ?_
        refine tw_push rfl ?_
        refine tw_push rfl ?_
        refine tw_stat3 rfl (f_in hG  (LO := 0) (HI := 200) (Int32.toInt_toInt64 _) (by decide) (by decide)) (fun w9 h9 p108 => ?_)
        obtain ⟨⟨p108, rfl⟩ | ⟨p108, rfl⟩, rfl⟩ := p108
        · try dsimp only [tvI_i, tvJ_j, tvR_r] at p108
          refine tw_if_ne rfl (fun _ => ?_) (fun z => absurd z (by decide))
          refine tw_aload rfl rfl ?_
          refine tw_getS rfl (hs_111_52 hs) ?_
          refine tw_aload rfl rfl ?_
          refine tw_getS rfl (hi_111_50 hs) ?_
          refine tw_iload rfl rfl ?_
          refine tw_iast rfl (fun f109 => ?_)
          refine tw_aload rfl rfl ?_
          refine tw_getS rfl (hs_111_53 (tSh_SA hs)) ?_
          refine tw_aload rfl rfl ?_
          refine tw_getS rfl (tF_a (hi_111_50 hs)) ?_
          refine tw_iload rfl rfl ?_
          refine tw_iast rfl (fun f110 => ?_)
          refine tw_aload rfl rfl ?_
          refine tw_getS rfl (hs_111_54 (tSh_SA (tSh_SA hs))) ?_
          refine tw_aload rfl rfl ?_
          refine tw_getS rfl (tF_a (tF_a (hi_111_50 hs))) ?_
          refine tw_iload rfl rfl ?_
          refine tw_iast rfl (fun f111 => ?_)
          refine tw_aload rfl rfl ?_
          refine tw_getS rfl (hs_111_58 (tSh_SA (tSh_SA (tSh_SA hs)))) ?_
          refine tw_aload rfl rfl ?_
          refine tw_getS rfl (tF_a (tF_a (tF_a (hi_111_50 hs)))) ?_
          refine tw_iload rfl rfl ?_
          refine tw_bastZ bu rfl (fun kf112 f112 => ?_)
          refine tw_aload rfl rfl ?_
          refine tw_dup rfl ?_
          refine tw_getS rfl (tF_a (tF_a (tF_a (tF_a (hi_111_50 hs))))) ?_
          refine tw_push rfl ?_
          refine tw_iadd rfl ?_
          refine tw_put rfl (fun f113 => ?_)
          refine tw_aload rfl rfl ?_
          refine tw_getS rfl (tF_same f113) ?_
          refine tw_push rfl ?_
          refine tw_isub rfl ?_
          exact tw_iret rfl (Or.inl ⟨by omega, wret1 (hi_111_50 hs), (tF_same f113), (fun q hq => by cases hq)⟩)
        · try dsimp only [tvI_i, tvJ_j, tvR_r] at p108
          refine tw_if_ne rfl (fun z => absurd z (by decide)) (fun _ => ?_)
          refine tw_push rfl ?_
          exact tw_iret rfl (Or.inr ⟨by omega, rfl, rfl, fun _ _ => rfl⟩)
      · try dsimp only [tvI_i, tvJ_j, tvR_r] at p107
        refine tw_if_eq rfl (fun _ => ?_) (fun z => absurd z (by decide))
        refine tw_push rfl ?_
        exact tw_iret rfl (Or.inr ⟨by omega, rfl, rfl, fun _ _ => rfl⟩)
    · try dsimp only [tvI_i, tvJ_j, tvR_r] at p106
      refine tw_if_eq rfl (fun _ => ?_) (fun z => absurd z (by decide))
      refine tw_push rfl ?_
      exact tw_iret rfl (Or.inr ⟨by omega, rfl, rfl, fun _ _ => rfl⟩)
theorem a_test {k : Int32} {s : Int32} {v : Int32} {h h2 h3 : zH} {w w2 : Option Value} (h_kinds : R_kinds h) (hR : R_tests h) (e1 : tF h2 111 50 = tF h 111 50) (e2 : tF h3 54 5 = tF h2 54 5) (o_kinds : tF h2 111 3 = tF h 111 3) (k1 : phA 54 5 (((0 ≤ k.toInt ∧ k.toInt < (tvI (tF h 1 6)).toInt) ∧ (0 ≤ s.toInt ∧ s.toInt ≤ 2) ∧ (0 ≤ v.toInt ∧ v.toInt ≤ 200)) ∧ (tvI (tF h 54 5)).toInt ≠ 200) [] h w h2) (k2 : phA 111 50 (((0 ≤ k.toInt ∧ k.toInt < (tvI (tF h2 111 3)).toInt) ∧ (0 ≤ s.toInt ∧ s.toInt ≤ 2) ∧ (0 ≤ v.toInt ∧ v.toInt ≤ 200)) ∧ (tvI (tF h2 111 50)).toInt ≠ 200) [] h2 w2 h3) : w2 = w ∧ R_tests h3 := by
  have hC : (((0 ≤ k.toInt ∧ k.toInt < (tvI (tF h 1 6)).toInt) ∧ (0 ≤ s.toInt ∧ s.toInt ≤ 2) ∧ (0 ≤ v.toInt ∧ v.toInt ≤ 200)) ∧ (tvI (tF h 54 5)).toInt ≠ 200) ↔ (((0 ≤ k.toInt ∧ k.toInt < (tvI (tF h2 111 3)).toInt) ∧ (0 ≤ s.toInt ∧ s.toInt ≤ 2) ∧ (0 ≤ v.toInt ∧ v.toInt ≤ 200)) ∧ (tvI (tF h2 111 50)).toInt ≠ 200) := by
    have hR2 := hR
    unfold R_tests at hR2
    unfold R_kinds at h_kinds
    rw [o_kinds, ← h_kinds]
    rw [e1, ← hR2]
  obtain ⟨r1, r2, r3⟩ := phA_a hR e1 e2 hC k1 k2
  exact ⟨r1, r2⟩
noncomputable def R_crashes (h : zH) : Prop := tF h 63 8 = tF h 111 59
theorem f_carAt {G : zG} (hG : G.1 = zProg) {h : zH} {n : Int32} (hs : tSh h) : tC zTt G 19 [.ref 36, .int n] h (fun w h2 => (((0 ≤ n.toInt ∧ n.toInt < (tvI (tF h 36 4)).toInt) ∧ w = some (zrf (tO h 39 n.toNatClampNeg))) ∨ (¬ (0 ≤ n.toInt ∧ n.toInt < (tvI (tF h 36 4)).toInt) ∧ w = some .null)) ∧ h2 = h) := by
  refine tC_in (by rw [hG]; rfl) (fun dp => ?_)
  refine tw_iload rfl rfl ?_
  refine tw_if_lt rfl (fun q114 => ?_) (fun q114 => ?_)
  · try dsimp only [tvI_i, tvJ_j, tvR_r] at q114
    refine tw_push rfl ?_
    exact tw_aret rfl ⟨Or.inr ⟨by omega, rfl⟩, rfl⟩
  · try dsimp only [tvI_i, tvJ_j, tvR_r] at q114
    refine tw_iload rfl rfl ?_
    refine tw_aload rfl rfl ?_
    refine tw_getS rfl (hi_36_4 hs) ?_
    refine tw_ic_ge rfl (fun q115 => ?_) (fun q115 => ?_)
    · try dsimp only [tvI_i, tvJ_j, tvR_r] at q115
      refine tw_push rfl ?_
      exact tw_aret rfl ⟨Or.inr ⟨by omega, rfl⟩, rfl⟩
    · try dsimp only [tvI_i, tvJ_j, tvR_r] at q115
      refine tw_aload rfl rfl ?_
      refine tw_getS rfl (hs_36_3 hs) ?_
      refine tw_iload rfl rfl ?_
      refine tw_aald rfl (fun f116 => ?_)
      refine tw_goto rfl ?_
      exact tw_aret rfl ⟨Or.inl ⟨by omega, rfl⟩, rfl⟩
theorem car_ge {xs : Nat → Int32} {τ : List Nat} {h : zH} (hB : zBs xs τ h) : ∀ i r : Nat, (i : Int) < (tvI (tF h 36 4)).toInt → tO h 39 i = some r → 182 ≤ r := by
  intro i r hi hr
  have z := car_tag hB hi hr
  have a : (List.range 182).all (fun p => decide (zTG[p]? ≠ some 150) && decide (p < zTG.length)) = true := by decide +kernel
  rcases Nat.lt_or_ge r 182 with q | q
  · have b := List.all_eq_true.mp a r (List.mem_range.mpr q)
    rw [Bool.and_eq_true, decide_eq_true_eq, decide_eq_true_eq] at b
    have e := hB.2.1 r zTG[r] (List.getElem?_eq_getElem b.2)
    rw [z] at e
    exact absurd (by rw [List.getElem?_eq_getElem b.2]; exact e.symm) b.1
  · exact q
theorem tSh_SFr {h : zH} {r b : Nat} {w : Value} (hr : 182 ≤ r) (k : tSh h) : tSh (tSF h r b w) := by
  have a1 : tSr.all (fun q => Nat.blt q.1 182) = true := by decide +kernel
  have a2 : tSi.all (fun q => Nat.blt q.1 182) = true := by decide +kernel
  refine ⟨fun q hq => tF_ne ?_ (k.1 q hq), fun q hq => ?_⟩
  · have := Nat.le_of_ble_eq_true (List.all_eq_true.mp a1 q hq)
    omega
  · have := Nat.le_of_ble_eq_true (List.all_eq_true.mp a2 q hq)
    have e : tF (tSF h r b w) q.1 q.2 = tF h q.1 q.2 := tF_nz (by omega)
    rw [e]
    exact k.2 q hq
theorem f_carAtR {G : zG} (hG : G.1 = zProg) {h : zH} {n : Int32} (hs : tSh h) (hL : R_cl h) (hg : ∀ i r : Nat, (i : Int) < (tvI (tF h 36 4)).toInt → tO h 39 i = some r → 182 ≤ r) : tC zTt G 19 [.ref 36, .int n] h (fun w h2 => ((∃ r, ((0 ≤ n.toInt ∧ n.toInt < (tvI (tF h 36 4)).toInt) ∧ ((n.toNatClampNeg : Nat) : Int) < (tvI (tF h 36 4)).toInt) ∧ tO h 39 n.toNatClampNeg = some r ∧ 182 ≤ r ∧ w = some (.ref r)) ∨ (¬ (0 ≤ n.toInt ∧ n.toInt < (tvI (tF h 36 4)).toInt) ∧ w = some .null)) ∧ h2 = h) := by
  refine (f_carAt hG hs).mono ?_
  rintro w h2 ⟨⟨c, rfl⟩ | ⟨c, rfl⟩, rfl⟩
  · have hi : ((n.toNatClampNeg : Nat) : Int) < (tvI (tF h2 36 4)).toInt := by rw [zclE]; omega
    obtain ⟨r, hr⟩ := hL.1 _ hi
    exact ⟨Or.inl ⟨r, ⟨c, hi⟩, hr, hg _ r hi hr, by rw [hr]; rfl⟩, rfl⟩
  · exact ⟨Or.inr ⟨c, rfl⟩, rfl⟩
theorem f_cfull {G : zG} (hG : G.1 = zProg) {h : zH} (hs : tSh h) {n : Int32} (hn : tF h 63 8 = .int n) : tC zTt G 7 [.ref 63] h (fun w h2 => tBo (n.toInt = 200) w ∧ h2 = h) := by
  refine tC_in (by rw [hG]; rfl) (fun dp => ?_)
  have hn0 := congrArg (fun z => (tvI z).toInt) hn
  have hn1 : (tvI (tF h 63 8)).toInt = n.toInt := hn0
  refine tw_aload rfl rfl ?_
  refine tw_getS rfl (hi_63_8 hs) ?_
  refine tw_push rfl ?_
  refine tw_ic_ne rfl (fun q117 => ?_) (fun q117 => ?_)
  · try dsimp only [tvI_i, tvJ_j, tvR_r] at q117
    have q117i := zneq (Y := 200) (by decide) q117
    refine tw_push rfl ?_
    exact tw_iret rfl ⟨Or.inr ⟨by omega, rfl⟩, rfl⟩
  · try dsimp only [tvI_i, tvJ_j, tvR_r] at q117
    have q117i := zeqi (Y := 200) (by decide) q117
    refine tw_push rfl ?_
    refine tw_goto rfl ?_
    exact tw_iret rfl ⟨Or.inl ⟨by omega, rfl⟩, rfl⟩
theorem tSh_ex {h h2 : zH} {p0 b0 : Nat} {x : Int32} (hn : tSr.all (fun q => !(Nat.beq q.1 p0 && Nat.beq q.2.1 b0)) = true) (k : tSh h) (e1 : tF h2 p0 b0 = .int x) (e2 : ∀ p b, ¬ (p = p0 ∧ b = b0) → tF h2 p b = tF h p b) : tSh h2 := by
  refine ⟨fun q hq => ?_, fun q hq => ?_⟩
  · rw [e2]
    · exact k.1 q hq
    · rintro ⟨z1, z2⟩
      have := List.all_eq_true.mp hn q hq
      rw [z1, z2] at this
      simp at this
  · by_cases e : q.1 = p0 ∧ q.2 = b0
    · rw [e.1, e.2, e1]; rfl
    · rw [e2 _ _ e]; exact k.2 q hq
theorem f_addCrash {G : zG} (hG : G.1 = zProg) {h : zH} {c k m t n : Int32} (hs : tSh h) (hn : tF h 63 8 = .int n) (hf : ¬ n.toInt = 200) : tC zTt G 8 [.ref 63, .int c, .int k, .int m, .int t] h (fun w h2 => w = some (.int n) ∧ tF h2 63 8 = .int (n + 1) ∧ (∀ p b, ¬ (p = 63 ∧ b = 8) → tF h2 p b = tF h p b) ∧ tO h2 = tO h) := by
  refine tC_in (by rw [hG]; rfl) (fun dp => ?_)
  have hnx : tvI (tF h 63 8) = n := by rw [hn]; rfl
  refine tw_aload rfl rfl ?_
  refine tw_virt0 rfl (f_cfull hG hs (hi_63_8 hs)) (fun w9 h9 p118 => ?_)
  obtain ⟨⟨p118, rfl⟩ | ⟨p118, rfl⟩, rfl⟩ := p118
  · try dsimp only [tvI_i, tvJ_j, tvR_r] at p118
    refine tw_if_eq rfl (fun z => absurd z (by decide)) (fun _ => ?_)
    refine tw_push rfl ?_
    rw [hnx] at p118
    exact absurd p118 hf
  · try dsimp only [tvI_i, tvJ_j, tvR_r] at p118
    refine tw_if_eq rfl (fun _ => ?_) (fun z => absurd z (by decide))
    refine tw_aload rfl rfl ?_
    refine tw_getS rfl (hs_63_0 hs) ?_
    refine tw_aload rfl rfl ?_
    refine tw_getS rfl (hi_63_8 hs) ?_
    refine tw_iload rfl rfl ?_
    refine tw_iast rfl (fun f119 => ?_)
    refine tw_aload rfl rfl ?_
    refine tw_getS rfl (hs_63_1 (tSh_SA hs)) ?_
    refine tw_aload rfl rfl ?_
    refine tw_getS rfl (tF_a (hi_63_8 hs)) ?_
    refine tw_iload rfl rfl ?_
    refine tw_iast rfl (fun f120 => ?_)
    refine tw_aload rfl rfl ?_
    refine tw_getS rfl (hs_63_2 (tSh_SA (tSh_SA hs))) ?_
    refine tw_aload rfl rfl ?_
    refine tw_getS rfl (tF_a (tF_a (hi_63_8 hs))) ?_
    refine tw_iload rfl rfl ?_
    refine tw_iast rfl (fun f121 => ?_)
    refine tw_aload rfl rfl ?_
    refine tw_getS rfl (hs_63_3 (tSh_SA (tSh_SA (tSh_SA hs)))) ?_
    refine tw_aload rfl rfl ?_
    refine tw_getS rfl (tF_a (tF_a (tF_a (hi_63_8 hs)))) ?_
    refine tw_iload rfl rfl ?_
    refine tw_iast rfl (fun f122 => ?_)
    refine tw_aload rfl rfl ?_
    refine tw_dup rfl ?_
    refine tw_getS rfl (tF_a (tF_a (tF_a (tF_a (hi_63_8 hs))))) ?_
    refine tw_dup_x1 rfl ?_
    refine tw_push rfl ?_
    refine tw_iadd rfl ?_
    refine tw_put rfl (fun f123 => ?_)
    exact tw_iret rfl ⟨congrArg some (congrArg Value.int hnx), (tF_same f123).trans (by rw [hnx] <;> rfl), fun p b n1 => (tF_ne n1 (tF_a (tF_a (tF_a (tF_a rfl))))), by rw [tO_tSF, tO_tSA, tO_tSA, tO_tSA, tO_tSA]⟩
theorem f_hasCrash {G : zG} (hG : G.1 = zProg) {h : zH} {n : Int32} (hs : tSh h) : tC zTt G 6 [.ref 63, .int n] h (fun w h2 => tBo (0 ≤ n.toInt ∧ n.toInt < (tvI (tF h 63 8)).toInt) w ∧ h2 = h) := by
  refine tC_in (by rw [hG]; rfl) (fun dp => ?_)
  refine tw_iload rfl rfl ?_
  refine tw_if_lt rfl (fun q124 => ?_) (fun q124 => ?_)
  · try dsimp only [tvI_i, tvJ_j, tvR_r] at q124
    refine tw_push rfl ?_
    exact tw_iret rfl ⟨Or.inr ⟨by omega, rfl⟩, rfl⟩
  · try dsimp only [tvI_i, tvJ_j, tvR_r] at q124
    refine tw_iload rfl rfl ?_
    refine tw_aload rfl rfl ?_
    refine tw_getS rfl (hi_63_8 hs) ?_
    refine tw_ic_ge rfl (fun q125 => ?_) (fun q125 => ?_)
    · try dsimp only [tvI_i, tvJ_j, tvR_r] at q125
      refine tw_push rfl ?_
      exact tw_iret rfl ⟨Or.inr ⟨by omega, rfl⟩, rfl⟩
    · try dsimp only [tvI_i, tvJ_j, tvR_r] at q125
      refine tw_push rfl ?_
      refine tw_goto rfl ?_
      exact tw_iret rfl ⟨Or.inl ⟨by omega, rfl⟩, rfl⟩
theorem f_tellOf {G : zG} (hG : G.1 = zProg) {h : zH} {x s v d u n : Int32} (bu : 0 ≤ u.toInt ∧ u.toInt ≤ 1) (hs : tSh h) (hn : tF h 63 8 = .int n) (h0 : 0 ≤ x.toInt ∧ x.toInt < n.toInt) : tC zTt G 9 [.ref 63, .int x, .int s, .int v, .int d, .int u] h (fun w h2 => w = none ∧ tF h2 = tF h ∧ tO h2 = tO h) := by
  refine tC_in (by rw [hG]; rfl) (fun dp => ?_)
  have hnx : (tvI (tF h 63 8)).toInt = n.toInt := by rw [hn]; rfl
  refine tw_aload rfl rfl ?_
  refine tw_iload rfl rfl ?_
  refine tw_virt1 rfl (f_hasCrash hG hs) (fun w9 h9 p126 => ?_)
  obtain ⟨⟨p126, rfl⟩ | ⟨p126, rfl⟩, rfl⟩ := p126
  · try dsimp only [tvI_i, tvJ_j, tvR_r] at p126
    refine tw_if_ne rfl (fun _ => ?_) (fun z => absurd z (by decide))
    refine tw_aload rfl rfl ?_
    refine tw_getS rfl (hs_63_4 hs) ?_
    refine tw_iload rfl rfl ?_
    refine tw_iload rfl rfl ?_
    refine tw_iast rfl (fun f127 => ?_)
    refine tw_aload rfl rfl ?_
    refine tw_getS rfl (hs_63_5 (tSh_SA hs)) ?_
    refine tw_iload rfl rfl ?_
    refine tw_iload rfl rfl ?_
    refine tw_iast rfl (fun f128 => ?_)
    refine tw_aload rfl rfl ?_
    refine tw_getS rfl (hs_63_6 (tSh_SA (tSh_SA hs))) ?_
    refine tw_iload rfl rfl ?_
    refine tw_iload rfl rfl ?_
    refine tw_iast rfl (fun f129 => ?_)
    refine tw_aload rfl rfl ?_
    refine tw_getS rfl (hs_63_7 (tSh_SA (tSh_SA (tSh_SA hs)))) ?_
    refine tw_iload rfl rfl ?_
    refine tw_iload rfl rfl ?_
    refine tw_bastZ bu rfl (fun kf130 f130 => ?_)
    exact tw_vret rfl ⟨rfl, by rw [tF_tSA, tF_tSA, tF_tSA, tF_tSA], by rw [tO_tSA, tO_tSA, tO_tSA, tO_tSA]⟩
  · try dsimp only [tvI_i, tvJ_j, tvR_r] at p126
    refine tw_if_ne rfl (fun z => absurd z (by decide)) (fun _ => ?_)
    exact (p126 ⟨by omega, by omega⟩).elim
noncomputable def ph_crc (c m s v d u y : Int32) (h : zH) (w : Option Value) (h2 : zH) : Prop := (((0 ≤ c.toInt ∧ c.toInt < (tvI (tF h 36 4)).toInt) ∧ (tA h 120 c.toNatClampNeg).toInt = 0 ∧ ((tA h 127 c.toNatClampNeg).toInt ≤ m.toInt ∧ m.toInt ≤ (tvI (tF h 0 14)).toInt) ∧ (0 ≤ s.toInt ∧ s.toInt ≤ 2) ∧ (0 ≤ v.toInt ∧ v.toInt ≤ 200) ∧ (0 ≤ d.toInt ∧ d.toInt ≤ 9) ∧ (tvI (tF h 63 8)).toInt ≠ 200) ∧ w = some (tF h 63 8) ∧ ∃ r, tO h 39 c.toNatClampNeg = some r ∧ tF h2 63 8 = .int (tvI (tF h 63 8) + 1) ∧ tF h2 r 6 = .int m ∧ tF h2 r 7 = .int y ∧ (∀ p b, ¬ (p = 63 ∧ b = 8) → ¬ (p = r ∧ (b = 6 ∨ b = 7)) → tF h2 p b = tF h p b) ∧ tO h2 = tO h) ∨ (¬ ((0 ≤ c.toInt ∧ c.toInt < (tvI (tF h 36 4)).toInt) ∧ (tA h 120 c.toNatClampNeg).toInt = 0 ∧ ((tA h 127 c.toNatClampNeg).toInt ≤ m.toInt ∧ m.toInt ≤ (tvI (tF h 0 14)).toInt) ∧ (0 ≤ s.toInt ∧ s.toInt ≤ 2) ∧ (0 ≤ v.toInt ∧ v.toInt ≤ 200) ∧ (0 ≤ d.toInt ∧ d.toInt ≤ 9) ∧ (tvI (tF h 63 8)).toInt ≠ 200) ∧ w = some (.int (-1)) ∧ h2 = h)
theorem zinc1 {x : Int32} (h : 0 ≤ x.toInt ∧ x.toInt ≤ 200) : (x + 1).toInt = x.toInt + 1 := by
  rw [Int32.toInt_add]
  exact Int.bmod_eq_of_le (by show (-2147483648 : Int) ≤ x.toInt + 1; omega) (by show x.toInt + 1 < (2147483648 : Int); omega)
theorem f_crash {G : zG} (hG : G.1 = zProg) {h : zH} {c m s v d u y : Int32} (bu : 0 ≤ u.toInt ∧ u.toInt ≤ 1) (bw : 0 ≤ y.toInt ∧ y.toInt ≤ 1) (hs : tSh h) (hL : R_cl h) (hg : ∀ i r : Nat, (i : Int) < (tvI (tF h 36 4)).toInt → tO h 39 i = some r → 182 ≤ r) (hR6 : R_ccr h) (hR7 : R_cwr h) (hR0 : R_ckind h) (hn0 : 0 ≤ (tvI (tF h 63 8)).toInt ∧ (tvI (tF h 63 8)).toInt ≤ 200) : tC zTt G 133 [.ref 0, .int c, .int m, .int s, .int v, .int d, .int u, .int y] h (ph_crc c m s v d u y h) := by
  refine tC_in (by rw [hG]; rfl) (fun dp => ?_)
  refine tw_aload rfl rfl ?_
  refine tw_getS rfl (hs_0_1 hs) ?_
  refine tw_iload rfl rfl ?_
  refine tw_virt1 rfl (f_carAtR hG hs hL hg) (fun w9 h9 p131 => ?_)
  obtain ⟨⟨rp131, p131, p131r, p131g, rfl⟩ | ⟨p131, rfl⟩, rfl⟩ := p131
  · refine tw_astore rfl ?_
    refine tw_aload rfl rfl ?_
    refine tw_ifnull rfl (fun z => by cases z) (fun _ _ => ?_)
    refine tw_aload rfl rfl ?_
    refine tw_getS rfl (hR7 _ _ p131.2 p131r) ?_
    refine tw_if_ne rfl (fun q134 => ?_) (fun q134 => ?_)
    · try dsimp only [tvI_i, tvJ_j, tvR_r] at q134
      have q134i := zneq (Y := 0) (by decide) q134
      refine tw_push rfl ?_
      exact tw_iret rfl (Or.inr ⟨by omega, rfl, rfl⟩)
    · try dsimp only [tvI_i, tvJ_j, tvR_r] at q134
      have q134i := zeqi (Y := 0) (by decide) q134
      refine tw_iload rfl rfl ?_
      refine tw_aload rfl rfl ?_
      refine tw_getS rfl (hR6 _ _ p131.2 p131r) ?_
      refine tw_aload rfl rfl ?_
      refine tw_getS rfl (hi_0_14 hs) ?_
      refine tw_stat3 rfl (f_isWithin hG   rfl rfl) (fun w9 h9 p135 => ?_)
      obtain ⟨⟨p135, rfl⟩ | ⟨p135, rfl⟩, rfl⟩ := p135
      · try dsimp only [tvI_i, tvJ_j, tvR_r] at p135
        refine tw_if_ne rfl (fun _ => ?_) (fun z => absurd z (by decide))
        refine tw_iload rfl rfl ?_
        refine tw_stat1 rfl (f_isSort hG) (fun w9 h9 p136 => ?_)
        obtain ⟨⟨p136, rfl⟩ | ⟨p136, rfl⟩, rfl⟩ := p136
        · try dsimp only [tvI_i, tvJ_j, tvR_r] at p136
          refine tw_if_eq rfl (fun z => absurd z (by decide)) (fun _ => ?_)
          refine tw_iload rfl rfl ?_
          refine tw_stat1 rfl (f_isSpeed hG) (fun w9 h9 p137 => ?_)
          obtain ⟨⟨p137, rfl⟩ | ⟨p137, rfl⟩, rfl⟩ := p137
          · try dsimp only [tvI_i, tvJ_j, tvR_r] at p137
            refine tw_if_eq rfl (fun z => absurd z (by decide)) (fun _ => ?_)
            refine tw_iload rfl rfl ?_
            refine tw_push rfl ?_
            refine tw_push rfl ?_
            refine tw_stat3 rfl (f_isWithin hG (LO := 0) (HI := 9) (by decide) (by decide)) (fun w9 h9 p138 => ?_)
            obtain ⟨⟨p138, rfl⟩ | ⟨p138, rfl⟩, rfl⟩ := p138
            · try dsimp only [tvI_i, tvJ_j, tvR_r] at p138
              refine tw_if_eq rfl (fun z => absurd z (by decide)) (fun _ => ?_)
              refine tw_aload rfl rfl ?_
              refine tw_getS rfl (hs_0_5 hs) ?_
              refine tw_virt0 rfl (f_cfull hG hs (hi_63_8 hs)) (fun w9 h9 p139 => ?_)
              obtain ⟨⟨p139, rfl⟩ | ⟨p139, rfl⟩, rfl⟩ := p139
              · try dsimp only [tvI_i, tvJ_j, tvR_r] at p139
                refine tw_if_eq rfl (fun z => absurd z (by decide)) (fun _ => ?_)
                refine tw_push rfl ?_
                exact tw_iret rfl (Or.inr ⟨by omega, rfl, rfl⟩)
              · try dsimp only [tvI_i, tvJ_j, tvR_r] at p139
                refine tw_if_eq rfl (fun _ => ?_) (fun z => absurd z (by decide))
                refine tw_aload rfl rfl ?_
                refine tw_iload rfl rfl ?_
                refine tw_put rfl (fun f140 => ?_)
                refine tw_aload rfl rfl ?_
                refine tw_iload rfl rfl ?_
                refine tw_put rfl (fun f141 => ?_)
                refine tw_aload rfl rfl ?_
                refine tw_getS rfl (hs_0_5 (tSh_SFr (by omega) (tSh_SFr (by omega) hs))) ?_
                refine tw_iload rfl rfl ?_
                refine tw_aload rfl rfl ?_
                refine tw_getS rfl (tF_ne (by omega) (tF_ne (by omega) (hR0 _ _ p131.2 p131r))) ?_
                refine tw_iload rfl rfl ?_
                refine tw_aload rfl rfl ?_
                refine tw_getS rfl (tF_ne (by omega) (tF_ne (by omega) (hi_0_14 hs))) ?_
                refine tw_virt4 rfl (f_addCrash hG (tSh_SFr (by omega) (tSh_SFr (by omega) hs)) (tF_ne (by omega) (tF_ne (by omega) (hi_63_8 hs))) (by omega)) (fun wp142 hp142 p142 => ?_)
                obtain ⟨rfl, p142e, p142f, p142o⟩ := p142
                refine tw_istore rfl ?_
                refine tw_aload rfl rfl ?_
                refine tw_getS rfl (hs_0_5 (tSh_ex (by decide +kernel) (tSh_SFr (by omega) (tSh_SFr (by omega) hs)) p142e p142f)) ?_
                refine tw_iload rfl rfl ?_
                refine tw_iload rfl rfl ?_
                refine tw_iload rfl rfl ?_
                refine tw_iload rfl rfl ?_
                refine tw_iload rfl rfl ?_
                refine tw_virt5 rfl (f_tellOf hG bu (tSh_ex (by decide +kernel) (tSh_SFr (by omega) (tSh_SFr (by omega) hs)) p142e p142f) p142e ⟨hn0.1, (by rw [zinc1 hn0]; exact Int.lt_succ _)⟩) (fun wp143 hp143 p143 => ?_)
                obtain ⟨rfl, p143e, p143o⟩ := p143
                refine tw_iload rfl rfl ?_
                have e63 := hi_63_8 hs
                refine tw_iret rfl (Or.inl ⟨by omega, congrArg some e63.symm, rp131, p131r, ?_, ?_, ?_, fun p b n1 n2 => ?_, ?_⟩)
                · rw [p143e, p142e]
                · rw [p143e, p142f _ _ (by omega)]; exact tF_ne (by omega) (tF_same f140)
                · rw [p143e, p142f _ _ (by omega)]; exact tF_same f141
                · rw [p143e, p142f _ _ n1]; exact (tF_ne (fun z => n2 ⟨z.1, Or.inr z.2⟩) (tF_ne (fun z => n2 ⟨z.1, Or.inl z.2⟩) rfl))
                · rw [p143o, p142o, tO_tSF, tO_tSF]
            · try dsimp only [tvI_i, tvJ_j, tvR_r] at p138
              refine tw_if_eq rfl (fun _ => ?_) (fun z => absurd z (by decide))
              refine tw_push rfl ?_
              exact tw_iret rfl (Or.inr ⟨by omega, rfl, rfl⟩)
          · try dsimp only [tvI_i, tvJ_j, tvR_r] at p137
            refine tw_if_eq rfl (fun _ => ?_) (fun z => absurd z (by decide))
            refine tw_push rfl ?_
            exact tw_iret rfl (Or.inr ⟨by omega, rfl, rfl⟩)
        · try dsimp only [tvI_i, tvJ_j, tvR_r] at p136
          refine tw_if_eq rfl (fun _ => ?_) (fun z => absurd z (by decide))
          refine tw_push rfl ?_
          exact tw_iret rfl (Or.inr ⟨by omega, rfl, rfl⟩)
      · try dsimp only [tvI_i, tvJ_j, tvR_r] at p135
        refine tw_if_ne rfl (fun z => absurd z (by decide)) (fun _ => ?_)
        refine tw_push rfl ?_
        exact tw_iret rfl (Or.inr ⟨by omega, rfl, rfl⟩)
  · refine tw_astoreN rfl ?_
    refine tw_aload rfl rfl ?_
    refine tw_ifnull rfl (fun _ => ?_) (fun _ z => by cases z)
    refine tw_push rfl ?_
    exact tw_iret rfl (Or.inr ⟨by omega, rfl, rfl⟩)
theorem g_isCar {G : zG} (hG : G.1 = zProg) {h : zH} {n : Int32} (hs : tSh h) (hk : 0 ≤ (tvI (tF h 111 5)).toInt) : tC zTt G 178 [.ref 111, .int n] h (fun w h2 => tBo (0 ≤ n.toInt ∧ n.toInt < (tvI (tF h 111 5)).toInt) w ∧ h2 = h) := by
  refine tC_in (by rw [hG]; rfl) (fun dp => ?_)
  refine tw_iload rfl rfl ?_
  refine tw_i2l rfl ?_
  refine tw_push rfl ?_
  refine tw_aload rfl rfl ?_
  refine tw_getS rfl (hi_111_5 hs) ?_
  refine tw_push rfl ?_
  refine tw_isub rfl ?_
  refine tw_i2l rfl ?_
  refine tw_stat3 rfl (f_in hG  (LO := 0)  (Int32.toInt_toInt64 _) (by decide) (Int32.toInt_toInt64 _)) (fun w9 h9 p146 => ?_)
  obtain ⟨⟨p146, rfl⟩ | ⟨p146, rfl⟩, rfl⟩ := p146
  · try dsimp only [tvI_i, tvJ_j, tvR_r] at p146
    exact tw_iret rfl ⟨Or.inl ⟨by have e := zsub1 hk; have := p146; omega, rfl⟩, rfl⟩
  · try dsimp only [tvI_i, tvJ_j, tvR_r] at p146
    exact tw_iret rfl ⟨Or.inr ⟨by have e := zsub1 hk; have := p146; omega, rfl⟩, rfl⟩
noncomputable def ph_crm (c m s v d u y : Int32) (h : zH) (w : Option Value) (h2 : zH) : Prop := (((0 ≤ c.toInt ∧ c.toInt < (tvI (tF h 111 5)).toInt) ∧ (tA h 120 c.toNatClampNeg).toInt = 0 ∧ ((tA h 127 c.toNatClampNeg).toInt ≤ m.toInt ∧ m.toInt ≤ (tvI (tF h 111 1)).toInt) ∧ (0 ≤ s.toInt ∧ s.toInt ≤ 2) ∧ (0 ≤ v.toInt ∧ v.toInt ≤ 200) ∧ (0 ≤ d.toInt ∧ d.toInt ≤ 9) ∧ (tvI (tF h 111 59)).toInt ≠ 200) ∧ w = some (tF h 111 59) ∧ tF h2 111 59 = .int (tvI (tF h 111 59) + 1) ∧ tA h2 127 = (fun j => if j = c.toNatClampNeg then m else tA h 127 j) ∧ tA h2 120 = (fun j => if j = c.toNatClampNeg then y else tA h 120 j)) ∨ (¬ ((0 ≤ c.toInt ∧ c.toInt < (tvI (tF h 111 5)).toInt) ∧ (tA h 120 c.toNatClampNeg).toInt = 0 ∧ ((tA h 127 c.toNatClampNeg).toInt ≤ m.toInt ∧ m.toInt ≤ (tvI (tF h 111 1)).toInt) ∧ (0 ≤ s.toInt ∧ s.toInt ≤ 2) ∧ (0 ≤ v.toInt ∧ v.toInt ≤ 200) ∧ (0 ≤ d.toInt ∧ d.toInt ≤ 9) ∧ (tvI (tF h 111 59)).toInt ≠ 200) ∧ w = some (.int (-1)) ∧ h2 = h)
theorem g_crash {G : zG} (hG : G.1 = zProg) {h : zH} {c m s v d u y : Int32} (bu : 0 ≤ u.toInt ∧ u.toInt ≤ 1) (bw : 0 ≤ y.toInt ∧ y.toInt ≤ 1) (hs : tSh h) (hk5 : 0 ≤ (tvI (tF h 111 5)).toInt) : tC zTt G 244 [.ref 111, .int c, .int m, .int s, .int v, .int d, .int u, .int y] h (ph_crm c m s v d u y h) := by
  refine tC_in (by rw [hG]; rfl) (fun dp => ?_)
  refine tw_aload rfl rfl ?_
  refine tw_getS rfl (hi_111_59 hs) ?_
  refine tw_push rfl ?_
  refine tw_ic_eq rfl (fun q147 => ?_) (fun q147 => ?_)
  · try dsimp only [tvI_i, tvJ_j, tvR_r] at q147
    have q147i := zeqi (Y := 200) (by decide) q147
    refine tw_push rfl ?_
    exact tw_iret rfl (Or.inr ⟨by omega, rfl, rfl⟩)
  · try dsimp only [tvI_i, tvJ_j, tvR_r] at q147
    have q147i := zneq (Y := 200) (by decide) q147
    refine tw_aload rfl rfl ?_
    refine tw_iload rfl rfl ?_
    refine tw_virt1 rfl (g_isCar hG hs hk5) (fun w9 h9 p148 => ?_)
    obtain ⟨⟨p148, rfl⟩ | ⟨p148, rfl⟩, rfl⟩ := p148
    · try dsimp only [tvI_i, tvJ_j, tvR_r] at p148
      refine tw_if_eq rfl (fun z => absurd z (by decide)) (fun _ => ?_)
      refine tw_aload rfl rfl ?_
      refine tw_getS rfl (hs_111_15 hs) ?_
      refine tw_iload rfl rfl ?_
      refine tw_bald rfl (fun f149 => ?_)
      refine tw_if_ne rfl (fun q150 => ?_) (fun q150 => ?_)
      · try dsimp only [tvI_i, tvJ_j, tvR_r] at q150
        have q150i := zneq (Y := 0) (by decide) q150
        refine tw_push rfl ?_
        exact tw_iret rfl (Or.inr ⟨by omega, rfl, rfl⟩)
      · try dsimp only [tvI_i, tvJ_j, tvR_r] at q150
        have q150i := zeqi (Y := 0) (by decide) q150
        refine tw_iload rfl rfl ?_
        refine tw_i2l rfl ?_
        refine tw_aload rfl rfl ?_
        refine tw_getS rfl (hs_111_22 hs) ?_
        refine tw_iload rfl rfl ?_
        refine tw_iald rfl (fun f151 => ?_)
        refine tw_i2l rfl ?_
        refine tw_aload rfl rfl ?_
        refine tw_getS rfl (hi_111_1 hs) ?_
        refine tw_i2l rfl ?_
        refine tw_stat3 rfl (f_in hG    (Int32.toInt_toInt64 _) (Int32.toInt_toInt64 _) (Int32.toInt_toInt64 _)) (fun w9 h9 p152 => ?_)
        obtain ⟨⟨p152, rfl⟩ | ⟨p152, rfl⟩, rfl⟩ := p152
        · try dsimp only [tvI_i, tvJ_j, tvR_r] at p152
          refine tw_if_eq rfl (fun z => absurd z (by decide)) (fun _ => ?_)
          refine tw_iload rfl rfl ?_
          refine tw_stat1 rfl (g_isSort hG) (fun w9 h9 p153 => ?_)
          obtain ⟨⟨p153, rfl⟩ | ⟨p153, rfl⟩, rfl⟩ := p153
          · try dsimp only [tvI_i, tvJ_j, tvR_r] at p153
            refine tw_if_eq rfl (fun z => absurd z (by decide)) (fun _ => ?_)
            refine tw_iload rfl rfl ?_
            refine tw_i2l rfl ?_
            refine tw_push rfl ?_
            refine tw_push rfl ?_
            refine tw_stat3 rfl (f_in hG  (LO := 0) (HI := 200) (Int32.toInt_toInt64 _) (by decide) (by decide)) (fun w9 h9 p154 => ?_)
            obtain ⟨⟨p154, rfl⟩ | ⟨p154, rfl⟩, rfl⟩ := p154
            · try dsimp only [tvI_i, tvJ_j, tvR_r] at p154
              refine tw_if_eq rfl (fun z => absurd z (by decide)) (fun _ => ?_)
              refine tw_iload rfl rfl ?_
              refine tw_i2l rfl ?_
              refine tw_push rfl ?_
              refine tw_push rfl ?_
              refine tw_stat3 rfl (f_in hG  (LO := 0) (HI := 9) (Int32.toInt_toInt64 _) (by decide) (by decide)) (fun w9 h9 p155 => ?_)
              obtain ⟨⟨p155, rfl⟩ | ⟨p155, rfl⟩, rfl⟩ := p155
              · try dsimp only [tvI_i, tvJ_j, tvR_r] at p155
                refine tw_if_ne rfl (fun _ => ?_) (fun z => absurd z (by decide))
                refine tw_aload rfl rfl ?_
                refine tw_getS rfl (hs_111_60 hs) ?_
                refine tw_aload rfl rfl ?_
                refine tw_getS rfl (hi_111_59 hs) ?_
                refine tw_iload rfl rfl ?_
                refine tw_iast rfl (fun f156 => ?_)
                refine tw_aload rfl rfl ?_
                refine tw_getS rfl (hs_111_61 (tSh_SA hs)) ?_
                refine tw_aload rfl rfl ?_
                refine tw_getS rfl (tF_a (hi_111_59 hs)) ?_
                refine tw_iload rfl rfl ?_
                refine tw_iast rfl (fun f157 => ?_)
                refine tw_aload rfl rfl ?_
                refine tw_getS rfl (hs_111_62 (tSh_SA (tSh_SA hs))) ?_
                refine tw_aload rfl rfl ?_
                refine tw_getS rfl (tF_a (tF_a (hi_111_59 hs))) ?_
                refine tw_iload rfl rfl ?_
                refine tw_iast rfl (fun f158 => ?_)
                refine tw_aload rfl rfl ?_
                refine tw_getS rfl (hs_111_63 (tSh_SA (tSh_SA (tSh_SA hs)))) ?_
                refine tw_aload rfl rfl ?_
                refine tw_getS rfl (tF_a (tF_a (tF_a (hi_111_59 hs)))) ?_
                refine tw_iload rfl rfl ?_
                refine tw_iast rfl (fun f159 => ?_)
                refine tw_aload rfl rfl ?_
                refine tw_getS rfl (hs_111_64 (tSh_SA (tSh_SA (tSh_SA (tSh_SA hs))))) ?_
                refine tw_aload rfl rfl ?_
                refine tw_getS rfl (tF_a (tF_a (tF_a (tF_a (hi_111_59 hs))))) ?_
                refine tw_iload rfl rfl ?_
                refine tw_iast rfl (fun f160 => ?_)
                refine tw_aload rfl rfl ?_
                refine tw_getS rfl (hs_111_65 (tSh_SA (tSh_SA (tSh_SA (tSh_SA (tSh_SA hs)))))) ?_
                refine tw_aload rfl rfl ?_
                refine tw_getS rfl (tF_a (tF_a (tF_a (tF_a (tF_a (hi_111_59 hs)))))) ?_
                refine tw_aload rfl rfl ?_
                refine tw_getS rfl (tF_a (tF_a (tF_a (tF_a (tF_a (hi_111_1 hs)))))) ?_
                refine tw_iast rfl (fun f161 => ?_)
                refine tw_aload rfl rfl ?_
                refine tw_getS rfl (hs_111_66 (tSh_SA (tSh_SA (tSh_SA (tSh_SA (tSh_SA (tSh_SA hs))))))) ?_
                refine tw_aload rfl rfl ?_
                refine tw_getS rfl (tF_a (tF_a (tF_a (tF_a (tF_a (tF_a (hi_111_59 hs))))))) ?_
                refine tw_iload rfl rfl ?_
                refine tw_bastZ bu rfl (fun kf162 f162 => ?_)
                refine tw_aload rfl rfl ?_
                refine tw_getS rfl (hs_111_22 (tSh_SA (tSh_SA (tSh_SA (tSh_SA (tSh_SA (tSh_SA (tSh_SA hs)))))))) ?_
                refine tw_iload rfl rfl ?_
                refine tw_iload rfl rfl ?_
                refine tw_iast rfl (fun f163 => ?_)
                refine tw_aload rfl rfl ?_
                refine tw_getS rfl (hs_111_15 (tSh_SA (tSh_SA (tSh_SA (tSh_SA (tSh_SA (tSh_SA (tSh_SA (tSh_SA hs))))))))) ?_
                refine tw_iload rfl rfl ?_
                refine tw_iload rfl rfl ?_
                refine tw_bastZ bw rfl (fun kf164 f164 => ?_)
                refine tw_aload rfl rfl ?_
                refine tw_dup rfl ?_
                refine tw_getS rfl (tF_a (tF_a (tF_a (tF_a (tF_a (tF_a (tF_a (tF_a (tF_a (hi_111_59 hs)))))))))) ?_
                refine tw_push rfl ?_
                refine tw_iadd rfl ?_
                refine tw_put rfl (fun f165 => ?_)
                refine tw_aload rfl rfl ?_
                refine tw_getS rfl (tF_same f165) ?_
                refine tw_push rfl ?_
                refine tw_isub rfl ?_
                exact tw_iret rfl (Or.inl ⟨by omega, wret1 (hi_111_59 hs), (tF_same f165), (tA_ff (tA_n (by decide) (tA_st f163 (tA_n (by decide) (tA_n (by decide) (tA_n (by decide) (tA_n (by decide) (tA_n (by decide) (tA_n (by decide) (tA_n (by decide) rfl)))))))))), (tA_ff (tA_st f164 (tA_n (by decide) (tA_n (by decide) (tA_n (by decide) (tA_n (by decide) (tA_n (by decide) (tA_n (by decide) (tA_n (by decide) (tA_n (by decide) rfl))))))))))⟩)
              · try dsimp only [tvI_i, tvJ_j, tvR_r] at p155
                refine tw_if_ne rfl (fun z => absurd z (by decide)) (fun _ => ?_)
                refine tw_push rfl ?_
                exact tw_iret rfl (Or.inr ⟨by omega, rfl, rfl⟩)
            · try dsimp only [tvI_i, tvJ_j, tvR_r] at p154
              refine tw_if_eq rfl (fun _ => ?_) (fun z => absurd z (by decide))
              refine tw_push rfl ?_
              exact tw_iret rfl (Or.inr ⟨by omega, rfl, rfl⟩)
          · try dsimp only [tvI_i, tvJ_j, tvR_r] at p153
            refine tw_if_eq rfl (fun _ => ?_) (fun z => absurd z (by decide))
            refine tw_push rfl ?_
            exact tw_iret rfl (Or.inr ⟨by omega, rfl, rfl⟩)
        · try dsimp only [tvI_i, tvJ_j, tvR_r] at p152
          refine tw_if_eq rfl (fun _ => ?_) (fun z => absurd z (by decide))
          refine tw_push rfl ?_
          exact tw_iret rfl (Or.inr ⟨by omega, rfl, rfl⟩)
    · try dsimp only [tvI_i, tvJ_j, tvR_r] at p148
      refine tw_if_eq rfl (fun _ => ?_) (fun z => absurd z (by decide))
      refine tw_push rfl ?_
      exact tw_iret rfl (Or.inr ⟨by omega, rfl, rfl⟩)
theorem a_crash {xs : Nat → Int32} {τ : List Nat} {c m s v d u y : Int32} {h h2 h3 : zH} {w w2 : Option Value} (hB : zBs xs τ h) (hC : R_cars h) (hW : R_now h) (hA : R_crashes h) (hL : R_cl h) (h6 : R_ccr h) (h7 : R_cwr h) (h0 : R_cw0 h) (e1 : tF h2 111 5 = tF h 111 5) (e4 : tF h2 111 1 = tF h 111 1) (e5 : tF h2 111 59 = tF h 111 59) (o1 : tA h2 127 = tA h 127) (o2 : tA h2 120 = tA h 120) (e2 : tF h3 63 8 = tF h2 63 8) (e6 : tO h3 39 = tO h2 39) (e8 : tO h2 39 = tO h 39) (e9 : tF h3 36 4 = tF h2 36 4) (e11 : tF h2 36 4 = tF h 36 4) (e7 : ∀ i r f : Nat, (i : Int) < (tvI (tF h2 36 4)).toInt → tO h2 39 i = some r → tF h3 r f = tF h2 r f) (k1 : ph_crc c m s v d u y h w h2) (k2 : ph_crm c m s v d u y h2 w2 h3) : w2 = w ∧ R_crashes h3 ∧ R_ccr h3 ∧ R_cwr h3 ∧ R_cw0 h3 := by
  have hC0 := hC
  have hA0 := hA
  unfold R_cars at hC0
  unfold R_now at hW
  unfold R_crashes at hA0
  unfold ph_crm at k2
  rw [e1, e4, e5, o1, o2, ← hC0, ← hW, ← hA0] at k2
  rw [e11, e8] at e7
  rcases k1 with ⟨c1, rfl, r, hr, f1, f2, f3, f4, f5⟩ | ⟨c1, rfl, rfl⟩ <;> rcases k2 with ⟨c2, rfl, q1, q2, q3⟩ | ⟨c2, rfl, rfl⟩
  · have hi : ((c.toNatClampNeg : Nat) : Int) < (tvI (tF h 36 4)).toInt := by rw [zclE]; omega
    have key : ∀ f x P, (f = 6 ∨ f = 7) → tF h2 r f = .int x → tA h3 P = (fun j => if j = c.toNatClampNeg then x else tA h P j) → (∀ i r : Nat, (i : Int) < (tvI (tF h 36 4)).toInt → tO h 39 i = some r → tF h r f = .int (tA h P i)) → ∀ i r : Nat, (i : Int) < (tvI (tF h3 36 4)).toInt → tO h3 39 i = some r → tF h3 r f = .int (tA h3 P i) := by
      intro f x P hf hx hP3 hold i s hi2 hs
      rw [e9, e11] at hi2
      rw [e6, e8] at hs
      rw [e7 i s f hi2 hs, hP3]
      dsimp only
      by_cases z : i = c.toNatClampNeg
      · subst z
        rw [hr] at hs
        cases hs
        rw [if_pos rfl]
        exact hx
      · rw [if_neg z, f4 s f (fun y => car_ne hB hi2 hs (p := 63) (t := 39) rfl (by decide) y.1) (fun y => z (hL.2 _ _ hi2 hi (by rw [hs, hr, y.1])))]
        exact hold i s hi2 hs
    refine ⟨rfl, ?_, key 6 m 127 (Or.inl rfl) f2 q2 h6, key 7 y 120 (Or.inr rfl) f3 q3 h7, ?_⟩
    · unfold R_crashes; rw [e2, f1, q1]
    · intro i hi2
      rw [e9, e11] at hi2
      rw [q3]
      dsimp only
      rw [if_neg (by omega)]
      exact h0 i hi2
  · exact absurd c1 c2
  · exact absurd c2 c1
  · exact ⟨rfl, hA, h6, h7, h0⟩
noncomputable def R_memos (h : zH) : Prop := tF h 76 0 = tF h 111 71
theorem f_addMemo {G : zG} (hG : G.1 = zProg) {h : zH}  (hs : tSh h) : tC zTt G 39 [.ref 76] h (phN 76 0 ((tvI (tF h 76 0)).toInt ≠ 20) h) := by
  refine tC_in (by rw [hG]; rfl) (fun dp => ?_)
  refine tw_aload rfl rfl ?_
  refine tw_getS rfl (hi_76_0 hs) ?_
  refine tw_push rfl ?_
  refine tw_ic_ne rfl (fun q166 => ?_) (fun q166 => ?_)
  · try dsimp only [tvI_i, tvJ_j, tvR_r] at q166
    have q166i := zneq (Y := 20) (by decide) q166
    refine tw_aload rfl rfl ?_
    refine tw_dup rfl ?_
    refine tw_getS rfl (hi_76_0 hs) ?_
    refine tw_dup_x1 rfl ?_
    refine tw_push rfl ?_
    refine tw_iadd rfl ?_
    refine tw_put rfl (fun f167 => ?_)
    exact tw_iret rfl (Or.inl ⟨by omega, congrArg some (hi_76_0 hs).symm, (tF_same f167)⟩)
  · try dsimp only [tvI_i, tvJ_j, tvR_r] at q166
    have q166i := zeqi (Y := 20) (by decide) q166
    refine tw_push rfl ?_
    refine tw_goto rfl ?_
    exact tw_iret rfl (Or.inr ⟨by omega, rfl, rfl⟩)
theorem f_memo {G : zG} (hG : G.1 = zProg) {h : zH} {person : Int32} (hs : tSh h) : tC zTt G 136 [.ref 0, .int person] h (phN 76 0 ((0 ≤ person.toInt ∧ person.toInt < (tvI (tF h 36 2)).toInt) ∧ (tvI (tF h 76 0)).toInt ≠ 20) h) := by
  refine tC_in (by rw [hG]; rfl) (fun dp => ?_)
  refine tw_aload rfl rfl ?_
  refine tw_getS rfl (hs_0_1 hs) ?_
  refine tw_iload rfl rfl ?_
  refine tw_virt1 rfl (f_hasPerson hG hs) (fun w9 h9 p168 => ?_)
  obtain ⟨⟨p168, rfl⟩ | ⟨p168, rfl⟩, rfl⟩ := p168
  · try dsimp only [tvI_i, tvJ_j, tvR_r] at p168
    refine tw_if_eq rfl (fun z => absurd z (by decide)) (fun _ => ?_)
    refine tw_aload rfl rfl ?_
    refine tw_getS rfl (hs_0_6 hs) ?_
    refine tw_virt0 rfl (f_addMemo hG  hs) (fun w9 h9 p169 => ?_)
    rcases p169 with ⟨p169, rfl, p169e⟩ | ⟨p169, rfl, p169e⟩
    · refine tw_goto rfl ?_
      exact tw_iret rfl (Or.inl ⟨by omega, congrArg some (hi_76_0 hs).symm, p169e⟩)
    · refine tw_goto rfl ?_
      exact tw_iret rfl (Or.inr ⟨by omega, rfl, p169e⟩)
  · try dsimp only [tvI_i, tvJ_j, tvR_r] at p168
    refine tw_if_eq rfl (fun _ => ?_) (fun z => absurd z (by decide))
    refine tw_push rfl ?_
    exact tw_iret rfl (Or.inr ⟨by omega, rfl, rfl⟩)
theorem g_memo {G : zG} (hG : G.1 = zProg) {h : zH} {person : Int32} (hs : tSh h) (hk2 : 0 ≤ (tvI (tF h 111 2)).toInt) : tC zTt G 248 [.ref 111, .int person] h (phN 111 71 ((0 ≤ person.toInt ∧ person.toInt < (tvI (tF h 111 2)).toInt) ∧ (tvI (tF h 111 71)).toInt ≠ 20) h) := by
  refine tC_in (by rw [hG]; rfl) (fun dp => ?_)
  refine tw_aload rfl rfl ?_
  refine tw_getS rfl (hi_111_71 hs) ?_
  refine tw_push rfl ?_
  refine tw_ic_eq rfl (fun q170 => ?_) (fun q170 => ?_)
  · try dsimp only [tvI_i, tvJ_j, tvR_r] at q170
    have q170i := zeqi (Y := 20) (by decide) q170
    refine tw_push rfl ?_
    exact tw_iret rfl (Or.inr ⟨by omega, rfl, rfl⟩)
  · try dsimp only [tvI_i, tvJ_j, tvR_r] at q170
    have q170i := zneq (Y := 20) (by decide) q170
    refine tw_aload rfl rfl ?_
    refine tw_iload rfl rfl ?_
    refine tw_virt1 rfl (g_isPerson hG hs hk2) (fun w9 h9 p171 => ?_)
    obtain ⟨⟨p171, rfl⟩ | ⟨p171, rfl⟩, rfl⟩ := p171
    · try dsimp only [tvI_i, tvJ_j, tvR_r] at p171
      refine tw_if_ne rfl (fun _ => ?_) (fun z => absurd z (by decide))
      refine tw_aload rfl rfl ?_
      refine tw_dup rfl ?_
      refine tw_getS rfl (hi_111_71 hs) ?_
      refine tw_push rfl ?_
      refine tw_iadd rfl ?_
      refine tw_put rfl (fun f172 => ?_)
      refine tw_aload rfl rfl ?_
      refine tw_getS rfl (tF_same f172) ?_
      refine tw_push rfl ?_
      refine tw_isub rfl ?_
      exact tw_iret rfl (Or.inl ⟨by omega, wret1 (hi_111_71 hs), (tF_same f172)⟩)
    · try dsimp only [tvI_i, tvJ_j, tvR_r] at p171
      refine tw_if_ne rfl (fun z => absurd z (by decide)) (fun _ => ?_)
      refine tw_push rfl ?_
      exact tw_iret rfl (Or.inr ⟨by omega, rfl, rfl⟩)
theorem a_memo {person : Int32} {h h2 h3 : zH} {w w2 : Option Value} (h_people : R_people h) (hR : R_memos h) (e1 : tF h2 111 71 = tF h 111 71) (e2 : tF h3 76 0 = tF h2 76 0) (o_people : tF h2 111 2 = tF h 111 2) (k1 : phN 76 0 ((0 ≤ person.toInt ∧ person.toInt < (tvI (tF h 36 2)).toInt) ∧ (tvI (tF h 76 0)).toInt ≠ 20) h w h2) (k2 : phN 111 71 ((0 ≤ person.toInt ∧ person.toInt < (tvI (tF h2 111 2)).toInt) ∧ (tvI (tF h2 111 71)).toInt ≠ 20) h2 w2 h3) : w2 = w ∧ R_memos h3 := by
  refine phN_a hR e1 e2 ?_ k1 k2
  have hR2 := hR
  unfold R_memos at hR2
  unfold R_people at h_people
  rw [o_people, ← h_people]
  rw [e1, ← hR2]
/-- the begin of a step behind the first n -/
noncomputable def sBe (m : Int32) (e : Nat → Int32) : Nat → Int32
  | 0 => 0
  | n + 1 => if (m >>> (Int32.ofNat n &&& 31)) &&& 1 = 1 then (if sBe m e n < e n then e n else sBe m e n) else sBe m e n
theorem zof {x : Int32} {n : Nat} (h : x.toInt = n) : x = Int32.ofNat n := by
  have hx := Int32.toInt_lt x
  exact Int32.toInt_inj.mp (h.trans (yofN (by omega)).symm)
theorem zof_cl {x : Int32} {n : Nat} (h : x.toInt = n) : x.toNatClampNeg = n := by rw [zclE, h]; rfl
theorem zincN {x : Int32} {n : Nat} (h : x.toInt = n) (hn : n < 2147483647) : (x + 1).toInt = ((n + 1 : Nat) : Int) := by
  rw [Int32.toInt_add, h]
  exact Int.bmod_eq_of_le (by show (-2147483648 : Int) ≤ (n : Int) + 1; omega) (by show (n : Int) + 1 < (2147483648 : Int); omega)
theorem zen {x y : Int32} {n : Nat} (hx : x.toInt = n) (hn : (n : Int) ≤ y.toInt) (hq : y.toInt ≤ x.toInt) : n = y.toNatClampNeg := by
  rw [zclE]
  omega
theorem zincL {x y : Int32} {n : Nat} (h : x.toInt = n) (hy : x.toInt < y.toInt) : (x + 1).toInt = ((n + 1 : Nat) : Int) := zincN h (by have := Int32.toInt_lt y; omega)
theorem f_isBehind {G : zG} (hG : G.1 = zProg) {h : zH} {s k : Int32} (hs : tSh h) : tC zTt G 49 [.ref 81, .int s, .int k] h (fun w h2 => tBo ((tA h 84 s.toNatClampNeg >>> (k &&& 31)) &&& 1 = 1) w ∧ h2 = h) := by
  refine tC_in (by rw [hG]; rfl) (fun dp => ?_)
  refine tw_aload rfl rfl ?_
  refine tw_getS rfl (hs_81_2 hs) ?_
  refine tw_iload rfl rfl ?_
  refine tw_iald rfl (fun f173 => ?_)
  refine tw_iload rfl rfl ?_
  refine tw_ishr rfl ?_
  refine tw_push rfl ?_
  refine tw_iand rfl ?_
  refine tw_push rfl ?_
  refine tw_ic_ne rfl (fun q174 => ?_) (fun q174 => ?_)
  · try dsimp only [tvI_i, tvJ_j, tvR_r] at q174
    have q174i := zneq (Y := 1) (by decide) q174
    refine tw_push rfl ?_
    exact tw_iret rfl ⟨Or.inr ⟨q174, rfl⟩, rfl⟩
  · try dsimp only [tvI_i, tvJ_j, tvR_r] at q174
    have q174i := zeqi (Y := 1) (by decide) q174
    refine tw_push rfl ?_
    refine tw_goto rfl ?_
    exact tw_iret rfl ⟨Or.inl ⟨q174, rfl⟩, rfl⟩
theorem sBe_y {m : Int32} {e : Nat → Int32} {n : Nat} (h : (m >>> (Int32.ofNat n &&& 31)) &&& 1 = 1) (hn : (Int32.ofNat n).toNatClampNeg = n) : sBe m e (n + 1) = if sBe m e n < e (Int32.ofNat n).toNatClampNeg then e (Int32.ofNat n).toNatClampNeg else sBe m e n := by
  rw [hn]
  show (if _ then _ else _) = _
  rw [if_pos h]
theorem sBe_n {m : Int32} {e : Nat → Int32} {n : Nat} (h : ¬ (m >>> (Int32.ofNat n &&& 31)) &&& 1 = 1) : sBe m e (n + 1) = sBe m e n := by
  show (if _ then _ else _) = _
  rw [if_neg h]
theorem f_beginOf {G : zG} (hG : G.1 = zProg) {h : zH} {s : Int32} {P : Nat} (hs : tSh h) (h0 : 0 ≤ s.toInt) : tC zTt G 48 [.ref 81, .int s, .ref P] h (fun w h2 => w = some (.int (sBe (tA h 84 s.toNatClampNeg) (tA h P) s.toNatClampNeg)) ∧ h2 = h) := by
  refine tC_in (by rw [hG]; rfl) (fun dp => ?_)
  refine tw_push rfl ?_
  refine tw_istore rfl ?_
  refine tw_push rfl ?_
  refine tw_istore rfl ?_
  refine tG_loop (zW_mono zTt G dp) (zW_conj zTt G dp) (V := fun pc L st h9 _ _ => pc = 5 ∧ st = [] ∧ h = h9 ∧ ∃ (k : Nat) (x : Int32), x.toInt = k ∧ (k : Int) ≤ s.toInt ∧ L = [some (.ref 81), some (.int s), some (.ref P), some (.int (sBe (tA h 84 s.toNatClampNeg) (tA h P) k)), some (.int x)]) ?_ (⟨rfl, rfl, rfl, 0, 0, rfl, h0, rfl⟩)
  rintro _ _ _ _ _ _ ⟨rfl, rfl, rfl, k, x, hx, hk, rfl⟩
  refine tw_iload rfl rfl ?_
  refine tw_iload rfl rfl ?_
  refine tw_ic_ge rfl (fun q175 => ?_) (fun q175 => ?_)
  · try dsimp only [tvI_i, tvJ_j, tvR_r] at q175
    refine tw_iload rfl rfl ?_
    exact tw_iret rfl ⟨by rw [show k = s.toNatClampNeg from by rw [zclE]; omega]; rfl, rfl⟩
  · try dsimp only [tvI_i, tvJ_j, tvR_r] at q175
    refine tw_aload rfl rfl ?_
    refine tw_iload rfl rfl ?_
    refine tw_iload rfl rfl ?_
    refine tw_virt2 rfl (f_isBehind hG hs) (fun w9 h9 p176 => ?_)
    obtain ⟨⟨p176, rfl⟩ | ⟨p176, rfl⟩, rfl⟩ := p176
    · try dsimp only [tvI_i, tvJ_j, tvR_r] at p176
      refine tw_if_eq rfl (fun z => absurd z (by decide)) (fun _ => ?_)
      refine tw_iload rfl rfl ?_
      refine tw_aload rfl rfl ?_
      refine tw_iload rfl rfl ?_
      refine tw_iald rfl (fun f177 => ?_)
      refine tw_imax rfl ?_
      refine tw_istore rfl ?_
      refine tw_iinc rfl rfl ?_
      refine tw_goto rfl ?_
      have hk := zof hx
      subst hk
      exact tG_cut (zW_mono zTt G dp) (Or.inr ⟨rfl, rfl, rfl, k + 1, _, zincN hx (by have := Int32.toInt_lt s; omega), by omega, by rw [sBe_y p176 (zof_cl hx)]; rfl⟩)
    · try dsimp only [tvI_i, tvJ_j, tvR_r] at p176
      refine tw_if_eq rfl (fun _ => ?_) (fun z => absurd z (by decide))
      refine tw_iinc rfl rfl ?_
      refine tw_goto rfl ?_
      have hk := zof hx
      subst hk
      exact tG_cut (zW_mono zTt G dp) (Or.inr ⟨rfl, rfl, rfl, k + 1, _, zincN hx (by have := Int32.toInt_lt s; omega), by omega, by rw [sBe_n p176]; rfl⟩)
theorem zshr_neg {x k : Int32} (h : x.toInt < 0) : (x >>> k).toInt < 0 := by
  have e : (x >>> k).toInt = (x.toBitVec.sshiftRight' (k.toBitVec.smod 32)).toInt := rfl
  have h2 : x.toBitVec.toInt < 0 := h
  rw [e, BitVec.toInt_sshiftRight', Int.shiftRight_eq_div_pow]
  exact Int.ediv_neg_of_neg_of_pos h2 (Int.natCast_pos.mpr (Nat.two_pow_pos _))
theorem f_hasSteps {G : zG} (hG : G.1 = zProg) {h : zH} {n : Int32} (hs : tSh h) : tC zTt G 46 [.ref 81, .int n] h (fun w h2 => tBo ((n >>> (tvI (tF h 81 7) &&& 31)).toInt = 0) w ∧ h2 = h) := by
  refine tC_in (by rw [hG]; rfl) (fun dp => ?_)
  refine tw_iload rfl rfl ?_
  refine tw_if_lt rfl (fun q178 => ?_) (fun q178 => ?_)
  · try dsimp only [tvI_i, tvJ_j, tvR_r] at q178
    refine tw_push rfl ?_
    have hz := fun z => zshr_neg (x := n) (k := tvI (tF h 81 7) &&& 31) z
    exact tw_iret rfl ⟨Or.inr ⟨by omega, rfl⟩, rfl⟩
  · try dsimp only [tvI_i, tvJ_j, tvR_r] at q178
    refine tw_iload rfl rfl ?_
    refine tw_aload rfl rfl ?_
    refine tw_getS rfl (hi_81_7 hs) ?_
    refine tw_ishr rfl ?_
    refine tw_if_ne rfl (fun q179 => ?_) (fun q179 => ?_)
    · try dsimp only [tvI_i, tvJ_j, tvR_r] at q179
      have q179i := zneq (Y := 0) (by decide) q179
      refine tw_push rfl ?_
      have hz := fun z => zshr_neg (x := n) (k := tvI (tF h 81 7) &&& 31) z
      exact tw_iret rfl ⟨Or.inr ⟨by omega, rfl⟩, rfl⟩
    · try dsimp only [tvI_i, tvJ_j, tvR_r] at q179
      have q179i := zeqi (Y := 0) (by decide) q179
      refine tw_push rfl ?_
      refine tw_goto rfl ?_
      exact tw_iret rfl ⟨Or.inl ⟨by omega, rfl⟩, rfl⟩
noncomputable def R_steps (h : zH) : Prop := tF h 81 7 = tF h 111 76
theorem f_addStep {G : zG} (hG : G.1 = zProg) {h : zH} {m : Int32} {f : Int32} {y : Int32} {c : Int32} (hs : tSh h) (hk0 : 0 ≤ (tvI (tF h 81 7)).toInt) : tC zTt G 47 [.ref 81, .int m, .int f, .int y, .int c] h (phA 81 7 ((tvI (tF h 81 7)).toInt ≠ 24) [] h) := by
  refine tC_in (by rw [hG]; rfl) (fun dp => ?_)
  refine tw_aload rfl rfl ?_
  refine tw_getS rfl (hi_81_7 hs) ?_
  refine tw_push rfl ?_
  refine tw_ic_ne rfl (fun q180 => ?_) (fun q180 => ?_)
  · try dsimp only [tvI_i, tvJ_j, tvR_r] at q180
    have q180i := zneq (Y := 24) (by decide) q180
    refine tw_aload rfl rfl ?_
    refine tw_getS rfl (hs_81_0 hs) ?_
    refine tw_aload rfl rfl ?_
    refine tw_getS rfl (hi_81_7 hs) ?_
    refine tw_iload rfl rfl ?_
    refine tw_iast rfl (fun f181 => ?_)
    refine tw_aload rfl rfl ?_
    refine tw_getS rfl (hs_81_1 (tSh_SA hs)) ?_
    refine tw_aload rfl rfl ?_
    refine tw_getS rfl (tF_a (hi_81_7 hs)) ?_
    refine tw_iload rfl rfl ?_
    refine tw_iast rfl (fun f182 => ?_)
    refine tw_aload rfl rfl ?_
    refine tw_getS rfl (hs_81_2 (tSh_SA (tSh_SA hs))) ?_
    refine tw_aload rfl rfl ?_
    refine tw_getS rfl (tF_a (tF_a (hi_81_7 hs))) ?_
    refine tw_iload rfl rfl ?_
    refine tw_iast rfl (fun f183 => ?_)
    refine tw_aload rfl rfl ?_
    refine tw_getS rfl (hs_81_3 (tSh_SA (tSh_SA (tSh_SA hs)))) ?_
    refine tw_aload rfl rfl ?_
    refine tw_getS rfl (tF_a (tF_a (tF_a (hi_81_7 hs)))) ?_
    refine tw_iload rfl rfl ?_
    refine tw_iast rfl (fun f184 => ?_)
    refine tw_aload rfl rfl ?_
    refine tw_getS rfl (hs_81_4 (tSh_SA (tSh_SA (tSh_SA (tSh_SA hs))))) ?_
    refine tw_aload rfl rfl ?_
    refine tw_getS rfl (tF_a (tF_a (tF_a (tF_a (hi_81_7 hs))))) ?_
    refine tw_aload rfl rfl ?_
    refine tw_aload rfl rfl ?_
    refine tw_getS rfl (tF_a (tF_a (tF_a (tF_a (hi_81_7 hs))))) ?_
    refine tw_aload rfl rfl ?_
    refine tw_getS rfl (hs_81_5 (tSh_SA (tSh_SA (tSh_SA (tSh_SA hs))))) ?_
    refine tw_virt2 rfl (f_beginOf hG (tSh_SA (tSh_SA (tSh_SA (tSh_SA hs)))) hk0) (fun w9 h9 p185 => ?_)
    obtain ⟨rfl, rfl⟩ := p185
    refine tw_iast rfl (fun f186 => ?_)
    refine tw_aload rfl rfl ?_
    refine tw_getS rfl (hs_81_5 (tSh_SA (tSh_SA (tSh_SA (tSh_SA (tSh_SA hs)))))) ?_
    refine tw_aload rfl rfl ?_
    refine tw_getS rfl (tF_a (tF_a (tF_a (tF_a (tF_a (hi_81_7 hs)))))) ?_
    refine tw_aload rfl rfl ?_
    refine tw_getS rfl (hs_81_4 (tSh_SA (tSh_SA (tSh_SA (tSh_SA (tSh_SA hs)))))) ?_
    refine tw_aload rfl rfl ?_
    refine tw_getS rfl (tF_a (tF_a (tF_a (tF_a (tF_a (hi_81_7 hs)))))) ?_
    refine tw_iald rfl (fun f187 => ?_)
    refine tw_iload rfl rfl ?_
    refine tw_iadd rfl ?_
    refine tw_iast rfl (fun f188 => ?_)
    refine tw_aload rfl rfl ?_
    refine tw_dup rfl ?_
    refine tw_getS rfl (tF_a (tF_a (tF_a (tF_a (tF_a (tF_a (hi_81_7 hs))))))) ?_
    refine tw_dup_x1 rfl ?_
    refine tw_push rfl ?_
    refine tw_iadd rfl ?_
    refine tw_put rfl (fun f189 => ?_)
    exact tw_iret rfl (Or.inl ⟨by omega, congrArg some (hi_81_7 hs).symm, (tF_same f189), (fun q hq => by cases hq)⟩)
  · try dsimp only [tvI_i, tvJ_j, tvR_r] at q180
    have q180i := zeqi (Y := 24) (by decide) q180
    refine tw_push rfl ?_
    exact tw_iret rfl (Or.inr ⟨by omega, rfl, rfl, fun _ _ => rfl⟩)
theorem f_step {G : zG} (hG : G.1 = zProg) {h : zH} {m : Int32} {f : Int32} {y : Int32} {c : Int32} (hs : tSh h) (hk0 : 0 ≤ (tvI (tF h 81 7)).toInt) : tC zTt G 141 [.ref 0, .int m, .int f, .int y, .int c] h (phA 81 7 (((0 ≤ m.toInt ∧ m.toInt ≤ 99) ∧ (-1 ≤ f.toInt ∧ f.toInt ≤ 3) ∧ (y >>> (tvI (tF h 81 7) &&& 31)).toInt = 0 ∧ (0 ≤ c.toInt ∧ c.toInt ≤ 9999)) ∧ (tvI (tF h 81 7)).toInt ≠ 24) [] h) := by
  refine tC_in (by rw [hG]; rfl) (fun dp => ?_)
  refine tw_iload rfl rfl ?_
  refine tw_push rfl ?_
  refine tw_push rfl ?_
  refine tw_stat3 rfl (f_isWithin hG (LO := 0) (HI := 99) (by decide) (by decide)) (fun w9 h9 p190 => ?_)
  obtain ⟨⟨p190, rfl⟩ | ⟨p190, rfl⟩, rfl⟩ := p190
  · try dsimp only [tvI_i, tvJ_j, tvR_r] at p190
    refine tw_if_eq rfl (fun z => absurd z (by decide)) (fun _ => ?_)
    refine tw_iload rfl rfl ?_
    refine tw_push rfl ?_
    refine tw_ic_eq rfl (fun q191 => ?_) (fun q191 => ?_)
    · try dsimp only [tvI_i, tvJ_j, tvR_r] at q191
      have q191i := zeqi (Y := (-1)) (by decide) q191
      refine tw_aload rfl rfl ?_
      refine tw_getS rfl (hs_0_7 hs) ?_
      refine tw_iload rfl rfl ?_
      refine tw_virt1 rfl (f_hasSteps hG hs) (fun w9 h9 p192 => ?_)
      obtain ⟨⟨p192, rfl⟩ | ⟨p192, rfl⟩, rfl⟩ := p192
      · try dsimp only [tvI_i, tvJ_j, tvR_r] at p192
        refine tw_if_eq rfl (fun z => absurd z (by decide)) (fun _ => ?_)
        refine tw_iload rfl rfl ?_
        refine tw_push rfl ?_
        refine tw_push rfl ?_
        refine tw_stat3 rfl (f_isWithin hG (LO := 0) (HI := 9999) (by decide) (by decide)) (fun w9 h9 p193 => ?_)
        obtain ⟨⟨p193, rfl⟩ | ⟨p193, rfl⟩, rfl⟩ := p193
        · try dsimp only [tvI_i, tvJ_j, tvR_r] at p193
          refine tw_if_eq rfl (fun z => absurd z (by decide)) (fun _ => ?_)
          refine tw_push rfl ?_
          refine tw_goto rfl ?_
          refine tw_istore rfl ?_
          refine tw_iload rfl rfl ?_
          refine tw_if_eq rfl (fun z => absurd z (by decide)) (fun _ => ?_)
          refine tw_aload rfl rfl ?_
          refine tw_getS rfl (hs_0_7 hs) ?_
          refine tw_iload rfl rfl ?_
          refine tw_iload rfl rfl ?_
          refine tw_iload rfl rfl ?_
          refine tw_iload rfl rfl ?_
          refine tw_virt4 rfl (f_addStep hG  hs hk0) (fun w9 h9 p194 => ?_)
          rcases p194 with ⟨p194, rfl, p194e, p194g⟩ | ⟨p194, rfl, p194e, p194g⟩
          · refine tw_goto rfl ?_
            exact tw_iret rfl (Or.inl ⟨by omega, congrArg some (hi_81_7 hs).symm, p194e, p194g⟩)
          · refine tw_goto rfl ?_
            exact tw_iret rfl (Or.inr ⟨by omega, rfl, p194e, p194g⟩)
        · try dsimp only [tvI_i, tvJ_j, tvR_r] at p193
          refine tw_if_eq rfl (fun _ => ?_) (fun z => absurd z (by decide))
          refine tw_push rfl ?_
          refine tw_istore rfl ?_
          refine tw_iload rfl rfl ?_
          refine tw_if_eq rfl (fun _ => ?_) (fun z => absurd z (by decide))
          refine tw_push rfl ?_
          exact tw_iret rfl (Or.inr ⟨by omega, rfl, rfl, fun _ _ => rfl⟩)
      · try dsimp only [tvI_i, tvJ_j, tvR_r] at p192
        refine tw_if_eq rfl (fun _ => ?_) (fun z => absurd z (by decide))
        refine tw_push rfl ?_
        refine tw_istore rfl ?_
        refine tw_iload rfl rfl ?_
        refine tw_if_eq rfl (fun _ => ?_) (fun z => absurd z (by decide))
        refine tw_push rfl ?_
        exact tw_iret rfl (Or.inr ⟨by omega, rfl, rfl, fun _ _ => rfl⟩)
    · try dsimp only [tvI_i, tvJ_j, tvR_r] at q191
      have q191i := zneq (Y := (-1)) (by decide) q191
      refine tw_iload rfl rfl ?_
      refine tw_stat1 rfl (f_isFirm hG) (fun w9 h9 p195 => ?_)
      obtain ⟨⟨p195, rfl⟩ | ⟨p195, rfl⟩, rfl⟩ := p195
      · try dsimp only [tvI_i, tvJ_j, tvR_r] at p195
        refine tw_if_eq rfl (fun z => absurd z (by decide)) (fun _ => ?_)
        refine tw_aload rfl rfl ?_
        refine tw_getS rfl (hs_0_7 hs) ?_
        refine tw_iload rfl rfl ?_
        refine tw_virt1 rfl (f_hasSteps hG hs) (fun w9 h9 p196 => ?_)
        obtain ⟨⟨p196, rfl⟩ | ⟨p196, rfl⟩, rfl⟩ := p196
        · try dsimp only [tvI_i, tvJ_j, tvR_r] at p196
          refine tw_if_eq rfl (fun z => absurd z (by decide)) (fun _ => ?_)
          refine tw_iload rfl rfl ?_
          refine tw_push rfl ?_
          refine tw_push rfl ?_
          refine tw_stat3 rfl (f_isWithin hG (LO := 0) (HI := 9999) (by decide) (by decide)) (fun w9 h9 p197 => ?_)
          obtain ⟨⟨p197, rfl⟩ | ⟨p197, rfl⟩, rfl⟩ := p197
          · try dsimp only [tvI_i, tvJ_j, tvR_r] at p197
            refine tw_if_eq rfl (fun z => absurd z (by decide)) (fun _ => ?_)
            refine tw_push rfl ?_
            refine tw_goto rfl ?_
            refine tw_istore rfl ?_
            refine tw_iload rfl rfl ?_
            refine tw_if_eq rfl (fun z => absurd z (by decide)) (fun _ => ?_)
            refine tw_aload rfl rfl ?_
            refine tw_getS rfl (hs_0_7 hs) ?_
            refine tw_iload rfl rfl ?_
            refine tw_iload rfl rfl ?_
            refine tw_iload rfl rfl ?_
            refine tw_iload rfl rfl ?_
            refine tw_virt4 rfl (f_addStep hG  hs hk0) (fun w9 h9 p198 => ?_)
            rcases p198 with ⟨p198, rfl, p198e, p198g⟩ | ⟨p198, rfl, p198e, p198g⟩
            · refine tw_goto rfl ?_
              exact tw_iret rfl (Or.inl ⟨by omega, congrArg some (hi_81_7 hs).symm, p198e, p198g⟩)
            · refine tw_goto rfl ?_
              exact tw_iret rfl (Or.inr ⟨by omega, rfl, p198e, p198g⟩)
          · try dsimp only [tvI_i, tvJ_j, tvR_r] at p197
            refine tw_if_eq rfl (fun _ => ?_) (fun z => absurd z (by decide))
            refine tw_push rfl ?_
            refine tw_istore rfl ?_
            refine tw_iload rfl rfl ?_
            refine tw_if_eq rfl (fun _ => ?_) (fun z => absurd z (by decide))
            refine tw_push rfl ?_
            exact tw_iret rfl (Or.inr ⟨by omega, rfl, rfl, fun _ _ => rfl⟩)
        · try dsimp only [tvI_i, tvJ_j, tvR_r] at p196
          refine tw_if_eq rfl (fun _ => ?_) (fun z => absurd z (by decide))
          refine tw_push rfl ?_
          refine tw_istore rfl ?_
          refine tw_iload rfl rfl ?_
          refine tw_if_eq rfl (fun _ => ?_) (fun z => absurd z (by decide))
          refine tw_push rfl ?_
          exact tw_iret rfl (Or.inr ⟨by omega, rfl, rfl, fun _ _ => rfl⟩)
      · try dsimp only [tvI_i, tvJ_j, tvR_r] at p195
        refine tw_if_eq rfl (fun _ => ?_) (fun z => absurd z (by decide))
        refine tw_push rfl ?_
        refine tw_istore rfl ?_
        refine tw_iload rfl rfl ?_
        refine tw_if_eq rfl (fun _ => ?_) (fun z => absurd z (by decide))
        refine tw_push rfl ?_
        exact tw_iret rfl (Or.inr ⟨by omega, rfl, rfl, fun _ _ => rfl⟩)
  · try dsimp only [tvI_i, tvJ_j, tvR_r] at p190
    refine tw_if_eq rfl (fun _ => ?_) (fun z => absurd z (by decide))
    refine tw_push rfl ?_
    refine tw_istore rfl ?_
    refine tw_iload rfl rfl ?_
    refine tw_if_eq rfl (fun _ => ?_) (fun z => absurd z (by decide))
    refine tw_push rfl ?_
    exact tw_iret rfl (Or.inr ⟨by omega, rfl, rfl, fun _ _ => rfl⟩)
theorem g_step {G : zG} (hG : G.1 = zProg) {h : zH} {m : Int32} {f : Int32} {y : Int32} {c : Int32} (hs : tSh h)  : tC zTt G 257 [.ref 111, .int m, .int f, .int y, .int c] h (phA 111 76 (((0 ≤ m.toInt ∧ m.toInt ≤ 99) ∧ (-1 ≤ f.toInt ∧ f.toInt ≤ 3) ∧ (y >>> (tvI (tF h 111 76) &&& 31)).toInt = 0 ∧ (0 ≤ c.toInt ∧ c.toInt ≤ 9999)) ∧ (tvI (tF h 111 76)).toInt ≠ 24) [] h) := by
  refine tC_in (by rw [hG]; rfl) (fun dp => ?_)
  refine tw_aload rfl rfl ?_
  refine tw_getS rfl (hi_111_76 hs) ?_
  refine tw_push rfl ?_
  refine tw_ic_eq rfl (fun q199 => ?_) (fun q199 => ?_)
  · try dsimp only [tvI_i, tvJ_j, tvR_r] at q199
    have q199i := zeqi (Y := 24) (by decide) q199
    refine tw_push rfl ?_
    exact tw_iret rfl (Or.inr ⟨by omega, rfl, rfl, fun _ _ => rfl⟩)
  · try dsimp only [tvI_i, tvJ_j, tvR_r] at q199
    have q199i := zneq (Y := 24) (by decide) q199
    refine tw_iload rfl rfl ?_
    refine tw_i2l rfl ?_
    refine tw_push rfl ?_
    refine tw_push rfl ?_
    refine tw_stat3 rfl (f_in hG  (LO := 0) (HI := 99) (Int32.toInt_toInt64 _) (by decide) (by decide)) (fun w9 h9 p200 => ?_)
    obtain ⟨⟨p200, rfl⟩ | ⟨p200, rfl⟩, rfl⟩ := p200
    · try dsimp only [tvI_i, tvJ_j, tvR_r] at p200
      refine tw_if_eq rfl (fun z => absurd z (by decide)) (fun _ => ?_)
      refine tw_iload rfl rfl ?_
      refine tw_i2l rfl ?_
      refine tw_push rfl ?_
      refine tw_push rfl ?_
      refine tw_stat3 rfl (f_in hG  (LO := (-1)) (HI := 3) (Int32.toInt_toInt64 _) (by decide) (by decide)) (fun w9 h9 p201 => ?_)
      obtain ⟨⟨p201, rfl⟩ | ⟨p201, rfl⟩, rfl⟩ := p201
      · try dsimp only [tvI_i, tvJ_j, tvR_r] at p201
        refine tw_if_eq rfl (fun z => absurd z (by decide)) (fun _ => ?_)
        refine tw_iload rfl rfl ?_
        refine tw_aload rfl rfl ?_
        refine tw_getS rfl (hi_111_76 hs) ?_
        refine tw_ishr rfl ?_
        refine tw_if_ne rfl (fun q202 => ?_) (fun q202 => ?_)
        · try dsimp only [tvI_i, tvJ_j, tvR_r] at q202
          have q202i := zneq (Y := 0) (by decide) q202
          refine tw_push rfl ?_
          exact tw_iret rfl (Or.inr ⟨by omega, rfl, rfl, fun _ _ => rfl⟩)
        · try dsimp only [tvI_i, tvJ_j, tvR_r] at q202
          have q202i := zeqi (Y := 0) (by decide) q202
          refine tw_iload rfl rfl ?_
          refine tw_i2l rfl ?_
          refine tw_push rfl ?_
          refine tw_push rfl ?_
          refine tw_stat3 rfl (f_in hG  (LO := 0) (HI := 9999) (Int32.toInt_toInt64 _) (by decide) (by decide)) (fun w9 h9 p203 => ?_)
          obtain ⟨⟨p203, rfl⟩ | ⟨p203, rfl⟩, rfl⟩ := p203
          · try dsimp only [tvI_i, tvJ_j, tvR_r] at p203
            refine tw_if_ne rfl (fun _ => ?_) (fun z => absurd z (by decide))
            refine tw_aload rfl rfl ?_
            refine tw_getS rfl (hs_111_77 hs) ?_
            refine tw_aload rfl rfl ?_
            refine tw_getS rfl (hi_111_76 hs) ?_
            refine tw_iload rfl rfl ?_
            refine tw_iast rfl (fun f204 => ?_)
            refine tw_aload rfl rfl ?_
            refine tw_getS rfl (hs_111_78 (tSh_SA hs)) ?_
            refine tw_aload rfl rfl ?_
            refine tw_getS rfl (tF_a (hi_111_76 hs)) ?_
            refine tw_iload rfl rfl ?_
            refine tw_iast rfl (fun f205 => ?_)
            refine tw_aload rfl rfl ?_
            refine tw_getS rfl (hs_111_79 (tSh_SA (tSh_SA hs))) ?_
            refine tw_aload rfl rfl ?_
            refine tw_getS rfl (tF_a (tF_a (hi_111_76 hs))) ?_
            refine tw_iload rfl rfl ?_
            refine tw_iast rfl (fun f206 => ?_)
            refine tw_aload rfl rfl ?_
            refine tw_getS rfl (hs_111_80 (tSh_SA (tSh_SA (tSh_SA hs)))) ?_
            refine tw_aload rfl rfl ?_
            refine tw_getS rfl (tF_a (tF_a (tF_a (hi_111_76 hs)))) ?_
            refine tw_iload rfl rfl ?_
            refine tw_iast rfl (fun f207 => ?_)
            refine tw_aload rfl rfl ?_
            refine tw_dup rfl ?_
            refine tw_getS rfl (tF_a (tF_a (tF_a (tF_a (hi_111_76 hs))))) ?_
            refine tw_push rfl ?_
            refine tw_iadd rfl ?_
            refine tw_put rfl (fun f208 => ?_)
            refine tw_aload rfl rfl ?_
            refine tw_getS rfl (tF_same f208) ?_
            refine tw_push rfl ?_
            refine tw_isub rfl ?_
            exact tw_iret rfl (Or.inl ⟨by omega, wret1 (hi_111_76 hs), (tF_same f208), (fun q hq => by cases hq)⟩)
          · try dsimp only [tvI_i, tvJ_j, tvR_r] at p203
            refine tw_if_ne rfl (fun z => absurd z (by decide)) (fun _ => ?_)
            refine tw_push rfl ?_
            exact tw_iret rfl (Or.inr ⟨by omega, rfl, rfl, fun _ _ => rfl⟩)
      · try dsimp only [tvI_i, tvJ_j, tvR_r] at p201
        refine tw_if_eq rfl (fun _ => ?_) (fun z => absurd z (by decide))
        refine tw_push rfl ?_
        exact tw_iret rfl (Or.inr ⟨by omega, rfl, rfl, fun _ _ => rfl⟩)
    · try dsimp only [tvI_i, tvJ_j, tvR_r] at p200
      refine tw_if_eq rfl (fun _ => ?_) (fun z => absurd z (by decide))
      refine tw_push rfl ?_
      exact tw_iret rfl (Or.inr ⟨by omega, rfl, rfl, fun _ _ => rfl⟩)
theorem a_step {m : Int32} {f : Int32} {y : Int32} {c : Int32} {h h2 h3 : zH} {w w2 : Option Value}  (hR : R_steps h) (e1 : tF h2 111 76 = tF h 111 76) (e2 : tF h3 81 7 = tF h2 81 7) (k1 : phA 81 7 (((0 ≤ m.toInt ∧ m.toInt ≤ 99) ∧ (-1 ≤ f.toInt ∧ f.toInt ≤ 3) ∧ (y >>> (tvI (tF h 81 7) &&& 31)).toInt = 0 ∧ (0 ≤ c.toInt ∧ c.toInt ≤ 9999)) ∧ (tvI (tF h 81 7)).toInt ≠ 24) [] h w h2) (k2 : phA 111 76 (((0 ≤ m.toInt ∧ m.toInt ≤ 99) ∧ (-1 ≤ f.toInt ∧ f.toInt ≤ 3) ∧ (y >>> (tvI (tF h2 111 76) &&& 31)).toInt = 0 ∧ (0 ≤ c.toInt ∧ c.toInt ≤ 9999)) ∧ (tvI (tF h2 111 76)).toInt ≠ 24) [] h2 w2 h3) : w2 = w ∧ R_steps h3 := by
  have hC : (((0 ≤ m.toInt ∧ m.toInt ≤ 99) ∧ (-1 ≤ f.toInt ∧ f.toInt ≤ 3) ∧ (y >>> (tvI (tF h 81 7) &&& 31)).toInt = 0 ∧ (0 ≤ c.toInt ∧ c.toInt ≤ 9999)) ∧ (tvI (tF h 81 7)).toInt ≠ 24) ↔ (((0 ≤ m.toInt ∧ m.toInt ≤ 99) ∧ (-1 ≤ f.toInt ∧ f.toInt ≤ 3) ∧ (y >>> (tvI (tF h2 111 76) &&& 31)).toInt = 0 ∧ (0 ≤ c.toInt ∧ c.toInt ≤ 9999)) ∧ (tvI (tF h2 111 76)).toInt ≠ 24) := by
    have hR2 := hR
    unfold R_steps at hR2
    rw [e1, ← hR2]
  obtain ⟨r1, r2, r3⟩ := phA_a hR e1 e2 hC k1 k2
  exact ⟨r1, r2⟩
noncomputable def R_calls (h : zH) : Prop := tF h 89 4 = tF h 111 83
theorem f_hasPart {G : zG} (hG : G.1 = zProg) {h : zH} {n : Int32} (hs : tSh h) : tC zTt G 26 [.ref 1, .int n] h (fun w h2 => tBo (0 ≤ n.toInt ∧ n.toInt < (tvI (tF h 1 7)).toInt) w ∧ h2 = h) := by
  refine tC_in (by rw [hG]; rfl) (fun dp => ?_)
  refine tw_iload rfl rfl ?_
  refine tw_if_lt rfl (fun q209 => ?_) (fun q209 => ?_)
  · try dsimp only [tvI_i, tvJ_j, tvR_r] at q209
    refine tw_push rfl ?_
    exact tw_iret rfl ⟨Or.inr ⟨by omega, rfl⟩, rfl⟩
  · try dsimp only [tvI_i, tvJ_j, tvR_r] at q209
    refine tw_iload rfl rfl ?_
    refine tw_aload rfl rfl ?_
    refine tw_getS rfl (hi_1_7 hs) ?_
    refine tw_ic_ge rfl (fun q210 => ?_) (fun q210 => ?_)
    · try dsimp only [tvI_i, tvJ_j, tvR_r] at q210
      refine tw_push rfl ?_
      exact tw_iret rfl ⟨Or.inr ⟨by omega, rfl⟩, rfl⟩
    · try dsimp only [tvI_i, tvJ_j, tvR_r] at q210
      refine tw_push rfl ?_
      refine tw_goto rfl ?_
      exact tw_iret rfl ⟨Or.inl ⟨by omega, rfl⟩, rfl⟩
theorem f_addCall {G : zG} (hG : G.1 = zProg) {h : zH} {k : Int32} {a : Int32} {b : Int32} {p : Int32} (hs : tSh h) : tC zTt G 56 [.ref 89, .int k, .int a, .int b, .int p] h (phA 89 4 ((tvI (tF h 89 4)).toInt ≠ 20) [] h) := by
  refine tC_in (by rw [hG]; rfl) (fun dp => ?_)
  refine tw_aload rfl rfl ?_
  refine tw_getS rfl (hi_89_4 hs) ?_
  refine tw_push rfl ?_
  refine tw_ic_ne rfl (fun q211 => ?_) (fun q211 => ?_)
  · try dsimp only [tvI_i, tvJ_j, tvR_r] at q211
    have q211i := zneq (Y := 20) (by decide) q211
    refine tw_aload rfl rfl ?_
    refine tw_getS rfl (hs_89_0 hs) ?_
    refine tw_aload rfl rfl ?_
    refine tw_getS rfl (hi_89_4 hs) ?_
    refine tw_iload rfl rfl ?_
    refine tw_iast rfl (fun f212 => ?_)
    refine tw_aload rfl rfl ?_
    refine tw_getS rfl (hs_89_1 (tSh_SA hs)) ?_
    refine tw_aload rfl rfl ?_
    refine tw_getS rfl (tF_a (hi_89_4 hs)) ?_
    refine tw_iload rfl rfl ?_
    refine tw_iast rfl (fun f213 => ?_)
    refine tw_aload rfl rfl ?_
    refine tw_getS rfl (hs_89_2 (tSh_SA (tSh_SA hs))) ?_
    refine tw_aload rfl rfl ?_
    refine tw_getS rfl (tF_a (tF_a (hi_89_4 hs))) ?_
    refine tw_iload rfl rfl ?_
    refine tw_iast rfl (fun f214 => ?_)
    refine tw_aload rfl rfl ?_
    refine tw_getS rfl (hs_89_3 (tSh_SA (tSh_SA (tSh_SA hs)))) ?_
    refine tw_aload rfl rfl ?_
    refine tw_getS rfl (tF_a (tF_a (tF_a (hi_89_4 hs)))) ?_
    refine tw_iload rfl rfl ?_
    refine tw_iast rfl (fun f215 => ?_)
    refine tw_aload rfl rfl ?_
    refine tw_dup rfl ?_
    refine tw_getS rfl (tF_a (tF_a (tF_a (tF_a (hi_89_4 hs))))) ?_
    refine tw_dup_x1 rfl ?_
    refine tw_push rfl ?_
    refine tw_iadd rfl ?_
    refine tw_put rfl (fun f216 => ?_)
    exact tw_iret rfl (Or.inl ⟨by omega, congrArg some (hi_89_4 hs).symm, (tF_same f216), (fun q hq => by cases hq)⟩)
  · try dsimp only [tvI_i, tvJ_j, tvR_r] at q211
    have q211i := zeqi (Y := 20) (by decide) q211
    refine tw_push rfl ?_
    exact tw_iret rfl (Or.inr ⟨by omega, rfl, rfl, fun _ _ => rfl⟩)
theorem f_call {G : zG} (hG : G.1 = zProg) {h : zH} {k : Int32} {a : Int32} {b : Int32} {p : Int32} (hs : tSh h) : tC zTt G 146 [.ref 0, .int k, .int a, .int b, .int p] h (phA 89 4 (((0 ≤ k.toInt ∧ k.toInt < (tvI (tF h 1 6)).toInt) ∧ (0 ≤ a.toInt ∧ a.toInt ≤ 599) ∧ (a.toInt ≤ b.toInt ∧ b.toInt ≤ 599) ∧ (0 ≤ p.toInt ∧ p.toInt < (tvI (tF h 1 7)).toInt)) ∧ (tvI (tF h 89 4)).toInt ≠ 20) [] h) := by
  refine tC_in (by rw [hG]; rfl) (fun dp => ?_)
  refine tw_aload rfl rfl ?_
  refine tw_getS rfl (hs_0_0 hs) ?_
  refine tw_iload rfl rfl ?_
  refine tw_virt1 rfl (f_hasKind hG hs) (fun w9 h9 p217 => ?_)
  obtain ⟨⟨p217, rfl⟩ | ⟨p217, rfl⟩, rfl⟩ := p217
  · try dsimp only [tvI_i, tvJ_j, tvR_r] at p217
    refine tw_if_eq rfl (fun z => absurd z (by decide)) (fun _ => ?_)
    refine tw_iload rfl rfl ?_
    refine tw_stat1 rfl (f_isMonth hG) (fun w9 h9 p218 => ?_)
    obtain ⟨⟨p218, rfl⟩ | ⟨p218, rfl⟩, rfl⟩ := p218
    · try dsimp only [tvI_i, tvJ_j, tvR_r] at p218
      refine tw_if_eq rfl (fun z => absurd z (by decide)) (fun _ => ?_)
      refine tw_iload rfl rfl ?_
      refine tw_stat1 rfl (f_isMonth hG) (fun w9 h9 p219 => ?_)
      obtain ⟨⟨p219, rfl⟩ | ⟨p219, rfl⟩, rfl⟩ := p219
      · try dsimp only [tvI_i, tvJ_j, tvR_r] at p219
        refine tw_if_eq rfl (fun z => absurd z (by decide)) (fun _ => ?_)
        refine tw_iload rfl rfl ?_
        refine tw_iload rfl rfl ?_
        refine tw_ic_gt rfl (fun q220 => ?_) (fun q220 => ?_)
        · try dsimp only [tvI_i, tvJ_j, tvR_r] at q220
          refine tw_push rfl ?_
          refine tw_istore rfl ?_
          refine tw_iload rfl rfl ?_
          refine tw_if_eq rfl (fun _ => ?_) (fun z => absurd z (by decide))
          refine tw_push rfl ?_
          exact tw_iret rfl (Or.inr ⟨by omega, rfl, rfl, fun _ _ => rfl⟩)
        · try dsimp only [tvI_i, tvJ_j, tvR_r] at q220
          refine tw_aload rfl rfl ?_
          refine tw_getS rfl (hs_0_0 hs) ?_
          refine tw_iload rfl rfl ?_
          refine tw_virt1 rfl (f_hasPart hG hs) (fun w9 h9 p221 => ?_)
          obtain ⟨⟨p221, rfl⟩ | ⟨p221, rfl⟩, rfl⟩ := p221
          · try dsimp only [tvI_i, tvJ_j, tvR_r] at p221
            refine tw_if_eq rfl (fun z => absurd z (by decide)) (fun _ => ?_)
            refine tw_push rfl ?_
            refine tw_goto rfl ?_
            refine tw_istore rfl ?_
            refine tw_iload rfl rfl ?_
            refine tw_if_eq rfl (fun z => absurd z (by decide)) (fun _ => ?_)
            refine tw_aload rfl rfl ?_
            refine tw_getS rfl (hs_0_8 hs) ?_
            refine tw_iload rfl rfl ?_
            refine tw_iload rfl rfl ?_
            refine tw_iload rfl rfl ?_
            refine tw_iload rfl rfl ?_
            refine tw_virt4 rfl (f_addCall hG  hs) (fun w9 h9 p222 => ?_)
            rcases p222 with ⟨p222, rfl, p222e, p222g⟩ | ⟨p222, rfl, p222e, p222g⟩
            · refine tw_goto rfl ?_
              exact tw_iret rfl (Or.inl ⟨by omega, congrArg some (hi_89_4 hs).symm, p222e, p222g⟩)
            · refine tw_goto rfl ?_
              exact tw_iret rfl (Or.inr ⟨by omega, rfl, p222e, p222g⟩)
          · try dsimp only [tvI_i, tvJ_j, tvR_r] at p221
            refine tw_if_eq rfl (fun _ => ?_) (fun z => absurd z (by decide))
            refine tw_push rfl ?_
            refine tw_istore rfl ?_
            refine tw_iload rfl rfl ?_
            refine tw_if_eq rfl (fun _ => ?_) (fun z => absurd z (by decide))
            refine tw_push rfl ?_
            exact tw_iret rfl (Or.inr ⟨by omega, rfl, rfl, fun _ _ => rfl⟩)
      · try dsimp only [tvI_i, tvJ_j, tvR_r] at p219
        refine tw_if_eq rfl (fun _ => ?_) (fun z => absurd z (by decide))
        refine tw_push rfl ?_
        refine tw_istore rfl ?_
        refine tw_iload rfl rfl ?_
        refine tw_if_eq rfl (fun _ => ?_) (fun z => absurd z (by decide))
        refine tw_push rfl ?_
        exact tw_iret rfl (Or.inr ⟨by omega, rfl, rfl, fun _ _ => rfl⟩)
    · try dsimp only [tvI_i, tvJ_j, tvR_r] at p218
      refine tw_if_eq rfl (fun _ => ?_) (fun z => absurd z (by decide))
      refine tw_push rfl ?_
      refine tw_istore rfl ?_
      refine tw_iload rfl rfl ?_
      refine tw_if_eq rfl (fun _ => ?_) (fun z => absurd z (by decide))
      refine tw_push rfl ?_
      exact tw_iret rfl (Or.inr ⟨by omega, rfl, rfl, fun _ _ => rfl⟩)
  · try dsimp only [tvI_i, tvJ_j, tvR_r] at p217
    refine tw_if_eq rfl (fun _ => ?_) (fun z => absurd z (by decide))
    refine tw_push rfl ?_
    refine tw_istore rfl ?_
    refine tw_iload rfl rfl ?_
    refine tw_if_eq rfl (fun _ => ?_) (fun z => absurd z (by decide))
    refine tw_push rfl ?_
    exact tw_iret rfl (Or.inr ⟨by omega, rfl, rfl, fun _ _ => rfl⟩)
theorem g_isMonth {G : zG} (hG : G.1 = zProg) {h : zH} {n : Int32} : tC zTt G 172 [.int n] h (fun w h2 => tBo (0 ≤ n.toInt ∧ n.toInt ≤ 599) w ∧ h2 = h) := by
  refine tC_in (by rw [hG]; rfl) (fun dp => ?_)
  refine tw_iload rfl rfl ?_
  refine tw_i2l rfl ?_
  refine tw_push rfl ?_
  refine tw_push rfl ?_
  refine tw_stat3 rfl (f_in hG  (LO := 0) (HI := 599) (Int32.toInt_toInt64 _) (by decide) (by decide)) (fun w9 h9 p223 => ?_)
  obtain ⟨⟨p223, rfl⟩ | ⟨p223, rfl⟩, rfl⟩ := p223
  · try dsimp only [tvI_i, tvJ_j, tvR_r] at p223
    exact tw_iret rfl ⟨Or.inl ⟨p223, rfl⟩, rfl⟩
  · try dsimp only [tvI_i, tvJ_j, tvR_r] at p223
    exact tw_iret rfl ⟨Or.inr ⟨p223, rfl⟩, rfl⟩
theorem g_isPart {G : zG} (hG : G.1 = zProg) {h : zH} {n : Int32} (hs : tSh h) (hk : 0 ≤ (tvI (tF h 111 4)).toInt) : tC zTt G 177 [.ref 111, .int n] h (fun w h2 => tBo (0 ≤ n.toInt ∧ n.toInt < (tvI (tF h 111 4)).toInt) w ∧ h2 = h) := by
  refine tC_in (by rw [hG]; rfl) (fun dp => ?_)
  refine tw_iload rfl rfl ?_
  refine tw_i2l rfl ?_
  refine tw_push rfl ?_
  refine tw_aload rfl rfl ?_
  refine tw_getS rfl (hi_111_4 hs) ?_
  refine tw_push rfl ?_
  refine tw_isub rfl ?_
  refine tw_i2l rfl ?_
  refine tw_stat3 rfl (f_in hG  (LO := 0)  (Int32.toInt_toInt64 _) (by decide) (Int32.toInt_toInt64 _)) (fun w9 h9 p224 => ?_)
  obtain ⟨⟨p224, rfl⟩ | ⟨p224, rfl⟩, rfl⟩ := p224
  · try dsimp only [tvI_i, tvJ_j, tvR_r] at p224
    exact tw_iret rfl ⟨Or.inl ⟨by have e := zsub1 hk; have := p224; omega, rfl⟩, rfl⟩
  · try dsimp only [tvI_i, tvJ_j, tvR_r] at p224
    exact tw_iret rfl ⟨Or.inr ⟨by have e := zsub1 hk; have := p224; omega, rfl⟩, rfl⟩
theorem g_call {G : zG} (hG : G.1 = zProg) {h : zH} {k : Int32} {a : Int32} {b : Int32} {p : Int32} (hs : tSh h) (hk3 : 0 ≤ (tvI (tF h 111 3)).toInt) (hk4 : 0 ≤ (tvI (tF h 111 4)).toInt) : tC zTt G 265 [.ref 111, .int k, .int a, .int b, .int p] h (phA 111 83 (((0 ≤ k.toInt ∧ k.toInt < (tvI (tF h 111 3)).toInt) ∧ (0 ≤ a.toInt ∧ a.toInt ≤ 599) ∧ (a.toInt ≤ b.toInt ∧ b.toInt ≤ 599) ∧ (0 ≤ p.toInt ∧ p.toInt < (tvI (tF h 111 4)).toInt)) ∧ (tvI (tF h 111 83)).toInt ≠ 20) [] h) := by
  refine tC_in (by rw [hG]; rfl) (fun dp => ?_)
  refine tw_aload rfl rfl ?_
  refine tw_getS rfl (hi_111_83 hs) ?_
  refine tw_push rfl ?_
  refine tw_ic_eq rfl (fun q225 => ?_) (fun q225 => ?_)
  · try dsimp only [tvI_i, tvJ_j, tvR_r] at q225
    have q225i := zeqi (Y := 20) (by decide) q225
    refine tw_push rfl ?_
    exact tw_iret rfl (Or.inr ⟨by omega, rfl, rfl, fun _ _ => rfl⟩)
  · try dsimp only [tvI_i, tvJ_j, tvR_r] at q225
    have q225i := zneq (Y := 20) (by decide) q225
    refine tw_aload rfl rfl ?_
    refine tw_iload rfl rfl ?_
    refine tw_virt1 rfl (g_isKind hG hs hk3) (fun w9 h9 p226 => ?_)
    obtain ⟨⟨p226, rfl⟩ | ⟨p226, rfl⟩, rfl⟩ := p226
    · try dsimp only [tvI_i, tvJ_j, tvR_r] at p226
      refine tw_if_eq rfl (fun z => absurd z (by decide)) (fun _ => ?_)
      refine tw_iload rfl rfl ?_
      refine tw_stat1 rfl (g_isMonth hG) (fun w9 h9 p227 => ?_)
      obtain ⟨⟨p227, rfl⟩ | ⟨p227, rfl⟩, rfl⟩ := p227
      · try dsimp only [tvI_i, tvJ_j, tvR_r] at p227
        refine tw_if_eq rfl (fun z => absurd z (by decide)) (fun _ => ?_)
        refine tw_iload rfl rfl ?_
        refine tw_i2l rfl ?_
        refine tw_iload rfl rfl ?_
        refine tw_i2l rfl ?_
        refine tw_push rfl ?_
        refine tw_stat3 rfl (f_in hG   (HI := 599) (Int32.toInt_toInt64 _) (Int32.toInt_toInt64 _) (by decide)) (fun w9 h9 p228 => ?_)
        obtain ⟨⟨p228, rfl⟩ | ⟨p228, rfl⟩, rfl⟩ := p228
        · try dsimp only [tvI_i, tvJ_j, tvR_r] at p228
          refine tw_if_eq rfl (fun z => absurd z (by decide)) (fun _ => ?_)
          refine tw_aload rfl rfl ?_
          refine tw_iload rfl rfl ?_
          refine tw_virt1 rfl (g_isPart hG hs hk4) (fun w9 h9 p229 => ?_)
          obtain ⟨⟨p229, rfl⟩ | ⟨p229, rfl⟩, rfl⟩ := p229
          · try dsimp only [tvI_i, tvJ_j, tvR_r] at p229
            refine tw_if_ne rfl (fun _ => ?_) (fun z => absurd z (by decide))
            refine tw_aload rfl rfl ?_
            refine tw_getS rfl (hs_111_84 hs) ?_
            refine tw_aload rfl rfl ?_
            refine tw_getS rfl (hi_111_83 hs) ?_
            refine tw_iload rfl rfl ?_
            refine tw_iast rfl (fun f230 => ?_)
            refine tw_aload rfl rfl ?_
            refine tw_getS rfl (hs_111_85 (tSh_SA hs)) ?_
            refine tw_aload rfl rfl ?_
            refine tw_getS rfl (tF_a (hi_111_83 hs)) ?_
            refine tw_iload rfl rfl ?_
            refine tw_iast rfl (fun f231 => ?_)
            refine tw_aload rfl rfl ?_
            refine tw_getS rfl (hs_111_86 (tSh_SA (tSh_SA hs))) ?_
            refine tw_aload rfl rfl ?_
            refine tw_getS rfl (tF_a (tF_a (hi_111_83 hs))) ?_
            refine tw_iload rfl rfl ?_
            refine tw_iast rfl (fun f232 => ?_)
            refine tw_aload rfl rfl ?_
            refine tw_getS rfl (hs_111_87 (tSh_SA (tSh_SA (tSh_SA hs)))) ?_
            refine tw_aload rfl rfl ?_
            refine tw_getS rfl (tF_a (tF_a (tF_a (hi_111_83 hs)))) ?_
            refine tw_iload rfl rfl ?_
            refine tw_iast rfl (fun f233 => ?_)
            refine tw_aload rfl rfl ?_
            refine tw_dup rfl ?_
            refine tw_getS rfl (tF_a (tF_a (tF_a (tF_a (hi_111_83 hs))))) ?_
            refine tw_push rfl ?_
            refine tw_iadd rfl ?_
            refine tw_put rfl (fun f234 => ?_)
            refine tw_aload rfl rfl ?_
            refine tw_getS rfl (tF_same f234) ?_
            refine tw_push rfl ?_
            refine tw_isub rfl ?_
            exact tw_iret rfl (Or.inl ⟨by omega, wret1 (hi_111_83 hs), (tF_same f234), (fun q hq => by cases hq)⟩)
          · try dsimp only [tvI_i, tvJ_j, tvR_r] at p229
            refine tw_if_ne rfl (fun z => absurd z (by decide)) (fun _ => ?_)
            refine tw_push rfl ?_
            exact tw_iret rfl (Or.inr ⟨by omega, rfl, rfl, fun _ _ => rfl⟩)
        · try dsimp only [tvI_i, tvJ_j, tvR_r] at p228
          refine tw_if_eq rfl (fun _ => ?_) (fun z => absurd z (by decide))
          refine tw_push rfl ?_
          exact tw_iret rfl (Or.inr ⟨by omega, rfl, rfl, fun _ _ => rfl⟩)
      · try dsimp only [tvI_i, tvJ_j, tvR_r] at p227
        refine tw_if_eq rfl (fun _ => ?_) (fun z => absurd z (by decide))
        refine tw_push rfl ?_
        exact tw_iret rfl (Or.inr ⟨by omega, rfl, rfl, fun _ _ => rfl⟩)
    · try dsimp only [tvI_i, tvJ_j, tvR_r] at p226
      refine tw_if_eq rfl (fun _ => ?_) (fun z => absurd z (by decide))
      refine tw_push rfl ?_
      exact tw_iret rfl (Or.inr ⟨by omega, rfl, rfl, fun _ _ => rfl⟩)
theorem a_call {k : Int32} {a : Int32} {b : Int32} {p : Int32} {h h2 h3 : zH} {w w2 : Option Value} (h_kinds : R_kinds h) (h_parts : R_parts h) (hR : R_calls h) (e1 : tF h2 111 83 = tF h 111 83) (e2 : tF h3 89 4 = tF h2 89 4) (o_kinds : tF h2 111 3 = tF h 111 3) (o_parts : tF h2 111 4 = tF h 111 4) (k1 : phA 89 4 (((0 ≤ k.toInt ∧ k.toInt < (tvI (tF h 1 6)).toInt) ∧ (0 ≤ a.toInt ∧ a.toInt ≤ 599) ∧ (a.toInt ≤ b.toInt ∧ b.toInt ≤ 599) ∧ (0 ≤ p.toInt ∧ p.toInt < (tvI (tF h 1 7)).toInt)) ∧ (tvI (tF h 89 4)).toInt ≠ 20) [] h w h2) (k2 : phA 111 83 (((0 ≤ k.toInt ∧ k.toInt < (tvI (tF h2 111 3)).toInt) ∧ (0 ≤ a.toInt ∧ a.toInt ≤ 599) ∧ (a.toInt ≤ b.toInt ∧ b.toInt ≤ 599) ∧ (0 ≤ p.toInt ∧ p.toInt < (tvI (tF h2 111 4)).toInt)) ∧ (tvI (tF h2 111 83)).toInt ≠ 20) [] h2 w2 h3) : w2 = w ∧ R_calls h3 := by
  have hC : (((0 ≤ k.toInt ∧ k.toInt < (tvI (tF h 1 6)).toInt) ∧ (0 ≤ a.toInt ∧ a.toInt ≤ 599) ∧ (a.toInt ≤ b.toInt ∧ b.toInt ≤ 599) ∧ (0 ≤ p.toInt ∧ p.toInt < (tvI (tF h 1 7)).toInt)) ∧ (tvI (tF h 89 4)).toInt ≠ 20) ↔ (((0 ≤ k.toInt ∧ k.toInt < (tvI (tF h2 111 3)).toInt) ∧ (0 ≤ a.toInt ∧ a.toInt ≤ 599) ∧ (a.toInt ≤ b.toInt ∧ b.toInt ≤ 599) ∧ (0 ≤ p.toInt ∧ p.toInt < (tvI (tF h2 111 4)).toInt)) ∧ (tvI (tF h2 111 83)).toInt ≠ 20) := by
    have hR2 := hR
    unfold R_calls at hR2
    unfold R_kinds at h_kinds
    rw [o_kinds, ← h_kinds]
    unfold R_parts at h_parts
    rw [o_parts, ← h_parts]
    rw [e1, ← hR2]
  obtain ⟨r1, r2, r3⟩ := phA_a hR e1 e2 hC k1 k2
  exact ⟨r1, r2⟩
/-! A RULE AS IT IS TOLD: what both readers find in the bytes T below n; the one goes down, the other keeps a pile. -/
/-- the place behind the blanks; behind letters; behind digits -/
noncomputable def rB (T : Nat → Int32) (n p : Nat) : Nat := if _h : p < n ∧ T p = 32 then rB T n (p + 1) else p
termination_by n - p
decreasing_by omega
noncomputable def rE (T : Nat → Int32) (n p : Nat) : Nat := if _h : p < n ∧ 97 ≤ (T p).toInt ∧ (T p).toInt ≤ 122 then rE T n (p + 1) else p
termination_by n - p
decreasing_by omega
noncomputable def rD (T : Nat → Int32) (n p : Nat) : Nat := if _h : p < n ∧ 48 ≤ (T p).toInt ∧ (T p).toInt ≤ 57 then rD T n (p + 1) else p
termination_by n - p
decreasing_by omega
section RB
variable {T : Nat → Int32} {n p : Nat}
theorem rB_y (h : p < n ∧ T p = 32) : rB T n p = rB T n (p + 1) := by
  rw [rB]; exact dif_pos h
theorem rB_n (h : ¬ (p < n ∧ T p = 32)) : rB T n p = p := by
  rw [rB]; exact dif_neg h
theorem rE_y (h : p < n ∧ 97 ≤ (T p).toInt ∧ (T p).toInt ≤ 122) : rE T n p = rE T n (p + 1) := by
  rw [rE]; exact dif_pos h
theorem rE_n (h : ¬ (p < n ∧ 97 ≤ (T p).toInt ∧ (T p).toInt ≤ 122)) : rE T n p = p := by
  rw [rE]; exact dif_neg h
theorem rD_y (h : p < n ∧ 48 ≤ (T p).toInt ∧ (T p).toInt ≤ 57) : rD T n p = rD T n (p + 1) := by
  rw [rD]; exact dif_pos h
theorem rD_n (h : ¬ (p < n ∧ 48 ≤ (T p).toInt ∧ (T p).toInt ≤ 57)) : rD T n p = p := by
  rw [rD]; exact dif_neg h
theorem rB_all : ∀ (k p : Nat), n - p ≤ k → p ≤ rB T n p ∧ ¬ (rB T n p < n ∧ T (rB T n p) = 32) ∧ (p ≤ n → rB T n p ≤ n)
  | 0, p, hk => by
    have h : ¬ (p < n ∧ T p = 32) := by omega
    rw [rB_n h]
    exact ⟨Nat.le_refl _, h, fun z => z⟩
  | k + 1, p, hk => by
    by_cases h : p < n ∧ T p = 32
    · rw [rB_y h]
      obtain ⟨a, b, c⟩ := rB_all k (p + 1) (by omega)
      exact ⟨by omega, b, fun _ => c (by omega)⟩
    · rw [rB_n h]
      exact ⟨Nat.le_refl _, h, fun z => z⟩
theorem rB_ge : p ≤ rB T n p := (rB_all (n - p) p (Nat.le_refl _)).1
theorem rB_st : ¬ (rB T n p < n ∧ T (rB T n p) = 32) := (rB_all (n - p) p (Nat.le_refl _)).2.1
theorem rB_le (h : p ≤ n) : rB T n p ≤ n := (rB_all (n - p) p (Nat.le_refl _)).2.2 h
theorem rB_2 : rB T n (rB T n p) = rB T n p := rB_n rB_st
theorem rE_all : ∀ (k p : Nat), n - p ≤ k → p ≤ rE T n p ∧ (p ≤ n → rE T n p ≤ n)
  | 0, p, hk => by
    have h : ¬ (p < n ∧ 97 ≤ (T p).toInt ∧ (T p).toInt ≤ 122) := by omega
    rw [rE_n h]
    exact ⟨Nat.le_refl _, fun z => z⟩
  | k + 1, p, hk => by
    by_cases h : p < n ∧ 97 ≤ (T p).toInt ∧ (T p).toInt ≤ 122
    · rw [rE_y h]
      obtain ⟨a, c⟩ := rE_all k (p + 1) (by omega)
      exact ⟨by omega, fun _ => c (by omega)⟩
    · rw [rE_n h]
      exact ⟨Nat.le_refl _, fun z => z⟩
theorem rE_ge : p ≤ rE T n p := (rE_all (n - p) p (Nat.le_refl _)).1
theorem rE_le (h : p ≤ n) : rE T n p ≤ n := (rE_all (n - p) p (Nat.le_refl _)).2 h
theorem rD_all : ∀ (k p : Nat), n - p ≤ k → p ≤ rD T n p ∧ (p ≤ n → rD T n p ≤ n)
  | 0, p, hk => by
    have h : ¬ (p < n ∧ 48 ≤ (T p).toInt ∧ (T p).toInt ≤ 57) := by omega
    rw [rD_n h]
    exact ⟨Nat.le_refl _, fun z => z⟩
  | k + 1, p, hk => by
    by_cases h : p < n ∧ 48 ≤ (T p).toInt ∧ (T p).toInt ≤ 57
    · rw [rD_y h]
      obtain ⟨a, c⟩ := rD_all k (p + 1) (by omega)
      exact ⟨by omega, fun _ => c (by omega)⟩
    · rw [rD_n h]
      exact ⟨Nat.le_refl _, fun z => z⟩
theorem rD_ge : p ≤ rD T n p := (rD_all (n - p) p (Nat.le_refl _)).1
theorem rD_le (h : p ≤ n) : rD T n p ≤ n := (rD_all (n - p) p (Nat.le_refl _)).2 h
end RB
/-- the number that k digits from q on tell -/
noncomputable def rV (T : Nat → Int32) (q : Nat) : Nat → Nat
  | 0 => 0
  | k + 1 => 10 * rV T q k + ((T (q + k)).toInt - 48).toNat
/-- these letters stand from p on -/
noncomputable def rQ (T : Nat → Int32) : Nat → List Int32 → Bool
  | _, [] => true
  | p, c :: r => decide (T p = c) && rQ T (p + 1) r
/-- the letters from p on are this word's -/
noncomputable def rW (T : Nat → Int32) (n p : Nat) (w : List Int32) : Bool := Nat.beq (rE T n p) (p + w.length) && rQ T p w
noncomputable def rWn : Nat → Nat
  | 16 => 21
  | 17 => 20
  | 18 => 19
  | 19 => 18
  | k => k + 2
noncomputable def rWd (k : Nat) : List Int32 := ztx (rWn k)
theorem rQ_u {T : Nat → Int32} : ∀ {a b : List Int32} {p : Nat}, a.length = b.length → rQ T p a = true → rQ T p b = true → a = b
  | [], [], _, _, _, _ => rfl
  | [], _ :: _, _, e, _, _ => by simp at e
  | _ :: _, [], _, e, _, _ => by simp at e
  | x :: a, y :: b, p, e, ha, hb => by
    unfold rQ at ha hb
    rw [Bool.and_eq_true] at ha hb
    have h1 := of_decide_eq_true ha.1
    have h2 := of_decide_eq_true hb.1
    have h3 := rQ_u (by simpa using e) ha.2 hb.2
    rw [h3, ← h1, ← h2]
theorem rW_i {T : Nat → Int32} {n p : Nat} {a : List Int32} : rW T n p a = true ↔ rE T n p = p + a.length ∧ rQ T p a = true := by
  unfold rW
  rw [Bool.and_eq_true]
  exact and_congr ⟨Nat.eq_of_beq_eq_true, fun h => by rw [h]; exact Nat.beq_refl _⟩ Iff.rfl
theorem rW_u {T : Nat → Int32} {n p : Nat} {a b : List Int32} (ha : rW T n p a = true) (hb : rW T n p b = true) : a = b := by
  rw [rW_i] at ha hb
  exact rQ_u (by omega) ha.2 hb.2
theorem rWd_all : (List.range 20).all (fun i => (List.range 20).all (fun j => !(decide (rWd i = rWd j)) || Nat.beq i j)) = true := by decide +kernel
theorem rWd_i {i j : Nat} (hi : i < 20) (hj : j < 20) (e : rWd i = rWd j) : i = j := by
  have h := List.all_eq_true.mp (List.all_eq_true.mp rWd_all i (List.mem_range.mpr hi)) j (List.mem_range.mpr hj)
  rw [decide_eq_true e] at h
  exact Nat.eq_of_beq_eq_true h
theorem rW_ij {T : Nat → Int32} {n p i j : Nat} (hi : i < 20) (hj : j < 20) (ha : rW T n p (rWd i) = true) (hb : rW T n p (rWd j) = true) : i = j := rWd_i hi hj (rW_u ha hb)
theorem rW_e {T : Nat → Int32} {n p : Nat} {a : List Int32} (h : rW T n p a = true) : rE T n p = p + a.length := (rW_i.mp h).1
/-- a word's first letter is a letter -/
theorem rWd_l : (List.range 20).all (fun i => match rWd i with
  | [] => false
  | c :: _ => decide (97 ≤ c.toInt ∧ c.toInt ≤ 122)) = true := by decide +kernel
theorem rW_l {T : Nat → Int32} {n p i : Nat} (hi : i < 20) (h : rW T n p (rWd i) = true) : p < n ∧ 97 ≤ (T p).toInt ∧ (T p).toInt ≤ 122 := by
  have q := List.all_eq_true.mp rWd_l i (List.mem_range.mpr hi)
  rw [rW_i] at h
  obtain ⟨h1, h2⟩ := h
  revert q h1 h2
  generalize rWd i = w
  intro q h1 h2
  match w, q, h1, h2 with
  | [], q, _, _ => cases q
  | c :: r, q, h1, h2 =>
    rcases Classical.em (p < n ∧ 97 ≤ (T p).toInt ∧ (T p).toInt ≤ 122) with z | z
    · exact z
    · rw [rE_n z] at h1
      simp at h1
/-- the first of so many words that stands there -/
noncomputable def rK12 (T : Nat → Int32) (n p : Nat) : Option Nat := (List.range 12).find? (fun k => rW T n p (rWd k))
theorem rK12_s {T : Nat → Int32} {n p k : Nat} (h : rK12 T n p = some k) : k < 12 ∧ rW T n p (rWd k) = true :=
  ⟨List.mem_range.mp (List.mem_of_find?_eq_some h), List.find?_some (p := fun k => rW T n p (rWd k)) h⟩
theorem rK12_i {T : Nat → Int32} {n p k : Nat} (hk : k < 12) (h : rW T n p (rWd k) = true) : rK12 T n p = some k := by
  cases e : rK12 T n p with
  | none =>
    have := List.find?_eq_none.mp e k (List.mem_range.mpr hk)
    exact absurd h this
  | some j =>
    obtain ⟨h1, h2⟩ := rK12_s e
    rw [rW_ij (by omega) (by omega) h2 h]
theorem rK12_n {T : Nat → Int32} {n p : Nat} (h : ∀ k, k < 12 → ¬ rW T n p (rWd k) = true) : rK12 T n p = none := by
  cases e : rK12 T n p with
  | none => rfl
  | some j => exact absurd (rK12_s e).2 (h j (rK12_s e).1)
/-- place, how many are counted, what was told so far -/
noncomputable abbrev rS : Type := Nat × Nat × List Nat
noncomputable abbrev rR : Type := Option (Nat ⊕ rS)
noncomputable def rK (x : rR) (k : rS → rR) : rR := match x with
  | none => none
  | some (.inl f) => some (.inl f)
  | some (.inr s) => k s
noncomputable def rF (p w : Nat) : rR := some (.inl (1 + 8 * p + w))
noncomputable def rO (s : rS) : rR := some (.inr s)
noncomputable def rC (p : Nat) (s : rS) : rR := if s.2.1 = 80 then rF p 3 else rO (s.1, s.2.1 + 1, s.2.2)
noncomputable def rU (c : Nat) (s : rS) : rS := (s.1, s.2.1, s.2.2 ++ [c])
noncomputable def rA (p : Nat) (s : rS) : rS := (p, s.2.1, s.2.2)
noncomputable def rT (T : Nat → Int32) (n : Nat) (c : Int32) (s : rS) : rR := if rB T n s.1 < n ∧ T (rB T n s.1) = c then rO (rA (rB T n s.1 + 1) s) else rF (rB T n s.1) 0
/-- a number up to most, from behind the blanks on -/
noncomputable def rM (T : Nat → Int32) (n most p : Nat) : Nat ⊕ (Nat × Nat) :=
  if rD T n (rB T n p) = rB T n p then .inl (1 + 8 * rB T n p + 0)
  else if 5 < rD T n (rB T n p) - rB T n p ∨ most < rV T (rB T n p) (rD T n (rB T n p) - rB T n p) then .inl (1 + 8 * rB T n p + 1)
  else .inr (rD T n (rB T n p), rV T (rB T n p) (rD T n (rB T n p) - rB T n p))
/-- a comparison, and the place behind it -/
noncomputable def rCm (T : Nat → Int32) (n b : Nat) : Option (Nat × Nat) :=
  if b < n ∧ T b = 61 then some (100105, b + 1)
  else if b < n ∧ T b = 60 then (if b + 1 < n ∧ T (b + 1) = 61 then some (100104, b + 2) else some (100103, b + 1))
  else if b < n ∧ T b = 62 then (if b + 1 < n ∧ T (b + 1) = 61 then some (100106, b + 2) else some (100107, b + 1))
  else none
/-- 0 a value, 1 a product (2 its rest), 3 a sum (4 its rest), 5 a comparison, 6 a fact, 7 facts with 'and' (8 their rest), 9 a test (10 its rest) -/
noncomputable def rX (T : Nat → Int32) (n : Nat) : Nat → Nat → Nat → rS → rR
  | 0, _, _, _ => none
  | f + 1, m, d, s => match m with
    | 0 => if rB T n s.1 < n ∧ T (rB T n s.1) = 40 then (if d = 10 then rF (rB T n s.1) 2 else rK (rC (rB T n s.1) s) (fun s1 => rK (rX T n f 3 (d + 1) (rA (rB T n s.1 + 1) s1)) (rT T n 41)))
      else (match rK12 T n (rB T n s.1) with
        | some k => rK (rC (rB T n s.1) s) (fun s1 => rO (rU (100000 + k) (rA (rE T n (rB T n s.1)) s1)))
        | none => (match rM T n 99999 (rB T n s.1) with
          | .inl e => some (.inl e)
          | .inr q => rK (rC (rB T n s.1) s) (fun s1 => rO (rU q.2 (rA q.1 s1)))))
    | 1 => rK (rX T n f 0 d s) (rX T n f 2 d)
    | 2 => if rB T n s.1 < n ∧ T (rB T n s.1) = 42 then rK (rX T n f 0 d (rA (rB T n s.1 + 1) s)) (fun s1 => rX T n f 2 d (rU 100102 s1)) else rO (rA (rB T n s.1) s)
    | 3 => rK (rX T n f 1 d s) (rX T n f 4 d)
    | 4 => if rB T n s.1 < n ∧ T (rB T n s.1) = 43 then rK (rX T n f 1 d (rA (rB T n s.1 + 1) s)) (fun s1 => rX T n f 4 d (rU 100100 s1))
      else if rB T n s.1 < n ∧ T (rB T n s.1) = 45 then rK (rX T n f 1 d (rA (rB T n s.1 + 1) s)) (fun s1 => rX T n f 4 d (rU 100101 s1))
      else rO (rA (rB T n s.1) s)
    | 5 => rK (rX T n f 3 d s) (fun s1 => match rCm T n (rB T n s1.1) with
      | none => rF (rB T n s1.1) 0
      | some q => rK (rC (rB T n s1.1) s1) (fun s2 => rK (rX T n f 3 d (rA q.2 s2)) (fun s3 => rO (rU q.1 s3))))
    | 6 => if rW T n (rB T n s.1) (rWd 19) = true then (if d = 10 then rF (rB T n s.1) 2 else rK (rX T n f 6 (d + 1) (rA (rB T n s.1 + 3) s)) (fun s1 => rO (rU 100110 s1)))
      else if rB T n s.1 < n ∧ T (rB T n s.1) = 91 then (if d = 10 then rF (rB T n s.1) 2 else rK (rX T n f 9 (d + 1) (rA (rB T n s.1 + 1) s)) (rT T n 93))
      else rX T n f 5 d (rA (rB T n s.1) s)
    | 7 => rK (rX T n f 6 d s) (rX T n f 8 d)
    | 8 => if rW T n (rB T n s.1) (rWd 18) = true then rK (rX T n f 6 d (rA (rB T n s.1 + 3) s)) (fun s1 => rX T n f 8 d (rU 100109 s1)) else rO (rA (rB T n s.1) s)
    | 9 => rK (rX T n f 7 d s) (rX T n f 10 d)
    | _ => if rW T n (rB T n s.1) (rWd 17) = true then rK (rX T n f 7 d (rA (rB T n s.1 + 2) s)) (fun s1 => rX T n f 10 d (rU 100108 s1)) else rO (rA (rB T n s.1) s)
/-! the reader with a pile -/
noncomputable abbrev rMs : Type := Nat × List Nat × rS
noncomputable abbrev rMo : Type := Nat ⊕ rMs
noncomputable def mDp : List Nat → Nat
  | [] => 0
  | x :: r => if x = 50 ∨ x = 10 ∨ x = 13 then mDp r + 1 else mDp r
noncomputable def mT : List Nat → List Nat → List Nat × List Nat
  | [], o => ([], o)
  | x :: r, o => if x = 102 then mT r (o ++ [100102]) else (x :: r, o)
noncomputable def mPm : List Nat → List Nat → List Nat × List Nat
  | [], o => ([], o)
  | x :: r, o => if x = 103 then mPm r (o ++ [100100]) else if x = 104 then mPm r (o ++ [100101]) else (x :: r, o)
noncomputable def mS (S o : List Nat) : List Nat × List Nat := mPm (mT S o).1 (mT S o).2
noncomputable def mN : List Nat → List Nat → List Nat × List Nat
  | [], o => ([], o)
  | x :: r, o => if x = 10 then mN r (o ++ [100110]) else (x :: r, o)
noncomputable def mA : List Nat → List Nat → List Nat × List Nat
  | [], o => ([], o)
  | x :: r, o => if x = 11 then mA r (o ++ [100109]) else (x :: r, o)
noncomputable def mO1 : List Nat → List Nat → List Nat × List Nat
  | [], o => ([], o)
  | x :: r, o => if x = 12 then mO1 r (o ++ [100108]) else (x :: r, o)
noncomputable def mO (S o : List Nat) : List Nat × List Nat := mO1 (mA S o).1 (mA S o).2
noncomputable def mS0 (T : Nat → Int32) (n : Nat) (S : List Nat) (s : rS) : rMo :=
  if rW T n (rB T n s.1) (rWd 19) = true then (if mDp S = 10 then .inl (1 + 8 * rB T n s.1 + 2) else .inr (0, 10 :: S, rA (rB T n s.1 + 3) s))
  else if rB T n s.1 < n ∧ T (rB T n s.1) = 91 then (if mDp S = 10 then .inl (1 + 8 * rB T n s.1 + 2) else .inr (0, 13 :: S, rA (rB T n s.1 + 1) s))
  else .inr (1, S, rA (rB T n s.1) s)
noncomputable def mS1 (T : Nat → Int32) (n : Nat) (S : List Nat) (s : rS) : rMo :=
  if rB T n s.1 < n ∧ T (rB T n s.1) = 40 then (if mDp S = 10 then .inl (1 + 8 * rB T n s.1 + 2) else if s.2.1 = 80 then .inl (1 + 8 * rB T n s.1 + 3) else .inr (1, 50 :: S, (rB T n s.1 + 1, s.2.1 + 1, s.2.2)))
  else (match rK12 T n (rB T n s.1) with
    | some k => if s.2.1 = 80 then .inl (1 + 8 * rB T n s.1 + 3) else .inr (2, S, (rE T n (rB T n s.1), s.2.1 + 1, s.2.2 ++ [100000 + k]))
    | none => (match rM T n 99999 (rB T n s.1) with
      | .inl e => .inl e
      | .inr q => if s.2.1 = 80 then .inl (1 + 8 * rB T n s.1 + 3) else .inr (2, S, (q.1, s.2.1 + 1, s.2.2 ++ [q.2]))))
noncomputable def mS2 (T : Nat → Int32) (n : Nat) (tst : Bool) (S : List Nat) (s : rS) : rMo :=
  if rB T n s.1 < n ∧ T (rB T n s.1) = 42 then .inr (1, 102 :: (mT S s.2.2).1, (rB T n s.1 + 1, s.2.1, (mT S s.2.2).2))
  else if rB T n s.1 < n ∧ T (rB T n s.1) = 43 then .inr (1, 103 :: (mS S s.2.2).1, (rB T n s.1 + 1, s.2.1, (mS S s.2.2).2))
  else if rB T n s.1 < n ∧ T (rB T n s.1) = 45 then .inr (1, 104 :: (mS S s.2.2).1, (rB T n s.1 + 1, s.2.1, (mS S s.2.2).2))
  else if (mS S s.2.2).1.headD 0 = 50 then (if rB T n s.1 < n ∧ T (rB T n s.1) = 41 then .inr (2, (mS S s.2.2).1.tail, (rB T n s.1 + 1, s.2.1, (mS S s.2.2).2)) else .inl (1 + 8 * rB T n s.1 + 0))
  else if tst = true then (if 205 ≤ (mS S s.2.2).1.headD 0 ∧ (mS S s.2.2).1.headD 0 ≤ 209 then .inr (3, (mS S s.2.2).1.tail, (rB T n s.1, s.2.1, (mS S s.2.2).2 ++ [(mS S s.2.2).1.headD 0 + 99898]))
    else (match rCm T n (rB T n s.1) with
      | none => .inl (1 + 8 * rB T n s.1 + 0)
      | some q => if s.2.1 = 80 then .inl (1 + 8 * rB T n s.1 + 3) else .inr (1, (q.1 - 99898) :: (mS S s.2.2).1, (q.2, s.2.1 + 1, (mS S s.2.2).2))))
  else .inr (4, (mS S s.2.2).1, (rB T n s.1, s.2.1, (mS S s.2.2).2))
noncomputable def mS3 (T : Nat → Int32) (n : Nat) (S : List Nat) (s : rS) : rMo :=
  if rW T n (rB T n s.1) (rWd 18) = true then .inr (0, 11 :: (mA (mN S s.2.2).1 (mN S s.2.2).2).1, (rB T n s.1 + 3, s.2.1, (mA (mN S s.2.2).1 (mN S s.2.2).2).2))
  else if rW T n (rB T n s.1) (rWd 17) = true then .inr (0, 12 :: (mO (mN S s.2.2).1 (mN S s.2.2).2).1, (rB T n s.1 + 2, s.2.1, (mO (mN S s.2.2).1 (mN S s.2.2).2).2))
  else if (mO (mN S s.2.2).1 (mN S s.2.2).2).1.headD 0 = 13 then (if rB T n s.1 < n ∧ T (rB T n s.1) = 93 then .inr (3, (mO (mN S s.2.2).1 (mN S s.2.2).2).1.tail, (rB T n s.1 + 1, s.2.1, (mO (mN S s.2.2).1 (mN S s.2.2).2).2)) else .inl (1 + 8 * rB T n s.1 + 0))
  else .inr (4, (mO (mN S s.2.2).1 (mN S s.2.2).2).1, (rB T n s.1, s.2.1, (mO (mN S s.2.2).1 (mN S s.2.2).2).2))
noncomputable def mSt (T : Nat → Int32) (n : Nat) (tst : Bool) (x : rMs) : rMo := match x.1 with
  | 0 => mS0 T n x.2.1 x.2.2
  | 1 => mS1 T n x.2.1 x.2.2
  | 2 => mS2 T n tst x.2.1 x.2.2
  | 3 => mS3 T n x.2.1 x.2.2
  | _ => .inr x
noncomputable def mI (T : Nat → Int32) (n : Nat) (tst : Bool) : Nat → rMo → rMo
  | 0, y => y
  | _ + 1, .inl f => .inl f
  | k + 1, .inr x => mI T n tst k (mSt T n tst x)
noncomputable def mRe (T : Nat → Int32) (n : Nat) (tst : Bool) (x : rMs) (y : rMo) : Prop := ∃ k, mI T n tst k (.inr x) = y
section MR
variable {T : Nat → Int32} {n : Nat} {tst : Bool}
theorem mI_f (f : Nat) : ∀ k, mI T n tst k (.inl f) = .inl f
  | 0 => rfl
  | _ + 1 => rfl
theorem mI_add : ∀ (j k : Nat) (y : rMo), mI T n tst (j + k) y = mI T n tst k (mI T n tst j y)
  | 0, k, y => by rw [Nat.zero_add]; rfl
  | j + 1, k, .inl f => by rw [mI_f, mI_f, mI_f]
  | j + 1, k, .inr x => by
    rw [Nat.succ_add]
    exact mI_add j k (mSt T n tst x)
theorem mRe_0 {x : rMs} : mRe T n tst x (.inr x) := ⟨0, rfl⟩
theorem mRe_f {x : rMs} {f : Nat} (h : mSt T n tst x = .inl f) : mRe T n tst x (.inl f) := ⟨1, h⟩
theorem mRe_s {x y : rMs} {z : rMo} (h : mSt T n tst x = .inr y) (k : mRe T n tst y z) : mRe T n tst x z := by
  obtain ⟨k, hk⟩ := k
  refine ⟨k + 1, ?_⟩
  show mI T n tst k (mSt T n tst x) = z
  rw [h]
  exact hk
theorem mRe_t {x y : rMs} {z : rMo} (h : mRe T n tst x (.inr y)) (k : mRe T n tst y z) : mRe T n tst x z := by
  obtain ⟨j, hj⟩ := h
  obtain ⟨k, hk⟩ := k
  refine ⟨j + k, ?_⟩
  rw [mI_add, hj]
  exact hk
noncomputable def mHt : rMo → Prop
  | .inl _ => True
  | .inr x => 4 ≤ x.1
theorem mSt_4 {x : rMs} (h : 4 ≤ x.1) : mSt T n tst x = .inr x := by
  obtain ⟨a, S, s⟩ := x
  match a, h with
  | a + 4, _ => rfl
theorem mI_h {y : rMo} (h : mHt y) : ∀ k, mI T n tst k y = y
  | 0 => rfl
  | k + 1 => by
    match y, h with
    | .inl f, _ => rfl
    | .inr x, h =>
      show mI T n tst k (mSt T n tst x) = _
      rw [mSt_4 h]
      exact mI_h h k
theorem mRe_u {x : rMs} {y z : rMo} (hy : mRe T n tst x y) (hz : mRe T n tst x z) (h1 : mHt y) (h2 : mHt z) : y = z := by
  obtain ⟨j, hj⟩ := hy
  obtain ⟨k, hk⟩ := hz
  have e1 := mI_add (T := T) (n := n) (tst := tst) j k (.inr x)
  have e2 := mI_add (T := T) (n := n) (tst := tst) k j (.inr x)
  rw [hj, mI_h h1] at e1
  rw [hk, mI_h h2] at e2
  rw [← e1, ← e2, Nat.add_comm]
theorem mT_n {S o : List Nat} (h : S.headD 0 ≠ 102) : mT S o = (S, o) := by
  cases S with
  | nil => rfl
  | cons x r =>
    have h : x ≠ 102 := h
    unfold mT
    rw [if_neg h]
theorem mPm_n {S o : List Nat} (h : S.headD 0 ≠ 103) (h2 : S.headD 0 ≠ 104) : mPm S o = (S, o) := by
  cases S with
  | nil => rfl
  | cons x r =>
    have h : x ≠ 103 := h
    have h2 : x ≠ 104 := h2
    unfold mPm
    rw [if_neg h, if_neg h2]
theorem mN_n {S o : List Nat} (h : S.headD 0 ≠ 10) : mN S o = (S, o) := by
  cases S with
  | nil => rfl
  | cons x r =>
    have h : x ≠ 10 := h
    unfold mN
    rw [if_neg h]
theorem mA_n {S o : List Nat} (h : S.headD 0 ≠ 11) : mA S o = (S, o) := by
  cases S with
  | nil => rfl
  | cons x r =>
    have h : x ≠ 11 := h
    unfold mA
    rw [if_neg h]
theorem mO1_n {S o : List Nat} (h : S.headD 0 ≠ 12) : mO1 S o = (S, o) := by
  cases S with
  | nil => rfl
  | cons x r =>
    have h : x ≠ 12 := h
    unfold mO1
    rw [if_neg h]
theorem mN_r {S : List Nat} (h : S.headD 0 ≠ 10) : ∀ (k : Nat) (o : List Nat), mN (List.replicate k 10 ++ S) o = (S, o ++ List.replicate k 100110)
  | 0, o => by
    show mN S o = _
    rw [mN_n h]
    simp
  | k + 1, o => by
    rw [List.replicate_succ, List.cons_append]
    unfold mN
    rw [if_pos rfl, mN_r h k, List.append_assoc]
    rfl
/-- no sign of a sum on top; nor a bracket of one, nor a comparison; nor 'not', 'and' -/
noncomputable def hS1 (S : List Nat) : Prop := S.headD 0 ≠ 102
noncomputable def hS3 (S : List Nat) : Prop := S.headD 0 ≠ 102 ∧ S.headD 0 ≠ 103 ∧ S.headD 0 ≠ 104
noncomputable def hS5 (S : List Nat) : Prop := hS3 S ∧ S.headD 0 ≠ 50 ∧ ¬ (205 ≤ S.headD 0 ∧ S.headD 0 ≤ 209)
noncomputable def hS7 (S : List Nat) : Prop := hS5 S ∧ S.headD 0 ≠ 10 ∧ S.headD 0 ≠ 11
noncomputable def hS9 (S : List Nat) : Prop := hS7 S ∧ S.headD 0 ≠ 12
theorem mS_n {S o : List Nat} (h : hS3 S) : mS S o = (S, o) := by
  unfold mS
  rw [mT_n h.1]
  exact mPm_n h.2.1 h.2.2
noncomputable def mNo (T : Nat → Int32) (n p : Nat) (c : Int32) : Prop := ¬ (p < n ∧ T p = c)
/-- the pile's reader where it begins to read what rX reads -/
noncomputable def mPre (T : Nat → Int32) (n : Nat) (tst : Bool) (m : Nat) (S : List Nat) (s : rS) (x : rMs) : Prop := match m with
  | 0 => x = (1, S, s)
  | 1 => x = (1, S, s) ∧ hS1 S
  | 2 => x.1 = 2 ∧ mT x.2.1 x.2.2.2.2 = (S, s.2.2) ∧ rB T n x.2.2.1 = rB T n s.1 ∧ x.2.2.2.1 = s.2.1 ∧ hS1 S
  | 3 => x = (1, S, s) ∧ hS3 S
  | 4 => x.1 = 2 ∧ mS x.2.1 x.2.2.2.2 = (S, s.2.2) ∧ rB T n x.2.2.1 = rB T n s.1 ∧ x.2.2.2.1 = s.2.1 ∧ hS3 S ∧ mNo T n (rB T n s.1) 42
  | 5 => x = (1, S, s) ∧ hS5 S ∧ tst = true
  | 6 => x = (0, S, s) ∧ hS5 S ∧ tst = true
  | 7 => x = (0, S, s) ∧ hS7 S ∧ tst = true
  | 8 => x.1 = 3 ∧ mA (mN x.2.1 x.2.2.2.2).1 (mN x.2.1 x.2.2.2.2).2 = (S, s.2.2) ∧ rB T n x.2.2.1 = rB T n s.1 ∧ x.2.2.2.1 = s.2.1 ∧ hS7 S ∧ tst = true
  | 9 => x = (0, S, s) ∧ hS9 S ∧ tst = true
  | _ => x.1 = 3 ∧ mO (mN x.2.1 x.2.2.2.2).1 (mN x.2.1 x.2.2.2.2).2 = (S, s.2.2) ∧ rB T n x.2.2.1 = rB T n s.1 ∧ x.2.2.2.1 = s.2.1 ∧ hS9 S ∧ tst = true ∧ rW T n (rB T n s.1) (rWd 18) ≠ true
/-- and where it is behind it -/
noncomputable def mPo (T : Nat → Int32) (n : Nat) (m : Nat) (S : List Nat) (s : rS) (y : rMs) : Prop := match m with
  | 0 => y = (2, S, s)
  | 1 | 2 => y.1 = 2 ∧ mT y.2.1 y.2.2.2.2 = (S, s.2.2) ∧ rB T n y.2.2.1 = rB T n s.1 ∧ y.2.2.2.1 = s.2.1 ∧ mNo T n (rB T n s.1) 42
  | 3 | 4 => y.1 = 2 ∧ mS y.2.1 y.2.2.2.2 = (S, s.2.2) ∧ rB T n y.2.2.1 = rB T n s.1 ∧ y.2.2.2.1 = s.2.1 ∧ mNo T n (rB T n s.1) 42 ∧ mNo T n (rB T n s.1) 43 ∧ mNo T n (rB T n s.1) 45
  | 5 => y.1 = 3 ∧ y.2.1 = S ∧ y.2.2.2.2 = s.2.2 ∧ rB T n y.2.2.1 = rB T n s.1 ∧ y.2.2.2.1 = s.2.1
  | 6 => y.1 = 3 ∧ (∃ k, y.2.1 = List.replicate k 10 ++ S ∧ s.2.2 = y.2.2.2.2 ++ List.replicate k 100110) ∧ rB T n y.2.2.1 = rB T n s.1 ∧ y.2.2.2.1 = s.2.1
  | 7 | 8 => y.1 = 3 ∧ mA (mN y.2.1 y.2.2.2.2).1 (mN y.2.1 y.2.2.2.2).2 = (S, s.2.2) ∧ rB T n y.2.2.1 = rB T n s.1 ∧ y.2.2.2.1 = s.2.1 ∧ rW T n (rB T n s.1) (rWd 18) ≠ true
  | _ => y.1 = 3 ∧ mO (mN y.2.1 y.2.2.2.2).1 (mN y.2.1 y.2.2.2.2).2 = (S, s.2.2) ∧ rB T n y.2.2.1 = rB T n s.1 ∧ y.2.2.2.1 = s.2.1 ∧ rW T n (rB T n s.1) (rWd 18) ≠ true ∧ rW T n (rB T n s.1) (rWd 17) ≠ true
noncomputable def mRs (T : Nat → Int32) (n : Nat) (tst : Bool) (m : Nat) (S : List Nat) (x : rMs) : Nat ⊕ rS → Prop
  | .inl e => mRe T n tst x (.inl e)
  | .inr s => ∃ y, mRe T n tst x (.inr y) ∧ mPo T n m S s y
noncomputable def mOK (T : Nat → Int32) (n : Nat) (tst : Bool) (f : Nat) : Prop := ∀ (m d : Nat) (s : rS) (r : Nat ⊕ rS), m ≤ 10 → rX T n f m d s = some r → ∀ (S : List Nat) (x : rMs), mPre T n tst m S s x → mDp S = d → mRs T n tst m S x r
theorem mRs_t {m : Nat} {S : List Nat} {x y : rMs} {r : Nat ⊕ rS} (h : mRe T n tst x (.inr y)) (k : mRs T n tst m S y r) : mRs T n tst m S x r := by
  match r, k with
  | .inl e, k => exact mRe_t h k
  | .inr s, ⟨z, k, p⟩ => exact ⟨z, mRe_t h k, p⟩
theorem rK_i {x : rR} {k : rS → rR} {r : Nat ⊕ rS} (h : rK x k = some r) : (∃ e, x = some (.inl e) ∧ r = .inl e) ∨ ∃ s, x = some (.inr s) ∧ k s = some r := by
  match x, h with
  | some (.inl e), h => exact Or.inl ⟨e, rfl, (Option.some.inj h).symm⟩
  | some (.inr s), h => exact Or.inr ⟨s, rfl, h⟩
theorem rC_i {p : Nat} {s : rS} {k : rS → rR} {r : Nat ⊕ rS} (h : rK (rC p s) k = some r) : (s.2.1 = 80 ∧ r = .inl (1 + 8 * p + 3)) ∨ (s.2.1 ≠ 80 ∧ k (s.1, s.2.1 + 1, s.2.2) = some r) := by
  unfold rC at h
  by_cases e : s.2.1 = 80
  · rw [if_pos e] at h
    exact Or.inl ⟨e, (Option.some.inj h).symm⟩
  · rw [if_neg e] at h
    exact Or.inr ⟨e, h⟩
theorem mDp_s {S : List Nat} {c : Nat} (h1 : c ≠ 50) (h2 : c ≠ 10) (h3 : c ≠ 13) : mDp (c :: S) = mDp S := by
  show (if c = 50 ∨ c = 10 ∨ c = 13 then _ else _) = _
  rw [if_neg (by omega)]
theorem hS3_c {c : Nat} {S : List Nat} (h : c ≠ 102 ∧ c ≠ 103 ∧ c ≠ 104) : hS3 (c :: S) := h
theorem hS5_c {c : Nat} {S : List Nat} (h : (c ≠ 102 ∧ c ≠ 103 ∧ c ≠ 104) ∧ c ≠ 50 ∧ ¬ (205 ≤ c ∧ c ≤ 209)) : hS5 (c :: S) := h
theorem hS7_c {c : Nat} {S : List Nat} (h : ((c ≠ 102 ∧ c ≠ 103 ∧ c ≠ 104) ∧ c ≠ 50 ∧ ¬ (205 ≤ c ∧ c ≤ 209)) ∧ c ≠ 10 ∧ c ≠ 11) : hS7 (c :: S) := h
theorem hS9_c {c : Nat} {S : List Nat} (h : (((c ≠ 102 ∧ c ≠ 103 ∧ c ≠ 104) ∧ c ≠ 50 ∧ ¬ (205 ≤ c ∧ c ≤ 209)) ∧ c ≠ 10 ∧ c ≠ 11) ∧ c ≠ 12) : hS9 (c :: S) := h
theorem rCm_r {b : Nat} {q : Nat × Nat} (h : rCm T n b = some q) : 100103 ≤ q.1 ∧ q.1 ≤ 100107 ∧ b < q.2 := by
  unfold rCm at h
  split at h
  · cases h; exact ⟨Nat.le_of_ble_eq_true rfl, Nat.le_of_ble_eq_true rfl, Nat.lt_succ_self _⟩
  · split at h
    · split at h <;> (cases h; exact ⟨Nat.le_of_ble_eq_true rfl, Nat.le_of_ble_eq_true rfl, by show b < _ + _; omega⟩)
    · split at h
      · split at h <;> (cases h; exact ⟨Nat.le_of_ble_eq_true rfl, Nat.le_of_ble_eq_true rfl, by show b < _ + _; omega⟩)
      · cases h
theorem mOK_v {f d : Nat} {s : rS} {r : Nat ⊕ rS} {S : List Nat} {x : rMs} (ih : mOK T n tst f) (h : rX T n (f + 1) 0 d s = some r) (hp : mPre T n tst 0 S s x) (hd : mDp S = d) : mRs T n tst 0 S x r := by
  have hp : x = (1, S, s) := hp
  subst hp
  unfold rX at h
  try dsimp only at h
  by_cases c1 : rB T n s.1 < n ∧ T (rB T n s.1) = 40
  · rw [if_pos c1] at h
    by_cases c2 : d = 10
    · rw [if_pos c2] at h
      have e := Option.some.inj h
      subst e
      refine mRe_f ?_
      show mS1 T n S s = _
      unfold mS1
      rw [if_pos c1, if_pos (hd.trans c2)]
    · rw [if_neg c2] at h
      rcases rC_i h with ⟨c3, rfl⟩ | ⟨c3, h⟩
      · refine mRe_f ?_
        show mS1 T n S s = _
        unfold mS1
        rw [if_pos c1, if_neg (fun z => c2 (hd.symm.trans z)), if_pos c3]
      · have st : mSt T n tst (1, S, s) = .inr (1, 50 :: S, (rB T n s.1 + 1, s.2.1 + 1, s.2.2)) := by
          show mS1 T n S s = _
          unfold mS1
          rw [if_pos c1, if_neg (fun z => c2 (hd.symm.trans z)), if_neg c3]
        have hd2 : mDp (50 :: S) = d + 1 := by
          show (if 50 = 50 ∨ 50 = 10 ∨ 50 = 13 then mDp S + 1 else _) = _
          rw [if_pos (Or.inl rfl), hd]
        rcases rK_i h with ⟨e, h1, rfl⟩ | ⟨s1, h1, h2⟩
        · exact mRe_s st (ih 3 (d + 1) _ _ (by omega) h1 (50 :: S) _ ⟨rfl, hS3_c (by decide)⟩ hd2)
        · obtain ⟨⟨ya, yS, yp, yc, yo⟩, k1, k2a, k2b, k2c, k2d, k2e, k2f, k2g⟩ := ih 3 (d + 1) _ _ (by omega) h1 (50 :: S) _ ⟨rfl, hS3_c (by decide)⟩ hd2
          dsimp only at k2a k2b k2c k2d
          subst k2a
          refine mRs_t (mRe_s st k1) ?_
          unfold rT at h2
          by_cases c4 : rB T n s1.1 < n ∧ T (rB T n s1.1) = 41
          · rw [if_pos c4] at h2
            have e := Option.some.inj h2
            subst e
            refine ⟨_, mRe_s ?_ mRe_0, rfl⟩
            show mS2 T n tst yS (yp, yc, yo) = _
            unfold mS2
            dsimp only
            rw [k2c, if_neg k2e, if_neg k2f, if_neg k2g, k2b, if_pos (show (50 :: S, s1.2.2).1.headD 0 = 50 from rfl), if_pos c4, k2d]
            rfl
          · rw [if_neg c4] at h2
            have e := Option.some.inj h2
            subst e
            refine mRe_f ?_
            show mS2 T n tst yS (yp, yc, yo) = _
            unfold mS2
            dsimp only
            rw [k2c, if_neg k2e, if_neg k2f, if_neg k2g, k2b, if_pos (show (50 :: S, s1.2.2).1.headD 0 = 50 from rfl), if_neg c4]
  · rw [if_neg c1] at h
    cases c2 : rK12 T n (rB T n s.1) with
    | some k =>
      rw [c2] at h
      dsimp only at h
      rcases rC_i h with ⟨c3, rfl⟩ | ⟨c3, h⟩
      · refine mRe_f ?_
        show mS1 T n S s = _
        unfold mS1
        rw [if_neg c1, c2]
        dsimp only
        rw [if_pos c3]
      · have e := Option.some.inj h
        subst e
        refine ⟨_, mRe_s ?_ mRe_0, rfl⟩
        show mS1 T n S s = _
        unfold mS1
        rw [if_neg c1, c2]
        dsimp only
        rw [if_neg c3]
        rfl
    | none =>
      rw [c2] at h
      dsimp only at h
      cases c3 : rM T n 99999 (rB T n s.1) with
      | inl e =>
        rw [c3] at h
        dsimp only at h
        have e := Option.some.inj h
        subst e
        refine mRe_f ?_
        show mS1 T n S s = _
        unfold mS1
        rw [if_neg c1, c2]
        dsimp only
        rw [c3]
      | inr q =>
        rw [c3] at h
        dsimp only at h
        rcases rC_i h with ⟨c4, rfl⟩ | ⟨c4, h⟩
        · refine mRe_f ?_
          show mS1 T n S s = _
          unfold mS1
          rw [if_neg c1, c2]
          dsimp only
          rw [c3]
          dsimp only
          rw [if_pos c4]
        · have e := Option.some.inj h
          subst e
          refine ⟨_, mRe_s ?_ mRe_0, rfl⟩
          show mS1 T n S s = _
          unfold mS1
          rw [if_neg c1, c2]
          dsimp only
          rw [c3]
          dsimp only
          rw [if_neg c4]
          rfl
theorem mOK_1 {f d : Nat} {s : rS} {r : Nat ⊕ rS} {S : List Nat} {x : rMs} (ih : mOK T n tst f) (h : rX T n (f + 1) 1 d s = some r) (hp : mPre T n tst 1 S s x) (hd : mDp S = d) : mRs T n tst 1 S x r := by
  obtain ⟨rfl, hS⟩ := hp
  unfold rX at h
  try dsimp only at h
  rcases rK_i h with ⟨e, h1, rfl⟩ | ⟨s1, h1, h2⟩
  · exact ih 0 d s _ (by omega) h1 S _ rfl hd
  · obtain ⟨y, k1, rfl⟩ := ih 0 d s _ (by omega) h1 S _ rfl hd
    have k := mRs_t k1 (ih 2 d s1 r (by omega) h2 S (2, S, s1) ⟨rfl, mT_n hS, rfl, rfl, hS⟩ hd)
    match r, k with
    | .inl e, k => exact k
    | .inr s, k => exact k
theorem mOK_2 {f d : Nat} {s : rS} {r : Nat ⊕ rS} {S : List Nat} {x : rMs} (ih : mOK T n tst f) (h : rX T n (f + 1) 2 d s = some r) (hp : mPre T n tst 2 S s x) (hd : mDp S = d) : mRs T n tst 2 S x r := by
  obtain ⟨a, X, p, c, o⟩ := x
  obtain ⟨h1, h2, h3, h4, hS⟩ := hp
  dsimp only at h1 h2 h3 h4
  subst h1
  unfold rX at h
  try dsimp only at h
  by_cases c1 : rB T n s.1 < n ∧ T (rB T n s.1) = 42
  · rw [if_pos c1] at h
    have st : mSt T n tst (2, X, p, c, o) = .inr (1, 102 :: S, rA (rB T n s.1 + 1) s) := by
      show mS2 T n tst X (p, c, o) = _
      unfold mS2
      dsimp only
      rw [h3, if_pos c1, h2, h4]
      rfl
    have hd2 : mDp (102 :: S) = d := (mDp_s (by decide) (by decide) (by decide)).trans hd
    rcases rK_i h with ⟨e, g1, rfl⟩ | ⟨s1, g1, g2⟩
    · exact mRe_s st (ih 0 d _ _ (by omega) g1 (102 :: S) _ rfl hd2)
    · obtain ⟨y, k1, rfl⟩ := ih 0 d _ _ (by omega) g1 (102 :: S) _ rfl hd2
      refine mRs_t (mRe_s st k1) (ih 2 d _ r (by omega) g2 S (2, 102 :: S, s1) ⟨rfl, ?_, rfl, rfl, hS⟩ hd)
      show (if 102 = 102 then mT S (s1.2.2 ++ [100102]) else _) = _
      rw [if_pos rfl, mT_n hS]
      rfl
  · rw [if_neg c1] at h
    have e := Option.some.inj h
    subst e
    refine ⟨(2, X, p, c, o), mRe_0, rfl, h2, h3.trans rB_2.symm, h4, ?_⟩
    show mNo T n (rB T n (rB T n s.1)) 42
    rw [rB_2]
    exact c1
theorem mOK_3 {f d : Nat} {s : rS} {r : Nat ⊕ rS} {S : List Nat} {x : rMs} (ih : mOK T n tst f) (h : rX T n (f + 1) 3 d s = some r) (hp : mPre T n tst 3 S s x) (hd : mDp S = d) : mRs T n tst 3 S x r := by
  obtain ⟨rfl, hS⟩ := hp
  unfold rX at h
  try dsimp only at h
  rcases rK_i h with ⟨e, h1, rfl⟩ | ⟨s1, h1, h2⟩
  · exact ih 1 d s _ (by omega) h1 S _ ⟨rfl, hS.1⟩ hd
  · obtain ⟨y, k1, k2, k3, k4, k5, k6⟩ := ih 1 d s _ (by omega) h1 S _ ⟨rfl, hS.1⟩ hd
    have k := mRs_t k1 (ih 4 d s1 r (by omega) h2 S y ⟨k2, by unfold mS; rw [k3]; exact mPm_n hS.2.1 hS.2.2, k4, k5, hS, k6⟩ hd)
    match r, k with
    | .inl e, k => exact k
    | .inr s, k => exact k
theorem mOK_4 {f d : Nat} {s : rS} {r : Nat ⊕ rS} {S : List Nat} {x : rMs} (ih : mOK T n tst f) (h : rX T n (f + 1) 4 d s = some r) (hp : mPre T n tst 4 S s x) (hd : mDp S = d) : mRs T n tst 4 S x r := by
  obtain ⟨a, X, p, c, o⟩ := x
  obtain ⟨h1, h2, h3, h4, hS, h5⟩ := hp
  dsimp only at h1 h2 h3 h4
  subst h1
  unfold rX at h
  try dsimp only at h
  by_cases c1 : rB T n s.1 < n ∧ T (rB T n s.1) = 43
  · rw [if_pos c1] at h
    have st : mSt T n tst (2, X, p, c, o) = .inr (1, 103 :: S, rA (rB T n s.1 + 1) s) := by
      show mS2 T n tst X (p, c, o) = _
      unfold mS2
      dsimp only
      rw [h3, if_neg h5, if_pos c1, h2, h4]
      rfl
    have hd2 : mDp (103 :: S) = d := (mDp_s (by decide) (by decide) (by decide)).trans hd
    have hS1 : hS1 (103 :: S) := (by decide : (103 : Nat) ≠ 102)
    rcases rK_i h with ⟨e, g1, rfl⟩ | ⟨s1, g1, g2⟩
    · exact mRe_s st (ih 1 d _ _ (by omega) g1 (103 :: S) _ ⟨rfl, hS1⟩ hd2)
    · obtain ⟨y, k1, k2, k3, k4, k5, k6⟩ := ih 1 d _ _ (by omega) g1 (103 :: S) _ ⟨rfl, hS1⟩ hd2
      refine mRs_t (mRe_s st k1) (ih 4 d _ r (by omega) g2 S y ⟨k2, ?_, k4, k5, hS, k6⟩ hd)
      unfold mS
      rw [k3]
      show (if 103 = 103 then mPm S (s1.2.2 ++ [100100]) else _) = _
      rw [if_pos rfl, mPm_n hS.2.1 hS.2.2]
      rfl
  · rw [if_neg c1] at h
    by_cases c2 : rB T n s.1 < n ∧ T (rB T n s.1) = 45
    · rw [if_pos c2] at h
      have st : mSt T n tst (2, X, p, c, o) = .inr (1, 104 :: S, rA (rB T n s.1 + 1) s) := by
        show mS2 T n tst X (p, c, o) = _
        unfold mS2
        dsimp only
        rw [h3, if_neg h5, if_neg c1, if_pos c2, h2, h4]
        rfl
      have hd2 : mDp (104 :: S) = d := (mDp_s (by decide) (by decide) (by decide)).trans hd
      have hS1 : hS1 (104 :: S) := (by decide : (104 : Nat) ≠ 102)
      rcases rK_i h with ⟨e, g1, rfl⟩ | ⟨s1, g1, g2⟩
      · exact mRe_s st (ih 1 d _ _ (by omega) g1 (104 :: S) _ ⟨rfl, hS1⟩ hd2)
      · obtain ⟨y, k1, k2, k3, k4, k5, k6⟩ := ih 1 d _ _ (by omega) g1 (104 :: S) _ ⟨rfl, hS1⟩ hd2
        refine mRs_t (mRe_s st k1) (ih 4 d _ r (by omega) g2 S y ⟨k2, ?_, k4, k5, hS, k6⟩ hd)
        unfold mS
        rw [k3]
        show (if 104 = 103 then _ else if 104 = 104 then mPm S (s1.2.2 ++ [100101]) else _) = _
        rw [if_neg (by decide), if_pos rfl, mPm_n hS.2.1 hS.2.2]
        rfl
    · rw [if_neg c2] at h
      have e := Option.some.inj h
      subst e
      refine ⟨(2, X, p, c, o), mRe_0, rfl, h2, h3.trans rB_2.symm, h4, ?_, ?_, ?_⟩
      · show mNo T n (rB T n (rB T n s.1)) 42
        rw [rB_2]
        exact h5
      · show mNo T n (rB T n (rB T n s.1)) 43
        rw [rB_2]
        exact c1
      · show mNo T n (rB T n (rB T n s.1)) 45
        rw [rB_2]
        exact c2
theorem mOK_5 {f d : Nat} {s : rS} {r : Nat ⊕ rS} {S : List Nat} {x : rMs} (ih : mOK T n tst f) (h : rX T n (f + 1) 5 d s = some r) (hp : mPre T n tst 5 S s x) (hd : mDp S = d) : mRs T n tst 5 S x r := by
  obtain ⟨rfl, hS, ht⟩ := hp
  unfold rX at h
  try dsimp only at h
  rcases rK_i h with ⟨e, h1, rfl⟩ | ⟨s1, h1, h⟩
  · exact ih 3 d s _ (by omega) h1 S _ ⟨rfl, hS.1⟩ hd
  · obtain ⟨⟨ya, yS, yp, yc, yo⟩, k1, k2a, k2b, k2c, k2d, k2e, k2f, k2g⟩ := ih 3 d s _ (by omega) h1 S _ ⟨rfl, hS.1⟩ hd
    dsimp only at k2a k2b k2c k2d
    subst k2a
    refine mRs_t k1 ?_
    cases c1 : rCm T n (rB T n s1.1) with
    | none =>
      rw [c1] at h
      dsimp only at h
      have e := Option.some.inj h
      subst e
      refine mRe_f ?_
      show mS2 T n tst yS (yp, yc, yo) = _
      unfold mS2
      dsimp only
      rw [k2c, if_neg k2e, if_neg k2f, if_neg k2g, k2b, if_neg hS.2.1, if_pos ht, if_neg hS.2.2, c1]
    | some q =>
      rw [c1] at h
      dsimp only at h
      obtain ⟨q1, q2, -⟩ := rCm_r c1
      rcases rC_i h with ⟨c3, rfl⟩ | ⟨c3, h⟩
      · refine mRe_f ?_
        show mS2 T n tst yS (yp, yc, yo) = _
        unfold mS2
        dsimp only
        rw [k2c, if_neg k2e, if_neg k2f, if_neg k2g, k2b, if_neg hS.2.1, if_pos ht, if_neg hS.2.2, c1]
        dsimp only
        rw [if_pos (k2d.trans c3)]
      · have st : mSt T n tst (2, yS, yp, yc, yo) = .inr (1, (q.1 - 99898) :: S, (q.2, s1.2.1 + 1, s1.2.2)) := by
          show mS2 T n tst yS (yp, yc, yo) = _
          unfold mS2
          dsimp only
          rw [k2c, if_neg k2e, if_neg k2f, if_neg k2g, k2b, if_neg hS.2.1, if_pos ht, if_neg hS.2.2, c1]
          dsimp only
          rw [k2d, if_neg c3]
        obtain ⟨z, hz⟩ : ∃ z, q.1 - 99898 = z := ⟨_, rfl⟩
        have z1 : 205 ≤ z := by omega
        have z2 : z ≤ 209 := by omega
        have z3 : z + 99898 = q.1 := by omega
        rw [hz] at st
        clear hz
        have hd2 : mDp (z :: S) = d := (mDp_s (by omega) (by omega) (by omega)).trans hd
        have hS3 : hS3 (z :: S) := hS3_c ⟨by omega, by omega, by omega⟩
        rcases rK_i h with ⟨e, g1, rfl⟩ | ⟨s3, g1, g2⟩
        · exact mRe_s st (ih 3 d _ _ (by omega) g1 _ _ ⟨rfl, hS3⟩ hd2)
        · obtain ⟨⟨za, zS, zp, zc, zo⟩, l1, l2a, l2b, l2c, l2d, l2e, l2f, l2g⟩ := ih 3 d _ _ (by omega) g1 _ _ ⟨rfl, hS3⟩ hd2
          dsimp only at l2a l2b l2c l2d
          subst l2a
          refine mRs_t (mRe_s st l1) ?_
          have e := Option.some.inj g2
          subst e
          refine ⟨(3, S, (rB T n s3.1, s3.2.1, s3.2.2 ++ [q.1])), mRe_s ?_ mRe_0, rfl, rfl, rfl, rB_2, rfl⟩
          show mS2 T n tst zS (zp, zc, zo) = _
          unfold mS2
          dsimp only
          rw [l2c, if_neg l2e, if_neg l2f, if_neg l2g, l2b, if_neg (show ¬ (z :: S, s3.2.2).1.headD 0 = 50 from fun w => by have w : z = 50 := w; omega), if_pos ht, if_pos (show 205 ≤ (z :: S, s3.2.2).1.headD 0 ∧ (z :: S, s3.2.2).1.headD 0 ≤ 209 from ⟨z1, z2⟩), l2d, ← z3]
          rfl
theorem rX_6 {f d : Nat} {s : rS} : rX T n (f + 1) 6 d s = (if rW T n (rB T n s.1) (rWd 19) = true then (if d = 10 then rF (rB T n s.1) 2 else rK (rX T n f 6 (d + 1) (rA (rB T n s.1 + 3) s)) (fun s1 => rO (rU 100110 s1)))
      else if rB T n s.1 < n ∧ T (rB T n s.1) = 91 then (if d = 10 then rF (rB T n s.1) 2 else rK (rX T n f 9 (d + 1) (rA (rB T n s.1 + 1) s)) (rT T n 93))
      else rX T n f 5 d (rA (rB T n s.1) s)) := rfl
theorem mOK_6 {f d : Nat} {s : rS} {r : Nat ⊕ rS} {S : List Nat} {x : rMs} (ih : mOK T n tst f) (h : rX T n (f + 1) 6 d s = some r) (hp : mPre T n tst 6 S s x) (hd : mDp S = d) : mRs T n tst 6 S x r := by
  obtain ⟨rfl, hS, ht⟩ := hp
  rw [rX_6] at h
  by_cases c1 : rW T n (rB T n s.1) (rWd 19) = true
  · rw [if_pos c1] at h
    by_cases c2 : d = 10
    · rw [if_pos c2] at h
      have e := Option.some.inj h
      subst e
      refine mRe_f ?_
      show mS0 T n S s = _
      unfold mS0
      rw [if_pos c1, if_pos (hd.trans c2)]
    · rw [if_neg c2] at h
      have st : mSt T n tst (0, S, s) = .inr (0, 10 :: S, rA (rB T n s.1 + 3) s) := by
        show mS0 T n S s = _
        unfold mS0
        rw [if_pos c1, if_neg (fun z => c2 (hd.symm.trans z))]
      have hd2 : mDp (10 :: S) = d + 1 := by
        show (if 10 = 50 ∨ 10 = 10 ∨ 10 = 13 then mDp S + 1 else _) = _
        rw [if_pos (Or.inr (Or.inl rfl)), hd]
      rcases rK_i h with ⟨e, g1, rfl⟩ | ⟨s1, g1, g2⟩
      · exact mRe_s st (ih 6 (d + 1) _ _ (by omega) g1 _ _ ⟨rfl, hS5_c (by decide), ht⟩ hd2)
      · obtain ⟨y, k1, k2, ⟨k, k3, k4⟩, k5, k6⟩ := ih 6 (d + 1) _ _ (by omega) g1 _ _ ⟨rfl, hS5_c (by decide), ht⟩ hd2
        have e := Option.some.inj g2
        subst e
        refine ⟨y, mRe_s st k1, k2, ⟨k + 1, ?_, ?_⟩, k5, k6⟩
        · rw [k3, List.replicate_succ', List.append_assoc]
          rfl
        · show s1.2.2 ++ [100110] = _
          rw [k4, List.replicate_succ', List.append_assoc]
  · rw [if_neg c1] at h
    by_cases c3 : rB T n s.1 < n ∧ T (rB T n s.1) = 91
    · rw [if_pos c3] at h
      by_cases c2 : d = 10
      · rw [if_pos c2] at h
        have e := Option.some.inj h
        subst e
        refine mRe_f ?_
        show mS0 T n S s = _
        unfold mS0
        rw [if_neg c1, if_pos c3, if_pos (hd.trans c2)]
      · rw [if_neg c2] at h
        have st : mSt T n tst (0, S, s) = .inr (0, 13 :: S, rA (rB T n s.1 + 1) s) := by
          show mS0 T n S s = _
          unfold mS0
          rw [if_neg c1, if_pos c3, if_neg (fun z => c2 (hd.symm.trans z))]
        have hd2 : mDp (13 :: S) = d + 1 := by
          show (if 13 = 50 ∨ 13 = 10 ∨ 13 = 13 then mDp S + 1 else _) = _
          rw [if_pos (Or.inr (Or.inr rfl)), hd]
        rcases rK_i h with ⟨e, g1, rfl⟩ | ⟨s1, g1, h2⟩
        · exact mRe_s st (ih 9 (d + 1) _ _ (by omega) g1 _ _ ⟨rfl, hS9_c (by decide), ht⟩ hd2)
        · obtain ⟨⟨ya, yS, yp, yc, yo⟩, k1, k2, k3, k4, k5, k6, k7⟩ := ih 9 (d + 1) _ _ (by omega) g1 _ _ ⟨rfl, hS9_c (by decide), ht⟩ hd2
          dsimp only at k2 k3 k4 k5
          subst k2
          refine mRs_t (mRe_s st k1) ?_
          unfold rT at h2
          by_cases c4 : rB T n s1.1 < n ∧ T (rB T n s1.1) = 93
          · rw [if_pos c4] at h2
            have e := Option.some.inj h2
            subst e
            refine ⟨(3, S, rA (rB T n s1.1 + 1) s1), mRe_s ?_ mRe_0, rfl, ⟨0, rfl, (List.append_nil _).symm⟩, rfl, rfl⟩
            show mS3 T n yS (yp, yc, yo) = _
            unfold mS3
            dsimp only
            rw [k4, if_neg k6, if_neg k7, k3, if_pos (show (13 :: S, s1.2.2).1.headD 0 = 13 from rfl), if_pos c4, k5]
            rfl
          · rw [if_neg c4] at h2
            have e := Option.some.inj h2
            subst e
            refine mRe_f ?_
            show mS3 T n yS (yp, yc, yo) = _
            unfold mS3
            dsimp only
            rw [k4, if_neg k6, if_neg k7, k3, if_pos (show (13 :: S, s1.2.2).1.headD 0 = 13 from rfl), if_neg c4]
    · rw [if_neg c3] at h
      have st : mSt T n tst (0, S, s) = .inr (1, S, rA (rB T n s.1) s) := by
        show mS0 T n S s = _
        unfold mS0
        rw [if_neg c1, if_neg c3]
      have k := mRs_t (mRe_s st mRe_0) (ih 5 d _ r (by omega) h S _ ⟨rfl, hS, ht⟩ hd)
      match r, k with
      | .inl e, k => exact k
      | .inr s, ⟨y, k1, k2, k3, k4, k5, k6⟩ => exact ⟨y, k1, k2, ⟨0, k3, by rw [k4]; exact (List.append_nil _).symm⟩, k5, k6⟩
theorem mOK_7 {f d : Nat} {s : rS} {r : Nat ⊕ rS} {S : List Nat} {x : rMs} (ih : mOK T n tst f) (h : rX T n (f + 1) 7 d s = some r) (hp : mPre T n tst 7 S s x) (hd : mDp S = d) : mRs T n tst 7 S x r := by
  obtain ⟨rfl, hS, ht⟩ := hp
  unfold rX at h
  try dsimp only at h
  rcases rK_i h with ⟨e, h1, rfl⟩ | ⟨s1, h1, h2⟩
  · exact ih 6 d s _ (by omega) h1 S _ ⟨rfl, hS.1, ht⟩ hd
  · obtain ⟨y, k1, k2, ⟨j, k3, k4⟩, k5, k6⟩ := ih 6 d s _ (by omega) h1 S _ ⟨rfl, hS.1, ht⟩ hd
    have k := mRs_t k1 (ih 8 d s1 r (by omega) h2 S y ⟨k2, by rw [k3, mN_r hS.2.1, ← k4]; exact mA_n hS.2.2, k5, k6, hS, ht⟩ hd)
    match r, k with
    | .inl e, k => exact k
    | .inr s, k => exact k
theorem mOK_8 {f d : Nat} {s : rS} {r : Nat ⊕ rS} {S : List Nat} {x : rMs} (ih : mOK T n tst f) (h : rX T n (f + 1) 8 d s = some r) (hp : mPre T n tst 8 S s x) (hd : mDp S = d) : mRs T n tst 8 S x r := by
  obtain ⟨a, X, p, c, o⟩ := x
  obtain ⟨h1, h2, h3, h4, hS, ht⟩ := hp
  dsimp only at h1 h2 h3 h4
  subst h1
  unfold rX at h
  try dsimp only at h
  by_cases c1 : rW T n (rB T n s.1) (rWd 18) = true
  · rw [if_pos c1] at h
    have st : mSt T n tst (3, X, p, c, o) = .inr (0, 11 :: S, rA (rB T n s.1 + 3) s) := by
      show mS3 T n X (p, c, o) = _
      unfold mS3
      dsimp only
      rw [h3, if_pos c1, h2, h4]
      rfl
    have hd2 : mDp (11 :: S) = d := (mDp_s (by decide) (by decide) (by decide)).trans hd
    rcases rK_i h with ⟨e, g1, rfl⟩ | ⟨s1, g1, g2⟩
    · exact mRe_s st (ih 6 d _ _ (by omega) g1 _ _ ⟨rfl, hS5_c (by decide), ht⟩ hd2)
    · obtain ⟨y, k1, k2, ⟨j, k3, k4⟩, k5, k6⟩ := ih 6 d _ _ (by omega) g1 _ _ ⟨rfl, hS5_c (by decide), ht⟩ hd2
      refine mRs_t (mRe_s st k1) (ih 8 d _ r (by omega) g2 S y ⟨k2, ?_, k5, k6, hS, ht⟩ hd)
      rw [k3, mN_r (S := 11 :: S) (show (11 : Nat) ≠ 10 by decide), ← k4]
      show (if 11 = 11 then mA S (s1.2.2 ++ [100109]) else _) = _
      rw [if_pos rfl, mA_n hS.2.2]
      rfl
  · rw [if_neg c1] at h
    have e := Option.some.inj h
    subst e
    refine ⟨(3, X, p, c, o), mRe_0, rfl, h2, h3.trans rB_2.symm, h4, ?_⟩
    show ¬ rW T n (rB T n (rB T n s.1)) (rWd 18) = true
    rw [rB_2]
    exact c1
theorem mOK_9 {f d : Nat} {s : rS} {r : Nat ⊕ rS} {S : List Nat} {x : rMs} (ih : mOK T n tst f) (h : rX T n (f + 1) 9 d s = some r) (hp : mPre T n tst 9 S s x) (hd : mDp S = d) : mRs T n tst 9 S x r := by
  obtain ⟨rfl, hS, ht⟩ := hp
  unfold rX at h
  try dsimp only at h
  rcases rK_i h with ⟨e, h1, rfl⟩ | ⟨s1, h1, h2⟩
  · exact ih 7 d s _ (by omega) h1 S _ ⟨rfl, hS.1, ht⟩ hd
  · obtain ⟨y, k1, k2, k3, k4, k5, k6⟩ := ih 7 d s _ (by omega) h1 S _ ⟨rfl, hS.1, ht⟩ hd
    have k := mRs_t k1 (ih 10 d s1 r (by omega) h2 S y ⟨k2, by unfold mO; rw [k3]; exact mO1_n hS.2, k4, k5, hS, ht, k6⟩ hd)
    match r, k with
    | .inl e, k => exact k
    | .inr s, k => exact k
theorem mOK_10 {f d : Nat} {s : rS} {r : Nat ⊕ rS} {S : List Nat} {x : rMs} (ih : mOK T n tst f) (h : rX T n (f + 1) 10 d s = some r) (hp : mPre T n tst 10 S s x) (hd : mDp S = d) : mRs T n tst 10 S x r := by
  obtain ⟨a, X, p, c, o⟩ := x
  obtain ⟨h1, h2, h3, h4, hS, ht, h5⟩ := hp
  dsimp only at h1 h2 h3 h4
  subst h1
  unfold rX at h
  try dsimp only at h
  by_cases c1 : rW T n (rB T n s.1) (rWd 17) = true
  · rw [if_pos c1] at h
    have st : mSt T n tst (3, X, p, c, o) = .inr (0, 12 :: S, rA (rB T n s.1 + 2) s) := by
      show mS3 T n X (p, c, o) = _
      unfold mS3
      dsimp only
      rw [h3, if_neg h5, if_pos c1, h2, h4]
      rfl
    have hd2 : mDp (12 :: S) = d := (mDp_s (by decide) (by decide) (by decide)).trans hd
    rcases rK_i h with ⟨e, g1, rfl⟩ | ⟨s1, g1, g2⟩
    · exact mRe_s st (ih 7 d _ _ (by omega) g1 _ _ ⟨rfl, hS7_c (by decide), ht⟩ hd2)
    · obtain ⟨y, k1, k2, k3, k4, k5, k6⟩ := ih 7 d _ _ (by omega) g1 _ _ ⟨rfl, hS7_c (by decide), ht⟩ hd2
      refine mRs_t (mRe_s st k1) (ih 10 d _ r (by omega) g2 S y ⟨k2, ?_, k4, k5, hS, ht, k6⟩ hd)
      unfold mO
      rw [k3]
      show (if 12 = 12 then mO1 S (s1.2.2 ++ [100108]) else _) = _
      rw [if_pos rfl, mO1_n hS.2]
      rfl
  · rw [if_neg c1] at h
    have e := Option.some.inj h
    subst e
    refine ⟨(3, X, p, c, o), mRe_0, rfl, h2, h3.trans rB_2.symm, h4, ?_, ?_⟩
    · show ¬ rW T n (rB T n (rB T n s.1)) (rWd 18) = true
      rw [rB_2]
      exact h5
    · show ¬ rW T n (rB T n (rB T n s.1)) (rWd 17) = true
      rw [rB_2]
      exact c1
theorem mOK_all : ∀ f, mOK T n tst f
  | 0 => fun m d s r _ h => by
    have h : (none : rR) = some r := h
    cases h
  | f + 1 => by
    have ih := mOK_all f
    intro m d s r hm h S x hp hd
    match m, hm, h, hp with
    | 0, _, h, hp => exact mOK_v ih h hp hd
    | 1, _, h, hp => exact mOK_1 ih h hp hd
    | 2, _, h, hp => exact mOK_2 ih h hp hd
    | 3, _, h, hp => exact mOK_3 ih h hp hd
    | 4, _, h, hp => exact mOK_4 ih h hp hd
    | 5, _, h, hp => exact mOK_5 ih h hp hd
    | 6, _, h, hp => exact mOK_6 ih h hp hd
    | 7, _, h, hp => exact mOK_7 ih h hp hd
    | 8, _, h, hp => exact mOK_8 ih h hp hd
    | 9, _, h, hp => exact mOK_9 ih h hp hd
    | 10, _, h, hp => exact mOK_10 ih h hp hd
    | m + 11, hm, _, _ => exact absurd hm (by omega)
/-- a sum, a test: to the reader's end -/
noncomputable def mEnd : Nat ⊕ rS → rMo
  | .inl e => .inl e
  | .inr s => .inr (4, [], s)
theorem mSum {f : Nat} {s : rS} {r : Nat ⊕ rS} (h : rX T n f 3 0 s = some r) : mRe T n false (1, [], s) (mEnd (r.map id (fun z => rA (rB T n z.1) z))) := by
  have k := mOK_all (T := T) (n := n) (tst := false) f 3 0 s r (by omega) h [] (1, [], s) ⟨rfl, by decide, by decide, by decide⟩ rfl
  match r, k with
  | .inl e, k => exact k
  | .inr s1, ⟨⟨ya, yS, yp, yc, yo⟩, k1, k2a, k2b, k2c, k2d, k2e, k2f, k2g⟩ =>
    dsimp only at k2a k2b k2c k2d
    subst k2a
    refine mRe_t k1 (mRe_s ?_ mRe_0)
    show mS2 T n false yS (yp, yc, yo) = _
    unfold mS2
    dsimp only
    rw [k2c, if_neg k2e, if_neg k2f, if_neg k2g, k2b, if_neg (show ¬ (([] : List Nat), s1.2.2).1.headD 0 = 50 from fun z => by cases z), if_neg (show ¬ false = true by decide), k2d]
    rfl
theorem mTst {f : Nat} {s : rS} {r : Nat ⊕ rS} (h : rX T n f 9 0 s = some r) : mRe T n true (0, [], s) (mEnd (r.map id (fun z => rA (rB T n z.1) z))) := by
  have k := mOK_all (T := T) (n := n) (tst := true) f 9 0 s r (by omega) h [] (0, [], s) ⟨rfl, ⟨⟨⟨⟨by decide, by decide, by decide⟩, by decide, by decide⟩, by decide, by decide⟩, by decide⟩, rfl⟩ rfl
  match r, k with
  | .inl e, k => exact k
  | .inr s1, ⟨⟨ya, yS, yp, yc, yo⟩, k1, k2, k3, k4, k5, k6, k7⟩ =>
    dsimp only at k2 k3 k4 k5
    subst k2
    refine mRe_t k1 (mRe_s ?_ mRe_0)
    show mS3 T n yS (yp, yc, yo) = _
    unfold mS3
    dsimp only
    rw [k4, if_neg k6, if_neg k7, k3, if_neg (show ¬ (([] : List Nat), s1.2.2).1.headD 0 = 13 from fun z => by cases z), k5]
    rfl
end MR
/-! the reader that goes down: what its steps come to -/
/-- sooner or later: this is what is read -/
noncomputable def pE (T : Nat → Int32) (n m d : Nat) (s : rS) (r : Nat ⊕ rS) : Prop := ∃ N, ∀ M, N ≤ M → rX T n M m d s = some r
section PE
variable {T : Nat → Int32} {n d : Nat} {s s1 : rS} {r : Nat ⊕ rS} {e : Nat}
theorem pE_of {m : Nat} (h : ∀ M, rX T n (M + 1) m d s = some r) : pE T n m d s r := ⟨1, fun M hM => by
  obtain ⟨M2, rfl⟩ : ∃ M2, M = M2 + 1 := ⟨M - 1, by omega⟩
  exact h M2⟩
theorem pE_o1 {m m1 d1 : Nat} {s1 : rS} {r1 : Nat ⊕ rS} (k : pE T n m1 d1 s1 r1) (h : ∀ M, rX T n M m1 d1 s1 = some r1 → rX T n (M + 1) m d s = some r) : pE T n m d s r := by
  obtain ⟨N, k⟩ := k
  refine ⟨N + 1, fun M hM => ?_⟩
  obtain ⟨M2, rfl⟩ : ∃ M2, M = M2 + 1 := ⟨M - 1, by omega⟩
  exact h M2 (k M2 (by omega))
theorem pE_o2 {m m1 d1 m2 d2 : Nat} {s1 s2 : rS} {r1 r2 : Nat ⊕ rS} (k : pE T n m1 d1 s1 r1) (k2 : pE T n m2 d2 s2 r2) (h : ∀ M, rX T n M m1 d1 s1 = some r1 → rX T n M m2 d2 s2 = some r2 → rX T n (M + 1) m d s = some r) : pE T n m d s r := by
  obtain ⟨N, k⟩ := k
  obtain ⟨N2, k2⟩ := k2
  refine ⟨N + N2 + 1, fun M hM => ?_⟩
  obtain ⟨M2, rfl⟩ : ∃ M2, M = M2 + 1 := ⟨M - 1, by omega⟩
  exact h M2 (k M2 (by omega)) (k2 M2 (by omega))
theorem rK_r {x : rR} {k : rS → rR} (h : x = some (.inr s1)) : rK x k = k s1 := by rw [h]; rfl
theorem rK_l {x : rR} {k : rS → rR} (h : x = some (.inl e)) : rK x k = some (.inl e) := by rw [h]; rfl
-- a pair of modes: first this, then the rest of it
theorem pE_q {a b c : Nat} (hm : (a, b, c) = (1, 0, 2) ∨ (a, b, c) = (3, 1, 4) ∨ (a, b, c) = (7, 6, 8) ∨ (a, b, c) = (9, 7, 10)) (k : pE T n b d s (.inr s1)) (k2 : pE T n c d s1 r) : pE T n a d s r := by
  refine pE_o2 k k2 (fun M h1 h2 => ?_)
  rcases hm with e | e | e | e <;> cases e <;> exact (rK_r h1).trans h2
theorem pE_qf {a b c : Nat} (hm : (a, b, c) = (1, 0, 2) ∨ (a, b, c) = (3, 1, 4) ∨ (a, b, c) = (7, 6, 8) ∨ (a, b, c) = (9, 7, 10)) (k : pE T n b d s (.inl e)) : pE T n a d s (.inl e) := by
  refine pE_o1 k (fun M h1 => ?_)
  rcases hm with e | e | e | e <;> cases e <;> exact rK_l h1
-- the rest of a product, of facts, of a test
theorem pE_2y (hc : rB T n s.1 < n ∧ T (rB T n s.1) = 42) (k : pE T n 0 d (rA (rB T n s.1 + 1) s) (.inr s1)) (k2 : pE T n 2 d (rU 100102 s1) r) : pE T n 2 d s r :=
  pE_o2 k k2 (fun M h1 h2 => (if_pos hc).trans ((rK_r h1).trans h2))
theorem pE_2f (hc : rB T n s.1 < n ∧ T (rB T n s.1) = 42) (k : pE T n 0 d (rA (rB T n s.1 + 1) s) (.inl e)) : pE T n 2 d s (.inl e) :=
  pE_o1 k (fun M h1 => (if_pos hc).trans (rK_l h1))
theorem pE_2n (hc : ¬ (rB T n s.1 < n ∧ T (rB T n s.1) = 42)) : pE T n 2 d s (.inr (rA (rB T n s.1) s)) := pE_of (fun M => if_neg hc)
theorem pE_8y (hc : rW T n (rB T n s.1) (rWd 18) = true) (k : pE T n 6 d (rA (rB T n s.1 + 3) s) (.inr s1)) (k2 : pE T n 8 d (rU 100109 s1) r) : pE T n 8 d s r :=
  pE_o2 k k2 (fun M h1 h2 => (if_pos hc).trans ((rK_r h1).trans h2))
theorem pE_8f (hc : rW T n (rB T n s.1) (rWd 18) = true) (k : pE T n 6 d (rA (rB T n s.1 + 3) s) (.inl e)) : pE T n 8 d s (.inl e) :=
  pE_o1 k (fun M h1 => (if_pos hc).trans (rK_l h1))
theorem pE_8n (hc : ¬ rW T n (rB T n s.1) (rWd 18) = true) : pE T n 8 d s (.inr (rA (rB T n s.1) s)) := pE_of (fun M => if_neg hc)
theorem pE_10y (hc : rW T n (rB T n s.1) (rWd 17) = true) (k : pE T n 7 d (rA (rB T n s.1 + 2) s) (.inr s1)) (k2 : pE T n 10 d (rU 100108 s1) r) : pE T n 10 d s r :=
  pE_o2 k k2 (fun M h1 h2 => (if_pos hc).trans ((rK_r h1).trans h2))
theorem pE_10f (hc : rW T n (rB T n s.1) (rWd 17) = true) (k : pE T n 7 d (rA (rB T n s.1 + 2) s) (.inl e)) : pE T n 10 d s (.inl e) :=
  pE_o1 k (fun M h1 => (if_pos hc).trans (rK_l h1))
theorem pE_10n (hc : ¬ rW T n (rB T n s.1) (rWd 17) = true) : pE T n 10 d s (.inr (rA (rB T n s.1) s)) := pE_of (fun M => if_neg hc)
-- the rest of a sum
theorem ne_43 {b : Nat} (h : b < n ∧ T b = 45) : ¬ (b < n ∧ T b = 43) := fun z => absurd (z.2.symm.trans h.2) (by decide)
theorem pE_4p (hc : rB T n s.1 < n ∧ T (rB T n s.1) = 43) (k : pE T n 1 d (rA (rB T n s.1 + 1) s) (.inr s1)) (k2 : pE T n 4 d (rU 100100 s1) r) : pE T n 4 d s r :=
  pE_o2 k k2 (fun M h1 h2 => (if_pos hc).trans ((rK_r h1).trans h2))
theorem pE_4pf (hc : rB T n s.1 < n ∧ T (rB T n s.1) = 43) (k : pE T n 1 d (rA (rB T n s.1 + 1) s) (.inl e)) : pE T n 4 d s (.inl e) :=
  pE_o1 k (fun M h1 => (if_pos hc).trans (rK_l h1))
theorem pE_4m (hc : rB T n s.1 < n ∧ T (rB T n s.1) = 45) (k : pE T n 1 d (rA (rB T n s.1 + 1) s) (.inr s1)) (k2 : pE T n 4 d (rU 100101 s1) r) : pE T n 4 d s r :=
  pE_o2 k k2 (fun M h1 h2 => (if_neg (ne_43 hc)).trans ((if_pos hc).trans ((rK_r h1).trans h2)))
theorem pE_4mf (hc : rB T n s.1 < n ∧ T (rB T n s.1) = 45) (k : pE T n 1 d (rA (rB T n s.1 + 1) s) (.inl e)) : pE T n 4 d s (.inl e) :=
  pE_o1 k (fun M h1 => (if_neg (ne_43 hc)).trans ((if_pos hc).trans (rK_l h1)))
theorem pE_4n (h1 : ¬ (rB T n s.1 < n ∧ T (rB T n s.1) = 43)) (h2 : ¬ (rB T n s.1 < n ∧ T (rB T n s.1) = 45)) : pE T n 4 d s (.inr (rA (rB T n s.1) s)) := pE_of (fun M => (if_neg h1).trans (if_neg h2))
-- a comparison
theorem pE_5a (k : pE T n 3 d s (.inl e)) : pE T n 5 d s (.inl e) := pE_o1 k (fun M h1 => rK_l h1)
theorem pE_5b (k : pE T n 3 d s (.inr s1)) (h : rCm T n (rB T n s1.1) = none) : pE T n 5 d s (.inl (1 + 8 * rB T n s1.1 + 0)) :=
  pE_o1 k (fun M h1 => (rK_r h1).trans (by (try dsimp only); rw [h]; rfl))
theorem pE_5c {q : Nat × Nat} (k : pE T n 3 d s (.inr s1)) (h : rCm T n (rB T n s1.1) = some q) (h8 : s1.2.1 = 80) : pE T n 5 d s (.inl (1 + 8 * rB T n s1.1 + 3)) :=
  pE_o1 k (fun M h1 => (rK_r h1).trans (by (try dsimp only); rw [h]; (try dsimp only); unfold rC; rw [if_pos h8]; rfl))
theorem pE_5d {q : Nat × Nat} (k : pE T n 3 d s (.inr s1)) (h : rCm T n (rB T n s1.1) = some q) (h8 : s1.2.1 ≠ 80) (k2 : pE T n 3 d (q.2, s1.2.1 + 1, s1.2.2) (.inl e)) : pE T n 5 d s (.inl e) :=
  pE_o2 k k2 (fun M h1 h2 => (rK_r h1).trans (by (try dsimp only); rw [h]; (try dsimp only); unfold rC; rw [if_neg h8]; show rK (rX T n M 3 d (q.2, s1.2.1 + 1, s1.2.2)) _ = _; exact rK_l h2))
theorem pE_5e {q : Nat × Nat} {s3 : rS} (k : pE T n 3 d s (.inr s1)) (h : rCm T n (rB T n s1.1) = some q) (h8 : s1.2.1 ≠ 80) (k2 : pE T n 3 d (q.2, s1.2.1 + 1, s1.2.2) (.inr s3)) : pE T n 5 d s (.inr (rU q.1 s3)) :=
  pE_o2 k k2 (fun M h1 h2 => (rK_r h1).trans (by (try dsimp only); rw [h]; (try dsimp only); unfold rC; rw [if_neg h8]; show rK (rX T n M 3 d (q.2, s1.2.1 + 1, s1.2.2)) _ = _; exact rK_r h2))
-- a fact
theorem no_91 {b : Nat} (h : b < n ∧ T b = 91) {i : Nat} (hi : i < 20) : ¬ rW T n b (rWd i) = true := fun z => by
  have := rW_l hi z
  rw [h.2] at this
  exact absurd this.2 (by decide)
theorem pE_6a (hc : rW T n (rB T n s.1) (rWd 19) = true) (hd : d = 10) : pE T n 6 d s (.inl (1 + 8 * rB T n s.1 + 2)) := pE_of (fun M => rX_6.trans ((if_pos hc).trans (if_pos hd)))
theorem pE_6b (hc : rW T n (rB T n s.1) (rWd 19) = true) (hd : d ≠ 10) (k : pE T n 6 (d + 1) (rA (rB T n s.1 + 3) s) (.inl e)) : pE T n 6 d s (.inl e) :=
  pE_o1 k (fun M h1 => rX_6.trans ((if_pos hc).trans ((if_neg hd).trans (rK_l h1))))
theorem pE_6c (hc : rW T n (rB T n s.1) (rWd 19) = true) (hd : d ≠ 10) (k : pE T n 6 (d + 1) (rA (rB T n s.1 + 3) s) (.inr s1)) : pE T n 6 d s (.inr (rU 100110 s1)) :=
  pE_o1 k (fun M h1 => rX_6.trans ((if_pos hc).trans ((if_neg hd).trans (rK_r h1))))
theorem pE_6d (hc : rB T n s.1 < n ∧ T (rB T n s.1) = 91) (hd : d = 10) : pE T n 6 d s (.inl (1 + 8 * rB T n s.1 + 2)) := pE_of (fun M => rX_6.trans ((if_neg (no_91 hc (by decide))).trans ((if_pos hc).trans (if_pos hd))))
theorem pE_6e (hc : rB T n s.1 < n ∧ T (rB T n s.1) = 91) (hd : d ≠ 10) (k : pE T n 9 (d + 1) (rA (rB T n s.1 + 1) s) (.inl e)) : pE T n 6 d s (.inl e) :=
  pE_o1 k (fun M h1 => rX_6.trans ((if_neg (no_91 hc (by decide))).trans ((if_pos hc).trans ((if_neg hd).trans (rK_l h1)))))
theorem pE_6g (hc : rB T n s.1 < n ∧ T (rB T n s.1) = 91) (hd : d ≠ 10) (k : pE T n 9 (d + 1) (rA (rB T n s.1 + 1) s) (.inr s1)) (h : rT T n 93 s1 = some r) : pE T n 6 d s r :=
  pE_o1 k (fun M h1 => rX_6.trans ((if_neg (no_91 hc (by decide))).trans ((if_pos hc).trans ((if_neg hd).trans ((rK_r h1).trans h)))))
theorem pE_6h (hc : ¬ rW T n (rB T n s.1) (rWd 19) = true) (hc2 : ¬ (rB T n s.1 < n ∧ T (rB T n s.1) = 91)) (k : pE T n 5 d (rA (rB T n s.1) s) r) : pE T n 6 d s r :=
  pE_o1 k (fun M h1 => rX_6.trans ((if_neg hc).trans ((if_neg hc2).trans h1)))
-- a value
theorem no_40 {b : Nat} (h : b < n ∧ T b = 40) {i : Nat} (hi : i < 20) : ¬ rW T n b (rWd i) = true := fun z => by
  have := rW_l hi z
  rw [h.2] at this
  exact absurd this.2 (by decide)
theorem pE_0a (hc : rB T n s.1 < n ∧ T (rB T n s.1) = 40) (hd : d = 10) : pE T n 0 d s (.inl (1 + 8 * rB T n s.1 + 2)) := pE_of (fun M => (if_pos hc).trans (if_pos hd))
theorem pE_0b (hc : rB T n s.1 < n ∧ T (rB T n s.1) = 40) (hd : d ≠ 10) (h8 : s.2.1 = 80) : pE T n 0 d s (.inl (1 + 8 * rB T n s.1 + 3)) :=
  pE_of (fun M => (if_pos hc).trans ((if_neg hd).trans (by unfold rC; rw [if_pos h8]; rfl)))
theorem pE_0c (hc : rB T n s.1 < n ∧ T (rB T n s.1) = 40) (hd : d ≠ 10) (h8 : s.2.1 ≠ 80) (k : pE T n 3 (d + 1) (rB T n s.1 + 1, s.2.1 + 1, s.2.2) (.inl e)) : pE T n 0 d s (.inl e) :=
  pE_o1 k (fun M h1 => (if_pos hc).trans ((if_neg hd).trans (by unfold rC; rw [if_neg h8]; show rK (rX T n M 3 (d + 1) (rB T n s.1 + 1, s.2.1 + 1, s.2.2)) (rT T n 41) = _; exact rK_l h1)))
theorem pE_0d (hc : rB T n s.1 < n ∧ T (rB T n s.1) = 40) (hd : d ≠ 10) (h8 : s.2.1 ≠ 80) (k : pE T n 3 (d + 1) (rB T n s.1 + 1, s.2.1 + 1, s.2.2) (.inr s1)) (h : rT T n 41 s1 = some r) : pE T n 0 d s r :=
  pE_o1 k (fun M h1 => (if_pos hc).trans ((if_neg hd).trans (by unfold rC; rw [if_neg h8]; show rK (rX T n M 3 (d + 1) (rB T n s.1 + 1, s.2.1 + 1, s.2.2)) (rT T n 41) = _; exact (rK_r h1).trans h)))
theorem pE_0w {k : Nat} (hk : k < 12) (hw : rW T n (rB T n s.1) (rWd k) = true) (h8 : s.2.1 ≠ 80) : pE T n 0 d s (.inr (rE T n (rB T n s.1), s.2.1 + 1, s.2.2 ++ [100000 + k])) :=
  pE_of (fun M => (if_neg (fun z => no_40 z (by omega) hw)).trans (by rw [rK12_i hk hw]; (try dsimp only); unfold rC; rw [if_neg h8]; rfl))
theorem pE_0x {k : Nat} (hk : k < 12) (hw : rW T n (rB T n s.1) (rWd k) = true) (h8 : s.2.1 = 80) : pE T n 0 d s (.inl (1 + 8 * rB T n s.1 + 3)) :=
  pE_of (fun M => (if_neg (fun z => no_40 z (by omega) hw)).trans (by rw [rK12_i hk hw]; (try dsimp only); unfold rC; rw [if_pos h8]; rfl))
theorem pE_0m (hc : ¬ (rB T n s.1 < n ∧ T (rB T n s.1) = 40)) (hw : ∀ k, k < 12 → ¬ rW T n (rB T n s.1) (rWd k) = true) (h : rM T n 99999 (rB T n s.1) = .inl e) : pE T n 0 d s (.inl e) :=
  pE_of (fun M => (if_neg hc).trans (by rw [rK12_n hw]; (try dsimp only); rw [h]))
theorem pE_0y {q : Nat × Nat} (hc : ¬ (rB T n s.1 < n ∧ T (rB T n s.1) = 40)) (hw : ∀ k, k < 12 → ¬ rW T n (rB T n s.1) (rWd k) = true) (h : rM T n 99999 (rB T n s.1) = .inr q) (h8 : s.2.1 = 80) : pE T n 0 d s (.inl (1 + 8 * rB T n s.1 + 3)) :=
  pE_of (fun M => (if_neg hc).trans (by rw [rK12_n hw]; (try dsimp only); rw [h]; (try dsimp only); unfold rC; rw [if_pos h8]; rfl))
theorem pE_0z {q : Nat × Nat} (hc : ¬ (rB T n s.1 < n ∧ T (rB T n s.1) = 40)) (hw : ∀ k, k < 12 → ¬ rW T n (rB T n s.1) (rWd k) = true) (h : rM T n 99999 (rB T n s.1) = .inr q) (h8 : s.2.1 ≠ 80) : pE T n 0 d s (.inr (q.1, s.2.1 + 1, s.2.2 ++ [q.2])) :=
  pE_of (fun M => (if_neg hc).trans (by rw [rK12_n hw]; (try dsimp only); rw [h]; (try dsimp only); unfold rC; rw [if_neg h8]; rfl))
/-- it goes on, no further than the end, and tells no more than it has passed -/
noncomputable def rPg (n : Nat) (s s2 : rS) : Prop := s.1 ≤ s2.1 ∧ s2.1 ≤ n ∧ s.1 + s2.2.2.length ≤ s2.1 + s.2.2.length
theorem rPg_t {s s1 s2 : rS} (a : rPg n s s1) (b : rPg n s1 s2) : rPg n s s2 := by
  obtain ⟨a1, a2, a3⟩ := a
  obtain ⟨b1, b2, b3⟩ := b
  exact ⟨by omega, by omega, by omega⟩
theorem rPg_u {s s1 : rS} {c b : Nat} (h : s.1 < b) (k : rPg n (rA b s) s1) : rPg n s (rU c s1) := by
  obtain ⟨a1, a2, a3⟩ := k
  have a1 : b ≤ s1.1 := a1
  have a3 : b + s1.2.2.length ≤ s1.1 + s.2.2.length := a3
  refine ⟨?_, a2, ?_⟩
  · show s.1 ≤ s1.1; omega
  · show s.1 + (s1.2.2 ++ [c]).length ≤ s1.1 + s.2.2.length
    rw [List.length_append]
    show s.1 + (s1.2.2.length + 1) ≤ _
    omega
theorem rM_r {most p : Nat} {q : Nat × Nat} (hp : p ≤ n) (h : rM T n most p = .inr q) : rB T n p < q.1 ∧ q.1 ≤ n ∧ q.2 ≤ most := by
  unfold rM at h
  have h1 := rD_ge (T := T) (n := n) (p := rB T n p)
  have h2 := rD_le (T := T) (n := n) (rB_le (T := T) hp)
  by_cases c1 : rD T n (rB T n p) = rB T n p
  · rw [if_pos c1] at h; cases h
  · rw [if_neg c1] at h
    by_cases c2 : 5 < rD T n (rB T n p) - rB T n p ∨ most < rV T (rB T n p) (rD T n (rB T n p) - rB T n p)
    · rw [if_pos c2] at h; cases h
    · rw [if_neg c2] at h
      cases h
      exact ⟨by show _ < rD T n (rB T n p); omega, h2, by show rV T (rB T n p) (rD T n (rB T n p) - rB T n p) ≤ most; omega⟩
theorem rCm_n {b : Nat} {q : Nat × Nat} (h : rCm T n b = some q) : q.2 ≤ n := by
  unfold rCm at h
  split at h
  · cases h; show _ + 1 ≤ _; omega
  · split at h
    · split at h <;> (cases h; show _ + _ ≤ _; omega)
    · split at h
      · split at h <;> (cases h; show _ + _ ≤ _; omega)
      · cases h
theorem rC_s {p : Nat} {k : rS → rR} (h : rK (rC p s) k = some (.inr s1)) : k (s.1, s.2.1 + 1, s.2.2) = some (.inr s1) := by
  rcases rC_i h with ⟨-, z⟩ | ⟨-, z⟩
  · cases z
  · exact z
theorem rK_s {x : rR} {k : rS → rR} {s2 : rS} (h : rK x k = some (.inr s2)) : ∃ s1, x = some (.inr s1) ∧ k s1 = some (.inr s2) := by
  rcases rK_i h with ⟨e, -, z⟩ | z
  · cases z
  · exact z
theorem rT_s {c : Int32} {s2 : rS} (h : rT T n c s1 = some (.inr s2)) (hp : s1.1 ≤ n) : rPg n s1 s2 := by
  unfold rT at h
  by_cases c1 : rB T n s1.1 < n ∧ T (rB T n s1.1) = c
  · rw [if_pos c1] at h
    cases h
    have := rB_ge (T := T) (n := n) (p := s1.1)
    refine ⟨?_, ?_, ?_⟩
    · show s1.1 ≤ rB T n s1.1 + 1; omega
    · show rB T n s1.1 + 1 ≤ n; omega
    · show s1.1 + s1.2.2.length ≤ rB T n s1.1 + 1 + s1.2.2.length; omega
  · rw [if_neg c1] at h; cases h
theorem rB_pg (hp : s.1 ≤ n) : rPg n s (rA (rB T n s.1) s) := by
  have h1 := rB_ge (T := T) (n := n) (p := s.1)
  have h2 := rB_le (T := T) hp
  exact ⟨h1, h2, by show s.1 + s.2.2.length ≤ rB T n s.1 + s.2.2.length; omega⟩
theorem rX_7 {f d : Nat} {s : rS} : rX T n (f + 1) 0 d s = (if rB T n s.1 < n ∧ T (rB T n s.1) = 40 then (if d = 10 then rF (rB T n s.1) 2 else rK (rC (rB T n s.1) s) (fun s1 => rK (rX T n f 3 (d + 1) (rA (rB T n s.1 + 1) s1)) (rT T n 41)))
      else (match rK12 T n (rB T n s.1) with
        | some k => rK (rC (rB T n s.1) s) (fun s1 => rO (rU (100000 + k) (rA (rE T n (rB T n s.1)) s1)))
        | none => (match rM T n 99999 (rB T n s.1) with
          | .inl e => some (.inl e)
          | .inr q => rK (rC (rB T n s.1) s) (fun s1 => rO (rU q.2 (rA q.1 s1)))))) := rfl
theorem rX_pg : ∀ (f m d : Nat) (s s2 : rS), rX T n f m d s = some (.inr s2) → s.1 ≤ n → rPg n s s2
  | 0, _, _, _, _, h, _ => by
    have h : (none : rR) = _ := h
    cases h
  | f + 1, m, d, s, s2, h, hp => by
    have ih := rX_pg f
    have hb := rB_ge (T := T) (n := n) (p := s.1)
    have hbn := rB_le (T := T) hp
    match m, h with
    | 0, h =>
      rw [rX_7] at h
      by_cases c1 : rB T n s.1 < n ∧ T (rB T n s.1) = 40
      · rw [if_pos c1] at h
        by_cases c2 : d = 10
        · rw [if_pos c2] at h; cases h
        · rw [if_neg c2] at h
          have h := rC_s h
          obtain ⟨s3, h1, h2⟩ := rK_s h
          have k1 := ih 3 _ _ _ h1 (by show rB T n s.1 + 1 ≤ n; omega)
          have k2 := rT_s h2 k1.2.1
          have k := rPg_t k1 k2
          obtain ⟨a1, a2, a3⟩ := k
          have a1 : rB T n s.1 + 1 ≤ s2.1 := a1
          have a3 : rB T n s.1 + 1 + s2.2.2.length ≤ s2.1 + s.2.2.length := a3
          exact ⟨by omega, a2, by omega⟩
      · rw [if_neg c1] at h
        cases c2 : rK12 T n (rB T n s.1) with
        | some k =>
          rw [c2] at h
          have h := rC_s h
          have e := Option.some.inj h
          cases e
          obtain ⟨k1, k2⟩ := rK12_s c2
          have k3 := rW_l (by omega) k2
          have k4 := rE_ge (T := T) (n := n) (p := rB T n s.1 + 1)
          rw [← rE_y k3] at k4
          have k5 := rE_le (T := T) hbn
          refine ⟨?_, k5, ?_⟩
          · show s.1 ≤ rE T n (rB T n s.1); omega
          · show s.1 + (s.2.2 ++ [100000 + k]).length ≤ rE T n (rB T n s.1) + s.2.2.length
            rw [List.length_append]
            show s.1 + (s.2.2.length + 1) ≤ _
            omega
        | none =>
          rw [c2] at h
          try dsimp only at h
          cases c3 : rM T n 99999 (rB T n s.1) with
          | inl e => rw [c3] at h; cases h
          | inr q =>
            rw [c3] at h
            have h := rC_s h
            have e := Option.some.inj h
            cases e
            obtain ⟨k1, k2, -⟩ := rM_r hbn c3
            rw [rB_2] at k1
            refine ⟨?_, k2, ?_⟩
            · show s.1 ≤ q.1; omega
            · show s.1 + (s.2.2 ++ [q.2]).length ≤ q.1 + s.2.2.length
              rw [List.length_append]
              show s.1 + (s.2.2.length + 1) ≤ _
              omega
    | 1, h =>
      obtain ⟨s3, h1, h2⟩ := rK_s (k := rX T n f 2 d) h
      have k1 := ih 0 _ _ _ h1 hp
      exact rPg_t k1 (ih 2 _ _ _ h2 k1.2.1)
    | 2, h =>
      have h : (if rB T n s.1 < n ∧ T (rB T n s.1) = 42 then rK (rX T n f 0 d (rA (rB T n s.1 + 1) s)) (fun s1 => rX T n f 2 d (rU 100102 s1)) else rO (rA (rB T n s.1) s)) = _ := h
      by_cases c1 : rB T n s.1 < n ∧ T (rB T n s.1) = 42
      · rw [if_pos c1] at h
        obtain ⟨s3, h1, h2⟩ := rK_s h
        have k1 := ih 0 _ _ _ h1 (by show rB T n s.1 + 1 ≤ n; omega)
        exact rPg_t (rPg_u (by omega) k1) (ih 2 _ _ _ h2 k1.2.1)
      · rw [if_neg c1] at h
        cases h
        exact rB_pg hp
    | 3, h =>
      obtain ⟨s3, h1, h2⟩ := rK_s (k := rX T n f 4 d) h
      have k1 := ih 1 _ _ _ h1 hp
      exact rPg_t k1 (ih 4 _ _ _ h2 k1.2.1)
    | 4, h =>
      have h : (if rB T n s.1 < n ∧ T (rB T n s.1) = 43 then rK (rX T n f 1 d (rA (rB T n s.1 + 1) s)) (fun s1 => rX T n f 4 d (rU 100100 s1))
        else if rB T n s.1 < n ∧ T (rB T n s.1) = 45 then rK (rX T n f 1 d (rA (rB T n s.1 + 1) s)) (fun s1 => rX T n f 4 d (rU 100101 s1))
        else rO (rA (rB T n s.1) s)) = _ := h
      by_cases c1 : rB T n s.1 < n ∧ T (rB T n s.1) = 43
      · rw [if_pos c1] at h
        obtain ⟨s3, h1, h2⟩ := rK_s h
        have k1 := ih 1 _ _ _ h1 (by show rB T n s.1 + 1 ≤ n; omega)
        exact rPg_t (rPg_u (by omega) k1) (ih 4 _ _ _ h2 k1.2.1)
      · rw [if_neg c1] at h
        by_cases c2 : rB T n s.1 < n ∧ T (rB T n s.1) = 45
        · rw [if_pos c2] at h
          obtain ⟨s3, h1, h2⟩ := rK_s h
          have k1 := ih 1 _ _ _ h1 (by show rB T n s.1 + 1 ≤ n; omega)
          exact rPg_t (rPg_u (by omega) k1) (ih 4 _ _ _ h2 k1.2.1)
        · rw [if_neg c2] at h
          cases h
          exact rB_pg hp
    | 5, h =>
      obtain ⟨s3, h1, h2⟩ := rK_s (x := rX T n f 3 d s) h
      have k1 := ih 3 _ _ _ h1 hp
      try dsimp only at h2
      cases c1 : rCm T n (rB T n s3.1) with
      | none => rw [c1] at h2; cases h2
      | some q =>
        rw [c1] at h2
        have h2 := rC_s h2
        obtain ⟨s4, h3, h4⟩ := rK_s h2
        have e := Option.some.inj h4
        cases e
        obtain ⟨-, -, q3⟩ := rCm_r c1
        have q4 := rCm_n c1
        have k2 := ih 3 _ _ _ h3 q4
        have k3 := rB_ge (T := T) (n := n) (p := s3.1)
        exact rPg_t k1 (rPg_u (s := s3) (b := q.2) (by omega) k2)
    | 6, h =>
      rw [rX_6] at h
      by_cases c1 : rW T n (rB T n s.1) (rWd 19) = true
      · rw [if_pos c1] at h
        by_cases c2 : d = 10
        · rw [if_pos c2] at h; cases h
        · rw [if_neg c2] at h
          obtain ⟨s3, h1, h2⟩ := rK_s h
          have e := Option.some.inj h2
          cases e
          have e3 : rE T n (rB T n s.1) = rB T n s.1 + 3 := rW_e c1
          have k5 := rE_le (T := T) hbn
          have k1 := ih 6 _ _ _ h1 (by show rB T n s.1 + 3 ≤ n; omega)
          exact rPg_u (by omega) k1
      · rw [if_neg c1] at h
        by_cases c3 : rB T n s.1 < n ∧ T (rB T n s.1) = 91
        · rw [if_pos c3] at h
          by_cases c2 : d = 10
          · rw [if_pos c2] at h; cases h
          · rw [if_neg c2] at h
            obtain ⟨s3, h1, h2⟩ := rK_s h
            have k1 := ih 9 _ _ _ h1 (by show rB T n s.1 + 1 ≤ n; omega)
            have k := rPg_t k1 (rT_s h2 k1.2.1)
            obtain ⟨a1, a2, a3⟩ := k
            have a1 : rB T n s.1 + 1 ≤ s2.1 := a1
            have a3 : rB T n s.1 + 1 + s2.2.2.length ≤ s2.1 + s.2.2.length := a3
            exact ⟨by omega, a2, by omega⟩
        · rw [if_neg c3] at h
          exact rPg_t (rB_pg hp) (ih 5 _ _ _ h hbn)
    | 7, h =>
      obtain ⟨s3, h1, h2⟩ := rK_s (k := rX T n f 8 d) h
      have k1 := ih 6 _ _ _ h1 hp
      exact rPg_t k1 (ih 8 _ _ _ h2 k1.2.1)
    | 8, h =>
      have h : (if rW T n (rB T n s.1) (rWd 18) = true then rK (rX T n f 6 d (rA (rB T n s.1 + 3) s)) (fun s1 => rX T n f 8 d (rU 100109 s1)) else rO (rA (rB T n s.1) s)) = _ := h
      by_cases c1 : rW T n (rB T n s.1) (rWd 18) = true
      · rw [if_pos c1] at h
        obtain ⟨s3, h1, h2⟩ := rK_s h
        have e3 : rE T n (rB T n s.1) = rB T n s.1 + 3 := rW_e c1
        have k5 := rE_le (T := T) hbn
        have k1 := ih 6 _ _ _ h1 (by show rB T n s.1 + 3 ≤ n; omega)
        exact rPg_t (rPg_u (by omega) k1) (ih 8 _ _ _ h2 k1.2.1)
      · rw [if_neg c1] at h
        cases h
        exact rB_pg hp
    | 9, h =>
      obtain ⟨s3, h1, h2⟩ := rK_s (k := rX T n f 10 d) h
      have k1 := ih 7 _ _ _ h1 hp
      exact rPg_t k1 (ih 10 _ _ _ h2 k1.2.1)
    | m + 10, h =>
      have h : (if rW T n (rB T n s.1) (rWd 17) = true then rK (rX T n f 7 d (rA (rB T n s.1 + 2) s)) (fun s1 => rX T n f 10 d (rU 100108 s1)) else rO (rA (rB T n s.1) s)) = _ := h
      by_cases c1 : rW T n (rB T n s.1) (rWd 17) = true
      · rw [if_pos c1] at h
        obtain ⟨s3, h1, h2⟩ := rK_s h
        have e3 : rE T n (rB T n s.1) = rB T n s.1 + 2 := rW_e c1
        have k5 := rE_le (T := T) hbn
        have k1 := ih 7 _ _ _ h1 (by show rB T n s.1 + 2 ≤ n; omega)
        exact rPg_t (rPg_u (by omega) k1) (ih 10 _ _ _ h2 k1.2.1)
      · rw [if_neg c1] at h
        cases h
        exact rB_pg hp
theorem pE_pg {m : Nat} (k : pE T n m d s (.inr s1)) (hp : s.1 ≤ n) : rPg n s s1 := by
  obtain ⟨N, k⟩ := k
  exact rX_pg N m d s s1 (k N (Nat.le_refl _)) hp
end PE
/-! the going-down reader's object: 44 with its bytes 45, its codes 46, its clauses 47 -/
noncomputable def cCo (h : zH) : List Nat := (List.range (tvI (tF h 44 5)).toNatClampNeg).map (fun i => (tA h 46 i).toNatClampNeg)
noncomputable def cs (h : zH) : rS := ((tvI (tF h 44 2)).toNatClampNeg, (tvI (tF h 44 8)).toNatClampNeg, cCo h)
noncomputable abbrev cn (h : zH) : Nat := (tvI (tF h 44 1)).toNatClampNeg
noncomputable def cFr (h h2 : zH) : Prop := tSh h2 ∧ (∀ p b, ¬ (p = 44 ∧ (b = 2 ∨ b = 3 ∨ b = 5 ∨ b = 8 ∨ b = 9)) → tF h2 p b = tF h p b) ∧ (∀ p, p ≠ 46 → tA h2 p = tA h p) ∧ tN h2 = tN h
noncomputable def cP (h : zH) : Prop := (0 ≤ (tvI (tF h 44 2)).toInt ∧ (tvI (tF h 44 2)).toInt ≤ (tvI (tF h 44 1)).toInt ∧ (tvI (tF h 44 1)).toInt ≤ 400) ∧ (0 ≤ (tvI (tF h 44 8)).toInt ∧ (tvI (tF h 44 8)).toInt ≤ 80) ∧ (0 ≤ (tvI (tF h 44 5)).toInt ∧ (tvI (tF h 44 5)).toInt ≤ (tvI (tF h 44 2)).toInt) ∧ (∀ i, i < 400 → -128 ≤ (tA h 45 i).toInt ∧ (tA h 45 i).toInt ≤ 127) ∧ tN h 46 = 400 ∧ tF h 44 9 = .int (-1)
/-- one field was written -/
noncomputable def cSet (b : Nat) (X : Int32) (h h3 : zH) : Prop := tSh h3 ∧ tF h3 44 b = .int X ∧ (∀ p q, ¬ (p = 44 ∧ q = b) → tF h3 p q = tF h p q) ∧ tA h3 = tA h ∧ tN h3 = tN h
section CF
variable {h h1 h2 h3 : zH} {b : Nat} {X : Int32}
theorem cSet_of (hf : tFd h 44 b) (hs : tSh (tSF h 44 b (.int X))) : cSet b X h (tSF h 44 b (.int X)) := ⟨hs, tF_same hf, fun _ _ hn => tF_nz hn, tA_tSF _ _ _ _, tN_tSF _ _ _ _⟩
theorem tG_set {tt : zT} {G : zG} {cd : zK} {bc bs : Nat} {rt : Option FieldType} {M : zM} {Q : zQ} {Z : zX} {f : Bool} {pc : Nat} {L : zL} {st : List Value} {c n : Nat} (hf : tFd h 44 b) (hs : tSh (tSF h 44 b (.int X))) (k : ∀ h3, cSet b X h h3 → tG tt G cd bc bs rt M Q Z f pc L st h3 c n) : tG tt G cd bc bs rt M Q Z f pc L st (tSF h 44 b (.int X)) c n := k _ (cSet_of hf hs)
theorem cFr_r (hs : tSh h) : cFr h h := ⟨hs, fun _ _ _ => rfl, fun _ _ => rfl, rfl⟩
theorem cFr_t (a : cFr h h1) (k : cFr h1 h2) : cFr h h2 := ⟨k.1, fun p q z => (k.2.1 p q z).trans (a.2.1 p q z), fun p z => (k.2.2.1 p z).trans (a.2.2.1 p z), k.2.2.2.trans a.2.2.2⟩
theorem cFr_s (a : cFr h h1) (k : cSet b X h1 h2) (hb : b = 2 ∨ b = 3 ∨ b = 5 ∨ b = 8 ∨ b = 9) : cFr h h2 := ⟨k.1, fun p q z => (k.2.2.1 p q (fun w => z ⟨w.1, w.2.symm ▸ hb⟩)).trans (a.2.1 p q z), fun p z => (congrFun k.2.2.2.1 p).trans (a.2.2.1 p z), k.2.2.2.2.trans a.2.2.2⟩
theorem cFr_T (a : cFr h h1) : tA h1 45 = tA h 45 := a.2.2.1 45 (by decide)
theorem cFr_1 (a : cFr h h1) : tvI (tF h1 44 1) = tvI (tF h 44 1) := congrArg tvI (a.2.1 44 1 (by decide))
theorem cFr_n (a : cFr h h1) : cn h1 = cn h := by unfold cn; rw [cFr_1 a]
theorem cI_x (k : cSet b X h h3) : tvI (tF h3 44 b) = X := congrArg tvI k.2.1
theorem cI_o {q : Nat} (k : cSet b X h h3) (hq : q ≠ b) : tvI (tF h3 44 q) = tvI (tF h 44 q) := congrArg tvI (k.2.2.1 44 q (fun z => hq z.2))
theorem cCo_o (k : cSet b X h h3) (hb : b ≠ 5) : cCo h3 = cCo h := by
  unfold cCo
  rw [cI_o k (fun z => hb z.symm), k.2.2.2.1]
theorem cs_2 (k : cSet 2 X h h3) : cs h3 = rA X.toNatClampNeg (cs h) := by
  unfold cs
  rw [cI_x k, cI_o k (by decide), cCo_o k (by decide)]
  rfl
theorem cs_8 (k : cSet 8 X h h3) : cs h3 = ((cs h).1, X.toNatClampNeg, (cs h).2.2) := by
  unfold cs
  rw [cI_x k, cI_o k (by decide), cCo_o k (by decide)]
theorem cs_o (k : cSet b X h h3) (h2 : b ≠ 2) (h5 : b ≠ 5) (h8 : b ≠ 8) : cs h3 = cs h := by
  unfold cs
  rw [cI_o k (fun z => h2 z.symm), cI_o k (fun z => h8 z.symm), cCo_o k h5]
theorem cCo_len : (cCo h).length = (tvI (tF h 44 5)).toNatClampNeg := by unfold cCo; rw [List.length_map, List.length_range]
theorem zj1 {x : Int32} (hx : 0 ≤ x.toInt) {y : Int32} (hy : x.toInt < y.toInt) : (x + 1).toInt = x.toInt + 1 := by
  have := Int32.toInt_lt y
  rw [Int32.toInt_add]
  exact Int.bmod_eq_of_le (by show (-2147483648 : Int) ≤ x.toInt + 1; omega) (by show x.toInt + 1 < (2147483648 : Int); omega)
theorem zj1n {x : Int32} (hx : 0 ≤ x.toInt) {y : Int32} (hy : x.toInt < y.toInt) : (x + 1).toNatClampNeg = x.toNatClampNeg + 1 := by
  rw [zclE, zclE, zj1 hx hy]
  omega
theorem cP_len (p : cP h) : (cs h).2.2.length ≤ (cs h).1 := by
  show (cCo h).length ≤ (tvI (tF h 44 2)).toNatClampNeg
  rw [cCo_len, zclE, zclE]
  have := p.2.2.1
  omega
theorem cP_le (p : cP h) : (cs h).1 ≤ cn h := by
  show (tvI (tF h 44 2)).toNatClampNeg ≤ (tvI (tF h 44 1)).toNatClampNeg
  rw [zclE, zclE]
  have := p.1
  omega
theorem cP_400 (p : cP h) : cn h ≤ 400 := by
  show (tvI (tF h 44 1)).toNatClampNeg ≤ 400
  rw [zclE]
  have := p.1
  omega
/-- the place was moved on -/
theorem cP_2 (p : cP h) (k : cSet 2 X h h3) (h1 : (tvI (tF h 44 2)).toInt ≤ X.toInt) (h2 : X.toInt ≤ (tvI (tF h 44 1)).toInt) : cP h3 := by
  obtain ⟨a, b, c, d, e, e9⟩ := p
  refine ⟨?_, ?_, ?_, ?_, ?_, (k.2.2.1 44 9 (by decide)).trans e9⟩
  · rw [cI_x k, cI_o k (by decide)]; omega
  · rw [cI_o k (by decide)]; exact b
  · rw [cI_x k, cI_o k (by decide)]; omega
  · rw [k.2.2.2.1]; exact d
  · rw [k.2.2.2.2]; exact e
theorem cP_8 (p : cP h) (k : cSet 8 X h h3) (h1 : 0 ≤ X.toInt) (h2 : X.toInt ≤ 80) : cP h3 := by
  obtain ⟨a, b, c, d, e, e9⟩ := p
  refine ⟨?_, ?_, ?_, ?_, ?_, (k.2.2.1 44 9 (by decide)).trans e9⟩
  · rw [cI_o k (by decide), cI_o k (by decide)]; exact a
  · rw [cI_x k]; omega
  · rw [cI_o k (by decide), cI_o k (by decide)]; exact c
  · rw [k.2.2.2.1]; exact d
  · rw [k.2.2.2.2]; exact e
theorem cP_o (p : cP h) (k : cSet b X h h3) (h2 : b = 3) : cP h3 := by
  have e2 := cI_o (q := 2) k (by omega)
  have e1 := cI_o (q := 1) k (by omega)
  have e8 := cI_o (q := 8) k (by omega)
  have e5 := cI_o (q := 5) k (by omega)
  unfold cP
  rw [e2, e1, e8, e5, k.2.2.2.1, k.2.2.2.2, k.2.2.1 44 9 (by omega)]
  exact p
/-- a sign: the byte there, below 256, or none -/
noncomputable def sgn (T : Nat → Int32) (n b : Nat) (c : Int32) : Prop := (∀ k : Int32, 0 ≤ k.toInt → k.toInt ≤ 127 → (c = k ↔ b < n ∧ T b = k)) ∧ (c = -1 ↔ ¬ b < n)
theorem sgn_n {T : Nat → Int32} {n b : Nat} (h : ¬ b < n) : sgn T n b (-1) := ⟨fun k h1 _ => ⟨fun z => by rw [← z] at h1; exact absurd h1 (by decide), fun z => absurd z.1 h⟩, ⟨fun _ => h, fun _ => rfl⟩⟩
theorem z255 : (List.range 256).all (fun k => decide (((Int32.ofInt ((k : Int) - 128)) &&& 255).toInt = (if k < 128 then (k : Int) + 128 else (k : Int) - 128))) = true := by decide +kernel
theorem zand255 {x : Int32} (h : -128 ≤ x.toInt ∧ x.toInt ≤ 127) : (x &&& 255).toInt = if x.toInt < 0 then x.toInt + 256 else x.toInt := by
  have q := of_decide_eq_true (List.all_eq_true.mp z255 (x.toInt + 128).toNat (List.mem_range.mpr (by omega)))
  have e : (((x.toInt + 128).toNat : Nat) : Int) - 128 = x.toInt := by omega
  rw [e, Int32.ofInt_toInt] at q
  rw [q]
  by_cases z : x.toInt < 0
  · rw [if_pos z, if_pos (by omega)]; omega
  · rw [if_neg z, if_neg (by omega)]
theorem sgn_y {T : Nat → Int32} {n b : Nat} (h : b < n) (hr : -128 ≤ (T b).toInt ∧ (T b).toInt ≤ 127) : sgn T n b (T b &&& 255) := by
  have e := zand255 hr
  refine ⟨fun k h1 h2 => ⟨fun z => ⟨h, ?_⟩, fun z => ?_⟩, ⟨fun z => ?_, fun z => absurd h z⟩⟩
  · rw [z] at e
    refine Int32.toInt_inj.mp ?_
    by_cases y : (T b).toInt < 0
    · rw [if_pos y] at e; omega
    · rw [if_neg y] at e; omega
  · refine Int32.toInt_inj.mp ?_
    rw [e, z.2, if_neg (by omega)]
  · rw [z] at e
    have : ((-1 : Int32)).toInt = -1 := by decide
    by_cases y : (T b).toInt < 0
    · rw [if_pos y] at e; omega
    · rw [if_neg y] at e; omega
theorem sgn_k {T : Nat → Int32} {n b : Nat} {c : Int32} (s : sgn T n b c) (k : Int32) (hk : 0 ≤ k.toInt ∧ k.toInt ≤ 127) : c = k ↔ b < n ∧ T b = k := s.1 k hk.1 hk.2
/-- a fault is told -/
noncomputable def cFt (h : zH) (e : Nat) : Prop := tF h 44 9 = .int (Int32.ofNat e)
theorem zofI {e : Nat} (h : e < 2147483648) : (Int32.ofNat e).toInt = e := by
  rw [Int32.toInt_ofNat']
  exact Int.bmod_eq_of_le (by show (-2147483648 : Int) ≤ (e : Int); omega) (by show (e : Int) < (2147483648 : Int); omega)
theorem zfa {a y : Int32} {b w : Nat} (ha : a.toInt = b) (hb : b ≤ 400) (hy : y.toInt = w) (hw : w ≤ 7) : 1 + 8 * a + y = Int32.ofNat (1 + 8 * b + w) := by
  refine Int32.toInt_inj.mp ?_
  have e1 : (8 * a).toInt = 8 * b := by
    rw [Int32.toInt_mul, ha]
    show Int.bmod (8 * (b : Int)) _ = _
    exact Int.bmod_eq_of_le (by show (-2147483648 : Int) ≤ 8 * (b : Int); omega) (by show 8 * (b : Int) < (2147483648 : Int); omega)
  have e2 : (1 + 8 * a).toInt = 1 + 8 * b := by
    rw [Int32.toInt_add, e1]
    show Int.bmod (1 + 8 * (b : Int)) _ = _
    exact Int.bmod_eq_of_le (by show (-2147483648 : Int) ≤ 1 + 8 * (b : Int); omega) (by show 1 + 8 * (b : Int) < (2147483648 : Int); omega)
  rw [Int32.toInt_add, e2, hy, zofI (by omega)]
  exact (Int.bmod_eq_of_le (by show (-2147483648 : Int) ≤ 1 + 8 * (b : Int) + w; omega) (by show 1 + 8 * (b : Int) + w < (2147483648 : Int); omega)).trans (by omega)
/-- outcomes -/
noncomputable def cOut (X : rR) (h : zH) : zQ := fun w h2 => cFr h h2 ∧ ((w = some (.int 1) ∧ X = some (.inr (cs h2)) ∧ cP h2) ∨ (w = some (.int 0) ∧ ∃ e, X = some (.inl e) ∧ cFt h2 e))
noncomputable def cR (T : Nat → Int32) (n m d : Nat) (h : zH) : zQ := fun w h2 => cFr h h2 ∧ ((w = some (.int 1) ∧ pE T n m d (cs h) (.inr (cs h2)) ∧ cP h2) ∨ (w = some (.int 0) ∧ ∃ e, pE T n m d (cs h) (.inl e) ∧ cFt h2 e))
noncomputable def tCp (tt : zT) (G : zG) (d : Nat) (j : Nat) (as : List Value) (h : zH) (Q : zQ) : Prop := zW tt G d j as h tTr → zW tt G d j as h Q
theorem tCp.both {tt : zT} {G : zG} {d j : Nat} {as : List Value} {h : zH} {P Q : zQ} (k : tCp tt G d j as h Q) (z : zW tt G d j as h P) : zW tt G d j as h (fun w h2 => P w h2 ∧ Q w h2) := zW_conj tt G d _ _ _ _ _ z (k (zW_mono tt G d _ _ _ _ _ (fun _ _ _ => trivial) z))
theorem tCp_in {tt : zT} {G : zG} {j d : Nat} {as : List Value} {h : zH} {Q : zQ} {cd : zK} {nL : Nat} {rt : Option FieldType} {bc bs : Nat} (hj : G.1[j]? = some (cd, nL, rt, bc, bs)) (k : tG tt G cd bc bs rt (zW tt G d) Q tFz false 0 (zentry as nL) [] h 0 0) : tCp tt G (d + 1) j as h Q := by
  intro z
  unfold zW at z ⊢
  rw [hj] at z ⊢
  exact ⟨z.1, tG_end (zW_mono tt G d) k z.2⟩
theorem tw_virt1p {tt : zT} {G : zG} {cd : zK} {bc bs dp : Nat} {rt : Option FieldType} {Q : zQ} {Z : zX} {f : Bool} {pc nx a d : Nat} {v : Value} {L : zL} {s : List Value} {h : zH} {c n i r : Nat} {Qa : zQ} {x1 : Value} (hc : cd[pc]? = some (some (.invokevirtual i, nx, a, 1, d, v))) (kc : tCp tt G dp a (.ref r :: [x1]) h Qa) (k : ∀ w h2, Qa w h2 → tG tt G cd bc bs rt (zW tt G dp) Q Z true nx L (w.toList ++ s) h2 (c + (zbud G a).1) (n + (zbud G a).2)) : tG tt G cd bc bs rt (zW tt G dp) Q Z f pc L (x1 :: .ref r :: s) h c n := tG_row hc (fun z => Or.elim z (fun z => False.elim z) (fun z => Or.inr ⟨z.1, z.2.1, z.2.2.1, z.2.2.2.1, z.2.2.2.2.1, zW_mono tt G dp _ _ _ _ _ (fun w h2 q => k w h2 q.2 q.1) (tCp.both kc z.2.2.2.2.2)⟩))
noncomputable def cML : List (Nat × Nat) := [(0, 85), (1, 84), (3, 83), (5, 81), (6, 80), (7, 79), (9, 78)]
/-- the seven that call each other, at a depth of calls -/
noncomputable def cIH (G : zG) (dp : Nat) : Prop := ∀ (m j : Nat), (m, j) ∈ cML → ∀ (h : zH) (T : Nat → Int32) (n d : Nat) (x : Int32), tSh h → cP h → tA h 45 = T → cn h = n → x.toInt = d → d ≤ 10 → tCp zTt G dp j [.ref 44, .int x] h (cR T n m d h)
end CF
theorem cLt {h : zH} {n : Nat} (p : cP h) (hn : cn h = n) (q : (tvI (tF h 44 2)).toInt < (tvI (tF h 44 1)).toInt) : (cs h).1 < n := by
  rw [← hn]
  show (tvI (tF h 44 2)).toNatClampNeg < (tvI (tF h 44 1)).toNatClampNeg
  rw [zclE, zclE]
  have := p.1
  omega
theorem cGe {h : zH} {n : Nat} (p : cP h) (hn : cn h = n) (q : (tvI (tF h 44 1)).toInt ≤ (tvI (tF h 44 2)).toInt) : ¬ (cs h).1 < n := by
  rw [← hn]
  show ¬ (tvI (tF h 44 2)).toNatClampNeg < (tvI (tF h 44 1)).toNatClampNeg
  rw [zclE, zclE]
  have := p.1
  omega
theorem cLtI {h : zH} {n : Nat} (p : cP h) (hn : cn h = n) (q : (cs h).1 < n) : (tvI (tF h 44 2)).toInt < (tvI (tF h 44 1)).toInt := by
  rw [← hn] at q
  have q : (tvI (tF h 44 2)).toNatClampNeg < (tvI (tF h 44 1)).toNatClampNeg := q
  rw [zclE, zclE] at q
  have := p.1
  omega
theorem cInc {h h3 : zH} {n : Nat} (p : cP h) (hl : (cs h).1 < n) (hn : cn h = n) (e : cSet 2 (tvI (tF h 44 2) + 1) h h3) : cP h3 ∧ cs h3 = rA ((cs h).1 + 1) (cs h) := by
  have q := cLtI p hn hl
  have i1 := zj1 p.1.1 q
  refine ⟨cP_2 p e (by rw [i1]; omega) (by rw [i1]; omega), ?_⟩
  rw [cs_2 e, zj1n p.1.1 q]
  rfl
theorem cSg_o {T : Nat → Int32} {n : Nat} {h h1 : zH} (e1 : (cs h1).2 = (cs h).2) (e2 : rB T n (cs h1).1 = rB T n (cs h).1) (hb : ¬ ((cs h1).1 < n ∧ T (cs h1).1 = 32)) : cs h1 = rA (rB T n (cs h).1) (cs h) ∧ (cs h1).1 = rB T n (cs h).1 := by
  have z : (cs h1).1 = rB T n (cs h).1 := by rw [← e2, rB_n hb]
  exact ⟨Prod.ext z e1, z⟩
theorem c80 {h : zH} (q : tvI (tF h 44 8) = 80) : (cs h).2.1 = 80 := by
  show (tvI (tF h 44 8)).toNatClampNeg = 80
  rw [q]; rfl
theorem cn80 {h : zH} (p : cP h) (q : ¬ tvI (tF h 44 8) = 80) : (cs h).2.1 ≠ 80 := by
  intro z
  have z : (tvI (tF h 44 8)).toNatClampNeg = 80 := z
  rw [zclE] at z
  refine q (Int32.toInt_inj.mp ?_)
  show (tvI (tF h 44 8)).toInt = 80
  have := p.2.1
  omega
theorem cCnt {h h3 : zH} (p : cP h) (q : ¬ tvI (tF h 44 8) = 80) (e : cSet 8 (tvI (tF h 44 8) + 1) h h3) : cP h3 ∧ cs h3 = ((cs h).1, (cs h).2.1 + 1, (cs h).2.2) := by
  have q2 : (tvI (tF h 44 8)).toInt < (80 : Int32).toInt := by
    have a := p.2.1
    have b : (tvI (tF h 44 8)).toInt ≠ 80 := fun z => q (Int32.toInt_inj.mp z)
    show (tvI (tF h 44 8)).toInt < 80
    omega
  have i1 := zj1 p.2.1.1 q2
  have q3 : (tvI (tF h 44 8)).toInt < 80 := q2
  refine ⟨cP_8 p e (by rw [i1]; have := p.2.1; omega) (by rw [i1]; omega), ?_⟩
  rw [cs_8 e, zj1n p.2.1.1 q2]
  rfl
theorem cFt_of {h h2 : zH} {y : Int32} {w : Nat} (p : cP h) (f : tF h2 44 9 = .int (1 + 8 * tvI (tF h 44 2) + y)) (hy : y.toInt = w) (hw : w ≤ 7) : cFt h2 (1 + 8 * (cs h).1 + w) := by
  unfold cFt
  rw [f, zfa (b := (cs h).1) (w := w) ?_ ?_ hy hw]
  · show (tvI (tF h 44 2)).toInt = ((tvI (tF h 44 2)).toNatClampNeg : Int)
    rw [zclE]
    have := p.1
    omega
  · exact Nat.le_trans (cP_le p) (cP_400 p)
theorem cPut_of {h : zH} {k : Int32} {kd : Nat} (hs : tSh h) (p : cP h) (hc : (tvI (tF h 44 5)).toInt < (tvI (tF h 44 2)).toInt) (hf : tIn h 46 kd (tvI (tF h 44 5))) (hf2 : tFd (tSA h 46 (tvI (tF h 44 5)).toNatClampNeg k) 44 5) : cFr h (tSF (tSA h 46 (tvI (tF h 44 5)).toNatClampNeg k) 44 5 (.int (tvI (tF h 44 5) + 1))) ∧ cs (tSF (tSA h 46 (tvI (tF h 44 5)).toNatClampNeg k) 44 5 (.int (tvI (tF h 44 5) + 1))) = rU k.toNatClampNeg (cs h) ∧ cP (tSF (tSA h 46 (tvI (tF h 44 5)).toNatClampNeg k) 44 5 (.int (tvI (tF h 44 5) + 1))) := by
  have hw := hw_44_5 (x := tvI (tF h 44 5) + 1) hf2 (tSh_SA hs)
  have e := cSet_of hf2 hw
  generalize tSF (tSA h 46 (tvI (tF h 44 5)).toNatClampNeg k) 44 5 (.int (tvI (tF h 44 5) + 1)) = h3 at e
  have hF : ∀ b, b ≠ 5 → tvI (tF h3 44 b) = tvI (tF h 44 b) := fun b hb => (cI_o e hb).trans (by rw [tF_tSA])
  have h5 : tvI (tF h3 44 5) = tvI (tF h 44 5) + 1 := cI_x e
  have hA : tA h3 = fun p q => if p = 46 ∧ q = (tvI (tF h 44 5)).toNatClampNeg then k else tA h p q := e.2.2.2.1.trans (tA_tSA hf.cell _ _)
  have hN : tN h3 = tN h := e.2.2.2.2.trans (tN_tSA _ _ _ _)
  have q2 : (tvI (tF h 44 5)).toInt < (tvI (tF h 44 2)).toInt := hc
  have p1 := p.1
  have p3 := p.2.2.1
  have i1 := zj1 p3.1 q2
  have i2 := zj1n p3.1 q2
  refine ⟨⟨e.1, fun a b z => (e.2.2.1 a b (fun w => z ⟨w.1, by omega⟩)).trans (by rw [tF_tSA]), fun a z => ?_, hN⟩, ?_, ?_⟩
  · rw [hA]
    funext q
    exact if_neg (fun w => z w.1)
  · unfold cs rU cCo
    rw [hF 2 (by decide), hF 8 (by decide), h5, i2, List.range_succ, List.map_append, hA]
    refine Prod.ext rfl (Prod.ext rfl ?_)
    show _ ++ [(if 46 = 46 ∧ (tvI (tF h 44 5)).toNatClampNeg = (tvI (tF h 44 5)).toNatClampNeg then k else _ : Int32).toNatClampNeg] = _
    rw [if_pos ⟨rfl, rfl⟩]
    refine congrArg (fun z => z ++ [k.toNatClampNeg]) ?_
    refine List.map_congr_left (fun i hi => ?_)
    have hi := List.mem_range.mp hi
    show (if 46 = 46 ∧ i = _ then k else tA h 46 i : Int32).toNatClampNeg = _
    rw [if_neg (fun z => by omega)]
  · refine ⟨?_, ?_, ?_, ?_, ?_, (e.2.2.1 44 9 (by decide)).trans (by rw [tF_tSA]; exact p.2.2.2.2.2)⟩
    · rw [hF 2 (by decide), hF 1 (by decide)]; exact p.1
    · rw [hF 8 (by decide)]; exact p.2.1
    · rw [hF 2 (by decide), h5, i1]; omega
    · intro i hi
      rw [hA]
      show _ ≤ (if 45 = 46 ∧ _ then k else tA h 45 i : Int32).toInt ∧ (if 45 = 46 ∧ _ then k else tA h 45 i : Int32).toInt ≤ _
      rw [if_neg (fun z => absurd z.1 (by decide))]
      exact p.2.2.2.1 i hi
    · rw [hN]; exact p.2.2.2.2.1
theorem f_signHere {G : zG} (hG : G.1 = zProg) (hX : G.2.1 = ztx) {h : zH} {T : Nat → Int32} {n : Nat} (hs : tSh h) (hp : cP h) (hT : tA h 45 = T) (hN : cn h = n)  : tC zTt G 90 [.ref 44] h (fun w h2 => cFr h h2 ∧ cP h2 ∧ cs h2 = rA (rB T n (cs h).1) (cs h) ∧ tvI (tF h2 44 3) = tvI (tF h 44 3) ∧ ∃ c, w = some (.int c) ∧ sgn T n (rB T n (cs h).1) c) := by
  refine tC_in (by rw [hG]; rfl) (fun dp => ?_)
  have g0 := cFr_r hs
  have hpn : (cs h).1 ≤ n := by rw [← hN]; exact cP_le hp
  refine tG_loop (zW_mono zTt G dp) (zW_conj zTt G dp) (V := fun pc L st h9 _ _ => pc = 0 ∧ st = [] ∧ ∃ h1, h1 = h9 ∧ cFr h h1 ∧ cP h1 ∧ (cs h1).2 = (cs h).2 ∧ rB T n (cs h1).1 = rB T n (cs h).1 ∧ tvI (tF h1 44 3) = tvI (tF h 44 3) ∧ L = [some (.ref 44)]) ?_ (⟨rfl, rfl, _, rfl, g0, hp, rfl, rfl, rfl, rfl⟩)
  rintro _ _ _ _ _ _ ⟨rfl, rfl, h1, rfl, g1, p1, e1, e2, e3, rfl⟩
  refine tw_aload rfl rfl ?_
  refine tw_getS rfl (hi_44_2 g1.1) ?_
  refine tw_aload rfl rfl ?_
  refine tw_getS rfl (hi_44_1 g1.1) ?_
  refine tw_ic_ge rfl (fun q235 => ?_) (fun q235 => ?_)
  · try dsimp only [tvI_i, tvJ_j, tvR_r] at q235
    refine tw_aload rfl rfl ?_
    refine tw_getS rfl (hi_44_2 g1.1) ?_
    refine tw_aload rfl rfl ?_
    refine tw_getS rfl (hi_44_1 g1.1) ?_
    refine tw_ic_ge rfl (fun q236 => ?_) (fun q236 => ?_)
    · try dsimp only [tvI_i, tvJ_j, tvR_r] at q236
      refine tw_push rfl ?_
      have hb := cGe p1 ((cFr_n g1).trans hN) q235
      obtain ⟨o1, o2⟩ := cSg_o (T := T) (n := n) e1 e2 (fun z => hb z.1)
      exact tw_iret rfl ⟨g1, p1, o1, e3, _, rfl, by rw [← o2]; exact sgn_n hb⟩
    · try dsimp only [tvI_i, tvJ_j, tvR_r] at q236
      exact absurd q236 (Int.not_lt.mpr q235)
  · try dsimp only [tvI_i, tvJ_j, tvR_r] at q235
    refine tw_aload rfl rfl ?_
    refine tw_getS rfl (hs_44_0 g1.1) ?_
    refine tw_aload rfl rfl ?_
    refine tw_getS rfl (hi_44_2 g1.1) ?_
    refine tw_bald rfl (fun f237 => ?_)
    refine tw_push rfl ?_
    refine tw_ic_ne rfl (fun q238 => ?_) (fun q238 => ?_)
    · try dsimp only [tvI_i, tvJ_j, tvR_r] at q238
      have q238i := zneq (Y := 32) (by decide) q238
      refine tw_aload rfl rfl ?_
      refine tw_getS rfl (hi_44_2 g1.1) ?_
      refine tw_aload rfl rfl ?_
      refine tw_getS rfl (hi_44_1 g1.1) ?_
      refine tw_ic_ge rfl (fun q239 => ?_) (fun q239 => ?_)
      · try dsimp only [tvI_i, tvJ_j, tvR_r] at q239
        exact absurd q235 (Int.not_lt.mpr q239)
      · try dsimp only [tvI_i, tvJ_j, tvR_r] at q239
        refine tw_aload rfl rfl ?_
        refine tw_getS rfl (hs_44_0 g1.1) ?_
        refine tw_aload rfl rfl ?_
        refine tw_getS rfl (hi_44_2 g1.1) ?_
        refine tw_bald rfl (fun f240 => ?_)
        refine tw_push rfl ?_
        refine tw_iand rfl ?_
        refine tw_goto rfl ?_
        have hl := cLt p1 ((cFr_n g1).trans hN) q235
        obtain ⟨o1, o2⟩ := cSg_o (T := T) (n := n) e1 e2 (fun z => q238 (by rw [← ((cFr_T g1).trans hT)] at z; exact z.2))
        refine tw_iret rfl ⟨g1, p1, o1, e3, _, rfl, ?_⟩
        rw [← o2, ← ((cFr_T g1).trans hT)]
        exact sgn_y hl (p1.2.2.2.1 _ (Nat.lt_of_lt_of_le hl (by rw [← ((cFr_n g1).trans hN)]; exact cP_400 p1)))
    · try dsimp only [tvI_i, tvJ_j, tvR_r] at q238
      have q238i := zeqi (Y := 32) (by decide) q238
      refine tw_aload rfl rfl ?_
      refine tw_dup rfl ?_
      refine tw_getS rfl (hi_44_2 g1.1) ?_
      refine tw_push rfl ?_
      refine tw_iadd rfl ?_
      refine tw_put rfl (fun f241 => ?_)
      refine tG_set f241 (hw_44_2 f241 (g1).1) (fun hf241 ef241 => ?_)
      try dsimp only [tvI_i] at ef241
      have gf241 := cFr_s g1 ef241 (by decide)
      have lf241 := cLt p1 ((cFr_n g1).trans hN) q235
      obtain ⟨pf241, sf241⟩ := cInc p1 lf241 ((cFr_n g1).trans hN) ef241
      refine tw_goto rfl ?_
      exact tG_cut (zW_mono zTt G dp) (Or.inr ⟨rfl, rfl, _, rfl, gf241, pf241, (congrArg Prod.snd sf241).trans e1, by rw [sf241]; exact (rB_y ⟨lf241, by rw [← ((cFr_T g1).trans hT)]; exact q238⟩).symm.trans e2, (cI_o ef241 (by decide)).trans e3, rfl⟩)
theorem f_refuse {G : zG} (hG : G.1 = zProg) (hX : G.2.1 = ztx) {h : zH} {T : Nat → Int32} {n : Nat} (hs : tSh h) (hp : cP h) (hT : tA h 45 = T) (hN : cn h = n) {a y : Int32} : tC zTt G 93 [.ref 44, .int a, .int y] h (fun w h2 => cFr h h2 ∧ w = some (.int 0) ∧ tF h2 44 9 = .int (1 + 8 * a + y)) := by
  refine tC_in (by rw [hG]; rfl) (fun dp => ?_)
  have g0 := cFr_r hs
  have hpn : (cs h).1 ≤ n := by rw [← hN]; exact cP_le hp
  refine tw_aload rfl rfl ?_
  refine tw_push rfl ?_
  refine tw_push rfl ?_
  refine tw_iload rfl rfl ?_
  refine tw_imul rfl ?_
  refine tw_iadd rfl ?_
  refine tw_iload rfl rfl ?_
  refine tw_iadd rfl ?_
  refine tw_put rfl (fun f242 => ?_)
  refine tG_set f242 (hw_44_9 f242 (g0).1) (fun hf242 ef242 => ?_)
  try dsimp only [tvI_i] at ef242
  have gf242 := cFr_s g0 ef242 (by decide)
  refine tw_push rfl ?_
  exact tw_iret rfl ⟨gf242, rfl, ef242.2.1⟩
theorem f_countOne {G : zG} (hG : G.1 = zProg) (hX : G.2.1 = ztx) {h : zH} {T : Nat → Int32} {n : Nat} (hs : tSh h) (hp : cP h) (hT : tA h 45 = T) (hN : cn h = n)  : tC zTt G 87 [.ref 44] h (fun w h2 => cFr h h2 ∧ ((w = some (.int 1) ∧ rC (cs h).1 (cs h) = some (.inr (cs h2)) ∧ cP h2 ∧ tvI (tF h2 44 3) = tvI (tF h 44 3)) ∨ (w = some (.int 0) ∧ ∃ e, rC (cs h).1 (cs h) = some (.inl e) ∧ cFt h2 e))) := by
  refine tC_in (by rw [hG]; rfl) (fun dp => ?_)
  have g0 := cFr_r hs
  have hpn : (cs h).1 ≤ n := by rw [← hN]; exact cP_le hp
  refine tw_aload rfl rfl ?_
  refine tw_getS rfl (hi_44_8 hs) ?_
  refine tw_push rfl ?_
  refine tw_ic_ne rfl (fun q243 => ?_) (fun q243 => ?_)
  · try dsimp only [tvI_i, tvJ_j, tvR_r] at q243
    have q243i := zneq (Y := 80) (by decide) q243
    refine tw_aload rfl rfl ?_
    refine tw_dup rfl ?_
    refine tw_getS rfl (hi_44_8 hs) ?_
    refine tw_push rfl ?_
    refine tw_iadd rfl ?_
    refine tw_put rfl (fun f244 => ?_)
    refine tG_set f244 (hw_44_8 f244 (g0).1) (fun hf244 ef244 => ?_)
    try dsimp only [tvI_i] at ef244
    have gf244 := cFr_s g0 ef244 (by decide)
    obtain ⟨pf244, sf244⟩ := cCnt hp q243 ef244
    refine tw_push rfl ?_
    exact tw_iret rfl ⟨gf244, Or.inl ⟨rfl, (if_neg (cn80 hp q243)).trans (congrArg (fun z => some (Sum.inr z)) sf244.symm), pf244, cI_o ef244 (by decide)⟩⟩
  · try dsimp only [tvI_i, tvJ_j, tvR_r] at q243
    have q243i := zeqi (Y := 80) (by decide) q243
    refine tw_aload rfl rfl ?_
    refine tw_aload rfl rfl ?_
    refine tw_getS rfl (hi_44_2 hs) ?_
    refine tw_push rfl ?_
    refine tw_virt2 rfl (f_refuse hG hX (g0).1 hp ((cFr_T g0).trans hT) ((cFr_n g0).trans hN)) (fun wp245 hp245 p245 => ?_)
    obtain ⟨gp245, rfl, up245⟩ := p245
    have ggp245 := cFr_t g0 gp245
    exact tw_iret rfl ⟨ggp245, Or.inr ⟨rfl, _, if_pos (c80 q243), cFt_of hp up245 rfl (by decide)⟩⟩
theorem f_takeSign {G : zG} (hG : G.1 = zProg) (hX : G.2.1 = ztx) {h : zH} {T : Nat → Int32} {n : Nat} (hs : tSh h) (hp : cP h) (hT : tA h 45 = T) (hN : cn h = n) {y : Int32} (hy : 0 ≤ y.toInt ∧ y.toInt ≤ 127) : tC zTt G 88 [.ref 44, .int y] h (cOut (rT T n y (cs h)) h) := by
  refine tC_in (by rw [hG]; rfl) (fun dp => ?_)
  have g0 := cFr_r hs
  have hpn : (cs h).1 ≤ n := by rw [← hN]; exact cP_le hp
  refine tw_aload rfl rfl ?_
  refine tw_virt0 rfl (f_signHere hG hX (g0).1 hp ((cFr_T g0).trans hT) ((cFr_n g0).trans hN)) (fun wp246 hp246 p246 => ?_)
  obtain ⟨gp246, ppp246, ssp246, t3p246, cp246, rfl, kp246⟩ := p246
  have ggp246 := cFr_t g0 gp246
  refine tw_iload rfl rfl ?_
  refine tw_ic_eq rfl (fun q247 => ?_) (fun q247 => ?_)
  · try dsimp only [tvI_i, tvJ_j, tvR_r] at q247
    have q247i := zeqi rfl q247
    refine tw_aload rfl rfl ?_
    refine tw_dup rfl ?_
    refine tw_getS rfl (hi_44_2 ggp246.1) ?_
    refine tw_push rfl ?_
    refine tw_iadd rfl ?_
    refine tw_put rfl (fun f248 => ?_)
    refine tG_set f248 (hw_44_2 f248 (ggp246).1) (fun hf248 ef248 => ?_)
    try dsimp only [tvI_i] at ef248
    have gf248 := cFr_s ggp246 ef248 (by decide)
    have wf248 := (sgn_k kp246 y hy).mp q247
    obtain ⟨pf248, sf248⟩ := cInc ppp246 (by rw [ssp246]; exact wf248.1) ((cFr_n ggp246).trans hN) ef248
    refine tw_push rfl ?_
    rw [ssp246] at sf248
    exact tw_iret rfl ⟨gf248, Or.inl ⟨rfl, (if_pos wf248).trans (congrArg (fun z => some (Sum.inr z)) sf248.symm), pf248⟩⟩
  · try dsimp only [tvI_i, tvJ_j, tvR_r] at q247
    have q247i := zneq rfl q247
    refine tw_aload rfl rfl ?_
    refine tw_aload rfl rfl ?_
    refine tw_getS rfl (hi_44_2 ggp246.1) ?_
    refine tw_push rfl ?_
    refine tw_virt2 rfl (f_refuse hG hX (ggp246).1 ppp246 ((cFr_T ggp246).trans hT) ((cFr_n ggp246).trans hN)) (fun wp249 hp249 p249 => ?_)
    obtain ⟨gp249, rfl, up249⟩ := p249
    have ggp249 := cFr_t ggp246 gp249
    have hf := cFt_of ppp246 up249 (w := 0) rfl (by decide)
    rw [ssp246] at hf
    exact tw_iret rfl ⟨ggp249, Or.inr ⟨rfl, _, if_neg (fun z => q247 ((sgn_k kp246 y hy).mpr z)), hf⟩⟩
theorem f_putCode {G : zG} (hG : G.1 = zProg) (hX : G.2.1 = ztx) {h : zH} {T : Nat → Int32} {n : Nat} (hs : tSh h) (hp : cP h) (hT : tA h 45 = T) (hN : cn h = n) {k : Int32} (hc : (tvI (tF h 44 5)).toInt < (tvI (tF h 44 2)).toInt) : tC zTt G 92 [.ref 44, .int k] h (fun w h2 => cFr h h2 ∧ w = none ∧ cs h2 = rU k.toNatClampNeg (cs h) ∧ cP h2) := by
  refine tC_in (by rw [hG]; rfl) (fun dp => ?_)
  have g0 := cFr_r hs
  have hpn : (cs h).1 ≤ n := by rw [← hN]; exact cP_le hp
  refine tw_aload rfl rfl ?_
  refine tw_getS rfl (hi_44_5 hs) ?_
  refine tw_aload rfl rfl ?_
  refine tw_getS rfl (hs_44_4 hs) ?_
  refine tw_alen rfl ?_
  refine tw_ic_ge rfl (fun q250 => ?_) (fun q250 => ?_)
  · try dsimp only [tvI_i, tvJ_j, tvR_r] at q250
    exact absurd (show (Int32.ofNat (tN h 46)).toInt ≤ (tvI (tF h 44 5)).toInt from q250) (by rw [hp.2.2.2.2.1]; show ¬ (400 : Int) ≤ _; have := hp.1; omega)
  · try dsimp only [tvI_i, tvJ_j, tvR_r] at q250
    refine tw_aload rfl rfl ?_
    refine tw_getS rfl (hs_44_4 hs) ?_
    refine tw_aload rfl rfl ?_
    refine tw_getS rfl (hi_44_5 hs) ?_
    refine tw_iload rfl rfl ?_
    refine tw_iast rfl (fun f251 => ?_)
    refine tw_aload rfl rfl ?_
    refine tw_dup rfl ?_
    refine tw_getS rfl (tF_a (hi_44_5 hs)) ?_
    refine tw_push rfl ?_
    refine tw_iadd rfl ?_
    refine tw_put rfl (fun f252 => ?_)
    have hk := cPut_of (k := k) hs hp hc f251 f252
    exact tw_vret rfl ⟨hk.1, rfl, hk.2.1, hk.2.2⟩
/-- the words' text, gone through from a place on -/
noncomputable def scn (T : Nat → Int32) (e b : Nat) : List Int32 → Nat → Nat → Bool → Option Nat
  | [], _, _, _ => none
  | c :: r, w, a, sm => if c = 32 then (if sm && Nat.beq a e then some w else scn T e b r (w + 1) b true) else scn T e b r w (a + 1) (sm && (Nat.blt a e && decide (T a = c)))
theorem scn_w {T : Nat → Int32} {e b k : Nat} {r : List Int32} : ∀ (w : List Int32) (a : Nat) (sm : Bool), w.all (fun c => !(decide (c = 32))) = true → scn T e b (w ++ 32 :: r) k a sm = if (sm && (Nat.beq (a + w.length) e && rQ T a w)) = true then some k else scn T e b r (k + 1) b true
  | [], a, sm, _ => by
    show (if (32 : Int32) = 32 then _ else _) = _
    rw [if_pos rfl]
    show (if (sm && Nat.beq a e) = true then _ else _) = (if (sm && (Nat.beq a e && true)) = true then _ else _)
    rw [Bool.and_true]
  | c :: w, a, sm, h => by
    rw [List.all_cons, Bool.and_eq_true] at h
    have hc : ¬ c = 32 := by
      intro z
      rw [z] at h
      exact absurd h.1 (by decide)
    show (if c = 32 then _ else scn T e b (w ++ 32 :: r) k (a + 1) (sm && (Nat.blt a e && decide (T a = c)))) = _
    rw [if_neg hc, scn_w w (a + 1) _ h.2]
    have e1 : a + 1 + w.length = a + (c :: w).length := by rw [List.length_cons]; omega
    rw [e1]
    have e2 : (sm && (Nat.blt a e && decide (T a = c)) && (Nat.beq (a + (c :: w).length) e && rQ T (a + 1) w)) = (sm && (Nat.beq (a + (c :: w).length) e && rQ T a (c :: w))) := by
      have e3 : rQ T a (c :: w) = (decide (T a = c) && rQ T (a + 1) w) := rfl
      rw [e3]
      cases hq : Nat.beq (a + (c :: w).length) e with
      | false => simp
      | true =>
        have h2 := Nat.eq_of_beq_eq_true hq
        rw [List.length_cons] at h2
        have h3 : Nat.blt a e = true := Nat.ble_eq.mpr (by omega)
        rw [h3]
        cases sm <;> cases decide (T a = c) <;> rfl
    rw [e2]
noncomputable def wdl : Nat → Nat → List Int32
  | 0, _ => []
  | m + 1, k => rWd k ++ 32 :: wdl m (k + 1)
theorem wdl_1 : ztx 1 = wdl 20 0 := by decide +kernel
theorem wdl_32 : (List.range 20).all (fun k => (rWd k).all (fun c => !(decide (c = 32)))) = true := by decide +kernel
theorem scn_l {T : Nat → Int32} {n b : Nat} : ∀ (m k : Nat), k + m ≤ 20 → (scn T (rE T n b) b (wdl m k) k b true = none ∧ ∀ j, k ≤ j → j < k + m → ¬ rW T n b (rWd j) = true) ∨ ∃ j, k ≤ j ∧ j < k + m ∧ scn T (rE T n b) b (wdl m k) k b true = some j ∧ rW T n b (rWd j) = true
  | 0, k, _ => Or.inl ⟨rfl, fun j h1 h2 => by omega⟩
  | m + 1, k, hk => by
    have h32 := List.all_eq_true.mp wdl_32 k (List.mem_range.mpr (by omega))
    have e : scn T (rE T n b) b (wdl (m + 1) k) k b true = _ := scn_w (rWd k) b true h32
    have e2 : (true && (Nat.beq (b + (rWd k).length) (rE T n b) && rQ T b (rWd k))) = rW T n b (rWd k) := by
      unfold rW
      rw [Bool.true_and]
      refine congrArg (fun z => z && _) ?_
      rw [Bool.eq_iff_iff]
      exact ⟨fun z => by rw [Nat.eq_of_beq_eq_true z]; exact Nat.beq_refl _, fun z => by rw [Nat.eq_of_beq_eq_true z]; exact Nat.beq_refl _⟩
    rw [e2] at e
    rw [e]
    by_cases c : rW T n b (rWd k) = true
    · rw [if_pos c]
      exact Or.inr ⟨k, Nat.le_refl _, by omega, rfl, c⟩
    · rw [if_neg c]
      rcases scn_l m (k + 1) (by omega) with ⟨a1, a2⟩ | ⟨j, a1, a2, a3, a4⟩
      · refine Or.inl ⟨a1, fun j h1 h2 => ?_⟩
        by_cases z : j = k
        · rw [z]; exact c
        · exact a2 j (by omega) (by omega)
      · exact Or.inr ⟨j, by omega, by omega, a3, a4⟩
noncomputable def wrd (T : Nat → Int32) (n b : Nat) (i : Int32) : Prop := (-1 ≤ i.toInt ∧ i.toInt < 20) ∧ ∀ k : Nat, k < 20 → (i.toInt = k ↔ rW T n b (rWd k) = true)
theorem wrd_n {T : Nat → Int32} {n b : Nat} (h : scn T (rE T n b) b (ztx 1) 0 b true = none) : wrd T n b (-1) := by
  rw [wdl_1] at h
  refine ⟨by decide, fun k hk => ⟨fun z => ?_, fun z => ?_⟩⟩
  · exfalso
    have : ((-1 : Int32)).toInt = -1 := by decide
    omega
  · rcases scn_l (T := T) (n := n) (b := b) 20 0 (by omega) with ⟨-, a2⟩ | ⟨j, -, -, a3, -⟩
    · exact absurd z (a2 k (by omega) (by omega))
    · rw [h] at a3; cases a3
theorem wrd_s {T : Nat → Int32} {n b : Nat} {i : Int32} {w : Nat} (h : scn T (rE T n b) b (ztx 1) 0 b true = some w) (hi : i.toInt = w) : wrd T n b i := by
  rw [wdl_1] at h
  rcases scn_l (T := T) (n := n) (b := b) 20 0 (by omega) with ⟨a1, -⟩ | ⟨j, -, a2, a3, a4⟩
  · rw [h] at a1; cases a1
  · rw [h] at a3
    cases a3
    refine ⟨by omega, fun k hk => ⟨fun z => ?_, fun z => ?_⟩⟩
    · have : w = k := by omega
      rw [← this]; exact a4
    · have := rW_ij (by omega) hk a4 z
      omega
theorem wlen : (ztx 1).length = 98 ∨ (ztx 1).length ≤ 200 := Or.inr (by decide +kernel)
theorem scn_d {T : Nat → Int32} {e b w a : Nat} {sm : Bool} {l : List Int32} {i : Nat} {R : Option Nat} (h : scn T e b (l.drop i) w a sm = R) (hi : i < l.length) : (if l.getD i 0 = 32 then (if sm && Nat.beq a e then some w else scn T e b (l.drop (i + 1)) (w + 1) b true) else scn T e b (l.drop (i + 1)) w (a + 1) (sm && (Nat.blt a e && decide (T a = l.getD i 0)))) = R := by
  rw [List.drop_eq_getElem_cons hi] at h
  rw [List.getD_eq_getElem?_getD, List.getElem?_eq_getElem hi]
  exact h
theorem scn_e {T : Nat → Int32} {e b w a : Nat} {sm : Bool} {l : List Int32} {i : Nat} {R : Option Nat} (h : scn T e b (l.drop i) w a sm = R) (hi : l.length ≤ i) : R = none := by
  rw [List.drop_eq_nil_of_le hi] at h
  exact h.symm
theorem cPl {h : zH} (p : cP h) : (tvI (tF h 44 2)).toInt = ((cs h).1 : Int) := by
  show _ = ((tvI (tF h 44 2)).toNatClampNeg : Int)
  rw [zclE]
  have := p.1
  omega
theorem cNl {h : zH} {n : Nat} (p : cP h) (hn : cn h = n) : (tvI (tF h 44 1)).toInt = (n : Int) := by
  rw [← hn]
  show _ = ((tvI (tF h 44 1)).toNatClampNeg : Int)
  rw [zclE]
  have := p.1
  omega
theorem wr_e {T : Nat → Int32} {n b k : Nat} (he : rE T n (b + k) = rE T n b) (h : ¬ (b + k < n ∧ 97 ≤ (T (b + k)).toInt ∧ (T (b + k)).toInt ≤ 122)) : rE T n b = b + k := he.symm.trans (rE_n h)
theorem f_wordHere {G : zG} (hG : G.1 = zProg) (hX : G.2.1 = ztx) {h : zH} {T : Nat → Int32} {n : Nat} (hs : tSh h) (hp : cP h) (hT : tA h 45 = T) (hN : cn h = n)  : tC zTt G 91 [.ref 44] h (fun w h2 => cFr h h2 ∧ cP h2 ∧ cs h2 = rA (rB T n (cs h).1) (cs h) ∧ (tvI (tF h2 44 3)).toInt = ((rE T n (rB T n (cs h).1) : Nat) : Int) ∧ ∃ i, w = some (.int i) ∧ wrd T n (rB T n (cs h).1) i) := by
  refine tC_in (by rw [hG]; rfl) (fun dp => ?_)
  have g0 := cFr_r hs
  have hpn : (cs h).1 ≤ n := by rw [← hN]; exact cP_le hp
  have c979 : (97 : Int32).toInt = 97 := rfl
  have c1229 : (122 : Int32).toInt = 122 := rfl
  refine tw_aload rfl rfl ?_
  refine tw_virt0 rfl (f_signHere hG hX (g0).1 hp ((cFr_T g0).trans hT) ((cFr_n g0).trans hN)) (fun wp253 hp253 p253 => ?_)
  obtain ⟨gp253, ppp253, ssp253, t3p253, cp253, rfl, kp253⟩ := p253
  have ggp253 := cFr_t g0 gp253
  refine tw_pop rfl ?_
  refine tw_aload rfl rfl ?_
  refine tw_aload rfl rfl ?_
  refine tw_getS rfl (hi_44_2 ggp253.1) ?_
  refine tw_put rfl (fun f254 => ?_)
  refine tG_set f254 (hw_44_3 f254 (ggp253).1) (fun hf254 ef254 => ?_)
  try dsimp only [tvI_i] at ef254
  have gf254 := cFr_s ggp253 ef254 (by decide)
  have sf254 := cs_o ef254 (by decide) (by decide) (by decide)
  have pf254 := cP_o ppp253 ef254 (by decide)
  have wf254 := cI_x ef254
  have vf254 := cI_o (q := 1) ef254 (by decide)
  have yf254 := cI_o (q := 2) ef254 (by decide)
  refine tG_loop (zW_mono zTt G dp) (zW_conj zTt G dp) (V := fun pc L st h9 _ _ => pc = 13 ∧ st = [] ∧ ∃ (h1 : zH) (k : Nat) (a b c d e : Option Value), h1 = h9 ∧ cFr h h1 ∧ cP h1 ∧ cs h1 = rA (rB T n (cs h).1) (cs h) ∧ (tvI (tF h1 44 3)).toInt = (((rB T n (cs h).1) + k : Nat) : Int) ∧ (rB T n (cs h).1) + k ≤ n ∧ rE T n ((rB T n (cs h).1) + k) = rE T n (rB T n (cs h).1) ∧ L = [some (.ref 44), a, b, c, d, e]) ?_ (⟨rfl, rfl, _, 0, _, _, _, _, _, rfl, gf254, pf254, sf254.trans ssp253, by rw [wf254, cPl ppp253, ssp253]; rfl, (by have := cP_le ppp253; rw [((cFr_n ggp253).trans hN), ssp253] at this; exact this), rfl, rfl⟩)
  rintro _ _ _ _ _ _ ⟨rfl, rfl, h1, k, a, b, c, d, e, rfl, g1, p1, hσ, hk, hkn, he, rfl⟩
  refine tw_aload rfl rfl ?_
  refine tw_getS rfl (hi_44_3 g1.1) ?_
  refine tw_aload rfl rfl ?_
  refine tw_getS rfl (hi_44_1 g1.1) ?_
  refine tw_ic_ge rfl (fun q255 => ?_) (fun q255 => ?_)
  · try dsimp only [tvI_i, tvJ_j, tvR_r] at q255
    refine tw_push rfl ?_
    refine tw_istore rfl ?_
    refine tw_aload rfl rfl ?_
    refine tw_getS rfl (hi_44_2 g1.1) ?_
    refine tw_istore rfl ?_
    refine tw_push rfl ?_
    refine tw_istore rfl ?_
    refine tw_push rfl ?_
    refine tw_istore rfl ?_
    have hend : (tvI (tF h1 44 3)).toInt = ((rE T n (rB T n (cs h).1) : Nat) : Int) := by
      rw [wr_e he (fun z => ?_), hk]
      have hix : (tvI (tF h1 44 3)).toNatClampNeg = (rB T n (cs h).1) + k := zof_cl hk
      have hTx := ((cFr_T g1).trans hT)
      have e9 : tA h1 45 (tvI (tF h1 44 3)).toNatClampNeg = T ((rB T n (cs h).1) + k) := by rw [hix, hTx]
      have e8 := cNl p1 ((cFr_n g1).trans hN)
      have z0 := q255
      try rw [e9] at z1
      try rw [e9] at z2
      omega
    refine tG_loop (zW_mono zTt G dp) (zW_conj zTt G dp) (V := fun pc L st h9 _ _ => pc = 77 ∧ st = [] ∧ h1 = h9 ∧ ∃ (i w2 a2 : Nat) (sm : Bool) (x word at9 same : Int32) (l5 : Option Value), x.toInt = i ∧ i ≤ (ztx 1).length ∧ word.toInt = w2 ∧ w2 ≤ i ∧ at9.toInt = a2 ∧ a2 ≤ 400 + i ∧ same = (if sm = true then 1 else 0) ∧ scn T (rE T n (rB T n (cs h).1)) (rB T n (cs h).1) ((ztx 1).drop i) w2 a2 sm = scn T (rE T n (rB T n (cs h).1)) (rB T n (cs h).1) (ztx 1) 0 (rB T n (cs h).1) true ∧ L = [some (.ref 44), some (.int word), some (.int at9), some (.int same), some (.int x), l5]) ?_ (⟨rfl, rfl, rfl, 0, 0, (rB T n (cs h).1), true, _, _, _, _, _, rfl, Nat.zero_le _, rfl, Nat.le_refl _, (show (tvI (tF h1 44 2)).toInt = (((rB T n (cs h).1) : Nat) : Int) from (cPl p1).trans (by rw [hσ]; rfl)), (by have := cP_400 p1; rw [((cFr_n g1).trans hN)] at this; omega), rfl, rfl, rfl⟩)
    rintro _ _ _ _ _ _ ⟨rfl, rfl, rfl, i, w2, a2, sm, x, word, at9, same, l5, hx, hi, hw, hwi, hat, ha4, hsame, hsc, rfl⟩
    refine tw_iload rfl rfl ?_
    refine tw_push rfl ?_
    refine tw_tlen rfl ?_
    refine tw_ic_ge rfl (fun q256 => ?_) (fun q256 => ?_)
    · try dsimp only [tvI_i, tvJ_j, tvR_r] at q256
      refine tw_push rfl ?_
      have hil : (ztx 1).length ≤ i := by have z := q256; rw [hX] at z; have e9 : (Int32.ofNat (ztx 1).length).toInt = ((ztx 1).length : Int) := zofI (by rcases wlen with y | y <;> omega); omega
      exact tw_iret rfl ⟨g1, p1, hσ, hend, _, rfl, wrd_n (scn_e hsc hil)⟩
    · try dsimp only [tvI_i, tvJ_j, tvR_r] at q256
      refine tw_push rfl ?_
      refine tw_iload rfl rfl ?_
      refine tw_chr rfl (fun _ => ?_)
      refine tw_istore rfl ?_
      refine tw_iload rfl rfl ?_
      refine tw_push rfl ?_
      refine tw_ic_eq rfl (fun q257 => ?_) (fun q257 => ?_)
      · try dsimp only [tvI_i, tvJ_j, tvR_r] at q257
        have q257i := zeqi (Y := 32) (by decide) q257
        refine tw_iload rfl rfl ?_
        refine tw_if_eq rfl (fun q258 => ?_) (fun q258 => ?_)
        · try dsimp only [tvI_i, tvJ_j, tvR_r] at q258
          have q258i := zeqi (Y := 0) (by decide) q258
          refine tw_iinc rfl rfl ?_
          refine tw_aload rfl rfl ?_
          refine tw_getS rfl (hi_44_2 g1.1) ?_
          refine tw_istore rfl ?_
          refine tw_push rfl ?_
          refine tw_istore rfl ?_
          refine tw_iinc rfl rfl ?_
          refine tw_goto rfl ?_
          have hil : i < (ztx 1).length := by have z := q256; rw [hX] at z; have e9 : (Int32.ofNat (ztx 1).length).toInt = ((ztx 1).length : Int) := zofI (by rcases wlen with y | y <;> omega); omega
          have hd := scn_d hsc hil
          have ec : ((G.2.1 1).getD x.toNatClampNeg 0) = (ztx 1).getD i 0 := by rw [hX, zof_cl hx]
          have e32 : (ztx 1).getD i 0 = 32 := ec ▸ q257
          rw [if_pos e32] at hd
          have hsm : sm = false := by cases sm with | false => rfl | true => exact absurd (hsame.symm.trans q258) (by decide)
          subst hsm
          rw [if_neg (show ¬ (false && Nat.beq a2 (rE T n (rB T n (cs h).1))) = true from Bool.false_ne_true)] at hd
          exact tG_cut (zW_mono zTt G dp) (Or.inr ⟨rfl, rfl, rfl, i + 1, w2 + 1, (rB T n (cs h).1), true, _, _, _, _, _, zincN hx (by rcases wlen with y | y <;> omega), by omega, zincN hw (by rcases wlen with y | y <;> omega), by omega, (show (tvI (tF h1 44 2)).toInt = (((rB T n (cs h).1) : Nat) : Int) from (cPl p1).trans (by rw [hσ]; rfl)), (by have := cP_400 p1; rw [((cFr_n g1).trans hN)] at this; omega), rfl, hd, rfl⟩)
        · try dsimp only [tvI_i, tvJ_j, tvR_r] at q258
          have q258i := zneq (Y := 0) (by decide) q258
          refine tw_iload rfl rfl ?_
          refine tw_aload rfl rfl ?_
          refine tw_getS rfl (hi_44_3 g1.1) ?_
          refine tw_ic_ne rfl (fun q259 => ?_) (fun q259 => ?_)
          · try dsimp only [tvI_i, tvJ_j, tvR_r] at q259
            have q259i := zneq rfl q259
            refine tw_iinc rfl rfl ?_
            refine tw_aload rfl rfl ?_
            refine tw_getS rfl (hi_44_2 g1.1) ?_
            refine tw_istore rfl ?_
            refine tw_push rfl ?_
            refine tw_istore rfl ?_
            refine tw_iinc rfl rfl ?_
            refine tw_goto rfl ?_
            have hil : i < (ztx 1).length := by have z := q256; rw [hX] at z; have e9 : (Int32.ofNat (ztx 1).length).toInt = ((ztx 1).length : Int) := zofI (by rcases wlen with y | y <;> omega); omega
            have hd := scn_d hsc hil
            have ec : ((G.2.1 1).getD x.toNatClampNeg 0) = (ztx 1).getD i 0 := by rw [hX, zof_cl hx]
            have e32 : (ztx 1).getD i 0 = 32 := ec ▸ q257
            rw [if_pos e32] at hd
            have hne : ¬ a2 = rE T n (rB T n (cs h).1) := fun z => q259 (Int32.toInt_inj.mp (by rw [hat, hend]; exact congrArg _ z))
            rw [if_neg (fun z => by rw [Bool.and_eq_true] at z; exact hne (Nat.eq_of_beq_eq_true z.2))] at hd
            exact tG_cut (zW_mono zTt G dp) (Or.inr ⟨rfl, rfl, rfl, i + 1, w2 + 1, (rB T n (cs h).1), true, _, _, _, _, _, zincN hx (by rcases wlen with y | y <;> omega), by omega, zincN hw (by rcases wlen with y | y <;> omega), by omega, (show (tvI (tF h1 44 2)).toInt = (((rB T n (cs h).1) : Nat) : Int) from (cPl p1).trans (by rw [hσ]; rfl)), (by have := cP_400 p1; rw [((cFr_n g1).trans hN)] at this; omega), rfl, hd, rfl⟩)
          · try dsimp only [tvI_i, tvJ_j, tvR_r] at q259
            have q259i := zeqi rfl q259
            refine tw_iload rfl rfl ?_
            have hil : i < (ztx 1).length := by have z := q256; rw [hX] at z; have e9 : (Int32.ofNat (ztx 1).length).toInt = ((ztx 1).length : Int) := zofI (by rcases wlen with y | y <;> omega); omega
            have hd := scn_d hsc hil
            have ec : ((G.2.1 1).getD x.toNatClampNeg 0) = (ztx 1).getD i 0 := by rw [hX, zof_cl hx]
            have e32 : (ztx 1).getD i 0 = 32 := ec ▸ q257
            rw [if_pos e32] at hd
            have hsm : sm = true := by cases sm with | true => rfl | false => exact absurd hsame q258
            subst hsm
            have hae : a2 = rE T n (rB T n (cs h).1) := by have z : at9.toInt = (tvI (tF h1 44 3)).toInt := congrArg Int32.toInt q259; omega
            rw [hae, if_pos (by rw [Bool.and_eq_true]; exact ⟨rfl, Nat.beq_refl _⟩)] at hd
            exact tw_iret rfl ⟨g1, p1, hσ, hend, _, rfl, wrd_s hd.symm hw⟩
      · try dsimp only [tvI_i, tvJ_j, tvR_r] at q257
        have q257i := zneq (Y := 32) (by decide) q257
        refine tw_iload rfl rfl ?_
        refine tw_if_eq rfl (fun q260 => ?_) (fun q260 => ?_)
        · try dsimp only [tvI_i, tvJ_j, tvR_r] at q260
          have q260i := zeqi (Y := 0) (by decide) q260
          refine tw_push rfl ?_
          refine tw_istore rfl ?_
          refine tw_iinc rfl rfl ?_
          refine tw_goto rfl ?_
          refine tw_iinc rfl rfl ?_
          refine tw_goto rfl ?_
          have hil : i < (ztx 1).length := by have z := q256; rw [hX] at z; have e9 : (Int32.ofNat (ztx 1).length).toInt = ((ztx 1).length : Int) := zofI (by rcases wlen with y | y <;> omega); omega
          have hd := scn_d hsc hil
          have ec : ((G.2.1 1).getD x.toNatClampNeg 0) = (ztx 1).getD i 0 := by rw [hX, zof_cl hx]
          have e32 : ¬ (ztx 1).getD i 0 = 32 := fun z => q257 (ec.trans z)
          rw [if_neg e32] at hd
          have hsm : sm = false := by cases sm with | false => rfl | true => exact absurd (hsame.symm.trans q260) (by decide)
          subst hsm
          exact tG_cut (zW_mono zTt G dp) (Or.inr ⟨rfl, rfl, rfl, i + 1, w2, a2 + 1, false, _, _, _, _, _, zincN hx (by rcases wlen with y | y <;> omega), by omega, hw, by omega, zincN hat (by rcases wlen with y | y <;> omega), by omega, rfl, hd, rfl⟩)
        · try dsimp only [tvI_i, tvJ_j, tvR_r] at q260
          have q260i := zneq (Y := 0) (by decide) q260
          refine tw_iload rfl rfl ?_
          refine tw_aload rfl rfl ?_
          refine tw_getS rfl (hi_44_3 g1.1) ?_
          refine tw_ic_ge rfl (fun q261 => ?_) (fun q261 => ?_)
          · try dsimp only [tvI_i, tvJ_j, tvR_r] at q261
            refine tw_push rfl ?_
            refine tw_istore rfl ?_
            refine tw_iinc rfl rfl ?_
            refine tw_goto rfl ?_
            refine tw_iinc rfl rfl ?_
            refine tw_goto rfl ?_
            have hil : i < (ztx 1).length := by have z := q256; rw [hX] at z; have e9 : (Int32.ofNat (ztx 1).length).toInt = ((ztx 1).length : Int) := zofI (by rcases wlen with y | y <;> omega); omega
            have hd := scn_d hsc hil
            have ec : ((G.2.1 1).getD x.toNatClampNeg 0) = (ztx 1).getD i 0 := by rw [hX, zof_cl hx]
            have e32 : ¬ (ztx 1).getD i 0 = 32 := fun z => q257 (ec.trans z)
            rw [if_neg e32] at hd
            have hsm : sm = true := by cases sm with | true => rfl | false => exact absurd hsame q260
            subst hsm
            have hb : Nat.blt a2 (rE T n (rB T n (cs h).1)) = false := by cases z : Nat.blt a2 (rE T n (rB T n (cs h).1)) with | false => rfl | true => have y : a2 < rE T n (rB T n (cs h).1) := Nat.le_of_ble_eq_true z; omega
            rw [hb] at hd
            exact tG_cut (zW_mono zTt G dp) (Or.inr ⟨rfl, rfl, rfl, i + 1, w2, a2 + 1, false, _, _, _, _, _, zincN hx (by rcases wlen with y | y <;> omega), by omega, hw, by omega, zincN hat (by rcases wlen with y | y <;> omega), by omega, rfl, hd, rfl⟩)
          · try dsimp only [tvI_i, tvJ_j, tvR_r] at q261
            refine tw_aload rfl rfl ?_
            refine tw_getS rfl (hs_44_0 g1.1) ?_
            refine tw_iload rfl rfl ?_
            refine tw_bald rfl (fun f262 => ?_)
            refine tw_iload rfl rfl ?_
            refine tw_ic_ne rfl (fun q263 => ?_) (fun q263 => ?_)
            · try dsimp only [tvI_i, tvJ_j, tvR_r] at q263
              have q263i := zneq rfl q263
              refine tw_push rfl ?_
              refine tw_istore rfl ?_
              refine tw_iinc rfl rfl ?_
              refine tw_goto rfl ?_
              refine tw_iinc rfl rfl ?_
              refine tw_goto rfl ?_
              have hil : i < (ztx 1).length := by have z := q256; rw [hX] at z; have e9 : (Int32.ofNat (ztx 1).length).toInt = ((ztx 1).length : Int) := zofI (by rcases wlen with y | y <;> omega); omega
              have hd := scn_d hsc hil
              have ec : ((G.2.1 1).getD x.toNatClampNeg 0) = (ztx 1).getD i 0 := by rw [hX, zof_cl hx]
              have e32 : ¬ (ztx 1).getD i 0 = 32 := fun z => q257 (ec.trans z)
              rw [if_neg e32] at hd
              have hsm : sm = true := by cases sm with | true => rfl | false => exact absurd hsame q260
              subst hsm
              have hb : Nat.blt a2 (rE T n (rB T n (cs h).1)) = true := Nat.ble_eq.mpr (by omega)
              rw [hb] at hd
              have et : tA h1 45 at9.toNatClampNeg = T a2 := by rw [zof_cl hat, ((cFr_T g1).trans hT)]
              rw [decide_eq_false (show ¬ T a2 = (ztx 1).getD i 0 from fun z => q263 (et.trans (z.trans ec.symm)))] at hd
              exact tG_cut (zW_mono zTt G dp) (Or.inr ⟨rfl, rfl, rfl, i + 1, w2, a2 + 1, false, _, _, _, _, _, zincN hx (by rcases wlen with y | y <;> omega), by omega, hw, by omega, zincN hat (by rcases wlen with y | y <;> omega), by omega, rfl, hd, rfl⟩)
            · try dsimp only [tvI_i, tvJ_j, tvR_r] at q263
              have q263i := zeqi rfl q263
              refine tw_push rfl ?_
              refine tw_goto rfl ?_
              refine tw_istore rfl ?_
              refine tw_iinc rfl rfl ?_
              refine tw_goto rfl ?_
              refine tw_iinc rfl rfl ?_
              refine tw_goto rfl ?_
              have hil : i < (ztx 1).length := by have z := q256; rw [hX] at z; have e9 : (Int32.ofNat (ztx 1).length).toInt = ((ztx 1).length : Int) := zofI (by rcases wlen with y | y <;> omega); omega
              have hd := scn_d hsc hil
              have ec : ((G.2.1 1).getD x.toNatClampNeg 0) = (ztx 1).getD i 0 := by rw [hX, zof_cl hx]
              have e32 : ¬ (ztx 1).getD i 0 = 32 := fun z => q257 (ec.trans z)
              rw [if_neg e32] at hd
              have hsm : sm = true := by cases sm with | true => rfl | false => exact absurd hsame q260
              subst hsm
              have hb : Nat.blt a2 (rE T n (rB T n (cs h).1)) = true := Nat.ble_eq.mpr (by omega)
              rw [hb] at hd
              have et : tA h1 45 at9.toNatClampNeg = T a2 := by rw [zof_cl hat, ((cFr_T g1).trans hT)]
              rw [decide_eq_true (show T a2 = (ztx 1).getD i 0 from et.symm.trans (q263.trans ec))] at hd
              exact tG_cut (zW_mono zTt G dp) (Or.inr ⟨rfl, rfl, rfl, i + 1, w2, a2 + 1, true, _, _, _, _, _, zincN hx (by rcases wlen with y | y <;> omega), by omega, hw, by omega, zincN hat (by rcases wlen with y | y <;> omega), by omega, rfl, hd, rfl⟩)
  · try dsimp only [tvI_i, tvJ_j, tvR_r] at q255
    refine tw_aload rfl rfl ?_
    refine tw_getS rfl (hs_44_0 g1.1) ?_
    refine tw_aload rfl rfl ?_
    refine tw_getS rfl (hi_44_3 g1.1) ?_
    refine tw_bald rfl (fun f264 => ?_)
    refine tw_push rfl ?_
    refine tw_ic_lt rfl (fun q265 => ?_) (fun q265 => ?_)
    · try dsimp only [tvI_i, tvJ_j, tvR_r] at q265
      refine tw_push rfl ?_
      refine tw_istore rfl ?_
      refine tw_aload rfl rfl ?_
      refine tw_getS rfl (hi_44_2 g1.1) ?_
      refine tw_istore rfl ?_
      refine tw_push rfl ?_
      refine tw_istore rfl ?_
      refine tw_push rfl ?_
      refine tw_istore rfl ?_
      have hend : (tvI (tF h1 44 3)).toInt = ((rE T n (rB T n (cs h).1) : Nat) : Int) := by
        rw [wr_e he (fun z => ?_), hk]
        have hix : (tvI (tF h1 44 3)).toNatClampNeg = (rB T n (cs h).1) + k := zof_cl hk
        have hTx := ((cFr_T g1).trans hT)
        have e9 : tA h1 45 (tvI (tF h1 44 3)).toNatClampNeg = T ((rB T n (cs h).1) + k) := by rw [hix, hTx]
        have e8 := cNl p1 ((cFr_n g1).trans hN)
        have z0 := q255
        have z1 := q265
        try rw [e9] at z1
        try rw [e9] at z2
        omega
      refine tG_loop (zW_mono zTt G dp) (zW_conj zTt G dp) (V := fun pc L st h9 _ _ => pc = 77 ∧ st = [] ∧ h1 = h9 ∧ ∃ (i w2 a2 : Nat) (sm : Bool) (x word at9 same : Int32) (l5 : Option Value), x.toInt = i ∧ i ≤ (ztx 1).length ∧ word.toInt = w2 ∧ w2 ≤ i ∧ at9.toInt = a2 ∧ a2 ≤ 400 + i ∧ same = (if sm = true then 1 else 0) ∧ scn T (rE T n (rB T n (cs h).1)) (rB T n (cs h).1) ((ztx 1).drop i) w2 a2 sm = scn T (rE T n (rB T n (cs h).1)) (rB T n (cs h).1) (ztx 1) 0 (rB T n (cs h).1) true ∧ L = [some (.ref 44), some (.int word), some (.int at9), some (.int same), some (.int x), l5]) ?_ (⟨rfl, rfl, rfl, 0, 0, (rB T n (cs h).1), true, _, _, _, _, _, rfl, Nat.zero_le _, rfl, Nat.le_refl _, (show (tvI (tF h1 44 2)).toInt = (((rB T n (cs h).1) : Nat) : Int) from (cPl p1).trans (by rw [hσ]; rfl)), (by have := cP_400 p1; rw [((cFr_n g1).trans hN)] at this; omega), rfl, rfl, rfl⟩)
      rintro _ _ _ _ _ _ ⟨rfl, rfl, rfl, i, w2, a2, sm, x, word, at9, same, l5, hx, hi, hw, hwi, hat, ha4, hsame, hsc, rfl⟩
      refine tw_iload rfl rfl ?_
      refine tw_push rfl ?_
      refine tw_tlen rfl ?_
      refine tw_ic_ge rfl (fun q266 => ?_) (fun q266 => ?_)
      · try dsimp only [tvI_i, tvJ_j, tvR_r] at q266
        refine tw_push rfl ?_
        have hil : (ztx 1).length ≤ i := by have z := q266; rw [hX] at z; have e9 : (Int32.ofNat (ztx 1).length).toInt = ((ztx 1).length : Int) := zofI (by rcases wlen with y | y <;> omega); omega
        exact tw_iret rfl ⟨g1, p1, hσ, hend, _, rfl, wrd_n (scn_e hsc hil)⟩
      · try dsimp only [tvI_i, tvJ_j, tvR_r] at q266
        refine tw_push rfl ?_
        refine tw_iload rfl rfl ?_
        refine tw_chr rfl (fun _ => ?_)
        refine tw_istore rfl ?_
        refine tw_iload rfl rfl ?_
        refine tw_push rfl ?_
        refine tw_ic_eq rfl (fun q267 => ?_) (fun q267 => ?_)
        · try dsimp only [tvI_i, tvJ_j, tvR_r] at q267
          have q267i := zeqi (Y := 32) (by decide) q267
          refine tw_iload rfl rfl ?_
          refine tw_if_eq rfl (fun q268 => ?_) (fun q268 => ?_)
          · try dsimp only [tvI_i, tvJ_j, tvR_r] at q268
            have q268i := zeqi (Y := 0) (by decide) q268
            refine tw_iinc rfl rfl ?_
            refine tw_aload rfl rfl ?_
            refine tw_getS rfl (hi_44_2 g1.1) ?_
            refine tw_istore rfl ?_
            refine tw_push rfl ?_
            refine tw_istore rfl ?_
            refine tw_iinc rfl rfl ?_
            refine tw_goto rfl ?_
            have hil : i < (ztx 1).length := by have z := q266; rw [hX] at z; have e9 : (Int32.ofNat (ztx 1).length).toInt = ((ztx 1).length : Int) := zofI (by rcases wlen with y | y <;> omega); omega
            have hd := scn_d hsc hil
            have ec : ((G.2.1 1).getD x.toNatClampNeg 0) = (ztx 1).getD i 0 := by rw [hX, zof_cl hx]
            have e32 : (ztx 1).getD i 0 = 32 := ec ▸ q267
            rw [if_pos e32] at hd
            have hsm : sm = false := by cases sm with | false => rfl | true => exact absurd (hsame.symm.trans q268) (by decide)
            subst hsm
            rw [if_neg (show ¬ (false && Nat.beq a2 (rE T n (rB T n (cs h).1))) = true from Bool.false_ne_true)] at hd
            exact tG_cut (zW_mono zTt G dp) (Or.inr ⟨rfl, rfl, rfl, i + 1, w2 + 1, (rB T n (cs h).1), true, _, _, _, _, _, zincN hx (by rcases wlen with y | y <;> omega), by omega, zincN hw (by rcases wlen with y | y <;> omega), by omega, (show (tvI (tF h1 44 2)).toInt = (((rB T n (cs h).1) : Nat) : Int) from (cPl p1).trans (by rw [hσ]; rfl)), (by have := cP_400 p1; rw [((cFr_n g1).trans hN)] at this; omega), rfl, hd, rfl⟩)
          · try dsimp only [tvI_i, tvJ_j, tvR_r] at q268
            have q268i := zneq (Y := 0) (by decide) q268
            refine tw_iload rfl rfl ?_
            refine tw_aload rfl rfl ?_
            refine tw_getS rfl (hi_44_3 g1.1) ?_
            refine tw_ic_ne rfl (fun q269 => ?_) (fun q269 => ?_)
            · try dsimp only [tvI_i, tvJ_j, tvR_r] at q269
              have q269i := zneq rfl q269
              refine tw_iinc rfl rfl ?_
              refine tw_aload rfl rfl ?_
              refine tw_getS rfl (hi_44_2 g1.1) ?_
              refine tw_istore rfl ?_
              refine tw_push rfl ?_
              refine tw_istore rfl ?_
              refine tw_iinc rfl rfl ?_
              refine tw_goto rfl ?_
              have hil : i < (ztx 1).length := by have z := q266; rw [hX] at z; have e9 : (Int32.ofNat (ztx 1).length).toInt = ((ztx 1).length : Int) := zofI (by rcases wlen with y | y <;> omega); omega
              have hd := scn_d hsc hil
              have ec : ((G.2.1 1).getD x.toNatClampNeg 0) = (ztx 1).getD i 0 := by rw [hX, zof_cl hx]
              have e32 : (ztx 1).getD i 0 = 32 := ec ▸ q267
              rw [if_pos e32] at hd
              have hne : ¬ a2 = rE T n (rB T n (cs h).1) := fun z => q269 (Int32.toInt_inj.mp (by rw [hat, hend]; exact congrArg _ z))
              rw [if_neg (fun z => by rw [Bool.and_eq_true] at z; exact hne (Nat.eq_of_beq_eq_true z.2))] at hd
              exact tG_cut (zW_mono zTt G dp) (Or.inr ⟨rfl, rfl, rfl, i + 1, w2 + 1, (rB T n (cs h).1), true, _, _, _, _, _, zincN hx (by rcases wlen with y | y <;> omega), by omega, zincN hw (by rcases wlen with y | y <;> omega), by omega, (show (tvI (tF h1 44 2)).toInt = (((rB T n (cs h).1) : Nat) : Int) from (cPl p1).trans (by rw [hσ]; rfl)), (by have := cP_400 p1; rw [((cFr_n g1).trans hN)] at this; omega), rfl, hd, rfl⟩)
            · try dsimp only [tvI_i, tvJ_j, tvR_r] at q269
              have q269i := zeqi rfl q269
              refine tw_iload rfl rfl ?_
              have hil : i < (ztx 1).length := by have z := q266; rw [hX] at z; have e9 : (Int32.ofNat (ztx 1).length).toInt = ((ztx 1).length : Int) := zofI (by rcases wlen with y | y <;> omega); omega
              have hd := scn_d hsc hil
              have ec : ((G.2.1 1).getD x.toNatClampNeg 0) = (ztx 1).getD i 0 := by rw [hX, zof_cl hx]
              have e32 : (ztx 1).getD i 0 = 32 := ec ▸ q267
              rw [if_pos e32] at hd
              have hsm : sm = true := by cases sm with | true => rfl | false => exact absurd hsame q268
              subst hsm
              have hae : a2 = rE T n (rB T n (cs h).1) := by have z : at9.toInt = (tvI (tF h1 44 3)).toInt := congrArg Int32.toInt q269; omega
              rw [hae, if_pos (by rw [Bool.and_eq_true]; exact ⟨rfl, Nat.beq_refl _⟩)] at hd
              exact tw_iret rfl ⟨g1, p1, hσ, hend, _, rfl, wrd_s hd.symm hw⟩
        · try dsimp only [tvI_i, tvJ_j, tvR_r] at q267
          have q267i := zneq (Y := 32) (by decide) q267
          refine tw_iload rfl rfl ?_
          refine tw_if_eq rfl (fun q270 => ?_) (fun q270 => ?_)
          · try dsimp only [tvI_i, tvJ_j, tvR_r] at q270
            have q270i := zeqi (Y := 0) (by decide) q270
            refine tw_push rfl ?_
            refine tw_istore rfl ?_
            refine tw_iinc rfl rfl ?_
            refine tw_goto rfl ?_
            refine tw_iinc rfl rfl ?_
            refine tw_goto rfl ?_
            have hil : i < (ztx 1).length := by have z := q266; rw [hX] at z; have e9 : (Int32.ofNat (ztx 1).length).toInt = ((ztx 1).length : Int) := zofI (by rcases wlen with y | y <;> omega); omega
            have hd := scn_d hsc hil
            have ec : ((G.2.1 1).getD x.toNatClampNeg 0) = (ztx 1).getD i 0 := by rw [hX, zof_cl hx]
            have e32 : ¬ (ztx 1).getD i 0 = 32 := fun z => q267 (ec.trans z)
            rw [if_neg e32] at hd
            have hsm : sm = false := by cases sm with | false => rfl | true => exact absurd (hsame.symm.trans q270) (by decide)
            subst hsm
            exact tG_cut (zW_mono zTt G dp) (Or.inr ⟨rfl, rfl, rfl, i + 1, w2, a2 + 1, false, _, _, _, _, _, zincN hx (by rcases wlen with y | y <;> omega), by omega, hw, by omega, zincN hat (by rcases wlen with y | y <;> omega), by omega, rfl, hd, rfl⟩)
          · try dsimp only [tvI_i, tvJ_j, tvR_r] at q270
            have q270i := zneq (Y := 0) (by decide) q270
            refine tw_iload rfl rfl ?_
            refine tw_aload rfl rfl ?_
            refine tw_getS rfl (hi_44_3 g1.1) ?_
            refine tw_ic_ge rfl (fun q271 => ?_) (fun q271 => ?_)
            · try dsimp only [tvI_i, tvJ_j, tvR_r] at q271
              refine tw_push rfl ?_
              refine tw_istore rfl ?_
              refine tw_iinc rfl rfl ?_
              refine tw_goto rfl ?_
              refine tw_iinc rfl rfl ?_
              refine tw_goto rfl ?_
              have hil : i < (ztx 1).length := by have z := q266; rw [hX] at z; have e9 : (Int32.ofNat (ztx 1).length).toInt = ((ztx 1).length : Int) := zofI (by rcases wlen with y | y <;> omega); omega
              have hd := scn_d hsc hil
              have ec : ((G.2.1 1).getD x.toNatClampNeg 0) = (ztx 1).getD i 0 := by rw [hX, zof_cl hx]
              have e32 : ¬ (ztx 1).getD i 0 = 32 := fun z => q267 (ec.trans z)
              rw [if_neg e32] at hd
              have hsm : sm = true := by cases sm with | true => rfl | false => exact absurd hsame q270
              subst hsm
              have hb : Nat.blt a2 (rE T n (rB T n (cs h).1)) = false := by cases z : Nat.blt a2 (rE T n (rB T n (cs h).1)) with | false => rfl | true => have y : a2 < rE T n (rB T n (cs h).1) := Nat.le_of_ble_eq_true z; omega
              rw [hb] at hd
              exact tG_cut (zW_mono zTt G dp) (Or.inr ⟨rfl, rfl, rfl, i + 1, w2, a2 + 1, false, _, _, _, _, _, zincN hx (by rcases wlen with y | y <;> omega), by omega, hw, by omega, zincN hat (by rcases wlen with y | y <;> omega), by omega, rfl, hd, rfl⟩)
            · try dsimp only [tvI_i, tvJ_j, tvR_r] at q271
              refine tw_aload rfl rfl ?_
              refine tw_getS rfl (hs_44_0 g1.1) ?_
              refine tw_iload rfl rfl ?_
              refine tw_bald rfl (fun f272 => ?_)
              refine tw_iload rfl rfl ?_
              refine tw_ic_ne rfl (fun q273 => ?_) (fun q273 => ?_)
              · try dsimp only [tvI_i, tvJ_j, tvR_r] at q273
                have q273i := zneq rfl q273
                refine tw_push rfl ?_
                refine tw_istore rfl ?_
                refine tw_iinc rfl rfl ?_
                refine tw_goto rfl ?_
                refine tw_iinc rfl rfl ?_
                refine tw_goto rfl ?_
                have hil : i < (ztx 1).length := by have z := q266; rw [hX] at z; have e9 : (Int32.ofNat (ztx 1).length).toInt = ((ztx 1).length : Int) := zofI (by rcases wlen with y | y <;> omega); omega
                have hd := scn_d hsc hil
                have ec : ((G.2.1 1).getD x.toNatClampNeg 0) = (ztx 1).getD i 0 := by rw [hX, zof_cl hx]
                have e32 : ¬ (ztx 1).getD i 0 = 32 := fun z => q267 (ec.trans z)
                rw [if_neg e32] at hd
                have hsm : sm = true := by cases sm with | true => rfl | false => exact absurd hsame q270
                subst hsm
                have hb : Nat.blt a2 (rE T n (rB T n (cs h).1)) = true := Nat.ble_eq.mpr (by omega)
                rw [hb] at hd
                have et : tA h1 45 at9.toNatClampNeg = T a2 := by rw [zof_cl hat, ((cFr_T g1).trans hT)]
                rw [decide_eq_false (show ¬ T a2 = (ztx 1).getD i 0 from fun z => q273 (et.trans (z.trans ec.symm)))] at hd
                exact tG_cut (zW_mono zTt G dp) (Or.inr ⟨rfl, rfl, rfl, i + 1, w2, a2 + 1, false, _, _, _, _, _, zincN hx (by rcases wlen with y | y <;> omega), by omega, hw, by omega, zincN hat (by rcases wlen with y | y <;> omega), by omega, rfl, hd, rfl⟩)
              · try dsimp only [tvI_i, tvJ_j, tvR_r] at q273
                have q273i := zeqi rfl q273
                refine tw_push rfl ?_
                refine tw_goto rfl ?_
                refine tw_istore rfl ?_
                refine tw_iinc rfl rfl ?_
                refine tw_goto rfl ?_
                refine tw_iinc rfl rfl ?_
                refine tw_goto rfl ?_
                have hil : i < (ztx 1).length := by have z := q266; rw [hX] at z; have e9 : (Int32.ofNat (ztx 1).length).toInt = ((ztx 1).length : Int) := zofI (by rcases wlen with y | y <;> omega); omega
                have hd := scn_d hsc hil
                have ec : ((G.2.1 1).getD x.toNatClampNeg 0) = (ztx 1).getD i 0 := by rw [hX, zof_cl hx]
                have e32 : ¬ (ztx 1).getD i 0 = 32 := fun z => q267 (ec.trans z)
                rw [if_neg e32] at hd
                have hsm : sm = true := by cases sm with | true => rfl | false => exact absurd hsame q270
                subst hsm
                have hb : Nat.blt a2 (rE T n (rB T n (cs h).1)) = true := Nat.ble_eq.mpr (by omega)
                rw [hb] at hd
                have et : tA h1 45 at9.toNatClampNeg = T a2 := by rw [zof_cl hat, ((cFr_T g1).trans hT)]
                rw [decide_eq_true (show T a2 = (ztx 1).getD i 0 from et.symm.trans (q273.trans ec))] at hd
                exact tG_cut (zW_mono zTt G dp) (Or.inr ⟨rfl, rfl, rfl, i + 1, w2, a2 + 1, true, _, _, _, _, _, zincN hx (by rcases wlen with y | y <;> omega), by omega, hw, by omega, zincN hat (by rcases wlen with y | y <;> omega), by omega, rfl, hd, rfl⟩)
    · try dsimp only [tvI_i, tvJ_j, tvR_r] at q265
      refine tw_aload rfl rfl ?_
      refine tw_getS rfl (hs_44_0 g1.1) ?_
      refine tw_aload rfl rfl ?_
      refine tw_getS rfl (hi_44_3 g1.1) ?_
      refine tw_bald rfl (fun f274 => ?_)
      refine tw_push rfl ?_
      refine tw_ic_gt rfl (fun q275 => ?_) (fun q275 => ?_)
      · try dsimp only [tvI_i, tvJ_j, tvR_r] at q275
        refine tw_push rfl ?_
        refine tw_istore rfl ?_
        refine tw_aload rfl rfl ?_
        refine tw_getS rfl (hi_44_2 g1.1) ?_
        refine tw_istore rfl ?_
        refine tw_push rfl ?_
        refine tw_istore rfl ?_
        refine tw_push rfl ?_
        refine tw_istore rfl ?_
        have hend : (tvI (tF h1 44 3)).toInt = ((rE T n (rB T n (cs h).1) : Nat) : Int) := by
          rw [wr_e he (fun z => ?_), hk]
          have hix : (tvI (tF h1 44 3)).toNatClampNeg = (rB T n (cs h).1) + k := zof_cl hk
          have hTx := ((cFr_T g1).trans hT)
          have e9 : tA h1 45 (tvI (tF h1 44 3)).toNatClampNeg = T ((rB T n (cs h).1) + k) := by rw [hix, hTx]
          have e8 := cNl p1 ((cFr_n g1).trans hN)
          have z0 := q255
          have z1 := q265
          have z2 := q275
          try rw [e9] at z1
          try rw [e9] at z2
          omega
        refine tG_loop (zW_mono zTt G dp) (zW_conj zTt G dp) (V := fun pc L st h9 _ _ => pc = 77 ∧ st = [] ∧ h1 = h9 ∧ ∃ (i w2 a2 : Nat) (sm : Bool) (x word at9 same : Int32) (l5 : Option Value), x.toInt = i ∧ i ≤ (ztx 1).length ∧ word.toInt = w2 ∧ w2 ≤ i ∧ at9.toInt = a2 ∧ a2 ≤ 400 + i ∧ same = (if sm = true then 1 else 0) ∧ scn T (rE T n (rB T n (cs h).1)) (rB T n (cs h).1) ((ztx 1).drop i) w2 a2 sm = scn T (rE T n (rB T n (cs h).1)) (rB T n (cs h).1) (ztx 1) 0 (rB T n (cs h).1) true ∧ L = [some (.ref 44), some (.int word), some (.int at9), some (.int same), some (.int x), l5]) ?_ (⟨rfl, rfl, rfl, 0, 0, (rB T n (cs h).1), true, _, _, _, _, _, rfl, Nat.zero_le _, rfl, Nat.le_refl _, (show (tvI (tF h1 44 2)).toInt = (((rB T n (cs h).1) : Nat) : Int) from (cPl p1).trans (by rw [hσ]; rfl)), (by have := cP_400 p1; rw [((cFr_n g1).trans hN)] at this; omega), rfl, rfl, rfl⟩)
        rintro _ _ _ _ _ _ ⟨rfl, rfl, rfl, i, w2, a2, sm, x, word, at9, same, l5, hx, hi, hw, hwi, hat, ha4, hsame, hsc, rfl⟩
        refine tw_iload rfl rfl ?_
        refine tw_push rfl ?_
        refine tw_tlen rfl ?_
        refine tw_ic_ge rfl (fun q276 => ?_) (fun q276 => ?_)
        · try dsimp only [tvI_i, tvJ_j, tvR_r] at q276
          refine tw_push rfl ?_
          have hil : (ztx 1).length ≤ i := by have z := q276; rw [hX] at z; have e9 : (Int32.ofNat (ztx 1).length).toInt = ((ztx 1).length : Int) := zofI (by rcases wlen with y | y <;> omega); omega
          exact tw_iret rfl ⟨g1, p1, hσ, hend, _, rfl, wrd_n (scn_e hsc hil)⟩
        · try dsimp only [tvI_i, tvJ_j, tvR_r] at q276
          refine tw_push rfl ?_
          refine tw_iload rfl rfl ?_
          refine tw_chr rfl (fun _ => ?_)
          refine tw_istore rfl ?_
          refine tw_iload rfl rfl ?_
          refine tw_push rfl ?_
          refine tw_ic_eq rfl (fun q277 => ?_) (fun q277 => ?_)
          · try dsimp only [tvI_i, tvJ_j, tvR_r] at q277
            have q277i := zeqi (Y := 32) (by decide) q277
            refine tw_iload rfl rfl ?_
            refine tw_if_eq rfl (fun q278 => ?_) (fun q278 => ?_)
            · try dsimp only [tvI_i, tvJ_j, tvR_r] at q278
              have q278i := zeqi (Y := 0) (by decide) q278
              refine tw_iinc rfl rfl ?_
              refine tw_aload rfl rfl ?_
              refine tw_getS rfl (hi_44_2 g1.1) ?_
              refine tw_istore rfl ?_
              refine tw_push rfl ?_
              refine tw_istore rfl ?_
              refine tw_iinc rfl rfl ?_
              refine tw_goto rfl ?_
              have hil : i < (ztx 1).length := by have z := q276; rw [hX] at z; have e9 : (Int32.ofNat (ztx 1).length).toInt = ((ztx 1).length : Int) := zofI (by rcases wlen with y | y <;> omega); omega
              have hd := scn_d hsc hil
              have ec : ((G.2.1 1).getD x.toNatClampNeg 0) = (ztx 1).getD i 0 := by rw [hX, zof_cl hx]
              have e32 : (ztx 1).getD i 0 = 32 := ec ▸ q277
              rw [if_pos e32] at hd
              have hsm : sm = false := by cases sm with | false => rfl | true => exact absurd (hsame.symm.trans q278) (by decide)
              subst hsm
              rw [if_neg (show ¬ (false && Nat.beq a2 (rE T n (rB T n (cs h).1))) = true from Bool.false_ne_true)] at hd
              exact tG_cut (zW_mono zTt G dp) (Or.inr ⟨rfl, rfl, rfl, i + 1, w2 + 1, (rB T n (cs h).1), true, _, _, _, _, _, zincN hx (by rcases wlen with y | y <;> omega), by omega, zincN hw (by rcases wlen with y | y <;> omega), by omega, (show (tvI (tF h1 44 2)).toInt = (((rB T n (cs h).1) : Nat) : Int) from (cPl p1).trans (by rw [hσ]; rfl)), (by have := cP_400 p1; rw [((cFr_n g1).trans hN)] at this; omega), rfl, hd, rfl⟩)
            · try dsimp only [tvI_i, tvJ_j, tvR_r] at q278
              have q278i := zneq (Y := 0) (by decide) q278
              refine tw_iload rfl rfl ?_
              refine tw_aload rfl rfl ?_
              refine tw_getS rfl (hi_44_3 g1.1) ?_
              refine tw_ic_ne rfl (fun q279 => ?_) (fun q279 => ?_)
              · try dsimp only [tvI_i, tvJ_j, tvR_r] at q279
                have q279i := zneq rfl q279
                refine tw_iinc rfl rfl ?_
                refine tw_aload rfl rfl ?_
                refine tw_getS rfl (hi_44_2 g1.1) ?_
                refine tw_istore rfl ?_
                refine tw_push rfl ?_
                refine tw_istore rfl ?_
                refine tw_iinc rfl rfl ?_
                refine tw_goto rfl ?_
                have hil : i < (ztx 1).length := by have z := q276; rw [hX] at z; have e9 : (Int32.ofNat (ztx 1).length).toInt = ((ztx 1).length : Int) := zofI (by rcases wlen with y | y <;> omega); omega
                have hd := scn_d hsc hil
                have ec : ((G.2.1 1).getD x.toNatClampNeg 0) = (ztx 1).getD i 0 := by rw [hX, zof_cl hx]
                have e32 : (ztx 1).getD i 0 = 32 := ec ▸ q277
                rw [if_pos e32] at hd
                have hne : ¬ a2 = rE T n (rB T n (cs h).1) := fun z => q279 (Int32.toInt_inj.mp (by rw [hat, hend]; exact congrArg _ z))
                rw [if_neg (fun z => by rw [Bool.and_eq_true] at z; exact hne (Nat.eq_of_beq_eq_true z.2))] at hd
                exact tG_cut (zW_mono zTt G dp) (Or.inr ⟨rfl, rfl, rfl, i + 1, w2 + 1, (rB T n (cs h).1), true, _, _, _, _, _, zincN hx (by rcases wlen with y | y <;> omega), by omega, zincN hw (by rcases wlen with y | y <;> omega), by omega, (show (tvI (tF h1 44 2)).toInt = (((rB T n (cs h).1) : Nat) : Int) from (cPl p1).trans (by rw [hσ]; rfl)), (by have := cP_400 p1; rw [((cFr_n g1).trans hN)] at this; omega), rfl, hd, rfl⟩)
              · try dsimp only [tvI_i, tvJ_j, tvR_r] at q279
                have q279i := zeqi rfl q279
                refine tw_iload rfl rfl ?_
                have hil : i < (ztx 1).length := by have z := q276; rw [hX] at z; have e9 : (Int32.ofNat (ztx 1).length).toInt = ((ztx 1).length : Int) := zofI (by rcases wlen with y | y <;> omega); omega
                have hd := scn_d hsc hil
                have ec : ((G.2.1 1).getD x.toNatClampNeg 0) = (ztx 1).getD i 0 := by rw [hX, zof_cl hx]
                have e32 : (ztx 1).getD i 0 = 32 := ec ▸ q277
                rw [if_pos e32] at hd
                have hsm : sm = true := by cases sm with | true => rfl | false => exact absurd hsame q278
                subst hsm
                have hae : a2 = rE T n (rB T n (cs h).1) := by have z : at9.toInt = (tvI (tF h1 44 3)).toInt := congrArg Int32.toInt q279; omega
                rw [hae, if_pos (by rw [Bool.and_eq_true]; exact ⟨rfl, Nat.beq_refl _⟩)] at hd
                exact tw_iret rfl ⟨g1, p1, hσ, hend, _, rfl, wrd_s hd.symm hw⟩
          · try dsimp only [tvI_i, tvJ_j, tvR_r] at q277
            have q277i := zneq (Y := 32) (by decide) q277
            refine tw_iload rfl rfl ?_
            refine tw_if_eq rfl (fun q280 => ?_) (fun q280 => ?_)
            · try dsimp only [tvI_i, tvJ_j, tvR_r] at q280
              have q280i := zeqi (Y := 0) (by decide) q280
              refine tw_push rfl ?_
              refine tw_istore rfl ?_
              refine tw_iinc rfl rfl ?_
              refine tw_goto rfl ?_
              refine tw_iinc rfl rfl ?_
              refine tw_goto rfl ?_
              have hil : i < (ztx 1).length := by have z := q276; rw [hX] at z; have e9 : (Int32.ofNat (ztx 1).length).toInt = ((ztx 1).length : Int) := zofI (by rcases wlen with y | y <;> omega); omega
              have hd := scn_d hsc hil
              have ec : ((G.2.1 1).getD x.toNatClampNeg 0) = (ztx 1).getD i 0 := by rw [hX, zof_cl hx]
              have e32 : ¬ (ztx 1).getD i 0 = 32 := fun z => q277 (ec.trans z)
              rw [if_neg e32] at hd
              have hsm : sm = false := by cases sm with | false => rfl | true => exact absurd (hsame.symm.trans q280) (by decide)
              subst hsm
              exact tG_cut (zW_mono zTt G dp) (Or.inr ⟨rfl, rfl, rfl, i + 1, w2, a2 + 1, false, _, _, _, _, _, zincN hx (by rcases wlen with y | y <;> omega), by omega, hw, by omega, zincN hat (by rcases wlen with y | y <;> omega), by omega, rfl, hd, rfl⟩)
            · try dsimp only [tvI_i, tvJ_j, tvR_r] at q280
              have q280i := zneq (Y := 0) (by decide) q280
              refine tw_iload rfl rfl ?_
              refine tw_aload rfl rfl ?_
              refine tw_getS rfl (hi_44_3 g1.1) ?_
              refine tw_ic_ge rfl (fun q281 => ?_) (fun q281 => ?_)
              · try dsimp only [tvI_i, tvJ_j, tvR_r] at q281
                refine tw_push rfl ?_
                refine tw_istore rfl ?_
                refine tw_iinc rfl rfl ?_
                refine tw_goto rfl ?_
                refine tw_iinc rfl rfl ?_
                refine tw_goto rfl ?_
                have hil : i < (ztx 1).length := by have z := q276; rw [hX] at z; have e9 : (Int32.ofNat (ztx 1).length).toInt = ((ztx 1).length : Int) := zofI (by rcases wlen with y | y <;> omega); omega
                have hd := scn_d hsc hil
                have ec : ((G.2.1 1).getD x.toNatClampNeg 0) = (ztx 1).getD i 0 := by rw [hX, zof_cl hx]
                have e32 : ¬ (ztx 1).getD i 0 = 32 := fun z => q277 (ec.trans z)
                rw [if_neg e32] at hd
                have hsm : sm = true := by cases sm with | true => rfl | false => exact absurd hsame q280
                subst hsm
                have hb : Nat.blt a2 (rE T n (rB T n (cs h).1)) = false := by cases z : Nat.blt a2 (rE T n (rB T n (cs h).1)) with | false => rfl | true => have y : a2 < rE T n (rB T n (cs h).1) := Nat.le_of_ble_eq_true z; omega
                rw [hb] at hd
                exact tG_cut (zW_mono zTt G dp) (Or.inr ⟨rfl, rfl, rfl, i + 1, w2, a2 + 1, false, _, _, _, _, _, zincN hx (by rcases wlen with y | y <;> omega), by omega, hw, by omega, zincN hat (by rcases wlen with y | y <;> omega), by omega, rfl, hd, rfl⟩)
              · try dsimp only [tvI_i, tvJ_j, tvR_r] at q281
                refine tw_aload rfl rfl ?_
                refine tw_getS rfl (hs_44_0 g1.1) ?_
                refine tw_iload rfl rfl ?_
                refine tw_bald rfl (fun f282 => ?_)
                refine tw_iload rfl rfl ?_
                refine tw_ic_ne rfl (fun q283 => ?_) (fun q283 => ?_)
                · try dsimp only [tvI_i, tvJ_j, tvR_r] at q283
                  have q283i := zneq rfl q283
                  refine tw_push rfl ?_
                  refine tw_istore rfl ?_
                  refine tw_iinc rfl rfl ?_
                  refine tw_goto rfl ?_
                  refine tw_iinc rfl rfl ?_
                  refine tw_goto rfl ?_
                  have hil : i < (ztx 1).length := by have z := q276; rw [hX] at z; have e9 : (Int32.ofNat (ztx 1).length).toInt = ((ztx 1).length : Int) := zofI (by rcases wlen with y | y <;> omega); omega
                  have hd := scn_d hsc hil
                  have ec : ((G.2.1 1).getD x.toNatClampNeg 0) = (ztx 1).getD i 0 := by rw [hX, zof_cl hx]
                  have e32 : ¬ (ztx 1).getD i 0 = 32 := fun z => q277 (ec.trans z)
                  rw [if_neg e32] at hd
                  have hsm : sm = true := by cases sm with | true => rfl | false => exact absurd hsame q280
                  subst hsm
                  have hb : Nat.blt a2 (rE T n (rB T n (cs h).1)) = true := Nat.ble_eq.mpr (by omega)
                  rw [hb] at hd
                  have et : tA h1 45 at9.toNatClampNeg = T a2 := by rw [zof_cl hat, ((cFr_T g1).trans hT)]
                  rw [decide_eq_false (show ¬ T a2 = (ztx 1).getD i 0 from fun z => q283 (et.trans (z.trans ec.symm)))] at hd
                  exact tG_cut (zW_mono zTt G dp) (Or.inr ⟨rfl, rfl, rfl, i + 1, w2, a2 + 1, false, _, _, _, _, _, zincN hx (by rcases wlen with y | y <;> omega), by omega, hw, by omega, zincN hat (by rcases wlen with y | y <;> omega), by omega, rfl, hd, rfl⟩)
                · try dsimp only [tvI_i, tvJ_j, tvR_r] at q283
                  have q283i := zeqi rfl q283
                  refine tw_push rfl ?_
                  refine tw_goto rfl ?_
                  refine tw_istore rfl ?_
                  refine tw_iinc rfl rfl ?_
                  refine tw_goto rfl ?_
                  refine tw_iinc rfl rfl ?_
                  refine tw_goto rfl ?_
                  have hil : i < (ztx 1).length := by have z := q276; rw [hX] at z; have e9 : (Int32.ofNat (ztx 1).length).toInt = ((ztx 1).length : Int) := zofI (by rcases wlen with y | y <;> omega); omega
                  have hd := scn_d hsc hil
                  have ec : ((G.2.1 1).getD x.toNatClampNeg 0) = (ztx 1).getD i 0 := by rw [hX, zof_cl hx]
                  have e32 : ¬ (ztx 1).getD i 0 = 32 := fun z => q277 (ec.trans z)
                  rw [if_neg e32] at hd
                  have hsm : sm = true := by cases sm with | true => rfl | false => exact absurd hsame q280
                  subst hsm
                  have hb : Nat.blt a2 (rE T n (rB T n (cs h).1)) = true := Nat.ble_eq.mpr (by omega)
                  rw [hb] at hd
                  have et : tA h1 45 at9.toNatClampNeg = T a2 := by rw [zof_cl hat, ((cFr_T g1).trans hT)]
                  rw [decide_eq_true (show T a2 = (ztx 1).getD i 0 from et.symm.trans (q283.trans ec))] at hd
                  exact tG_cut (zW_mono zTt G dp) (Or.inr ⟨rfl, rfl, rfl, i + 1, w2, a2 + 1, true, _, _, _, _, _, zincN hx (by rcases wlen with y | y <;> omega), by omega, hw, by omega, zincN hat (by rcases wlen with y | y <;> omega), by omega, rfl, hd, rfl⟩)
      · try dsimp only [tvI_i, tvJ_j, tvR_r] at q275
        refine tw_aload rfl rfl ?_
        refine tw_dup rfl ?_
        refine tw_getS rfl (hi_44_3 g1.1) ?_
        refine tw_push rfl ?_
        refine tw_iadd rfl ?_
        refine tw_put rfl (fun f284 => ?_)
        refine tG_set f284 (hw_44_3 f284 (g1).1) (fun hf284 ef284 => ?_)
        try dsimp only [tvI_i] at ef284
        have gf284 := cFr_s g1 ef284 (by decide)
        have sf284 := cs_o ef284 (by decide) (by decide) (by decide)
        have pf284 := cP_o p1 ef284 (by decide)
        have wf284 := cI_x ef284
        have vf284 := cI_o (q := 1) ef284 (by decide)
        have yf284 := cI_o (q := 2) ef284 (by decide)
        refine tw_goto rfl ?_
        have hlt : (rB T n (cs h).1) + k < n := by have := cNl p1 ((cFr_n g1).trans hN); omega
        have hix : (tvI (tF h1 44 3)).toNatClampNeg = (rB T n (cs h).1) + k := zof_cl hk
        have ha : 97 ≤ (T ((rB T n (cs h).1) + k)).toInt ∧ (T ((rB T n (cs h).1) + k)).toInt ≤ 122 := by rw [← hix, ← ((cFr_T g1).trans hT)]; exact ⟨by omega, by omega⟩
        exact tG_cut (zW_mono zTt G dp) (Or.inr ⟨rfl, rfl, _, k + 1, _, _, _, _, _, rfl, gf284, pf284, sf284.trans hσ, by rw [wf284]; exact zincL hk q255, by omega, (rE_y ⟨hlt, ha⟩).symm.trans he, rfl⟩)
theorem rM_a {T : Nat → Int32} {n p b M : Nat} (hb : rB T n p = b) (hd : rD T n b = b) : rM T n M p = .inl (1 + 8 * b + 0) := by
  unfold rM
  rw [hb, if_pos hd]
theorem rM_b {T : Nat → Int32} {n p b k M : Nat} (hb : rB T n p = b) (hd : rD T n b = b + k) (h0 : k ≠ 0) (h : 5 < k ∨ M < rV T b k) : rM T n M p = .inl (1 + 8 * b + 1) := by
  have e : b + k - b = k := by omega
  unfold rM
  rw [hb, hd, if_neg (by omega), e, if_pos h]
theorem rM_c {T : Nat → Int32} {n p b k M : Nat} (hb : rB T n p = b) (hd : rD T n b = b + k) (h0 : k ≠ 0) (h : ¬ (5 < k ∨ M < rV T b k)) : rM T n M p = .inr (b + k, rV T b k) := by
  have e : b + k - b = k := by omega
  unfold rM
  rw [hb, hd, if_neg (by omega), e, if_neg h]
theorem cNum {y t : Int32} {V : Nat} (hy : y.toInt = ((min V 100000 : Nat) : Int)) (ht : 48 ≤ t.toInt ∧ t.toInt ≤ 57) : (if (100000 : Int32) < y * 10 + (t - 48) then (100000 : Int32) else y * 10 + (t - 48)).toInt = ((min (10 * V + (t.toInt - 48).toNat) 100000 : Nat) : Int) := by
  have h1 : (y * 10).toInt = y.toInt * 10 := by
    rw [Int32.toInt_mul, show (10 : Int32).toInt = 10 from rfl]
    exact Int.bmod_eq_of_le (by show (-2147483648 : Int) ≤ y.toInt * 10; omega) (by show y.toInt * 10 < (2147483648 : Int); omega)
  have h2 : (t - 48).toInt = t.toInt - 48 := by
    rw [Int32.toInt_sub, show (48 : Int32).toInt = 48 from rfl]
    exact Int.bmod_eq_of_le (by show (-2147483648 : Int) ≤ t.toInt - 48; omega) (by show t.toInt - 48 < (2147483648 : Int); omega)
  have h3 : (y * 10 + (t - 48)).toInt = y.toInt * 10 + (t.toInt - 48) := by
    rw [Int32.toInt_add, h1, h2]
    exact Int.bmod_eq_of_le (by show (-2147483648 : Int) ≤ y.toInt * 10 + (t.toInt - 48); omega) (by show y.toInt * 10 + (t.toInt - 48) < (2147483648 : Int); omega)
  have h4 : (100000 : Int32).toInt = 100000 := rfl
  by_cases c : (100000 : Int32) < y * 10 + (t - 48)
  · rw [if_pos c]
    rw [Int32.lt_iff_toInt_lt, h3, h4] at c
    rw [h4]
    omega
  · rw [if_neg c]
    rw [Int32.lt_iff_toInt_lt, h3, h4] at c
    rw [h3]
    omega
theorem zsb {x y : Int32} {a b : Nat} (hx : x.toInt = a) (hy : y.toInt = b) (ha : a ≤ 100000) (hb : b ≤ 100000) : (x - y).toInt = (a : Int) - b := by
  rw [Int32.toInt_sub, hx, hy]
  exact Int.bmod_eq_of_le (by show (-2147483648 : Int) ≤ (a : Int) - b; omega) (by show (a : Int) - b < (2147483648 : Int); omega)
theorem cTo {h h3 : zH} {n v : Nat} {X : Int32} (p : cP h) (hn : cn h = n) (e : cSet 2 X h h3) (hx : X.toInt = v) (h1 : (cs h).1 ≤ v) (h2 : v ≤ n) : cP h3 ∧ cs h3 = rA v (cs h) := by
  have e1 := cPl p
  have e2 := cNl p hn
  refine ⟨cP_2 p e (by omega) (by omega), ?_⟩
  rw [cs_2 e, zof_cl hx]
theorem rC_y {p : Nat} {s s2 : rS} (h : rC p s = some (.inr s2)) : s.2.1 ≠ 80 ∧ s2 = (s.1, s.2.1 + 1, s.2.2) := by
  unfold rC at h
  by_cases c : s.2.1 = 80
  · rw [if_pos c] at h; cases h
  · rw [if_neg c] at h; cases h; exact ⟨c, rfl⟩
theorem rC_n {p e : Nat} {s : rS} (h : rC p s = some (.inl e)) : s.2.1 = 80 ∧ e = 1 + 8 * p + 3 := by
  unfold rC at h
  by_cases c : s.2.1 = 80
  · rw [if_pos c] at h; cases h; exact ⟨c, rfl⟩
  · rw [if_neg c] at h; cases h
section CC
variable {T : Nat → Int32} {n b : Nat}
theorem cm61 (h : b < n ∧ T b = 61) : rCm T n b = some (100105, b + 1) := if_pos h
theorem cm60 (h : b < n ∧ T b = 60) : rCm T n b = (if b + 1 < n ∧ T (b + 1) = 61 then some (100104, b + 2) else some (100103, b + 1)) := (if_neg (fun z => absurd (z.2.symm.trans h.2) (by decide))).trans (if_pos h)
theorem cm62 (h : b < n ∧ T b = 62) : rCm T n b = (if b + 1 < n ∧ T (b + 1) = 61 then some (100106, b + 2) else some (100107, b + 1)) := (if_neg (fun z => absurd (z.2.symm.trans h.2) (by decide))).trans ((if_neg (fun z => absurd (z.2.symm.trans h.2) (by decide))).trans (if_pos h))
theorem cm_n (h1 : ¬ (b < n ∧ T b = 61)) (h2 : ¬ (b < n ∧ T b = 60)) (h3 : ¬ (b < n ∧ T b = 62)) : rCm T n b = none := (if_neg h1).trans ((if_neg h2).trans (if_neg h3))
theorem cm_s (h : (b < n ∧ T b = 61) ∨ (b < n ∧ T b = 60) ∨ (b < n ∧ T b = 62)) : ∃ q, rCm T n b = some q := by
  rcases h with h | h | h
  · exact ⟨_, cm61 h⟩
  · rw [cm60 h]; split <;> exact ⟨_, rfl⟩
  · rw [cm62 h]; split <;> exact ⟨_, rfl⟩
end CC
theorem f_numberHere {G : zG} (hG : G.1 = zProg) (hX : G.2.1 = ztx) {h : zH} {T : Nat → Int32} {n : Nat} (hs : tSh h) (hp : cP h) (hT : tA h 45 = T) (hN : cn h = n) {m : Int32} {M : Nat} (hm : m.toInt = M) (hM : M ≤ 99999) : tC zTt G 89 [.ref 44, .int m] h (fun w h2 => cFr h h2 ∧ ((∃ q, rM T n M (cs h).1 = .inr q ∧ w = some (.int (Int32.ofNat q.2)) ∧ cs h2 = rA q.1 (cs h) ∧ cP h2) ∨ (∃ e, rM T n M (cs h).1 = .inl e ∧ w = some (.int (-1)) ∧ cFt h2 e))) := by
  refine tC_in (by rw [hG]; rfl) (fun dp => ?_)
  have g0 := cFr_r hs
  have hpn : (cs h).1 ≤ n := by rw [← hN]; exact cP_le hp
  have c489 : (48 : Int32).toInt = 48 := rfl
  have c579 : (57 : Int32).toInt = 57 := rfl
  have c59 : (5 : Int32).toInt = 5 := rfl
  refine tw_aload rfl rfl ?_
  refine tw_virt0 rfl (f_signHere hG hX (g0).1 hp ((cFr_T g0).trans hT) ((cFr_n g0).trans hN)) (fun wp285 hp285 p285 => ?_)
  obtain ⟨gp285, ppp285, ssp285, t3p285, cp285, rfl, kp285⟩ := p285
  have ggp285 := cFr_t g0 gp285
  refine tw_istore rfl ?_
  refine tw_aload rfl rfl ?_
  refine tw_getS rfl (hi_44_2 ggp285.1) ?_
  refine tw_istore rfl ?_
  refine tw_push rfl ?_
  refine tw_istore rfl ?_
  refine tG_loop (zW_mono zTt G dp) (zW_conj zTt G dp) (V := fun pc L st h9 _ _ => pc = 13 ∧ st = [] ∧ hp285 = h9 ∧ ∃ (k : Nat) (x y : Int32) (v2 : Option Value), x.toInt = (((cs hp285).1 + k : Nat) : Int) ∧ (cs hp285).1 + k ≤ n ∧ rD T n ((cs hp285).1 + k) = rD T n (cs hp285).1 ∧ y.toInt = ((min (rV T (cs hp285).1 k) 100000 : Nat) : Int) ∧ L = [some (.ref 44), some (.int m), v2, some (.int x), some (.int y)]) ?_ (⟨rfl, rfl, rfl, 0, _, _, _, cPl ppp285, (by have := cP_le ppp285; rw [((cFr_n ggp285).trans hN)] at this; exact this), rfl, rfl, rfl⟩)
  rintro _ _ _ _ _ _ ⟨rfl, rfl, rfl, k, x, y, v2, hx, hkn, hd, hv, rfl⟩
  refine tw_iload rfl rfl ?_
  refine tw_aload rfl rfl ?_
  refine tw_getS rfl (hi_44_1 ggp285.1) ?_
  refine tw_ic_ge rfl (fun q286 => ?_) (fun q286 => ?_)
  · try dsimp only [tvI_i, tvJ_j, tvR_r] at q286
    refine tw_iload rfl rfl ?_
    refine tw_aload rfl rfl ?_
    refine tw_getS rfl (hi_44_2 ggp285.1) ?_
    refine tw_ic_ne rfl (fun q287 => ?_) (fun q287 => ?_)
    · try dsimp only [tvI_i, tvJ_j, tvR_r] at q287
      have q287i := zneq rfl q287
      refine tw_iload rfl rfl ?_
      refine tw_aload rfl rfl ?_
      refine tw_getS rfl (hi_44_2 ggp285.1) ?_
      refine tw_isub rfl ?_
      refine tw_push rfl ?_
      refine tw_ic_gt rfl (fun q288 => ?_) (fun q288 => ?_)
      · try dsimp only [tvI_i, tvJ_j, tvR_r] at q288
        refine tw_aload rfl rfl ?_
        refine tw_aload rfl rfl ?_
        refine tw_getS rfl (hi_44_2 ggp285.1) ?_
        refine tw_push rfl ?_
        refine tw_virt2 rfl (f_refuse hG hX (ggp285).1 ppp285 ((cFr_T ggp285).trans hT) ((cFr_n ggp285).trans hN)) (fun wp289 hp289 p289 => ?_)
        obtain ⟨gp289, rfl, up289⟩ := p289
        have ggp289 := cFr_t ggp285 gp289
        refine tw_pop rfl ?_
        refine tw_push rfl ?_
        have hix : x.toNatClampNeg = (cs hp285).1 + k := zof_cl hx
        have hln := cNl ppp285 ((cFr_n ggp285).trans hN)
        have hTx : tA hp285 45 x.toNatClampNeg = T ((cs hp285).1 + k) := by rw [hix, ((cFr_T ggp285).trans hT)]
        have hnd : ¬ ((cs hp285).1 + k < n ∧ 48 ≤ (T ((cs hp285).1 + k)).toInt ∧ (T ((cs hp285).1 + k)).toInt ≤ 57) := by rw [← hTx]; omega
        have hrd : rD T n (cs hp285).1 = (cs hp285).1 + k := hd.symm.trans (rD_n hnd)
        have hpl := cPl ppp285
        have hbb : rB T n (cs h).1 = (cs hp285).1 := by rw [ssp285]; rfl
        have h400 := cP_400 ppp285
        rw [((cFr_n ggp285).trans hN)] at h400
        have hk0 : k ≠ 0 := fun z => q287 (Int32.toInt_inj.mp (by rw [hx, hpl, z]; rfl))
        have hsb : (x - tvI (tF hp285 44 2)).toInt = (((cs hp285).1 + k : Nat) : Int) - ((cs hp285).1 : Nat) := zsb hx hpl (by omega) (by omega)
        have z0 := q288
        exact tw_iret rfl ⟨ggp289, Or.inr ⟨_, rM_b hbb hrd hk0 (by omega), rfl, cFt_of ppp285 up289 (w := 1) rfl (by decide)⟩⟩
      · try dsimp only [tvI_i, tvJ_j, tvR_r] at q288
        refine tw_iload rfl rfl ?_
        refine tw_iload rfl rfl ?_
        refine tw_ic_le rfl (fun q290 => ?_) (fun q290 => ?_)
        · try dsimp only [tvI_i, tvJ_j, tvR_r] at q290
          refine tw_aload rfl rfl ?_
          refine tw_iload rfl rfl ?_
          refine tw_put rfl (fun f291 => ?_)
          refine tG_set f291 (hw_44_2 f291 (ggp285).1) (fun hf291 ef291 => ?_)
          try dsimp only [tvI_i] at ef291
          have gf291 := cFr_s ggp285 ef291 (by decide)
          obtain ⟨pf291, sf291⟩ := cTo ppp285 ((cFr_n ggp285).trans hN) ef291 hx (by omega) hkn
          refine tw_iload rfl rfl ?_
          have hix : x.toNatClampNeg = (cs hp285).1 + k := zof_cl hx
          have hln := cNl ppp285 ((cFr_n ggp285).trans hN)
          have hTx : tA hp285 45 x.toNatClampNeg = T ((cs hp285).1 + k) := by rw [hix, ((cFr_T ggp285).trans hT)]
          have hnd : ¬ ((cs hp285).1 + k < n ∧ 48 ≤ (T ((cs hp285).1 + k)).toInt ∧ (T ((cs hp285).1 + k)).toInt ≤ 57) := by rw [← hTx]; omega
          have hrd : rD T n (cs hp285).1 = (cs hp285).1 + k := hd.symm.trans (rD_n hnd)
          have hpl := cPl ppp285
          have hbb : rB T n (cs h).1 = (cs hp285).1 := by rw [ssp285]; rfl
          have h400 := cP_400 ppp285
          rw [((cFr_n ggp285).trans hN)] at h400
          have hk0 : k ≠ 0 := fun z => q287 (Int32.toInt_inj.mp (by rw [hx, hpl, z]; rfl))
          have hsb : (x - tvI (tF hp285 44 2)).toInt = (((cs hp285).1 + k : Nat) : Int) - ((cs hp285).1 : Nat) := zsb hx hpl (by omega) (by omega)
          have z0 := q288
          have z1 := q290
          have hval : y.toInt = ((rV T (cs hp285).1 k : Nat) : Int) := by omega
          refine tw_iret rfl ⟨gf291, Or.inl ⟨_, rM_c hbb hrd hk0 (by omega), congrArg (fun z => some (Value.int z)) (zof hval), ?_, pf291⟩⟩
          rw [sf291, ssp285]
          rfl
        · try dsimp only [tvI_i, tvJ_j, tvR_r] at q290
          refine tw_aload rfl rfl ?_
          refine tw_aload rfl rfl ?_
          refine tw_getS rfl (hi_44_2 ggp285.1) ?_
          refine tw_push rfl ?_
          refine tw_virt2 rfl (f_refuse hG hX (ggp285).1 ppp285 ((cFr_T ggp285).trans hT) ((cFr_n ggp285).trans hN)) (fun wp292 hp292 p292 => ?_)
          obtain ⟨gp292, rfl, up292⟩ := p292
          have ggp292 := cFr_t ggp285 gp292
          refine tw_pop rfl ?_
          refine tw_push rfl ?_
          have hix : x.toNatClampNeg = (cs hp285).1 + k := zof_cl hx
          have hln := cNl ppp285 ((cFr_n ggp285).trans hN)
          have hTx : tA hp285 45 x.toNatClampNeg = T ((cs hp285).1 + k) := by rw [hix, ((cFr_T ggp285).trans hT)]
          have hnd : ¬ ((cs hp285).1 + k < n ∧ 48 ≤ (T ((cs hp285).1 + k)).toInt ∧ (T ((cs hp285).1 + k)).toInt ≤ 57) := by rw [← hTx]; omega
          have hrd : rD T n (cs hp285).1 = (cs hp285).1 + k := hd.symm.trans (rD_n hnd)
          have hpl := cPl ppp285
          have hbb : rB T n (cs h).1 = (cs hp285).1 := by rw [ssp285]; rfl
          have h400 := cP_400 ppp285
          rw [((cFr_n ggp285).trans hN)] at h400
          have hk0 : k ≠ 0 := fun z => q287 (Int32.toInt_inj.mp (by rw [hx, hpl, z]; rfl))
          have hsb : (x - tvI (tF hp285 44 2)).toInt = (((cs hp285).1 + k : Nat) : Int) - ((cs hp285).1 : Nat) := zsb hx hpl (by omega) (by omega)
          have z0 := q288
          have z1 := q290
          exact tw_iret rfl ⟨ggp292, Or.inr ⟨_, rM_b hbb hrd hk0 (by omega), rfl, cFt_of ppp285 up292 (w := 1) rfl (by decide)⟩⟩
    · try dsimp only [tvI_i, tvJ_j, tvR_r] at q287
      have q287i := zeqi rfl q287
      refine tw_aload rfl rfl ?_
      refine tw_aload rfl rfl ?_
      refine tw_getS rfl (hi_44_2 ggp285.1) ?_
      refine tw_push rfl ?_
      refine tw_virt2 rfl (f_refuse hG hX (ggp285).1 ppp285 ((cFr_T ggp285).trans hT) ((cFr_n ggp285).trans hN)) (fun wp293 hp293 p293 => ?_)
      obtain ⟨gp293, rfl, up293⟩ := p293
      have ggp293 := cFr_t ggp285 gp293
      refine tw_pop rfl ?_
      refine tw_push rfl ?_
      have hix : x.toNatClampNeg = (cs hp285).1 + k := zof_cl hx
      have hln := cNl ppp285 ((cFr_n ggp285).trans hN)
      have hTx : tA hp285 45 x.toNatClampNeg = T ((cs hp285).1 + k) := by rw [hix, ((cFr_T ggp285).trans hT)]
      have hnd : ¬ ((cs hp285).1 + k < n ∧ 48 ≤ (T ((cs hp285).1 + k)).toInt ∧ (T ((cs hp285).1 + k)).toInt ≤ 57) := by rw [← hTx]; omega
      have hrd : rD T n (cs hp285).1 = (cs hp285).1 + k := hd.symm.trans (rD_n hnd)
      have hpl := cPl ppp285
      have hbb : rB T n (cs h).1 = (cs hp285).1 := by rw [ssp285]; rfl
      have h400 := cP_400 ppp285
      rw [((cFr_n ggp285).trans hN)] at h400
      have hk0 : k = 0 := by have z : x.toInt = (tvI (tF hp285 44 2)).toInt := congrArg Int32.toInt q287; omega
      subst hk0
      exact tw_iret rfl ⟨ggp293, Or.inr ⟨_, rM_a hbb hrd, rfl, cFt_of ppp285 up293 (w := 0) rfl (by decide)⟩⟩
  · try dsimp only [tvI_i, tvJ_j, tvR_r] at q286
    refine tw_aload rfl rfl ?_
    refine tw_getS rfl (hs_44_0 ggp285.1) ?_
    refine tw_iload rfl rfl ?_
    refine tw_bald rfl (fun f294 => ?_)
    refine tw_push rfl ?_
    refine tw_ic_lt rfl (fun q295 => ?_) (fun q295 => ?_)
    · try dsimp only [tvI_i, tvJ_j, tvR_r] at q295
      refine tw_iload rfl rfl ?_
      refine tw_aload rfl rfl ?_
      refine tw_getS rfl (hi_44_2 ggp285.1) ?_
      refine tw_ic_ne rfl (fun q296 => ?_) (fun q296 => ?_)
      · try dsimp only [tvI_i, tvJ_j, tvR_r] at q296
        have q296i := zneq rfl q296
        refine tw_iload rfl rfl ?_
        refine tw_aload rfl rfl ?_
        refine tw_getS rfl (hi_44_2 ggp285.1) ?_
        refine tw_isub rfl ?_
        refine tw_push rfl ?_
        refine tw_ic_gt rfl (fun q297 => ?_) (fun q297 => ?_)
        · try dsimp only [tvI_i, tvJ_j, tvR_r] at q297
          refine tw_aload rfl rfl ?_
          refine tw_aload rfl rfl ?_
          refine tw_getS rfl (hi_44_2 ggp285.1) ?_
          refine tw_push rfl ?_
          refine tw_virt2 rfl (f_refuse hG hX (ggp285).1 ppp285 ((cFr_T ggp285).trans hT) ((cFr_n ggp285).trans hN)) (fun wp298 hp298 p298 => ?_)
          obtain ⟨gp298, rfl, up298⟩ := p298
          have ggp298 := cFr_t ggp285 gp298
          refine tw_pop rfl ?_
          refine tw_push rfl ?_
          have hix : x.toNatClampNeg = (cs hp285).1 + k := zof_cl hx
          have hln := cNl ppp285 ((cFr_n ggp285).trans hN)
          have hTx : tA hp285 45 x.toNatClampNeg = T ((cs hp285).1 + k) := by rw [hix, ((cFr_T ggp285).trans hT)]
          have hnd : ¬ ((cs hp285).1 + k < n ∧ 48 ≤ (T ((cs hp285).1 + k)).toInt ∧ (T ((cs hp285).1 + k)).toInt ≤ 57) := by rw [← hTx]; omega
          have hrd : rD T n (cs hp285).1 = (cs hp285).1 + k := hd.symm.trans (rD_n hnd)
          have hpl := cPl ppp285
          have hbb : rB T n (cs h).1 = (cs hp285).1 := by rw [ssp285]; rfl
          have h400 := cP_400 ppp285
          rw [((cFr_n ggp285).trans hN)] at h400
          have hk0 : k ≠ 0 := fun z => q296 (Int32.toInt_inj.mp (by rw [hx, hpl, z]; rfl))
          have hsb : (x - tvI (tF hp285 44 2)).toInt = (((cs hp285).1 + k : Nat) : Int) - ((cs hp285).1 : Nat) := zsb hx hpl (by omega) (by omega)
          have z0 := q297
          exact tw_iret rfl ⟨ggp298, Or.inr ⟨_, rM_b hbb hrd hk0 (by omega), rfl, cFt_of ppp285 up298 (w := 1) rfl (by decide)⟩⟩
        · try dsimp only [tvI_i, tvJ_j, tvR_r] at q297
          refine tw_iload rfl rfl ?_
          refine tw_iload rfl rfl ?_
          refine tw_ic_le rfl (fun q299 => ?_) (fun q299 => ?_)
          · try dsimp only [tvI_i, tvJ_j, tvR_r] at q299
            refine tw_aload rfl rfl ?_
            refine tw_iload rfl rfl ?_
            refine tw_put rfl (fun f300 => ?_)
            refine tG_set f300 (hw_44_2 f300 (ggp285).1) (fun hf300 ef300 => ?_)
            try dsimp only [tvI_i] at ef300
            have gf300 := cFr_s ggp285 ef300 (by decide)
            obtain ⟨pf300, sf300⟩ := cTo ppp285 ((cFr_n ggp285).trans hN) ef300 hx (by omega) hkn
            refine tw_iload rfl rfl ?_
            have hix : x.toNatClampNeg = (cs hp285).1 + k := zof_cl hx
            have hln := cNl ppp285 ((cFr_n ggp285).trans hN)
            have hTx : tA hp285 45 x.toNatClampNeg = T ((cs hp285).1 + k) := by rw [hix, ((cFr_T ggp285).trans hT)]
            have hnd : ¬ ((cs hp285).1 + k < n ∧ 48 ≤ (T ((cs hp285).1 + k)).toInt ∧ (T ((cs hp285).1 + k)).toInt ≤ 57) := by rw [← hTx]; omega
            have hrd : rD T n (cs hp285).1 = (cs hp285).1 + k := hd.symm.trans (rD_n hnd)
            have hpl := cPl ppp285
            have hbb : rB T n (cs h).1 = (cs hp285).1 := by rw [ssp285]; rfl
            have h400 := cP_400 ppp285
            rw [((cFr_n ggp285).trans hN)] at h400
            have hk0 : k ≠ 0 := fun z => q296 (Int32.toInt_inj.mp (by rw [hx, hpl, z]; rfl))
            have hsb : (x - tvI (tF hp285 44 2)).toInt = (((cs hp285).1 + k : Nat) : Int) - ((cs hp285).1 : Nat) := zsb hx hpl (by omega) (by omega)
            have z0 := q297
            have z1 := q299
            have hval : y.toInt = ((rV T (cs hp285).1 k : Nat) : Int) := by omega
            refine tw_iret rfl ⟨gf300, Or.inl ⟨_, rM_c hbb hrd hk0 (by omega), congrArg (fun z => some (Value.int z)) (zof hval), ?_, pf300⟩⟩
            rw [sf300, ssp285]
            rfl
          · try dsimp only [tvI_i, tvJ_j, tvR_r] at q299
            refine tw_aload rfl rfl ?_
            refine tw_aload rfl rfl ?_
            refine tw_getS rfl (hi_44_2 ggp285.1) ?_
            refine tw_push rfl ?_
            refine tw_virt2 rfl (f_refuse hG hX (ggp285).1 ppp285 ((cFr_T ggp285).trans hT) ((cFr_n ggp285).trans hN)) (fun wp301 hp301 p301 => ?_)
            obtain ⟨gp301, rfl, up301⟩ := p301
            have ggp301 := cFr_t ggp285 gp301
            refine tw_pop rfl ?_
            refine tw_push rfl ?_
            have hix : x.toNatClampNeg = (cs hp285).1 + k := zof_cl hx
            have hln := cNl ppp285 ((cFr_n ggp285).trans hN)
            have hTx : tA hp285 45 x.toNatClampNeg = T ((cs hp285).1 + k) := by rw [hix, ((cFr_T ggp285).trans hT)]
            have hnd : ¬ ((cs hp285).1 + k < n ∧ 48 ≤ (T ((cs hp285).1 + k)).toInt ∧ (T ((cs hp285).1 + k)).toInt ≤ 57) := by rw [← hTx]; omega
            have hrd : rD T n (cs hp285).1 = (cs hp285).1 + k := hd.symm.trans (rD_n hnd)
            have hpl := cPl ppp285
            have hbb : rB T n (cs h).1 = (cs hp285).1 := by rw [ssp285]; rfl
            have h400 := cP_400 ppp285
            rw [((cFr_n ggp285).trans hN)] at h400
            have hk0 : k ≠ 0 := fun z => q296 (Int32.toInt_inj.mp (by rw [hx, hpl, z]; rfl))
            have hsb : (x - tvI (tF hp285 44 2)).toInt = (((cs hp285).1 + k : Nat) : Int) - ((cs hp285).1 : Nat) := zsb hx hpl (by omega) (by omega)
            have z0 := q297
            have z1 := q299
            exact tw_iret rfl ⟨ggp301, Or.inr ⟨_, rM_b hbb hrd hk0 (by omega), rfl, cFt_of ppp285 up301 (w := 1) rfl (by decide)⟩⟩
      · try dsimp only [tvI_i, tvJ_j, tvR_r] at q296
        have q296i := zeqi rfl q296
        refine tw_aload rfl rfl ?_
        refine tw_aload rfl rfl ?_
        refine tw_getS rfl (hi_44_2 ggp285.1) ?_
        refine tw_push rfl ?_
        refine tw_virt2 rfl (f_refuse hG hX (ggp285).1 ppp285 ((cFr_T ggp285).trans hT) ((cFr_n ggp285).trans hN)) (fun wp302 hp302 p302 => ?_)
        obtain ⟨gp302, rfl, up302⟩ := p302
        have ggp302 := cFr_t ggp285 gp302
        refine tw_pop rfl ?_
        refine tw_push rfl ?_
        have hix : x.toNatClampNeg = (cs hp285).1 + k := zof_cl hx
        have hln := cNl ppp285 ((cFr_n ggp285).trans hN)
        have hTx : tA hp285 45 x.toNatClampNeg = T ((cs hp285).1 + k) := by rw [hix, ((cFr_T ggp285).trans hT)]
        have hnd : ¬ ((cs hp285).1 + k < n ∧ 48 ≤ (T ((cs hp285).1 + k)).toInt ∧ (T ((cs hp285).1 + k)).toInt ≤ 57) := by rw [← hTx]; omega
        have hrd : rD T n (cs hp285).1 = (cs hp285).1 + k := hd.symm.trans (rD_n hnd)
        have hpl := cPl ppp285
        have hbb : rB T n (cs h).1 = (cs hp285).1 := by rw [ssp285]; rfl
        have h400 := cP_400 ppp285
        rw [((cFr_n ggp285).trans hN)] at h400
        have hk0 : k = 0 := by have z : x.toInt = (tvI (tF hp285 44 2)).toInt := congrArg Int32.toInt q296; omega
        subst hk0
        exact tw_iret rfl ⟨ggp302, Or.inr ⟨_, rM_a hbb hrd, rfl, cFt_of ppp285 up302 (w := 0) rfl (by decide)⟩⟩
    · try dsimp only [tvI_i, tvJ_j, tvR_r] at q295
      refine tw_aload rfl rfl ?_
      refine tw_getS rfl (hs_44_0 ggp285.1) ?_
      refine tw_iload rfl rfl ?_
      refine tw_bald rfl (fun f303 => ?_)
      refine tw_push rfl ?_
      refine tw_ic_gt rfl (fun q304 => ?_) (fun q304 => ?_)
      · try dsimp only [tvI_i, tvJ_j, tvR_r] at q304
        refine tw_iload rfl rfl ?_
        refine tw_aload rfl rfl ?_
        refine tw_getS rfl (hi_44_2 ggp285.1) ?_
        refine tw_ic_ne rfl (fun q305 => ?_) (fun q305 => ?_)
        · try dsimp only [tvI_i, tvJ_j, tvR_r] at q305
          have q305i := zneq rfl q305
          refine tw_iload rfl rfl ?_
          refine tw_aload rfl rfl ?_
          refine tw_getS rfl (hi_44_2 ggp285.1) ?_
          refine tw_isub rfl ?_
          refine tw_push rfl ?_
          refine tw_ic_gt rfl (fun q306 => ?_) (fun q306 => ?_)
          · try dsimp only [tvI_i, tvJ_j, tvR_r] at q306
            refine tw_aload rfl rfl ?_
            refine tw_aload rfl rfl ?_
            refine tw_getS rfl (hi_44_2 ggp285.1) ?_
            refine tw_push rfl ?_
            refine tw_virt2 rfl (f_refuse hG hX (ggp285).1 ppp285 ((cFr_T ggp285).trans hT) ((cFr_n ggp285).trans hN)) (fun wp307 hp307 p307 => ?_)
            obtain ⟨gp307, rfl, up307⟩ := p307
            have ggp307 := cFr_t ggp285 gp307
            refine tw_pop rfl ?_
            refine tw_push rfl ?_
            have hix : x.toNatClampNeg = (cs hp285).1 + k := zof_cl hx
            have hln := cNl ppp285 ((cFr_n ggp285).trans hN)
            have hTx : tA hp285 45 x.toNatClampNeg = T ((cs hp285).1 + k) := by rw [hix, ((cFr_T ggp285).trans hT)]
            have hnd : ¬ ((cs hp285).1 + k < n ∧ 48 ≤ (T ((cs hp285).1 + k)).toInt ∧ (T ((cs hp285).1 + k)).toInt ≤ 57) := by rw [← hTx]; omega
            have hrd : rD T n (cs hp285).1 = (cs hp285).1 + k := hd.symm.trans (rD_n hnd)
            have hpl := cPl ppp285
            have hbb : rB T n (cs h).1 = (cs hp285).1 := by rw [ssp285]; rfl
            have h400 := cP_400 ppp285
            rw [((cFr_n ggp285).trans hN)] at h400
            have hk0 : k ≠ 0 := fun z => q305 (Int32.toInt_inj.mp (by rw [hx, hpl, z]; rfl))
            have hsb : (x - tvI (tF hp285 44 2)).toInt = (((cs hp285).1 + k : Nat) : Int) - ((cs hp285).1 : Nat) := zsb hx hpl (by omega) (by omega)
            have z0 := q306
            exact tw_iret rfl ⟨ggp307, Or.inr ⟨_, rM_b hbb hrd hk0 (by omega), rfl, cFt_of ppp285 up307 (w := 1) rfl (by decide)⟩⟩
          · try dsimp only [tvI_i, tvJ_j, tvR_r] at q306
            refine tw_iload rfl rfl ?_
            refine tw_iload rfl rfl ?_
            refine tw_ic_le rfl (fun q308 => ?_) (fun q308 => ?_)
            · try dsimp only [tvI_i, tvJ_j, tvR_r] at q308
              refine tw_aload rfl rfl ?_
              refine tw_iload rfl rfl ?_
              refine tw_put rfl (fun f309 => ?_)
              refine tG_set f309 (hw_44_2 f309 (ggp285).1) (fun hf309 ef309 => ?_)
              try dsimp only [tvI_i] at ef309
              have gf309 := cFr_s ggp285 ef309 (by decide)
              obtain ⟨pf309, sf309⟩ := cTo ppp285 ((cFr_n ggp285).trans hN) ef309 hx (by omega) hkn
              refine tw_iload rfl rfl ?_
              have hix : x.toNatClampNeg = (cs hp285).1 + k := zof_cl hx
              have hln := cNl ppp285 ((cFr_n ggp285).trans hN)
              have hTx : tA hp285 45 x.toNatClampNeg = T ((cs hp285).1 + k) := by rw [hix, ((cFr_T ggp285).trans hT)]
              have hnd : ¬ ((cs hp285).1 + k < n ∧ 48 ≤ (T ((cs hp285).1 + k)).toInt ∧ (T ((cs hp285).1 + k)).toInt ≤ 57) := by rw [← hTx]; omega
              have hrd : rD T n (cs hp285).1 = (cs hp285).1 + k := hd.symm.trans (rD_n hnd)
              have hpl := cPl ppp285
              have hbb : rB T n (cs h).1 = (cs hp285).1 := by rw [ssp285]; rfl
              have h400 := cP_400 ppp285
              rw [((cFr_n ggp285).trans hN)] at h400
              have hk0 : k ≠ 0 := fun z => q305 (Int32.toInt_inj.mp (by rw [hx, hpl, z]; rfl))
              have hsb : (x - tvI (tF hp285 44 2)).toInt = (((cs hp285).1 + k : Nat) : Int) - ((cs hp285).1 : Nat) := zsb hx hpl (by omega) (by omega)
              have z0 := q306
              have z1 := q308
              have hval : y.toInt = ((rV T (cs hp285).1 k : Nat) : Int) := by omega
              refine tw_iret rfl ⟨gf309, Or.inl ⟨_, rM_c hbb hrd hk0 (by omega), congrArg (fun z => some (Value.int z)) (zof hval), ?_, pf309⟩⟩
              rw [sf309, ssp285]
              rfl
            · try dsimp only [tvI_i, tvJ_j, tvR_r] at q308
              refine tw_aload rfl rfl ?_
              refine tw_aload rfl rfl ?_
              refine tw_getS rfl (hi_44_2 ggp285.1) ?_
              refine tw_push rfl ?_
              refine tw_virt2 rfl (f_refuse hG hX (ggp285).1 ppp285 ((cFr_T ggp285).trans hT) ((cFr_n ggp285).trans hN)) (fun wp310 hp310 p310 => ?_)
              obtain ⟨gp310, rfl, up310⟩ := p310
              have ggp310 := cFr_t ggp285 gp310
              refine tw_pop rfl ?_
              refine tw_push rfl ?_
              have hix : x.toNatClampNeg = (cs hp285).1 + k := zof_cl hx
              have hln := cNl ppp285 ((cFr_n ggp285).trans hN)
              have hTx : tA hp285 45 x.toNatClampNeg = T ((cs hp285).1 + k) := by rw [hix, ((cFr_T ggp285).trans hT)]
              have hnd : ¬ ((cs hp285).1 + k < n ∧ 48 ≤ (T ((cs hp285).1 + k)).toInt ∧ (T ((cs hp285).1 + k)).toInt ≤ 57) := by rw [← hTx]; omega
              have hrd : rD T n (cs hp285).1 = (cs hp285).1 + k := hd.symm.trans (rD_n hnd)
              have hpl := cPl ppp285
              have hbb : rB T n (cs h).1 = (cs hp285).1 := by rw [ssp285]; rfl
              have h400 := cP_400 ppp285
              rw [((cFr_n ggp285).trans hN)] at h400
              have hk0 : k ≠ 0 := fun z => q305 (Int32.toInt_inj.mp (by rw [hx, hpl, z]; rfl))
              have hsb : (x - tvI (tF hp285 44 2)).toInt = (((cs hp285).1 + k : Nat) : Int) - ((cs hp285).1 : Nat) := zsb hx hpl (by omega) (by omega)
              have z0 := q306
              have z1 := q308
              exact tw_iret rfl ⟨ggp310, Or.inr ⟨_, rM_b hbb hrd hk0 (by omega), rfl, cFt_of ppp285 up310 (w := 1) rfl (by decide)⟩⟩
        · try dsimp only [tvI_i, tvJ_j, tvR_r] at q305
          have q305i := zeqi rfl q305
          refine tw_aload rfl rfl ?_
          refine tw_aload rfl rfl ?_
          refine tw_getS rfl (hi_44_2 ggp285.1) ?_
          refine tw_push rfl ?_
          refine tw_virt2 rfl (f_refuse hG hX (ggp285).1 ppp285 ((cFr_T ggp285).trans hT) ((cFr_n ggp285).trans hN)) (fun wp311 hp311 p311 => ?_)
          obtain ⟨gp311, rfl, up311⟩ := p311
          have ggp311 := cFr_t ggp285 gp311
          refine tw_pop rfl ?_
          refine tw_push rfl ?_
          have hix : x.toNatClampNeg = (cs hp285).1 + k := zof_cl hx
          have hln := cNl ppp285 ((cFr_n ggp285).trans hN)
          have hTx : tA hp285 45 x.toNatClampNeg = T ((cs hp285).1 + k) := by rw [hix, ((cFr_T ggp285).trans hT)]
          have hnd : ¬ ((cs hp285).1 + k < n ∧ 48 ≤ (T ((cs hp285).1 + k)).toInt ∧ (T ((cs hp285).1 + k)).toInt ≤ 57) := by rw [← hTx]; omega
          have hrd : rD T n (cs hp285).1 = (cs hp285).1 + k := hd.symm.trans (rD_n hnd)
          have hpl := cPl ppp285
          have hbb : rB T n (cs h).1 = (cs hp285).1 := by rw [ssp285]; rfl
          have h400 := cP_400 ppp285
          rw [((cFr_n ggp285).trans hN)] at h400
          have hk0 : k = 0 := by have z : x.toInt = (tvI (tF hp285 44 2)).toInt := congrArg Int32.toInt q305; omega
          subst hk0
          exact tw_iret rfl ⟨ggp311, Or.inr ⟨_, rM_a hbb hrd, rfl, cFt_of ppp285 up311 (w := 0) rfl (by decide)⟩⟩
      · try dsimp only [tvI_i, tvJ_j, tvR_r] at q304
        refine tw_iload rfl rfl ?_
        refine tw_push rfl ?_
        refine tw_imul rfl ?_
        refine tw_aload rfl rfl ?_
        refine tw_getS rfl (hs_44_0 ggp285.1) ?_
        refine tw_iload rfl rfl ?_
        refine tw_bald rfl (fun f312 => ?_)
        refine tw_push rfl ?_
        refine tw_isub rfl ?_
        refine tw_iadd rfl ?_
        refine tw_push rfl ?_
        refine tw_imin rfl ?_
        refine tw_istore rfl ?_
        refine tw_iinc rfl rfl ?_
        refine tw_goto rfl ?_
        have hix : x.toNatClampNeg = (cs hp285).1 + k := zof_cl hx
        have hln := cNl ppp285 ((cFr_n ggp285).trans hN)
        have hTx : tA hp285 45 x.toNatClampNeg = T ((cs hp285).1 + k) := by rw [hix, ((cFr_T ggp285).trans hT)]
        have ht : 48 ≤ (T ((cs hp285).1 + k)).toInt ∧ (T ((cs hp285).1 + k)).toInt ≤ 57 := by rw [← hTx]; exact ⟨by omega, by omega⟩
        exact tG_cut (zW_mono zTt G dp) (Or.inr ⟨rfl, rfl, rfl, k + 1, _, _, _, zincL hx q286, by omega, (rD_y ⟨by omega, ht⟩).symm.trans hd, ((cNum (t := tA hp285 45 x.toNatClampNeg) hv (by rw [hTx]; exact ht)).trans (by rw [hTx]; rfl)), rfl⟩)
