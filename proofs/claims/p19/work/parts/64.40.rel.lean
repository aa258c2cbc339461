/-! what is answered: small helpers -/
noncomputable def tBo (P : Prop) (w : Option Value) : Prop := (P ∧ w = some (.int 1)) ∨ (¬ P ∧ w = some (.int 0))
theorem tBo_i {P R : Prop} {w : Option Value} (e : P ↔ R) (k : tBo P w) : tBo R w := k.imp (fun z => ⟨e.mp z.1, z.2⟩) (fun z => ⟨fun y => z.1 (e.mpr y), z.2⟩)
theorem zpB_c {b : Int × Int} {r : List (Int × Int)} {xs : List Int32} (h : zpB (b :: r) xs) : ∃ x ys, xs = x :: ys ∧ (b.1 ≤ x.toInt ∧ x.toInt ≤ b.2) ∧ zpB r ys := by
  obtain ⟨lo, hi⟩ := b
  cases xs with
  | nil => exact h.elim
  | cons x ys => exact ⟨x, ys, rfl, h.1, h.2⟩
theorem zpB_n {xs : List Int32} (h : zpB [] xs) : xs = [] := by
  cases xs with
  | nil => rfl
  | cons x ys => exact h.elim
theorem zclx {x : Int32} (h : 0 ≤ x.toInt) : (x.toNatClampNeg : Int) = x.toInt := by
  show ((x.toInt.toNat : Nat) : Int) = _
  omega
theorem zclE {x : Int32} : x.toNatClampNeg = x.toInt.toNat := rfl
theorem zeqi {x y : Int32} {Y : Int} (hy : y.toInt = Y) (h : x = y) : x.toInt = Y := by rw [h]; exact hy
theorem zneq {x y : Int32} {Y : Int} (hy : y.toInt = Y) (h : ¬ x = y) : x.toInt ≠ Y := fun z => h (Int32.toInt_inj.mp (z.trans hy.symm))
theorem zsub1 {x : Int32} (h : 0 ≤ x.toInt) : (x - 1).toInt = x.toInt - 1 := by
  have := Int32.toInt_lt x
  rw [Int32.toInt_sub]
  exact Int.bmod_eq_of_le (by show (-2147483648 : Int) ≤ x.toInt - 1; omega) (by show x.toInt - 1 < (2147483648 : Int); omega)
noncomputable def tRwl : List (Nat × Nat) := [(4, 5), (14, 15), (27, 28), (97, 98)]
noncomputable def tRw (h : zH) : Prop := ∀ q ∈ tRwl, ∀ i, i < tN h q.1 → tO h q.1 i = some (q.2 + i)
theorem tRw_A {h : zH} {r i : Nat} {x : Int32} (k : tRw h) : tRw (tSA h r i x) := by unfold tRw; rw [tO_tSA, tN_tSA]; exact k
theorem tRw_J {h : zH} {r i : Nat} {x : Int64} (k : tRw h) : tRw (tSJ h r i x) := by unfold tRw; rw [tO_tSJ, tN_tSJ]; exact k
theorem tRw_F {h : zH} {r b : Nat} {w : Value} (k : tRw h) : tRw (tSF h r b w) := by unfold tRw; rw [tO_tSF, tN_tSF]; exact k
theorem tRw_at {h : zH} (k : tRw h) {p q : Nat} (hm : (p, q) ∈ tRwl) {i : Int32} (z : tInO h p i) : zrf (tO h p i.toNatClampNeg) = .ref (q + i.toNatClampNeg) := by
  rw [k (p, q) hm _ z.rg.2]
  rfl
theorem tfr_N {xs : Nat → Int32} {τ : List Nat} {h h2 : zH} {W : Nat → Nat → Bool} {p t : Nat} (hB : zBs xs τ h) (hf : yFr W τ h h2) (ht : zTG[p]? = some t) : tN h2 p = tN h p := by
  obtain ⟨ct, c, a1, a2, -⟩ := hB.1.2 _ _ (hB.2.1 _ _ ht)
  obtain ⟨c2, b1, b2⟩ := hf _ _ _ (hB.2.1 _ _ ht) a2
  unfold tN
  rw [a2, b1]
  match c, c2, b2 with
  | .inr (x, fs), .inr (y, gs), b2 => rfl
  | .inl (k, N, x), .inl (k2, N2, y), b2 => exact b2.2.1.symm
theorem tfr_Fs {xs : Nat → Int32} {τ : List Nat} {h h2 : zH} {W : Nat → Nat → Bool} {p t b : Nat} (hB : zBs xs τ h) (hf : yFr W τ h h2) (ht : τ[p]? = some t) (hW : W t b = false) : tF h2 p b = tF h p b := by
  obtain ⟨ct, c, a1, a2, -⟩ := hB.1.2 _ _ ht
  obtain ⟨c2, b1, b2⟩ := hf _ _ _ ht a2
  unfold tF
  rw [a2, b1]
  match c, c2, b2 with
  | .inr (x, fs), .inr (y, gs), b2 =>
    dsimp only
    rw [List.getD_eq_getElem?_getD, List.getD_eq_getElem?_getD, b2.2.2 b hW]
  | .inl (k, N, x), .inl (k2, N2, y), b2 => rfl
theorem car_tag {xs : Nat → Int32} {τ : List Nat} {h : zH} (hB : zBs xs τ h) {i r : Nat} (hi : (i : Int) < (tvI (tF h 36 4)).toInt) (hr : tO h 39 i = some r) : τ[r]? = some 150 := by
  have hn := (kb_36_4 hB).2
  obtain ⟨a, b, c⟩ := tkd_o hB (p := 39) (t := 15) rfl rfl
  obtain ⟨-, -, c3⟩ := c i (by omega)
  rw [hr] at c3
  rcases c3 with z | z | z
  · cases z
  · have : zoi (some r) = (r : Int) := rfl
    omega
  · exact z
theorem car_lt {xs : Nat → Int32} {τ : List Nat} {h : zH} (hB : zBs xs τ h) {i r : Nat} (hi : (i : Int) < (tvI (tF h 36 4)).toInt) (hr : tO h 39 i = some r) : r < h.length := by
  have z := car_tag hB hi hr
  rcases Nat.lt_or_ge r τ.length with q | q
  · have := hB.1.1; omega
  · rw [List.getElem?_eq_none q] at z; cases z
theorem car_ne {xs : Nat → Int32} {τ : List Nat} {h : zH} (hB : zBs xs τ h) {i r : Nat} (hi : (i : Int) < (tvI (tF h 36 4)).toInt) (hr : tO h 39 i = some r) {p t : Nat} (ht : zTG[p]? = some t) (hn : t ≠ 150) : r ≠ p := by
  intro e
  subst e
  have z := car_tag hB hi hr
  rw [hB.2.1 _ _ ht] at z
  cases z
  exact hn rfl
theorem zBs_len {xs : Nat → Int32} {τ : List Nat} {h : zH} (hB : zBs xs τ h) : 182 ≤ h.length := by
  have z := hB.2.1 181 149 rfl
  rcases Nat.lt_or_ge 181 τ.length with q | q
  · have := hB.1.1; omega
  · rw [List.getElem?_eq_none q] at z; cases z
/-- a count: what is told is the next of so many, or none -/
noncomputable def phN (p b : Nat) (C : Prop) (h : zH) (w : Option Value) (h2 : zH) : Prop := (C ∧ w = some (tF h p b) ∧ tF h2 p b = .int (tvI (tF h p b) + 1)) ∨ (¬ C ∧ w = some (.int (-1)) ∧ tF h2 p b = tF h p b)
theorem phN_a {p b q c : Nat} {C D : Prop} {h h2 h3 : zH} {w w2 : Option Value} (hR : tF h p b = tF h q c) (e1 : tF h2 q c = tF h q c) (e2 : tF h3 p b = tF h2 p b) (hCD : C ↔ D) (k1 : phN p b C h w h2) (k2 : phN q c D h2 w2 h3) : w2 = w ∧ tF h3 p b = tF h3 q c := by
  rcases k1 with ⟨c1, rfl, f1⟩ | ⟨c1, rfl, f1⟩ <;> rcases k2 with ⟨c2, rfl, f2⟩ | ⟨c2, rfl, f2⟩
  · rw [e2, f1, f2, e1, hR]
    exact ⟨rfl, rfl⟩
  · exact absurd (hCD.mp c1) c2
  · exact absurd (hCD.mpr c2) c1
  · rw [e2, f1, f2, e1, hR]
    exact ⟨rfl, rfl⟩
theorem zi1 {x : Int32} : x + 1 - 1 = x := Int32.add_sub_cancel x 1
/-- a count and what is told in arrays at its place -/
noncomputable def phA (p b : Nat) (C : Prop) (l : List (Nat × Int32)) (h : zH) (w : Option Value) (h2 : zH) : Prop := (C ∧ w = some (tF h p b) ∧ tF h2 p b = .int (tvI (tF h p b) + 1) ∧ ∀ q ∈ l, tA h2 q.1 = fun j => if j = (tvI (tF h p b)).toNatClampNeg then q.2 else tA h q.1 j) ∨ (¬ C ∧ w = some (.int (-1)) ∧ tF h2 p b = tF h p b ∧ ∀ q ∈ l, tA h2 q.1 = tA h q.1)
theorem phA_a {p b q c : Nat} {C D : Prop} {l m : List (Nat × Int32)} {h h2 h3 : zH} {w w2 : Option Value} (hR : tF h p b = tF h q c) (e1 : tF h2 q c = tF h q c) (e2 : tF h3 p b = tF h2 p b) (hCD : C ↔ D) (k1 : phA p b C l h w h2) (k2 : phA q c D m h2 w2 h3) : w2 = w ∧ tF h3 p b = tF h3 q c ∧ ∀ P Q v, (P, v) ∈ l → (Q, v) ∈ m → tA h P = tA h Q → tA h2 Q = tA h Q → tA h3 P = tA h2 P → tA h3 P = tA h3 Q := by
  rcases k1 with ⟨c1, rfl, f1, g1⟩ | ⟨c1, rfl, f1, g1⟩ <;> rcases k2 with ⟨c2, rfl, f2, g2⟩ | ⟨c2, rfl, f2, g2⟩
  · refine ⟨by rw [e1, hR], by rw [e2, f1, f2, e1, hR], fun P Q v hP hQ a1 a2 a3 => ?_⟩
    rw [a3, g1 _ hP, g2 _ hQ, e1, ← hR]
    dsimp only
    rw [a1, a2]
  · exact absurd (hCD.mp c1) c2
  · exact absurd (hCD.mpr c2) c1
  · refine ⟨rfl, by rw [e2, f1, f2, e1, hR], fun P Q v hP hQ a1 a2 a3 => ?_⟩
    have h1 := g1 _ hP
    have h2 := g2 _ hQ
    dsimp only at h1 h2
    rw [a3, h1, h2, a1, a2]
theorem tA_st {h : zH} {r i : Nat} {x : Int32} {kd : Nat} {z : Int32} (hf : tIn h r kd z) {f : Nat → Int32} (k : tA h r = f) : tA (tSA h r i x) r = fun j => if j = i then x else f j := by
  rw [tA_tSA hf.cell]
  funext j
  dsimp only
  rw [k]
  by_cases e : j = i
  · rw [if_pos ⟨rfl, e⟩, if_pos e]
  · rw [if_neg (fun z => e z.2), if_neg e]
theorem tA_n {h : zH} {r i p : Nat} {x : Int32} {f : Nat → Int32} (hn : p ≠ r) (k : tA h p = f) : tA (tSA h r i x) p = f := by rw [tA_nz hn]; exact k
theorem tA_ff {h : zH} {r b p : Nat} {w : Value} {f : Nat → Int32} (k : tA h p = f) : tA (tSF h r b w) p = f := by rw [tA_tSF]; exact k
theorem tA_jj {h : zH} {r i p : Nat} {x : Int64} {f : Nat → Int32} (k : tA h p = f) : tA (tSJ h r i x) p = f := by rw [tA_tSJ]; exact k
theorem tA_oo {h : zH} {r i p : Nat} {x : Option Nat} {f : Nat → Int32} (k : tA h p = f) : tA (tSO h r i x) p = f := by rw [tA_tSO]; exact k
noncomputable def R_now (h : zH) : Prop := tF h 0 14 = tF h 111 1
noncomputable def ph_clock (p b : Nat) (month : Int32) (h : zH) (w : Option Value) (h2 : zH) : Prop := (((tvI (tF h p b)).toInt ≤ month.toInt ∧ month.toInt ≤ 599) ∧ w = some (.int 1) ∧ tF h2 p b = .int month) ∨ (¬ ((tvI (tF h p b)).toInt ≤ month.toInt ∧ month.toInt ≤ 599) ∧ w = some (.int 0) ∧ tF h2 p b = tF h p b)
theorem f_isWithin {G : zG} (hG : G.1 = zProg) {h : zH} {n lo hi : Int32} {LO HI : Int} (hlo : lo.toInt = LO) (hhi : hi.toInt = HI) : tC zTt G 158 [.int n, .int lo, .int hi] h (fun w h2 => tBo (LO ≤ n.toInt ∧ n.toInt ≤ HI) w ∧ h2 = h) := by
  refine tC_in (by rw [hG]; rfl) (fun dp => ?_)
  refine tw_iload rfl rfl ?_
  refine tw_iload rfl rfl ?_
  refine tw_ic_lt rfl (fun q1 => ?_) (fun q1 => ?_)
  · try dsimp only [tvI_i, tvJ_j, tvR_r] at q1
    refine tw_push rfl ?_
    exact tw_iret rfl ⟨Or.inr ⟨by omega, rfl⟩, rfl⟩
  · try dsimp only [tvI_i, tvJ_j, tvR_r] at q1
    refine tw_iload rfl rfl ?_
    refine tw_iload rfl rfl ?_
    refine tw_ic_gt rfl (fun q2 => ?_) (fun q2 => ?_)
    · try dsimp only [tvI_i, tvJ_j, tvR_r] at q2
      refine tw_push rfl ?_
      exact tw_iret rfl ⟨Or.inr ⟨by omega, rfl⟩, rfl⟩
    · try dsimp only [tvI_i, tvJ_j, tvR_r] at q2
      refine tw_push rfl ?_
      refine tw_goto rfl ?_
      exact tw_iret rfl ⟨Or.inl ⟨by omega, rfl⟩, rfl⟩
theorem f_isMonth {G : zG} (hG : G.1 = zProg) {h : zH} {n : Int32} : tC zTt G 159 [.int n] h (fun w h2 => tBo (0 ≤ n.toInt ∧ n.toInt ≤ 599) w ∧ h2 = h) := by
  refine tC_in (by rw [hG]; rfl) (fun dp => ?_)
  refine tw_iload rfl rfl ?_
  refine tw_push rfl ?_
  refine tw_push rfl ?_
  refine tw_stat3 rfl (f_isWithin hG (LO := 0) (HI := 599) (by decide) (by decide)) (fun w9 h9 p3 => ?_)
  obtain ⟨⟨p3, rfl⟩ | ⟨p3, rfl⟩, rfl⟩ := p3
  · try dsimp only [tvI_i, tvJ_j, tvR_r] at p3
    exact tw_iret rfl ⟨Or.inl ⟨p3, rfl⟩, rfl⟩
  · try dsimp only [tvI_i, tvJ_j, tvR_r] at p3
    exact tw_iret rfl ⟨Or.inr ⟨p3, rfl⟩, rfl⟩
theorem f_clock {G : zG} (hG : G.1 = zProg) {h : zH} {month : Int32} (hs : tSh h) (hk : 0 ≤ (tvI (tF h 0 14)).toInt) : tC zTt G 110 [.ref 0, .int month] h (ph_clock 0 14 month h) := by
  refine tC_in (by rw [hG]; rfl) (fun dp => ?_)
  refine tw_iload rfl rfl ?_
  refine tw_stat1 rfl (f_isMonth hG) (fun w9 h9 p4 => ?_)
  obtain ⟨⟨p4, rfl⟩ | ⟨p4, rfl⟩, rfl⟩ := p4
  · try dsimp only [tvI_i, tvJ_j, tvR_r] at p4
    refine tw_if_eq rfl (fun z => absurd z (by decide)) (fun _ => ?_)
    refine tw_iload rfl rfl ?_
    refine tw_aload rfl rfl ?_
    refine tw_getS rfl (hi_0_14 hs) ?_
    refine tw_ic_ge rfl (fun q5 => ?_) (fun q5 => ?_)
    · try dsimp only [tvI_i, tvJ_j, tvR_r] at q5
      refine tw_aload rfl rfl ?_
      refine tw_iload rfl rfl ?_
      refine tw_put rfl (fun f6 => ?_)
      refine tw_push rfl ?_
      exact tw_iret rfl (Or.inl ⟨by omega, rfl, (tF_same f6)⟩)
    · try dsimp only [tvI_i, tvJ_j, tvR_r] at q5
      refine tw_push rfl ?_
      exact tw_iret rfl (Or.inr ⟨by omega, rfl, rfl⟩)
  · try dsimp only [tvI_i, tvJ_j, tvR_r] at p4
    refine tw_if_eq rfl (fun _ => ?_) (fun z => absurd z (by decide))
    refine tw_push rfl ?_
    exact tw_iret rfl (Or.inr ⟨by omega, rfl, rfl⟩)
theorem f_in {G : zG} (hG : G.1 = zProg) {h : zH} {x lo hi : Int64} {X LO HI : Int} (hx : x.toInt = X) (hlo : lo.toInt = LO) (hhi : hi.toInt = HI) : tC zTt G 171 [.long x, .long lo, .long hi] h (fun w h2 => tBo (LO ≤ X ∧ X ≤ HI) w ∧ h2 = h) := by
  refine tC_in (by rw [hG]; rfl) (fun dp => ?_)
  refine tw_lload rfl rfl ?_
  refine tw_lload rfl rfl ?_
  refine tw_lc_lt rfl rfl (fun q7 => ?_) (fun q7 => ?_)
  · try dsimp only [tvI_i, tvJ_j, tvR_r] at q7
    refine tw_push rfl ?_
    exact tw_iret rfl ⟨Or.inr ⟨by omega, rfl⟩, rfl⟩
  · try dsimp only [tvI_i, tvJ_j, tvR_r] at q7
    refine tw_lload rfl rfl ?_
    refine tw_lload rfl rfl ?_
    refine tw_lc_gt rfl rfl (fun q8 => ?_) (fun q8 => ?_)
    · try dsimp only [tvI_i, tvJ_j, tvR_r] at q8
      refine tw_push rfl ?_
      exact tw_iret rfl ⟨Or.inr ⟨by omega, rfl⟩, rfl⟩
    · try dsimp only [tvI_i, tvJ_j, tvR_r] at q8
      refine tw_push rfl ?_
      refine tw_goto rfl ?_
      exact tw_iret rfl ⟨Or.inl ⟨by omega, rfl⟩, rfl⟩
theorem g_clock {G : zG} (hG : G.1 = zProg) {h : zH} {month : Int32} (hs : tSh h) : tC zTt G 174 [.ref 111, .int month] h (ph_clock 111 1 month h) := by
  refine tC_in (by rw [hG]; rfl) (fun dp => ?_)
  refine tw_iload rfl rfl ?_
  refine tw_i2l rfl ?_
  refine tw_aload rfl rfl ?_
  refine tw_getS rfl (hi_111_1 hs) ?_
  refine tw_i2l rfl ?_
  refine tw_push rfl ?_
  refine tw_stat3 rfl (f_in hG   (HI := 599) (Int32.toInt_toInt64 _) (Int32.toInt_toInt64 _) (by decide)) (fun w9 h9 p9 => ?_)
  obtain ⟨⟨p9, rfl⟩ | ⟨p9, rfl⟩, rfl⟩ := p9
  · try dsimp only [tvI_i, tvJ_j, tvR_r] at p9
    refine tw_if_ne rfl (fun _ => ?_) (fun z => absurd z (by decide))
    refine tw_aload rfl rfl ?_
    refine tw_iload rfl rfl ?_
    refine tw_put rfl (fun f10 => ?_)
    refine tw_push rfl ?_
    exact tw_iret rfl (Or.inl ⟨by omega, rfl, (tF_same f10)⟩)
  · try dsimp only [tvI_i, tvJ_j, tvR_r] at p9
    refine tw_if_ne rfl (fun z => absurd z (by decide)) (fun _ => ?_)
    refine tw_push rfl ?_
    exact tw_iret rfl (Or.inr ⟨by omega, rfl, rfl⟩)
theorem a_clock {month : Int32} {h h2 h3 : zH} {w w2 : Option Value} (hR : R_now h) (e1 : tF h2 111 1 = tF h 111 1) (e2 : tF h3 0 14 = tF h2 0 14) (k1 : ph_clock 0 14 month h w h2) (k2 : ph_clock 111 1 month h2 w2 h3) : w2 = w ∧ R_now h3 := by
  unfold R_now at *
  unfold ph_clock at k1 k2
  rw [e1, ← hR] at k2
  rw [e2]
  rcases k1 with ⟨c1, rfl, f1⟩ | ⟨c1, rfl, f1⟩ <;> rcases k2 with ⟨c2, rfl, f2⟩ | ⟨c2, rfl, f2⟩
  · exact ⟨rfl, f1.trans f2.symm⟩
  · exact absurd c1 c2
  · exact absurd c2 c1
  · exact ⟨rfl, f1.trans f2.symm⟩
/-- the begin of a step behind the first n -/
noncomputable def sBe (m : Int32) (e : Nat → Int32) : Nat → Int32
  | 0 => 0
  | n + 1 => if (m >>> (Int32.ofNat n &&& 31)) &&& 1 = 1 then (if sBe m e n < e n then e n else sBe m e n) else sBe m e n
theorem zof {x : Int32} {n : Nat} (h : x.toInt = n) : x = Int32.ofNat n := by
  have hx := Int32.toInt_lt x
  exact Int32.toInt_inj.mp (h.trans (yofN (by omega)).symm)
theorem zof_cl {x : Int32} {n : Nat} (h : x.toInt = n) : x.toNatClampNeg = n := by rw [zclE, h]; rfl
theorem zincN {x : Int32} {n : Nat} (h : x.toInt = n) (hn : n < 2147483647) : (x + 1).toInt = ((n + 1 : Nat) : Int) := by
  rw [Int32.toInt_add, h]
  exact Int.bmod_eq_of_le (by show (-2147483648 : Int) ≤ (n : Int) + 1; omega) (by show (n : Int) + 1 < (2147483648 : Int); omega)
theorem zen {x y : Int32} {n : Nat} (hx : x.toInt = n) (hn : (n : Int) ≤ y.toInt) (hq : y.toInt ≤ x.toInt) : n = y.toNatClampNeg := by
  rw [zclE]
  omega
theorem zincL {x y : Int32} {n : Nat} (h : x.toInt = n) (hy : x.toInt < y.toInt) : (x + 1).toInt = ((n + 1 : Nat) : Int) := zincN h (by have := Int32.toInt_lt y; omega)
theorem f_isBehind {G : zG} (hG : G.1 = zProg) {h : zH} {s k : Int32} (hs : tSh h) : tC zTt G 49 [.ref 81, .int s, .int k] h (fun w h2 => tBo ((tA h 84 s.toNatClampNeg >>> (k &&& 31)) &&& 1 = 1) w ∧ h2 = h) := by
  refine tC_in (by rw [hG]; rfl) (fun dp => ?_)
  refine tw_aload rfl rfl ?_
  refine tw_getS rfl (hs_81_2 hs) ?_
  refine tw_iload rfl rfl ?_
  refine tw_iald rfl (fun f11 => ?_)
  refine tw_iload rfl rfl ?_
  refine tw_ishr rfl ?_
  refine tw_push rfl ?_
  refine tw_iand rfl ?_
  refine tw_push rfl ?_
  refine tw_ic_ne rfl (fun q12 => ?_) (fun q12 => ?_)
  · try dsimp only [tvI_i, tvJ_j, tvR_r] at q12
    have q12i := zneq (Y := 1) (by decide) q12
    refine tw_push rfl ?_
    exact tw_iret rfl ⟨Or.inr ⟨q12, rfl⟩, rfl⟩
  · try dsimp only [tvI_i, tvJ_j, tvR_r] at q12
    have q12i := zeqi (Y := 1) (by decide) q12
    refine tw_push rfl ?_
    refine tw_goto rfl ?_
    exact tw_iret rfl ⟨Or.inl ⟨q12, rfl⟩, rfl⟩
theorem sBe_y {m : Int32} {e : Nat → Int32} {n : Nat} (h : (m >>> (Int32.ofNat n &&& 31)) &&& 1 = 1) (hn : (Int32.ofNat n).toNatClampNeg = n) : sBe m e (n + 1) = if sBe m e n < e (Int32.ofNat n).toNatClampNeg then e (Int32.ofNat n).toNatClampNeg else sBe m e n := by
  rw [hn]
  show (if _ then _ else _) = _
  rw [if_pos h]
theorem sBe_n {m : Int32} {e : Nat → Int32} {n : Nat} (h : ¬ (m >>> (Int32.ofNat n &&& 31)) &&& 1 = 1) : sBe m e (n + 1) = sBe m e n := by
  show (if _ then _ else _) = _
  rw [if_neg h]
theorem f_beginOf {G : zG} (hG : G.1 = zProg) {h : zH} {s : Int32} {P : Nat} (hs : tSh h) (h0 : 0 ≤ s.toInt) : tC zTt G 48 [.ref 81, .int s, .ref P] h (fun w h2 => w = some (.int (sBe (tA h 84 s.toNatClampNeg) (tA h P) s.toNatClampNeg)) ∧ h2 = h) := by
  refine tC_in (by rw [hG]; rfl) (fun dp => ?_)
  refine tw_push rfl ?_
  refine tw_istore rfl ?_
  refine tw_push rfl ?_
  refine tw_istore rfl ?_
  refine tG_loop (zW_mono zTt G dp) (zW_conj zTt G dp) (V := fun pc L st h9 _ _ => pc = 5 ∧ st = [] ∧ h = h9 ∧ ∃ (k : Nat) (x : Int32), x.toInt = k ∧ (k : Int) ≤ s.toInt ∧ L = [some (.ref 81), some (.int s), some (.ref P), some (.int (sBe (tA h 84 s.toNatClampNeg) (tA h P) k)), some (.int x)]) ?_ (⟨rfl, rfl, rfl, 0, 0, rfl, h0, rfl⟩)
  rintro _ _ _ _ _ _ ⟨rfl, rfl, rfl, k, x, hx, hk, rfl⟩
  refine tw_iload rfl rfl ?_
  refine tw_iload rfl rfl ?_
  refine tw_ic_ge rfl (fun q13 => ?_) (fun q13 => ?_)
  · try dsimp only [tvI_i, tvJ_j, tvR_r] at q13
    refine tw_iload rfl rfl ?_
    exact tw_iret rfl ⟨by rw [show k = s.toNatClampNeg from by rw [zclE]; omega]; rfl, rfl⟩
  · try dsimp only [tvI_i, tvJ_j, tvR_r] at q13
    refine tw_aload rfl rfl ?_
    refine tw_iload rfl rfl ?_
    refine tw_iload rfl rfl ?_
    refine tw_virt2 rfl (f_isBehind hG hs) (fun w9 h9 p14 => ?_)
    obtain ⟨⟨p14, rfl⟩ | ⟨p14, rfl⟩, rfl⟩ := p14
    · try dsimp only [tvI_i, tvJ_j, tvR_r] at p14
      refine tw_if_eq rfl (fun z => absurd z (by decide)) (fun _ => ?_)
      refine tw_iload rfl rfl ?_
      refine tw_aload rfl rfl ?_
      refine tw_iload rfl rfl ?_
      refine tw_iald rfl (fun f15 => ?_)
      refine tw_imax rfl ?_
      refine tw_istore rfl ?_
      refine tw_iinc rfl rfl ?_
      refine tw_goto rfl ?_
      have hk := zof hx
      subst hk
      exact tG_cut (zW_mono zTt G dp) (Or.inr ⟨rfl, rfl, rfl, k + 1, _, zincN hx (by have := Int32.toInt_lt s; omega), by omega, by rw [sBe_y p14 (zof_cl hx)]; rfl⟩)
    · try dsimp only [tvI_i, tvJ_j, tvR_r] at p14
      refine tw_if_eq rfl (fun _ => ?_) (fun z => absurd z (by decide))
      refine tw_iinc rfl rfl ?_
      refine tw_goto rfl ?_
      have hk := zof hx
      subst hk
      exact tG_cut (zW_mono zTt G dp) (Or.inr ⟨rfl, rfl, rfl, k + 1, _, zincN hx (by have := Int32.toInt_lt s; omega), by omega, by rw [sBe_n p14]; rfl⟩)
theorem tC.and {tt : zT} {G : zG} {j : Nat} {as : List Value} {h : zH} {P Q : zQ} (k1 : tC tt G j as h P) (k2 : tC tt G j as h Q) : tC tt G j as h (fun w h2 => P w h2 ∧ Q w h2) := fun d z => zW_conj tt G d _ _ _ _ _ (k1 d z) (k2 d z)
theorem sBe_u {m : Int32} {e : Nat → Int32} {n : Nat} : sBe m e (n + 1) = if (m >>> (Int32.ofNat n &&& 31)) &&& 1 = 1 then (if sBe m e n < e n then e n else sBe m e n) else sBe m e n := rfl
theorem sBe_congr {m : Int32} {e e2 : Nat → Int32} : ∀ {n : Nat}, (∀ i, i < n → e i = e2 i) → sBe m e n = sBe m e2 n
  | 0, _ => rfl
  | n + 1, hh => by
    have h1 := sBe_congr (m := m) (n := n) (fun i hi => hh i (by omega))
    rw [sBe_u, sBe_u, h1, hh n (by omega)]
theorem sBe_s1 {m X : Int32} {e : Nat → Int32} {n : Nat} (hb : (m >>> (Int32.ofNat n &&& 31)) &&& 1 = 1) (hX : X = sBe m e n) (hl : X.toInt < (e n).toInt) : e n = sBe m e (n + 1) := by
  rw [sBe_u, if_pos hb, ← hX, if_pos (Int32.lt_iff_toInt_lt.mpr hl)]
theorem sBe_s2 {m X : Int32} {e : Nat → Int32} {n : Nat} (hb : (m >>> (Int32.ofNat n &&& 31)) &&& 1 = 1) (hX : X = sBe m e n) (hl : (e n).toInt ≤ X.toInt) : X = sBe m e (n + 1) := by
  rw [sBe_u, if_pos hb, ← hX, if_neg (fun z => by have := Int32.lt_iff_toInt_lt.mp z; omega)]
theorem sBe_s3 {m X : Int32} {e : Nat → Int32} {n : Nat} (hb : ¬ (m >>> (Int32.ofNat n &&& 31)) &&& 1 = 1) (hX : X = sBe m e n) : X = sBe m e (n + 1) := by
  rw [sBe_u, if_neg hb, ← hX]
/-- two lists of ends that are found alike are alike -/
theorem sUniq {be : Nat → Int32} {l l2 E E2 : Nat → Int32} {n : Nat} (hl : ∀ j, j < n → l j = l2 j) (h1 : ∀ j, j < n → E j = sBe (be j) E j + l j) (h2 : ∀ j, j < n → E2 j = sBe (be j) E2 j + l2 j) : ∀ j, j < n → E j = E2 j := by
  have key : ∀ k, k ≤ n → ∀ j, j < k → E j = E2 j := by
    intro k
    induction k with
    | zero => intro _ j hj; omega
    | succ k ih =>
      intro hk j hj
      by_cases e : j = k
      · subst e
        rw [h1 j (by omega), h2 j (by omega), hl j (by omega), sBe_congr (ih (by omega))]
      · exact ih (by omega) j (by omega)
  exact key n (Nat.le_refl n)
noncomputable def gLen (fi mo : Nat → Int32) (w : Int32) (j : Nat) : Int32 := if fi j = w then 0 else mo j
theorem gLen_y {fi mo : Nat → Int32} {w : Int32} {j : Nat} (h : fi j = w) : (0 : Int32) = gLen fi mo w j := by unfold gLen; rw [if_pos h]
theorem gLen_n {fi mo : Nat → Int32} {w : Int32} {j : Nat} (h : ¬ fi j = w) : mo j = gLen fi mo w j := by unfold gLen; rw [if_neg h]
noncomputable def gEnd (B l : Nat → Int32) : Nat → Int32
  | 0 => 0
  | n + 1 => B n + l n
noncomputable def gP (be l B : Nat → Int32) (k : Nat) : Prop := ∀ j, j < k → B j = sBe (be j) (fun i => B i + l i) j
theorem gP_E {be l B : Nat → Int32} {k : Nat} (h : gP be l B k) : ∀ j, j < k → (fun i => B i + l i) j = sBe (be j) (fun i => B i + l i) j + l j := by
  intro j hj
  show B j + l j = _
  rw [← h j hj]
theorem gP_st {be l B : Nat → Int32} {k m : Nat} {X : Int32} (h : gP be l B k) (hm : m ≤ k) (hX : X = sBe (be k) (fun i => B i + l i) m) : gP be l (fun j => if j = k then X else B j) k ∧ (fun j => if j = k then X else B j) k = sBe (be k) (fun i => (fun j => if j = k then X else B j) i + l i) m := by
  refine ⟨fun j hj => ?_, ?_⟩
  · show (if j = k then X else B j) = sBe _ (fun i => (if i = k then X else B i) + l i) j
    rw [if_neg (by omega), h j hj]
    exact sBe_congr (fun i hi => by
      show _ = (if i = k then X else B i) + l i
      rw [if_neg (by omega)])
  · show (if k = k then X else B k) = sBe _ (fun i => (if i = k then X else B i) + l i) m
    rw [if_pos rfl, hX]
    exact sBe_congr (fun i hi => by
      show _ = (if i = k then _ else B i) + l i
      rw [if_neg (by omega)])
noncomputable def gFr (q : Nat) (h h1 : zH) : Prop := tF h1 = tF h ∧ ∀ p, p ≠ q → tA h1 p = tA h p
theorem gFr_A {q a : Nat} {h h1 : zH} {X : Int32} (k : gFr q h h1) : gFr q h (tSA h1 q a X) := ⟨(tF_tSA _ _ _ _).trans k.1, fun p hp => (tA_nz hp).trans (k.2 p hp)⟩
noncomputable def gIn (h h1 : zH) (w : Int32) (k i : Nat) : Prop := gFr 171 h h1 ∧ gP (tA h 169) (gLen (tA h 168) (tA h 167) w) (tA h1 171) k ∧ tA h1 171 k = sBe (tA h 169 k) (fun j => tA h1 171 j + gLen (tA h 168) (tA h 167) w j) i
noncomputable def gOut (h h1 : zH) (w : Int32) (k : Nat) (e : Int32) : Prop := gFr 171 h h1 ∧ gP (tA h 169) (gLen (tA h 168) (tA h 167) w) (tA h1 171) k ∧ e = gEnd (tA h1 171) (gLen (tA h 168) (tA h 167) w) k
section GG
variable {h h1 : zH} {w x y v X : Int32} {k i kd : Nat} {z : Int32}
theorem g_st (hF : gFr 171 h h1) (hP : gP (tA h 169) (gLen (tA h 168) (tA h 167) w) (tA h1 171) k) (hx : x.toInt = k) (hf : tIn h1 171 kd z) (hi : i ≤ k) (hX : X = sBe (tA h 169 k) (fun j => tA h1 171 j + gLen (tA h 168) (tA h 167) w j) i) : gIn h (tSA h1 171 x.toNatClampNeg X) w k i := by
  have e : tA (tSA h1 171 x.toNatClampNeg X) 171 = fun j => if j = k then X else tA h1 171 j := by
    rw [zof_cl hx]
    exact tA_st hf rfl
  refine ⟨gFr_A hF, ?_⟩
  rw [e]
  exact gP_st hP hi hX
theorem g_len1 (hF : gFr 171 h h1) (hx : x.toInt = k) (q : tA h1 168 x.toNatClampNeg = w) : (0 : Int32) = gLen (tA h 168) (tA h 167) w k := gLen_y (by rw [← hF.2 168 (by decide), ← zof_cl hx]; exact q)
theorem g_len2 (hF : gFr 171 h h1) (hx : x.toInt = k) (q : ¬ tA h1 168 x.toNatClampNeg = w) : tA h1 167 x.toNatClampNeg = gLen (tA h 168) (tA h 167) w k := by
  rw [hF.2 168 (by decide), zof_cl hx] at q
  rw [hF.2 167 (by decide), zof_cl hx]
  exact gLen_n q
theorem gX_a (hI : gIn h h1 w k i) (hx : x.toInt = k) (hy : y.toInt = i) (hv : v = gLen (tA h 168) (tA h 167) w i) (qb : (tA h1 169 x.toNatClampNeg >>> (y &&& 31)) &&& 1 = 1) (ql : (tA h1 171 x.toNatClampNeg).toInt < (tA h1 171 y.toNatClampNeg + v).toInt) : tA h1 171 y.toNatClampNeg + v = sBe (tA h 169 k) (fun j => tA h1 171 j + gLen (tA h 168) (tA h 167) w j) (i + 1) := by
  rw [hI.1.2 169 (by decide), zof_cl hx, zof hy] at qb
  rw [zof_cl hx, zof_cl hy, hv] at ql
  rw [zof_cl hy, hv]
  exact sBe_s1 (e := fun j => tA h1 171 j + gLen (tA h 168) (tA h 167) w j) (n := i) qb hI.2.2 ql
theorem gX_b (hI : gIn h h1 w k i) (hx : x.toInt = k) (hy : y.toInt = i) (hv : v = gLen (tA h 168) (tA h 167) w i) (qb : (tA h1 169 x.toNatClampNeg >>> (y &&& 31)) &&& 1 = 1) (ql : (tA h1 171 y.toNatClampNeg + v).toInt ≤ (tA h1 171 x.toNatClampNeg).toInt) : tA h1 171 x.toNatClampNeg = sBe (tA h 169 k) (fun j => tA h1 171 j + gLen (tA h 168) (tA h 167) w j) (i + 1) := by
  rw [hI.1.2 169 (by decide), zof_cl hx, zof hy] at qb
  rw [zof_cl hx, zof_cl hy, hv] at ql
  rw [zof_cl hx]
  exact sBe_s2 (e := fun j => tA h1 171 j + gLen (tA h 168) (tA h 167) w j) (n := i) qb hI.2.2 ql
theorem gX_c (hI : gIn h h1 w k i) (hx : x.toInt = k) (hy : y.toInt = i) (qb : ¬ (tA h1 169 x.toNatClampNeg >>> (y &&& 31)) &&& 1 = 1) : tA h1 171 x.toNatClampNeg = sBe (tA h 169 k) (fun j => tA h1 171 j + gLen (tA h 168) (tA h 167) w j) (i + 1) := by
  rw [hI.1.2 169 (by decide), zof_cl hx, zof hy] at qb
  rw [zof_cl hx]
  exact sBe_s3 (e := fun j => tA h1 171 j + gLen (tA h 168) (tA h 167) w j) (n := i) qb hI.2.2
theorem g_out (hI : gIn h h1 w k k) (hx : x.toInt = k) (hv : v = gLen (tA h 168) (tA h 167) w k) : gOut h h1 w (k + 1) (tA h1 171 x.toNatClampNeg + v) := by
  refine ⟨hI.1, fun j hj => ?_, ?_⟩
  · by_cases e : j = k
    · rw [e]; exact hI.2.2
    · exact hI.2.1 j (by omega)
  · rw [zof_cl hx, hv]
    rfl
end GG
noncomputable def dIn (h h1 : zH) (w : Int32) (k : Nat) : Prop := gFr 88 h h1 ∧ ∀ j, j < k → tA h1 88 j = sBe (tA h 84 j) (tA h1 88) j + gLen (tA h 83) (tA h 82) w j
theorem d_st {h h1 : zH} {w x v : Int32} {k kd : Nat} {z : Int32} (hD : dIn h h1 w k) (hx : x.toInt = k) (hf : tIn h1 88 kd z) (hv : v = gLen (tA h 83) (tA h 82) w k) : dIn h (tSA h1 88 x.toNatClampNeg (sBe (tA h1 84 x.toNatClampNeg) (tA h1 88) x.toNatClampNeg + v)) w (k + 1) := by
  have e : ∀ X, tA (tSA h1 88 x.toNatClampNeg X) 88 = fun j => if j = k then X else tA h1 88 j := by
    intro X
    rw [zof_cl hx]
    exact tA_st hf rfl
  refine ⟨gFr_A hD.1, fun j hj => ?_⟩
  rw [e, hD.1.2 84 (by decide), zof_cl hx, hv]
  have cg : ∀ m (X : Int32), sBe m (fun i => if i = k then X else tA h1 88 i) j = sBe m (tA h1 88) j := fun m X => sBe_congr (fun i hi => if_neg (by omega))
  rw [cg]
  by_cases q : j = k
  · subst q; exact if_pos rfl
  · show (if j = k then _ else _) = _
    rw [if_neg q]
    exact hD.2 j (by omega)
theorem d_len1 {h h1 : zH} {w x : Int32} {k : Nat} (hF : gFr 88 h h1) (hx : x.toInt = k) (q : tA h1 83 x.toNatClampNeg = w) : (0 : Int32) = gLen (tA h 83) (tA h 82) w k := gLen_y (by rw [← hF.2 83 (by decide), ← zof_cl hx]; exact q)
theorem d_len2 {h h1 : zH} {w x : Int32} {k : Nat} (hF : gFr 88 h h1) (hx : x.toInt = k) (q : ¬ tA h1 83 x.toNatClampNeg = w) : tA h1 82 x.toNatClampNeg = gLen (tA h 83) (tA h 82) w k := by
  rw [hF.2 83 (by decide), zof_cl hx] at q
  rw [hF.2 82 (by decide), zof_cl hx]
  exact gLen_n q
theorem zpredN {x : Int32} (h : 0 < x.toInt) : (x - 1).toNatClampNeg = x.toNatClampNeg - 1 := by
  rw [zclE, zclE, zsub1 (by omega)]
  omega
theorem sbe_add {h : zH} {n : Nat} {m f y c : Int32} {kd : Nat} {i : Int32} (h84 : tIn (tSA (tSA h 82 n m) 83 n f) 84 kd i) : sBe (tA (tSA (tSA (tSA (tSA h 82 n m) 83 n f) 84 n y) 85 n c) 84 n) (tA (tSA (tSA (tSA (tSA h 82 n m) 83 n f) 84 n y) 85 n c) 87) n = sBe y (tA h 87) n := by
  have e1 : tA (tSA (tSA (tSA (tSA h 82 n m) 83 n f) 84 n y) 85 n c) 84 n = y := by
    rw [tA_nz (by decide), tA_tSA h84.cell]
    exact if_pos ⟨rfl, rfl⟩
  have e2 : tA (tSA (tSA (tSA (tSA h 82 n m) 83 n f) 84 n y) 85 n c) 87 = tA h 87 := by
    rw [tA_nz (by decide), tA_nz (by decide), tA_nz (by decide), tA_nz (by decide)]
  rw [e1, e2]
/-- what a change costs -/
noncomputable def sCo (b e c m : Int32) : Int32 := if e.toInt ≤ m.toInt then 9 * c else if b.toInt ≤ m.toInt then 3 * c else c
theorem sCo_1 {b e c m : Int32} (h : e.toInt ≤ m.toInt) : 9 * c = sCo b e c m := by unfold sCo; rw [if_pos h]
theorem sCo_2 {b e c m : Int32} (h : m.toInt < e.toInt) (h2 : b.toInt ≤ m.toInt) : 3 * c = sCo b e c m := by unfold sCo; rw [if_neg (by omega), if_pos h2]
theorem sCo_3 {b e c m : Int32} (h : m.toInt < e.toInt) (h2 : m.toInt < b.toInt) : c = sCo b e c m := by unfold sCo; rw [if_neg (by omega), if_neg (by omega)]
/-- the last month of the first n that costs no more -/
noncomputable def sLm (f : Int32 → Int32) (p : Int32) : Nat → Int32
  | 0 => -1
  | n + 1 => if (f (Int32.ofNat n)).toInt ≤ p.toInt then Int32.ofNat n else sLm f p n
theorem sLm_at {f : Int32 → Int32} {p x : Int32} {k : Nat} (hx : x.toInt = (k : Int) - 1) (h0 : 0 ≤ x.toInt) : sLm f p k = if (f x).toInt ≤ p.toInt then x else sLm f p (k - 1) := by
  obtain ⟨j, rfl⟩ : ∃ j, k = j + 1 := ⟨k - 1, by omega⟩
  have e : x = Int32.ofNat j := zof (by omega)
  rw [e]
  rfl
theorem sLm_y {f : Int32 → Int32} {p x : Int32} {k m : Nat} (hx : x.toInt = (k : Int) - 1) (h0 : 0 ≤ x.toInt) (q : (f x).toInt ≤ p.toInt) (e : sLm f p k = sLm f p m) : x = sLm f p m := by
  rw [← e, sLm_at hx h0, if_pos q]
theorem sLm_n {f : Int32 → Int32} {p x : Int32} {k m : Nat} (hx : x.toInt = (k : Int) - 1) (h0 : 0 ≤ x.toInt) (q : p.toInt < (f x).toInt) (e : sLm f p k = sLm f p m) : sLm f p (k - 1) = sLm f p m := by
  rw [← e, sLm_at hx h0, if_neg (by omega)]
theorem sLm_z {f : Int32 → Int32} {p x : Int32} {k m : Nat} (hx : x.toInt = (k : Int) - 1) (h0 : x.toInt < 0) (e : sLm f p k = sLm f p m) : x = sLm f p m := by
  have hk : k = 0 := by omega
  subst hk
  rw [← e]
  exact Int32.toInt_inj.mp (by rw [hx]; rfl)
theorem zdecI {x : Int32} (h : 0 ≤ x.toInt) : (x + (-1)).toInt = x.toInt - 1 := by
  have := Int32.toInt_lt x
  rw [Int32.toInt_add, show (-1 : Int32).toInt = -1 from rfl]
  exact Int.bmod_eq_of_le (by show (-2147483648 : Int) ≤ x.toInt + -1; omega) (by show x.toInt + -1 < (2147483648 : Int); omega)
noncomputable def R_rw (h : zH) : Prop := tRw h
noncomputable def R_kinds (h : zH) : Prop := tF h 1 6 = tF h 111 3
noncomputable def R_kfirm (h : zH) : Prop := tA h 3 = tA h 114
theorem f_isFirm {G : zG} (hG : G.1 = zProg) {h : zH} {n : Int32} : tC zTt G 160 [.int n] h (fun w h2 => tBo (0 ≤ n.toInt ∧ n.toInt ≤ 3) w ∧ h2 = h) := by
  refine tC_in (by rw [hG]; rfl) (fun dp => ?_)
  refine tw_iload rfl rfl ?_
  refine tw_push rfl ?_
  refine tw_push rfl ?_
  refine tw_stat3 rfl (f_isWithin hG (LO := 0) (HI := 3) (by decide) (by decide)) (fun w9 h9 p16 => ?_)
  obtain ⟨⟨p16, rfl⟩ | ⟨p16, rfl⟩, rfl⟩ := p16
  · try dsimp only [tvI_i, tvJ_j, tvR_r] at p16
    exact tw_iret rfl ⟨Or.inl ⟨p16, rfl⟩, rfl⟩
  · try dsimp only [tvI_i, tvJ_j, tvR_r] at p16
    exact tw_iret rfl ⟨Or.inr ⟨p16, rfl⟩, rfl⟩
theorem f_fill {G : zG} (hG : G.1 = zProg) {h : zH} {r : Nat} {a b c : Int32} : tC zTt G 30 [.ref r, .int a, .int b, .int c] h (fun w h2 => w = none ∧ h2 = tSA (tSA (tSA h r 0 a) r 1 b) r 2 c ∧ tIn h r 0 0 ∧ tIn (tSA h r 0 a) r 0 1 ∧ tIn (tSA (tSA h r 0 a) r 1 b) r 0 2) := by
  refine tC_in (by rw [hG]; rfl) (fun dp => ?_)
  refine tw_aload rfl rfl ?_
  refine tw_push rfl ?_
  refine tw_iload rfl rfl ?_
  refine tw_iast rfl (fun f17 => ?_)
  refine tw_aload rfl rfl ?_
  refine tw_push rfl ?_
  refine tw_iload rfl rfl ?_
  refine tw_iast rfl (fun f18 => ?_)
  refine tw_aload rfl rfl ?_
  refine tw_push rfl ?_
  refine tw_iload rfl rfl ?_
  refine tw_iast rfl (fun f19 => ?_)
  exact tw_vret rfl ⟨rfl, rfl, f17, f18, f19⟩
theorem wret1 {h : zH} {p b : Nat} (k : tF h p b = .int (tvI (tF h p b))) : some (Value.int (tvI (tF h p b) + 1 - 1)) = some (tF h p b) := by rw [zi1]; exact congrArg some k.symm
theorem f_addKind {G : zG} (hG : G.1 = zProg) {h : zH} {firm : Int32} {a : Int32} {b : Int32} {c : Int32} (hs : tSh h) (hr : tRw h) : tC zTt G 28 [.ref 1, .int firm, .int a, .int b, .int c] h (phA 1 6 ((tvI (tF h 1 6)).toInt ≠ 8) [(3, firm)] h) := by
  refine tC_in (by rw [hG]; rfl) (fun dp => ?_)
  refine tw_aload rfl rfl ?_
  refine tw_getS rfl (hi_1_6 hs) ?_
  refine tw_push rfl ?_
  refine tw_ic_ne rfl (fun q20 => ?_) (fun q20 => ?_)
  · try dsimp only [tvI_i, tvJ_j, tvR_r] at q20
    have q20i := zneq (Y := 8) (by decide) q20
    refine tw_aload rfl rfl ?_
    refine tw_getS rfl (hs_1_1 hs) ?_
    refine tw_aload rfl rfl ?_
    refine tw_getS rfl (hi_1_6 hs) ?_
    refine tw_iload rfl rfl ?_
    refine tw_iast rfl (fun f21 => ?_)
    refine tw_aload rfl rfl ?_
    refine tw_getS rfl (hs_1_2 (tSh_SA hs)) ?_
    refine tw_aload rfl rfl ?_
    refine tw_getS rfl (tF_a (hi_1_6 hs)) ?_
    refine tw_aaldS rfl (fun z => tRw_at (tRw_A hr) (p := 4) (q := 5) (by decide) z) ?_
    refine tw_iload rfl rfl ?_
    refine tw_iload rfl rfl ?_
    refine tw_iload rfl rfl ?_
    refine tw_stat4 rfl (f_fill hG) (fun wp23 hp23 p23 => ?_)
    obtain ⟨rfl, rfl, p23a, p23b, p23c⟩ := p23
    refine tw_aload rfl rfl ?_
    refine tw_dup rfl ?_
    refine tw_getS rfl (tF_a (tF_a (tF_a (tF_a (hi_1_6 hs))))) ?_
    refine tw_dup_x1 rfl ?_
    refine tw_push rfl ?_
    refine tw_iadd rfl ?_
    refine tw_put rfl (fun f24 => ?_)
    exact tw_iret rfl (Or.inl ⟨by omega, congrArg some (hi_1_6 hs).symm, (tF_same f24), (fun q hq => by rcases List.mem_cons.mp hq with rfl | hq; (show tA _ 3 = _; exact (tA_ff (tA_n (by omega) (tA_n (by omega) (tA_n (by omega) (tA_st f21 rfl)))))); cases hq)⟩)
  · try dsimp only [tvI_i, tvJ_j, tvR_r] at q20
    have q20i := zeqi (Y := 8) (by decide) q20
    refine tw_push rfl ?_
    exact tw_iret rfl (Or.inr ⟨by omega, rfl, rfl, fun _ _ => rfl⟩)
theorem f_kind {G : zG} (hG : G.1 = zProg) {h : zH} {firm : Int32} {a : Int32} {b : Int32} {c : Int32} (hs : tSh h) (hr : tRw h) : tC zTt G 113 [.ref 0, .int firm, .int a, .int b, .int c] h (phA 1 6 (((0 ≤ firm.toInt ∧ firm.toInt ≤ 3) ∧ (0 ≤ a.toInt ∧ a.toInt ≤ 99999) ∧ (0 ≤ b.toInt ∧ b.toInt ≤ 99999) ∧ (0 ≤ c.toInt ∧ c.toInt ≤ 99999)) ∧ (tvI (tF h 1 6)).toInt ≠ 8) [(3, firm)] h) := by
  refine tC_in (by rw [hG]; rfl) (fun dp => ?_)
  refine tw_iload rfl rfl ?_
  refine tw_stat1 rfl (f_isFirm hG) (fun w9 h9 p25 => ?_)
  obtain ⟨⟨p25, rfl⟩ | ⟨p25, rfl⟩, rfl⟩ := p25
  · try dsimp only [tvI_i, tvJ_j, tvR_r] at p25
    refine tw_if_eq rfl (fun z => absurd z (by decide)) (fun _ => ?_)
    refine tw_iload rfl rfl ?_
    refine tw_push rfl ?_
    refine tw_push rfl ?_
    refine tw_stat3 rfl (f_isWithin hG (LO := 0) (HI := 99999) (by decide) (by decide)) (fun w9 h9 p26 => ?_)
    obtain ⟨⟨p26, rfl⟩ | ⟨p26, rfl⟩, rfl⟩ := p26
    · try dsimp only [tvI_i, tvJ_j, tvR_r] at p26
      refine tw_if_eq rfl (fun z => absurd z (by decide)) (fun _ => ?_)
      refine tw_iload rfl rfl ?_
      refine tw_push rfl ?_
      refine tw_push rfl ?_
      refine tw_stat3 rfl (f_isWithin hG (LO := 0) (HI := 99999) (by decide) (by decide)) (fun w9 h9 p27 => ?_)
      obtain ⟨⟨p27, rfl⟩ | ⟨p27, rfl⟩, rfl⟩ := p27
      · try dsimp only [tvI_i, tvJ_j, tvR_r] at p27
        refine tw_if_eq rfl (fun z => absurd z (by decide)) (fun _ => ?_)
        refine tw_iload rfl rfl ?_
        refine tw_push rfl ?_
        refine tw_push rfl ?_
        refine tw_stat3 rfl (f_isWithin hG (LO := 0) (HI := 99999) (by decide) (by decide)) (fun w9 h9 p28 => ?_)
        obtain ⟨⟨p28, rfl⟩ | ⟨p28, rfl⟩, rfl⟩ := p28
        · try dsimp only [tvI_i, tvJ_j, tvR_r] at p28
          refine tw_if_eq rfl (fun z => absurd z (by decide)) (fun _ => ?_)
          refine tw_push rfl ?_
          refine tw_goto rfl ?_
          refine tw_istore rfl ?_
          refine tw_iload rfl rfl ?_
          refine tw_if_eq rfl (fun z => absurd z (by decide)) (fun _ => ?_)
          refine tw_aload rfl rfl ?_
          refine tw_getS rfl (hs_0_0 hs) ?_
          refine tw_iload rfl rfl ?_
          refine tw_iload rfl rfl ?_
          refine tw_iload rfl rfl ?_
          refine tw_iload rfl rfl ?_
          refine tw_virt4 rfl (f_addKind hG  hs hr) (fun w9 h9 p29 => ?_)
          rcases p29 with ⟨p29, rfl, p29e, p29g⟩ | ⟨p29, rfl, p29e, p29g⟩
          · refine tw_goto rfl ?_
            exact tw_iret rfl (Or.inl ⟨by omega, congrArg some (hi_1_6 hs).symm, p29e, p29g⟩)
          · refine tw_goto rfl ?_
            exact tw_iret rfl (Or.inr ⟨by omega, rfl, p29e, p29g⟩)
        · try dsimp only [tvI_i, tvJ_j, tvR_r] at p28
          refine tw_if_eq rfl (fun _ => ?_) (fun z => absurd z (by decide))
          refine tw_push rfl ?_
          refine tw_istore rfl ?_
          refine tw_iload rfl rfl ?_
          refine tw_if_eq rfl (fun _ => ?_) (fun z => absurd z (by decide))
          refine tw_push rfl ?_
          exact tw_iret rfl (Or.inr ⟨by omega, rfl, rfl, fun _ _ => rfl⟩)
      · try dsimp only [tvI_i, tvJ_j, tvR_r] at p27
        refine tw_if_eq rfl (fun _ => ?_) (fun z => absurd z (by decide))
        refine tw_push rfl ?_
        refine tw_istore rfl ?_
        refine tw_iload rfl rfl ?_
        refine tw_if_eq rfl (fun _ => ?_) (fun z => absurd z (by decide))
        refine tw_push rfl ?_
        exact tw_iret rfl (Or.inr ⟨by omega, rfl, rfl, fun _ _ => rfl⟩)
    · try dsimp only [tvI_i, tvJ_j, tvR_r] at p26
      refine tw_if_eq rfl (fun _ => ?_) (fun z => absurd z (by decide))
      refine tw_push rfl ?_
      refine tw_istore rfl ?_
      refine tw_iload rfl rfl ?_
      refine tw_if_eq rfl (fun _ => ?_) (fun z => absurd z (by decide))
      refine tw_push rfl ?_
      exact tw_iret rfl (Or.inr ⟨by omega, rfl, rfl, fun _ _ => rfl⟩)
  · try dsimp only [tvI_i, tvJ_j, tvR_r] at p25
    refine tw_if_eq rfl (fun _ => ?_) (fun z => absurd z (by decide))
    refine tw_push rfl ?_
    refine tw_istore rfl ?_
    refine tw_iload rfl rfl ?_
    refine tw_if_eq rfl (fun _ => ?_) (fun z => absurd z (by decide))
    refine tw_push rfl ?_
    exact tw_iret rfl (Or.inr ⟨by omega, rfl, rfl, fun _ _ => rfl⟩)
theorem g_kind {G : zG} (hG : G.1 = zProg) {h : zH} {firm : Int32} {a : Int32} {b : Int32} {c : Int32} (hs : tSh h)  : tC zTt G 181 [.ref 111, .int firm, .int a, .int b, .int c] h (phA 111 3 (((0 ≤ firm.toInt ∧ firm.toInt ≤ 3) ∧ (0 ≤ a.toInt ∧ a.toInt ≤ 99999) ∧ (0 ≤ b.toInt ∧ b.toInt ≤ 99999) ∧ (0 ≤ c.toInt ∧ c.toInt ≤ 99999)) ∧ (tvI (tF h 111 3)).toInt ≠ 8) [(114, firm)] h) := by
  refine tC_in (by rw [hG]; rfl) (fun dp => ?_)
  refine tw_aload rfl rfl ?_
  refine tw_getS rfl (hi_111_3 hs) ?_
  refine tw_push rfl ?_
  refine tw_ic_eq rfl (fun q30 => ?_) (fun q30 => ?_)
  · try dsimp only [tvI_i, tvJ_j, tvR_r] at q30
    have q30i := zeqi (Y := 8) (by decide) q30
    refine tw_push rfl ?_
    exact tw_iret rfl (Or.inr ⟨by omega, rfl, rfl, fun _ _ => rfl⟩)
  · try dsimp only [tvI_i, tvJ_j, tvR_r] at q30
    have q30i := zneq (Y := 8) (by decide) q30
    refine tw_iload rfl rfl ?_
    refine tw_i2l rfl ?_
    refine tw_push rfl ?_
    refine tw_push rfl ?_
    refine tw_stat3 rfl (f_in hG  (LO := 0) (HI := 3) (Int32.toInt_toInt64 _) (by decide) (by decide)) (fun w9 h9 p31 => ?_)
    obtain ⟨⟨p31, rfl⟩ | ⟨p31, rfl⟩, rfl⟩ := p31
    · try dsimp only [tvI_i, tvJ_j, tvR_r] at p31
      refine tw_if_eq rfl (fun z => absurd z (by decide)) (fun _ => ?_)
      refine tw_iload rfl rfl ?_
      refine tw_i2l rfl ?_
      refine tw_push rfl ?_
      refine tw_push rfl ?_
      refine tw_stat3 rfl (f_in hG  (LO := 0) (HI := 99999) (Int32.toInt_toInt64 _) (by decide) (by decide)) (fun w9 h9 p32 => ?_)
      obtain ⟨⟨p32, rfl⟩ | ⟨p32, rfl⟩, rfl⟩ := p32
      · try dsimp only [tvI_i, tvJ_j, tvR_r] at p32
        refine tw_if_eq rfl (fun z => absurd z (by decide)) (fun _ => ?_)
        refine tw_iload rfl rfl ?_
        refine tw_i2l rfl ?_
        refine tw_push rfl ?_
        refine tw_push rfl ?_
        refine tw_stat3 rfl (f_in hG  (LO := 0) (HI := 99999) (Int32.toInt_toInt64 _) (by decide) (by decide)) (fun w9 h9 p33 => ?_)
        obtain ⟨⟨p33, rfl⟩ | ⟨p33, rfl⟩, rfl⟩ := p33
        · try dsimp only [tvI_i, tvJ_j, tvR_r] at p33
          refine tw_if_eq rfl (fun z => absurd z (by decide)) (fun _ => ?_)
          refine tw_iload rfl rfl ?_
          refine tw_i2l rfl ?_
          refine tw_push rfl ?_
          refine tw_push rfl ?_
          refine tw_stat3 rfl (f_in hG  (LO := 0) (HI := 99999) (Int32.toInt_toInt64 _) (by decide) (by decide)) (fun w9 h9 p34 => ?_)
          obtain ⟨⟨p34, rfl⟩ | ⟨p34, rfl⟩, rfl⟩ := p34
          · try dsimp only [tvI_i, tvJ_j, tvR_r] at p34
            refine tw_if_ne rfl (fun _ => ?_) (fun z => absurd z (by decide))
            refine tw_aload rfl rfl ?_
            refine tw_getS rfl (hs_111_9 hs) ?_
            refine tw_aload rfl rfl ?_
            refine tw_getS rfl (hi_111_3 hs) ?_
            refine tw_iload rfl rfl ?_
            refine tw_iast rfl (fun f35 => ?_)
            refine tw_aload rfl rfl ?_
            refine tw_getS rfl (hs_111_10 (tSh_SA hs)) ?_
            refine tw_push rfl ?_
            refine tw_aload rfl rfl ?_
            refine tw_getS rfl (tF_a (hi_111_3 hs)) ?_
            refine tw_imul rfl ?_
            refine tw_iload rfl rfl ?_
            refine tw_iast rfl (fun f36 => ?_)
            refine tw_aload rfl rfl ?_
            refine tw_getS rfl (hs_111_10 (tSh_SA (tSh_SA hs))) ?_
            refine tw_push rfl ?_
            refine tw_aload rfl rfl ?_
            refine tw_getS rfl (tF_a (tF_a (hi_111_3 hs))) ?_
            refine tw_imul rfl ?_
            refine tw_push rfl ?_
            refine tw_iadd rfl ?_
            refine tw_iload rfl rfl ?_
            refine tw_iast rfl (fun f37 => ?_)
            refine tw_aload rfl rfl ?_
            refine tw_getS rfl (hs_111_10 (tSh_SA (tSh_SA (tSh_SA hs)))) ?_
            refine tw_push rfl ?_
            refine tw_aload rfl rfl ?_
            refine tw_getS rfl (tF_a (tF_a (tF_a (hi_111_3 hs)))) ?_
            refine tw_imul rfl ?_
            refine tw_push rfl ?_
            refine tw_iadd rfl ?_
            refine tw_iload rfl rfl ?_
            refine tw_iast rfl (fun f38 => ?_)
            refine tw_aload rfl rfl ?_
            refine tw_dup rfl ?_
            refine tw_getS rfl (tF_a (tF_a (tF_a (tF_a (hi_111_3 hs))))) ?_
            refine tw_push rfl ?_
            refine tw_iadd rfl ?_
            refine tw_put rfl (fun f39 => ?_)
            refine tw_aload rfl rfl ?_
            refine tw_getS rfl (tF_same f39) ?_
            refine tw_push rfl ?_
            refine tw_isub rfl ?_
            exact tw_iret rfl (Or.inl ⟨by omega, wret1 (hi_111_3 hs), (tF_same f39), (fun q hq => by rcases List.mem_cons.mp hq with rfl | hq; (show tA _ 114 = _; exact (tA_ff (tA_n (by decide) (tA_n (by decide) (tA_n (by decide) (tA_st f35 rfl)))))); cases hq)⟩)
          · try dsimp only [tvI_i, tvJ_j, tvR_r] at p34
            refine tw_if_ne rfl (fun z => absurd z (by decide)) (fun _ => ?_)
            refine tw_push rfl ?_
            exact tw_iret rfl (Or.inr ⟨by omega, rfl, rfl, fun _ _ => rfl⟩)
        · try dsimp only [tvI_i, tvJ_j, tvR_r] at p33
          refine tw_if_eq rfl (fun _ => ?_) (fun z => absurd z (by decide))
          refine tw_push rfl ?_
          exact tw_iret rfl (Or.inr ⟨by omega, rfl, rfl, fun _ _ => rfl⟩)
      · try dsimp only [tvI_i, tvJ_j, tvR_r] at p32
        refine tw_if_eq rfl (fun _ => ?_) (fun z => absurd z (by decide))
        refine tw_push rfl ?_
        exact tw_iret rfl (Or.inr ⟨by omega, rfl, rfl, fun _ _ => rfl⟩)
    · try dsimp only [tvI_i, tvJ_j, tvR_r] at p31
      refine tw_if_eq rfl (fun _ => ?_) (fun z => absurd z (by decide))
      refine tw_push rfl ?_
      exact tw_iret rfl (Or.inr ⟨by omega, rfl, rfl, fun _ _ => rfl⟩)
theorem a_kind {firm : Int32} {a : Int32} {b : Int32} {c : Int32} {h h2 h3 : zH} {w w2 : Option Value}  (hR : R_kinds h) (e1 : tF h2 111 3 = tF h 111 3) (e2 : tF h3 1 6 = tF h2 1 6) (h_kfirm : R_kfirm h) (o_kfirm : tA h2 114 = tA h 114) (t_kfirm : tA h3 3 = tA h2 3) (k1 : phA 1 6 (((0 ≤ firm.toInt ∧ firm.toInt ≤ 3) ∧ (0 ≤ a.toInt ∧ a.toInt ≤ 99999) ∧ (0 ≤ b.toInt ∧ b.toInt ≤ 99999) ∧ (0 ≤ c.toInt ∧ c.toInt ≤ 99999)) ∧ (tvI (tF h 1 6)).toInt ≠ 8) [(3, firm)] h w h2) (k2 : phA 111 3 (((0 ≤ firm.toInt ∧ firm.toInt ≤ 3) ∧ (0 ≤ a.toInt ∧ a.toInt ≤ 99999) ∧ (0 ≤ b.toInt ∧ b.toInt ≤ 99999) ∧ (0 ≤ c.toInt ∧ c.toInt ≤ 99999)) ∧ (tvI (tF h2 111 3)).toInt ≠ 8) [(114, firm)] h2 w2 h3) : w2 = w ∧ R_kinds h3 ∧ R_kfirm h3 := by
  have hC : (((0 ≤ firm.toInt ∧ firm.toInt ≤ 3) ∧ (0 ≤ a.toInt ∧ a.toInt ≤ 99999) ∧ (0 ≤ b.toInt ∧ b.toInt ≤ 99999) ∧ (0 ≤ c.toInt ∧ c.toInt ≤ 99999)) ∧ (tvI (tF h 1 6)).toInt ≠ 8) ↔ (((0 ≤ firm.toInt ∧ firm.toInt ≤ 3) ∧ (0 ≤ a.toInt ∧ a.toInt ≤ 99999) ∧ (0 ≤ b.toInt ∧ b.toInt ≤ 99999) ∧ (0 ≤ c.toInt ∧ c.toInt ≤ 99999)) ∧ (tvI (tF h2 111 3)).toInt ≠ 8) := by
    have hR2 := hR
    unfold R_kinds at hR2
    rw [e1, ← hR2]
  obtain ⟨r1, r2, r3⟩ := phA_a hR e1 e2 hC k1 k2
  exact ⟨r1, r2, r3 3 114 firm (by simp) (by simp) h_kfirm o_kfirm t_kfirm⟩
noncomputable def bI (x : Int32) (c : Nat) : Prop := (x >>> (Int32.ofNat c &&& 31)) &&& 1 = 1
theorem bI_k : ∀ n, n < 32 → ((Int32.ofNat n) &&& 31).toBitVec.smod 32 = BitVec.ofNat 32 n := by decide +kernel
theorem bI_g {x : Int32} {n : Nat} (h : n < 32) : bI x n ↔ x.toBitVec.getLsbD n = true := by
  have hk := bI_k n h
  have e : ((x >>> (Int32.ofNat n &&& 31)) &&& 1).toBitVec = (x.toBitVec.sshiftRight n) &&& 1#32 := by
    show (x.toBitVec.sshiftRight' ((Int32.ofNat n &&& 31).toBitVec.smod 32)) &&& 1#32 = _
    rw [hk]
    show (x.toBitVec.sshiftRight (BitVec.ofNat 32 n).toNat) &&& 1#32 = _
    rw [BitVec.toNat_ofNat, Nat.mod_eq_of_lt (by omega)]
  have e2 : (x.toBitVec.sshiftRight n).getLsbD 0 = x.toBitVec.getLsbD n := by
    rw [BitVec.getLsbD_sshiftRight]
    simp
    intro z
    omega
  unfold bI
  rw [← Int32.toBitVec_inj, e, BitVec.and_one_eq_setWidth_ofBool_getLsbD, e2]
  cases x.toBitVec.getLsbD n <;> decide
theorem bI_or {x : Int32} {n m : Nat} (hn : n < 32) (hm : m < 32) : bI (x ||| ((1 : Int32) <<< (Int32.ofNat m &&& 31))) n ↔ bI x n ∨ n = m := by
  have hk := bI_k m hm
  rw [bI_g hn, bI_g hn]
  have e : (x ||| ((1 : Int32) <<< (Int32.ofNat m &&& 31))).toBitVec = x.toBitVec ||| ((1#32) <<< m) := by
    show x.toBitVec ||| ((1#32) <<< ((Int32.ofNat m &&& 31).toBitVec.smod 32)) = _
    rw [hk]
    show x.toBitVec ||| ((1#32) <<< (BitVec.ofNat 32 m).toNat) = _
    rw [BitVec.toNat_ofNat, Nat.mod_eq_of_lt (by omega)]
  rw [e, BitVec.getLsbD_or, BitVec.getLsbD_shiftLeft, BitVec.getLsbD_one, Bool.or_eq_true]
  have e3 : (decide (n < 32) && !decide (n < m) && (decide (0 < 32) && decide (n - m = 0))) = true ↔ n = m := by
    constructor
    · intro z
      simp at z
      omega
    · rintro rfl
      simp
      omega
  rw [← e3]
theorem bI_0 {n : Nat} (hn : n < 32) : ¬ bI 0 n := by
  rw [bI_g hn]
  show ¬ (0#32).getLsbD _ = true
  simp
theorem zmul3 {k p : Int32} (hk : 0 ≤ k.toInt ∧ k.toInt ≤ 1000) (hp : 0 ≤ p.toInt ∧ p.toInt ≤ 1000) : (300 * k + p).toNatClampNeg = 300 * k.toNatClampNeg + p.toNatClampNeg := by
  have e1 : (300 * k).toInt = 300 * k.toInt := by
    rw [Int32.toInt_mul, show (300 : Int32).toInt = 300 from rfl]
    exact Int.bmod_eq_of_le (by show (-2147483648 : Int) ≤ _; omega) (by show _ < (2147483648 : Int); omega)
  have e2 : (300 * k + p).toInt = 300 * k.toInt + p.toInt := by
    rw [Int32.toInt_add, e1]
    exact Int.bmod_eq_of_le (by show (-2147483648 : Int) ≤ _; omega) (by show _ < (2147483648 : Int); omega)
  rw [zclE, zclE, zclE, e2]
  omega
/-- the owner that the first n sales leave, whenever they are told -/
noncomputable def sLo (ca to : Nat → Int32) (i : Nat) (d : Int32) : Nat → Int32
  | 0 => d
  | n + 1 => if (ca n).toNatClampNeg = i then to n else sLo ca to i d n
theorem sLo_congr {ca to ca2 to2 : Nat → Int32} {i : Nat} {d : Int32} : ∀ {n : Nat}, (∀ k, k < n → ca k = ca2 k ∧ to k = to2 k) → sLo ca to i d n = sLo ca2 to2 i d n
  | 0, _ => rfl
  | n + 1, hh => by
    show (if _ then _ else _) = if _ then _ else _
    rw [sLo_congr (n := n) (fun k hk => hh k (by omega)), (hh n (by omega)).1, (hh n (by omega)).2]
theorem sLo_none {ca to : Nat → Int32} {i : Nat} {d : Int32} : ∀ {n : Nat}, (∀ k, k < n → (ca k).toNatClampNeg ≠ i) → sLo ca to i d n = d
  | 0, _ => rfl
  | n + 1, hh => by
    show (if _ then _ else _) = _
    rw [if_neg (hh n (by omega)), sLo_none (n := n) (fun k hk => hh k (by omega))]
noncomputable def sOw (ca to mo ti : Nat → Int32) (c m k d : Int32) : Nat → Int32
  | 0 => d
  | n + 1 => if ca n = c ∧ (ti n).toInt ≤ k.toInt ∧ (mo n).toInt ≤ m.toInt then to n else sOw ca to mo ti c m k d n
theorem sOw_y {ca to mo ti : Nat → Int32} {c m k d x y : Int32} {n : Nat} (hx : x.toInt = n) (h1 : ca x.toNatClampNeg = c) (h2 : (ti x.toNatClampNeg).toInt ≤ k.toInt) (h3 : (mo x.toNatClampNeg).toInt ≤ m.toInt) : to x.toNatClampNeg = sOw ca to mo ti c m k d (n + 1) := by
  rw [zof_cl hx] at *
  show _ = if _ then _ else _
  rw [if_pos ⟨h1, h2, h3⟩]
theorem sOw_n {ca to mo ti : Nat → Int32} {c m k d x y : Int32} {n : Nat} (hx : x.toInt = n) (hy : y = sOw ca to mo ti c m k d n) (h : ¬ (ca x.toNatClampNeg = c ∧ (ti x.toNatClampNeg).toInt ≤ k.toInt ∧ (mo x.toNatClampNeg).toInt ≤ m.toInt)) : y = sOw ca to mo ti c m k d (n + 1) := by
  rw [zof_cl hx] at h
  rw [hy]
  show _ = if _ then _ else _
  rw [if_neg h]
theorem sOw_low {ca to mo ti : Nat → Int32} {c k d : Int32} (hc : 0 ≤ c.toInt) : ∀ {n : Nat}, (∀ j, j < n → (ti j).toInt ≤ k.toInt ∧ (mo j).toInt ≤ k.toInt ∧ 0 ≤ (ca j).toInt) → sOw ca to mo ti c k k d n = sLo ca to c.toNatClampNeg d n
  | 0, _ => rfl
  | n + 1, hh => by
    obtain ⟨a1, a2, a3⟩ := hh n (by omega)
    show (if _ then _ else _) = if _ then _ else _
    rw [sOw_low hc (n := n) (fun j hj => hh j (by omega))]
    by_cases e : ca n = c
    · rw [if_pos ⟨e, a1, a2⟩, if_pos (by rw [e])]
    · rw [if_neg (fun z => e z.1), if_neg]
      intro z
      rw [zclE, zclE] at z
      exact e (Int32.toInt_inj.mp (by omega))
/-- how many of the first n -/
noncomputable def sCn (P : Nat → Bool) : Nat → Int32
  | 0 => 0
  | n + 1 => if P n = true then sCn P n + 1 else sCn P n
theorem sCn_y {P : Nat → Bool} {n : Nat} {y : Int32} (hy : y = sCn P n) (h : P n = true) : y + 1 = sCn P (n + 1) := by
  rw [hy]
  show _ = if _ then _ else _
  rw [if_pos h]
theorem sCn_n {P : Nat → Bool} {n : Nat} {y : Int32} (hy : y = sCn P n) (h : ¬ P n = true) : y = sCn P (n + 1) := by
  rw [hy]
  show _ = if _ then _ else _
  rw [if_neg h]
theorem sCn_congr {P P2 : Nat → Bool} : ∀ {n : Nat}, (∀ i, i < n → P i = P2 i) → sCn P n = sCn P2 n
  | 0, _ => rfl
  | n + 1, hh => by
    show (if _ then _ else _) = if _ then _ else _
    rw [sCn_congr (n := n) (fun i hi => hh i (by omega)), hh n (by omega)]
theorem sCn_f {P : Nat → Bool} : ∀ {n : Nat}, n ≤ 1000 → 0 ≤ (sCn P n).toInt ∧ (sCn P n).toInt ≤ n
  | 0, _ => by show 0 ≤ (0 : Int32).toInt ∧ (0 : Int32).toInt ≤ _; decide
  | n + 1, hn => by
    have h1 := sCn_f (P := P) (n := n) (by omega)
    show 0 ≤ (if _ then _ else _ : Int32).toInt ∧ (if _ then _ else _ : Int32).toInt ≤ _
    by_cases e : P n = true
    · rw [if_pos e, zincN (n := (sCn P n).toInt.toNat) (by omega) (by omega)]; omega
    · rw [if_neg e]; omega
/-- the call's cars that wait for it -/
noncomputable def lfB (ka kf kl kd mk wr mm : Nat → Int32) (C i : Nat) : Bool := decide ((kd i = ka C ∧ (kf C).toInt ≤ (mk i).toInt ∧ (mk i).toInt ≤ (kl C).toInt) ∧ (wr i).toInt = 0 ∧ mm (300 * C + i) = 0)
noncomputable abbrev lfC (h : zH) (C i : Nat) : Bool := lfB (tA h 90) (tA h 91) (tA h 92) (tA h 121) (tA h 122) (tA h 120) (tA h 177) C i
noncomputable abbrev lfM (h : zH) (C i : Nat) : Bool := lfB (tA h 173) (tA h 174) (tA h 175) (tA h 121) (tA h 122) (tA h 120) (tA h 177) C i
noncomputable abbrev ltC (h : zH) (C i : Nat) : Bool := lfC h C i && decide ((tA h 38 (tA h 125 i).toNatClampNeg).toInt = 0)
noncomputable abbrev ltM (h : zH) (C i : Nat) : Bool := lfM h C i && decide ((tA h 119 (sOw (tA h 128) (tA h 129) (tA h 130) (tA h 131) (Int32.ofNat i) (tvI (tF h 111 1)) (tvI (tF h 111 1)) (tA h 124 i) (tvI (tF h 111 6)).toNatClampNeg).toNatClampNeg).toInt = 0)
theorem zmulc {c : Nat} {k p : Int32} {K : Int32} (hK : K.toInt = c) (hc : c ≤ 100) (hk : 0 ≤ k.toInt ∧ k.toInt ≤ 1000) (hp : 0 ≤ p.toInt ∧ p.toInt ≤ 1000) : (K * k + p).toNatClampNeg = c * k.toNatClampNeg + p.toNatClampNeg ∧ (k * K + p).toNatClampNeg = c * k.toNatClampNeg + p.toNatClampNeg := by
  have hm : 0 ≤ (c : Int) * k.toInt := Int.mul_nonneg (by omega) hk.1
  have hm2 : (c : Int) * k.toInt ≤ 100 * 1000 := Int.mul_le_mul (by omega) hk.2 hk.1 (by decide)
  have e1 : (K * k).toInt = c * k.toInt := by
    rw [Int32.toInt_mul, hK]
    exact Int.bmod_eq_of_le (by show (-2147483648 : Int) ≤ _; omega) (by show _ < (2147483648 : Int); omega)
  have e2 : (K * k + p).toInt = c * k.toInt + p.toInt := by
    rw [Int32.toInt_add, e1]
    exact Int.bmod_eq_of_le (by show (-2147483648 : Int) ≤ _; omega) (by show _ < (2147483648 : Int); omega)
  have e3 : (K * k + p).toNatClampNeg = c * k.toNatClampNeg + p.toNatClampNeg := by
    rw [zclE, zclE, zclE, e2]
    have : ((c : Int) * k.toInt).toNat = c * k.toInt.toNat := by
      rw [Int.toNat_mul (by omega) hk.1]
      rfl
    omega
  exact ⟨e3, by rw [Int32.mul_comm]; exact e3⟩
noncomputable def R_parts (h : zH) : Prop := tF h 1 7 = tF h 111 4
noncomputable def rFt (x y : Int32) : Prop := (x = y ∧ x.toInt < 600) ∨ (x = 600 ∧ y = 1000000)
noncomputable def R_fitted (h : zH) : Prop := ∀ a, a < 8 → ∀ b, b < 12 → rFt (tA h (28 + a) b) (tA h 118 (12 * a + b))
theorem tfr_As {xs : Nat → Int32} {τ : List Nat} {h h2 : zH} {W : Nat → Nat → Bool} {p t : Nat} (hB : zBs xs τ h) (hf : yFr W τ h h2) (ht : τ[p]? = some t) (hW : W t 0 = false) : tA h2 p = tA h p := by
  obtain ⟨ct, c, a1, a2, -⟩ := hB.1.2 _ _ ht
  obtain ⟨c2, b1, b2⟩ := hf _ _ _ ht a2
  unfold tA
  funext i
  rw [a2, b1]
  match c, c2, b2 with
  | .inr (x, fs), .inr (y, gs), b2 => rfl
  | .inl (k, N, x), .inl (k2, N2, y), b2 =>
    have := b2.2.2 hW
    subst this
    cases y with
    | inl f => rfl
    | inr y => cases y with
      | inl f => rfl
      | inr y => cases y with
        | inl f => rfl
        | inr y => cases y with
          | inl f => rfl
          | inr f => rfl
theorem car_pt {xs : Nat → Int32} {τ : List Nat} {h : zH} (hB : zBs xs τ h) {i r : Nat} (hi : (i : Int) < (tvI (tF h 36 4)).toInt) (hr : tO h 39 i = some r) (h10 : tF h r 10 = .ref (r + 1)) : τ[r + 1]? = some 151 := by
  obtain ⟨ct, c, a1, a2, a3⟩ := hB.1.2 _ _ (car_tag hB hi hr)
  have e : ct = .inl (0, [(0, .ofNat 0, .ofNat 7, 0), (0, .ofNat 0, .ofNat 599, 0), (0, .ofNat 0, .ofNat 599, 0), (0, .ofNat 0, .ofNat 59, 0), (0, .ofNat 0, .ofNat 59, 0), (0, .ofNat 0, .ofNat 599, 0), (0, .ofNat 0, .ofNat 599, 0), (0, .ofNat 0, .ofNat 1, 0), (0, .negSucc 2147483647, .ofNat 2147483647, 0), (0, .negSucc 2147483647, .ofNat 2147483647, 0), (2, .ofNat 0, .ofNat 10000000, 151)]) := Option.some.inj (a1.symm.trans rfl)
  subst e
  obtain ⟨fs, rfl, -, h3⟩ := a3
  obtain ⟨w, w1, x, rfl, x1, x2, x3⟩ := h3 10 _ rfl
  have e2 : tF h r 10 = zrn x := by
    unfold tF
    rw [a2]
    dsimp only
    rw [List.getD_eq_getElem?_getD, w1]
    rfl
  rw [h10] at e2
  unfold zrn at e2
  have x1 : (0 : Int) ≤ x := x1
  rw [if_neg (by omega)] at e2
  have e3 : r + 1 = x.toNat := by injection e2
  rcases x3 with z | z | z
  · cases z
  · omega
  · rw [e3]; exact z
theorem bI_ext {x y : Int32} (h : ∀ n, n < 32 → (bI x n ↔ bI y n)) : x = y := by
  rw [← Int32.toBitVec_inj]
  refine BitVec.eq_of_getLsbD_eq (fun i hi => ?_)
  have := h i hi
  rw [bI_g hi, bI_g hi] at this
  exact Bool.eq_iff_iff.mpr this
theorem bI_or2 {x y : Int32} {n : Nat} (hn : n < 32) : bI (x ||| y) n ↔ bI x n ∨ bI y n := by
  rw [bI_g hn, bI_g hn, bI_g hn]
  show (x.toBitVec ||| y.toBitVec).getLsbD n = true ↔ _
  rw [BitVec.getLsbD_or, Bool.or_eq_true]
/-- the places of the first n that are not behind a month, as bits -/
noncomputable def sPB (f : Nat → Int32) (m : Int32) : Nat → Int32
  | 0 => 0
  | n + 1 => if (f n).toInt ≤ m.toInt then sPB f m n ||| ((1 : Int32) <<< (Int32.ofNat n &&& 31)) else sPB f m n
theorem sPB_u {f : Nat → Int32} {m : Int32} {n : Nat} : sPB f m (n + 1) = if (f n).toInt ≤ m.toInt then sPB f m n ||| ((1 : Int32) <<< (Int32.ofNat n &&& 31)) else sPB f m n := rfl
section PB9
variable {f : Nat → Int32} {m x y : Int32} {n : Nat}
theorem sPB_y (hx : x.toInt = n) (hy : y = sPB f m n) (q : (f n).toInt ≤ m.toInt) : y ||| ((1 : Int32) <<< (x &&& 31)) = sPB f m (n + 1) := by
  rw [sPB_u, if_pos q, hy, zof hx]
theorem sPB_n (hy : y = sPB f m n) (q : m.toInt < (f n).toInt) : y = sPB f m (n + 1) := by
  rw [sPB_u, if_neg (by omega), hy]
theorem sPB_0 (hy : y = sPB f m n) (q : m.toInt < (f n).toInt) : y ||| 0 = sPB f m (n + 1) := by
  rw [Int32.or_zero]
  exact sPB_n hy q
theorem sPB_b : ∀ {N : Nat}, N ≤ 32 → ∀ n, n < 32 → (bI (sPB f m N) n ↔ n < N ∧ (f n).toInt ≤ m.toInt)
  | 0, _, n, hn => ⟨fun z => absurd z (bI_0 hn), fun z => absurd z.1 (Nat.not_lt_zero _)⟩
  | N + 1, hN, n, hn => by
    have ih := sPB_b (N := N) (by omega) n hn
    rw [sPB_u]
    by_cases q : (f N).toInt ≤ m.toInt
    · rw [if_pos q, bI_or hn (by omega), ih]
      constructor
      · rintro (⟨a, b⟩ | rfl)
        · exact ⟨by omega, b⟩
        · exact ⟨by omega, q⟩
      · rintro ⟨a, b⟩
        by_cases e : n = N
        · exact Or.inr e
        · exact Or.inl ⟨by omega, b⟩
    · rw [if_neg q, ih]
      constructor
      · rintro ⟨a, b⟩
        exact ⟨by omega, b⟩
      · rintro ⟨a, b⟩
        by_cases e : n = N
        · subst e; exact absurd b q
        · exact ⟨by omega, b⟩
end PB9
/-- and the parts that it was mended with, by the first n calls -/
noncomputable def sPM (mi cp : Nat → Int32) (i : Nat) (m d : Int32) : Nat → Int32
  | 0 => d
  | c + 1 => if 0 < (mi (300 * c + i)).toInt ∧ (mi (300 * c + i) - 1).toInt ≤ m.toInt then sPM mi cp i m d c ||| ((1 : Int32) <<< (cp c &&& 31)) else sPM mi cp i m d c
section PM9
variable {mi cp : Nat → Int32} {i c : Nat} {m d x y : Int32}
theorem sPM_u : sPM mi cp i m d (c + 1) = if 0 < (mi (300 * c + i)).toInt ∧ (mi (300 * c + i) - 1).toInt ≤ m.toInt then sPM mi cp i m d c ||| ((1 : Int32) <<< (cp c &&& 31)) else sPM mi cp i m d c := rfl
theorem sPM_y (hx : x.toInt = c) (hy : y = sPM mi cp i m d c) (h0 : 0 < (mi (300 * c + i)).toInt) (h1 : (mi (300 * c + i) - 1).toInt ≤ m.toInt) : y ||| ((1 : Int32) <<< (cp x.toNatClampNeg &&& 31)) = sPM mi cp i m d (c + 1) := by
  rw [sPM_u, if_pos ⟨h0, h1⟩, hy, zof_cl hx]
theorem sPM_n (hy : y = sPM mi cp i m d c) (q : ¬ (0 < (mi (300 * c + i)).toInt ∧ (mi (300 * c + i) - 1).toInt ≤ m.toInt)) : y ||| 0 = sPM mi cp i m d (c + 1) := by
  rw [sPM_u, if_neg q, hy, Int32.or_zero]
theorem sPM_b {C : Nat} (hc : ∀ c, c < C → 0 ≤ (cp c).toInt ∧ (cp c).toInt < 32) : ∀ n, n < 32 → (bI (sPM mi cp i m d C) n ↔ bI d n ∨ ∃ c, c < C ∧ (0 < (mi (300 * c + i)).toInt ∧ (mi (300 * c + i) - 1).toInt ≤ m.toInt) ∧ (cp c).toNatClampNeg = n) := by
  intro n hn
  induction C with
  | zero => exact ⟨Or.inl, fun z => z.resolve_right (fun ⟨c, h, _⟩ => absurd h (Nat.not_lt_zero _))⟩
  | succ C ih =>
    have ih := ih (fun c h => hc c (by omega))
    rw [sPM_u]
    by_cases q : 0 < (mi (300 * C + i)).toInt ∧ (mi (300 * C + i) - 1).toInt ≤ m.toInt
    · have e : cp C = Int32.ofNat (cp C).toNatClampNeg := zof (by rw [zclE]; have := hc C (by omega); omega)
      have hb := bI_or (x := sPM mi cp i m d C) (n := n) (m := (cp C).toNatClampNeg) hn (by rw [zclE]; have := hc C (by omega); omega)
      rw [← e] at hb
      rw [if_pos q, hb, ih]
      constructor
      · rintro ((z | ⟨c, h1, h2⟩) | z)
        · exact Or.inl z
        · exact Or.inr ⟨c, by omega, h2⟩
        · exact Or.inr ⟨C, by omega, q, z.symm⟩
      · rintro (z | ⟨c, h1, h2, h3⟩)
        · exact Or.inl (Or.inl z)
        · by_cases e2 : c = C
          · subst e2; exact Or.inr h3.symm
          · exact Or.inl (Or.inr ⟨c, by omega, h2, h3⟩)
    · rw [if_neg q, ih]
      constructor
      · rintro (z | ⟨c, h1, h2⟩)
        · exact Or.inl z
        · exact Or.inr ⟨c, by omega, h2⟩
      · rintro (z | ⟨c, h1, h2, h3⟩)
        · exact Or.inl z
        · by_cases e2 : c = C
          · subst e2; exact absurd h2 q
          · exact Or.inr ⟨c, by omega, h2, h3⟩
end PM9
theorem rFt_le {x y m : Int32} (h : rFt x y) (hm : m.toInt ≤ 599) : x.toInt ≤ m.toInt ↔ y.toInt ≤ m.toInt := by
  rcases h with ⟨rfl, _⟩ | ⟨rfl, rfl⟩
  · exact Iff.rfl
  · rw [show (600 : Int32).toInt = 600 from rfl, show (1000000 : Int32).toInt = 1000000 from rfl]
    omega
theorem sPB_rel {F F2 : Nat → Int32} {m : Int32} {N : Nat} (hN : N ≤ 12) (hF : ∀ p, p < 12 → rFt (F p) (F2 p)) (hm : m.toInt ≤ 599) : sPB F m N = sPB F2 m N := bI_ext (fun n hn => by
  rw [sPB_b (by omega) n hn, sPB_b (by omega) n hn]
  constructor
  · rintro ⟨a, b⟩
    exact ⟨a, (rFt_le (hF n (by omega)) hm).mp b⟩
  · rintro ⟨a, b⟩
    exact ⟨a, (rFt_le (hF n (by omega)) hm).mpr b⟩)
theorem parts_eq {F F2 T mi cp : Nat → Int32} {i N C : Nat} {md m : Int32} (hN : N ≤ 12) (hC : C ≤ 20) (hF : ∀ p, p < 12 → rFt (F p) (F2 p)) (hmd : md.toInt ≤ 599) (hm : m.toInt ≤ 599) (hcp : ∀ c, c < 20 → 0 ≤ (cp c).toInt ∧ (cp c).toInt ≤ 11) (hT : ∀ p, p < 12 → ∀ m : Int, m ≤ 599 → ((T p).toInt ≤ m ↔ ∃ c : Nat, (c : Int) < (C : Int) ∧ 0 < (mi (300 * c + i)).toInt ∧ (mi (300 * c + i)).toInt - 1 ≤ m ∧ (cp c).toNatClampNeg = p)) : sPB F md N ||| sPB T m 12 = sPM mi cp i m (sPB F2 md N) C := by
  rw [sPB_rel hN hF hmd]
  refine bI_ext (fun n hn => ?_)
  rw [bI_or2 hn, sPM_b (fun c h => by have := hcp c (by omega); omega) n hn, sPB_b (f := T) (by omega) n hn]
  constructor
  · rintro (z | ⟨a, b⟩)
    · exact Or.inl z
    · obtain ⟨c, c1, c2, c3, c4⟩ := (hT n a _ hm).mp b
      exact Or.inr ⟨c, by omega, ⟨c2, by rw [zsub1 (by omega)]; exact c3⟩, c4⟩
  · rintro (z | ⟨c, c1, ⟨c2, c3⟩, c4⟩)
    · exact Or.inl z
    · have h1 := hcp c (by omega)
      have hn2 : n < 12 := by rw [← c4, zclE]; omega
      rw [zsub1 (by omega)] at c3
      exact Or.inr ⟨hn2, (hT n hn2 _ hm).mpr ⟨c, by omega, c2, c3, c4⟩⟩
/-- one part more, or none -/
noncomputable def exP (p : Int32) : Int32 := if p = -1 then 0 else (1 : Int32) <<< (p &&& 31)
theorem exP_1 {p : Int32} (h : p = -1) : (0 : Int32) = exP p := by unfold exP; rw [if_pos h]
theorem exP_2 {p : Int32} (h : ¬ p = -1) : (1 : Int32) <<< (p &&& 31) = exP p := by unfold exP; rw [if_neg h]
/-- what the parts of a set add -/
noncomputable def sBn (ad : Nat → Int32) (s d : Int32) : Nat → Int32
  | 0 => d
  | n + 1 => if (s >>> (Int32.ofNat n &&& 31)) &&& 1 = 1 then sBn ad s d n + ad n else sBn ad s d n
section BN9
variable {ad : Nat → Int32} {s d x y v : Int32} {n : Nat}
theorem sBn_u : sBn ad s d (n + 1) = if (s >>> (Int32.ofNat n &&& 31)) &&& 1 = 1 then sBn ad s d n + ad n else sBn ad s d n := rfl
theorem sBn_y (hx : x.toInt = n) (hy : y = sBn ad s d n) (q : (s >>> (x &&& 31)) &&& 1 = 1) (hv : v = ad n) : y + v = sBn ad s d (n + 1) := by
  rw [zof hx] at q
  rw [sBn_u, if_pos q, hy, hv]
theorem sBn_n (hx : x.toInt = n) (hy : y = sBn ad s d n) (q : ¬ (s >>> (x &&& 31)) &&& 1 = 1) : y = sBn ad s d (n + 1) := by
  rw [zof hx] at q
  rw [sBn_u, if_neg q, hy]
theorem sBn_0 (hx : x.toInt = n) (hy : y = sBn ad s d n) (q : ¬ (s >>> (x &&& 31)) &&& 1 = 1) : y + 0 = sBn ad s d (n + 1) := by
  rw [Int32.add_zero]
  exact sBn_n hx hy q
end BN9
theorem sBn_congr {ad ad2 : Nat → Int32} {s d : Int32} : ∀ {n : Nat}, (∀ i, i < n → ad i = ad2 i) → sBn ad s d n = sBn ad2 s d n
  | 0, _ => rfl
  | n + 1, hh => by rw [sBn_u, sBn_u, sBn_congr (n := n) (fun i hi => hh i (by omega)), hh n (by omega)]
theorem tBo_u {P Q : Prop} {w w2 : Option Value} (h1 : tBo P w) (h2 : tBo Q w2) (e : P ↔ Q) : w2 = w := by
  rcases h1 with ⟨a, rfl⟩ | ⟨a, rfl⟩ <;> rcases h2 with ⟨b, rfl⟩ | ⟨b, rfl⟩
  · rfl
  · exact absurd (e.mp a) b
  · exact absurd (e.mpr b) a
  · rfl
noncomputable def R_bears (h : zH) : Prop := ∀ a, a < 8 → ∀ b, b < 3 → tA h (5 + a) b = tA h 115 (3 * a + b)
noncomputable def R_adds (h : zH) : Prop := ∀ a, a < 12 → ∀ b, b < 3 → tA h (15 + a) b = tA h 117 (3 * a + b)
theorem row3 {h : zH} {p0 n : Nat} {a b c : Int32} {k1 k2 k3 : Nat} {z1 z2 z3 : Int32} (f1 : tIn h (p0 + n) k1 z1) (f2 : tIn (tSA h (p0 + n) 0 a) (p0 + n) k2 z2) (f3 : tIn (tSA (tSA h (p0 + n) 0 a) (p0 + n) 1 b) (p0 + n) k3 z3) : ∀ i j, tA (tSA (tSA (tSA h (p0 + n) 0 a) (p0 + n) 1 b) (p0 + n) 2 c) (p0 + i) j = if i = n then (if j = 2 then c else if j = 1 then b else if j = 0 then a else tA h (p0 + i) j) else tA h (p0 + i) j := by
  intro i j
  rw [tA_tSA f3.cell, tA_tSA f2.cell, tA_tSA f1.cell]
  dsimp only
  by_cases e : i = n
  · rw [if_pos e]
    by_cases e2 : j = 2
    · rw [if_pos ⟨by omega, e2⟩, if_pos e2]
    · rw [if_neg (fun z => e2 z.2), if_neg e2]
      by_cases e1 : j = 1
      · rw [if_pos ⟨by omega, e1⟩, if_pos e1]
      · rw [if_neg (fun z => e1 z.2), if_neg e1]
        by_cases e0 : j = 0
        · rw [if_pos ⟨by omega, e0⟩, if_pos e0]
        · rw [if_neg (fun z => e0 z.2), if_neg e0]
  · rw [if_neg e, if_neg (by omega), if_neg (by omega), if_neg (by omega)]
/-- a row of three of the next one told -/
noncomputable def ph_rowc (p b p0 : Nat) (mx : Int) (C : Prop) (x y z : Int32) (h h2 : zH) : Prop := ((C ∧ (tvI (tF h p b)).toInt ≠ mx) ∧ ∀ i j, tA h2 (p0 + i) j = if i = (tvI (tF h p b)).toNatClampNeg then (if j = 2 then z else if j = 1 then y else if j = 0 then x else tA h (p0 + i) j) else tA h (p0 + i) j) ∨ (¬ (C ∧ (tvI (tF h p b)).toInt ≠ mx) ∧ ∀ i, tA h2 (p0 + i) = tA h (p0 + i))
noncomputable def ph_rowm (q c P : Nat) (mx : Int) (C : Prop) (x y z : Int32) (h h2 : zH) : Prop := ((C ∧ (tvI (tF h q c)).toInt ≠ mx) ∧ tA h2 P = fun j => if j = (3 * tvI (tF h q c) + 2).toNatClampNeg then z else if j = (3 * tvI (tF h q c) + 1).toNatClampNeg then y else if j = (3 * tvI (tF h q c)).toNatClampNeg then x else tA h P j) ∨ (¬ (C ∧ (tvI (tF h q c)).toInt ≠ mx) ∧ tA h2 P = tA h P)
theorem row_a {p b q c p0 P N : Nat} {C D : Prop} {x y z : Int32} {h h2 h3 : zH} (hR : ∀ a, a < N → ∀ b, b < 3 → tA h (p0 + a) b = tA h P (3 * a + b)) (hK : tF h p b = tF h q c) (nk : 0 ≤ (tvI (tF h p b)).toInt ∧ (tvI (tF h p b)).toInt ≤ (N : Int)) (hN : N ≤ 12) (e1 : tF h2 q c = tF h q c) (o1 : tA h2 P = tA h P) (t : ∀ i, i < N → tA h3 (p0 + i) = tA h2 (p0 + i)) (hC : C ↔ D) (k1 : ph_rowc p b p0 N C x y z h h2) (k2 : ph_rowm q c P N D x y z h2 h3) : ∀ a, a < N → ∀ b, b < 3 → tA h3 (p0 + a) b = tA h3 P (3 * a + b) := by
  unfold ph_rowc at k1
  unfold ph_rowm at k2
  rw [e1, o1, ← hK] at k2
  rcases k1 with ⟨c1, f1⟩ | ⟨c1, f1⟩ <;> rcases k2 with ⟨c2, f2⟩ | ⟨c2, f2⟩
  · intro a ha d hd
    have i0 := (zmulc (c := 3) (K := 3) (k := tvI (tF h p b)) (p := 0) rfl (by decide) (by omega) (by decide)).1
    have i1 := (zmulc (c := 3) (K := 3) (k := tvI (tF h p b)) (p := 1) rfl (by decide) (by omega) (by decide)).1
    have i2 := (zmulc (c := 3) (K := 3) (k := tvI (tF h p b)) (p := 2) rfl (by decide) (by omega) (by decide)).1
    rw [Int32.add_zero] at i0
    have z0 : (0 : Int32).toNatClampNeg = 0 := rfl
    have z1 : (1 : Int32).toNatClampNeg = 1 := rfl
    have z2 : (2 : Int32).toNatClampNeg = 2 := rfl
    rw [t a ha, f1, f2, hR a ha d hd, i0, i1, i2, z0, z1, z2]
    dsimp only
    by_cases e : a = (tvI (tF h p b)).toNatClampNeg
    · rw [if_pos e]
      rcases (by omega : d = 0 ∨ d = 1 ∨ d = 2) with rfl | rfl | rfl
      · rw [if_neg (by omega), if_neg (by omega), if_pos rfl, if_neg (by omega), if_neg (by omega), if_pos (by omega)]
      · rw [if_neg (by omega), if_pos rfl, if_neg (by omega), if_pos (by omega)]
      · rw [if_pos rfl, if_pos (by omega)]
    · rw [if_neg e, if_neg (by omega), if_neg (by omega), if_neg (by omega)]
  · exact absurd ⟨hC.mp c1.1, c1.2⟩ c2
  · exact absurd ⟨hC.mpr c2.1, c2.2⟩ c1
  · intro a ha d hd
    rw [t a ha, f1, f2]
    exact hR a ha d hd
theorem f_addKindB {G : zG} (hG : G.1 = zProg) {h : zH} {firm a b c : Int32} (hs : tSh h) (hr : tRw h) : tC zTt G 28 [.ref 1, .int firm, .int a, .int b, .int c] h (fun w h2 => (∃ x, w = some (.int x)) ∧ ph_rowc 1 6 5 8 True a b c h h2) := by
  refine tC_in (by rw [hG]; rfl) (fun dp => ?_)
  refine tw_aload rfl rfl ?_
  refine tw_getS rfl (hi_1_6 hs) ?_
  refine tw_push rfl ?_
  refine tw_ic_ne rfl (fun q40 => ?_) (fun q40 => ?_)
  · try dsimp only [tvI_i, tvJ_j, tvR_r] at q40
    have q40i := zneq (Y := 8) (by decide) q40
    refine tw_aload rfl rfl ?_
    refine tw_getS rfl (hs_1_1 hs) ?_
    refine tw_aload rfl rfl ?_
    refine tw_getS rfl (hi_1_6 hs) ?_
    refine tw_iload rfl rfl ?_
    refine tw_iast rfl (fun f41 => ?_)
    refine tw_aload rfl rfl ?_
    refine tw_getS rfl (hs_1_2 (tSh_SA hs)) ?_
    refine tw_aload rfl rfl ?_
    refine tw_getS rfl (tF_a (hi_1_6 hs)) ?_
    refine tw_aaldS rfl (fun z => tRw_at (tRw_A hr) (p := 4) (q := 5) (by decide) z) ?_
    refine tw_iload rfl rfl ?_
    refine tw_iload rfl rfl ?_
    refine tw_iload rfl rfl ?_
    refine tw_stat4 rfl (f_fill hG) (fun wp43 hp43 p43 => ?_)
    obtain ⟨rfl, rfl, p43a, p43b, p43c⟩ := p43
    refine tw_aload rfl rfl ?_
    refine tw_dup rfl ?_
    refine tw_getS rfl (tF_a (tF_a (tF_a (tF_a (hi_1_6 hs))))) ?_
    refine tw_dup_x1 rfl ?_
    refine tw_push rfl ?_
    refine tw_iadd rfl ?_
    refine tw_put rfl (fun f44 => ?_)
    refine tw_iret rfl ⟨⟨_, rfl⟩, Or.inl ⟨⟨trivial, by omega⟩, fun i j => ?_⟩⟩
    have e9 : tA (tSA h 3 (tvI (tF h 1 6)).toNatClampNeg firm) (5 + i) = tA h (5 + i) := tA_nz (by omega)
    rw [tA_tSF]
    refine (row3 p43a p43b p43c i j).trans ?_
    show (if i = (tvI (tF h 1 6)).toNatClampNeg then (if j = 2 then c else if j = 1 then b else if j = 0 then a else tA (tSA h 3 (tvI (tF h 1 6)).toNatClampNeg firm) (5 + i) j) else tA (tSA h 3 (tvI (tF h 1 6)).toNatClampNeg firm) (5 + i) j) = _
    rw [e9]
  · try dsimp only [tvI_i, tvJ_j, tvR_r] at q40
    have q40i := zeqi (Y := 8) (by decide) q40
    refine tw_push rfl ?_
    exact tw_iret rfl ⟨⟨_, rfl⟩, Or.inr ⟨fun z => absurd z.2 (by omega), fun _ => rfl⟩⟩
theorem f_kindB {G : zG} (hG : G.1 = zProg) {h : zH} {firm a b c : Int32} (hs : tSh h) (hr : tRw h) : tC zTt G 113 [.ref 0, .int firm, .int a, .int b, .int c] h (fun w h2 => ph_rowc 1 6 5 8 ((0 ≤ firm.toInt ∧ firm.toInt ≤ 3) ∧ (0 ≤ a.toInt ∧ a.toInt ≤ 99999) ∧ (0 ≤ b.toInt ∧ b.toInt ≤ 99999) ∧ (0 ≤ c.toInt ∧ c.toInt ≤ 99999)) a b c h h2) := by
  refine tC_in (by rw [hG]; rfl) (fun dp => ?_)
  refine tw_iload rfl rfl ?_
  refine tw_stat1 rfl (f_isFirm hG) (fun w9 h9 p45 => ?_)
  obtain ⟨⟨p45, rfl⟩ | ⟨p45, rfl⟩, rfl⟩ := p45
  · try dsimp only [tvI_i, tvJ_j, tvR_r] at p45
    refine tw_if_eq rfl (fun z => absurd z (by decide)) (fun _ => ?_)
    refine tw_iload rfl rfl ?_
    refine tw_push rfl ?_
    refine tw_push rfl ?_
    refine tw_stat3 rfl (f_isWithin hG (LO := 0) (HI := 99999) (by decide) (by decide)) (fun w9 h9 p46 => ?_)
    obtain ⟨⟨p46, rfl⟩ | ⟨p46, rfl⟩, rfl⟩ := p46
    · try dsimp only [tvI_i, tvJ_j, tvR_r] at p46
      refine tw_if_eq rfl (fun z => absurd z (by decide)) (fun _ => ?_)
      refine tw_iload rfl rfl ?_
      refine tw_push rfl ?_
      refine tw_push rfl ?_
      refine tw_stat3 rfl (f_isWithin hG (LO := 0) (HI := 99999) (by decide) (by decide)) (fun w9 h9 p47 => ?_)
      obtain ⟨⟨p47, rfl⟩ | ⟨p47, rfl⟩, rfl⟩ := p47
      · try dsimp only [tvI_i, tvJ_j, tvR_r] at p47
        refine tw_if_eq rfl (fun z => absurd z (by decide)) (fun _ => ?_)
        refine tw_iload rfl rfl ?_
        refine tw_push rfl ?_
        refine tw_push rfl ?_
        refine tw_stat3 rfl (f_isWithin hG (LO := 0) (HI := 99999) (by decide) (by decide)) (fun w9 h9 p48 => ?_)
        obtain ⟨⟨p48, rfl⟩ | ⟨p48, rfl⟩, rfl⟩ := p48
        · try dsimp only [tvI_i, tvJ_j, tvR_r] at p48
          refine tw_if_eq rfl (fun z => absurd z (by decide)) (fun _ => ?_)
          refine tw_push rfl ?_
          refine tw_goto rfl ?_
          refine tw_istore rfl ?_
          refine tw_iload rfl rfl ?_
          refine tw_if_eq rfl (fun z => absurd z (by decide)) (fun _ => ?_)
          refine tw_aload rfl rfl ?_
          refine tw_getS rfl (hs_0_0 hs) ?_
          refine tw_iload rfl rfl ?_
          refine tw_iload rfl rfl ?_
          refine tw_iload rfl rfl ?_
          refine tw_iload rfl rfl ?_
          refine tw_virt4 rfl (f_addKindB hG hs hr) (fun wp49 hp49 p49 => ?_)
          obtain ⟨⟨_, rfl⟩, ap49⟩ := p49
          refine tw_goto rfl ?_
          exact tw_iret rfl (ap49.imp (fun z => ⟨⟨by omega, z.1.2⟩, z.2⟩) (fun z => ⟨fun y => z.1 ⟨trivial, y.2⟩, z.2⟩))
        · try dsimp only [tvI_i, tvJ_j, tvR_r] at p48
          refine tw_if_eq rfl (fun _ => ?_) (fun z => absurd z (by decide))
          refine tw_push rfl ?_
          refine tw_istore rfl ?_
          refine tw_iload rfl rfl ?_
          refine tw_if_eq rfl (fun _ => ?_) (fun z => absurd z (by decide))
          refine tw_push rfl ?_
          exact tw_iret rfl (Or.inr ⟨fun z => absurd z.1 (by omega), fun _ => rfl⟩)
      · try dsimp only [tvI_i, tvJ_j, tvR_r] at p47
        refine tw_if_eq rfl (fun _ => ?_) (fun z => absurd z (by decide))
        refine tw_push rfl ?_
        refine tw_istore rfl ?_
        refine tw_iload rfl rfl ?_
        refine tw_if_eq rfl (fun _ => ?_) (fun z => absurd z (by decide))
        refine tw_push rfl ?_
        exact tw_iret rfl (Or.inr ⟨fun z => absurd z.1 (by omega), fun _ => rfl⟩)
    · try dsimp only [tvI_i, tvJ_j, tvR_r] at p46
      refine tw_if_eq rfl (fun _ => ?_) (fun z => absurd z (by decide))
      refine tw_push rfl ?_
      refine tw_istore rfl ?_
      refine tw_iload rfl rfl ?_
      refine tw_if_eq rfl (fun _ => ?_) (fun z => absurd z (by decide))
      refine tw_push rfl ?_
      exact tw_iret rfl (Or.inr ⟨fun z => absurd z.1 (by omega), fun _ => rfl⟩)
  · try dsimp only [tvI_i, tvJ_j, tvR_r] at p45
    refine tw_if_eq rfl (fun _ => ?_) (fun z => absurd z (by decide))
    refine tw_push rfl ?_
    refine tw_istore rfl ?_
    refine tw_iload rfl rfl ?_
    refine tw_if_eq rfl (fun _ => ?_) (fun z => absurd z (by decide))
    refine tw_push rfl ?_
    exact tw_iret rfl (Or.inr ⟨fun z => absurd z.1 (by omega), fun _ => rfl⟩)
theorem g_kindB {G : zG} (hG : G.1 = zProg) {h : zH} {firm a b c : Int32} (hs : tSh h) : tC zTt G 181 [.ref 111, .int firm, .int a, .int b, .int c] h (fun w h2 => ph_rowm 111 3 115 8 ((0 ≤ firm.toInt ∧ firm.toInt ≤ 3) ∧ (0 ≤ a.toInt ∧ a.toInt ≤ 99999) ∧ (0 ≤ b.toInt ∧ b.toInt ≤ 99999) ∧ (0 ≤ c.toInt ∧ c.toInt ≤ 99999)) a b c h h2) := by
  refine tC_in (by rw [hG]; rfl) (fun dp => ?_)
  refine tw_aload rfl rfl ?_
  refine tw_getS rfl (hi_111_3 hs) ?_
  refine tw_push rfl ?_
  refine tw_ic_eq rfl (fun q50 => ?_) (fun q50 => ?_)
  · try dsimp only [tvI_i, tvJ_j, tvR_r] at q50
    have q50i := zeqi (Y := 8) (by decide) q50
    refine tw_push rfl ?_
    exact tw_iret rfl (Or.inr ⟨fun z => by omega, rfl⟩)
  · try dsimp only [tvI_i, tvJ_j, tvR_r] at q50
    have q50i := zneq (Y := 8) (by decide) q50
    refine tw_iload rfl rfl ?_
    refine tw_i2l rfl ?_
    refine tw_push rfl ?_
    refine tw_push rfl ?_
    refine tw_stat3 rfl (f_in hG  (LO := 0) (HI := 3) (Int32.toInt_toInt64 _) (by decide) (by decide)) (fun w9 h9 p51 => ?_)
    obtain ⟨⟨p51, rfl⟩ | ⟨p51, rfl⟩, rfl⟩ := p51
    · try dsimp only [tvI_i, tvJ_j, tvR_r] at p51
      refine tw_if_eq rfl (fun z => absurd z (by decide)) (fun _ => ?_)
      refine tw_iload rfl rfl ?_
      refine tw_i2l rfl ?_
      refine tw_push rfl ?_
      refine tw_push rfl ?_
      refine tw_stat3 rfl (f_in hG  (LO := 0) (HI := 99999) (Int32.toInt_toInt64 _) (by decide) (by decide)) (fun w9 h9 p52 => ?_)
      obtain ⟨⟨p52, rfl⟩ | ⟨p52, rfl⟩, rfl⟩ := p52
      · try dsimp only [tvI_i, tvJ_j, tvR_r] at p52
        refine tw_if_eq rfl (fun z => absurd z (by decide)) (fun _ => ?_)
        refine tw_iload rfl rfl ?_
        refine tw_i2l rfl ?_
        refine tw_push rfl ?_
        refine tw_push rfl ?_
        refine tw_stat3 rfl (f_in hG  (LO := 0) (HI := 99999) (Int32.toInt_toInt64 _) (by decide) (by decide)) (fun w9 h9 p53 => ?_)
        obtain ⟨⟨p53, rfl⟩ | ⟨p53, rfl⟩, rfl⟩ := p53
        · try dsimp only [tvI_i, tvJ_j, tvR_r] at p53
          refine tw_if_eq rfl (fun z => absurd z (by decide)) (fun _ => ?_)
          refine tw_iload rfl rfl ?_
          refine tw_i2l rfl ?_
          refine tw_push rfl ?_
          refine tw_push rfl ?_
          refine tw_stat3 rfl (f_in hG  (LO := 0) (HI := 99999) (Int32.toInt_toInt64 _) (by decide) (by decide)) (fun w9 h9 p54 => ?_)
          obtain ⟨⟨p54, rfl⟩ | ⟨p54, rfl⟩, rfl⟩ := p54
          · try dsimp only [tvI_i, tvJ_j, tvR_r] at p54
            refine tw_if_ne rfl (fun _ => ?_) (fun z => absurd z (by decide))
            refine tw_aload rfl rfl ?_
            refine tw_getS rfl (hs_111_9 hs) ?_
            refine tw_aload rfl rfl ?_
            refine tw_getS rfl (hi_111_3 hs) ?_
            refine tw_iload rfl rfl ?_
            refine tw_iast rfl (fun f55 => ?_)
            refine tw_aload rfl rfl ?_
            refine tw_getS rfl (hs_111_10 (tSh_SA hs)) ?_
            refine tw_push rfl ?_
            refine tw_aload rfl rfl ?_
            refine tw_getS rfl (tF_a (hi_111_3 hs)) ?_
            refine tw_imul rfl ?_
            refine tw_iload rfl rfl ?_
            refine tw_iast rfl (fun f56 => ?_)
            refine tw_aload rfl rfl ?_
            refine tw_getS rfl (hs_111_10 (tSh_SA (tSh_SA hs))) ?_
            refine tw_push rfl ?_
            refine tw_aload rfl rfl ?_
            refine tw_getS rfl (tF_a (tF_a (hi_111_3 hs))) ?_
            refine tw_imul rfl ?_
            refine tw_push rfl ?_
            refine tw_iadd rfl ?_
            refine tw_iload rfl rfl ?_
            refine tw_iast rfl (fun f57 => ?_)
            refine tw_aload rfl rfl ?_
            refine tw_getS rfl (hs_111_10 (tSh_SA (tSh_SA (tSh_SA hs)))) ?_
            refine tw_push rfl ?_
            refine tw_aload rfl rfl ?_
            refine tw_getS rfl (tF_a (tF_a (tF_a (hi_111_3 hs)))) ?_
            refine tw_imul rfl ?_
            refine tw_push rfl ?_
            refine tw_iadd rfl ?_
            refine tw_iload rfl rfl ?_
            refine tw_iast rfl (fun f58 => ?_)
            refine tw_aload rfl rfl ?_
            refine tw_dup rfl ?_
            refine tw_getS rfl (tF_a (tF_a (tF_a (tF_a (hi_111_3 hs))))) ?_
            refine tw_push rfl ?_
            refine tw_iadd rfl ?_
            refine tw_put rfl (fun f59 => ?_)
            refine tw_aload rfl rfl ?_
            refine tw_getS rfl (tF_same f59) ?_
            refine tw_push rfl ?_
            refine tw_isub rfl ?_
            exact tw_iret rfl (Or.inl ⟨⟨by omega, by omega⟩, (tA_ff (tA_st f58 (tA_st f57 (tA_st f56 (tA_n (by decide) rfl)))))⟩)
          · try dsimp only [tvI_i, tvJ_j, tvR_r] at p54
            refine tw_if_ne rfl (fun z => absurd z (by decide)) (fun _ => ?_)
            refine tw_push rfl ?_
            exact tw_iret rfl (Or.inr ⟨fun z => by omega, rfl⟩)
        · try dsimp only [tvI_i, tvJ_j, tvR_r] at p53
          refine tw_if_eq rfl (fun _ => ?_) (fun z => absurd z (by decide))
          refine tw_push rfl ?_
          exact tw_iret rfl (Or.inr ⟨fun z => by omega, rfl⟩)
      · try dsimp only [tvI_i, tvJ_j, tvR_r] at p52
        refine tw_if_eq rfl (fun _ => ?_) (fun z => absurd z (by decide))
        refine tw_push rfl ?_
        exact tw_iret rfl (Or.inr ⟨fun z => by omega, rfl⟩)
    · try dsimp only [tvI_i, tvJ_j, tvR_r] at p51
      refine tw_if_eq rfl (fun _ => ?_) (fun z => absurd z (by decide))
      refine tw_push rfl ?_
      exact tw_iret rfl (Or.inr ⟨fun z => by omega, rfl⟩)
noncomputable def ph_kindB (firm a b c : Int32) (h : zH) (w : Option Value) (h2 : zH) : Prop := (fun firm a b c h => phA 1 6 (((0 ≤ firm.toInt ∧ firm.toInt ≤ 3) ∧ (0 ≤ a.toInt ∧ a.toInt ≤ 99999) ∧ (0 ≤ b.toInt ∧ b.toInt ≤ 99999) ∧ (0 ≤ c.toInt ∧ c.toInt ≤ 99999)) ∧ (tvI (tF h 1 6)).toInt ≠ 8) [(3, firm)] h) firm a b c h w h2 ∧ ph_rowc 1 6 5 8 ((0 ≤ firm.toInt ∧ firm.toInt ≤ 3) ∧ (0 ≤ a.toInt ∧ a.toInt ≤ 99999) ∧ (0 ≤ b.toInt ∧ b.toInt ≤ 99999) ∧ (0 ≤ c.toInt ∧ c.toInt ≤ 99999)) a b c h h2
noncomputable def ph_kindM (firm a b c : Int32) (h : zH) (w : Option Value) (h2 : zH) : Prop := (fun firm a b c h => phA 111 3 (((0 ≤ firm.toInt ∧ firm.toInt ≤ 3) ∧ (0 ≤ a.toInt ∧ a.toInt ≤ 99999) ∧ (0 ≤ b.toInt ∧ b.toInt ≤ 99999) ∧ (0 ≤ c.toInt ∧ c.toInt ≤ 99999)) ∧ (tvI (tF h 111 3)).toInt ≠ 8) [(114, firm)] h) firm a b c h w h2 ∧ ph_rowm 111 3 115 8 ((0 ≤ firm.toInt ∧ firm.toInt ≤ 3) ∧ (0 ≤ a.toInt ∧ a.toInt ≤ 99999) ∧ (0 ≤ b.toInt ∧ b.toInt ≤ 99999) ∧ (0 ≤ c.toInt ∧ c.toInt ≤ 99999)) a b c h h2
noncomputable def R_people (h : zH) : Prop := tF h 36 2 = tF h 111 2
theorem f_addPerson {G : zG} (hG : G.1 = zProg) {h : zH} {firm : Int32} (hs : tSh h) : tC zTt G 16 [.ref 36, .int firm] h (phN 36 2 ((tvI (tF h 36 2)).toInt ≠ 60) h) := by
  refine tC_in (by rw [hG]; rfl) (fun dp => ?_)
  refine tw_aload rfl rfl ?_
  refine tw_getS rfl (hi_36_2 hs) ?_
  refine tw_push rfl ?_
  refine tw_ic_ne rfl (fun q60 => ?_) (fun q60 => ?_)
  · try dsimp only [tvI_i, tvJ_j, tvR_r] at q60
    have q60i := zneq (Y := 60) (by decide) q60
    refine tw_aload rfl rfl ?_
    refine tw_getS rfl (hs_36_0 hs) ?_
    refine tw_aload rfl rfl ?_
    refine tw_getS rfl (hi_36_2 hs) ?_
    refine tw_iload rfl rfl ?_
    refine tw_iast rfl (fun f61 => ?_)
    refine tw_aload rfl rfl ?_
    refine tw_dup rfl ?_
    refine tw_getS rfl (tF_a (hi_36_2 hs)) ?_
    refine tw_dup_x1 rfl ?_
    refine tw_push rfl ?_
    refine tw_iadd rfl ?_
    refine tw_put rfl (fun f62 => ?_)
    exact tw_iret rfl (Or.inl ⟨by omega, congrArg some (hi_36_2 hs).symm, (tF_same f62)⟩)
  · try dsimp only [tvI_i, tvJ_j, tvR_r] at q60
    have q60i := zeqi (Y := 60) (by decide) q60
    refine tw_push rfl ?_
    exact tw_iret rfl (Or.inr ⟨by omega, rfl, rfl⟩)
theorem f_person {G : zG} (hG : G.1 = zProg) {h : zH} {firm : Int32} (hs : tSh h) : tC zTt G 111 [.ref 0, .int firm] h (phN 36 2 ((-1 ≤ firm.toInt ∧ firm.toInt ≤ 3) ∧ (tvI (tF h 36 2)).toInt ≠ 60) h) := by
  refine tC_in (by rw [hG]; rfl) (fun dp => ?_)
  refine tw_iload rfl rfl ?_
  refine tw_push rfl ?_
  refine tw_ic_eq rfl (fun q63 => ?_) (fun q63 => ?_)
  · try dsimp only [tvI_i, tvJ_j, tvR_r] at q63
    have q63i := zeqi (Y := (-1)) (by decide) q63
    refine tw_aload rfl rfl ?_
    refine tw_getS rfl (hs_0_1 hs) ?_
    refine tw_iload rfl rfl ?_
    refine tw_virt1 rfl (f_addPerson hG  hs) (fun w9 h9 p64 => ?_)
    rcases p64 with ⟨p64, rfl, p64e⟩ | ⟨p64, rfl, p64e⟩
    · refine tw_goto rfl ?_
      exact tw_iret rfl (Or.inl ⟨by omega, congrArg some (hi_36_2 hs).symm, p64e⟩)
    · refine tw_goto rfl ?_
      exact tw_iret rfl (Or.inr ⟨by omega, rfl, p64e⟩)
  · try dsimp only [tvI_i, tvJ_j, tvR_r] at q63
    have q63i := zneq (Y := (-1)) (by decide) q63
    refine tw_iload rfl rfl ?_
    refine tw_stat1 rfl (f_isFirm hG) (fun w9 h9 p65 => ?_)
    obtain ⟨⟨p65, rfl⟩ | ⟨p65, rfl⟩, rfl⟩ := p65
    · try dsimp only [tvI_i, tvJ_j, tvR_r] at p65
      refine tw_if_eq rfl (fun z => absurd z (by decide)) (fun _ => ?_)
      refine tw_aload rfl rfl ?_
      refine tw_getS rfl (hs_0_1 hs) ?_
      refine tw_iload rfl rfl ?_
      refine tw_virt1 rfl (f_addPerson hG  hs) (fun w9 h9 p66 => ?_)
      rcases p66 with ⟨p66, rfl, p66e⟩ | ⟨p66, rfl, p66e⟩
      · refine tw_goto rfl ?_
        exact tw_iret rfl (Or.inl ⟨by omega, congrArg some (hi_36_2 hs).symm, p66e⟩)
      · refine tw_goto rfl ?_
        exact tw_iret rfl (Or.inr ⟨by omega, rfl, p66e⟩)
    · try dsimp only [tvI_i, tvJ_j, tvR_r] at p65
      refine tw_if_eq rfl (fun _ => ?_) (fun z => absurd z (by decide))
      refine tw_push rfl ?_
      exact tw_iret rfl (Or.inr ⟨by omega, rfl, rfl⟩)
theorem g_person {G : zG} (hG : G.1 = zProg) {h : zH} {firm : Int32} (hs : tSh h)  : tC zTt G 179 [.ref 111, .int firm] h (phN 111 2 ((-1 ≤ firm.toInt ∧ firm.toInt ≤ 3) ∧ (tvI (tF h 111 2)).toInt ≠ 60) h) := by
  refine tC_in (by rw [hG]; rfl) (fun dp => ?_)
  refine tw_aload rfl rfl ?_
  refine tw_getS rfl (hi_111_2 hs) ?_
  refine tw_push rfl ?_
  refine tw_ic_eq rfl (fun q67 => ?_) (fun q67 => ?_)
  · try dsimp only [tvI_i, tvJ_j, tvR_r] at q67
    have q67i := zeqi (Y := 60) (by decide) q67
    refine tw_push rfl ?_
    exact tw_iret rfl (Or.inr ⟨by omega, rfl, rfl⟩)
  · try dsimp only [tvI_i, tvJ_j, tvR_r] at q67
    have q67i := zneq (Y := 60) (by decide) q67
    refine tw_iload rfl rfl ?_
    refine tw_i2l rfl ?_
    refine tw_push rfl ?_
    refine tw_push rfl ?_
    refine tw_stat3 rfl (f_in hG  (LO := (-1)) (HI := 3) (Int32.toInt_toInt64 _) (by decide) (by decide)) (fun w9 h9 p68 => ?_)
    obtain ⟨⟨p68, rfl⟩ | ⟨p68, rfl⟩, rfl⟩ := p68
    · try dsimp only [tvI_i, tvJ_j, tvR_r] at p68
      refine tw_if_ne rfl (fun _ => ?_) (fun z => absurd z (by decide))
      refine tw_aload rfl rfl ?_
      refine tw_getS rfl (hs_111_7 hs) ?_
      refine tw_aload rfl rfl ?_
      refine tw_getS rfl (hi_111_2 hs) ?_
      refine tw_iload rfl rfl ?_
      refine tw_iast rfl (fun f69 => ?_)
      refine tw_aload rfl rfl ?_
      refine tw_dup rfl ?_
      refine tw_getS rfl (tF_a (hi_111_2 hs)) ?_
      refine tw_push rfl ?_
      refine tw_iadd rfl ?_
      refine tw_put rfl (fun f70 => ?_)
      refine tw_aload rfl rfl ?_
      refine tw_getS rfl (tF_same f70) ?_
      refine tw_push rfl ?_
      refine tw_isub rfl ?_
      exact tw_iret rfl (Or.inl ⟨by omega, wret1 (hi_111_2 hs), (tF_same f70)⟩)
    · try dsimp only [tvI_i, tvJ_j, tvR_r] at p68
      refine tw_if_ne rfl (fun z => absurd z (by decide)) (fun _ => ?_)
      refine tw_push rfl ?_
      exact tw_iret rfl (Or.inr ⟨by omega, rfl, rfl⟩)
theorem a_person {firm : Int32} {h h2 h3 : zH} {w w2 : Option Value}  (hR : R_people h) (e1 : tF h2 111 2 = tF h 111 2) (e2 : tF h3 36 2 = tF h2 36 2) (k1 : phN 36 2 ((-1 ≤ firm.toInt ∧ firm.toInt ≤ 3) ∧ (tvI (tF h 36 2)).toInt ≠ 60) h w h2) (k2 : phN 111 2 ((-1 ≤ firm.toInt ∧ firm.toInt ≤ 3) ∧ (tvI (tF h2 111 2)).toInt ≠ 60) h2 w2 h3) : w2 = w ∧ R_people h3 := by
  refine phN_a hR e1 e2 ?_ k1 k2
  have hR2 := hR
  unfold R_people at hR2
  rw [e1, ← hR2]
theorem f_addPart {G : zG} (hG : G.1 = zProg) {h : zH} {price : Int32} {a : Int32} {b : Int32} {c : Int32} (hs : tSh h) (hr : tRw h) : tC zTt G 29 [.ref 1, .int price, .int a, .int b, .int c] h (phN 1 7 ((tvI (tF h 1 7)).toInt ≠ 12) h) := by
  refine tC_in (by rw [hG]; rfl) (fun dp => ?_)
  refine tw_aload rfl rfl ?_
  refine tw_getS rfl (hi_1_7 hs) ?_
  refine tw_push rfl ?_
  refine tw_ic_ne rfl (fun q71 => ?_) (fun q71 => ?_)
  · try dsimp only [tvI_i, tvJ_j, tvR_r] at q71
    have q71i := zneq (Y := 12) (by decide) q71
    refine tw_aload rfl rfl ?_
    refine tw_getS rfl (hs_1_3 hs) ?_
    refine tw_aload rfl rfl ?_
    refine tw_getS rfl (hi_1_7 hs) ?_
    refine tw_iload rfl rfl ?_
    refine tw_iast rfl (fun f72 => ?_)
    refine tw_aload rfl rfl ?_
    refine tw_getS rfl (hs_1_4 (tSh_SA hs)) ?_
    refine tw_aload rfl rfl ?_
    refine tw_getS rfl (tF_a (hi_1_7 hs)) ?_
    refine tw_aaldS rfl (fun z => tRw_at (tRw_A hr) (p := 14) (q := 15) (by decide) z) ?_
    refine tw_iload rfl rfl ?_
    refine tw_iload rfl rfl ?_
    refine tw_iload rfl rfl ?_
    refine tw_stat4 rfl (f_fill hG) (fun wp74 hp74 p74 => ?_)
    obtain ⟨rfl, rfl, p74a, p74b, p74c⟩ := p74
    refine tw_aload rfl rfl ?_
    refine tw_dup rfl ?_
    refine tw_getS rfl (tF_a (tF_a (tF_a (tF_a (hi_1_7 hs))))) ?_
    refine tw_dup_x1 rfl ?_
    refine tw_push rfl ?_
    refine tw_iadd rfl ?_
    refine tw_put rfl (fun f75 => ?_)
    exact tw_iret rfl (Or.inl ⟨by omega, congrArg some (hi_1_7 hs).symm, (tF_same f75)⟩)
  · try dsimp only [tvI_i, tvJ_j, tvR_r] at q71
    have q71i := zeqi (Y := 12) (by decide) q71
    refine tw_push rfl ?_
    exact tw_iret rfl (Or.inr ⟨by omega, rfl, rfl⟩)
theorem f_part {G : zG} (hG : G.1 = zProg) {h : zH} {price : Int32} {a : Int32} {b : Int32} {c : Int32} (hs : tSh h) (hr : tRw h) : tC zTt G 114 [.ref 0, .int price, .int a, .int b, .int c] h (phN 1 7 (((0 ≤ price.toInt ∧ price.toInt ≤ 9999) ∧ (0 ≤ a.toInt ∧ a.toInt ≤ 9999) ∧ (0 ≤ b.toInt ∧ b.toInt ≤ 9999) ∧ (0 ≤ c.toInt ∧ c.toInt ≤ 9999)) ∧ (tvI (tF h 1 7)).toInt ≠ 12) h) := by
  refine tC_in (by rw [hG]; rfl) (fun dp => ?_)
  refine tw_iload rfl rfl ?_
  refine tw_push rfl ?_
  refine tw_push rfl ?_
  refine tw_stat3 rfl (f_isWithin hG (LO := 0) (HI := 9999) (by decide) (by decide)) (fun w9 h9 p76 => ?_)
  obtain ⟨⟨p76, rfl⟩ | ⟨p76, rfl⟩, rfl⟩ := p76
  · try dsimp only [tvI_i, tvJ_j, tvR_r] at p76
    refine tw_if_eq rfl (fun z => absurd z (by decide)) (fun _ => ?_)
    refine tw_iload rfl rfl ?_
    refine tw_push rfl ?_
    refine tw_push rfl ?_
    refine tw_stat3 rfl (f_isWithin hG (LO := 0) (HI := 9999) (by decide) (by decide)) (fun w9 h9 p77 => ?_)
    obtain ⟨⟨p77, rfl⟩ | ⟨p77, rfl⟩, rfl⟩ := p77
    · try dsimp only [tvI_i, tvJ_j, tvR_r] at p77
      refine tw_if_eq rfl (fun z => absurd z (by decide)) (fun _ => ?_)
      refine tw_iload rfl rfl ?_
      refine tw_push rfl ?_
      refine tw_push rfl ?_
      refine tw_stat3 rfl (f_isWithin hG (LO := 0) (HI := 9999) (by decide) (by decide)) (fun w9 h9 p78 => ?_)
      obtain ⟨⟨p78, rfl⟩ | ⟨p78, rfl⟩, rfl⟩ := p78
      · try dsimp only [tvI_i, tvJ_j, tvR_r] at p78
        refine tw_if_eq rfl (fun z => absurd z (by decide)) (fun _ => ?_)
        refine tw_iload rfl rfl ?_
        refine tw_push rfl ?_
        refine tw_push rfl ?_
        refine tw_stat3 rfl (f_isWithin hG (LO := 0) (HI := 9999) (by decide) (by decide)) (fun w9 h9 p79 => ?_)
        obtain ⟨⟨p79, rfl⟩ | ⟨p79, rfl⟩, rfl⟩ := p79
        · try dsimp only [tvI_i, tvJ_j, tvR_r] at p79
          refine tw_if_eq rfl (fun z => absurd z (by decide)) (fun _ => ?_)
          refine tw_push rfl ?_
          refine tw_goto rfl ?_
          refine tw_istore rfl ?_
          refine tw_iload rfl rfl ?_
          refine tw_if_eq rfl (fun z => absurd z (by decide)) (fun _ => ?_)
          refine tw_aload rfl rfl ?_
          refine tw_getS rfl (hs_0_0 hs) ?_
          refine tw_iload rfl rfl ?_
          refine tw_iload rfl rfl ?_
          refine tw_iload rfl rfl ?_
          refine tw_iload rfl rfl ?_
          refine tw_virt4 rfl (f_addPart hG  hs hr) (fun w9 h9 p80 => ?_)
          rcases p80 with ⟨p80, rfl, p80e⟩ | ⟨p80, rfl, p80e⟩
          · refine tw_goto rfl ?_
            exact tw_iret rfl (Or.inl ⟨by omega, congrArg some (hi_1_7 hs).symm, p80e⟩)
          · refine tw_goto rfl ?_
            exact tw_iret rfl (Or.inr ⟨by omega, rfl, p80e⟩)
        · try dsimp only [tvI_i, tvJ_j, tvR_r] at p79
          refine tw_if_eq rfl (fun _ => ?_) (fun z => absurd z (by decide))
          refine tw_push rfl ?_
          refine tw_istore rfl ?_
          refine tw_iload rfl rfl ?_
          refine tw_if_eq rfl (fun _ => ?_) (fun z => absurd z (by decide))
          refine tw_push rfl ?_
          exact tw_iret rfl (Or.inr ⟨by omega, rfl, rfl⟩)
      · try dsimp only [tvI_i, tvJ_j, tvR_r] at p78
        refine tw_if_eq rfl (fun _ => ?_) (fun z => absurd z (by decide))
        refine tw_push rfl ?_
        refine tw_istore rfl ?_
        refine tw_iload rfl rfl ?_
        refine tw_if_eq rfl (fun _ => ?_) (fun z => absurd z (by decide))
        refine tw_push rfl ?_
        exact tw_iret rfl (Or.inr ⟨by omega, rfl, rfl⟩)
    · try dsimp only [tvI_i, tvJ_j, tvR_r] at p77
      refine tw_if_eq rfl (fun _ => ?_) (fun z => absurd z (by decide))
      refine tw_push rfl ?_
      refine tw_istore rfl ?_
      refine tw_iload rfl rfl ?_
      refine tw_if_eq rfl (fun _ => ?_) (fun z => absurd z (by decide))
      refine tw_push rfl ?_
      exact tw_iret rfl (Or.inr ⟨by omega, rfl, rfl⟩)
  · try dsimp only [tvI_i, tvJ_j, tvR_r] at p76
    refine tw_if_eq rfl (fun _ => ?_) (fun z => absurd z (by decide))
    refine tw_push rfl ?_
    refine tw_istore rfl ?_
    refine tw_iload rfl rfl ?_
    refine tw_if_eq rfl (fun _ => ?_) (fun z => absurd z (by decide))
    refine tw_push rfl ?_
    exact tw_iret rfl (Or.inr ⟨by omega, rfl, rfl⟩)
theorem g_part {G : zG} (hG : G.1 = zProg) {h : zH} {price : Int32} {a : Int32} {b : Int32} {c : Int32} (hs : tSh h)  : tC zTt G 182 [.ref 111, .int price, .int a, .int b, .int c] h (phN 111 4 (((0 ≤ price.toInt ∧ price.toInt ≤ 9999) ∧ (0 ≤ a.toInt ∧ a.toInt ≤ 9999) ∧ (0 ≤ b.toInt ∧ b.toInt ≤ 9999) ∧ (0 ≤ c.toInt ∧ c.toInt ≤ 9999)) ∧ (tvI (tF h 111 4)).toInt ≠ 12) h) := by
  refine tC_in (by rw [hG]; rfl) (fun dp => ?_)
  refine tw_aload rfl rfl ?_
  refine tw_getS rfl (hi_111_4 hs) ?_
  refine tw_push rfl ?_
  refine tw_ic_eq rfl (fun q81 => ?_) (fun q81 => ?_)
  · try dsimp only [tvI_i, tvJ_j, tvR_r] at q81
    have q81i := zeqi (Y := 12) (by decide) q81
    refine tw_push rfl ?_
    exact tw_iret rfl (Or.inr ⟨by omega, rfl, rfl⟩)
  · try dsimp only [tvI_i, tvJ_j, tvR_r] at q81
    have q81i := zneq (Y := 12) (by decide) q81
    refine tw_iload rfl rfl ?_
    refine tw_i2l rfl ?_
    refine tw_push rfl ?_
    refine tw_push rfl ?_
    refine tw_stat3 rfl (f_in hG  (LO := 0) (HI := 9999) (Int32.toInt_toInt64 _) (by decide) (by decide)) (fun w9 h9 p82 => ?_)
    obtain ⟨⟨p82, rfl⟩ | ⟨p82, rfl⟩, rfl⟩ := p82
    · try dsimp only [tvI_i, tvJ_j, tvR_r] at p82
      refine tw_if_eq rfl (fun z => absurd z (by decide)) (fun _ => ?_)
      refine tw_iload rfl rfl ?_
      refine tw_i2l rfl ?_
      refine tw_push rfl ?_
      refine tw_push rfl ?_
      refine tw_stat3 rfl (f_in hG  (LO := 0) (HI := 9999) (Int32.toInt_toInt64 _) (by decide) (by decide)) (fun w9 h9 p83 => ?_)
      obtain ⟨⟨p83, rfl⟩ | ⟨p83, rfl⟩, rfl⟩ := p83
      · try dsimp only [tvI_i, tvJ_j, tvR_r] at p83
        refine tw_if_eq rfl (fun z => absurd z (by decide)) (fun _ => ?_)
        refine tw_iload rfl rfl ?_
        refine tw_i2l rfl ?_
        refine tw_push rfl ?_
        refine tw_push rfl ?_
        refine tw_stat3 rfl (f_in hG  (LO := 0) (HI := 9999) (Int32.toInt_toInt64 _) (by decide) (by decide)) (fun w9 h9 p84 => ?_)
        obtain ⟨⟨p84, rfl⟩ | ⟨p84, rfl⟩, rfl⟩ := p84
        · try dsimp only [tvI_i, tvJ_j, tvR_r] at p84
          refine tw_if_eq rfl (fun z => absurd z (by decide)) (fun _ => ?_)
          refine tw_iload rfl rfl ?_
          refine tw_i2l rfl ?_
          refine tw_push rfl ?_
          refine tw_push rfl ?_
          refine tw_stat3 rfl (f_in hG  (LO := 0) (HI := 9999) (Int32.toInt_toInt64 _) (by decide) (by decide)) (fun w9 h9 p85 => ?_)
          obtain ⟨⟨p85, rfl⟩ | ⟨p85, rfl⟩, rfl⟩ := p85
          · try dsimp only [tvI_i, tvJ_j, tvR_r] at p85
            refine tw_if_ne rfl (fun _ => ?_) (fun z => absurd z (by decide))
            refine tw_aload rfl rfl ?_
            refine tw_getS rfl (hs_111_11 hs) ?_
            refine tw_aload rfl rfl ?_
            refine tw_getS rfl (hi_111_4 hs) ?_
            refine tw_iload rfl rfl ?_
            refine tw_iast rfl (fun f86 => ?_)
            refine tw_aload rfl rfl ?_
            refine tw_getS rfl (hs_111_12 (tSh_SA hs)) ?_
            refine tw_push rfl ?_
            refine tw_aload rfl rfl ?_
            refine tw_getS rfl (tF_a (hi_111_4 hs)) ?_
            refine tw_imul rfl ?_
            refine tw_iload rfl rfl ?_
            refine tw_iast rfl (fun f87 => ?_)
            refine tw_aload rfl rfl ?_
            refine tw_getS rfl (hs_111_12 (tSh_SA (tSh_SA hs))) ?_
            refine tw_push rfl ?_
            refine tw_aload rfl rfl ?_
            refine tw_getS rfl (tF_a (tF_a (hi_111_4 hs))) ?_
            refine tw_imul rfl ?_
            refine tw_push rfl ?_
            refine tw_iadd rfl ?_
            refine tw_iload rfl rfl ?_
            refine tw_iast rfl (fun f88 => ?_)
            refine tw_aload rfl rfl ?_
            refine tw_getS rfl (hs_111_12 (tSh_SA (tSh_SA (tSh_SA hs)))) ?_
            refine tw_push rfl ?_
            refine tw_aload rfl rfl ?_
            refine tw_getS rfl (tF_a (tF_a (tF_a (hi_111_4 hs)))) ?_
            refine tw_imul rfl ?_
            refine tw_push rfl ?_
            refine tw_iadd rfl ?_
            refine tw_iload rfl rfl ?_
            refine tw_iast rfl (fun f89 => ?_)
            refine tw_aload rfl rfl ?_
            refine tw_dup rfl ?_
            refine tw_getS rfl (tF_a (tF_a (tF_a (tF_a (hi_111_4 hs))))) ?_
            refine tw_push rfl ?_
            refine tw_iadd rfl ?_
            refine tw_put rfl (fun f90 => ?_)
            refine tw_aload rfl rfl ?_
            refine tw_getS rfl (tF_same f90) ?_
            refine tw_push rfl ?_
            refine tw_isub rfl ?_
            exact tw_iret rfl (Or.inl ⟨by omega, wret1 (hi_111_4 hs), (tF_same f90)⟩)
          · try dsimp only [tvI_i, tvJ_j, tvR_r] at p85
            refine tw_if_ne rfl (fun z => absurd z (by decide)) (fun _ => ?_)
            refine tw_push rfl ?_
            exact tw_iret rfl (Or.inr ⟨by omega, rfl, rfl⟩)
        · try dsimp only [tvI_i, tvJ_j, tvR_r] at p84
          refine tw_if_eq rfl (fun _ => ?_) (fun z => absurd z (by decide))
          refine tw_push rfl ?_
          exact tw_iret rfl (Or.inr ⟨by omega, rfl, rfl⟩)
      · try dsimp only [tvI_i, tvJ_j, tvR_r] at p83
        refine tw_if_eq rfl (fun _ => ?_) (fun z => absurd z (by decide))
        refine tw_push rfl ?_
        exact tw_iret rfl (Or.inr ⟨by omega, rfl, rfl⟩)
    · try dsimp only [tvI_i, tvJ_j, tvR_r] at p82
      refine tw_if_eq rfl (fun _ => ?_) (fun z => absurd z (by decide))
      refine tw_push rfl ?_
      exact tw_iret rfl (Or.inr ⟨by omega, rfl, rfl⟩)
theorem a_part {price : Int32} {a : Int32} {b : Int32} {c : Int32} {h h2 h3 : zH} {w w2 : Option Value}  (hR : R_parts h) (e1 : tF h2 111 4 = tF h 111 4) (e2 : tF h3 1 7 = tF h2 1 7) (k1 : phN 1 7 (((0 ≤ price.toInt ∧ price.toInt ≤ 9999) ∧ (0 ≤ a.toInt ∧ a.toInt ≤ 9999) ∧ (0 ≤ b.toInt ∧ b.toInt ≤ 9999) ∧ (0 ≤ c.toInt ∧ c.toInt ≤ 9999)) ∧ (tvI (tF h 1 7)).toInt ≠ 12) h w h2) (k2 : phN 111 4 (((0 ≤ price.toInt ∧ price.toInt ≤ 9999) ∧ (0 ≤ a.toInt ∧ a.toInt ≤ 9999) ∧ (0 ≤ b.toInt ∧ b.toInt ≤ 9999) ∧ (0 ≤ c.toInt ∧ c.toInt ≤ 9999)) ∧ (tvI (tF h2 111 4)).toInt ≠ 12) h2 w2 h3) : w2 = w ∧ R_parts h3 := by
  refine phN_a hR e1 e2 ?_ k1 k2
  have hR2 := hR
  unfold R_parts at hR2
  rw [e1, ← hR2]
theorem f_addPartB {G : zG} (hG : G.1 = zProg) {h : zH} {price a b c : Int32} (hs : tSh h) (hr : tRw h) : tC zTt G 29 [.ref 1, .int price, .int a, .int b, .int c] h (fun w h2 => (∃ x, w = some (.int x)) ∧ ph_rowc 1 7 15 12 True a b c h h2) := by
  refine tC_in (by rw [hG]; rfl) (fun dp => ?_)
  refine tw_aload rfl rfl ?_
  refine tw_getS rfl (hi_1_7 hs) ?_
  refine tw_push rfl ?_
  refine tw_ic_ne rfl (fun q91 => ?_) (fun q91 => ?_)
  · try dsimp only [tvI_i, tvJ_j, tvR_r] at q91
    have q91i := zneq (Y := 12) (by decide) q91
    refine tw_aload rfl rfl ?_
    refine tw_getS rfl (hs_1_3 hs) ?_
    refine tw_aload rfl rfl ?_
    refine tw_getS rfl (hi_1_7 hs) ?_
    refine tw_iload rfl rfl ?_
    refine tw_iast rfl (fun f92 => ?_)
    refine tw_aload rfl rfl ?_
    refine tw_getS rfl (hs_1_4 (tSh_SA hs)) ?_
    refine tw_aload rfl rfl ?_
    refine tw_getS rfl (tF_a (hi_1_7 hs)) ?_
    refine tw_aaldS rfl (fun z => tRw_at (tRw_A hr) (p := 14) (q := 15) (by decide) z) ?_
    refine tw_iload rfl rfl ?_
    refine tw_iload rfl rfl ?_
    refine tw_iload rfl rfl ?_
    refine tw_stat4 rfl (f_fill hG) (fun wp94 hp94 p94 => ?_)
    obtain ⟨rfl, rfl, p94a, p94b, p94c⟩ := p94
    refine tw_aload rfl rfl ?_
    refine tw_dup rfl ?_
    refine tw_getS rfl (tF_a (tF_a (tF_a (tF_a (hi_1_7 hs))))) ?_
    refine tw_dup_x1 rfl ?_
    refine tw_push rfl ?_
    refine tw_iadd rfl ?_
    refine tw_put rfl (fun f95 => ?_)
    refine tw_iret rfl ⟨⟨_, rfl⟩, Or.inl ⟨⟨trivial, by omega⟩, fun i j => ?_⟩⟩
    have e9 : tA (tSA h 13 (tvI (tF h 1 7)).toNatClampNeg price) (15 + i) = tA h (15 + i) := tA_nz (by omega)
    rw [tA_tSF]
    refine (row3 p94a p94b p94c i j).trans ?_
    show (if i = (tvI (tF h 1 7)).toNatClampNeg then (if j = 2 then c else if j = 1 then b else if j = 0 then a else tA (tSA h 13 (tvI (tF h 1 7)).toNatClampNeg price) (15 + i) j) else tA (tSA h 13 (tvI (tF h 1 7)).toNatClampNeg price) (15 + i) j) = _
    rw [e9]
  · try dsimp only [tvI_i, tvJ_j, tvR_r] at q91
    have q91i := zeqi (Y := 12) (by decide) q91
    refine tw_push rfl ?_
    exact tw_iret rfl ⟨⟨_, rfl⟩, Or.inr ⟨fun z => absurd z.2 (by omega), fun _ => rfl⟩⟩
theorem f_partB {G : zG} (hG : G.1 = zProg) {h : zH} {price a b c : Int32} (hs : tSh h) (hr : tRw h) : tC zTt G 114 [.ref 0, .int price, .int a, .int b, .int c] h (fun w h2 => ph_rowc 1 7 15 12 ((0 ≤ price.toInt ∧ price.toInt ≤ 9999) ∧ (0 ≤ a.toInt ∧ a.toInt ≤ 9999) ∧ (0 ≤ b.toInt ∧ b.toInt ≤ 9999) ∧ (0 ≤ c.toInt ∧ c.toInt ≤ 9999)) a b c h h2) := by
  refine tC_in (by rw [hG]; rfl) (fun dp => ?_)
  refine tw_iload rfl rfl ?_
  refine tw_push rfl ?_
  refine tw_push rfl ?_
  refine tw_stat3 rfl (f_isWithin hG (LO := 0) (HI := 9999) (by decide) (by decide)) (fun w9 h9 p96 => ?_)
  obtain ⟨⟨p96, rfl⟩ | ⟨p96, rfl⟩, rfl⟩ := p96
  · try dsimp only [tvI_i, tvJ_j, tvR_r] at p96
    refine tw_if_eq rfl (fun z => absurd z (by decide)) (fun _ => ?_)
    refine tw_iload rfl rfl ?_
    refine tw_push rfl ?_
    refine tw_push rfl ?_
    refine tw_stat3 rfl (f_isWithin hG (LO := 0) (HI := 9999) (by decide) (by decide)) (fun w9 h9 p97 => ?_)
    obtain ⟨⟨p97, rfl⟩ | ⟨p97, rfl⟩, rfl⟩ := p97
    · try dsimp only [tvI_i, tvJ_j, tvR_r] at p97
      refine tw_if_eq rfl (fun z => absurd z (by decide)) (fun _ => ?_)
      refine tw_iload rfl rfl ?_
      refine tw_push rfl ?_
      refine tw_push rfl ?_
      refine tw_stat3 rfl (f_isWithin hG (LO := 0) (HI := 9999) (by decide) (by decide)) (fun w9 h9 p98 => ?_)
      obtain ⟨⟨p98, rfl⟩ | ⟨p98, rfl⟩, rfl⟩ := p98
      · try dsimp only [tvI_i, tvJ_j, tvR_r] at p98
        refine tw_if_eq rfl (fun z => absurd z (by decide)) (fun _ => ?_)
        refine tw_iload rfl rfl ?_
        refine tw_push rfl ?_
        refine tw_push rfl ?_
        refine tw_stat3 rfl (f_isWithin hG (LO := 0) (HI := 9999) (by decide) (by decide)) (fun w9 h9 p99 => ?_)
        obtain ⟨⟨p99, rfl⟩ | ⟨p99, rfl⟩, rfl⟩ := p99
        · try dsimp only [tvI_i, tvJ_j, tvR_r] at p99
          refine tw_if_eq rfl (fun z => absurd z (by decide)) (fun _ => ?_)
          refine tw_push rfl ?_
          refine tw_goto rfl ?_
          refine tw_istore rfl ?_
          refine tw_iload rfl rfl ?_
          refine tw_if_eq rfl (fun z => absurd z (by decide)) (fun _ => ?_)
          refine tw_aload rfl rfl ?_
          refine tw_getS rfl (hs_0_0 hs) ?_
          refine tw_iload rfl rfl ?_
          refine tw_iload rfl rfl ?_
          refine tw_iload rfl rfl ?_
          refine tw_iload rfl rfl ?_
          refine tw_virt4 rfl (f_addPartB hG hs hr) (fun wp100 hp100 p100 => ?_)
          obtain ⟨⟨_, rfl⟩, ap100⟩ := p100
          refine tw_goto rfl ?_
          exact tw_iret rfl (ap100.imp (fun z => ⟨⟨by omega, z.1.2⟩, z.2⟩) (fun z => ⟨fun y => z.1 ⟨trivial, y.2⟩, z.2⟩))
        · try dsimp only [tvI_i, tvJ_j, tvR_r] at p99
          refine tw_if_eq rfl (fun _ => ?_) (fun z => absurd z (by decide))
          refine tw_push rfl ?_
          refine tw_istore rfl ?_
          refine tw_iload rfl rfl ?_
          refine tw_if_eq rfl (fun _ => ?_) (fun z => absurd z (by decide))
          refine tw_push rfl ?_
          exact tw_iret rfl (Or.inr ⟨fun z => absurd z.1 (by omega), fun _ => rfl⟩)
      · try dsimp only [tvI_i, tvJ_j, tvR_r] at p98
        refine tw_if_eq rfl (fun _ => ?_) (fun z => absurd z (by decide))
        refine tw_push rfl ?_
        refine tw_istore rfl ?_
        refine tw_iload rfl rfl ?_
        refine tw_if_eq rfl (fun _ => ?_) (fun z => absurd z (by decide))
        refine tw_push rfl ?_
        exact tw_iret rfl (Or.inr ⟨fun z => absurd z.1 (by omega), fun _ => rfl⟩)
    · try dsimp only [tvI_i, tvJ_j, tvR_r] at p97
      refine tw_if_eq rfl (fun _ => ?_) (fun z => absurd z (by decide))
      refine tw_push rfl ?_
      refine tw_istore rfl ?_
      refine tw_iload rfl rfl ?_
      refine tw_if_eq rfl (fun _ => ?_) (fun z => absurd z (by decide))
      refine tw_push rfl ?_
      exact tw_iret rfl (Or.inr ⟨fun z => absurd z.1 (by omega), fun _ => rfl⟩)
  · try dsimp only [tvI_i, tvJ_j, tvR_r] at p96
    refine tw_if_eq rfl (fun _ => ?_) (fun z => absurd z (by decide))
    refine tw_push rfl ?_
    refine tw_istore rfl ?_
    refine tw_iload rfl rfl ?_
    refine tw_if_eq rfl (fun _ => ?_) (fun z => absurd z (by decide))
    refine tw_push rfl ?_
    exact tw_iret rfl (Or.inr ⟨fun z => absurd z.1 (by omega), fun _ => rfl⟩)
theorem g_partB {G : zG} (hG : G.1 = zProg) {h : zH} {price a b c : Int32} (hs : tSh h) : tC zTt G 182 [.ref 111, .int price, .int a, .int b, .int c] h (fun w h2 => ph_rowm 111 4 117 12 ((0 ≤ price.toInt ∧ price.toInt ≤ 9999) ∧ (0 ≤ a.toInt ∧ a.toInt ≤ 9999) ∧ (0 ≤ b.toInt ∧ b.toInt ≤ 9999) ∧ (0 ≤ c.toInt ∧ c.toInt ≤ 9999)) a b c h h2) := by
  refine tC_in (by rw [hG]; rfl) (fun dp => ?_)
  refine tw_aload rfl rfl ?_
  refine tw_getS rfl (hi_111_4 hs) ?_
  refine tw_push rfl ?_
  refine tw_ic_eq rfl (fun q101 => ?_) (fun q101 => ?_)
  · try dsimp only [tvI_i, tvJ_j, tvR_r] at q101
    have q101i := zeqi (Y := 12) (by decide) q101
    refine tw_push rfl ?_
    exact tw_iret rfl (Or.inr ⟨fun z => by omega, rfl⟩)
  · try dsimp only [tvI_i, tvJ_j, tvR_r] at q101
    have q101i := zneq (Y := 12) (by decide) q101
    refine tw_iload rfl rfl ?_
    refine tw_i2l rfl ?_
    refine tw_push rfl ?_
    refine tw_push rfl ?_
    refine tw_stat3 rfl (f_in hG  (LO := 0) (HI := 9999) (Int32.toInt_toInt64 _) (by decide) (by decide)) (fun w9 h9 p102 => ?_)
    obtain ⟨⟨p102, rfl⟩ | ⟨p102, rfl⟩, rfl⟩ := p102
    · try dsimp only [tvI_i, tvJ_j, tvR_r] at p102
      refine tw_if_eq rfl (fun z => absurd z (by decide)) (fun _ => ?_)
      refine tw_iload rfl rfl ?_
      refine tw_i2l rfl ?_
      refine tw_push rfl ?_
      refine tw_push rfl ?_
      refine tw_stat3 rfl (f_in hG  (LO := 0) (HI := 9999) (Int32.toInt_toInt64 _) (by decide) (by decide)) (fun w9 h9 p103 => ?_)
      obtain ⟨⟨p103, rfl⟩ | ⟨p103, rfl⟩, rfl⟩ := p103
      · try dsimp only [tvI_i, tvJ_j, tvR_r] at p103
        refine tw_if_eq rfl (fun z => absurd z (by decide)) (fun _ => ?_)
        refine tw_iload rfl rfl ?_
        refine tw_i2l rfl ?_
        refine tw_push rfl ?_
        refine tw_push rfl ?_
        refine tw_stat3 rfl (f_in hG  (LO := 0) (HI := 9999) (Int32.toInt_toInt64 _) (by decide) (by decide)) (fun w9 h9 p104 => ?_)
        obtain ⟨⟨p104, rfl⟩ | ⟨p104, rfl⟩, rfl⟩ := p104
        · try dsimp only [tvI_i, tvJ_j, tvR_r] at p104
          refine tw_if_eq rfl (fun z => absurd z (by decide)) (fun _ => ?_)
          refine tw_iload rfl rfl ?_
          refine tw_i2l rfl ?_
          refine tw_push rfl ?_
          refine tw_push rfl ?_
          refine tw_stat3 rfl (f_in hG  (LO := 0) (HI := 9999) (Int32.toInt_toInt64 _) (by decide) (by decide)) (fun w9 h9 p105 => ?_)
          obtain ⟨⟨p105, rfl⟩ | ⟨p105, rfl⟩, rfl⟩ := p105
          · try dsimp only [tvI_i, tvJ_j, tvR_r] at p105
            refine tw_if_ne rfl (fun _ => ?_) (fun z => absurd z (by decide))
            refine tw_aload rfl rfl ?_
            refine tw_getS rfl (hs_111_11 hs) ?_
            refine tw_aload rfl rfl ?_
            refine tw_getS rfl (hi_111_4 hs) ?_
            refine tw_iload rfl rfl ?_
            refine tw_iast rfl (fun f106 => ?_)
            refine tw_aload rfl rfl ?_
            refine tw_getS rfl (hs_111_12 (tSh_SA hs)) ?_
            refine tw_push rfl ?_
            refine tw_aload rfl rfl ?_
            refine tw_getS rfl (tF_a (hi_111_4 hs)) ?_
            refine tw_imul rfl ?_
            refine tw_iload rfl rfl ?_
            refine tw_iast rfl (fun f107 => ?_)
            refine tw_aload rfl rfl ?_
            refine tw_getS rfl (hs_111_12 (tSh_SA (tSh_SA hs))) ?_
            refine tw_push rfl ?_
            refine tw_aload rfl rfl ?_
            refine tw_getS rfl (tF_a (tF_a (hi_111_4 hs))) ?_
            refine tw_imul rfl ?_
            refine tw_push rfl ?_
            refine tw_iadd rfl ?_
            refine tw_iload rfl rfl ?_
            refine tw_iast rfl (fun f108 => ?_)
            refine tw_aload rfl rfl ?_
            refine tw_getS rfl (hs_111_12 (tSh_SA (tSh_SA (tSh_SA hs)))) ?_
            refine tw_push rfl ?_
            refine tw_aload rfl rfl ?_
            refine tw_getS rfl (tF_a (tF_a (tF_a (hi_111_4 hs)))) ?_
            refine tw_imul rfl ?_
            refine tw_push rfl ?_
            refine tw_iadd rfl ?_
            refine tw_iload rfl rfl ?_
            refine tw_iast rfl (fun f109 => ?_)
            refine tw_aload rfl rfl ?_
            refine tw_dup rfl ?_
            refine tw_getS rfl (tF_a (tF_a (tF_a (tF_a (hi_111_4 hs))))) ?_
            refine tw_push rfl ?_
            refine tw_iadd rfl ?_
            refine tw_put rfl (fun f110 => ?_)
            refine tw_aload rfl rfl ?_
            refine tw_getS rfl (tF_same f110) ?_
            refine tw_push rfl ?_
            refine tw_isub rfl ?_
            exact tw_iret rfl (Or.inl ⟨⟨by omega, by omega⟩, (tA_ff (tA_st f109 (tA_st f108 (tA_st f107 (tA_n (by decide) rfl)))))⟩)
          · try dsimp only [tvI_i, tvJ_j, tvR_r] at p105
            refine tw_if_ne rfl (fun z => absurd z (by decide)) (fun _ => ?_)
            refine tw_push rfl ?_
            exact tw_iret rfl (Or.inr ⟨fun z => by omega, rfl⟩)
        · try dsimp only [tvI_i, tvJ_j, tvR_r] at p104
          refine tw_if_eq rfl (fun _ => ?_) (fun z => absurd z (by decide))
          refine tw_push rfl ?_
          exact tw_iret rfl (Or.inr ⟨fun z => by omega, rfl⟩)
      · try dsimp only [tvI_i, tvJ_j, tvR_r] at p103
        refine tw_if_eq rfl (fun _ => ?_) (fun z => absurd z (by decide))
        refine tw_push rfl ?_
        exact tw_iret rfl (Or.inr ⟨fun z => by omega, rfl⟩)
    · try dsimp only [tvI_i, tvJ_j, tvR_r] at p102
      refine tw_if_eq rfl (fun _ => ?_) (fun z => absurd z (by decide))
      refine tw_push rfl ?_
      exact tw_iret rfl (Or.inr ⟨fun z => by omega, rfl⟩)
noncomputable def ph_partB (price a b c : Int32) (h : zH) (w : Option Value) (h2 : zH) : Prop := (fun price a b c h => phN 1 7 (((0 ≤ price.toInt ∧ price.toInt ≤ 9999) ∧ (0 ≤ a.toInt ∧ a.toInt ≤ 9999) ∧ (0 ≤ b.toInt ∧ b.toInt ≤ 9999) ∧ (0 ≤ c.toInt ∧ c.toInt ≤ 9999)) ∧ (tvI (tF h 1 7)).toInt ≠ 12) h) price a b c h w h2 ∧ ph_rowc 1 7 15 12 ((0 ≤ price.toInt ∧ price.toInt ≤ 9999) ∧ (0 ≤ a.toInt ∧ a.toInt ≤ 9999) ∧ (0 ≤ b.toInt ∧ b.toInt ≤ 9999) ∧ (0 ≤ c.toInt ∧ c.toInt ≤ 9999)) a b c h h2
noncomputable def ph_partM (price a b c : Int32) (h : zH) (w : Option Value) (h2 : zH) : Prop := (fun price a b c h => phN 111 4 (((0 ≤ price.toInt ∧ price.toInt ≤ 9999) ∧ (0 ≤ a.toInt ∧ a.toInt ≤ 9999) ∧ (0 ≤ b.toInt ∧ b.toInt ≤ 9999) ∧ (0 ≤ c.toInt ∧ c.toInt ≤ 9999)) ∧ (tvI (tF h 111 4)).toInt ≠ 12) h) price a b c h w h2 ∧ ph_rowm 111 4 117 12 ((0 ≤ price.toInt ∧ price.toInt ≤ 9999) ∧ (0 ≤ a.toInt ∧ a.toInt ≤ 9999) ∧ (0 ≤ b.toInt ∧ b.toInt ≤ 9999) ∧ (0 ≤ c.toInt ∧ c.toInt ≤ 9999)) a b c h h2
theorem f_hasKind {G : zG} (hG : G.1 = zProg) {h : zH} {n : Int32} (hs : tSh h) : tC zTt G 25 [.ref 1, .int n] h (fun w h2 => tBo (0 ≤ n.toInt ∧ n.toInt < (tvI (tF h 1 6)).toInt) w ∧ h2 = h) := by
  refine tC_in (by rw [hG]; rfl) (fun dp => ?_)
  refine tw_iload rfl rfl ?_
  refine tw_if_lt rfl (fun q111 => ?_) (fun q111 => ?_)
  · try dsimp only [tvI_i, tvJ_j, tvR_r] at q111
    refine tw_push rfl ?_
    exact tw_iret rfl ⟨Or.inr ⟨by omega, rfl⟩, rfl⟩
  · try dsimp only [tvI_i, tvJ_j, tvR_r] at q111
    refine tw_iload rfl rfl ?_
    refine tw_aload rfl rfl ?_
    refine tw_getS rfl (hi_1_6 hs) ?_
    refine tw_ic_ge rfl (fun q112 => ?_) (fun q112 => ?_)
    · try dsimp only [tvI_i, tvJ_j, tvR_r] at q112
      refine tw_push rfl ?_
      exact tw_iret rfl ⟨Or.inr ⟨by omega, rfl⟩, rfl⟩
    · try dsimp only [tvI_i, tvJ_j, tvR_r] at q112
      refine tw_push rfl ?_
      refine tw_goto rfl ?_
      exact tw_iret rfl ⟨Or.inl ⟨by omega, rfl⟩, rfl⟩
theorem f_hasPart {G : zG} (hG : G.1 = zProg) {h : zH} {n : Int32} (hs : tSh h) : tC zTt G 26 [.ref 1, .int n] h (fun w h2 => tBo (0 ≤ n.toInt ∧ n.toInt < (tvI (tF h 1 7)).toInt) w ∧ h2 = h) := by
  refine tC_in (by rw [hG]; rfl) (fun dp => ?_)
  refine tw_iload rfl rfl ?_
  refine tw_if_lt rfl (fun q113 => ?_) (fun q113 => ?_)
  · try dsimp only [tvI_i, tvJ_j, tvR_r] at q113
    refine tw_push rfl ?_
    exact tw_iret rfl ⟨Or.inr ⟨by omega, rfl⟩, rfl⟩
  · try dsimp only [tvI_i, tvJ_j, tvR_r] at q113
    refine tw_iload rfl rfl ?_
    refine tw_aload rfl rfl ?_
    refine tw_getS rfl (hi_1_7 hs) ?_
    refine tw_ic_ge rfl (fun q114 => ?_) (fun q114 => ?_)
    · try dsimp only [tvI_i, tvJ_j, tvR_r] at q114
      refine tw_push rfl ?_
      exact tw_iret rfl ⟨Or.inr ⟨by omega, rfl⟩, rfl⟩
    · try dsimp only [tvI_i, tvJ_j, tvR_r] at q114
      refine tw_push rfl ?_
      refine tw_goto rfl ?_
      exact tw_iret rfl ⟨Or.inl ⟨by omega, rfl⟩, rfl⟩
noncomputable def ph_fic (k p m : Int32) (h : zH) (w : Option Value) (h2 : zH) : Prop := (((0 ≤ k.toInt ∧ k.toInt < (tvI (tF h 1 6)).toInt) ∧ (0 ≤ p.toInt ∧ p.toInt < (tvI (tF h 1 7)).toInt) ∧ (0 ≤ m.toInt ∧ m.toInt ≤ 599) ∧ m.toInt < (tA h (28 + k.toNatClampNeg) p.toNatClampNeg).toInt) ∧ w = some (.int 1) ∧ ∀ i j, tA h2 (28 + i) j = if i = k.toNatClampNeg ∧ j = p.toNatClampNeg then m else tA h (28 + i) j) ∨ (¬ ((0 ≤ k.toInt ∧ k.toInt < (tvI (tF h 1 6)).toInt) ∧ (0 ≤ p.toInt ∧ p.toInt < (tvI (tF h 1 7)).toInt) ∧ (0 ≤ m.toInt ∧ m.toInt ≤ 599) ∧ m.toInt < (tA h (28 + k.toNatClampNeg) p.toNatClampNeg).toInt) ∧ w = some (.int 0) ∧ h2 = h)
noncomputable def ph_fim (k p m : Int32) (h : zH) (w : Option Value) (h2 : zH) : Prop := (((0 ≤ k.toInt ∧ k.toInt < (tvI (tF h 111 3)).toInt) ∧ (0 ≤ p.toInt ∧ p.toInt < (tvI (tF h 111 4)).toInt) ∧ (0 ≤ m.toInt ∧ m.toInt ≤ 599) ∧ m.toInt < (tA h 118 (12 * k + p).toNatClampNeg).toInt) ∧ w = some (.int 1) ∧ tA h2 118 = fun j => if j = (12 * k + p).toNatClampNeg then m else tA h 118 j) ∨ (¬ ((0 ≤ k.toInt ∧ k.toInt < (tvI (tF h 111 3)).toInt) ∧ (0 ≤ p.toInt ∧ p.toInt < (tvI (tF h 111 4)).toInt) ∧ (0 ≤ m.toInt ∧ m.toInt ≤ 599) ∧ m.toInt < (tA h 118 (12 * k + p).toNatClampNeg).toInt) ∧ w = some (.int 0) ∧ h2 = h)
theorem tA_r1 {h : zH} {a b q : Nat} {l : Int32} {k1 : Nat} {z1 : Int32} (f1 : tIn h (q + a) k1 z1) : ∀ i j, tA (tSA h (q + a) b l) (q + i) j = if i = a ∧ j = b then l else tA h (q + i) j := by
  intro i j
  rw [tA_tSA f1.cell]
  dsimp only
  by_cases e1 : i = a ∧ j = b
  · rw [if_pos ⟨by omega, e1.2⟩, if_pos e1]
  · rw [if_neg (by omega), if_neg e1]
theorem tA_s1 {h : zH} {p x : Nat} {l : Int32} {k1 : Nat} {z1 : Int32} (f1 : tIn h p k1 z1) : tA (tSA h p x l) p = fun j => if j = x then l else tA h p j := by
  rw [tA_tSA f1.cell]
  funext j
  dsimp only
  by_cases e2 : j = x
  · rw [if_pos ⟨rfl, e2⟩, if_pos e2]
  · rw [if_neg (fun z => e2 z.2), if_neg e2]
theorem f_fitFrom {G : zG} (hG : G.1 = zProg) {h : zH} {k p m : Int32} (hs : tSh h) (hr : tRw h) : tC zTt G 31 [.ref 1, .int k, .int p, .int m] h (fun w h2 => (m.toInt < (tA h (28 + k.toNatClampNeg) p.toNatClampNeg).toInt ∧ w = some (.int 1) ∧ ∀ i j, tA h2 (28 + i) j = if i = k.toNatClampNeg ∧ j = p.toNatClampNeg then m else tA h (28 + i) j) ∨ (¬ m.toInt < (tA h (28 + k.toNatClampNeg) p.toNatClampNeg).toInt ∧ w = some (.int 0) ∧ h2 = h)) := by
  refine tC_in (by rw [hG]; rfl) (fun dp => ?_)
  refine tw_aload rfl rfl ?_
  refine tw_getS rfl (hs_1_5 hs) ?_
  refine tw_iload rfl rfl ?_
  refine tw_aaldS rfl (fun z => tRw_at hr (p := 27) (q := 28) (by decide) z) ?_
  refine tw_iload rfl rfl ?_
  refine tw_iald rfl (fun f116 => ?_)
  refine tw_iload rfl rfl ?_
  refine tw_ic_gt rfl (fun q117 => ?_) (fun q117 => ?_)
  · try dsimp only [tvI_i, tvJ_j, tvR_r] at q117
    refine tw_aload rfl rfl ?_
    refine tw_getS rfl (hs_1_5 hs) ?_
    refine tw_iload rfl rfl ?_
    refine tw_aaldS rfl (fun z => tRw_at hr (p := 27) (q := 28) (by decide) z) ?_
    refine tw_iload rfl rfl ?_
    refine tw_iload rfl rfl ?_
    refine tw_iast rfl (fun f119 => ?_)
    refine tw_push rfl ?_
    exact tw_iret rfl (Or.inl ⟨by omega, rfl, tA_r1 f119⟩)
  · try dsimp only [tvI_i, tvJ_j, tvR_r] at q117
    refine tw_push rfl ?_
    exact tw_iret rfl (Or.inr ⟨by omega, rfl, rfl⟩)
theorem f_fit {G : zG} (hG : G.1 = zProg) {h : zH} {k p m : Int32} (hs : tSh h) (hr : tRw h) : tC zTt G 115 [.ref 0, .int k, .int p, .int m] h (ph_fic k p m h) := by
  refine tC_in (by rw [hG]; rfl) (fun dp => ?_)
  refine tw_aload rfl rfl ?_
  refine tw_getS rfl (hs_0_0 hs) ?_
  refine tw_iload rfl rfl ?_
  refine tw_virt1 rfl (f_hasKind hG hs) (fun w9 h9 p120 => ?_)
  obtain ⟨⟨p120, rfl⟩ | ⟨p120, rfl⟩, rfl⟩ := p120
  · try dsimp only [tvI_i, tvJ_j, tvR_r] at p120
    refine tw_if_eq rfl (fun z => absurd z (by decide)) (fun _ => ?_)
    refine tw_aload rfl rfl ?_
    refine tw_getS rfl (hs_0_0 hs) ?_
    refine tw_iload rfl rfl ?_
    refine tw_virt1 rfl (f_hasPart hG hs) (fun w9 h9 p121 => ?_)
    obtain ⟨⟨p121, rfl⟩ | ⟨p121, rfl⟩, rfl⟩ := p121
    · try dsimp only [tvI_i, tvJ_j, tvR_r] at p121
      refine tw_if_eq rfl (fun z => absurd z (by decide)) (fun _ => ?_)
      refine tw_iload rfl rfl ?_
      refine tw_stat1 rfl (f_isMonth hG) (fun w9 h9 p122 => ?_)
      obtain ⟨⟨p122, rfl⟩ | ⟨p122, rfl⟩, rfl⟩ := p122
      · try dsimp only [tvI_i, tvJ_j, tvR_r] at p122
        refine tw_if_eq rfl (fun z => absurd z (by decide)) (fun _ => ?_)
        refine tw_aload rfl rfl ?_
        refine tw_getS rfl (hs_0_0 hs) ?_
        refine tw_iload rfl rfl ?_
        refine tw_iload rfl rfl ?_
        refine tw_iload rfl rfl ?_
        refine tw_virt3 rfl (f_fitFrom hG hs hr) (fun w9 h9 p123 => ?_)
        rcases p123 with ⟨p123, rfl, p123f⟩ | ⟨p123, rfl, rfl⟩
        · refine tw_if_eq rfl (fun z => absurd z (by decide)) (fun _ => ?_)
          refine tw_push rfl ?_
          refine tw_goto rfl ?_
          exact tw_iret rfl (Or.inl ⟨by omega, rfl, p123f⟩)
        · refine tw_if_eq rfl (fun _ => ?_) (fun z => absurd z (by decide))
          refine tw_push rfl ?_
          exact tw_iret rfl (Or.inr ⟨by omega, rfl, rfl⟩)
      · try dsimp only [tvI_i, tvJ_j, tvR_r] at p122
        refine tw_if_eq rfl (fun _ => ?_) (fun z => absurd z (by decide))
        refine tw_push rfl ?_
        exact tw_iret rfl (Or.inr ⟨by omega, rfl, rfl⟩)
    · try dsimp only [tvI_i, tvJ_j, tvR_r] at p121
      refine tw_if_eq rfl (fun _ => ?_) (fun z => absurd z (by decide))
      refine tw_push rfl ?_
      exact tw_iret rfl (Or.inr ⟨by omega, rfl, rfl⟩)
  · try dsimp only [tvI_i, tvJ_j, tvR_r] at p120
    refine tw_if_eq rfl (fun _ => ?_) (fun z => absurd z (by decide))
    refine tw_push rfl ?_
    exact tw_iret rfl (Or.inr ⟨by omega, rfl, rfl⟩)
theorem g_isKind {G : zG} (hG : G.1 = zProg) {h : zH} {n : Int32} (hs : tSh h) (hk : 0 ≤ (tvI (tF h 111 3)).toInt) : tC zTt G 176 [.ref 111, .int n] h (fun w h2 => tBo (0 ≤ n.toInt ∧ n.toInt < (tvI (tF h 111 3)).toInt) w ∧ h2 = h) := by
  refine tC_in (by rw [hG]; rfl) (fun dp => ?_)
  refine tw_iload rfl rfl ?_
  refine tw_i2l rfl ?_
  refine tw_push rfl ?_
  refine tw_aload rfl rfl ?_
  refine tw_getS rfl (hi_111_3 hs) ?_
  refine tw_push rfl ?_
  refine tw_isub rfl ?_
  refine tw_i2l rfl ?_
  refine tw_stat3 rfl (f_in hG  (LO := 0)  (Int32.toInt_toInt64 _) (by decide) (Int32.toInt_toInt64 _)) (fun w9 h9 p124 => ?_)
  obtain ⟨⟨p124, rfl⟩ | ⟨p124, rfl⟩, rfl⟩ := p124
  · try dsimp only [tvI_i, tvJ_j, tvR_r] at p124
    exact tw_iret rfl ⟨Or.inl ⟨by have e := zsub1 hk; have := p124; omega, rfl⟩, rfl⟩
  · try dsimp only [tvI_i, tvJ_j, tvR_r] at p124
    exact tw_iret rfl ⟨Or.inr ⟨by have e := zsub1 hk; have := p124; omega, rfl⟩, rfl⟩
theorem g_isPart {G : zG} (hG : G.1 = zProg) {h : zH} {n : Int32} (hs : tSh h) (hk : 0 ≤ (tvI (tF h 111 4)).toInt) : tC zTt G 177 [.ref 111, .int n] h (fun w h2 => tBo (0 ≤ n.toInt ∧ n.toInt < (tvI (tF h 111 4)).toInt) w ∧ h2 = h) := by
  refine tC_in (by rw [hG]; rfl) (fun dp => ?_)
  refine tw_iload rfl rfl ?_
  refine tw_i2l rfl ?_
  refine tw_push rfl ?_
  refine tw_aload rfl rfl ?_
  refine tw_getS rfl (hi_111_4 hs) ?_
  refine tw_push rfl ?_
  refine tw_isub rfl ?_
  refine tw_i2l rfl ?_
  refine tw_stat3 rfl (f_in hG  (LO := 0)  (Int32.toInt_toInt64 _) (by decide) (Int32.toInt_toInt64 _)) (fun w9 h9 p125 => ?_)
  obtain ⟨⟨p125, rfl⟩ | ⟨p125, rfl⟩, rfl⟩ := p125
  · try dsimp only [tvI_i, tvJ_j, tvR_r] at p125
    exact tw_iret rfl ⟨Or.inl ⟨by have e := zsub1 hk; have := p125; omega, rfl⟩, rfl⟩
  · try dsimp only [tvI_i, tvJ_j, tvR_r] at p125
    exact tw_iret rfl ⟨Or.inr ⟨by have e := zsub1 hk; have := p125; omega, rfl⟩, rfl⟩
theorem g_isMonth {G : zG} (hG : G.1 = zProg) {h : zH} {n : Int32} : tC zTt G 172 [.int n] h (fun w h2 => tBo (0 ≤ n.toInt ∧ n.toInt ≤ 599) w ∧ h2 = h) := by
  refine tC_in (by rw [hG]; rfl) (fun dp => ?_)
  refine tw_iload rfl rfl ?_
  refine tw_i2l rfl ?_
  refine tw_push rfl ?_
  refine tw_push rfl ?_
  refine tw_stat3 rfl (f_in hG  (LO := 0) (HI := 599) (Int32.toInt_toInt64 _) (by decide) (by decide)) (fun w9 h9 p126 => ?_)
  obtain ⟨⟨p126, rfl⟩ | ⟨p126, rfl⟩, rfl⟩ := p126
  · try dsimp only [tvI_i, tvJ_j, tvR_r] at p126
    exact tw_iret rfl ⟨Or.inl ⟨p126, rfl⟩, rfl⟩
  · try dsimp only [tvI_i, tvJ_j, tvR_r] at p126
    exact tw_iret rfl ⟨Or.inr ⟨p126, rfl⟩, rfl⟩
theorem g_fit {G : zG} (hG : G.1 = zProg) {h : zH} {k p m : Int32} (hs : tSh h) (hk3 : 0 ≤ (tvI (tF h 111 3)).toInt) (hk4 : 0 ≤ (tvI (tF h 111 4)).toInt) : tC zTt G 183 [.ref 111, .int k, .int p, .int m] h (ph_fim k p m h) := by
  refine tC_in (by rw [hG]; rfl) (fun dp => ?_)
  refine tw_aload rfl rfl ?_
  refine tw_iload rfl rfl ?_
  refine tw_virt1 rfl (g_isKind hG hs hk3) (fun w9 h9 p127 => ?_)
  obtain ⟨⟨p127, rfl⟩ | ⟨p127, rfl⟩, rfl⟩ := p127
  · try dsimp only [tvI_i, tvJ_j, tvR_r] at p127
    refine tw_if_eq rfl (fun z => absurd z (by decide)) (fun _ => ?_)
    refine tw_aload rfl rfl ?_
    refine tw_iload rfl rfl ?_
    refine tw_virt1 rfl (g_isPart hG hs hk4) (fun w9 h9 p128 => ?_)
    obtain ⟨⟨p128, rfl⟩ | ⟨p128, rfl⟩, rfl⟩ := p128
    · try dsimp only [tvI_i, tvJ_j, tvR_r] at p128
      refine tw_if_eq rfl (fun z => absurd z (by decide)) (fun _ => ?_)
      refine tw_iload rfl rfl ?_
      refine tw_stat1 rfl (g_isMonth hG) (fun w9 h9 p129 => ?_)
      obtain ⟨⟨p129, rfl⟩ | ⟨p129, rfl⟩, rfl⟩ := p129
      · try dsimp only [tvI_i, tvJ_j, tvR_r] at p129
        refine tw_if_eq rfl (fun z => absurd z (by decide)) (fun _ => ?_)
        refine tw_aload rfl rfl ?_
        refine tw_getS rfl (hs_111_13 hs) ?_
        refine tw_push rfl ?_
        refine tw_iload rfl rfl ?_
        refine tw_imul rfl ?_
        refine tw_iload rfl rfl ?_
        refine tw_iadd rfl ?_
        refine tw_iald rfl (fun f130 => ?_)
        refine tw_iload rfl rfl ?_
        refine tw_ic_gt rfl (fun q131 => ?_) (fun q131 => ?_)
        · try dsimp only [tvI_i, tvJ_j, tvR_r] at q131
          refine tw_aload rfl rfl ?_
          refine tw_getS rfl (hs_111_13 hs) ?_
          refine tw_push rfl ?_
          refine tw_iload rfl rfl ?_
          refine tw_imul rfl ?_
          refine tw_iload rfl rfl ?_
          refine tw_iadd rfl ?_
          refine tw_iload rfl rfl ?_
          refine tw_iast rfl (fun f132 => ?_)
          refine tw_push rfl ?_
          exact tw_iret rfl (Or.inl ⟨by omega, rfl, tA_s1 f132⟩)
        · try dsimp only [tvI_i, tvJ_j, tvR_r] at q131
          refine tw_push rfl ?_
          exact tw_iret rfl (Or.inr ⟨by omega, rfl, rfl⟩)
      · try dsimp only [tvI_i, tvJ_j, tvR_r] at p129
        refine tw_if_eq rfl (fun _ => ?_) (fun z => absurd z (by decide))
        refine tw_push rfl ?_
        exact tw_iret rfl (Or.inr ⟨by omega, rfl, rfl⟩)
    · try dsimp only [tvI_i, tvJ_j, tvR_r] at p128
      refine tw_if_eq rfl (fun _ => ?_) (fun z => absurd z (by decide))
      refine tw_push rfl ?_
      exact tw_iret rfl (Or.inr ⟨by omega, rfl, rfl⟩)
  · try dsimp only [tvI_i, tvJ_j, tvR_r] at p127
    refine tw_if_eq rfl (fun _ => ?_) (fun z => absurd z (by decide))
    refine tw_push rfl ?_
    exact tw_iret rfl (Or.inr ⟨by omega, rfl, rfl⟩)
theorem rFt_lt {x y m : Int32} (h : rFt x y) (hm : m.toInt ≤ 599) : m.toInt < x.toInt ↔ m.toInt < y.toInt := by
  rcases h with ⟨rfl, _⟩ | ⟨rfl, rfl⟩
  · exact Iff.rfl
  · rw [show (600 : Int32).toInt = 600 from rfl, show (1000000 : Int32).toInt = 1000000 from rfl]
    omega
theorem a_fit {k p m : Int32} {h h2 h3 : zH} {w w2 : Option Value} (hK : R_kinds h) (hP : R_parts h) (nk : (tvI (tF h 1 6)).toInt ≤ 8) (np : (tvI (tF h 1 7)).toInt ≤ 12) (hR : R_fitted h) (e1 : tF h2 111 3 = tF h 111 3) (e4 : tF h2 111 4 = tF h 111 4) (e2 : tA h2 118 = tA h 118) (e3 : ∀ i, i < 8 → tA h3 (28 + i) = tA h2 (28 + i)) (k1 : ph_fic k p m h w h2) (k2 : ph_fim k p m h2 w2 h3) : w2 = w ∧ R_fitted h3 := by
  unfold R_kinds at hK
  unfold R_parts at hP
  unfold ph_fim at k2
  rw [e1, e2, e4, ← hK, ← hP] at k2
  have key : 0 ≤ k.toInt ∧ k.toInt < (tvI (tF h 1 6)).toInt → 0 ≤ p.toInt ∧ p.toInt < (tvI (tF h 1 7)).toInt → 0 ≤ m.toInt ∧ m.toInt ≤ 599 → (m.toInt < (tA h (28 + k.toNatClampNeg) p.toNatClampNeg).toInt ↔ m.toInt < (tA h 118 (12 * k + p).toNatClampNeg).toInt) := fun z1 z2 z3 => by
    have hab := (zmulc (c := 12) (K := 12) (k := k) (p := p) rfl (by decide) (by omega) (by omega)).1
    rw [hab]
    exact rFt_lt (hR _ (by rw [zclE]; omega) _ (by rw [zclE]; omega)) z3.2
  rcases k1 with ⟨c1, rfl, f1⟩ | ⟨c1, rfl, rfl⟩ <;> rcases k2 with ⟨c2, rfl, f2⟩ | ⟨c2, rfl, rfl⟩
  · have hk : k.toNatClampNeg < 8 := by rw [zclE]; omega
    have hp : p.toNatClampNeg < 12 := by rw [zclE]; omega
    have hab := (zmulc (c := 12) (K := 12) (k := k) (p := p) rfl (by decide) (by omega) (by omega)).1
    refine ⟨rfl, fun i hi j hj => ?_⟩
    rw [e3 i hi, f1, f2, hab]
    dsimp only
    by_cases z2 : i = k.toNatClampNeg ∧ j = p.toNatClampNeg
    · rw [if_pos z2, if_pos (by omega)]
      exact Or.inl ⟨rfl, by omega⟩
    · rw [if_neg z2, if_neg (by omega)]
      exact hR i hi j hj
  · exact absurd ⟨c1.1, c1.2.1, c1.2.2.1, (key c1.1 c1.2.1 c1.2.2.1).mp c1.2.2.2⟩ c2
  · exact absurd ⟨c2.1, c2.2.1, c2.2.2.1, (key c2.1 c2.2.1 c2.2.2.1).mpr c2.2.2.2⟩ c1
  · exact ⟨rfl, hR⟩
noncomputable def R_factor (h : zH) : Prop := ∀ i, i < 3 → tA h 2 i = tA h 113 i
theorem f_isSort {G : zG} (hG : G.1 = zProg) {h : zH} {n : Int32} : tC zTt G 161 [.int n] h (fun w h2 => tBo (0 ≤ n.toInt ∧ n.toInt ≤ 2) w ∧ h2 = h) := by
  refine tC_in (by rw [hG]; rfl) (fun dp => ?_)
  refine tw_iload rfl rfl ?_
  refine tw_push rfl ?_
  refine tw_push rfl ?_
  refine tw_stat3 rfl (f_isWithin hG (LO := 0) (HI := 2) (by decide) (by decide)) (fun w9 h9 p133 => ?_)
  obtain ⟨⟨p133, rfl⟩ | ⟨p133, rfl⟩, rfl⟩ := p133
  · try dsimp only [tvI_i, tvJ_j, tvR_r] at p133
    exact tw_iret rfl ⟨Or.inl ⟨p133, rfl⟩, rfl⟩
  · try dsimp only [tvI_i, tvJ_j, tvR_r] at p133
    exact tw_iret rfl ⟨Or.inr ⟨p133, rfl⟩, rfl⟩
theorem f_setFactor {G : zG} (hG : G.1 = zProg) {h : zH} {s n : Int32} (hs : tSh h) : tC zTt G 27 [.ref 1, .int s, .int n] h (fun w h2 => w = some (.int (tA h 2 s.toNatClampNeg)) ∧ h2 = tSA h 2 s.toNatClampNeg n ∧ tIn h 2 0 s) := by
  refine tC_in (by rw [hG]; rfl) (fun dp => ?_)
  refine tw_aload rfl rfl ?_
  refine tw_getS rfl (hs_1_0 hs) ?_
  refine tw_iload rfl rfl ?_
  refine tw_iald rfl (fun f134 => ?_)
  refine tw_istore rfl ?_
  refine tw_aload rfl rfl ?_
  refine tw_getS rfl (hs_1_0 hs) ?_
  refine tw_iload rfl rfl ?_
  refine tw_iload rfl rfl ?_
  refine tw_iast rfl (fun f135 => ?_)
  refine tw_iload rfl rfl ?_
  exact tw_iret rfl ⟨rfl, rfl, f135⟩
noncomputable def ph_factor (p : Nat) (s n : Int32) (h : zH) (w : Option Value) (h2 : zH) : Prop := (((0 ≤ s.toInt ∧ s.toInt ≤ 2) ∧ (1 ≤ n.toInt ∧ n.toInt ≤ 999)) ∧ w = some (.int (tA h p s.toNatClampNeg)) ∧ h2 = tSA h p s.toNatClampNeg n ∧ tIn h p 0 s) ∨ (¬ ((0 ≤ s.toInt ∧ s.toInt ≤ 2) ∧ (1 ≤ n.toInt ∧ n.toInt ≤ 999)) ∧ w = some (.int (-1)) ∧ h2 = h)
theorem f_factor {G : zG} (hG : G.1 = zProg) {h : zH} {s n : Int32} (hs : tSh h) : tC zTt G 112 [.ref 0, .int s, .int n] h (ph_factor 2 s n h) := by
  refine tC_in (by rw [hG]; rfl) (fun dp => ?_)
  refine tw_iload rfl rfl ?_
  refine tw_stat1 rfl (f_isSort hG) (fun w9 h9 p136 => ?_)
  obtain ⟨⟨p136, rfl⟩ | ⟨p136, rfl⟩, rfl⟩ := p136
  · try dsimp only [tvI_i, tvJ_j, tvR_r] at p136
    refine tw_if_eq rfl (fun z => absurd z (by decide)) (fun _ => ?_)
    refine tw_iload rfl rfl ?_
    refine tw_push rfl ?_
    refine tw_push rfl ?_
    refine tw_stat3 rfl (f_isWithin hG (LO := 1) (HI := 999) (by decide) (by decide)) (fun w9 h9 p137 => ?_)
    obtain ⟨⟨p137, rfl⟩ | ⟨p137, rfl⟩, rfl⟩ := p137
    · try dsimp only [tvI_i, tvJ_j, tvR_r] at p137
      refine tw_if_eq rfl (fun z => absurd z (by decide)) (fun _ => ?_)
      refine tw_aload rfl rfl ?_
      refine tw_getS rfl (hs_0_0 hs) ?_
      refine tw_iload rfl rfl ?_
      refine tw_iload rfl rfl ?_
      refine tw_virt2 rfl (f_setFactor hG hs) (fun wp138 hp138 p138 => ?_)
      obtain ⟨rfl, rfl, p138f⟩ := p138
      refine tw_goto rfl ?_
      exact tw_iret rfl (Or.inl ⟨⟨by omega, by omega⟩, rfl, rfl, p138f⟩)
    · try dsimp only [tvI_i, tvJ_j, tvR_r] at p137
      refine tw_if_eq rfl (fun _ => ?_) (fun z => absurd z (by decide))
      refine tw_push rfl ?_
      exact tw_iret rfl (Or.inr ⟨by omega, rfl, rfl⟩)
  · try dsimp only [tvI_i, tvJ_j, tvR_r] at p136
    refine tw_if_eq rfl (fun _ => ?_) (fun z => absurd z (by decide))
    refine tw_push rfl ?_
    exact tw_iret rfl (Or.inr ⟨by omega, rfl, rfl⟩)
theorem g_isSort {G : zG} (hG : G.1 = zProg) {h : zH} {n : Int32} : tC zTt G 173 [.int n] h (fun w h2 => tBo (0 ≤ n.toInt ∧ n.toInt ≤ 2) w ∧ h2 = h) := by
  refine tC_in (by rw [hG]; rfl) (fun dp => ?_)
  refine tw_iload rfl rfl ?_
  refine tw_i2l rfl ?_
  refine tw_push rfl ?_
  refine tw_push rfl ?_
  refine tw_stat3 rfl (f_in hG  (LO := 0) (HI := 2) (Int32.toInt_toInt64 _) (by decide) (by decide)) (fun w9 h9 p139 => ?_)
  obtain ⟨⟨p139, rfl⟩ | ⟨p139, rfl⟩, rfl⟩ := p139
  · try dsimp only [tvI_i, tvJ_j, tvR_r] at p139
    exact tw_iret rfl ⟨Or.inl ⟨p139, rfl⟩, rfl⟩
  · try dsimp only [tvI_i, tvJ_j, tvR_r] at p139
    exact tw_iret rfl ⟨Or.inr ⟨p139, rfl⟩, rfl⟩
theorem g_factor {G : zG} (hG : G.1 = zProg) {h : zH} {s n : Int32} (hs : tSh h) : tC zTt G 180 [.ref 111, .int s, .int n] h (ph_factor 113 s n h) := by
  refine tC_in (by rw [hG]; rfl) (fun dp => ?_)
  refine tw_iload rfl rfl ?_
  refine tw_stat1 rfl (g_isSort hG) (fun w9 h9 p140 => ?_)
  obtain ⟨⟨p140, rfl⟩ | ⟨p140, rfl⟩, rfl⟩ := p140
  · try dsimp only [tvI_i, tvJ_j, tvR_r] at p140
    refine tw_if_eq rfl (fun z => absurd z (by decide)) (fun _ => ?_)
    refine tw_iload rfl rfl ?_
    refine tw_i2l rfl ?_
    refine tw_push rfl ?_
    refine tw_push rfl ?_
    refine tw_stat3 rfl (f_in hG  (LO := 1) (HI := 999) (Int32.toInt_toInt64 _) (by decide) (by decide)) (fun w9 h9 p141 => ?_)
    obtain ⟨⟨p141, rfl⟩ | ⟨p141, rfl⟩, rfl⟩ := p141
    · try dsimp only [tvI_i, tvJ_j, tvR_r] at p141
      refine tw_if_ne rfl (fun _ => ?_) (fun z => absurd z (by decide))
      refine tw_aload rfl rfl ?_
      refine tw_getS rfl (hs_111_8 hs) ?_
      refine tw_iload rfl rfl ?_
      refine tw_iald rfl (fun f142 => ?_)
      refine tw_istore rfl ?_
      refine tw_aload rfl rfl ?_
      refine tw_getS rfl (hs_111_8 hs) ?_
      refine tw_iload rfl rfl ?_
      refine tw_iload rfl rfl ?_
      refine tw_iast rfl (fun f143 => ?_)
      refine tw_iload rfl rfl ?_
      exact tw_iret rfl (Or.inl ⟨⟨by omega, by omega⟩, rfl, rfl, f143⟩)
    · try dsimp only [tvI_i, tvJ_j, tvR_r] at p141
      refine tw_if_ne rfl (fun z => absurd z (by decide)) (fun _ => ?_)
      refine tw_push rfl ?_
      exact tw_iret rfl (Or.inr ⟨by omega, rfl, rfl⟩)
  · try dsimp only [tvI_i, tvJ_j, tvR_r] at p140
    refine tw_if_eq rfl (fun _ => ?_) (fun z => absurd z (by decide))
    refine tw_push rfl ?_
    exact tw_iret rfl (Or.inr ⟨by omega, rfl, rfl⟩)
theorem a_factor {s n : Int32} {h h2 h3 : zH} {w w2 : Option Value} (hR : R_factor h) (h1 : ph_factor 2 s n h w h2) (h9 : ph_factor 113 s n h2 w2 h3) : w2 = w ∧ R_factor h3 := by
  rcases h1 with ⟨c1, rfl, rfl, f1⟩ | ⟨c1, rfl, rfl⟩
  · rcases h9 with ⟨c2, rfl, rfl, f2⟩ | ⟨c2, rfl, rfl⟩
    · refine ⟨?_, fun i hi => ?_⟩
      · rw [tA_tSA f1.cell]
        dsimp only
        rw [if_neg (by omega), hR s.toNatClampNeg (by rw [zclE]; omega)]
      · rw [tA_tSA f2.cell, tA_tSA f1.cell]
        dsimp only
        by_cases e : i = s.toNatClampNeg
        · rw [if_neg (by omega), if_pos ⟨rfl, e⟩, if_pos ⟨rfl, e⟩]
        · rw [if_neg (by omega), if_neg (by omega), if_neg (by omega), if_neg (by omega)]
          exact hR i hi
    · exact absurd c1 c2
  · rcases h9 with ⟨c2, rfl, rfl, f2⟩ | ⟨c2, rfl, rfl⟩
    · exact absurd c2 c1
    · exact ⟨rfl, hR⟩
noncomputable def R_cl (h : zH) : Prop := (∀ i : Nat, (i : Int) < (tvI (tF h 36 4)).toInt → ∃ r, tO h 39 i = some r) ∧ (∀ i j : Nat, (i : Int) < (tvI (tF h 36 4)).toInt → (j : Int) < (tvI (tF h 36 4)).toInt → tO h 39 i = tO h 39 j → i = j)
noncomputable def R_ckind (h : zH) : Prop := ∀ i r : Nat, (i : Int) < (tvI (tF h 36 4)).toInt → tO h 39 i = some r → tF h r 0 = .int (tA h 121 i)
noncomputable def R_cmade (h : zH) : Prop := ∀ i r : Nat, (i : Int) < (tvI (tF h 36 4)).toInt → tO h 39 i = some r → tF h r 1 = .int (tA h 122 i)
noncomputable def R_ctl (h : zH) : Prop := ∀ i r : Nat, (i : Int) < (tvI (tF h 36 4)).toInt → tO h 39 i = some r → tF h r 2 = .int (tA h 123 i)
noncomputable def R_ccr (h : zH) : Prop := ∀ i r : Nat, (i : Int) < (tvI (tF h 36 4)).toInt → tO h 39 i = some r → tF h r 6 = .int (tA h 127 i)
noncomputable def R_cwr (h : zH) : Prop := ∀ i r : Nat, (i : Int) < (tvI (tF h 36 4)).toInt → tO h 39 i = some r → tF h r 7 = .int (tA h 120 i)
noncomputable def R_cw0 (h : zH) : Prop := ∀ i : Nat, (tvI (tF h 36 4)).toInt ≤ (i : Int) → tA h 120 i = 0
noncomputable def R_cmt (h : zH) : Prop := ∀ i : Nat, (i : Int) < (tvI (tF h 111 5)).toInt → (tA h 122 i).toInt ≤ (tA h 123 i).toInt
noncomputable def R_ck2 (h : zH) : Prop := ∀ i : Nat, (i : Int) < (tvI (tF h 111 59)).toInt → tA h 65 i = tA h 121 (tA h 152 i).toNatClampNeg ∧ (tA h 152 i).toInt < (tvI (tF h 111 5)).toInt
noncomputable def R_cars (h : zH) : Prop := tF h 36 4 = tF h 111 5
theorem tF_ap {h l : zH} {p b : Nat} {w : Value} (hl : p < h.length) (k : tF h p b = w) : tF (h ++ l) p b = w := by
  unfold tF at k ⊢
  rw [List.getElem?_append_left hl]
  exact k
theorem tA_ap {h l : zH} {p : Nat} (hl : p < h.length) : tA (h ++ l) p = tA h p := by
  funext i
  unfold tA
  rw [List.getElem?_append_left hl]
theorem tO_ap {h l : zH} {p : Nat} (hl : p < h.length) : tO (h ++ l) p = tO h p := by
  funext i
  unfold tO
  rw [List.getElem?_append_left hl]
theorem tF_nw {h : zH} {a : Nat} {fs : List Value} {x : zC} {b : Nat} : tF (h ++ [.inr (a, fs), x]) h.length b = fs.getD b .null := by
  unfold tF
  rw [List.getElem?_append_right (Nat.le_refl _), Nat.sub_self]
  rfl
theorem tSh_ap {h l : zH} (hl : 182 ≤ h.length) (k : tSh h) : tSh (h ++ l) := by
  have a1 : tSr.all (fun q => Nat.blt q.1 182) = true := by decide +kernel
  have a2 : tSi.all (fun q => Nat.blt q.1 182) = true := by decide +kernel
  refine ⟨fun q hq => tF_ap ?_ (k.1 q hq), fun q hq => ?_⟩
  · have := Nat.le_of_ble_eq_true (List.all_eq_true.mp a1 q hq)
    omega
  · have := Nat.le_of_ble_eq_true (List.all_eq_true.mp a2 q hq)
    have e : tF (h ++ l) q.1 q.2 = tF h q.1 q.2 := tF_ap (by omega) rfl
    rw [e]
    exact k.2 q hq
theorem f_carInit {G : zG} (hG : G.1 = zProg) {h : zH} {k m o t : Int32} : tC zTt G 0 [.ref h.length, .int k, .int m, .int o, .int t] (h ++ [.inr (0, zcls zTt 0)]) (fun w h2 => w = none ∧ ∃ g : Nat → Int32, (∀ i, i < 12 → g i = 600) ∧ h2 = h ++ [.inr (0, [.int k, .int m, .int t, .int o, .int o, .int m, .int m, .int 0, .int 0, .int 0, .ref (h.length + 1)]), .inl (0, 12, .inl g)]) :=
  tC_of (zcar_init (d := 0) hG (fun g hg => ⟨rfl, g, hg, rfl⟩))
theorem f_hasPerson {G : zG} (hG : G.1 = zProg) {h : zH} {n : Int32} (hs : tSh h) : tC zTt G 15 [.ref 36, .int n] h (fun w h2 => tBo (0 ≤ n.toInt ∧ n.toInt < (tvI (tF h 36 2)).toInt) w ∧ h2 = h) := by
  refine tC_in (by rw [hG]; rfl) (fun dp => ?_)
  refine tw_iload rfl rfl ?_
  refine tw_if_lt rfl (fun q144 => ?_) (fun q144 => ?_)
  · try dsimp only [tvI_i, tvJ_j, tvR_r] at q144
    refine tw_push rfl ?_
    exact tw_iret rfl ⟨Or.inr ⟨by omega, rfl⟩, rfl⟩
  · try dsimp only [tvI_i, tvJ_j, tvR_r] at q144
    refine tw_iload rfl rfl ?_
    refine tw_aload rfl rfl ?_
    refine tw_getS rfl (hi_36_2 hs) ?_
    refine tw_ic_ge rfl (fun q145 => ?_) (fun q145 => ?_)
    · try dsimp only [tvI_i, tvJ_j, tvR_r] at q145
      refine tw_push rfl ?_
      exact tw_iret rfl ⟨Or.inr ⟨by omega, rfl⟩, rfl⟩
    · try dsimp only [tvI_i, tvJ_j, tvR_r] at q145
      refine tw_push rfl ?_
      refine tw_goto rfl ?_
      exact tw_iret rfl ⟨Or.inl ⟨by omega, rfl⟩, rfl⟩
theorem f_addCar {G : zG} (hG : G.1 = zProg) {h : zH} {k m o t : Int32} (hs : tSh h) (hl : 182 ≤ h.length) : tC zTt G 20 [.ref 36, .int k, .int m, .int o, .int t] h (fun w h2 => ((tvI (tF h 36 4)).toInt ≠ 300 ∧ w = some (tF h 36 4) ∧ tF h2 36 4 = .int (tvI (tF h 36 4) + 1) ∧ tO h2 39 = (fun j => if j = (tvI (tF h 36 4)).toNatClampNeg then some h.length else tO h 39 j) ∧ (∀ p b, p < h.length → ¬ (p = 36 ∧ b = 4) → tF h2 p b = tF h p b) ∧ tF h2 h.length 0 = .int k ∧ tF h2 h.length 1 = .int m ∧ tF h2 h.length 2 = .int t ∧ tF h2 h.length 6 = .int m ∧ tF h2 h.length 7 = .int 0) ∨ (¬ (tvI (tF h 36 4)).toInt ≠ 300 ∧ w = some (.int (-1)) ∧ h2 = h)) := by
  refine tC_in (by rw [hG]; rfl) (fun dp => ?_)
  refine tw_aload rfl rfl ?_
  refine tw_getS rfl (hi_36_4 hs) ?_
  refine tw_push rfl ?_
  refine tw_ic_ne rfl (fun q146 => ?_) (fun q146 => ?_)
  · try dsimp only [tvI_i, tvJ_j, tvR_r] at q146
    have q146i := zneq (Y := 300) (by decide) q146
    refine tw_aload rfl rfl ?_
    refine tw_getS rfl (hs_36_3 hs) ?_
    refine tw_aload rfl rfl ?_
    refine tw_getS rfl (hi_36_4 hs) ?_
    refine tw_new rfl rfl ?_
    refine tw_dup rfl ?_
    refine tw_iload rfl rfl ?_
    refine tw_iload rfl rfl ?_
    refine tw_iload rfl rfl ?_
    refine tw_iload rfl rfl ?_
    refine tw_spec4 rfl (f_carInit hG) (fun wp147 hp147 p147 => ?_)
    obtain ⟨rfl, p147g, p147h, rfl⟩ := p147
    refine tw_aast rfl (fun f148 => ?_)
    refine tw_aload rfl rfl ?_
    refine tw_dup rfl ?_
    refine tw_getS rfl (tF_o (tF_ap (by omega) (hi_36_4 hs))) ?_
    refine tw_dup_x1 rfl ?_
    refine tw_push rfl ?_
    refine tw_iadd rfl ?_
    refine tw_put rfl (fun f149 => ?_)
    refine tw_iret rfl (Or.inl ⟨by omega, congrArg some (hi_36_4 hs).symm, tF_same f149, ?_, fun p b hp hn => tF_ne hn (tF_o (tF_ap hp rfl)), (tF_ne (by omega) (tF_o tF_nw)), (tF_ne (by omega) (tF_o tF_nw)), (tF_ne (by omega) (tF_o tF_nw)), (tF_ne (by omega) (tF_o tF_nw)), (tF_ne (by omega) (tF_o tF_nw))⟩)
    rw [tO_tSF, tO_tSO f148.cell]
    funext j
    dsimp only
    rw [tO_ap (by omega)]
    by_cases e : j = (tvI (tF h 36 4)).toNatClampNeg
    · rw [if_pos ⟨rfl, e⟩, if_pos e]
    · rw [if_neg (fun z => e z.2), if_neg e]
  · try dsimp only [tvI_i, tvJ_j, tvR_r] at q146
    have q146i := zeqi (Y := 300) (by decide) q146
    refine tw_push rfl ?_
    exact tw_iret rfl (Or.inr ⟨by omega, rfl, rfl⟩)
noncomputable def ph_carc (k m o : Int32) (h : zH) (w : Option Value) (h2 : zH) : Prop := ((((0 ≤ k.toInt ∧ k.toInt < (tvI (tF h 1 6)).toInt) ∧ (0 ≤ m.toInt ∧ m.toInt ≤ (tvI (tF h 0 14)).toInt) ∧ (0 ≤ o.toInt ∧ o.toInt < (tvI (tF h 36 2)).toInt)) ∧ (tvI (tF h 36 4)).toInt ≠ 300) ∧ w = some (tF h 36 4) ∧ tF h2 36 4 = .int (tvI (tF h 36 4) + 1) ∧ tO h2 39 = (fun j => if j = (tvI (tF h 36 4)).toNatClampNeg then some h.length else tO h 39 j) ∧ (∀ p b, p < h.length → ¬ (p = 36 ∧ b = 4) → tF h2 p b = tF h p b) ∧ tF h2 h.length 0 = .int k ∧ tF h2 h.length 1 = .int m ∧ tF h2 h.length 2 = .int (tvI (tF h 0 14)) ∧ tF h2 h.length 6 = .int m ∧ tF h2 h.length 7 = .int 0) ∨ (¬ (((0 ≤ k.toInt ∧ k.toInt < (tvI (tF h 1 6)).toInt) ∧ (0 ≤ m.toInt ∧ m.toInt ≤ (tvI (tF h 0 14)).toInt) ∧ (0 ≤ o.toInt ∧ o.toInt < (tvI (tF h 36 2)).toInt)) ∧ (tvI (tF h 36 4)).toInt ≠ 300) ∧ w = some (.int (-1)) ∧ h2 = h)
theorem f_car {G : zG} (hG : G.1 = zProg) {h : zH} {k m o : Int32} (hs : tSh h) (hl : 182 ≤ h.length) : tC zTt G 116 [.ref 0, .int k, .int m, .int o] h (ph_carc k m o h) := by
  refine tC_in (by rw [hG]; rfl) (fun dp => ?_)
  refine tw_aload rfl rfl ?_
  refine tw_getS rfl (hs_0_0 hs) ?_
  refine tw_iload rfl rfl ?_
  refine tw_virt1 rfl (f_hasKind hG hs) (fun w9 h9 p150 => ?_)
  obtain ⟨⟨p150, rfl⟩ | ⟨p150, rfl⟩, rfl⟩ := p150
  · try dsimp only [tvI_i, tvJ_j, tvR_r] at p150
    refine tw_if_eq rfl (fun z => absurd z (by decide)) (fun _ => ?_)
    refine tw_iload rfl rfl ?_
    refine tw_push rfl ?_
    refine tw_aload rfl rfl ?_
    refine tw_getS rfl (hi_0_14 hs) ?_
    refine tw_stat3 rfl (f_isWithin hG (LO := 0)  (by decide) rfl) (fun w9 h9 p151 => ?_)
    obtain ⟨⟨p151, rfl⟩ | ⟨p151, rfl⟩, rfl⟩ := p151
    · try dsimp only [tvI_i, tvJ_j, tvR_r] at p151
      refine tw_if_eq rfl (fun z => absurd z (by decide)) (fun _ => ?_)
      refine tw_aload rfl rfl ?_
      refine tw_getS rfl (hs_0_1 hs) ?_
      refine tw_iload rfl rfl ?_
      refine tw_virt1 rfl (f_hasPerson hG hs) (fun w9 h9 p152 => ?_)
      obtain ⟨⟨p152, rfl⟩ | ⟨p152, rfl⟩, rfl⟩ := p152
      · try dsimp only [tvI_i, tvJ_j, tvR_r] at p152
        refine tw_if_eq rfl (fun z => absurd z (by decide)) (fun _ => ?_)
        refine tw_push rfl ?_
        refine tw_goto rfl ?_
        refine tw_istore rfl ?_
        refine tw_iload rfl rfl ?_
        refine tw_if_eq rfl (fun z => absurd z (by decide)) (fun _ => ?_)
        refine tw_aload rfl rfl ?_
        refine tw_getS rfl (hs_0_1 hs) ?_
        refine tw_iload rfl rfl ?_
        refine tw_iload rfl rfl ?_
        refine tw_iload rfl rfl ?_
        refine tw_aload rfl rfl ?_
        refine tw_getS rfl (hi_0_14 hs) ?_
        refine tw_virt4 rfl (f_addCar hG hs hl) (fun w9 h9 p153 => ?_)
        rcases p153 with ⟨p153, rfl, p153e⟩ | ⟨p153, rfl, rfl⟩
        · refine tw_goto rfl ?_
          exact tw_iret rfl (Or.inl ⟨by omega, congrArg some (hi_36_4 hs).symm, p153e⟩)
        · refine tw_goto rfl ?_
          exact tw_iret rfl (Or.inr ⟨by omega, rfl, rfl⟩)
      · try dsimp only [tvI_i, tvJ_j, tvR_r] at p152
        refine tw_if_eq rfl (fun _ => ?_) (fun z => absurd z (by decide))
        refine tw_push rfl ?_
        refine tw_istore rfl ?_
        refine tw_iload rfl rfl ?_
        refine tw_if_eq rfl (fun _ => ?_) (fun z => absurd z (by decide))
        refine tw_push rfl ?_
        exact tw_iret rfl (Or.inr ⟨by omega, rfl, rfl⟩)
    · try dsimp only [tvI_i, tvJ_j, tvR_r] at p151
      refine tw_if_eq rfl (fun _ => ?_) (fun z => absurd z (by decide))
      refine tw_push rfl ?_
      refine tw_istore rfl ?_
      refine tw_iload rfl rfl ?_
      refine tw_if_eq rfl (fun _ => ?_) (fun z => absurd z (by decide))
      refine tw_push rfl ?_
      exact tw_iret rfl (Or.inr ⟨by omega, rfl, rfl⟩)
  · try dsimp only [tvI_i, tvJ_j, tvR_r] at p150
    refine tw_if_eq rfl (fun _ => ?_) (fun z => absurd z (by decide))
    refine tw_push rfl ?_
    refine tw_istore rfl ?_
    refine tw_iload rfl rfl ?_
    refine tw_if_eq rfl (fun _ => ?_) (fun z => absurd z (by decide))
    refine tw_push rfl ?_
    exact tw_iret rfl (Or.inr ⟨by omega, rfl, rfl⟩)
theorem g_isPerson {G : zG} (hG : G.1 = zProg) {h : zH} {n : Int32} (hs : tSh h) (hk : 0 ≤ (tvI (tF h 111 2)).toInt) : tC zTt G 175 [.ref 111, .int n] h (fun w h2 => tBo (0 ≤ n.toInt ∧ n.toInt < (tvI (tF h 111 2)).toInt) w ∧ h2 = h) := by
  refine tC_in (by rw [hG]; rfl) (fun dp => ?_)
  refine tw_iload rfl rfl ?_
  refine tw_i2l rfl ?_
  refine tw_push rfl ?_
  refine tw_aload rfl rfl ?_
  refine tw_getS rfl (hi_111_2 hs) ?_
  refine tw_push rfl ?_
  refine tw_isub rfl ?_
  refine tw_i2l rfl ?_
  refine tw_stat3 rfl (f_in hG  (LO := 0)  (Int32.toInt_toInt64 _) (by decide) (Int32.toInt_toInt64 _)) (fun w9 h9 p154 => ?_)
  obtain ⟨⟨p154, rfl⟩ | ⟨p154, rfl⟩, rfl⟩ := p154
  · try dsimp only [tvI_i, tvJ_j, tvR_r] at p154
    exact tw_iret rfl ⟨Or.inl ⟨by have e := zsub1 hk; have := p154; omega, rfl⟩, rfl⟩
  · try dsimp only [tvI_i, tvJ_j, tvR_r] at p154
    exact tw_iret rfl ⟨Or.inr ⟨by have e := zsub1 hk; have := p154; omega, rfl⟩, rfl⟩
theorem g_car {G : zG} (hG : G.1 = zProg) {h : zH} {k m o : Int32} (hs : tSh h) (hk3 : 0 ≤ (tvI (tF h 111 3)).toInt) (hk2 : 0 ≤ (tvI (tF h 111 2)).toInt) : tC zTt G 184 [.ref 111, .int k, .int m, .int o] h (phA 111 5 (((0 ≤ k.toInt ∧ k.toInt < (tvI (tF h 111 3)).toInt) ∧ (0 ≤ m.toInt ∧ m.toInt ≤ (tvI (tF h 111 1)).toInt) ∧ (0 ≤ o.toInt ∧ o.toInt < (tvI (tF h 111 2)).toInt)) ∧ (tvI (tF h 111 5)).toInt ≠ 300) [(121, k), (122, m), (123, tvI (tF h 111 1)), (127, m)] h) := by
  refine tC_in (by rw [hG]; rfl) (fun dp => ?_)
  refine tw_aload rfl rfl ?_
  refine tw_getS rfl (hi_111_5 hs) ?_
  refine tw_push rfl ?_
  refine tw_ic_eq rfl (fun q155 => ?_) (fun q155 => ?_)
  · try dsimp only [tvI_i, tvJ_j, tvR_r] at q155
    have q155i := zeqi (Y := 300) (by decide) q155
    refine tw_push rfl ?_
    exact tw_iret rfl (Or.inr ⟨by omega, rfl, rfl, fun _ _ => rfl⟩)
  · try dsimp only [tvI_i, tvJ_j, tvR_r] at q155
    have q155i := zneq (Y := 300) (by decide) q155
    refine tw_aload rfl rfl ?_
    refine tw_iload rfl rfl ?_
    refine tw_virt1 rfl (g_isKind hG hs hk3) (fun w9 h9 p156 => ?_)
    obtain ⟨⟨p156, rfl⟩ | ⟨p156, rfl⟩, rfl⟩ := p156
    · try dsimp only [tvI_i, tvJ_j, tvR_r] at p156
      refine tw_if_eq rfl (fun z => absurd z (by decide)) (fun _ => ?_)
      refine tw_iload rfl rfl ?_
      refine tw_i2l rfl ?_
      refine tw_push rfl ?_
      refine tw_aload rfl rfl ?_
      refine tw_getS rfl (hi_111_1 hs) ?_
      refine tw_i2l rfl ?_
      refine tw_stat3 rfl (f_in hG  (LO := 0)  (Int32.toInt_toInt64 _) (by decide) (Int32.toInt_toInt64 _)) (fun w9 h9 p157 => ?_)
      obtain ⟨⟨p157, rfl⟩ | ⟨p157, rfl⟩, rfl⟩ := p157
      · try dsimp only [tvI_i, tvJ_j, tvR_r] at p157
        refine tw_if_eq rfl (fun z => absurd z (by decide)) (fun _ => ?_)
        refine tw_aload rfl rfl ?_
        refine tw_iload rfl rfl ?_
        refine tw_virt1 rfl (g_isPerson hG hs hk2) (fun w9 h9 p158 => ?_)
        obtain ⟨⟨p158, rfl⟩ | ⟨p158, rfl⟩, rfl⟩ := p158
        · try dsimp only [tvI_i, tvJ_j, tvR_r] at p158
          refine tw_if_ne rfl (fun _ => ?_) (fun z => absurd z (by decide))
          refine tw_aload rfl rfl ?_
          refine tw_getS rfl (hs_111_16 hs) ?_
          refine tw_aload rfl rfl ?_
          refine tw_getS rfl (hi_111_5 hs) ?_
          refine tw_iload rfl rfl ?_
          refine tw_iast rfl (fun f159 => ?_)
          refine tw_aload rfl rfl ?_
          refine tw_getS rfl (hs_111_17 (tSh_SA hs)) ?_
          refine tw_aload rfl rfl ?_
          refine tw_getS rfl (tF_a (hi_111_5 hs)) ?_
          refine tw_iload rfl rfl ?_
          refine tw_iast rfl (fun f160 => ?_)
          refine tw_aload rfl rfl ?_
          refine tw_getS rfl (hs_111_18 (tSh_SA (tSh_SA hs))) ?_
          refine tw_aload rfl rfl ?_
          refine tw_getS rfl (tF_a (tF_a (hi_111_5 hs))) ?_
          refine tw_aload rfl rfl ?_
          refine tw_getS rfl (tF_a (tF_a (hi_111_1 hs))) ?_
          refine tw_iast rfl (fun f161 => ?_)
          refine tw_aload rfl rfl ?_
          refine tw_getS rfl (hs_111_19 (tSh_SA (tSh_SA (tSh_SA hs)))) ?_
          refine tw_aload rfl rfl ?_
          refine tw_getS rfl (tF_a (tF_a (tF_a (hi_111_5 hs)))) ?_
          refine tw_iload rfl rfl ?_
          refine tw_iast rfl (fun f162 => ?_)
          refine tw_aload rfl rfl ?_
          refine tw_getS rfl (hs_111_20 (tSh_SA (tSh_SA (tSh_SA (tSh_SA hs))))) ?_
          refine tw_aload rfl rfl ?_
          refine tw_getS rfl (tF_a (tF_a (tF_a (tF_a (hi_111_5 hs))))) ?_
          refine tw_iload rfl rfl ?_
          refine tw_iast rfl (fun f163 => ?_)
          refine tw_aload rfl rfl ?_
          refine tw_getS rfl (hs_111_21 (tSh_SA (tSh_SA (tSh_SA (tSh_SA (tSh_SA hs)))))) ?_
          refine tw_aload rfl rfl ?_
          refine tw_getS rfl (tF_a (tF_a (tF_a (tF_a (tF_a (hi_111_5 hs)))))) ?_
          refine tw_iload rfl rfl ?_
          refine tw_iast rfl (fun f164 => ?_)
          refine tw_aload rfl rfl ?_
          refine tw_getS rfl (hs_111_22 (tSh_SA (tSh_SA (tSh_SA (tSh_SA (tSh_SA (tSh_SA hs))))))) ?_
          refine tw_aload rfl rfl ?_
          refine tw_getS rfl (tF_a (tF_a (tF_a (tF_a (tF_a (tF_a (hi_111_5 hs))))))) ?_
          refine tw_iload rfl rfl ?_
          refine tw_iast rfl (fun f165 => ?_)
          refine tw_aload rfl rfl ?_
          refine tw_dup rfl ?_
          refine tw_getS rfl (tF_a (tF_a (tF_a (tF_a (tF_a (tF_a (tF_a (hi_111_5 hs)))))))) ?_
          refine tw_push rfl ?_
          refine tw_iadd rfl ?_
          refine tw_put rfl (fun f166 => ?_)
          refine tw_aload rfl rfl ?_
          refine tw_getS rfl (tF_same f166) ?_
          refine tw_push rfl ?_
          refine tw_isub rfl ?_
          exact tw_iret rfl (Or.inl ⟨by omega, wret1 (hi_111_5 hs), (tF_same f166), (fun q hq => by rcases List.mem_cons.mp hq with rfl | hq; (show tA _ 121 = _; exact (tA_ff (tA_n (by decide) (tA_n (by decide) (tA_n (by decide) (tA_n (by decide) (tA_n (by decide) (tA_n (by decide) (tA_st f159 rfl))))))))); rcases List.mem_cons.mp hq with rfl | hq; (show tA _ 122 = _; exact (tA_ff (tA_n (by decide) (tA_n (by decide) (tA_n (by decide) (tA_n (by decide) (tA_n (by decide) (tA_st f160 (tA_n (by decide) rfl))))))))); rcases List.mem_cons.mp hq with rfl | hq; (show tA _ 123 = _; exact (tA_ff (tA_n (by decide) (tA_n (by decide) (tA_n (by decide) (tA_n (by decide) (tA_st f161 (tA_n (by decide) (tA_n (by decide) rfl))))))))); rcases List.mem_cons.mp hq with rfl | hq; (show tA _ 127 = _; exact (tA_ff (tA_st f165 (tA_n (by decide) (tA_n (by decide) (tA_n (by decide) (tA_n (by decide) (tA_n (by decide) (tA_n (by decide) rfl))))))))); cases hq)⟩)
        · try dsimp only [tvI_i, tvJ_j, tvR_r] at p158
          refine tw_if_ne rfl (fun z => absurd z (by decide)) (fun _ => ?_)
          refine tw_push rfl ?_
          exact tw_iret rfl (Or.inr ⟨by omega, rfl, rfl, fun _ _ => rfl⟩)
      · try dsimp only [tvI_i, tvJ_j, tvR_r] at p157
        refine tw_if_eq rfl (fun _ => ?_) (fun z => absurd z (by decide))
        refine tw_push rfl ?_
        exact tw_iret rfl (Or.inr ⟨by omega, rfl, rfl, fun _ _ => rfl⟩)
    · try dsimp only [tvI_i, tvJ_j, tvR_r] at p156
      refine tw_if_eq rfl (fun _ => ?_) (fun z => absurd z (by decide))
      refine tw_push rfl ?_
      exact tw_iret rfl (Or.inr ⟨by omega, rfl, rfl, fun _ _ => rfl⟩)
theorem a_car {xs : Nat → Int32} {τ τ2 : List Nat} {k m o : Int32} {h h2 h3 : zH} {w w2 : Option Value} (hB : zBs xs τ h) (hB2 : zBs xs τ2 h2) (hK : R_kinds h) (hW : R_now h) (hP : R_people h) (hR : R_cars h) (hL : R_cl h) (h_ckind : R_ckind h) (o_ckind : tA h2 121 = tA h 121) (h_cmade : R_cmade h) (o_cmade : tA h2 122 = tA h 122) (h_ctl : R_ctl h) (o_ctl : tA h2 123 = tA h 123) (h_ccr : R_ccr h) (o_ccr : tA h2 127 = tA h 127) (h_cwr : R_cwr h) (o_cwr : tA h2 120 = tA h 120) (e1 : tF h2 111 5 = tF h 111 5) (e3 : tF h2 111 3 = tF h 111 3) (e4 : tF h2 111 1 = tF h 111 1) (e5 : tF h2 111 2 = tF h 111 2) (e2 : tF h3 36 4 = tF h2 36 4) (e6 : tO h3 39 = tO h2 39) (e7 : ∀ i r f : Nat, (i : Int) < (tvI (tF h2 36 4)).toInt → tO h2 39 i = some r → tF h3 r f = tF h2 r f) (hwr : R_cw0 h) (o9 : tA h3 120 = tA h2 120) (k1 : ph_carc k m o h w h2) (k2 : phA 111 5 (((0 ≤ k.toInt ∧ k.toInt < (tvI (tF h2 111 3)).toInt) ∧ (0 ≤ m.toInt ∧ m.toInt ≤ (tvI (tF h2 111 1)).toInt) ∧ (0 ≤ o.toInt ∧ o.toInt < (tvI (tF h2 111 2)).toInt)) ∧ (tvI (tF h2 111 5)).toInt ≠ 300) [(121, k), (122, m), (123, tvI (tF h2 111 1)), (127, m)] h2 w2 h3) : w2 = w ∧ R_cars h3 ∧ R_cl h3 ∧ R_ckind h3 ∧ R_cmade h3 ∧ R_ctl h3 ∧ R_ccr h3 ∧ R_cwr h3 ∧ R_cw0 h3 := by
  unfold R_kinds at hK
  unfold R_now at hW
  unfold R_people at hP
  have hR0 := hR
  unfold R_cars at hR0
  rw [e1, e3, e4, e5, ← hK, ← hW, ← hP, ← hR0] at k2
  have n1 := (kb_36_4 hB).1
  have n2 := (kb_36_4 hB).2
  rcases k1 with ⟨c1, rfl, f1, g1, g2, f_ckind, f_cmade, f_ctl, f_ccr, f_cwr⟩ | ⟨c1, rfl, rfl⟩ <;> rcases k2 with ⟨c2, rfl, f2, q2⟩ | ⟨c2, rfl, f2, q2⟩
  · have hc : R_cars h3 := by
      unfold R_cars
      rw [e2, f1, f2, e1, ← hR0]
    have en : (tvI (tF h3 36 4)).toInt = (tvI (tF h 36 4)).toInt + 1 := by
      rw [e2, f1]
      show (tvI (tF h 36 4) + 1).toInt = _
      rw [Int32.toInt_add]
      exact Int.bmod_eq_of_le (by show (-2147483648 : Int) ≤ (tvI (tF h 36 4)).toInt + 1; omega) (by show (tvI (tF h 36 4)).toInt + 1 < (2147483648 : Int); omega)
    have en2 : (tvI (tF h2 36 4)).toInt = (tvI (tF h 36 4)).toInt + 1 := by rw [← e2]; exact en
    have eo : tO h3 39 = fun j => if j = (tvI (tF h 36 4)).toNatClampNeg then some h.length else tO h 39 j := by rw [e6, g1]
    have hnc : ((tvI (tF h 36 4)).toNatClampNeg : Int) = (tvI (tF h 36 4)).toInt := by rw [zclE]; omega
    have hL3 : R_cl h3 := by
      unfold R_cl
      rw [en, eo]
      refine ⟨fun i hi => ?_, fun i j hi hj e => ?_⟩
      · dsimp only
        by_cases z : i = (tvI (tF h 36 4)).toNatClampNeg
        · rw [if_pos z]; exact ⟨_, rfl⟩
        · rw [if_neg z]; exact hL.1 i (by omega)
      · dsimp only at e
        by_cases z : i = (tvI (tF h 36 4)).toNatClampNeg
        · by_cases z2 : j = (tvI (tF h 36 4)).toNatClampNeg
          · omega
          · rw [if_pos z, if_neg z2] at e
            have := car_lt hB (i := j) (r := h.length) (by omega) e.symm
            omega
        · by_cases z2 : j = (tvI (tF h 36 4)).toNatClampNeg
          · rw [if_neg z, if_pos z2] at e
            have := car_lt hB (i := i) (r := h.length) (by omega) e
            omega
          · rw [if_neg z, if_neg z2] at e
            exact hL.2 i j (by omega) (by omega) e
    have H_ckind : R_ckind h3 := by
      intro i r hi hr
      rw [en] at hi
      have hr2 := hr
      rw [e6] at hr2
      rw [e7 i r 0 (by omega) hr2, q2 (121, k) (by simp), e1, ← hR0]
      rw [eo] at hr
      dsimp only at hr ⊢
      by_cases z : i = (tvI (tF h 36 4)).toNatClampNeg
      · rw [if_pos z] at hr
        cases hr
        rw [if_pos z]
        exact f_ckind
      · rw [if_neg z] at hr
        have hi2 : (i : Int) < (tvI (tF h 36 4)).toInt := by omega
        rw [if_neg z, g2 r 0 (car_lt hB hi2 hr) (fun y => car_ne hB hi2 hr (p := 36) (t := 12) rfl (by decide) y.1), o_ckind]
        exact h_ckind i r hi2 hr
    have H_cmade : R_cmade h3 := by
      intro i r hi hr
      rw [en] at hi
      have hr2 := hr
      rw [e6] at hr2
      rw [e7 i r 1 (by omega) hr2, q2 (122, m) (by simp), e1, ← hR0]
      rw [eo] at hr
      dsimp only at hr ⊢
      by_cases z : i = (tvI (tF h 36 4)).toNatClampNeg
      · rw [if_pos z] at hr
        cases hr
        rw [if_pos z]
        exact f_cmade
      · rw [if_neg z] at hr
        have hi2 : (i : Int) < (tvI (tF h 36 4)).toInt := by omega
        rw [if_neg z, g2 r 1 (car_lt hB hi2 hr) (fun y => car_ne hB hi2 hr (p := 36) (t := 12) rfl (by decide) y.1), o_cmade]
        exact h_cmade i r hi2 hr
    have H_ctl : R_ctl h3 := by
      intro i r hi hr
      rw [en] at hi
      have hr2 := hr
      rw [e6] at hr2
      rw [e7 i r 2 (by omega) hr2, q2 (123, tvI (tF h 0 14)) (by simp), e1, ← hR0]
      rw [eo] at hr
      dsimp only at hr ⊢
      by_cases z : i = (tvI (tF h 36 4)).toNatClampNeg
      · rw [if_pos z] at hr
        cases hr
        rw [if_pos z]
        exact f_ctl
      · rw [if_neg z] at hr
        have hi2 : (i : Int) < (tvI (tF h 36 4)).toInt := by omega
        rw [if_neg z, g2 r 2 (car_lt hB hi2 hr) (fun y => car_ne hB hi2 hr (p := 36) (t := 12) rfl (by decide) y.1), o_ctl]
        exact h_ctl i r hi2 hr
    have H_ccr : R_ccr h3 := by
      intro i r hi hr
      rw [en] at hi
      have hr2 := hr
      rw [e6] at hr2
      rw [e7 i r 6 (by omega) hr2, q2 (127, m) (by simp), e1, ← hR0]
      rw [eo] at hr
      dsimp only at hr ⊢
      by_cases z : i = (tvI (tF h 36 4)).toNatClampNeg
      · rw [if_pos z] at hr
        cases hr
        rw [if_pos z]
        exact f_ccr
      · rw [if_neg z] at hr
        have hi2 : (i : Int) < (tvI (tF h 36 4)).toInt := by omega
        rw [if_neg z, g2 r 6 (car_lt hB hi2 hr) (fun y => car_ne hB hi2 hr (p := 36) (t := 12) rfl (by decide) y.1), o_ccr]
        exact h_ccr i r hi2 hr
    have H_cw0 : R_cw0 h3 := by
      intro i hi
      rw [en] at hi
      rw [o9, o_cwr]
      exact hwr i (by omega)
    have H_cwr : R_cwr h3 := by
      intro i r hi hr
      rw [en] at hi
      have hr2 := hr
      rw [e6] at hr2
      rw [e7 i r 7 (by omega) hr2, o9, o_cwr]
      rw [eo] at hr
      dsimp only at hr
      by_cases z : i = (tvI (tF h 36 4)).toNatClampNeg
      · rw [if_pos z] at hr
        cases hr
        rw [hwr i (by omega)]
        exact f_cwr
      · rw [if_neg z] at hr
        have hi2 : (i : Int) < (tvI (tF h 36 4)).toInt := by omega
        rw [g2 r 7 (car_lt hB hi2 hr) (fun y => car_ne hB hi2 hr (p := 36) (t := 12) rfl (by decide) y.1)]
        exact h_cwr i r hi2 hr
    exact ⟨by rw [e1, ← hR0], hc, hL3, H_ckind, H_cmade, H_ctl, H_ccr, H_cwr, H_cw0⟩
  · exact absurd c1 c2
  · exact absurd c2 c1
  · have hc : R_cars h3 := by
      unfold R_cars
      rw [e2, f2]
      exact hR0
    have hL3 : R_cl h3 := by unfold R_cl; rw [e2, e6]; exact hL
    have H_ckind : R_ckind h3 := by
      intro i r hi hr
      rw [e2] at hi
      rw [e6] at hr
      rw [e7 i r 0 hi hr, q2 (121, k) (by simp)]
      exact h_ckind i r hi hr
    have H_cmade : R_cmade h3 := by
      intro i r hi hr
      rw [e2] at hi
      rw [e6] at hr
      rw [e7 i r 1 hi hr, q2 (122, m) (by simp)]
      exact h_cmade i r hi hr
    have H_ctl : R_ctl h3 := by
      intro i r hi hr
      rw [e2] at hi
      rw [e6] at hr
      rw [e7 i r 2 hi hr, q2 (123, tvI (tF h2 0 14)) (by simp)]
      exact h_ctl i r hi hr
    have H_ccr : R_ccr h3 := by
      intro i r hi hr
      rw [e2] at hi
      rw [e6] at hr
      rw [e7 i r 6 hi hr, q2 (127, m) (by simp)]
      exact h_ccr i r hi hr
    have H_cw0 : R_cw0 h3 := by
      intro i hi
      rw [e2] at hi
      rw [o9]
      exact hwr i hi
    have H_cwr : R_cwr h3 := by
      intro i r hi hr
      rw [e2] at hi
      rw [e6] at hr
      rw [e7 i r 7 hi hr, o9]
      exact h_cwr i r hi hr
    exact ⟨rfl, hc, hL3, H_ckind, H_cmade, H_ctl, H_ccr, H_cwr, H_cw0⟩
theorem and_ins {A B C : Prop} (x : A ∧ B) (y : C) : A ∧ C ∧ B := ⟨x.1, y, x.2⟩
theorem a_carM {xs2 : Nat → Int32} {τ2 : List Nat} {k m o : Int32} {h h2 h3 : zH} {w2 : Option Value} (hB2 : zBs xs2 τ2 h2) (hM : R_cmt h) (hK : R_ck2 h) (e1 : tF h2 111 5 = tF h 111 5) (e2 : tF h3 111 59 = tF h 111 59) (o121 : tA h2 121 = tA h 121) (o122 : tA h2 122 = tA h 122) (o123 : tA h2 123 = tA h 123) (o65 : tA h3 65 = tA h 65) (o152 : tA h3 152 = tA h 152) (hb : ∀ i, i < 200 → 0 ≤ (tA h 152 i).toInt) (h59 : (tvI (tF h 111 59)).toInt ≤ 200) (k2 : phA 111 5 (((0 ≤ k.toInt ∧ k.toInt < (tvI (tF h2 111 3)).toInt) ∧ (0 ≤ m.toInt ∧ m.toInt ≤ (tvI (tF h2 111 1)).toInt) ∧ (0 ≤ o.toInt ∧ o.toInt < (tvI (tF h2 111 2)).toInt)) ∧ (tvI (tF h2 111 5)).toInt ≠ 300) [(121, k), (122, m), (123, tvI (tF h2 111 1)), (127, m)] h2 w2 h3) : R_cmt h3 ∧ R_ck2 h3 := by
  have b5 := kb_111_5 hB2
  rcases k2 with ⟨c2, -, f2, q2⟩ | ⟨-, -, f2, q2⟩
  · have n1 : (tvI (tF h2 111 5) + 1).toInt = (tvI (tF h2 111 5)).toInt + 1 := (zincN (n := (tvI (tF h2 111 5)).toNatClampNeg) (zclx b5.1).symm (by have := zclx b5.1; omega)).trans (by have := zclx b5.1; omega)
    have hN : (((tvI (tF h2 111 5)).toNatClampNeg : Nat) : Int) = (tvI (tF h2 111 5)).toInt := zclx b5.1
    have a1 := q2 (121, k) (by simp)
    have a2 := q2 (122, m) (by simp)
    have a3 := q2 (123, tvI (tF h2 111 1)) (by simp)
    dsimp only at a1 a2 a3
    refine ⟨fun i hi => ?_, fun i hi => ?_⟩
    · rw [f2] at hi
      have hi : (i : Int) < (tvI (tF h2 111 5) + 1).toInt := hi
      rw [a2, a3]
      dsimp only
      by_cases z : i = (tvI (tF h2 111 5)).toNatClampNeg
      · rw [if_pos z, if_pos z]
        omega
      · rw [if_neg z, if_neg z, o122, o123]
        exact hM i (by rw [← e1]; omega)
    · rw [e2] at hi
      have y := hK i hi
      have y0 := hb i (by omega)
      have yc : (((tA h 152 i).toNatClampNeg : Nat) : Int) = (tA h 152 i).toInt := zclx y0
      have y2 : (tA h 152 i).toInt < (tvI (tF h2 111 5)).toInt := by rw [e1]; exact y.2
      rw [o65, o152, a1, f2]
      refine ⟨?_, ?_⟩
      · dsimp only
        rw [if_neg (by omega), o121]
        exact y.1
      · show _ < (tvI (tF h2 111 5) + 1).toInt
        omega
  · have a1 := q2 (121, k) (by simp)
    have a2 := q2 (122, m) (by simp)
    have a3 := q2 (123, tvI (tF h2 111 1)) (by simp)
    dsimp only at a1 a2 a3
    refine ⟨fun i hi => ?_, fun i hi => ?_⟩
    · rw [f2, e1] at hi
      rw [a2, a3, o122, o123]
      exact hM i hi
    · rw [e2] at hi
      rw [o65, o152, a1, o121, f2, e1]
      exact hK i hi
noncomputable def R_ccar (h : zH) : Prop := tA h 64 = tA h 152
noncomputable def R_ctold (h : zH) : Prop := tA h 67 = tA h 157
noncomputable def R_cdead (h : zH) : Prop := tA h 70 = tA h 156
noncomputable def R_cburn (h : zH) : Prop := tA h 71 = tA h 158
noncomputable def R_crashes (h : zH) : Prop := tF h 63 8 = tF h 111 59
theorem f_carAt {G : zG} (hG : G.1 = zProg) {h : zH} {n : Int32} (hs : tSh h) : tC zTt G 19 [.ref 36, .int n] h (fun w h2 => (((0 ≤ n.toInt ∧ n.toInt < (tvI (tF h 36 4)).toInt) ∧ w = some (zrf (tO h 39 n.toNatClampNeg))) ∨ (¬ (0 ≤ n.toInt ∧ n.toInt < (tvI (tF h 36 4)).toInt) ∧ w = some .null)) ∧ h2 = h) := by
  refine tC_in (by rw [hG]; rfl) (fun dp => ?_)
  refine tw_iload rfl rfl ?_
  refine tw_if_lt rfl (fun q167 => ?_) (fun q167 => ?_)
  · try dsimp only [tvI_i, tvJ_j, tvR_r] at q167
    refine tw_push rfl ?_
    exact tw_aret rfl ⟨Or.inr ⟨by omega, rfl⟩, rfl⟩
  · try dsimp only [tvI_i, tvJ_j, tvR_r] at q167
    refine tw_iload rfl rfl ?_
    refine tw_aload rfl rfl ?_
    refine tw_getS rfl (hi_36_4 hs) ?_
    refine tw_ic_ge rfl (fun q168 => ?_) (fun q168 => ?_)
    · try dsimp only [tvI_i, tvJ_j, tvR_r] at q168
      refine tw_push rfl ?_
      exact tw_aret rfl ⟨Or.inr ⟨by omega, rfl⟩, rfl⟩
    · try dsimp only [tvI_i, tvJ_j, tvR_r] at q168
      refine tw_aload rfl rfl ?_
      refine tw_getS rfl (hs_36_3 hs) ?_
      refine tw_iload rfl rfl ?_
      refine tw_aald rfl (fun f169 => ?_)
      refine tw_goto rfl ?_
      exact tw_aret rfl ⟨Or.inl ⟨by omega, rfl⟩, rfl⟩
theorem car_ge {xs : Nat → Int32} {τ : List Nat} {h : zH} (hB : zBs xs τ h) : ∀ i r : Nat, (i : Int) < (tvI (tF h 36 4)).toInt → tO h 39 i = some r → 182 ≤ r := by
  intro i r hi hr
  have z := car_tag hB hi hr
  have a : (List.range 182).all (fun p => decide (zTG[p]? ≠ some 150) && decide (p < zTG.length)) = true := by decide +kernel
  rcases Nat.lt_or_ge r 182 with q | q
  · have b := List.all_eq_true.mp a r (List.mem_range.mpr q)
    rw [Bool.and_eq_true, decide_eq_true_eq, decide_eq_true_eq] at b
    have e := hB.2.1 r zTG[r] (List.getElem?_eq_getElem b.2)
    rw [z] at e
    exact absurd (by rw [List.getElem?_eq_getElem b.2]; exact e.symm) b.1
  · exact q
theorem tSh_SFr {h : zH} {r b : Nat} {w : Value} (hr : 182 ≤ r) (k : tSh h) : tSh (tSF h r b w) := by
  have a1 : tSr.all (fun q => Nat.blt q.1 182) = true := by decide +kernel
  have a2 : tSi.all (fun q => Nat.blt q.1 182) = true := by decide +kernel
  refine ⟨fun q hq => tF_ne ?_ (k.1 q hq), fun q hq => ?_⟩
  · have := Nat.le_of_ble_eq_true (List.all_eq_true.mp a1 q hq)
    omega
  · have := Nat.le_of_ble_eq_true (List.all_eq_true.mp a2 q hq)
    have e : tF (tSF h r b w) q.1 q.2 = tF h q.1 q.2 := tF_nz (by omega)
    rw [e]
    exact k.2 q hq
theorem f_carAtR {G : zG} (hG : G.1 = zProg) {h : zH} {n : Int32} (hs : tSh h) (hL : R_cl h) (hg : ∀ i r : Nat, (i : Int) < (tvI (tF h 36 4)).toInt → tO h 39 i = some r → 182 ≤ r) : tC zTt G 19 [.ref 36, .int n] h (fun w h2 => ((∃ r, ((0 ≤ n.toInt ∧ n.toInt < (tvI (tF h 36 4)).toInt) ∧ ((n.toNatClampNeg : Nat) : Int) < (tvI (tF h 36 4)).toInt) ∧ tO h 39 n.toNatClampNeg = some r ∧ 182 ≤ r ∧ w = some (.ref r)) ∨ (¬ (0 ≤ n.toInt ∧ n.toInt < (tvI (tF h 36 4)).toInt) ∧ w = some .null)) ∧ h2 = h) := by
  refine (f_carAt hG hs).mono ?_
  rintro w h2 ⟨⟨c, rfl⟩ | ⟨c, rfl⟩, rfl⟩
  · have hi : ((n.toNatClampNeg : Nat) : Int) < (tvI (tF h2 36 4)).toInt := by rw [zclE]; omega
    obtain ⟨r, hr⟩ := hL.1 _ hi
    exact ⟨Or.inl ⟨r, ⟨c, hi⟩, hr, hg _ r hi hr, by rw [hr]; rfl⟩, rfl⟩
  · exact ⟨Or.inr ⟨c, rfl⟩, rfl⟩
theorem f_isSpeed {G : zG} (hG : G.1 = zProg) {h : zH} {n : Int32} : tC zTt G 162 [.int n] h (fun w h2 => tBo (0 ≤ n.toInt ∧ n.toInt ≤ 200) w ∧ h2 = h) := by
  refine tC_in (by rw [hG]; rfl) (fun dp => ?_)
  refine tw_iload rfl rfl ?_
  refine tw_push rfl ?_
  refine tw_push rfl ?_
  refine tw_stat3 rfl (f_isWithin hG (LO := 0) (HI := 200) (by decide) (by decide)) (fun w9 h9 p170 => ?_)
  obtain ⟨⟨p170, rfl⟩ | ⟨p170, rfl⟩, rfl⟩ := p170
  · try dsimp only [tvI_i, tvJ_j, tvR_r] at p170
    exact tw_iret rfl ⟨Or.inl ⟨p170, rfl⟩, rfl⟩
  · try dsimp only [tvI_i, tvJ_j, tvR_r] at p170
    exact tw_iret rfl ⟨Or.inr ⟨p170, rfl⟩, rfl⟩
theorem f_cfull {G : zG} (hG : G.1 = zProg) {h : zH} (hs : tSh h) {n : Int32} (hn : tF h 63 8 = .int n) : tC zTt G 7 [.ref 63] h (fun w h2 => tBo (n.toInt = 200) w ∧ h2 = h) := by
  refine tC_in (by rw [hG]; rfl) (fun dp => ?_)
  have hn0 := congrArg (fun z => (tvI z).toInt) hn
  have hn1 : (tvI (tF h 63 8)).toInt = n.toInt := hn0
  refine tw_aload rfl rfl ?_
  refine tw_getS rfl (hi_63_8 hs) ?_
  refine tw_push rfl ?_
  refine tw_ic_ne rfl (fun q171 => ?_) (fun q171 => ?_)
  · try dsimp only [tvI_i, tvJ_j, tvR_r] at q171
    have q171i := zneq (Y := 200) (by decide) q171
    refine tw_push rfl ?_
    exact tw_iret rfl ⟨Or.inr ⟨by omega, rfl⟩, rfl⟩
  · try dsimp only [tvI_i, tvJ_j, tvR_r] at q171
    have q171i := zeqi (Y := 200) (by decide) q171
    refine tw_push rfl ?_
    refine tw_goto rfl ?_
    exact tw_iret rfl ⟨Or.inl ⟨by omega, rfl⟩, rfl⟩
theorem tSh_ex {h h2 : zH} {p0 b0 : Nat} {x : Int32} (hn : tSr.all (fun q => !(Nat.beq q.1 p0 && Nat.beq q.2.1 b0)) = true) (k : tSh h) (e1 : tF h2 p0 b0 = .int x) (e2 : ∀ p b, ¬ (p = p0 ∧ b = b0) → tF h2 p b = tF h p b) : tSh h2 := by
  refine ⟨fun q hq => ?_, fun q hq => ?_⟩
  · rw [e2]
    · exact k.1 q hq
    · rintro ⟨z1, z2⟩
      have := List.all_eq_true.mp hn q hq
      rw [z1, z2] at this
      simp at this
  · by_cases e : q.1 = p0 ∧ q.2 = b0
    · rw [e.1, e.2, e1]; rfl
    · rw [e2 _ _ e]; exact k.2 q hq
theorem f_addCrash {G : zG} (hG : G.1 = zProg) {h : zH} {c k m t n : Int32} (hs : tSh h) (hn : tF h 63 8 = .int n) (hf : ¬ n.toInt = 200) : tC zTt G 8 [.ref 63, .int c, .int k, .int m, .int t] h (fun w h2 => w = some (.int n) ∧ tF h2 63 8 = .int (n + 1) ∧ (∀ p b, ¬ (p = 63 ∧ b = 8) → tF h2 p b = tF h p b) ∧ tO h2 = tO h ∧ tA h2 64 = (fun j => if j = n.toNatClampNeg then c else tA h 64 j) ∧ tA h2 67 = (fun j => if j = n.toNatClampNeg then t else tA h 67 j) ∧ tA h2 70 = tA h 70 ∧ tA h2 71 = tA h 71 ∧ tA h2 65 = (fun j => if j = n.toNatClampNeg then k else tA h 65 j)) := by
  refine tC_in (by rw [hG]; rfl) (fun dp => ?_)
  have hnx : tvI (tF h 63 8) = n := by rw [hn]; rfl
  refine tw_aload rfl rfl ?_
  refine tw_virt0 rfl (f_cfull hG hs (hi_63_8 hs)) (fun w9 h9 p172 => ?_)
  obtain ⟨⟨p172, rfl⟩ | ⟨p172, rfl⟩, rfl⟩ := p172
  · try dsimp only [tvI_i, tvJ_j, tvR_r] at p172
    refine tw_if_eq rfl (fun z => absurd z (by decide)) (fun _ => ?_)
    refine tw_push rfl ?_
    rw [hnx] at p172
    exact absurd p172 hf
  · try dsimp only [tvI_i, tvJ_j, tvR_r] at p172
    refine tw_if_eq rfl (fun _ => ?_) (fun z => absurd z (by decide))
    refine tw_aload rfl rfl ?_
    refine tw_getS rfl (hs_63_0 hs) ?_
    refine tw_aload rfl rfl ?_
    refine tw_getS rfl (hi_63_8 hs) ?_
    refine tw_iload rfl rfl ?_
    refine tw_iast rfl (fun f173 => ?_)
    refine tw_aload rfl rfl ?_
    refine tw_getS rfl (hs_63_1 (tSh_SA hs)) ?_
    refine tw_aload rfl rfl ?_
    refine tw_getS rfl (tF_a (hi_63_8 hs)) ?_
    refine tw_iload rfl rfl ?_
    refine tw_iast rfl (fun f174 => ?_)
    refine tw_aload rfl rfl ?_
    refine tw_getS rfl (hs_63_2 (tSh_SA (tSh_SA hs))) ?_
    refine tw_aload rfl rfl ?_
    refine tw_getS rfl (tF_a (tF_a (hi_63_8 hs))) ?_
    refine tw_iload rfl rfl ?_
    refine tw_iast rfl (fun f175 => ?_)
    refine tw_aload rfl rfl ?_
    refine tw_getS rfl (hs_63_3 (tSh_SA (tSh_SA (tSh_SA hs)))) ?_
    refine tw_aload rfl rfl ?_
    refine tw_getS rfl (tF_a (tF_a (tF_a (hi_63_8 hs)))) ?_
    refine tw_iload rfl rfl ?_
    refine tw_iast rfl (fun f176 => ?_)
    refine tw_aload rfl rfl ?_
    refine tw_dup rfl ?_
    refine tw_getS rfl (tF_a (tF_a (tF_a (tF_a (hi_63_8 hs))))) ?_
    refine tw_dup_x1 rfl ?_
    refine tw_push rfl ?_
    refine tw_iadd rfl ?_
    refine tw_put rfl (fun f177 => ?_)
    exact tw_iret rfl ⟨congrArg some (congrArg Value.int hnx), (tF_same f177).trans (by rw [hnx] <;> rfl), fun p b n1 => (tF_ne n1 (tF_a (tF_a (tF_a (tF_a rfl))))), by rw [tO_tSF, tO_tSA, tO_tSA, tO_tSA, tO_tSA], (tA_ff (tA_n (by decide) (tA_n (by decide) (tA_n (by decide) (tA_st f173 rfl))))).trans (by rw [hnx] <;> rfl), (tA_ff (tA_st f176 (tA_n (by decide) (tA_n (by decide) (tA_n (by decide) rfl))))).trans (by rw [hnx] <;> rfl), (tA_ff (tA_n (by decide) (tA_n (by decide) (tA_n (by decide) (tA_n (by decide) rfl))))), (tA_ff (tA_n (by decide) (tA_n (by decide) (tA_n (by decide) (tA_n (by decide) rfl))))), (tA_ff (tA_n (by decide) (tA_n (by decide) (tA_st f174 (tA_n (by decide) rfl))))).trans (by rw [hnx] <;> rfl)⟩
theorem f_hasCrash {G : zG} (hG : G.1 = zProg) {h : zH} {n : Int32} (hs : tSh h) : tC zTt G 6 [.ref 63, .int n] h (fun w h2 => tBo (0 ≤ n.toInt ∧ n.toInt < (tvI (tF h 63 8)).toInt) w ∧ h2 = h) := by
  refine tC_in (by rw [hG]; rfl) (fun dp => ?_)
  refine tw_iload rfl rfl ?_
  refine tw_if_lt rfl (fun q178 => ?_) (fun q178 => ?_)
  · try dsimp only [tvI_i, tvJ_j, tvR_r] at q178
    refine tw_push rfl ?_
    exact tw_iret rfl ⟨Or.inr ⟨by omega, rfl⟩, rfl⟩
  · try dsimp only [tvI_i, tvJ_j, tvR_r] at q178
    refine tw_iload rfl rfl ?_
    refine tw_aload rfl rfl ?_
    refine tw_getS rfl (hi_63_8 hs) ?_
    refine tw_ic_ge rfl (fun q179 => ?_) (fun q179 => ?_)
    · try dsimp only [tvI_i, tvJ_j, tvR_r] at q179
      refine tw_push rfl ?_
      exact tw_iret rfl ⟨Or.inr ⟨by omega, rfl⟩, rfl⟩
    · try dsimp only [tvI_i, tvJ_j, tvR_r] at q179
      refine tw_push rfl ?_
      refine tw_goto rfl ?_
      exact tw_iret rfl ⟨Or.inl ⟨by omega, rfl⟩, rfl⟩
theorem f_tellOf {G : zG} (hG : G.1 = zProg) {h : zH} {x s v d u n : Int32} (bu : 0 ≤ u.toInt ∧ u.toInt ≤ 1) (hs : tSh h) (hn : tF h 63 8 = .int n) (h0 : 0 ≤ x.toInt ∧ x.toInt < n.toInt) : tC zTt G 9 [.ref 63, .int x, .int s, .int v, .int d, .int u] h (fun w h2 => w = none ∧ tF h2 = tF h ∧ tO h2 = tO h ∧ tA h2 64 = tA h 64 ∧ tA h2 67 = tA h 67 ∧ tA h2 70 = (fun j => if j = x.toNatClampNeg then d else tA h 70 j) ∧ tA h2 71 = (fun j => if j = x.toNatClampNeg then u else tA h 71 j) ∧ tA h2 65 = tA h 65) := by
  refine tC_in (by rw [hG]; rfl) (fun dp => ?_)
  have hnx : (tvI (tF h 63 8)).toInt = n.toInt := by rw [hn]; rfl
  refine tw_aload rfl rfl ?_
  refine tw_iload rfl rfl ?_
  refine tw_virt1 rfl (f_hasCrash hG hs) (fun w9 h9 p180 => ?_)
  obtain ⟨⟨p180, rfl⟩ | ⟨p180, rfl⟩, rfl⟩ := p180
  · try dsimp only [tvI_i, tvJ_j, tvR_r] at p180
    refine tw_if_ne rfl (fun _ => ?_) (fun z => absurd z (by decide))
    refine tw_aload rfl rfl ?_
    refine tw_getS rfl (hs_63_4 hs) ?_
    refine tw_iload rfl rfl ?_
    refine tw_iload rfl rfl ?_
    refine tw_iast rfl (fun f181 => ?_)
    refine tw_aload rfl rfl ?_
    refine tw_getS rfl (hs_63_5 (tSh_SA hs)) ?_
    refine tw_iload rfl rfl ?_
    refine tw_iload rfl rfl ?_
    refine tw_iast rfl (fun f182 => ?_)
    refine tw_aload rfl rfl ?_
    refine tw_getS rfl (hs_63_6 (tSh_SA (tSh_SA hs))) ?_
    refine tw_iload rfl rfl ?_
    refine tw_iload rfl rfl ?_
    refine tw_iast rfl (fun f183 => ?_)
    refine tw_aload rfl rfl ?_
    refine tw_getS rfl (hs_63_7 (tSh_SA (tSh_SA (tSh_SA hs)))) ?_
    refine tw_iload rfl rfl ?_
    refine tw_iload rfl rfl ?_
    refine tw_bastZ bu rfl (fun kf184 f184 => ?_)
    exact tw_vret rfl ⟨rfl, by rw [tF_tSA, tF_tSA, tF_tSA, tF_tSA], by rw [tO_tSA, tO_tSA, tO_tSA, tO_tSA], (tA_n (by decide) (tA_n (by decide) (tA_n (by decide) (tA_n (by decide) rfl)))), (tA_n (by decide) (tA_n (by decide) (tA_n (by decide) (tA_n (by decide) rfl)))), (tA_n (by decide) (tA_st f183 (tA_n (by decide) (tA_n (by decide) rfl)))), (tA_st f184 (tA_n (by decide) (tA_n (by decide) (tA_n (by decide) rfl)))), (tA_n (by decide) (tA_n (by decide) (tA_n (by decide) (tA_n (by decide) rfl))))⟩
  · try dsimp only [tvI_i, tvJ_j, tvR_r] at p180
    refine tw_if_ne rfl (fun z => absurd z (by decide)) (fun _ => ?_)
    exact (p180 ⟨by omega, by omega⟩).elim
noncomputable def ph_crc (c m s v d u y : Int32) (h : zH) (w : Option Value) (h2 : zH) : Prop := (((0 ≤ c.toInt ∧ c.toInt < (tvI (tF h 36 4)).toInt) ∧ (tA h 120 c.toNatClampNeg).toInt = 0 ∧ ((tA h 127 c.toNatClampNeg).toInt ≤ m.toInt ∧ m.toInt ≤ (tvI (tF h 0 14)).toInt) ∧ (0 ≤ s.toInt ∧ s.toInt ≤ 2) ∧ (0 ≤ v.toInt ∧ v.toInt ≤ 200) ∧ (0 ≤ d.toInt ∧ d.toInt ≤ 9) ∧ (tvI (tF h 63 8)).toInt ≠ 200) ∧ w = some (tF h 63 8) ∧ ∃ r, tO h 39 c.toNatClampNeg = some r ∧ tF h2 63 8 = .int (tvI (tF h 63 8) + 1) ∧ tF h2 r 6 = .int m ∧ tF h2 r 7 = .int y ∧ (∀ p b, ¬ (p = 63 ∧ b = 8) → ¬ (p = r ∧ (b = 6 ∨ b = 7)) → tF h2 p b = tF h p b) ∧ tO h2 = tO h ∧ tA h2 64 = (fun j => if j = (tvI (tF h 63 8)).toNatClampNeg then c else tA h 64 j) ∧ tA h2 67 = (fun j => if j = (tvI (tF h 63 8)).toNatClampNeg then tvI (tF h 0 14) else tA h 67 j) ∧ tA h2 70 = (fun j => if j = (tvI (tF h 63 8)).toNatClampNeg then d else tA h 70 j) ∧ tA h2 71 = (fun j => if j = (tvI (tF h 63 8)).toNatClampNeg then u else tA h 71 j) ∧ tA h2 65 = (fun j => if j = (tvI (tF h 63 8)).toNatClampNeg then tA h 121 c.toNatClampNeg else tA h 65 j)) ∨ (¬ ((0 ≤ c.toInt ∧ c.toInt < (tvI (tF h 36 4)).toInt) ∧ (tA h 120 c.toNatClampNeg).toInt = 0 ∧ ((tA h 127 c.toNatClampNeg).toInt ≤ m.toInt ∧ m.toInt ≤ (tvI (tF h 0 14)).toInt) ∧ (0 ≤ s.toInt ∧ s.toInt ≤ 2) ∧ (0 ≤ v.toInt ∧ v.toInt ≤ 200) ∧ (0 ≤ d.toInt ∧ d.toInt ≤ 9) ∧ (tvI (tF h 63 8)).toInt ≠ 200) ∧ w = some (.int (-1)) ∧ h2 = h)
theorem zinc1 {x : Int32} (h : 0 ≤ x.toInt ∧ x.toInt ≤ 200) : (x + 1).toInt = x.toInt + 1 := by
  rw [Int32.toInt_add]
  exact Int.bmod_eq_of_le (by show (-2147483648 : Int) ≤ x.toInt + 1; omega) (by show x.toInt + 1 < (2147483648 : Int); omega)
theorem f_crash {G : zG} (hG : G.1 = zProg) {h : zH} {c m s v d u y : Int32} (bu : 0 ≤ u.toInt ∧ u.toInt ≤ 1) (bw : 0 ≤ y.toInt ∧ y.toInt ≤ 1) (hs : tSh h) (hL : R_cl h) (hg : ∀ i r : Nat, (i : Int) < (tvI (tF h 36 4)).toInt → tO h 39 i = some r → 182 ≤ r) (hR6 : R_ccr h) (hR7 : R_cwr h) (hR0 : R_ckind h) (hn0 : 0 ≤ (tvI (tF h 63 8)).toInt ∧ (tvI (tF h 63 8)).toInt ≤ 200) : tC zTt G 133 [.ref 0, .int c, .int m, .int s, .int v, .int d, .int u, .int y] h (ph_crc c m s v d u y h) := by
  refine tC_in (by rw [hG]; rfl) (fun dp => ?_)
  refine tw_aload rfl rfl ?_
  refine tw_getS rfl (hs_0_1 hs) ?_
  refine tw_iload rfl rfl ?_
  refine tw_virt1 rfl (f_carAtR hG hs hL hg) (fun w9 h9 p185 => ?_)
  obtain ⟨⟨rp185, p185, p185r, p185g, rfl⟩ | ⟨p185, rfl⟩, rfl⟩ := p185
  · refine tw_astore rfl ?_
    refine tw_aload rfl rfl ?_
    refine tw_ifnull rfl (fun z => by cases z) (fun _ _ => ?_)
    refine tw_aload rfl rfl ?_
    refine tw_getS rfl (hR7 _ _ p185.2 p185r) ?_
    refine tw_if_ne rfl (fun q188 => ?_) (fun q188 => ?_)
    · try dsimp only [tvI_i, tvJ_j, tvR_r] at q188
      have q188i := zneq (Y := 0) (by decide) q188
      refine tw_push rfl ?_
      exact tw_iret rfl (Or.inr ⟨by omega, rfl, rfl⟩)
    · try dsimp only [tvI_i, tvJ_j, tvR_r] at q188
      have q188i := zeqi (Y := 0) (by decide) q188
      refine tw_iload rfl rfl ?_
      refine tw_aload rfl rfl ?_
      refine tw_getS rfl (hR6 _ _ p185.2 p185r) ?_
      refine tw_aload rfl rfl ?_
      refine tw_getS rfl (hi_0_14 hs) ?_
      refine tw_stat3 rfl (f_isWithin hG   rfl rfl) (fun w9 h9 p189 => ?_)
      obtain ⟨⟨p189, rfl⟩ | ⟨p189, rfl⟩, rfl⟩ := p189
      · try dsimp only [tvI_i, tvJ_j, tvR_r] at p189
        refine tw_if_ne rfl (fun _ => ?_) (fun z => absurd z (by decide))
        refine tw_iload rfl rfl ?_
        refine tw_stat1 rfl (f_isSort hG) (fun w9 h9 p190 => ?_)
        obtain ⟨⟨p190, rfl⟩ | ⟨p190, rfl⟩, rfl⟩ := p190
        · try dsimp only [tvI_i, tvJ_j, tvR_r] at p190
          refine tw_if_eq rfl (fun z => absurd z (by decide)) (fun _ => ?_)
          refine tw_iload rfl rfl ?_
          refine tw_stat1 rfl (f_isSpeed hG) (fun w9 h9 p191 => ?_)
          obtain ⟨⟨p191, rfl⟩ | ⟨p191, rfl⟩, rfl⟩ := p191
          · try dsimp only [tvI_i, tvJ_j, tvR_r] at p191
            refine tw_if_eq rfl (fun z => absurd z (by decide)) (fun _ => ?_)
            refine tw_iload rfl rfl ?_
            refine tw_push rfl ?_
            refine tw_push rfl ?_
            refine tw_stat3 rfl (f_isWithin hG (LO := 0) (HI := 9) (by decide) (by decide)) (fun w9 h9 p192 => ?_)
            obtain ⟨⟨p192, rfl⟩ | ⟨p192, rfl⟩, rfl⟩ := p192
            · try dsimp only [tvI_i, tvJ_j, tvR_r] at p192
              refine tw_if_eq rfl (fun z => absurd z (by decide)) (fun _ => ?_)
              refine tw_aload rfl rfl ?_
              refine tw_getS rfl (hs_0_5 hs) ?_
              refine tw_virt0 rfl (f_cfull hG hs (hi_63_8 hs)) (fun w9 h9 p193 => ?_)
              obtain ⟨⟨p193, rfl⟩ | ⟨p193, rfl⟩, rfl⟩ := p193
              · try dsimp only [tvI_i, tvJ_j, tvR_r] at p193
                refine tw_if_eq rfl (fun z => absurd z (by decide)) (fun _ => ?_)
                refine tw_push rfl ?_
                exact tw_iret rfl (Or.inr ⟨by omega, rfl, rfl⟩)
              · try dsimp only [tvI_i, tvJ_j, tvR_r] at p193
                refine tw_if_eq rfl (fun _ => ?_) (fun z => absurd z (by decide))
                refine tw_aload rfl rfl ?_
                refine tw_iload rfl rfl ?_
                refine tw_put rfl (fun f194 => ?_)
                refine tw_aload rfl rfl ?_
                refine tw_iload rfl rfl ?_
                refine tw_put rfl (fun f195 => ?_)
                refine tw_aload rfl rfl ?_
                refine tw_getS rfl (hs_0_5 (tSh_SFr (by omega) (tSh_SFr (by omega) hs))) ?_
                refine tw_iload rfl rfl ?_
                refine tw_aload rfl rfl ?_
                refine tw_getS rfl (tF_ne (by omega) (tF_ne (by omega) (hR0 _ _ p185.2 p185r))) ?_
                refine tw_iload rfl rfl ?_
                refine tw_aload rfl rfl ?_
                refine tw_getS rfl (tF_ne (by omega) (tF_ne (by omega) (hi_0_14 hs))) ?_
                refine tw_virt4 rfl (f_addCrash hG (tSh_SFr (by omega) (tSh_SFr (by omega) hs)) (tF_ne (by omega) (tF_ne (by omega) (hi_63_8 hs))) (by omega)) (fun wp196 hp196 p196 => ?_)
                obtain ⟨rfl, p196e, p196f, p196o, p196a64, p196a67, p196a70, p196a71, p196a65⟩ := p196
                refine tw_istore rfl ?_
                refine tw_aload rfl rfl ?_
                refine tw_getS rfl (hs_0_5 (tSh_ex (by decide +kernel) (tSh_SFr (by omega) (tSh_SFr (by omega) hs)) p196e p196f)) ?_
                refine tw_iload rfl rfl ?_
                refine tw_iload rfl rfl ?_
                refine tw_iload rfl rfl ?_
                refine tw_iload rfl rfl ?_
                refine tw_iload rfl rfl ?_
                refine tw_virt5 rfl (f_tellOf hG bu (tSh_ex (by decide +kernel) (tSh_SFr (by omega) (tSh_SFr (by omega) hs)) p196e p196f) p196e ⟨hn0.1, (by rw [zinc1 hn0]; exact Int.lt_succ _)⟩) (fun wp197 hp197 p197 => ?_)
                obtain ⟨rfl, p197e, p197o, p197a64, p197a67, p197a70, p197a71, p197a65⟩ := p197
                refine tw_iload rfl rfl ?_
                have e63 := hi_63_8 hs
                refine tw_iret rfl (Or.inl ⟨by omega, congrArg some e63.symm, rp185, p185r, ?_, ?_, ?_, fun p b n1 n2 => ?_, ?_, ?_, ?_, ?_, ?_, ?_⟩)
                · rw [p197e, p196e]
                · rw [p197e, p196f _ _ (by omega)]; exact tF_ne (by omega) (tF_same f194)
                · rw [p197e, p196f _ _ (by omega)]; exact tF_same f195
                · rw [p197e, p196f _ _ n1]; exact (tF_ne (fun z => n2 ⟨z.1, Or.inr z.2⟩) (tF_ne (fun z => n2 ⟨z.1, Or.inl z.2⟩) rfl))
                · rw [p197o, p196o, tO_tSF, tO_tSF]
                · rw [p197a64, p196a64, tA_tSF, tA_tSF]
                · rw [p197a67, p196a67, tA_tSF, tA_tSF]
                · rw [p197a70, p196a70, tA_tSF, tA_tSF] <;> rfl
                · rw [p197a71, p196a71, tA_tSF, tA_tSF] <;> rfl
                · rw [p197a65, p196a65, tA_tSF, tA_tSF]
            · try dsimp only [tvI_i, tvJ_j, tvR_r] at p192
              refine tw_if_eq rfl (fun _ => ?_) (fun z => absurd z (by decide))
              refine tw_push rfl ?_
              exact tw_iret rfl (Or.inr ⟨by omega, rfl, rfl⟩)
          · try dsimp only [tvI_i, tvJ_j, tvR_r] at p191
            refine tw_if_eq rfl (fun _ => ?_) (fun z => absurd z (by decide))
            refine tw_push rfl ?_
            exact tw_iret rfl (Or.inr ⟨by omega, rfl, rfl⟩)
        · try dsimp only [tvI_i, tvJ_j, tvR_r] at p190
          refine tw_if_eq rfl (fun _ => ?_) (fun z => absurd z (by decide))
          refine tw_push rfl ?_
          exact tw_iret rfl (Or.inr ⟨by omega, rfl, rfl⟩)
      · try dsimp only [tvI_i, tvJ_j, tvR_r] at p189
        refine tw_if_ne rfl (fun z => absurd z (by decide)) (fun _ => ?_)
        refine tw_push rfl ?_
        exact tw_iret rfl (Or.inr ⟨by omega, rfl, rfl⟩)
  · refine tw_astoreN rfl ?_
    refine tw_aload rfl rfl ?_
    refine tw_ifnull rfl (fun _ => ?_) (fun _ z => by cases z)
    refine tw_push rfl ?_
    exact tw_iret rfl (Or.inr ⟨by omega, rfl, rfl⟩)
theorem g_isCar {G : zG} (hG : G.1 = zProg) {h : zH} {n : Int32} (hs : tSh h) (hk : 0 ≤ (tvI (tF h 111 5)).toInt) : tC zTt G 178 [.ref 111, .int n] h (fun w h2 => tBo (0 ≤ n.toInt ∧ n.toInt < (tvI (tF h 111 5)).toInt) w ∧ h2 = h) := by
  refine tC_in (by rw [hG]; rfl) (fun dp => ?_)
  refine tw_iload rfl rfl ?_
  refine tw_i2l rfl ?_
  refine tw_push rfl ?_
  refine tw_aload rfl rfl ?_
  refine tw_getS rfl (hi_111_5 hs) ?_
  refine tw_push rfl ?_
  refine tw_isub rfl ?_
  refine tw_i2l rfl ?_
  refine tw_stat3 rfl (f_in hG  (LO := 0)  (Int32.toInt_toInt64 _) (by decide) (Int32.toInt_toInt64 _)) (fun w9 h9 p200 => ?_)
  obtain ⟨⟨p200, rfl⟩ | ⟨p200, rfl⟩, rfl⟩ := p200
  · try dsimp only [tvI_i, tvJ_j, tvR_r] at p200
    exact tw_iret rfl ⟨Or.inl ⟨by have e := zsub1 hk; have := p200; omega, rfl⟩, rfl⟩
  · try dsimp only [tvI_i, tvJ_j, tvR_r] at p200
    exact tw_iret rfl ⟨Or.inr ⟨by have e := zsub1 hk; have := p200; omega, rfl⟩, rfl⟩
noncomputable def ph_crm (c m s v d u y : Int32) (h : zH) (w : Option Value) (h2 : zH) : Prop := (((0 ≤ c.toInt ∧ c.toInt < (tvI (tF h 111 5)).toInt) ∧ (tA h 120 c.toNatClampNeg).toInt = 0 ∧ ((tA h 127 c.toNatClampNeg).toInt ≤ m.toInt ∧ m.toInt ≤ (tvI (tF h 111 1)).toInt) ∧ (0 ≤ s.toInt ∧ s.toInt ≤ 2) ∧ (0 ≤ v.toInt ∧ v.toInt ≤ 200) ∧ (0 ≤ d.toInt ∧ d.toInt ≤ 9) ∧ (tvI (tF h 111 59)).toInt ≠ 200) ∧ w = some (tF h 111 59) ∧ tF h2 111 59 = .int (tvI (tF h 111 59) + 1) ∧ tA h2 127 = (fun j => if j = c.toNatClampNeg then m else tA h 127 j) ∧ tA h2 120 = (fun j => if j = c.toNatClampNeg then y else tA h 120 j) ∧ tA h2 152 = (fun j => if j = (tvI (tF h 111 59)).toNatClampNeg then c else tA h 152 j) ∧ tA h2 157 = (fun j => if j = (tvI (tF h 111 59)).toNatClampNeg then tvI (tF h 111 1) else tA h 157 j) ∧ tA h2 156 = (fun j => if j = (tvI (tF h 111 59)).toNatClampNeg then d else tA h 156 j) ∧ tA h2 158 = (fun j => if j = (tvI (tF h 111 59)).toNatClampNeg then u else tA h 158 j)) ∨ (¬ ((0 ≤ c.toInt ∧ c.toInt < (tvI (tF h 111 5)).toInt) ∧ (tA h 120 c.toNatClampNeg).toInt = 0 ∧ ((tA h 127 c.toNatClampNeg).toInt ≤ m.toInt ∧ m.toInt ≤ (tvI (tF h 111 1)).toInt) ∧ (0 ≤ s.toInt ∧ s.toInt ≤ 2) ∧ (0 ≤ v.toInt ∧ v.toInt ≤ 200) ∧ (0 ≤ d.toInt ∧ d.toInt ≤ 9) ∧ (tvI (tF h 111 59)).toInt ≠ 200) ∧ w = some (.int (-1)) ∧ h2 = h)
theorem g_crash {G : zG} (hG : G.1 = zProg) {h : zH} {c m s v d u y : Int32} (bu : 0 ≤ u.toInt ∧ u.toInt ≤ 1) (bw : 0 ≤ y.toInt ∧ y.toInt ≤ 1) (hs : tSh h) (hk5 : 0 ≤ (tvI (tF h 111 5)).toInt) : tC zTt G 244 [.ref 111, .int c, .int m, .int s, .int v, .int d, .int u, .int y] h (ph_crm c m s v d u y h) := by
  refine tC_in (by rw [hG]; rfl) (fun dp => ?_)
  refine tw_aload rfl rfl ?_
  refine tw_getS rfl (hi_111_59 hs) ?_
  refine tw_push rfl ?_
  refine tw_ic_eq rfl (fun q201 => ?_) (fun q201 => ?_)
  · try dsimp only [tvI_i, tvJ_j, tvR_r] at q201
    have q201i := zeqi (Y := 200) (by decide) q201
    refine tw_push rfl ?_
    exact tw_iret rfl (Or.inr ⟨by omega, rfl, rfl⟩)
  · try dsimp only [tvI_i, tvJ_j, tvR_r] at q201
    have q201i := zneq (Y := 200) (by decide) q201
    refine tw_aload rfl rfl ?_
    refine tw_iload rfl rfl ?_
    refine tw_virt1 rfl (g_isCar hG hs hk5) (fun w9 h9 p202 => ?_)
    obtain ⟨⟨p202, rfl⟩ | ⟨p202, rfl⟩, rfl⟩ := p202
    · try dsimp only [tvI_i, tvJ_j, tvR_r] at p202
      refine tw_if_eq rfl (fun z => absurd z (by decide)) (fun _ => ?_)
      refine tw_aload rfl rfl ?_
      refine tw_getS rfl (hs_111_15 hs) ?_
      refine tw_iload rfl rfl ?_
      refine tw_bald rfl (fun f203 => ?_)
      refine tw_if_ne rfl (fun q204 => ?_) (fun q204 => ?_)
      · try dsimp only [tvI_i, tvJ_j, tvR_r] at q204
        have q204i := zneq (Y := 0) (by decide) q204
        refine tw_push rfl ?_
        exact tw_iret rfl (Or.inr ⟨by omega, rfl, rfl⟩)
      · try dsimp only [tvI_i, tvJ_j, tvR_r] at q204
        have q204i := zeqi (Y := 0) (by decide) q204
        refine tw_iload rfl rfl ?_
        refine tw_i2l rfl ?_
        refine tw_aload rfl rfl ?_
        refine tw_getS rfl (hs_111_22 hs) ?_
        refine tw_iload rfl rfl ?_
        refine tw_iald rfl (fun f205 => ?_)
        refine tw_i2l rfl ?_
        refine tw_aload rfl rfl ?_
        refine tw_getS rfl (hi_111_1 hs) ?_
        refine tw_i2l rfl ?_
        refine tw_stat3 rfl (f_in hG    (Int32.toInt_toInt64 _) (Int32.toInt_toInt64 _) (Int32.toInt_toInt64 _)) (fun w9 h9 p206 => ?_)
        obtain ⟨⟨p206, rfl⟩ | ⟨p206, rfl⟩, rfl⟩ := p206
        · try dsimp only [tvI_i, tvJ_j, tvR_r] at p206
          refine tw_if_eq rfl (fun z => absurd z (by decide)) (fun _ => ?_)
          refine tw_iload rfl rfl ?_
          refine tw_stat1 rfl (g_isSort hG) (fun w9 h9 p207 => ?_)
          obtain ⟨⟨p207, rfl⟩ | ⟨p207, rfl⟩, rfl⟩ := p207
          · try dsimp only [tvI_i, tvJ_j, tvR_r] at p207
            refine tw_if_eq rfl (fun z => absurd z (by decide)) (fun _ => ?_)
            refine tw_iload rfl rfl ?_
            refine tw_i2l rfl ?_
            refine tw_push rfl ?_
            refine tw_push rfl ?_
            refine tw_stat3 rfl (f_in hG  (LO := 0) (HI := 200) (Int32.toInt_toInt64 _) (by decide) (by decide)) (fun w9 h9 p208 => ?_)
            obtain ⟨⟨p208, rfl⟩ | ⟨p208, rfl⟩, rfl⟩ := p208
            · try dsimp only [tvI_i, tvJ_j, tvR_r] at p208
              refine tw_if_eq rfl (fun z => absurd z (by decide)) (fun _ => ?_)
              refine tw_iload rfl rfl ?_
              refine tw_i2l rfl ?_
              refine tw_push rfl ?_
              refine tw_push rfl ?_
              refine tw_stat3 rfl (f_in hG  (LO := 0) (HI := 9) (Int32.toInt_toInt64 _) (by decide) (by decide)) (fun w9 h9 p209 => ?_)
              obtain ⟨⟨p209, rfl⟩ | ⟨p209, rfl⟩, rfl⟩ := p209
              · try dsimp only [tvI_i, tvJ_j, tvR_r] at p209
                refine tw_if_ne rfl (fun _ => ?_) (fun z => absurd z (by decide))
                refine tw_aload rfl rfl ?_
                refine tw_getS rfl (hs_111_60 hs) ?_
                refine tw_aload rfl rfl ?_
                refine tw_getS rfl (hi_111_59 hs) ?_
                refine tw_iload rfl rfl ?_
                refine tw_iast rfl (fun f210 => ?_)
                refine tw_aload rfl rfl ?_
                refine tw_getS rfl (hs_111_61 (tSh_SA hs)) ?_
                refine tw_aload rfl rfl ?_
                refine tw_getS rfl (tF_a (hi_111_59 hs)) ?_
                refine tw_iload rfl rfl ?_
                refine tw_iast rfl (fun f211 => ?_)
                refine tw_aload rfl rfl ?_
                refine tw_getS rfl (hs_111_62 (tSh_SA (tSh_SA hs))) ?_
                refine tw_aload rfl rfl ?_
                refine tw_getS rfl (tF_a (tF_a (hi_111_59 hs))) ?_
                refine tw_iload rfl rfl ?_
                refine tw_iast rfl (fun f212 => ?_)
                refine tw_aload rfl rfl ?_
                refine tw_getS rfl (hs_111_63 (tSh_SA (tSh_SA (tSh_SA hs)))) ?_
                refine tw_aload rfl rfl ?_
                refine tw_getS rfl (tF_a (tF_a (tF_a (hi_111_59 hs)))) ?_
                refine tw_iload rfl rfl ?_
                refine tw_iast rfl (fun f213 => ?_)
                refine tw_aload rfl rfl ?_
                refine tw_getS rfl (hs_111_64 (tSh_SA (tSh_SA (tSh_SA (tSh_SA hs))))) ?_
                refine tw_aload rfl rfl ?_
                refine tw_getS rfl (tF_a (tF_a (tF_a (tF_a (hi_111_59 hs))))) ?_
                refine tw_iload rfl rfl ?_
                refine tw_iast rfl (fun f214 => ?_)
                refine tw_aload rfl rfl ?_
                refine tw_getS rfl (hs_111_65 (tSh_SA (tSh_SA (tSh_SA (tSh_SA (tSh_SA hs)))))) ?_
                refine tw_aload rfl rfl ?_
                refine tw_getS rfl (tF_a (tF_a (tF_a (tF_a (tF_a (hi_111_59 hs)))))) ?_
                refine tw_aload rfl rfl ?_
                refine tw_getS rfl (tF_a (tF_a (tF_a (tF_a (tF_a (hi_111_1 hs)))))) ?_
                refine tw_iast rfl (fun f215 => ?_)
                refine tw_aload rfl rfl ?_
                refine tw_getS rfl (hs_111_66 (tSh_SA (tSh_SA (tSh_SA (tSh_SA (tSh_SA (tSh_SA hs))))))) ?_
                refine tw_aload rfl rfl ?_
                refine tw_getS rfl (tF_a (tF_a (tF_a (tF_a (tF_a (tF_a (hi_111_59 hs))))))) ?_
                refine tw_iload rfl rfl ?_
                refine tw_bastZ bu rfl (fun kf216 f216 => ?_)
                refine tw_aload rfl rfl ?_
                refine tw_getS rfl (hs_111_22 (tSh_SA (tSh_SA (tSh_SA (tSh_SA (tSh_SA (tSh_SA (tSh_SA hs)))))))) ?_
                refine tw_iload rfl rfl ?_
                refine tw_iload rfl rfl ?_
                refine tw_iast rfl (fun f217 => ?_)
                refine tw_aload rfl rfl ?_
                refine tw_getS rfl (hs_111_15 (tSh_SA (tSh_SA (tSh_SA (tSh_SA (tSh_SA (tSh_SA (tSh_SA (tSh_SA hs))))))))) ?_
                refine tw_iload rfl rfl ?_
                refine tw_iload rfl rfl ?_
                refine tw_bastZ bw rfl (fun kf218 f218 => ?_)
                refine tw_aload rfl rfl ?_
                refine tw_dup rfl ?_
                refine tw_getS rfl (tF_a (tF_a (tF_a (tF_a (tF_a (tF_a (tF_a (tF_a (tF_a (hi_111_59 hs)))))))))) ?_
                refine tw_push rfl ?_
                refine tw_iadd rfl ?_
                refine tw_put rfl (fun f219 => ?_)
                refine tw_aload rfl rfl ?_
                refine tw_getS rfl (tF_same f219) ?_
                refine tw_push rfl ?_
                refine tw_isub rfl ?_
                exact tw_iret rfl (Or.inl ⟨by omega, wret1 (hi_111_59 hs), (tF_same f219), (tA_ff (tA_n (by decide) (tA_st f217 (tA_n (by decide) (tA_n (by decide) (tA_n (by decide) (tA_n (by decide) (tA_n (by decide) (tA_n (by decide) (tA_n (by decide) rfl)))))))))), (tA_ff (tA_st f218 (tA_n (by decide) (tA_n (by decide) (tA_n (by decide) (tA_n (by decide) (tA_n (by decide) (tA_n (by decide) (tA_n (by decide) (tA_n (by decide) rfl)))))))))), (tA_ff (tA_n (by decide) (tA_n (by decide) (tA_n (by decide) (tA_n (by decide) (tA_n (by decide) (tA_n (by decide) (tA_n (by decide) (tA_n (by decide) (tA_st f210 rfl)))))))))), (tA_ff (tA_n (by decide) (tA_n (by decide) (tA_n (by decide) (tA_st f215 (tA_n (by decide) (tA_n (by decide) (tA_n (by decide) (tA_n (by decide) (tA_n (by decide) rfl)))))))))), (tA_ff (tA_n (by decide) (tA_n (by decide) (tA_n (by decide) (tA_n (by decide) (tA_st f214 (tA_n (by decide) (tA_n (by decide) (tA_n (by decide) (tA_n (by decide) rfl)))))))))), (tA_ff (tA_n (by decide) (tA_n (by decide) (tA_st f216 (tA_n (by decide) (tA_n (by decide) (tA_n (by decide) (tA_n (by decide) (tA_n (by decide) (tA_n (by decide) rfl))))))))))⟩)
              · try dsimp only [tvI_i, tvJ_j, tvR_r] at p209
                refine tw_if_ne rfl (fun z => absurd z (by decide)) (fun _ => ?_)
                refine tw_push rfl ?_
                exact tw_iret rfl (Or.inr ⟨by omega, rfl, rfl⟩)
            · try dsimp only [tvI_i, tvJ_j, tvR_r] at p208
              refine tw_if_eq rfl (fun _ => ?_) (fun z => absurd z (by decide))
              refine tw_push rfl ?_
              exact tw_iret rfl (Or.inr ⟨by omega, rfl, rfl⟩)
          · try dsimp only [tvI_i, tvJ_j, tvR_r] at p207
            refine tw_if_eq rfl (fun _ => ?_) (fun z => absurd z (by decide))
            refine tw_push rfl ?_
            exact tw_iret rfl (Or.inr ⟨by omega, rfl, rfl⟩)
        · try dsimp only [tvI_i, tvJ_j, tvR_r] at p206
          refine tw_if_eq rfl (fun _ => ?_) (fun z => absurd z (by decide))
          refine tw_push rfl ?_
          exact tw_iret rfl (Or.inr ⟨by omega, rfl, rfl⟩)
    · try dsimp only [tvI_i, tvJ_j, tvR_r] at p202
      refine tw_if_eq rfl (fun _ => ?_) (fun z => absurd z (by decide))
      refine tw_push rfl ?_
      exact tw_iret rfl (Or.inr ⟨by omega, rfl, rfl⟩)
theorem a_crash {xs : Nat → Int32} {τ : List Nat} {c m s v d u y : Int32} {h h2 h3 : zH} {w w2 : Option Value} (hB : zBs xs τ h) (hC : R_cars h) (hW : R_now h) (hA : R_crashes h) (hL : R_cl h) (h6 : R_ccr h) (h7 : R_cwr h) (h0 : R_cw0 h) (h_ccar : R_ccar h) (o_ccar : tA h2 152 = tA h 152) (t_ccar : tA h3 64 = tA h2 64) (h_ctold : R_ctold h) (o_ctold : tA h2 157 = tA h 157) (t_ctold : tA h3 67 = tA h2 67) (h_cdead : R_cdead h) (o_cdead : tA h2 156 = tA h 156) (t_cdead : tA h3 70 = tA h2 70) (h_cburn : R_cburn h) (o_cburn : tA h2 158 = tA h 158) (t_cburn : tA h3 71 = tA h2 71) (e1 : tF h2 111 5 = tF h 111 5) (e4 : tF h2 111 1 = tF h 111 1) (e5 : tF h2 111 59 = tF h 111 59) (o1 : tA h2 127 = tA h 127) (o2 : tA h2 120 = tA h 120) (e2 : tF h3 63 8 = tF h2 63 8) (e6 : tO h3 39 = tO h2 39) (e8 : tO h2 39 = tO h 39) (e9 : tF h3 36 4 = tF h2 36 4) (e11 : tF h2 36 4 = tF h 36 4) (e7 : ∀ i r f : Nat, (i : Int) < (tvI (tF h2 36 4)).toInt → tO h2 39 i = some r → tF h3 r f = tF h2 r f) (k1 : ph_crc c m s v d u y h w h2) (k2 : ph_crm c m s v d u y h2 w2 h3) : w2 = w ∧ R_crashes h3 ∧ R_ccr h3 ∧ R_cwr h3 ∧ R_cw0 h3 ∧ R_ccar h3 ∧ R_ctold h3 ∧ R_cdead h3 ∧ R_cburn h3 := by
  have hC0 := hC
  have hA0 := hA
  unfold R_cars at hC0
  unfold R_now at hW
  unfold R_crashes at hA0
  unfold ph_crm at k2
  rw [e1, e4, e5, o1, o2, o_ccar, o_ctold, o_cdead, o_cburn, ← hC0, ← hW, ← hA0] at k2
  rw [e11, e8] at e7
  rcases k1 with ⟨c1, rfl, r, hr, f1, f2, f3, f4, f5, f_64, f_67, f_70, f_71, f_65⟩ | ⟨c1, rfl, rfl⟩ <;> rcases k2 with ⟨c2, rfl, q1, q2, q3, q_152, q_157, q_156, q_158⟩ | ⟨c2, rfl, rfl⟩
  · have hi : ((c.toNatClampNeg : Nat) : Int) < (tvI (tF h 36 4)).toInt := by rw [zclE]; omega
    have key : ∀ f x P, (f = 6 ∨ f = 7) → tF h2 r f = .int x → tA h3 P = (fun j => if j = c.toNatClampNeg then x else tA h P j) → (∀ i r : Nat, (i : Int) < (tvI (tF h 36 4)).toInt → tO h 39 i = some r → tF h r f = .int (tA h P i)) → ∀ i r : Nat, (i : Int) < (tvI (tF h3 36 4)).toInt → tO h3 39 i = some r → tF h3 r f = .int (tA h3 P i) := by
      intro f x P hf hx hP3 hold i s hi2 hs
      rw [e9, e11] at hi2
      rw [e6, e8] at hs
      rw [e7 i s f hi2 hs, hP3]
      dsimp only
      by_cases z : i = c.toNatClampNeg
      · subst z
        rw [hr] at hs
        cases hs
        rw [if_pos rfl]
        exact hx
      · rw [if_neg z, f4 s f (fun y => car_ne hB hi2 hs (p := 63) (t := 39) rfl (by decide) y.1) (fun y => z (hL.2 _ _ hi2 hi (by rw [hs, hr, y.1])))]
        exact hold i s hi2 hs
    refine ⟨rfl, ?_, key 6 m 127 (Or.inl rfl) f2 q2 h6, key 7 y 120 (Or.inr rfl) f3 q3 h7, ?_, ?_, ?_, ?_, ?_⟩
    · unfold R_crashes; rw [e2, f1, q1]
    · intro i hi2
      rw [e9, e11] at hi2
      rw [q3]
      dsimp only
      rw [if_neg (by omega)]
      exact h0 i hi2
    · unfold R_ccar at *; rw [t_ccar, f_64, q_152, ← h_ccar]
    · unfold R_ctold at *; rw [t_ctold, f_67, q_157, ← h_ctold]
    · unfold R_cdead at *; rw [t_cdead, f_70, q_156, ← h_cdead]
    · unfold R_cburn at *; rw [t_cburn, f_71, q_158, ← h_cburn]
  · exact absurd c1 c2
  · exact absurd c2 c1
  · exact ⟨rfl, hA, h6, h7, h0, h_ccar, h_ctold, h_cdead, h_cburn⟩
theorem a_crashM {xs : Nat → Int32} {τ : List Nat} {c m s v d u y : Int32} {h h2 h3 : zH} {w w2 : Option Value} (hB : zBs xs τ h) (hC : R_crashes h) (hN : R_cars h) (hK : R_ck2 h) (e1 : tF h2 111 59 = tF h 111 59) (e5 : tF h3 111 5 = tF h 111 5) (o152 : tA h2 152 = tA h 152) (o65 : tA h3 65 = tA h2 65) (o121 : tA h3 121 = tA h 121) (k1 : ph_crc c m s v d u y h w h2) (k2 : ph_crm c m s v d u y h2 w2 h3) (hx : w2 = w) : R_ck2 h3 := by
  have hC0 := hC
  unfold R_crashes at hC0
  have hN0 := hN
  unfold R_cars at hN0
  have b59 := kb_111_59 hB
  have i48 := hi_63_8 (zBs_sh hB)
  have hNc : (((tvI (tF h 111 59)).toNatClampNeg : Nat) : Int) = (tvI (tF h 111 59)).toInt := zclx b59.1
  have em : (-1 : Int32).toInt = -1 := rfl
  rcases k1 with ⟨c1, rfl, r, hr, f1, f2, f3, f4, f5, f_64, f_67, f_70, f_71, f_65⟩ | ⟨c1, rfl, rfl⟩ <;> rcases k2 with ⟨c2, rfl, q1, q2, q3, q_152, q_157, q_156, q_158⟩ | ⟨c2, rfl, rfl⟩
  · have n1 : (tvI (tF h 111 59) + 1).toInt = (tvI (tF h 111 59)).toInt + 1 := (zincN (n := (tvI (tF h 111 59)).toNatClampNeg) hNc.symm (by omega)).trans (by omega)
    intro i hi
    rw [q1, e1] at hi
    have hi : (i : Int) < (tvI (tF h 111 59) + 1).toInt := hi
    rw [o65, f_65, q_152, o121, e5, e1, hC0]
    dsimp only
    by_cases z : i = (tvI (tF h 111 59)).toNatClampNeg
    · rw [if_pos z, if_pos z]
      exact ⟨rfl, by rw [← hN0]; omega⟩
    · rw [if_neg z, if_neg z, o152]
      exact hK i (by omega)
  · exfalso
    rw [i48] at hx
    have hx := congrArg (fun z => (match z with | some (.int x) => x.toInt | _ => 0)) hx
    have b63 := kb_63_8 hB
    have hx : (-1 : Int32).toInt = (tvI (tF h 63 8)).toInt := hx
    omega
  · exfalso
    rw [hi_111_59 (zBs_sh hB)] at hx
    have hx := congrArg (fun z => (match z with | some (.int x) => x.toInt | _ => 0)) hx
    have b63 := kb_111_59 hB
    have hx : (tvI (tF _ 111 59)).toInt = (-1 : Int32).toInt := hx
    omega
  · exact hK
/-! A RULE AS IT IS TOLD: what both readers find in the bytes T below n; the one goes down, the other keeps a pile. -/
/-- the place behind the blanks; behind letters; behind digits -/
noncomputable def rB (T : Nat → Int32) (n p : Nat) : Nat := if _h : p < n ∧ T p = 32 then rB T n (p + 1) else p
termination_by n - p
decreasing_by omega
noncomputable def rE (T : Nat → Int32) (n p : Nat) : Nat := if _h : p < n ∧ 97 ≤ (T p).toInt ∧ (T p).toInt ≤ 122 then rE T n (p + 1) else p
termination_by n - p
decreasing_by omega
noncomputable def rD (T : Nat → Int32) (n p : Nat) : Nat := if _h : p < n ∧ 48 ≤ (T p).toInt ∧ (T p).toInt ≤ 57 then rD T n (p + 1) else p
termination_by n - p
decreasing_by omega
section RB
variable {T : Nat → Int32} {n p : Nat}
theorem rB_y (h : p < n ∧ T p = 32) : rB T n p = rB T n (p + 1) := by
  rw [rB]; exact dif_pos h
theorem rB_n (h : ¬ (p < n ∧ T p = 32)) : rB T n p = p := by
  rw [rB]; exact dif_neg h
theorem rE_y (h : p < n ∧ 97 ≤ (T p).toInt ∧ (T p).toInt ≤ 122) : rE T n p = rE T n (p + 1) := by
  rw [rE]; exact dif_pos h
theorem rE_n (h : ¬ (p < n ∧ 97 ≤ (T p).toInt ∧ (T p).toInt ≤ 122)) : rE T n p = p := by
  rw [rE]; exact dif_neg h
theorem rD_y (h : p < n ∧ 48 ≤ (T p).toInt ∧ (T p).toInt ≤ 57) : rD T n p = rD T n (p + 1) := by
  rw [rD]; exact dif_pos h
theorem rD_n (h : ¬ (p < n ∧ 48 ≤ (T p).toInt ∧ (T p).toInt ≤ 57)) : rD T n p = p := by
  rw [rD]; exact dif_neg h
theorem rB_all : ∀ (k p : Nat), n - p ≤ k → p ≤ rB T n p ∧ ¬ (rB T n p < n ∧ T (rB T n p) = 32) ∧ (p ≤ n → rB T n p ≤ n)
  | 0, p, hk => by
    have h : ¬ (p < n ∧ T p = 32) := by omega
    rw [rB_n h]
    exact ⟨Nat.le_refl _, h, fun z => z⟩
  | k + 1, p, hk => by
    by_cases h : p < n ∧ T p = 32
    · rw [rB_y h]
      obtain ⟨a, b, c⟩ := rB_all k (p + 1) (by omega)
      exact ⟨by omega, b, fun _ => c (by omega)⟩
    · rw [rB_n h]
      exact ⟨Nat.le_refl _, h, fun z => z⟩
theorem rB_ge : p ≤ rB T n p := (rB_all (n - p) p (Nat.le_refl _)).1
theorem rB_st : ¬ (rB T n p < n ∧ T (rB T n p) = 32) := (rB_all (n - p) p (Nat.le_refl _)).2.1
theorem rB_le (h : p ≤ n) : rB T n p ≤ n := (rB_all (n - p) p (Nat.le_refl _)).2.2 h
theorem rB_2 : rB T n (rB T n p) = rB T n p := rB_n rB_st
theorem rE_all : ∀ (k p : Nat), n - p ≤ k → p ≤ rE T n p ∧ (p ≤ n → rE T n p ≤ n)
  | 0, p, hk => by
    have h : ¬ (p < n ∧ 97 ≤ (T p).toInt ∧ (T p).toInt ≤ 122) := by omega
    rw [rE_n h]
    exact ⟨Nat.le_refl _, fun z => z⟩
  | k + 1, p, hk => by
    by_cases h : p < n ∧ 97 ≤ (T p).toInt ∧ (T p).toInt ≤ 122
    · rw [rE_y h]
      obtain ⟨a, c⟩ := rE_all k (p + 1) (by omega)
      exact ⟨by omega, fun _ => c (by omega)⟩
    · rw [rE_n h]
      exact ⟨Nat.le_refl _, fun z => z⟩
theorem rE_ge : p ≤ rE T n p := (rE_all (n - p) p (Nat.le_refl _)).1
theorem rE_le (h : p ≤ n) : rE T n p ≤ n := (rE_all (n - p) p (Nat.le_refl _)).2 h
theorem rD_all : ∀ (k p : Nat), n - p ≤ k → p ≤ rD T n p ∧ (p ≤ n → rD T n p ≤ n)
  | 0, p, hk => by
    have h : ¬ (p < n ∧ 48 ≤ (T p).toInt ∧ (T p).toInt ≤ 57) := by omega
    rw [rD_n h]
    exact ⟨Nat.le_refl _, fun z => z⟩
  | k + 1, p, hk => by
    by_cases h : p < n ∧ 48 ≤ (T p).toInt ∧ (T p).toInt ≤ 57
    · rw [rD_y h]
      obtain ⟨a, c⟩ := rD_all k (p + 1) (by omega)
      exact ⟨by omega, fun _ => c (by omega)⟩
    · rw [rD_n h]
      exact ⟨Nat.le_refl _, fun z => z⟩
theorem rD_ge : p ≤ rD T n p := (rD_all (n - p) p (Nat.le_refl _)).1
theorem rD_le (h : p ≤ n) : rD T n p ≤ n := (rD_all (n - p) p (Nat.le_refl _)).2 h
end RB
/-- the number that k digits from q on tell -/
noncomputable def rV (T : Nat → Int32) (q : Nat) : Nat → Nat
  | 0 => 0
  | k + 1 => 10 * rV T q k + ((T (q + k)).toInt - 48).toNat
/-- these letters stand from p on -/
noncomputable def rQ (T : Nat → Int32) : Nat → List Int32 → Bool
  | _, [] => true
  | p, c :: r => decide (T p = c) && rQ T (p + 1) r
/-- the letters from p on are this word's -/
noncomputable def rW (T : Nat → Int32) (n p : Nat) (w : List Int32) : Bool := Nat.beq (rE T n p) (p + w.length) && rQ T p w
noncomputable def rWn : Nat → Nat
  | 16 => 21
  | 17 => 20
  | 18 => 19
  | 19 => 18
  | k => k + 2
noncomputable def rWd (k : Nat) : List Int32 := ztx (rWn k)
theorem rQ_u {T : Nat → Int32} : ∀ {a b : List Int32} {p : Nat}, a.length = b.length → rQ T p a = true → rQ T p b = true → a = b
  | [], [], _, _, _, _ => rfl
  | [], _ :: _, _, e, _, _ => by simp at e
  | _ :: _, [], _, e, _, _ => by simp at e
  | x :: a, y :: b, p, e, ha, hb => by
    unfold rQ at ha hb
    rw [Bool.and_eq_true] at ha hb
    have h1 := of_decide_eq_true ha.1
    have h2 := of_decide_eq_true hb.1
    have h3 := rQ_u (by simpa using e) ha.2 hb.2
    rw [h3, ← h1, ← h2]
theorem rW_i {T : Nat → Int32} {n p : Nat} {a : List Int32} : rW T n p a = true ↔ rE T n p = p + a.length ∧ rQ T p a = true := by
  unfold rW
  rw [Bool.and_eq_true]
  exact and_congr ⟨Nat.eq_of_beq_eq_true, fun h => by rw [h]; exact Nat.beq_refl _⟩ Iff.rfl
theorem rW_u {T : Nat → Int32} {n p : Nat} {a b : List Int32} (ha : rW T n p a = true) (hb : rW T n p b = true) : a = b := by
  rw [rW_i] at ha hb
  exact rQ_u (by omega) ha.2 hb.2
theorem rWd_all : (List.range 20).all (fun i => (List.range 20).all (fun j => !(decide (rWd i = rWd j)) || Nat.beq i j)) = true := by decide +kernel
theorem rWd_i {i j : Nat} (hi : i < 20) (hj : j < 20) (e : rWd i = rWd j) : i = j := by
  have h := List.all_eq_true.mp (List.all_eq_true.mp rWd_all i (List.mem_range.mpr hi)) j (List.mem_range.mpr hj)
  rw [decide_eq_true e] at h
  exact Nat.eq_of_beq_eq_true h
theorem rW_ij {T : Nat → Int32} {n p i j : Nat} (hi : i < 20) (hj : j < 20) (ha : rW T n p (rWd i) = true) (hb : rW T n p (rWd j) = true) : i = j := rWd_i hi hj (rW_u ha hb)
theorem rW_e {T : Nat → Int32} {n p : Nat} {a : List Int32} (h : rW T n p a = true) : rE T n p = p + a.length := (rW_i.mp h).1
/-- a word's first letter is a letter -/
theorem rWd_l : (List.range 20).all (fun i => match rWd i with
  | [] => false
  | c :: _ => decide (97 ≤ c.toInt ∧ c.toInt ≤ 122)) = true := by decide +kernel
theorem rW_l {T : Nat → Int32} {n p i : Nat} (hi : i < 20) (h : rW T n p (rWd i) = true) : p < n ∧ 97 ≤ (T p).toInt ∧ (T p).toInt ≤ 122 := by
  have q := List.all_eq_true.mp rWd_l i (List.mem_range.mpr hi)
  rw [rW_i] at h
  obtain ⟨h1, h2⟩ := h
  revert q h1 h2
  generalize rWd i = w
  intro q h1 h2
  match w, q, h1, h2 with
  | [], q, _, _ => cases q
  | c :: r, q, h1, h2 =>
    rcases Classical.em (p < n ∧ 97 ≤ (T p).toInt ∧ (T p).toInt ≤ 122) with z | z
    · exact z
    · rw [rE_n z] at h1
      simp at h1
/-- the first of so many words that stands there -/
noncomputable def rK12 (T : Nat → Int32) (n p : Nat) : Option Nat := (List.range 12).find? (fun k => rW T n p (rWd k))
theorem rK12_s {T : Nat → Int32} {n p k : Nat} (h : rK12 T n p = some k) : k < 12 ∧ rW T n p (rWd k) = true :=
  ⟨List.mem_range.mp (List.mem_of_find?_eq_some h), List.find?_some (p := fun k => rW T n p (rWd k)) h⟩
theorem rK12_i {T : Nat → Int32} {n p k : Nat} (hk : k < 12) (h : rW T n p (rWd k) = true) : rK12 T n p = some k := by
  cases e : rK12 T n p with
  | none =>
    have := List.find?_eq_none.mp e k (List.mem_range.mpr hk)
    exact absurd h this
  | some j =>
    obtain ⟨h1, h2⟩ := rK12_s e
    rw [rW_ij (by omega) (by omega) h2 h]
theorem rK12_n {T : Nat → Int32} {n p : Nat} (h : ∀ k, k < 12 → ¬ rW T n p (rWd k) = true) : rK12 T n p = none := by
  cases e : rK12 T n p with
  | none => rfl
  | some j => exact absurd (rK12_s e).2 (h j (rK12_s e).1)
/-- place, how many are counted, what was told so far -/
noncomputable abbrev rS : Type := Nat × Nat × List Nat
noncomputable abbrev rR : Type := Option (Nat ⊕ rS)
noncomputable def rK (x : rR) (k : rS → rR) : rR := match x with
  | none => none
  | some (.inl f) => some (.inl f)
  | some (.inr s) => k s
noncomputable def rF (p w : Nat) : rR := some (.inl (1 + 8 * p + w))
noncomputable def rO (s : rS) : rR := some (.inr s)
noncomputable def rC (p : Nat) (s : rS) : rR := if s.2.1 = 80 then rF p 3 else rO (s.1, s.2.1 + 1, s.2.2)
noncomputable def rU (c : Nat) (s : rS) : rS := (s.1, s.2.1, s.2.2 ++ [c])
noncomputable def rA (p : Nat) (s : rS) : rS := (p, s.2.1, s.2.2)
noncomputable def rT (T : Nat → Int32) (n : Nat) (c : Int32) (s : rS) : rR := if rB T n s.1 < n ∧ T (rB T n s.1) = c then rO (rA (rB T n s.1 + 1) s) else rF (rB T n s.1) 0
/-- a number up to most, from behind the blanks on -/
noncomputable def rM (T : Nat → Int32) (n most p : Nat) : Nat ⊕ (Nat × Nat) :=
  if rD T n (rB T n p) = rB T n p then .inl (1 + 8 * rB T n p + 0)
  else if 5 < rD T n (rB T n p) - rB T n p ∨ most < rV T (rB T n p) (rD T n (rB T n p) - rB T n p) then .inl (1 + 8 * rB T n p + 1)
  else .inr (rD T n (rB T n p), rV T (rB T n p) (rD T n (rB T n p) - rB T n p))
/-- a comparison, and the place behind it -/
noncomputable def rCm (T : Nat → Int32) (n b : Nat) : Option (Nat × Nat) :=
  if b < n ∧ T b = 61 then some (100105, b + 1)
  else if b < n ∧ T b = 60 then (if b + 1 < n ∧ T (b + 1) = 61 then some (100104, b + 2) else some (100103, b + 1))
  else if b < n ∧ T b = 62 then (if b + 1 < n ∧ T (b + 1) = 61 then some (100106, b + 2) else some (100107, b + 1))
  else none
/-- 0 a value, 1 a product (2 its rest), 3 a sum (4 its rest), 5 a comparison, 6 a fact, 7 facts with 'and' (8 their rest), 9 a test (10 its rest) -/
noncomputable def rX (T : Nat → Int32) (n : Nat) : Nat → Nat → Nat → rS → rR
  | 0, _, _, _ => none
  | f + 1, m, d, s => match m with
    | 0 => if rB T n s.1 < n ∧ T (rB T n s.1) = 40 then (if d = 10 then rF (rB T n s.1) 2 else rK (rC (rB T n s.1) s) (fun s1 => rK (rX T n f 3 (d + 1) (rA (rB T n s.1 + 1) s1)) (rT T n 41)))
      else (match rK12 T n (rB T n s.1) with
        | some k => rK (rC (rB T n s.1) s) (fun s1 => rO (rU (100000 + k) (rA (rE T n (rB T n s.1)) s1)))
        | none => (match rM T n 99999 (rB T n s.1) with
          | .inl e => some (.inl e)
          | .inr q => rK (rC (rB T n s.1) s) (fun s1 => rO (rU q.2 (rA q.1 s1)))))
    | 1 => rK (rX T n f 0 d s) (rX T n f 2 d)
    | 2 => if rB T n s.1 < n ∧ T (rB T n s.1) = 42 then rK (rX T n f 0 d (rA (rB T n s.1 + 1) s)) (fun s1 => rX T n f 2 d (rU 100102 s1)) else rO (rA (rB T n s.1) s)
    | 3 => rK (rX T n f 1 d s) (rX T n f 4 d)
    | 4 => if rB T n s.1 < n ∧ T (rB T n s.1) = 43 then rK (rX T n f 1 d (rA (rB T n s.1 + 1) s)) (fun s1 => rX T n f 4 d (rU 100100 s1))
      else if rB T n s.1 < n ∧ T (rB T n s.1) = 45 then rK (rX T n f 1 d (rA (rB T n s.1 + 1) s)) (fun s1 => rX T n f 4 d (rU 100101 s1))
      else rO (rA (rB T n s.1) s)
    | 5 => rK (rX T n f 3 d s) (fun s1 => match rCm T n (rB T n s1.1) with
      | none => rF (rB T n s1.1) 0
      | some q => rK (rC (rB T n s1.1) s1) (fun s2 => rK (rX T n f 3 d (rA q.2 s2)) (fun s3 => rO (rU q.1 s3))))
    | 6 => if rW T n (rB T n s.1) (rWd 19) = true then (if d = 10 then rF (rB T n s.1) 2 else rK (rX T n f 6 (d + 1) (rA (rB T n s.1 + 3) s)) (fun s1 => rO (rU 100110 s1)))
      else if rB T n s.1 < n ∧ T (rB T n s.1) = 91 then (if d = 10 then rF (rB T n s.1) 2 else rK (rX T n f 9 (d + 1) (rA (rB T n s.1 + 1) s)) (rT T n 93))
      else rX T n f 5 d (rA (rB T n s.1) s)
    | 7 => rK (rX T n f 6 d s) (rX T n f 8 d)
    | 8 => if rW T n (rB T n s.1) (rWd 18) = true then rK (rX T n f 6 d (rA (rB T n s.1 + 3) s)) (fun s1 => rX T n f 8 d (rU 100109 s1)) else rO (rA (rB T n s.1) s)
    | 9 => rK (rX T n f 7 d s) (rX T n f 10 d)
    | _ => if rW T n (rB T n s.1) (rWd 17) = true then rK (rX T n f 7 d (rA (rB T n s.1 + 2) s)) (fun s1 => rX T n f 10 d (rU 100108 s1)) else rO (rA (rB T n s.1) s)
/-! the reader with a pile -/
noncomputable abbrev rMs : Type := Nat × List Nat × rS
noncomputable abbrev rMo : Type := Nat ⊕ rMs
noncomputable def mDp : List Nat → Nat
  | [] => 0
  | x :: r => if x = 50 ∨ x = 10 ∨ x = 13 then mDp r + 1 else mDp r
noncomputable def mT : List Nat → List Nat → List Nat × List Nat
  | [], o => ([], o)
  | x :: r, o => if x = 102 then mT r (o ++ [100102]) else (x :: r, o)
noncomputable def mPm : List Nat → List Nat → List Nat × List Nat
  | [], o => ([], o)
  | x :: r, o => if x = 103 then mPm r (o ++ [100100]) else if x = 104 then mPm r (o ++ [100101]) else (x :: r, o)
noncomputable def mS (S o : List Nat) : List Nat × List Nat := mPm (mT S o).1 (mT S o).2
noncomputable def mN : List Nat → List Nat → List Nat × List Nat
  | [], o => ([], o)
  | x :: r, o => if x = 10 then mN r (o ++ [100110]) else (x :: r, o)
noncomputable def mA : List Nat → List Nat → List Nat × List Nat
  | [], o => ([], o)
  | x :: r, o => if x = 11 then mA r (o ++ [100109]) else (x :: r, o)
noncomputable def mO1 : List Nat → List Nat → List Nat × List Nat
  | [], o => ([], o)
  | x :: r, o => if x = 12 then mO1 r (o ++ [100108]) else (x :: r, o)
noncomputable def mO (S o : List Nat) : List Nat × List Nat := mO1 (mA S o).1 (mA S o).2
noncomputable def mS0 (T : Nat → Int32) (n : Nat) (S : List Nat) (s : rS) : rMo :=
  if rW T n (rB T n s.1) (rWd 19) = true then (if mDp S = 10 then .inl (1 + 8 * rB T n s.1 + 2) else .inr (0, 10 :: S, rA (rB T n s.1 + 3) s))
  else if rB T n s.1 < n ∧ T (rB T n s.1) = 91 then (if mDp S = 10 then .inl (1 + 8 * rB T n s.1 + 2) else .inr (0, 13 :: S, rA (rB T n s.1 + 1) s))
  else .inr (1, S, rA (rB T n s.1) s)
noncomputable def mS1 (T : Nat → Int32) (n : Nat) (S : List Nat) (s : rS) : rMo :=
  if rB T n s.1 < n ∧ T (rB T n s.1) = 40 then (if mDp S = 10 then .inl (1 + 8 * rB T n s.1 + 2) else if s.2.1 = 80 then .inl (1 + 8 * rB T n s.1 + 3) else .inr (1, 50 :: S, (rB T n s.1 + 1, s.2.1 + 1, s.2.2)))
  else (match rK12 T n (rB T n s.1) with
    | some k => if s.2.1 = 80 then .inl (1 + 8 * rB T n s.1 + 3) else .inr (2, S, (rE T n (rB T n s.1), s.2.1 + 1, s.2.2 ++ [100000 + k]))
    | none => (match rM T n 99999 (rB T n s.1) with
      | .inl e => .inl e
      | .inr q => if s.2.1 = 80 then .inl (1 + 8 * rB T n s.1 + 3) else .inr (2, S, (q.1, s.2.1 + 1, s.2.2 ++ [q.2]))))
noncomputable def mS2 (T : Nat → Int32) (n : Nat) (tst : Bool) (S : List Nat) (s : rS) : rMo :=
  if rB T n s.1 < n ∧ T (rB T n s.1) = 42 then .inr (1, 102 :: (mT S s.2.2).1, (rB T n s.1 + 1, s.2.1, (mT S s.2.2).2))
  else if rB T n s.1 < n ∧ T (rB T n s.1) = 43 then .inr (1, 103 :: (mS S s.2.2).1, (rB T n s.1 + 1, s.2.1, (mS S s.2.2).2))
  else if rB T n s.1 < n ∧ T (rB T n s.1) = 45 then .inr (1, 104 :: (mS S s.2.2).1, (rB T n s.1 + 1, s.2.1, (mS S s.2.2).2))
  else if (mS S s.2.2).1.headD 0 = 50 then (if rB T n s.1 < n ∧ T (rB T n s.1) = 41 then .inr (2, (mS S s.2.2).1.tail, (rB T n s.1 + 1, s.2.1, (mS S s.2.2).2)) else .inl (1 + 8 * rB T n s.1 + 0))
  else if tst = true then (if 205 ≤ (mS S s.2.2).1.headD 0 ∧ (mS S s.2.2).1.headD 0 ≤ 209 then .inr (3, (mS S s.2.2).1.tail, (rB T n s.1, s.2.1, (mS S s.2.2).2 ++ [(mS S s.2.2).1.headD 0 + 99898]))
    else (match rCm T n (rB T n s.1) with
      | none => .inl (1 + 8 * rB T n s.1 + 0)
      | some q => if s.2.1 = 80 then .inl (1 + 8 * rB T n s.1 + 3) else .inr (1, (q.1 - 99898) :: (mS S s.2.2).1, (q.2, s.2.1 + 1, (mS S s.2.2).2))))
  else .inr (4, (mS S s.2.2).1, (rB T n s.1, s.2.1, (mS S s.2.2).2))
noncomputable def mS3 (T : Nat → Int32) (n : Nat) (S : List Nat) (s : rS) : rMo :=
  if rW T n (rB T n s.1) (rWd 18) = true then .inr (0, 11 :: (mA (mN S s.2.2).1 (mN S s.2.2).2).1, (rB T n s.1 + 3, s.2.1, (mA (mN S s.2.2).1 (mN S s.2.2).2).2))
  else if rW T n (rB T n s.1) (rWd 17) = true then .inr (0, 12 :: (mO (mN S s.2.2).1 (mN S s.2.2).2).1, (rB T n s.1 + 2, s.2.1, (mO (mN S s.2.2).1 (mN S s.2.2).2).2))
  else if (mO (mN S s.2.2).1 (mN S s.2.2).2).1.headD 0 = 13 then (if rB T n s.1 < n ∧ T (rB T n s.1) = 93 then .inr (3, (mO (mN S s.2.2).1 (mN S s.2.2).2).1.tail, (rB T n s.1 + 1, s.2.1, (mO (mN S s.2.2).1 (mN S s.2.2).2).2)) else .inl (1 + 8 * rB T n s.1 + 0))
  else .inr (4, (mO (mN S s.2.2).1 (mN S s.2.2).2).1, (rB T n s.1, s.2.1, (mO (mN S s.2.2).1 (mN S s.2.2).2).2))
noncomputable def mSt (T : Nat → Int32) (n : Nat) (tst : Bool) (x : rMs) : rMo := match x.1 with
  | 0 => mS0 T n x.2.1 x.2.2
  | 1 => mS1 T n x.2.1 x.2.2
  | 2 => mS2 T n tst x.2.1 x.2.2
  | 3 => mS3 T n x.2.1 x.2.2
  | _ => .inr x
noncomputable def mI (T : Nat → Int32) (n : Nat) (tst : Bool) : Nat → rMo → rMo
  | 0, y => y
  | _ + 1, .inl f => .inl f
  | k + 1, .inr x => mI T n tst k (mSt T n tst x)
noncomputable def mRe (T : Nat → Int32) (n : Nat) (tst : Bool) (x : rMs) (y : rMo) : Prop := ∃ k, mI T n tst k (.inr x) = y
section MR
variable {T : Nat → Int32} {n : Nat} {tst : Bool}
theorem mI_f (f : Nat) : ∀ k, mI T n tst k (.inl f) = .inl f
  | 0 => rfl
  | _ + 1 => rfl
theorem mI_add : ∀ (j k : Nat) (y : rMo), mI T n tst (j + k) y = mI T n tst k (mI T n tst j y)
  | 0, k, y => by rw [Nat.zero_add]; rfl
  | j + 1, k, .inl f => by rw [mI_f, mI_f, mI_f]
  | j + 1, k, .inr x => by
    rw [Nat.succ_add]
    exact mI_add j k (mSt T n tst x)
theorem mRe_0 {x : rMs} : mRe T n tst x (.inr x) := ⟨0, rfl⟩
theorem mRe_f {x : rMs} {f : Nat} (h : mSt T n tst x = .inl f) : mRe T n tst x (.inl f) := ⟨1, h⟩
theorem mRe_s {x y : rMs} {z : rMo} (h : mSt T n tst x = .inr y) (k : mRe T n tst y z) : mRe T n tst x z := by
  obtain ⟨k, hk⟩ := k
  refine ⟨k + 1, ?_⟩
  show mI T n tst k (mSt T n tst x) = z
  rw [h]
  exact hk
theorem mRe_t {x y : rMs} {z : rMo} (h : mRe T n tst x (.inr y)) (k : mRe T n tst y z) : mRe T n tst x z := by
  obtain ⟨j, hj⟩ := h
  obtain ⟨k, hk⟩ := k
  refine ⟨j + k, ?_⟩
  rw [mI_add, hj]
  exact hk
noncomputable def mHt : rMo → Prop
  | .inl _ => True
  | .inr x => 4 ≤ x.1
theorem mSt_4 {x : rMs} (h : 4 ≤ x.1) : mSt T n tst x = .inr x := by
  obtain ⟨a, S, s⟩ := x
  match a, h with
  | a + 4, _ => rfl
theorem mI_h {y : rMo} (h : mHt y) : ∀ k, mI T n tst k y = y
  | 0 => rfl
  | k + 1 => by
    match y, h with
    | .inl f, _ => rfl
    | .inr x, h =>
      show mI T n tst k (mSt T n tst x) = _
      rw [mSt_4 h]
      exact mI_h h k
theorem mRe_u {x : rMs} {y z : rMo} (hy : mRe T n tst x y) (hz : mRe T n tst x z) (h1 : mHt y) (h2 : mHt z) : y = z := by
  obtain ⟨j, hj⟩ := hy
  obtain ⟨k, hk⟩ := hz
  have e1 := mI_add (T := T) (n := n) (tst := tst) j k (.inr x)
  have e2 := mI_add (T := T) (n := n) (tst := tst) k j (.inr x)
  rw [hj, mI_h h1] at e1
  rw [hk, mI_h h2] at e2
  rw [← e1, ← e2, Nat.add_comm]
theorem mT_n {S o : List Nat} (h : S.headD 0 ≠ 102) : mT S o = (S, o) := by
  cases S with
  | nil => rfl
  | cons x r =>
    have h : x ≠ 102 := h
    unfold mT
    rw [if_neg h]
theorem mPm_n {S o : List Nat} (h : S.headD 0 ≠ 103) (h2 : S.headD 0 ≠ 104) : mPm S o = (S, o) := by
  cases S with
  | nil => rfl
  | cons x r =>
    have h : x ≠ 103 := h
    have h2 : x ≠ 104 := h2
    unfold mPm
    rw [if_neg h, if_neg h2]
theorem mN_n {S o : List Nat} (h : S.headD 0 ≠ 10) : mN S o = (S, o) := by
  cases S with
  | nil => rfl
  | cons x r =>
    have h : x ≠ 10 := h
    unfold mN
    rw [if_neg h]
theorem mA_n {S o : List Nat} (h : S.headD 0 ≠ 11) : mA S o = (S, o) := by
  cases S with
  | nil => rfl
  | cons x r =>
    have h : x ≠ 11 := h
    unfold mA
    rw [if_neg h]
theorem mO1_n {S o : List Nat} (h : S.headD 0 ≠ 12) : mO1 S o = (S, o) := by
  cases S with
  | nil => rfl
  | cons x r =>
    have h : x ≠ 12 := h
    unfold mO1
    rw [if_neg h]
theorem mN_r {S : List Nat} (h : S.headD 0 ≠ 10) : ∀ (k : Nat) (o : List Nat), mN (List.replicate k 10 ++ S) o = (S, o ++ List.replicate k 100110)
  | 0, o => by
    show mN S o = _
    rw [mN_n h]
    simp
  | k + 1, o => by
    rw [List.replicate_succ, List.cons_append]
    unfold mN
    rw [if_pos rfl, mN_r h k, List.append_assoc]
    rfl
/-- no sign of a sum on top; nor a bracket of one, nor a comparison; nor 'not', 'and' -/
noncomputable def hS1 (S : List Nat) : Prop := S.headD 0 ≠ 102
noncomputable def hS3 (S : List Nat) : Prop := S.headD 0 ≠ 102 ∧ S.headD 0 ≠ 103 ∧ S.headD 0 ≠ 104
noncomputable def hS5 (S : List Nat) : Prop := hS3 S ∧ S.headD 0 ≠ 50 ∧ ¬ (205 ≤ S.headD 0 ∧ S.headD 0 ≤ 209)
noncomputable def hS7 (S : List Nat) : Prop := hS5 S ∧ S.headD 0 ≠ 10 ∧ S.headD 0 ≠ 11
noncomputable def hS9 (S : List Nat) : Prop := hS7 S ∧ S.headD 0 ≠ 12
theorem mS_n {S o : List Nat} (h : hS3 S) : mS S o = (S, o) := by
  unfold mS
  rw [mT_n h.1]
  exact mPm_n h.2.1 h.2.2
noncomputable def mNo (T : Nat → Int32) (n p : Nat) (c : Int32) : Prop := ¬ (p < n ∧ T p = c)
/-- the pile's reader where it begins to read what rX reads -/
noncomputable def mPre (T : Nat → Int32) (n : Nat) (tst : Bool) (m : Nat) (S : List Nat) (s : rS) (x : rMs) : Prop := match m with
  | 0 => x = (1, S, s)
  | 1 => x = (1, S, s) ∧ hS1 S
  | 2 => x.1 = 2 ∧ mT x.2.1 x.2.2.2.2 = (S, s.2.2) ∧ rB T n x.2.2.1 = rB T n s.1 ∧ x.2.2.2.1 = s.2.1 ∧ hS1 S
  | 3 => x = (1, S, s) ∧ hS3 S
  | 4 => x.1 = 2 ∧ mS x.2.1 x.2.2.2.2 = (S, s.2.2) ∧ rB T n x.2.2.1 = rB T n s.1 ∧ x.2.2.2.1 = s.2.1 ∧ hS3 S ∧ mNo T n (rB T n s.1) 42
  | 5 => x = (1, S, s) ∧ hS5 S ∧ tst = true
  | 6 => x = (0, S, s) ∧ hS5 S ∧ tst = true
  | 7 => x = (0, S, s) ∧ hS7 S ∧ tst = true
  | 8 => x.1 = 3 ∧ mA (mN x.2.1 x.2.2.2.2).1 (mN x.2.1 x.2.2.2.2).2 = (S, s.2.2) ∧ rB T n x.2.2.1 = rB T n s.1 ∧ x.2.2.2.1 = s.2.1 ∧ hS7 S ∧ tst = true
  | 9 => x = (0, S, s) ∧ hS9 S ∧ tst = true
  | _ => x.1 = 3 ∧ mO (mN x.2.1 x.2.2.2.2).1 (mN x.2.1 x.2.2.2.2).2 = (S, s.2.2) ∧ rB T n x.2.2.1 = rB T n s.1 ∧ x.2.2.2.1 = s.2.1 ∧ hS9 S ∧ tst = true ∧ rW T n (rB T n s.1) (rWd 18) ≠ true
/-- and where it is behind it -/
noncomputable def mPo (T : Nat → Int32) (n : Nat) (m : Nat) (S : List Nat) (s : rS) (y : rMs) : Prop := match m with
  | 0 => y = (2, S, s)
  | 1 | 2 => y.1 = 2 ∧ mT y.2.1 y.2.2.2.2 = (S, s.2.2) ∧ rB T n y.2.2.1 = rB T n s.1 ∧ y.2.2.2.1 = s.2.1 ∧ mNo T n (rB T n s.1) 42
  | 3 | 4 => y.1 = 2 ∧ mS y.2.1 y.2.2.2.2 = (S, s.2.2) ∧ rB T n y.2.2.1 = rB T n s.1 ∧ y.2.2.2.1 = s.2.1 ∧ mNo T n (rB T n s.1) 42 ∧ mNo T n (rB T n s.1) 43 ∧ mNo T n (rB T n s.1) 45
  | 5 => y.1 = 3 ∧ y.2.1 = S ∧ y.2.2.2.2 = s.2.2 ∧ rB T n y.2.2.1 = rB T n s.1 ∧ y.2.2.2.1 = s.2.1
  | 6 => y.1 = 3 ∧ (∃ k, y.2.1 = List.replicate k 10 ++ S ∧ s.2.2 = y.2.2.2.2 ++ List.replicate k 100110) ∧ rB T n y.2.2.1 = rB T n s.1 ∧ y.2.2.2.1 = s.2.1
  | 7 | 8 => y.1 = 3 ∧ mA (mN y.2.1 y.2.2.2.2).1 (mN y.2.1 y.2.2.2.2).2 = (S, s.2.2) ∧ rB T n y.2.2.1 = rB T n s.1 ∧ y.2.2.2.1 = s.2.1 ∧ rW T n (rB T n s.1) (rWd 18) ≠ true
  | _ => y.1 = 3 ∧ mO (mN y.2.1 y.2.2.2.2).1 (mN y.2.1 y.2.2.2.2).2 = (S, s.2.2) ∧ rB T n y.2.2.1 = rB T n s.1 ∧ y.2.2.2.1 = s.2.1 ∧ rW T n (rB T n s.1) (rWd 18) ≠ true ∧ rW T n (rB T n s.1) (rWd 17) ≠ true
noncomputable def mRs (T : Nat → Int32) (n : Nat) (tst : Bool) (m : Nat) (S : List Nat) (x : rMs) : Nat ⊕ rS → Prop
  | .inl e => mRe T n tst x (.inl e)
  | .inr s => ∃ y, mRe T n tst x (.inr y) ∧ mPo T n m S s y
noncomputable def mOK (T : Nat → Int32) (n : Nat) (tst : Bool) (f : Nat) : Prop := ∀ (m d : Nat) (s : rS) (r : Nat ⊕ rS), m ≤ 10 → rX T n f m d s = some r → ∀ (S : List Nat) (x : rMs), mPre T n tst m S s x → mDp S = d → mRs T n tst m S x r
theorem mRs_t {m : Nat} {S : List Nat} {x y : rMs} {r : Nat ⊕ rS} (h : mRe T n tst x (.inr y)) (k : mRs T n tst m S y r) : mRs T n tst m S x r := by
  match r, k with
  | .inl e, k => exact mRe_t h k
  | .inr s, ⟨z, k, p⟩ => exact ⟨z, mRe_t h k, p⟩
theorem rK_i {x : rR} {k : rS → rR} {r : Nat ⊕ rS} (h : rK x k = some r) : (∃ e, x = some (.inl e) ∧ r = .inl e) ∨ ∃ s, x = some (.inr s) ∧ k s = some r := by
  match x, h with
  | some (.inl e), h => exact Or.inl ⟨e, rfl, (Option.some.inj h).symm⟩
  | some (.inr s), h => exact Or.inr ⟨s, rfl, h⟩
theorem rC_i {p : Nat} {s : rS} {k : rS → rR} {r : Nat ⊕ rS} (h : rK (rC p s) k = some r) : (s.2.1 = 80 ∧ r = .inl (1 + 8 * p + 3)) ∨ (s.2.1 ≠ 80 ∧ k (s.1, s.2.1 + 1, s.2.2) = some r) := by
  unfold rC at h
  by_cases e : s.2.1 = 80
  · rw [if_pos e] at h
    exact Or.inl ⟨e, (Option.some.inj h).symm⟩
  · rw [if_neg e] at h
    exact Or.inr ⟨e, h⟩
theorem mDp_s {S : List Nat} {c : Nat} (h1 : c ≠ 50) (h2 : c ≠ 10) (h3 : c ≠ 13) : mDp (c :: S) = mDp S := by
  show (if c = 50 ∨ c = 10 ∨ c = 13 then _ else _) = _
  rw [if_neg (by omega)]
theorem hS3_c {c : Nat} {S : List Nat} (h : c ≠ 102 ∧ c ≠ 103 ∧ c ≠ 104) : hS3 (c :: S) := h
theorem hS5_c {c : Nat} {S : List Nat} (h : (c ≠ 102 ∧ c ≠ 103 ∧ c ≠ 104) ∧ c ≠ 50 ∧ ¬ (205 ≤ c ∧ c ≤ 209)) : hS5 (c :: S) := h
theorem hS7_c {c : Nat} {S : List Nat} (h : ((c ≠ 102 ∧ c ≠ 103 ∧ c ≠ 104) ∧ c ≠ 50 ∧ ¬ (205 ≤ c ∧ c ≤ 209)) ∧ c ≠ 10 ∧ c ≠ 11) : hS7 (c :: S) := h
theorem hS9_c {c : Nat} {S : List Nat} (h : (((c ≠ 102 ∧ c ≠ 103 ∧ c ≠ 104) ∧ c ≠ 50 ∧ ¬ (205 ≤ c ∧ c ≤ 209)) ∧ c ≠ 10 ∧ c ≠ 11) ∧ c ≠ 12) : hS9 (c :: S) := h
theorem rCm_r {b : Nat} {q : Nat × Nat} (h : rCm T n b = some q) : 100103 ≤ q.1 ∧ q.1 ≤ 100107 ∧ b < q.2 := by
  unfold rCm at h
  split at h
  · cases h; exact ⟨Nat.le_of_ble_eq_true rfl, Nat.le_of_ble_eq_true rfl, Nat.lt_succ_self _⟩
  · split at h
    · split at h <;> (cases h; exact ⟨Nat.le_of_ble_eq_true rfl, Nat.le_of_ble_eq_true rfl, by show b < _ + _; omega⟩)
    · split at h
      · split at h <;> (cases h; exact ⟨Nat.le_of_ble_eq_true rfl, Nat.le_of_ble_eq_true rfl, by show b < _ + _; omega⟩)
      · cases h
theorem mOK_v {f d : Nat} {s : rS} {r : Nat ⊕ rS} {S : List Nat} {x : rMs} (ih : mOK T n tst f) (h : rX T n (f + 1) 0 d s = some r) (hp : mPre T n tst 0 S s x) (hd : mDp S = d) : mRs T n tst 0 S x r := by
  have hp : x = (1, S, s) := hp
  subst hp
  unfold rX at h
  try dsimp only at h
  by_cases c1 : rB T n s.1 < n ∧ T (rB T n s.1) = 40
  · rw [if_pos c1] at h
    by_cases c2 : d = 10
    · rw [if_pos c2] at h
      have e := Option.some.inj h
      subst e
      refine mRe_f ?_
      show mS1 T n S s = _
      unfold mS1
      rw [if_pos c1, if_pos (hd.trans c2)]
    · rw [if_neg c2] at h
      rcases rC_i h with ⟨c3, rfl⟩ | ⟨c3, h⟩
      · refine mRe_f ?_
        show mS1 T n S s = _
        unfold mS1
        rw [if_pos c1, if_neg (fun z => c2 (hd.symm.trans z)), if_pos c3]
      · have st : mSt T n tst (1, S, s) = .inr (1, 50 :: S, (rB T n s.1 + 1, s.2.1 + 1, s.2.2)) := by
          show mS1 T n S s = _
          unfold mS1
          rw [if_pos c1, if_neg (fun z => c2 (hd.symm.trans z)), if_neg c3]
        have hd2 : mDp (50 :: S) = d + 1 := by
          show (if 50 = 50 ∨ 50 = 10 ∨ 50 = 13 then mDp S + 1 else _) = _
          rw [if_pos (Or.inl rfl), hd]
        rcases rK_i h with ⟨e, h1, rfl⟩ | ⟨s1, h1, h2⟩
        · exact mRe_s st (ih 3 (d + 1) _ _ (by omega) h1 (50 :: S) _ ⟨rfl, hS3_c (by decide)⟩ hd2)
        · obtain ⟨⟨ya, yS, yp, yc, yo⟩, k1, k2a, k2b, k2c, k2d, k2e, k2f, k2g⟩ := ih 3 (d + 1) _ _ (by omega) h1 (50 :: S) _ ⟨rfl, hS3_c (by decide)⟩ hd2
          dsimp only at k2a k2b k2c k2d
          subst k2a
          refine mRs_t (mRe_s st k1) ?_
          unfold rT at h2
          by_cases c4 : rB T n s1.1 < n ∧ T (rB T n s1.1) = 41
          · rw [if_pos c4] at h2
            have e := Option.some.inj h2
            subst e
            refine ⟨_, mRe_s ?_ mRe_0, rfl⟩
            show mS2 T n tst yS (yp, yc, yo) = _
            unfold mS2
            dsimp only
            rw [k2c, if_neg k2e, if_neg k2f, if_neg k2g, k2b, if_pos (show (50 :: S, s1.2.2).1.headD 0 = 50 from rfl), if_pos c4, k2d]
            rfl
          · rw [if_neg c4] at h2
            have e := Option.some.inj h2
            subst e
            refine mRe_f ?_
            show mS2 T n tst yS (yp, yc, yo) = _
            unfold mS2
            dsimp only
            rw [k2c, if_neg k2e, if_neg k2f, if_neg k2g, k2b, if_pos (show (50 :: S, s1.2.2).1.headD 0 = 50 from rfl), if_neg c4]
  · rw [if_neg c1] at h
    cases c2 : rK12 T n (rB T n s.1) with
    | some k =>
      rw [c2] at h
      dsimp only at h
      rcases rC_i h with ⟨c3, rfl⟩ | ⟨c3, h⟩
      · refine mRe_f ?_
        show mS1 T n S s = _
        unfold mS1
        rw [if_neg c1, c2]
        dsimp only
        rw [if_pos c3]
      · have e := Option.some.inj h
        subst e
        refine ⟨_, mRe_s ?_ mRe_0, rfl⟩
        show mS1 T n S s = _
        unfold mS1
        rw [if_neg c1, c2]
        dsimp only
        rw [if_neg c3]
        rfl
    | none =>
      rw [c2] at h
      dsimp only at h
      cases c3 : rM T n 99999 (rB T n s.1) with
      | inl e =>
        rw [c3] at h
        dsimp only at h
        have e := Option.some.inj h
        subst e
        refine mRe_f ?_
        show mS1 T n S s = _
        unfold mS1
        rw [if_neg c1, c2]
        dsimp only
        rw [c3]
      | inr q =>
        rw [c3] at h
        dsimp only at h
        rcases rC_i h with ⟨c4, rfl⟩ | ⟨c4, h⟩
        · refine mRe_f ?_
          show mS1 T n S s = _
          unfold mS1
          rw [if_neg c1, c2]
          dsimp only
          rw [c3]
          dsimp only
          rw [if_pos c4]
        · have e := Option.some.inj h
          subst e
          refine ⟨_, mRe_s ?_ mRe_0, rfl⟩
          show mS1 T n S s = _
          unfold mS1
          rw [if_neg c1, c2]
          dsimp only
          rw [c3]
          dsimp only
          rw [if_neg c4]
          rfl
theorem mOK_1 {f d : Nat} {s : rS} {r : Nat ⊕ rS} {S : List Nat} {x : rMs} (ih : mOK T n tst f) (h : rX T n (f + 1) 1 d s = some r) (hp : mPre T n tst 1 S s x) (hd : mDp S = d) : mRs T n tst 1 S x r := by
  obtain ⟨rfl, hS⟩ := hp
  unfold rX at h
  try dsimp only at h
  rcases rK_i h with ⟨e, h1, rfl⟩ | ⟨s1, h1, h2⟩
  · exact ih 0 d s _ (by omega) h1 S _ rfl hd
  · obtain ⟨y, k1, rfl⟩ := ih 0 d s _ (by omega) h1 S _ rfl hd
    have k := mRs_t k1 (ih 2 d s1 r (by omega) h2 S (2, S, s1) ⟨rfl, mT_n hS, rfl, rfl, hS⟩ hd)
    match r, k with
    | .inl e, k => exact k
    | .inr s, k => exact k
theorem mOK_2 {f d : Nat} {s : rS} {r : Nat ⊕ rS} {S : List Nat} {x : rMs} (ih : mOK T n tst f) (h : rX T n (f + 1) 2 d s = some r) (hp : mPre T n tst 2 S s x) (hd : mDp S = d) : mRs T n tst 2 S x r := by
  obtain ⟨a, X, p, c, o⟩ := x
  obtain ⟨h1, h2, h3, h4, hS⟩ := hp
  dsimp only at h1 h2 h3 h4
  subst h1
  unfold rX at h
  try dsimp only at h
  by_cases c1 : rB T n s.1 < n ∧ T (rB T n s.1) = 42
  · rw [if_pos c1] at h
    have st : mSt T n tst (2, X, p, c, o) = .inr (1, 102 :: S, rA (rB T n s.1 + 1) s) := by
      show mS2 T n tst X (p, c, o) = _
      unfold mS2
      dsimp only
      rw [h3, if_pos c1, h2, h4]
      rfl
    have hd2 : mDp (102 :: S) = d := (mDp_s (by decide) (by decide) (by decide)).trans hd
    rcases rK_i h with ⟨e, g1, rfl⟩ | ⟨s1, g1, g2⟩
    · exact mRe_s st (ih 0 d _ _ (by omega) g1 (102 :: S) _ rfl hd2)
    · obtain ⟨y, k1, rfl⟩ := ih 0 d _ _ (by omega) g1 (102 :: S) _ rfl hd2
      refine mRs_t (mRe_s st k1) (ih 2 d _ r (by omega) g2 S (2, 102 :: S, s1) ⟨rfl, ?_, rfl, rfl, hS⟩ hd)
      show (if 102 = 102 then mT S (s1.2.2 ++ [100102]) else _) = _
      rw [if_pos rfl, mT_n hS]
      rfl
  · rw [if_neg c1] at h
    have e := Option.some.inj h
    subst e
    refine ⟨(2, X, p, c, o), mRe_0, rfl, h2, h3.trans rB_2.symm, h4, ?_⟩
    show mNo T n (rB T n (rB T n s.1)) 42
    rw [rB_2]
    exact c1
theorem mOK_3 {f d : Nat} {s : rS} {r : Nat ⊕ rS} {S : List Nat} {x : rMs} (ih : mOK T n tst f) (h : rX T n (f + 1) 3 d s = some r) (hp : mPre T n tst 3 S s x) (hd : mDp S = d) : mRs T n tst 3 S x r := by
  obtain ⟨rfl, hS⟩ := hp
  unfold rX at h
  try dsimp only at h
  rcases rK_i h with ⟨e, h1, rfl⟩ | ⟨s1, h1, h2⟩
  · exact ih 1 d s _ (by omega) h1 S _ ⟨rfl, hS.1⟩ hd
  · obtain ⟨y, k1, k2, k3, k4, k5, k6⟩ := ih 1 d s _ (by omega) h1 S _ ⟨rfl, hS.1⟩ hd
    have k := mRs_t k1 (ih 4 d s1 r (by omega) h2 S y ⟨k2, by unfold mS; rw [k3]; exact mPm_n hS.2.1 hS.2.2, k4, k5, hS, k6⟩ hd)
    match r, k with
    | .inl e, k => exact k
    | .inr s, k => exact k
theorem mOK_4 {f d : Nat} {s : rS} {r : Nat ⊕ rS} {S : List Nat} {x : rMs} (ih : mOK T n tst f) (h : rX T n (f + 1) 4 d s = some r) (hp : mPre T n tst 4 S s x) (hd : mDp S = d) : mRs T n tst 4 S x r := by
  obtain ⟨a, X, p, c, o⟩ := x
  obtain ⟨h1, h2, h3, h4, hS, h5⟩ := hp
  dsimp only at h1 h2 h3 h4
  subst h1
  unfold rX at h
  try dsimp only at h
  by_cases c1 : rB T n s.1 < n ∧ T (rB T n s.1) = 43
  · rw [if_pos c1] at h
    have st : mSt T n tst (2, X, p, c, o) = .inr (1, 103 :: S, rA (rB T n s.1 + 1) s) := by
      show mS2 T n tst X (p, c, o) = _
      unfold mS2
      dsimp only
      rw [h3, if_neg h5, if_pos c1, h2, h4]
      rfl
    have hd2 : mDp (103 :: S) = d := (mDp_s (by decide) (by decide) (by decide)).trans hd
    have hS1 : hS1 (103 :: S) := (by decide : (103 : Nat) ≠ 102)
    rcases rK_i h with ⟨e, g1, rfl⟩ | ⟨s1, g1, g2⟩
    · exact mRe_s st (ih 1 d _ _ (by omega) g1 (103 :: S) _ ⟨rfl, hS1⟩ hd2)
    · obtain ⟨y, k1, k2, k3, k4, k5, k6⟩ := ih 1 d _ _ (by omega) g1 (103 :: S) _ ⟨rfl, hS1⟩ hd2
      refine mRs_t (mRe_s st k1) (ih 4 d _ r (by omega) g2 S y ⟨k2, ?_, k4, k5, hS, k6⟩ hd)
      unfold mS
      rw [k3]
      show (if 103 = 103 then mPm S (s1.2.2 ++ [100100]) else _) = _
      rw [if_pos rfl, mPm_n hS.2.1 hS.2.2]
      rfl
  · rw [if_neg c1] at h
    by_cases c2 : rB T n s.1 < n ∧ T (rB T n s.1) = 45
    · rw [if_pos c2] at h
      have st : mSt T n tst (2, X, p, c, o) = .inr (1, 104 :: S, rA (rB T n s.1 + 1) s) := by
        show mS2 T n tst X (p, c, o) = _
        unfold mS2
        dsimp only
        rw [h3, if_neg h5, if_neg c1, if_pos c2, h2, h4]
        rfl
      have hd2 : mDp (104 :: S) = d := (mDp_s (by decide) (by decide) (by decide)).trans hd
      have hS1 : hS1 (104 :: S) := (by decide : (104 : Nat) ≠ 102)
      rcases rK_i h with ⟨e, g1, rfl⟩ | ⟨s1, g1, g2⟩
      · exact mRe_s st (ih 1 d _ _ (by omega) g1 (104 :: S) _ ⟨rfl, hS1⟩ hd2)
      · obtain ⟨y, k1, k2, k3, k4, k5, k6⟩ := ih 1 d _ _ (by omega) g1 (104 :: S) _ ⟨rfl, hS1⟩ hd2
        refine mRs_t (mRe_s st k1) (ih 4 d _ r (by omega) g2 S y ⟨k2, ?_, k4, k5, hS, k6⟩ hd)
        unfold mS
        rw [k3]
        show (if 104 = 103 then _ else if 104 = 104 then mPm S (s1.2.2 ++ [100101]) else _) = _
        rw [if_neg (by decide), if_pos rfl, mPm_n hS.2.1 hS.2.2]
        rfl
    · rw [if_neg c2] at h
      have e := Option.some.inj h
      subst e
      refine ⟨(2, X, p, c, o), mRe_0, rfl, h2, h3.trans rB_2.symm, h4, ?_, ?_, ?_⟩
      · show mNo T n (rB T n (rB T n s.1)) 42
        rw [rB_2]
        exact h5
      · show mNo T n (rB T n (rB T n s.1)) 43
        rw [rB_2]
        exact c1
      · show mNo T n (rB T n (rB T n s.1)) 45
        rw [rB_2]
        exact c2
theorem mOK_5 {f d : Nat} {s : rS} {r : Nat ⊕ rS} {S : List Nat} {x : rMs} (ih : mOK T n tst f) (h : rX T n (f + 1) 5 d s = some r) (hp : mPre T n tst 5 S s x) (hd : mDp S = d) : mRs T n tst 5 S x r := by
  obtain ⟨rfl, hS, ht⟩ := hp
  unfold rX at h
  try dsimp only at h
  rcases rK_i h with ⟨e, h1, rfl⟩ | ⟨s1, h1, h⟩
  · exact ih 3 d s _ (by omega) h1 S _ ⟨rfl, hS.1⟩ hd
  · obtain ⟨⟨ya, yS, yp, yc, yo⟩, k1, k2a, k2b, k2c, k2d, k2e, k2f, k2g⟩ := ih 3 d s _ (by omega) h1 S _ ⟨rfl, hS.1⟩ hd
    dsimp only at k2a k2b k2c k2d
    subst k2a
    refine mRs_t k1 ?_
    cases c1 : rCm T n (rB T n s1.1) with
    | none =>
      rw [c1] at h
      dsimp only at h
      have e := Option.some.inj h
      subst e
      refine mRe_f ?_
      show mS2 T n tst yS (yp, yc, yo) = _
      unfold mS2
      dsimp only
      rw [k2c, if_neg k2e, if_neg k2f, if_neg k2g, k2b, if_neg hS.2.1, if_pos ht, if_neg hS.2.2, c1]
    | some q =>
      rw [c1] at h
      dsimp only at h
      obtain ⟨q1, q2, -⟩ := rCm_r c1
      rcases rC_i h with ⟨c3, rfl⟩ | ⟨c3, h⟩
      · refine mRe_f ?_
        show mS2 T n tst yS (yp, yc, yo) = _
        unfold mS2
        dsimp only
        rw [k2c, if_neg k2e, if_neg k2f, if_neg k2g, k2b, if_neg hS.2.1, if_pos ht, if_neg hS.2.2, c1]
        dsimp only
        rw [if_pos (k2d.trans c3)]
      · have st : mSt T n tst (2, yS, yp, yc, yo) = .inr (1, (q.1 - 99898) :: S, (q.2, s1.2.1 + 1, s1.2.2)) := by
          show mS2 T n tst yS (yp, yc, yo) = _
          unfold mS2
          dsimp only
          rw [k2c, if_neg k2e, if_neg k2f, if_neg k2g, k2b, if_neg hS.2.1, if_pos ht, if_neg hS.2.2, c1]
          dsimp only
          rw [k2d, if_neg c3]
        obtain ⟨z, hz⟩ : ∃ z, q.1 - 99898 = z := ⟨_, rfl⟩
        have z1 : 205 ≤ z := by omega
        have z2 : z ≤ 209 := by omega
        have z3 : z + 99898 = q.1 := by omega
        rw [hz] at st
        clear hz
        have hd2 : mDp (z :: S) = d := (mDp_s (by omega) (by omega) (by omega)).trans hd
        have hS3 : hS3 (z :: S) := hS3_c ⟨by omega, by omega, by omega⟩
        rcases rK_i h with ⟨e, g1, rfl⟩ | ⟨s3, g1, g2⟩
        · exact mRe_s st (ih 3 d _ _ (by omega) g1 _ _ ⟨rfl, hS3⟩ hd2)
        · obtain ⟨⟨za, zS, zp, zc, zo⟩, l1, l2a, l2b, l2c, l2d, l2e, l2f, l2g⟩ := ih 3 d _ _ (by omega) g1 _ _ ⟨rfl, hS3⟩ hd2
          dsimp only at l2a l2b l2c l2d
          subst l2a
          refine mRs_t (mRe_s st l1) ?_
          have e := Option.some.inj g2
          subst e
          refine ⟨(3, S, (rB T n s3.1, s3.2.1, s3.2.2 ++ [q.1])), mRe_s ?_ mRe_0, rfl, rfl, rfl, rB_2, rfl⟩
          show mS2 T n tst zS (zp, zc, zo) = _
          unfold mS2
          dsimp only
          rw [l2c, if_neg l2e, if_neg l2f, if_neg l2g, l2b, if_neg (show ¬ (z :: S, s3.2.2).1.headD 0 = 50 from fun w => by have w : z = 50 := w; omega), if_pos ht, if_pos (show 205 ≤ (z :: S, s3.2.2).1.headD 0 ∧ (z :: S, s3.2.2).1.headD 0 ≤ 209 from ⟨z1, z2⟩), l2d, ← z3]
          rfl
theorem rX_6 {f d : Nat} {s : rS} : rX T n (f + 1) 6 d s = (if rW T n (rB T n s.1) (rWd 19) = true then (if d = 10 then rF (rB T n s.1) 2 else rK (rX T n f 6 (d + 1) (rA (rB T n s.1 + 3) s)) (fun s1 => rO (rU 100110 s1)))
      else if rB T n s.1 < n ∧ T (rB T n s.1) = 91 then (if d = 10 then rF (rB T n s.1) 2 else rK (rX T n f 9 (d + 1) (rA (rB T n s.1 + 1) s)) (rT T n 93))
      else rX T n f 5 d (rA (rB T n s.1) s)) := rfl
theorem mOK_6 {f d : Nat} {s : rS} {r : Nat ⊕ rS} {S : List Nat} {x : rMs} (ih : mOK T n tst f) (h : rX T n (f + 1) 6 d s = some r) (hp : mPre T n tst 6 S s x) (hd : mDp S = d) : mRs T n tst 6 S x r := by
  obtain ⟨rfl, hS, ht⟩ := hp
  rw [rX_6] at h
  by_cases c1 : rW T n (rB T n s.1) (rWd 19) = true
  · rw [if_pos c1] at h
    by_cases c2 : d = 10
    · rw [if_pos c2] at h
      have e := Option.some.inj h
      subst e
      refine mRe_f ?_
      show mS0 T n S s = _
      unfold mS0
      rw [if_pos c1, if_pos (hd.trans c2)]
    · rw [if_neg c2] at h
      have st : mSt T n tst (0, S, s) = .inr (0, 10 :: S, rA (rB T n s.1 + 3) s) := by
        show mS0 T n S s = _
        unfold mS0
        rw [if_pos c1, if_neg (fun z => c2 (hd.symm.trans z))]
      have hd2 : mDp (10 :: S) = d + 1 := by
        show (if 10 = 50 ∨ 10 = 10 ∨ 10 = 13 then mDp S + 1 else _) = _
        rw [if_pos (Or.inr (Or.inl rfl)), hd]
      rcases rK_i h with ⟨e, g1, rfl⟩ | ⟨s1, g1, g2⟩
      · exact mRe_s st (ih 6 (d + 1) _ _ (by omega) g1 _ _ ⟨rfl, hS5_c (by decide), ht⟩ hd2)
      · obtain ⟨y, k1, k2, ⟨k, k3, k4⟩, k5, k6⟩ := ih 6 (d + 1) _ _ (by omega) g1 _ _ ⟨rfl, hS5_c (by decide), ht⟩ hd2
        have e := Option.some.inj g2
        subst e
        refine ⟨y, mRe_s st k1, k2, ⟨k + 1, ?_, ?_⟩, k5, k6⟩
        · rw [k3, List.replicate_succ', List.append_assoc]
          rfl
        · show s1.2.2 ++ [100110] = _
          rw [k4, List.replicate_succ', List.append_assoc]
  · rw [if_neg c1] at h
    by_cases c3 : rB T n s.1 < n ∧ T (rB T n s.1) = 91
    · rw [if_pos c3] at h
      by_cases c2 : d = 10
      · rw [if_pos c2] at h
        have e := Option.some.inj h
        subst e
        refine mRe_f ?_
        show mS0 T n S s = _
        unfold mS0
        rw [if_neg c1, if_pos c3, if_pos (hd.trans c2)]
      · rw [if_neg c2] at h
        have st : mSt T n tst (0, S, s) = .inr (0, 13 :: S, rA (rB T n s.1 + 1) s) := by
          show mS0 T n S s = _
          unfold mS0
          rw [if_neg c1, if_pos c3, if_neg (fun z => c2 (hd.symm.trans z))]
        have hd2 : mDp (13 :: S) = d + 1 := by
          show (if 13 = 50 ∨ 13 = 10 ∨ 13 = 13 then mDp S + 1 else _) = _
          rw [if_pos (Or.inr (Or.inr rfl)), hd]
        rcases rK_i h with ⟨e, g1, rfl⟩ | ⟨s1, g1, h2⟩
        · exact mRe_s st (ih 9 (d + 1) _ _ (by omega) g1 _ _ ⟨rfl, hS9_c (by decide), ht⟩ hd2)
        · obtain ⟨⟨ya, yS, yp, yc, yo⟩, k1, k2, k3, k4, k5, k6, k7⟩ := ih 9 (d + 1) _ _ (by omega) g1 _ _ ⟨rfl, hS9_c (by decide), ht⟩ hd2
          dsimp only at k2 k3 k4 k5
          subst k2
          refine mRs_t (mRe_s st k1) ?_
          unfold rT at h2
          by_cases c4 : rB T n s1.1 < n ∧ T (rB T n s1.1) = 93
          · rw [if_pos c4] at h2
            have e := Option.some.inj h2
            subst e
            refine ⟨(3, S, rA (rB T n s1.1 + 1) s1), mRe_s ?_ mRe_0, rfl, ⟨0, rfl, (List.append_nil _).symm⟩, rfl, rfl⟩
            show mS3 T n yS (yp, yc, yo) = _
            unfold mS3
            dsimp only
            rw [k4, if_neg k6, if_neg k7, k3, if_pos (show (13 :: S, s1.2.2).1.headD 0 = 13 from rfl), if_pos c4, k5]
            rfl
          · rw [if_neg c4] at h2
            have e := Option.some.inj h2
            subst e
            refine mRe_f ?_
            show mS3 T n yS (yp, yc, yo) = _
            unfold mS3
            dsimp only
            rw [k4, if_neg k6, if_neg k7, k3, if_pos (show (13 :: S, s1.2.2).1.headD 0 = 13 from rfl), if_neg c4]
    · rw [if_neg c3] at h
      have st : mSt T n tst (0, S, s) = .inr (1, S, rA (rB T n s.1) s) := by
        show mS0 T n S s = _
        unfold mS0
        rw [if_neg c1, if_neg c3]
      have k := mRs_t (mRe_s st mRe_0) (ih 5 d _ r (by omega) h S _ ⟨rfl, hS, ht⟩ hd)
      match r, k with
      | .inl e, k => exact k
      | .inr s, ⟨y, k1, k2, k3, k4, k5, k6⟩ => exact ⟨y, k1, k2, ⟨0, k3, by rw [k4]; exact (List.append_nil _).symm⟩, k5, k6⟩
theorem mOK_7 {f d : Nat} {s : rS} {r : Nat ⊕ rS} {S : List Nat} {x : rMs} (ih : mOK T n tst f) (h : rX T n (f + 1) 7 d s = some r) (hp : mPre T n tst 7 S s x) (hd : mDp S = d) : mRs T n tst 7 S x r := by
  obtain ⟨rfl, hS, ht⟩ := hp
  unfold rX at h
  try dsimp only at h
  rcases rK_i h with ⟨e, h1, rfl⟩ | ⟨s1, h1, h2⟩
  · exact ih 6 d s _ (by omega) h1 S _ ⟨rfl, hS.1, ht⟩ hd
  · obtain ⟨y, k1, k2, ⟨j, k3, k4⟩, k5, k6⟩ := ih 6 d s _ (by omega) h1 S _ ⟨rfl, hS.1, ht⟩ hd
    have k := mRs_t k1 (ih 8 d s1 r (by omega) h2 S y ⟨k2, by rw [k3, mN_r hS.2.1, ← k4]; exact mA_n hS.2.2, k5, k6, hS, ht⟩ hd)
    match r, k with
    | .inl e, k => exact k
    | .inr s, k => exact k
theorem mOK_8 {f d : Nat} {s : rS} {r : Nat ⊕ rS} {S : List Nat} {x : rMs} (ih : mOK T n tst f) (h : rX T n (f + 1) 8 d s = some r) (hp : mPre T n tst 8 S s x) (hd : mDp S = d) : mRs T n tst 8 S x r := by
  obtain ⟨a, X, p, c, o⟩ := x
  obtain ⟨h1, h2, h3, h4, hS, ht⟩ := hp
  dsimp only at h1 h2 h3 h4
  subst h1
  unfold rX at h
  try dsimp only at h
  by_cases c1 : rW T n (rB T n s.1) (rWd 18) = true
  · rw [if_pos c1] at h
    have st : mSt T n tst (3, X, p, c, o) = .inr (0, 11 :: S, rA (rB T n s.1 + 3) s) := by
      show mS3 T n X (p, c, o) = _
      unfold mS3
      dsimp only
      rw [h3, if_pos c1, h2, h4]
      rfl
    have hd2 : mDp (11 :: S) = d := (mDp_s (by decide) (by decide) (by decide)).trans hd
    rcases rK_i h with ⟨e, g1, rfl⟩ | ⟨s1, g1, g2⟩
    · exact mRe_s st (ih 6 d _ _ (by omega) g1 _ _ ⟨rfl, hS5_c (by decide), ht⟩ hd2)
    · obtain ⟨y, k1, k2, ⟨j, k3, k4⟩, k5, k6⟩ := ih 6 d _ _ (by omega) g1 _ _ ⟨rfl, hS5_c (by decide), ht⟩ hd2
      refine mRs_t (mRe_s st k1) (ih 8 d _ r (by omega) g2 S y ⟨k2, ?_, k5, k6, hS, ht⟩ hd)
      rw [k3, mN_r (S := 11 :: S) (show (11 : Nat) ≠ 10 by decide), ← k4]
      show (if 11 = 11 then mA S (s1.2.2 ++ [100109]) else _) = _
      rw [if_pos rfl, mA_n hS.2.2]
      rfl
  · rw [if_neg c1] at h
    have e := Option.some.inj h
    subst e
    refine ⟨(3, X, p, c, o), mRe_0, rfl, h2, h3.trans rB_2.symm, h4, ?_⟩
    show ¬ rW T n (rB T n (rB T n s.1)) (rWd 18) = true
    rw [rB_2]
    exact c1
theorem mOK_9 {f d : Nat} {s : rS} {r : Nat ⊕ rS} {S : List Nat} {x : rMs} (ih : mOK T n tst f) (h : rX T n (f + 1) 9 d s = some r) (hp : mPre T n tst 9 S s x) (hd : mDp S = d) : mRs T n tst 9 S x r := by
  obtain ⟨rfl, hS, ht⟩ := hp
  unfold rX at h
  try dsimp only at h
  rcases rK_i h with ⟨e, h1, rfl⟩ | ⟨s1, h1, h2⟩
  · exact ih 7 d s _ (by omega) h1 S _ ⟨rfl, hS.1, ht⟩ hd
  · obtain ⟨y, k1, k2, k3, k4, k5, k6⟩ := ih 7 d s _ (by omega) h1 S _ ⟨rfl, hS.1, ht⟩ hd
    have k := mRs_t k1 (ih 10 d s1 r (by omega) h2 S y ⟨k2, by unfold mO; rw [k3]; exact mO1_n hS.2, k4, k5, hS, ht, k6⟩ hd)
    match r, k with
    | .inl e, k => exact k
    | .inr s, k => exact k
theorem mOK_10 {f d : Nat} {s : rS} {r : Nat ⊕ rS} {S : List Nat} {x : rMs} (ih : mOK T n tst f) (h : rX T n (f + 1) 10 d s = some r) (hp : mPre T n tst 10 S s x) (hd : mDp S = d) : mRs T n tst 10 S x r := by
  obtain ⟨a, X, p, c, o⟩ := x
  obtain ⟨h1, h2, h3, h4, hS, ht, h5⟩ := hp
  dsimp only at h1 h2 h3 h4
  subst h1
  unfold rX at h
  try dsimp only at h
  by_cases c1 : rW T n (rB T n s.1) (rWd 17) = true
  · rw [if_pos c1] at h
    have st : mSt T n tst (3, X, p, c, o) = .inr (0, 12 :: S, rA (rB T n s.1 + 2) s) := by
      show mS3 T n X (p, c, o) = _
      unfold mS3
      dsimp only
      rw [h3, if_neg h5, if_pos c1, h2, h4]
      rfl
    have hd2 : mDp (12 :: S) = d := (mDp_s (by decide) (by decide) (by decide)).trans hd
    rcases rK_i h with ⟨e, g1, rfl⟩ | ⟨s1, g1, g2⟩
    · exact mRe_s st (ih 7 d _ _ (by omega) g1 _ _ ⟨rfl, hS7_c (by decide), ht⟩ hd2)
    · obtain ⟨y, k1, k2, k3, k4, k5, k6⟩ := ih 7 d _ _ (by omega) g1 _ _ ⟨rfl, hS7_c (by decide), ht⟩ hd2
      refine mRs_t (mRe_s st k1) (ih 10 d _ r (by omega) g2 S y ⟨k2, ?_, k4, k5, hS, ht, k6⟩ hd)
      unfold mO
      rw [k3]
      show (if 12 = 12 then mO1 S (s1.2.2 ++ [100108]) else _) = _
      rw [if_pos rfl, mO1_n hS.2]
      rfl
  · rw [if_neg c1] at h
    have e := Option.some.inj h
    subst e
    refine ⟨(3, X, p, c, o), mRe_0, rfl, h2, h3.trans rB_2.symm, h4, ?_, ?_⟩
    · show ¬ rW T n (rB T n (rB T n s.1)) (rWd 18) = true
      rw [rB_2]
      exact h5
    · show ¬ rW T n (rB T n (rB T n s.1)) (rWd 17) = true
      rw [rB_2]
      exact c1
theorem mOK_all : ∀ f, mOK T n tst f
  | 0 => fun m d s r _ h => by
    have h : (none : rR) = some r := h
    cases h
  | f + 1 => by
    have ih := mOK_all f
    intro m d s r hm h S x hp hd
    match m, hm, h, hp with
    | 0, _, h, hp => exact mOK_v ih h hp hd
    | 1, _, h, hp => exact mOK_1 ih h hp hd
    | 2, _, h, hp => exact mOK_2 ih h hp hd
    | 3, _, h, hp => exact mOK_3 ih h hp hd
    | 4, _, h, hp => exact mOK_4 ih h hp hd
    | 5, _, h, hp => exact mOK_5 ih h hp hd
    | 6, _, h, hp => exact mOK_6 ih h hp hd
    | 7, _, h, hp => exact mOK_7 ih h hp hd
    | 8, _, h, hp => exact mOK_8 ih h hp hd
    | 9, _, h, hp => exact mOK_9 ih h hp hd
    | 10, _, h, hp => exact mOK_10 ih h hp hd
    | m + 11, hm, _, _ => exact absurd hm (by omega)
/-- a sum, a test: to the reader's end -/
noncomputable def mEnd : Nat ⊕ rS → rMo
  | .inl e => .inl e
  | .inr s => .inr (4, [], s)
theorem mSum {f : Nat} {s : rS} {r : Nat ⊕ rS} (h : rX T n f 3 0 s = some r) : mRe T n false (1, [], s) (mEnd (r.map id (fun z => rA (rB T n z.1) z))) := by
  have k := mOK_all (T := T) (n := n) (tst := false) f 3 0 s r (by omega) h [] (1, [], s) ⟨rfl, by decide, by decide, by decide⟩ rfl
  match r, k with
  | .inl e, k => exact k
  | .inr s1, ⟨⟨ya, yS, yp, yc, yo⟩, k1, k2a, k2b, k2c, k2d, k2e, k2f, k2g⟩ =>
    dsimp only at k2a k2b k2c k2d
    subst k2a
    refine mRe_t k1 (mRe_s ?_ mRe_0)
    show mS2 T n false yS (yp, yc, yo) = _
    unfold mS2
    dsimp only
    rw [k2c, if_neg k2e, if_neg k2f, if_neg k2g, k2b, if_neg (show ¬ (([] : List Nat), s1.2.2).1.headD 0 = 50 from fun z => by cases z), if_neg (show ¬ false = true by decide), k2d]
    rfl
theorem mTst {f : Nat} {s : rS} {r : Nat ⊕ rS} (h : rX T n f 9 0 s = some r) : mRe T n true (0, [], s) (mEnd (r.map id (fun z => rA (rB T n z.1) z))) := by
  have k := mOK_all (T := T) (n := n) (tst := true) f 9 0 s r (by omega) h [] (0, [], s) ⟨rfl, ⟨⟨⟨⟨by decide, by decide, by decide⟩, by decide, by decide⟩, by decide, by decide⟩, by decide⟩, rfl⟩ rfl
  match r, k with
  | .inl e, k => exact k
  | .inr s1, ⟨⟨ya, yS, yp, yc, yo⟩, k1, k2, k3, k4, k5, k6, k7⟩ =>
    dsimp only at k2 k3 k4 k5
    subst k2
    refine mRe_t k1 (mRe_s ?_ mRe_0)
    show mS3 T n yS (yp, yc, yo) = _
    unfold mS3
    dsimp only
    rw [k4, if_neg k6, if_neg k7, k3, if_neg (show ¬ (([] : List Nat), s1.2.2).1.headD 0 = 13 from fun z => by cases z), k5]
    rfl
end MR
/-! the reader that goes down: what its steps come to -/
/-- sooner or later: this is what is read -/
noncomputable def pE (T : Nat → Int32) (n m d : Nat) (s : rS) (r : Nat ⊕ rS) : Prop := ∃ N, ∀ M, N ≤ M → rX T n M m d s = some r
section PE
variable {T : Nat → Int32} {n d : Nat} {s s1 : rS} {r : Nat ⊕ rS} {e : Nat}
theorem pE_of {m : Nat} (h : ∀ M, rX T n (M + 1) m d s = some r) : pE T n m d s r := ⟨1, fun M hM => by
  obtain ⟨M2, rfl⟩ : ∃ M2, M = M2 + 1 := ⟨M - 1, by omega⟩
  exact h M2⟩
theorem pE_o1 {m m1 d1 : Nat} {s1 : rS} {r1 : Nat ⊕ rS} (k : pE T n m1 d1 s1 r1) (h : ∀ M, rX T n M m1 d1 s1 = some r1 → rX T n (M + 1) m d s = some r) : pE T n m d s r := by
  obtain ⟨N, k⟩ := k
  refine ⟨N + 1, fun M hM => ?_⟩
  obtain ⟨M2, rfl⟩ : ∃ M2, M = M2 + 1 := ⟨M - 1, by omega⟩
  exact h M2 (k M2 (by omega))
theorem pE_o2 {m m1 d1 m2 d2 : Nat} {s1 s2 : rS} {r1 r2 : Nat ⊕ rS} (k : pE T n m1 d1 s1 r1) (k2 : pE T n m2 d2 s2 r2) (h : ∀ M, rX T n M m1 d1 s1 = some r1 → rX T n M m2 d2 s2 = some r2 → rX T n (M + 1) m d s = some r) : pE T n m d s r := by
  obtain ⟨N, k⟩ := k
  obtain ⟨N2, k2⟩ := k2
  refine ⟨N + N2 + 1, fun M hM => ?_⟩
  obtain ⟨M2, rfl⟩ : ∃ M2, M = M2 + 1 := ⟨M - 1, by omega⟩
  exact h M2 (k M2 (by omega)) (k2 M2 (by omega))
theorem rK_r {x : rR} {k : rS → rR} (h : x = some (.inr s1)) : rK x k = k s1 := by rw [h]; rfl
theorem rK_l {x : rR} {k : rS → rR} (h : x = some (.inl e)) : rK x k = some (.inl e) := by rw [h]; rfl
-- a pair of modes: first this, then the rest of it
theorem pE_q {a b c : Nat} (hm : (a, b, c) = (1, 0, 2) ∨ (a, b, c) = (3, 1, 4) ∨ (a, b, c) = (7, 6, 8) ∨ (a, b, c) = (9, 7, 10)) (k : pE T n b d s (.inr s1)) (k2 : pE T n c d s1 r) : pE T n a d s r := by
  refine pE_o2 k k2 (fun M h1 h2 => ?_)
  rcases hm with e | e | e | e <;> cases e <;> exact (rK_r h1).trans h2
theorem pE_qf {a b c : Nat} (hm : (a, b, c) = (1, 0, 2) ∨ (a, b, c) = (3, 1, 4) ∨ (a, b, c) = (7, 6, 8) ∨ (a, b, c) = (9, 7, 10)) (k : pE T n b d s (.inl e)) : pE T n a d s (.inl e) := by
  refine pE_o1 k (fun M h1 => ?_)
  rcases hm with e | e | e | e <;> cases e <;> exact rK_l h1
-- the rest of a product, of facts, of a test
theorem pE_2y (hc : rB T n s.1 < n ∧ T (rB T n s.1) = 42) (k : pE T n 0 d (rA (rB T n s.1 + 1) s) (.inr s1)) (k2 : pE T n 2 d (rU 100102 s1) r) : pE T n 2 d s r :=
  pE_o2 k k2 (fun M h1 h2 => (if_pos hc).trans ((rK_r h1).trans h2))
theorem pE_2f (hc : rB T n s.1 < n ∧ T (rB T n s.1) = 42) (k : pE T n 0 d (rA (rB T n s.1 + 1) s) (.inl e)) : pE T n 2 d s (.inl e) :=
  pE_o1 k (fun M h1 => (if_pos hc).trans (rK_l h1))
theorem pE_2n (hc : ¬ (rB T n s.1 < n ∧ T (rB T n s.1) = 42)) : pE T n 2 d s (.inr (rA (rB T n s.1) s)) := pE_of (fun M => if_neg hc)
theorem pE_8y (hc : rW T n (rB T n s.1) (rWd 18) = true) (k : pE T n 6 d (rA (rB T n s.1 + 3) s) (.inr s1)) (k2 : pE T n 8 d (rU 100109 s1) r) : pE T n 8 d s r :=
  pE_o2 k k2 (fun M h1 h2 => (if_pos hc).trans ((rK_r h1).trans h2))
theorem pE_8f (hc : rW T n (rB T n s.1) (rWd 18) = true) (k : pE T n 6 d (rA (rB T n s.1 + 3) s) (.inl e)) : pE T n 8 d s (.inl e) :=
  pE_o1 k (fun M h1 => (if_pos hc).trans (rK_l h1))
theorem pE_8n (hc : ¬ rW T n (rB T n s.1) (rWd 18) = true) : pE T n 8 d s (.inr (rA (rB T n s.1) s)) := pE_of (fun M => if_neg hc)
theorem pE_10y (hc : rW T n (rB T n s.1) (rWd 17) = true) (k : pE T n 7 d (rA (rB T n s.1 + 2) s) (.inr s1)) (k2 : pE T n 10 d (rU 100108 s1) r) : pE T n 10 d s r :=
  pE_o2 k k2 (fun M h1 h2 => (if_pos hc).trans ((rK_r h1).trans h2))
theorem pE_10f (hc : rW T n (rB T n s.1) (rWd 17) = true) (k : pE T n 7 d (rA (rB T n s.1 + 2) s) (.inl e)) : pE T n 10 d s (.inl e) :=
  pE_o1 k (fun M h1 => (if_pos hc).trans (rK_l h1))
theorem pE_10n (hc : ¬ rW T n (rB T n s.1) (rWd 17) = true) : pE T n 10 d s (.inr (rA (rB T n s.1) s)) := pE_of (fun M => if_neg hc)
-- the rest of a sum
theorem ne_43 {b : Nat} (h : b < n ∧ T b = 45) : ¬ (b < n ∧ T b = 43) := fun z => absurd (z.2.symm.trans h.2) (by decide)
theorem pE_4p (hc : rB T n s.1 < n ∧ T (rB T n s.1) = 43) (k : pE T n 1 d (rA (rB T n s.1 + 1) s) (.inr s1)) (k2 : pE T n 4 d (rU 100100 s1) r) : pE T n 4 d s r :=
  pE_o2 k k2 (fun M h1 h2 => (if_pos hc).trans ((rK_r h1).trans h2))
theorem pE_4pf (hc : rB T n s.1 < n ∧ T (rB T n s.1) = 43) (k : pE T n 1 d (rA (rB T n s.1 + 1) s) (.inl e)) : pE T n 4 d s (.inl e) :=
  pE_o1 k (fun M h1 => (if_pos hc).trans (rK_l h1))
theorem pE_4m (hc : rB T n s.1 < n ∧ T (rB T n s.1) = 45) (k : pE T n 1 d (rA (rB T n s.1 + 1) s) (.inr s1)) (k2 : pE T n 4 d (rU 100101 s1) r) : pE T n 4 d s r :=
  pE_o2 k k2 (fun M h1 h2 => (if_neg (ne_43 hc)).trans ((if_pos hc).trans ((rK_r h1).trans h2)))
theorem pE_4mf (hc : rB T n s.1 < n ∧ T (rB T n s.1) = 45) (k : pE T n 1 d (rA (rB T n s.1 + 1) s) (.inl e)) : pE T n 4 d s (.inl e) :=
  pE_o1 k (fun M h1 => (if_neg (ne_43 hc)).trans ((if_pos hc).trans (rK_l h1)))
theorem pE_4n (h1 : ¬ (rB T n s.1 < n ∧ T (rB T n s.1) = 43)) (h2 : ¬ (rB T n s.1 < n ∧ T (rB T n s.1) = 45)) : pE T n 4 d s (.inr (rA (rB T n s.1) s)) := pE_of (fun M => (if_neg h1).trans (if_neg h2))
-- a comparison
theorem pE_5a (k : pE T n 3 d s (.inl e)) : pE T n 5 d s (.inl e) := pE_o1 k (fun M h1 => rK_l h1)
theorem pE_5b (k : pE T n 3 d s (.inr s1)) (h : rCm T n (rB T n s1.1) = none) : pE T n 5 d s (.inl (1 + 8 * rB T n s1.1 + 0)) :=
  pE_o1 k (fun M h1 => (rK_r h1).trans (by (try dsimp only); rw [h]; rfl))
theorem pE_5c {q : Nat × Nat} (k : pE T n 3 d s (.inr s1)) (h : rCm T n (rB T n s1.1) = some q) (h8 : s1.2.1 = 80) : pE T n 5 d s (.inl (1 + 8 * rB T n s1.1 + 3)) :=
  pE_o1 k (fun M h1 => (rK_r h1).trans (by (try dsimp only); rw [h]; (try dsimp only); unfold rC; rw [if_pos h8]; rfl))
theorem pE_5d {q : Nat × Nat} (k : pE T n 3 d s (.inr s1)) (h : rCm T n (rB T n s1.1) = some q) (h8 : s1.2.1 ≠ 80) (k2 : pE T n 3 d (q.2, s1.2.1 + 1, s1.2.2) (.inl e)) : pE T n 5 d s (.inl e) :=
  pE_o2 k k2 (fun M h1 h2 => (rK_r h1).trans (by (try dsimp only); rw [h]; (try dsimp only); unfold rC; rw [if_neg h8]; show rK (rX T n M 3 d (q.2, s1.2.1 + 1, s1.2.2)) _ = _; exact rK_l h2))
theorem pE_5e {q : Nat × Nat} {s3 : rS} (k : pE T n 3 d s (.inr s1)) (h : rCm T n (rB T n s1.1) = some q) (h8 : s1.2.1 ≠ 80) (k2 : pE T n 3 d (q.2, s1.2.1 + 1, s1.2.2) (.inr s3)) : pE T n 5 d s (.inr (rU q.1 s3)) :=
  pE_o2 k k2 (fun M h1 h2 => (rK_r h1).trans (by (try dsimp only); rw [h]; (try dsimp only); unfold rC; rw [if_neg h8]; show rK (rX T n M 3 d (q.2, s1.2.1 + 1, s1.2.2)) _ = _; exact rK_r h2))
-- a fact
theorem no_91 {b : Nat} (h : b < n ∧ T b = 91) {i : Nat} (hi : i < 20) : ¬ rW T n b (rWd i) = true := fun z => by
  have := rW_l hi z
  rw [h.2] at this
  exact absurd this.2 (by decide)
theorem pE_6a (hc : rW T n (rB T n s.1) (rWd 19) = true) (hd : d = 10) : pE T n 6 d s (.inl (1 + 8 * rB T n s.1 + 2)) := pE_of (fun M => rX_6.trans ((if_pos hc).trans (if_pos hd)))
theorem pE_6b (hc : rW T n (rB T n s.1) (rWd 19) = true) (hd : d ≠ 10) (k : pE T n 6 (d + 1) (rA (rB T n s.1 + 3) s) (.inl e)) : pE T n 6 d s (.inl e) :=
  pE_o1 k (fun M h1 => rX_6.trans ((if_pos hc).trans ((if_neg hd).trans (rK_l h1))))
theorem pE_6c (hc : rW T n (rB T n s.1) (rWd 19) = true) (hd : d ≠ 10) (k : pE T n 6 (d + 1) (rA (rB T n s.1 + 3) s) (.inr s1)) : pE T n 6 d s (.inr (rU 100110 s1)) :=
  pE_o1 k (fun M h1 => rX_6.trans ((if_pos hc).trans ((if_neg hd).trans (rK_r h1))))
theorem pE_6d (hc : rB T n s.1 < n ∧ T (rB T n s.1) = 91) (hd : d = 10) : pE T n 6 d s (.inl (1 + 8 * rB T n s.1 + 2)) := pE_of (fun M => rX_6.trans ((if_neg (no_91 hc (by decide))).trans ((if_pos hc).trans (if_pos hd))))
theorem pE_6e (hc : rB T n s.1 < n ∧ T (rB T n s.1) = 91) (hd : d ≠ 10) (k : pE T n 9 (d + 1) (rA (rB T n s.1 + 1) s) (.inl e)) : pE T n 6 d s (.inl e) :=
  pE_o1 k (fun M h1 => rX_6.trans ((if_neg (no_91 hc (by decide))).trans ((if_pos hc).trans ((if_neg hd).trans (rK_l h1)))))
theorem pE_6g (hc : rB T n s.1 < n ∧ T (rB T n s.1) = 91) (hd : d ≠ 10) (k : pE T n 9 (d + 1) (rA (rB T n s.1 + 1) s) (.inr s1)) (h : rT T n 93 s1 = some r) : pE T n 6 d s r :=
  pE_o1 k (fun M h1 => rX_6.trans ((if_neg (no_91 hc (by decide))).trans ((if_pos hc).trans ((if_neg hd).trans ((rK_r h1).trans h)))))
theorem pE_6h (hc : ¬ rW T n (rB T n s.1) (rWd 19) = true) (hc2 : ¬ (rB T n s.1 < n ∧ T (rB T n s.1) = 91)) (k : pE T n 5 d (rA (rB T n s.1) s) r) : pE T n 6 d s r :=
  pE_o1 k (fun M h1 => rX_6.trans ((if_neg hc).trans ((if_neg hc2).trans h1)))
-- a value
theorem no_40 {b : Nat} (h : b < n ∧ T b = 40) {i : Nat} (hi : i < 20) : ¬ rW T n b (rWd i) = true := fun z => by
  have := rW_l hi z
  rw [h.2] at this
  exact absurd this.2 (by decide)
theorem pE_0a (hc : rB T n s.1 < n ∧ T (rB T n s.1) = 40) (hd : d = 10) : pE T n 0 d s (.inl (1 + 8 * rB T n s.1 + 2)) := pE_of (fun M => (if_pos hc).trans (if_pos hd))
theorem pE_0b (hc : rB T n s.1 < n ∧ T (rB T n s.1) = 40) (hd : d ≠ 10) (h8 : s.2.1 = 80) : pE T n 0 d s (.inl (1 + 8 * rB T n s.1 + 3)) :=
  pE_of (fun M => (if_pos hc).trans ((if_neg hd).trans (by unfold rC; rw [if_pos h8]; rfl)))
theorem pE_0c (hc : rB T n s.1 < n ∧ T (rB T n s.1) = 40) (hd : d ≠ 10) (h8 : s.2.1 ≠ 80) (k : pE T n 3 (d + 1) (rB T n s.1 + 1, s.2.1 + 1, s.2.2) (.inl e)) : pE T n 0 d s (.inl e) :=
  pE_o1 k (fun M h1 => (if_pos hc).trans ((if_neg hd).trans (by unfold rC; rw [if_neg h8]; show rK (rX T n M 3 (d + 1) (rB T n s.1 + 1, s.2.1 + 1, s.2.2)) (rT T n 41) = _; exact rK_l h1)))
theorem pE_0d (hc : rB T n s.1 < n ∧ T (rB T n s.1) = 40) (hd : d ≠ 10) (h8 : s.2.1 ≠ 80) (k : pE T n 3 (d + 1) (rB T n s.1 + 1, s.2.1 + 1, s.2.2) (.inr s1)) (h : rT T n 41 s1 = some r) : pE T n 0 d s r :=
  pE_o1 k (fun M h1 => (if_pos hc).trans ((if_neg hd).trans (by unfold rC; rw [if_neg h8]; show rK (rX T n M 3 (d + 1) (rB T n s.1 + 1, s.2.1 + 1, s.2.2)) (rT T n 41) = _; exact (rK_r h1).trans h)))
theorem pE_0w {k : Nat} (hk : k < 12) (hw : rW T n (rB T n s.1) (rWd k) = true) (h8 : s.2.1 ≠ 80) : pE T n 0 d s (.inr (rE T n (rB T n s.1), s.2.1 + 1, s.2.2 ++ [100000 + k])) :=
  pE_of (fun M => (if_neg (fun z => no_40 z (by omega) hw)).trans (by rw [rK12_i hk hw]; (try dsimp only); unfold rC; rw [if_neg h8]; rfl))
theorem pE_0x {k : Nat} (hk : k < 12) (hw : rW T n (rB T n s.1) (rWd k) = true) (h8 : s.2.1 = 80) : pE T n 0 d s (.inl (1 + 8 * rB T n s.1 + 3)) :=
  pE_of (fun M => (if_neg (fun z => no_40 z (by omega) hw)).trans (by rw [rK12_i hk hw]; (try dsimp only); unfold rC; rw [if_pos h8]; rfl))
theorem pE_0m (hc : ¬ (rB T n s.1 < n ∧ T (rB T n s.1) = 40)) (hw : ∀ k, k < 12 → ¬ rW T n (rB T n s.1) (rWd k) = true) (h : rM T n 99999 (rB T n s.1) = .inl e) : pE T n 0 d s (.inl e) :=
  pE_of (fun M => (if_neg hc).trans (by rw [rK12_n hw]; (try dsimp only); rw [h]))
theorem pE_0y {q : Nat × Nat} (hc : ¬ (rB T n s.1 < n ∧ T (rB T n s.1) = 40)) (hw : ∀ k, k < 12 → ¬ rW T n (rB T n s.1) (rWd k) = true) (h : rM T n 99999 (rB T n s.1) = .inr q) (h8 : s.2.1 = 80) : pE T n 0 d s (.inl (1 + 8 * rB T n s.1 + 3)) :=
  pE_of (fun M => (if_neg hc).trans (by rw [rK12_n hw]; (try dsimp only); rw [h]; (try dsimp only); unfold rC; rw [if_pos h8]; rfl))
theorem pE_0z {q : Nat × Nat} (hc : ¬ (rB T n s.1 < n ∧ T (rB T n s.1) = 40)) (hw : ∀ k, k < 12 → ¬ rW T n (rB T n s.1) (rWd k) = true) (h : rM T n 99999 (rB T n s.1) = .inr q) (h8 : s.2.1 ≠ 80) : pE T n 0 d s (.inr (q.1, s.2.1 + 1, s.2.2 ++ [q.2])) :=
  pE_of (fun M => (if_neg hc).trans (by rw [rK12_n hw]; (try dsimp only); rw [h]; (try dsimp only); unfold rC; rw [if_neg h8]; rfl))
/-- it goes on, no further than the end, and tells no more than it has passed -/
noncomputable def rPg (n : Nat) (s s2 : rS) : Prop := s.1 ≤ s2.1 ∧ s2.1 ≤ n ∧ s.1 + s2.2.2.length ≤ s2.1 + s.2.2.length
theorem rPg_t {s s1 s2 : rS} (a : rPg n s s1) (b : rPg n s1 s2) : rPg n s s2 := by
  obtain ⟨a1, a2, a3⟩ := a
  obtain ⟨b1, b2, b3⟩ := b
  exact ⟨by omega, by omega, by omega⟩
theorem rPg_u {s s1 : rS} {c b : Nat} (h : s.1 < b) (k : rPg n (rA b s) s1) : rPg n s (rU c s1) := by
  obtain ⟨a1, a2, a3⟩ := k
  have a1 : b ≤ s1.1 := a1
  have a3 : b + s1.2.2.length ≤ s1.1 + s.2.2.length := a3
  refine ⟨?_, a2, ?_⟩
  · show s.1 ≤ s1.1; omega
  · show s.1 + (s1.2.2 ++ [c]).length ≤ s1.1 + s.2.2.length
    rw [List.length_append]
    show s.1 + (s1.2.2.length + 1) ≤ _
    omega
theorem rM_r {most p : Nat} {q : Nat × Nat} (hp : p ≤ n) (h : rM T n most p = .inr q) : rB T n p < q.1 ∧ q.1 ≤ n ∧ q.2 ≤ most := by
  unfold rM at h
  have h1 := rD_ge (T := T) (n := n) (p := rB T n p)
  have h2 := rD_le (T := T) (n := n) (rB_le (T := T) hp)
  by_cases c1 : rD T n (rB T n p) = rB T n p
  · rw [if_pos c1] at h; cases h
  · rw [if_neg c1] at h
    by_cases c2 : 5 < rD T n (rB T n p) - rB T n p ∨ most < rV T (rB T n p) (rD T n (rB T n p) - rB T n p)
    · rw [if_pos c2] at h; cases h
    · rw [if_neg c2] at h
      cases h
      exact ⟨by show _ < rD T n (rB T n p); omega, h2, by show rV T (rB T n p) (rD T n (rB T n p) - rB T n p) ≤ most; omega⟩
theorem rCm_n {b : Nat} {q : Nat × Nat} (h : rCm T n b = some q) : q.2 ≤ n := by
  unfold rCm at h
  split at h
  · cases h; show _ + 1 ≤ _; omega
  · split at h
    · split at h <;> (cases h; show _ + _ ≤ _; omega)
    · split at h
      · split at h <;> (cases h; show _ + _ ≤ _; omega)
      · cases h
theorem rC_s {p : Nat} {k : rS → rR} (h : rK (rC p s) k = some (.inr s1)) : k (s.1, s.2.1 + 1, s.2.2) = some (.inr s1) := by
  rcases rC_i h with ⟨-, z⟩ | ⟨-, z⟩
  · cases z
  · exact z
theorem rK_s {x : rR} {k : rS → rR} {s2 : rS} (h : rK x k = some (.inr s2)) : ∃ s1, x = some (.inr s1) ∧ k s1 = some (.inr s2) := by
  rcases rK_i h with ⟨e, -, z⟩ | z
  · cases z
  · exact z
theorem rT_s {c : Int32} {s2 : rS} (h : rT T n c s1 = some (.inr s2)) (hp : s1.1 ≤ n) : rPg n s1 s2 := by
  unfold rT at h
  by_cases c1 : rB T n s1.1 < n ∧ T (rB T n s1.1) = c
  · rw [if_pos c1] at h
    cases h
    have := rB_ge (T := T) (n := n) (p := s1.1)
    refine ⟨?_, ?_, ?_⟩
    · show s1.1 ≤ rB T n s1.1 + 1; omega
    · show rB T n s1.1 + 1 ≤ n; omega
    · show s1.1 + s1.2.2.length ≤ rB T n s1.1 + 1 + s1.2.2.length; omega
  · rw [if_neg c1] at h; cases h
theorem rB_pg (hp : s.1 ≤ n) : rPg n s (rA (rB T n s.1) s) := by
  have h1 := rB_ge (T := T) (n := n) (p := s.1)
  have h2 := rB_le (T := T) hp
  exact ⟨h1, h2, by show s.1 + s.2.2.length ≤ rB T n s.1 + s.2.2.length; omega⟩
theorem rX_7 {f d : Nat} {s : rS} : rX T n (f + 1) 0 d s = (if rB T n s.1 < n ∧ T (rB T n s.1) = 40 then (if d = 10 then rF (rB T n s.1) 2 else rK (rC (rB T n s.1) s) (fun s1 => rK (rX T n f 3 (d + 1) (rA (rB T n s.1 + 1) s1)) (rT T n 41)))
      else (match rK12 T n (rB T n s.1) with
        | some k => rK (rC (rB T n s.1) s) (fun s1 => rO (rU (100000 + k) (rA (rE T n (rB T n s.1)) s1)))
        | none => (match rM T n 99999 (rB T n s.1) with
          | .inl e => some (.inl e)
          | .inr q => rK (rC (rB T n s.1) s) (fun s1 => rO (rU q.2 (rA q.1 s1)))))) := rfl
theorem rX_pg : ∀ (f m d : Nat) (s s2 : rS), rX T n f m d s = some (.inr s2) → s.1 ≤ n → rPg n s s2
  | 0, _, _, _, _, h, _ => by
    have h : (none : rR) = _ := h
    cases h
  | f + 1, m, d, s, s2, h, hp => by
    have ih := rX_pg f
    have hb := rB_ge (T := T) (n := n) (p := s.1)
    have hbn := rB_le (T := T) hp
    match m, h with
    | 0, h =>
      rw [rX_7] at h
      by_cases c1 : rB T n s.1 < n ∧ T (rB T n s.1) = 40
      · rw [if_pos c1] at h
        by_cases c2 : d = 10
        · rw [if_pos c2] at h; cases h
        · rw [if_neg c2] at h
          have h := rC_s h
          obtain ⟨s3, h1, h2⟩ := rK_s h
          have k1 := ih 3 _ _ _ h1 (by show rB T n s.1 + 1 ≤ n; omega)
          have k2 := rT_s h2 k1.2.1
          have k := rPg_t k1 k2
          obtain ⟨a1, a2, a3⟩ := k
          have a1 : rB T n s.1 + 1 ≤ s2.1 := a1
          have a3 : rB T n s.1 + 1 + s2.2.2.length ≤ s2.1 + s.2.2.length := a3
          exact ⟨by omega, a2, by omega⟩
      · rw [if_neg c1] at h
        cases c2 : rK12 T n (rB T n s.1) with
        | some k =>
          rw [c2] at h
          have h := rC_s h
          have e := Option.some.inj h
          cases e
          obtain ⟨k1, k2⟩ := rK12_s c2
          have k3 := rW_l (by omega) k2
          have k4 := rE_ge (T := T) (n := n) (p := rB T n s.1 + 1)
          rw [← rE_y k3] at k4
          have k5 := rE_le (T := T) hbn
          refine ⟨?_, k5, ?_⟩
          · show s.1 ≤ rE T n (rB T n s.1); omega
          · show s.1 + (s.2.2 ++ [100000 + k]).length ≤ rE T n (rB T n s.1) + s.2.2.length
            rw [List.length_append]
            show s.1 + (s.2.2.length + 1) ≤ _
            omega
        | none =>
          rw [c2] at h
          try dsimp only at h
          cases c3 : rM T n 99999 (rB T n s.1) with
          | inl e => rw [c3] at h; cases h
          | inr q =>
            rw [c3] at h
            have h := rC_s h
            have e := Option.some.inj h
            cases e
            obtain ⟨k1, k2, -⟩ := rM_r hbn c3
            rw [rB_2] at k1
            refine ⟨?_, k2, ?_⟩
            · show s.1 ≤ q.1; omega
            · show s.1 + (s.2.2 ++ [q.2]).length ≤ q.1 + s.2.2.length
              rw [List.length_append]
              show s.1 + (s.2.2.length + 1) ≤ _
              omega
    | 1, h =>
      obtain ⟨s3, h1, h2⟩ := rK_s (k := rX T n f 2 d) h
      have k1 := ih 0 _ _ _ h1 hp
      exact rPg_t k1 (ih 2 _ _ _ h2 k1.2.1)
    | 2, h =>
      have h : (if rB T n s.1 < n ∧ T (rB T n s.1) = 42 then rK (rX T n f 0 d (rA (rB T n s.1 + 1) s)) (fun s1 => rX T n f 2 d (rU 100102 s1)) else rO (rA (rB T n s.1) s)) = _ := h
      by_cases c1 : rB T n s.1 < n ∧ T (rB T n s.1) = 42
      · rw [if_pos c1] at h
        obtain ⟨s3, h1, h2⟩ := rK_s h
        have k1 := ih 0 _ _ _ h1 (by show rB T n s.1 + 1 ≤ n; omega)
        exact rPg_t (rPg_u (by omega) k1) (ih 2 _ _ _ h2 k1.2.1)
      · rw [if_neg c1] at h
        cases h
        exact rB_pg hp
    | 3, h =>
      obtain ⟨s3, h1, h2⟩ := rK_s (k := rX T n f 4 d) h
      have k1 := ih 1 _ _ _ h1 hp
      exact rPg_t k1 (ih 4 _ _ _ h2 k1.2.1)
    | 4, h =>
      have h : (if rB T n s.1 < n ∧ T (rB T n s.1) = 43 then rK (rX T n f 1 d (rA (rB T n s.1 + 1) s)) (fun s1 => rX T n f 4 d (rU 100100 s1))
        else if rB T n s.1 < n ∧ T (rB T n s.1) = 45 then rK (rX T n f 1 d (rA (rB T n s.1 + 1) s)) (fun s1 => rX T n f 4 d (rU 100101 s1))
        else rO (rA (rB T n s.1) s)) = _ := h
      by_cases c1 : rB T n s.1 < n ∧ T (rB T n s.1) = 43
      · rw [if_pos c1] at h
        obtain ⟨s3, h1, h2⟩ := rK_s h
        have k1 := ih 1 _ _ _ h1 (by show rB T n s.1 + 1 ≤ n; omega)
        exact rPg_t (rPg_u (by omega) k1) (ih 4 _ _ _ h2 k1.2.1)
      · rw [if_neg c1] at h
        by_cases c2 : rB T n s.1 < n ∧ T (rB T n s.1) = 45
        · rw [if_pos c2] at h
          obtain ⟨s3, h1, h2⟩ := rK_s h
          have k1 := ih 1 _ _ _ h1 (by show rB T n s.1 + 1 ≤ n; omega)
          exact rPg_t (rPg_u (by omega) k1) (ih 4 _ _ _ h2 k1.2.1)
        · rw [if_neg c2] at h
          cases h
          exact rB_pg hp
    | 5, h =>
      obtain ⟨s3, h1, h2⟩ := rK_s (x := rX T n f 3 d s) h
      have k1 := ih 3 _ _ _ h1 hp
      try dsimp only at h2
      cases c1 : rCm T n (rB T n s3.1) with
      | none => rw [c1] at h2; cases h2
      | some q =>
        rw [c1] at h2
        have h2 := rC_s h2
        obtain ⟨s4, h3, h4⟩ := rK_s h2
        have e := Option.some.inj h4
        cases e
        obtain ⟨-, -, q3⟩ := rCm_r c1
        have q4 := rCm_n c1
        have k2 := ih 3 _ _ _ h3 q4
        have k3 := rB_ge (T := T) (n := n) (p := s3.1)
        exact rPg_t k1 (rPg_u (s := s3) (b := q.2) (by omega) k2)
    | 6, h =>
      rw [rX_6] at h
      by_cases c1 : rW T n (rB T n s.1) (rWd 19) = true
      · rw [if_pos c1] at h
        by_cases c2 : d = 10
        · rw [if_pos c2] at h; cases h
        · rw [if_neg c2] at h
          obtain ⟨s3, h1, h2⟩ := rK_s h
          have e := Option.some.inj h2
          cases e
          have e3 : rE T n (rB T n s.1) = rB T n s.1 + 3 := rW_e c1
          have k5 := rE_le (T := T) hbn
          have k1 := ih 6 _ _ _ h1 (by show rB T n s.1 + 3 ≤ n; omega)
          exact rPg_u (by omega) k1
      · rw [if_neg c1] at h
        by_cases c3 : rB T n s.1 < n ∧ T (rB T n s.1) = 91
        · rw [if_pos c3] at h
          by_cases c2 : d = 10
          · rw [if_pos c2] at h; cases h
          · rw [if_neg c2] at h
            obtain ⟨s3, h1, h2⟩ := rK_s h
            have k1 := ih 9 _ _ _ h1 (by show rB T n s.1 + 1 ≤ n; omega)
            have k := rPg_t k1 (rT_s h2 k1.2.1)
            obtain ⟨a1, a2, a3⟩ := k
            have a1 : rB T n s.1 + 1 ≤ s2.1 := a1
            have a3 : rB T n s.1 + 1 + s2.2.2.length ≤ s2.1 + s.2.2.length := a3
            exact ⟨by omega, a2, by omega⟩
        · rw [if_neg c3] at h
          exact rPg_t (rB_pg hp) (ih 5 _ _ _ h hbn)
    | 7, h =>
      obtain ⟨s3, h1, h2⟩ := rK_s (k := rX T n f 8 d) h
      have k1 := ih 6 _ _ _ h1 hp
      exact rPg_t k1 (ih 8 _ _ _ h2 k1.2.1)
    | 8, h =>
      have h : (if rW T n (rB T n s.1) (rWd 18) = true then rK (rX T n f 6 d (rA (rB T n s.1 + 3) s)) (fun s1 => rX T n f 8 d (rU 100109 s1)) else rO (rA (rB T n s.1) s)) = _ := h
      by_cases c1 : rW T n (rB T n s.1) (rWd 18) = true
      · rw [if_pos c1] at h
        obtain ⟨s3, h1, h2⟩ := rK_s h
        have e3 : rE T n (rB T n s.1) = rB T n s.1 + 3 := rW_e c1
        have k5 := rE_le (T := T) hbn
        have k1 := ih 6 _ _ _ h1 (by show rB T n s.1 + 3 ≤ n; omega)
        exact rPg_t (rPg_u (by omega) k1) (ih 8 _ _ _ h2 k1.2.1)
      · rw [if_neg c1] at h
        cases h
        exact rB_pg hp
    | 9, h =>
      obtain ⟨s3, h1, h2⟩ := rK_s (k := rX T n f 10 d) h
      have k1 := ih 7 _ _ _ h1 hp
      exact rPg_t k1 (ih 10 _ _ _ h2 k1.2.1)
    | m + 10, h =>
      have h : (if rW T n (rB T n s.1) (rWd 17) = true then rK (rX T n f 7 d (rA (rB T n s.1 + 2) s)) (fun s1 => rX T n f 10 d (rU 100108 s1)) else rO (rA (rB T n s.1) s)) = _ := h
      by_cases c1 : rW T n (rB T n s.1) (rWd 17) = true
      · rw [if_pos c1] at h
        obtain ⟨s3, h1, h2⟩ := rK_s h
        have e3 : rE T n (rB T n s.1) = rB T n s.1 + 2 := rW_e c1
        have k5 := rE_le (T := T) hbn
        have k1 := ih 7 _ _ _ h1 (by show rB T n s.1 + 2 ≤ n; omega)
        exact rPg_t (rPg_u (by omega) k1) (ih 10 _ _ _ h2 k1.2.1)
      · rw [if_neg c1] at h
        cases h
        exact rB_pg hp
theorem pE_pg {m : Nat} (k : pE T n m d s (.inr s1)) (hp : s.1 ≤ n) : rPg n s s1 := by
  obtain ⟨N, k⟩ := k
  exact rX_pg N m d s s1 (k N (Nat.le_refl _)) hp
end PE
/-! the going-down reader's object: 44 with its bytes 45, its codes 46, its clauses 47 -/
noncomputable def cCo (h : zH) : List Nat := (List.range (tvI (tF h 44 5)).toNatClampNeg).map (fun i => (tA h 46 i).toNatClampNeg)
noncomputable def cs (h : zH) : rS := ((tvI (tF h 44 2)).toNatClampNeg, (tvI (tF h 44 8)).toNatClampNeg, cCo h)
noncomputable abbrev cn (h : zH) : Nat := (tvI (tF h 44 1)).toNatClampNeg
noncomputable def cFr (h h2 : zH) : Prop := tSh h2 ∧ (∀ p b, ¬ (p = 44 ∧ (b = 2 ∨ b = 3 ∨ b = 5 ∨ b = 8 ∨ b = 9)) → tF h2 p b = tF h p b) ∧ (∀ p, p ≠ 46 → tA h2 p = tA h p) ∧ tN h2 = tN h
noncomputable def cP (h : zH) : Prop := (0 ≤ (tvI (tF h 44 2)).toInt ∧ (tvI (tF h 44 2)).toInt ≤ (tvI (tF h 44 1)).toInt ∧ (tvI (tF h 44 1)).toInt ≤ 400) ∧ (0 ≤ (tvI (tF h 44 8)).toInt ∧ (tvI (tF h 44 8)).toInt ≤ 80) ∧ (0 ≤ (tvI (tF h 44 5)).toInt ∧ (tvI (tF h 44 5)).toInt ≤ (tvI (tF h 44 2)).toInt) ∧ (∀ i, i < 400 → -128 ≤ (tA h 45 i).toInt ∧ (tA h 45 i).toInt ≤ 127) ∧ tN h 46 = 400 ∧ tF h 44 9 = .int (-1)
/-- one field was written -/
noncomputable def cSet (b : Nat) (X : Int32) (h h3 : zH) : Prop := tSh h3 ∧ tF h3 44 b = .int X ∧ (∀ p q, ¬ (p = 44 ∧ q = b) → tF h3 p q = tF h p q) ∧ tA h3 = tA h ∧ tN h3 = tN h
section CF
variable {h h1 h2 h3 : zH} {b : Nat} {X : Int32}
theorem cSet_of (hf : tFd h 44 b) (hs : tSh (tSF h 44 b (.int X))) : cSet b X h (tSF h 44 b (.int X)) := ⟨hs, tF_same hf, fun _ _ hn => tF_nz hn, tA_tSF _ _ _ _, tN_tSF _ _ _ _⟩
theorem tG_set {tt : zT} {G : zG} {cd : zK} {bc bs : Nat} {rt : Option FieldType} {M : zM} {Q : zQ} {Z : zX} {f : Bool} {pc : Nat} {L : zL} {st : List Value} {c n : Nat} (hf : tFd h 44 b) (hs : tSh (tSF h 44 b (.int X))) (k : ∀ h3, cSet b X h h3 → tG tt G cd bc bs rt M Q Z f pc L st h3 c n) : tG tt G cd bc bs rt M Q Z f pc L st (tSF h 44 b (.int X)) c n := k _ (cSet_of hf hs)
theorem cFr_r (hs : tSh h) : cFr h h := ⟨hs, fun _ _ _ => rfl, fun _ _ => rfl, rfl⟩
theorem cFr_t (a : cFr h h1) (k : cFr h1 h2) : cFr h h2 := ⟨k.1, fun p q z => (k.2.1 p q z).trans (a.2.1 p q z), fun p z => (k.2.2.1 p z).trans (a.2.2.1 p z), k.2.2.2.trans a.2.2.2⟩
theorem cFr_s (a : cFr h h1) (k : cSet b X h1 h2) (hb : b = 2 ∨ b = 3 ∨ b = 5 ∨ b = 8 ∨ b = 9) : cFr h h2 := ⟨k.1, fun p q z => (k.2.2.1 p q (fun w => z ⟨w.1, w.2.symm ▸ hb⟩)).trans (a.2.1 p q z), fun p z => (congrFun k.2.2.2.1 p).trans (a.2.2.1 p z), k.2.2.2.2.trans a.2.2.2⟩
theorem cFr_T (a : cFr h h1) : tA h1 45 = tA h 45 := a.2.2.1 45 (by decide)
theorem cFr_1 (a : cFr h h1) : tvI (tF h1 44 1) = tvI (tF h 44 1) := congrArg tvI (a.2.1 44 1 (by decide))
theorem cFr_n (a : cFr h h1) : cn h1 = cn h := by unfold cn; rw [cFr_1 a]
theorem cI_x (k : cSet b X h h3) : tvI (tF h3 44 b) = X := congrArg tvI k.2.1
theorem cI_o {q : Nat} (k : cSet b X h h3) (hq : q ≠ b) : tvI (tF h3 44 q) = tvI (tF h 44 q) := congrArg tvI (k.2.2.1 44 q (fun z => hq z.2))
theorem cCo_o (k : cSet b X h h3) (hb : b ≠ 5) : cCo h3 = cCo h := by
  unfold cCo
  rw [cI_o k (fun z => hb z.symm), k.2.2.2.1]
theorem cs_2 (k : cSet 2 X h h3) : cs h3 = rA X.toNatClampNeg (cs h) := by
  unfold cs
  rw [cI_x k, cI_o k (by decide), cCo_o k (by decide)]
  rfl
theorem cs_8 (k : cSet 8 X h h3) : cs h3 = ((cs h).1, X.toNatClampNeg, (cs h).2.2) := by
  unfold cs
  rw [cI_x k, cI_o k (by decide), cCo_o k (by decide)]
theorem cs_o (k : cSet b X h h3) (h2 : b ≠ 2) (h5 : b ≠ 5) (h8 : b ≠ 8) : cs h3 = cs h := by
  unfold cs
  rw [cI_o k (fun z => h2 z.symm), cI_o k (fun z => h8 z.symm), cCo_o k h5]
theorem cCo_len : (cCo h).length = (tvI (tF h 44 5)).toNatClampNeg := by unfold cCo; rw [List.length_map, List.length_range]
theorem zj1 {x : Int32} (hx : 0 ≤ x.toInt) {y : Int32} (hy : x.toInt < y.toInt) : (x + 1).toInt = x.toInt + 1 := by
  have := Int32.toInt_lt y
  rw [Int32.toInt_add]
  exact Int.bmod_eq_of_le (by show (-2147483648 : Int) ≤ x.toInt + 1; omega) (by show x.toInt + 1 < (2147483648 : Int); omega)
theorem zj1n {x : Int32} (hx : 0 ≤ x.toInt) {y : Int32} (hy : x.toInt < y.toInt) : (x + 1).toNatClampNeg = x.toNatClampNeg + 1 := by
  rw [zclE, zclE, zj1 hx hy]
  omega
theorem cP_len (p : cP h) : (cs h).2.2.length ≤ (cs h).1 := by
  show (cCo h).length ≤ (tvI (tF h 44 2)).toNatClampNeg
  rw [cCo_len, zclE, zclE]
  have := p.2.2.1
  omega
theorem cP_le (p : cP h) : (cs h).1 ≤ cn h := by
  show (tvI (tF h 44 2)).toNatClampNeg ≤ (tvI (tF h 44 1)).toNatClampNeg
  rw [zclE, zclE]
  have := p.1
  omega
theorem cP_400 (p : cP h) : cn h ≤ 400 := by
  show (tvI (tF h 44 1)).toNatClampNeg ≤ 400
  rw [zclE]
  have := p.1
  omega
/-- the place was moved on -/
theorem cP_2 (p : cP h) (k : cSet 2 X h h3) (h1 : (tvI (tF h 44 2)).toInt ≤ X.toInt) (h2 : X.toInt ≤ (tvI (tF h 44 1)).toInt) : cP h3 := by
  obtain ⟨a, b, c, d, e, e9⟩ := p
  refine ⟨?_, ?_, ?_, ?_, ?_, (k.2.2.1 44 9 (by decide)).trans e9⟩
  · rw [cI_x k, cI_o k (by decide)]; omega
  · rw [cI_o k (by decide)]; exact b
  · rw [cI_x k, cI_o k (by decide)]; omega
  · rw [k.2.2.2.1]; exact d
  · rw [k.2.2.2.2]; exact e
theorem cP_8 (p : cP h) (k : cSet 8 X h h3) (h1 : 0 ≤ X.toInt) (h2 : X.toInt ≤ 80) : cP h3 := by
  obtain ⟨a, b, c, d, e, e9⟩ := p
  refine ⟨?_, ?_, ?_, ?_, ?_, (k.2.2.1 44 9 (by decide)).trans e9⟩
  · rw [cI_o k (by decide), cI_o k (by decide)]; exact a
  · rw [cI_x k]; omega
  · rw [cI_o k (by decide), cI_o k (by decide)]; exact c
  · rw [k.2.2.2.1]; exact d
  · rw [k.2.2.2.2]; exact e
theorem cP_o (p : cP h) (k : cSet b X h h3) (h2 : b = 3) : cP h3 := by
  have e2 := cI_o (q := 2) k (by omega)
  have e1 := cI_o (q := 1) k (by omega)
  have e8 := cI_o (q := 8) k (by omega)
  have e5 := cI_o (q := 5) k (by omega)
  unfold cP
  rw [e2, e1, e8, e5, k.2.2.2.1, k.2.2.2.2, k.2.2.1 44 9 (by omega)]
  exact p
/-- a sign: the byte there, below 256, or none -/
noncomputable def sgn (T : Nat → Int32) (n b : Nat) (c : Int32) : Prop := (∀ k : Int32, 0 ≤ k.toInt → k.toInt ≤ 127 → (c = k ↔ b < n ∧ T b = k)) ∧ (c = -1 ↔ ¬ b < n)
theorem sgn_n {T : Nat → Int32} {n b : Nat} (h : ¬ b < n) : sgn T n b (-1) := ⟨fun k h1 _ => ⟨fun z => by rw [← z] at h1; exact absurd h1 (by decide), fun z => absurd z.1 h⟩, ⟨fun _ => h, fun _ => rfl⟩⟩
theorem z255 : (List.range 256).all (fun k => decide (((Int32.ofInt ((k : Int) - 128)) &&& 255).toInt = (if k < 128 then (k : Int) + 128 else (k : Int) - 128))) = true := by decide +kernel
theorem zand255 {x : Int32} (h : -128 ≤ x.toInt ∧ x.toInt ≤ 127) : (x &&& 255).toInt = if x.toInt < 0 then x.toInt + 256 else x.toInt := by
  have q := of_decide_eq_true (List.all_eq_true.mp z255 (x.toInt + 128).toNat (List.mem_range.mpr (by omega)))
  have e : (((x.toInt + 128).toNat : Nat) : Int) - 128 = x.toInt := by omega
  rw [e, Int32.ofInt_toInt] at q
  rw [q]
  by_cases z : x.toInt < 0
  · rw [if_pos z, if_pos (by omega)]; omega
  · rw [if_neg z, if_neg (by omega)]
theorem sgn_y {T : Nat → Int32} {n b : Nat} (h : b < n) (hr : -128 ≤ (T b).toInt ∧ (T b).toInt ≤ 127) : sgn T n b (T b &&& 255) := by
  have e := zand255 hr
  refine ⟨fun k h1 h2 => ⟨fun z => ⟨h, ?_⟩, fun z => ?_⟩, ⟨fun z => ?_, fun z => absurd h z⟩⟩
  · rw [z] at e
    refine Int32.toInt_inj.mp ?_
    by_cases y : (T b).toInt < 0
    · rw [if_pos y] at e; omega
    · rw [if_neg y] at e; omega
  · refine Int32.toInt_inj.mp ?_
    rw [e, z.2, if_neg (by omega)]
  · rw [z] at e
    have : ((-1 : Int32)).toInt = -1 := by decide
    by_cases y : (T b).toInt < 0
    · rw [if_pos y] at e; omega
    · rw [if_neg y] at e; omega
theorem sgn_k {T : Nat → Int32} {n b : Nat} {c : Int32} (s : sgn T n b c) (k : Int32) (hk : 0 ≤ k.toInt ∧ k.toInt ≤ 127) : c = k ↔ b < n ∧ T b = k := s.1 k hk.1 hk.2
/-- a fault is told -/
noncomputable def cFt (h : zH) (e : Nat) : Prop := tF h 44 9 = .int (Int32.ofNat e)
theorem zofI {e : Nat} (h : e < 2147483648) : (Int32.ofNat e).toInt = e := by
  rw [Int32.toInt_ofNat']
  exact Int.bmod_eq_of_le (by show (-2147483648 : Int) ≤ (e : Int); omega) (by show (e : Int) < (2147483648 : Int); omega)
theorem zfa {a y : Int32} {b w : Nat} (ha : a.toInt = b) (hb : b ≤ 400) (hy : y.toInt = w) (hw : w ≤ 7) : 1 + 8 * a + y = Int32.ofNat (1 + 8 * b + w) := by
  refine Int32.toInt_inj.mp ?_
  have e1 : (8 * a).toInt = 8 * b := by
    rw [Int32.toInt_mul, ha]
    show Int.bmod (8 * (b : Int)) _ = _
    exact Int.bmod_eq_of_le (by show (-2147483648 : Int) ≤ 8 * (b : Int); omega) (by show 8 * (b : Int) < (2147483648 : Int); omega)
  have e2 : (1 + 8 * a).toInt = 1 + 8 * b := by
    rw [Int32.toInt_add, e1]
    show Int.bmod (1 + 8 * (b : Int)) _ = _
    exact Int.bmod_eq_of_le (by show (-2147483648 : Int) ≤ 1 + 8 * (b : Int); omega) (by show 1 + 8 * (b : Int) < (2147483648 : Int); omega)
  rw [Int32.toInt_add, e2, hy, zofI (by omega)]
  exact (Int.bmod_eq_of_le (by show (-2147483648 : Int) ≤ 1 + 8 * (b : Int) + w; omega) (by show 1 + 8 * (b : Int) + w < (2147483648 : Int); omega)).trans (by omega)
/-- outcomes -/
noncomputable def cOut (X : rR) (h : zH) : zQ := fun w h2 => cFr h h2 ∧ ((w = some (.int 1) ∧ X = some (.inr (cs h2)) ∧ cP h2) ∨ (w = some (.int 0) ∧ ∃ e, X = some (.inl e) ∧ cFt h2 e))
noncomputable def cR (T : Nat → Int32) (n m d : Nat) (h : zH) : zQ := fun w h2 => cFr h h2 ∧ ((w = some (.int 1) ∧ pE T n m d (cs h) (.inr (cs h2)) ∧ cP h2) ∨ (w = some (.int 0) ∧ ∃ e, pE T n m d (cs h) (.inl e) ∧ cFt h2 e))
noncomputable def tCp (tt : zT) (G : zG) (d : Nat) (j : Nat) (as : List Value) (h : zH) (Q : zQ) : Prop := zW tt G d j as h tTr → zW tt G d j as h Q
theorem tCp.both {tt : zT} {G : zG} {d j : Nat} {as : List Value} {h : zH} {P Q : zQ} (k : tCp tt G d j as h Q) (z : zW tt G d j as h P) : zW tt G d j as h (fun w h2 => P w h2 ∧ Q w h2) := zW_conj tt G d _ _ _ _ _ z (k (zW_mono tt G d _ _ _ _ _ (fun _ _ _ => trivial) z))
theorem tCp_in {tt : zT} {G : zG} {j d : Nat} {as : List Value} {h : zH} {Q : zQ} {cd : zK} {nL : Nat} {rt : Option FieldType} {bc bs : Nat} (hj : G.1[j]? = some (cd, nL, rt, bc, bs)) (k : tG tt G cd bc bs rt (zW tt G d) Q tFz false 0 (zentry as nL) [] h 0 0) : tCp tt G (d + 1) j as h Q := by
  intro z
  unfold zW at z ⊢
  rw [hj] at z ⊢
  exact ⟨z.1, tG_end (zW_mono tt G d) k z.2⟩
theorem tw_virt1p {tt : zT} {G : zG} {cd : zK} {bc bs dp : Nat} {rt : Option FieldType} {Q : zQ} {Z : zX} {f : Bool} {pc nx a d : Nat} {v : Value} {L : zL} {s : List Value} {h : zH} {c n i r : Nat} {Qa : zQ} {x1 : Value} (hc : cd[pc]? = some (some (.invokevirtual i, nx, a, 1, d, v))) (kc : tCp tt G dp a (.ref r :: [x1]) h Qa) (k : ∀ w h2, Qa w h2 → tG tt G cd bc bs rt (zW tt G dp) Q Z true nx L (w.toList ++ s) h2 (c + (zbud G a).1) (n + (zbud G a).2)) : tG tt G cd bc bs rt (zW tt G dp) Q Z f pc L (x1 :: .ref r :: s) h c n := tG_row hc (fun z => Or.elim z (fun z => False.elim z) (fun z => Or.inr ⟨z.1, z.2.1, z.2.2.1, z.2.2.2.1, z.2.2.2.2.1, zW_mono tt G dp _ _ _ _ _ (fun w h2 q => k w h2 q.2 q.1) (tCp.both kc z.2.2.2.2.2)⟩))
noncomputable def cML : List (Nat × Nat) := [(0, 85), (1, 84), (3, 83), (5, 81), (6, 80), (7, 79), (9, 78)]
/-- the seven that call each other, at a depth of calls -/
noncomputable def cIH (G : zG) (dp : Nat) : Prop := ∀ (m j : Nat), (m, j) ∈ cML → ∀ (h : zH) (T : Nat → Int32) (n d : Nat) (x : Int32), tSh h → cP h → tA h 45 = T → cn h = n → x.toInt = d → d ≤ 10 → tCp zTt G dp j [.ref 44, .int x] h (cR T n m d h)
end CF
theorem cLt {h : zH} {n : Nat} (p : cP h) (hn : cn h = n) (q : (tvI (tF h 44 2)).toInt < (tvI (tF h 44 1)).toInt) : (cs h).1 < n := by
  rw [← hn]
  show (tvI (tF h 44 2)).toNatClampNeg < (tvI (tF h 44 1)).toNatClampNeg
  rw [zclE, zclE]
  have := p.1
  omega
theorem cGe {h : zH} {n : Nat} (p : cP h) (hn : cn h = n) (q : (tvI (tF h 44 1)).toInt ≤ (tvI (tF h 44 2)).toInt) : ¬ (cs h).1 < n := by
  rw [← hn]
  show ¬ (tvI (tF h 44 2)).toNatClampNeg < (tvI (tF h 44 1)).toNatClampNeg
  rw [zclE, zclE]
  have := p.1
  omega
theorem cLtI {h : zH} {n : Nat} (p : cP h) (hn : cn h = n) (q : (cs h).1 < n) : (tvI (tF h 44 2)).toInt < (tvI (tF h 44 1)).toInt := by
  rw [← hn] at q
  have q : (tvI (tF h 44 2)).toNatClampNeg < (tvI (tF h 44 1)).toNatClampNeg := q
  rw [zclE, zclE] at q
  have := p.1
  omega
theorem cInc {h h3 : zH} {n : Nat} (p : cP h) (hl : (cs h).1 < n) (hn : cn h = n) (e : cSet 2 (tvI (tF h 44 2) + 1) h h3) : cP h3 ∧ cs h3 = rA ((cs h).1 + 1) (cs h) := by
  have q := cLtI p hn hl
  have i1 := zj1 p.1.1 q
  refine ⟨cP_2 p e (by rw [i1]; omega) (by rw [i1]; omega), ?_⟩
  rw [cs_2 e, zj1n p.1.1 q]
  rfl
theorem cSg_o {T : Nat → Int32} {n : Nat} {h h1 : zH} (e1 : (cs h1).2 = (cs h).2) (e2 : rB T n (cs h1).1 = rB T n (cs h).1) (hb : ¬ ((cs h1).1 < n ∧ T (cs h1).1 = 32)) : cs h1 = rA (rB T n (cs h).1) (cs h) ∧ (cs h1).1 = rB T n (cs h).1 := by
  have z : (cs h1).1 = rB T n (cs h).1 := by rw [← e2, rB_n hb]
  exact ⟨Prod.ext z e1, z⟩
theorem c80 {h : zH} (q : tvI (tF h 44 8) = 80) : (cs h).2.1 = 80 := by
  show (tvI (tF h 44 8)).toNatClampNeg = 80
  rw [q]; rfl
theorem cn80 {h : zH} (p : cP h) (q : ¬ tvI (tF h 44 8) = 80) : (cs h).2.1 ≠ 80 := by
  intro z
  have z : (tvI (tF h 44 8)).toNatClampNeg = 80 := z
  rw [zclE] at z
  refine q (Int32.toInt_inj.mp ?_)
  show (tvI (tF h 44 8)).toInt = 80
  have := p.2.1
  omega
theorem cCnt {h h3 : zH} (p : cP h) (q : ¬ tvI (tF h 44 8) = 80) (e : cSet 8 (tvI (tF h 44 8) + 1) h h3) : cP h3 ∧ cs h3 = ((cs h).1, (cs h).2.1 + 1, (cs h).2.2) := by
  have q2 : (tvI (tF h 44 8)).toInt < (80 : Int32).toInt := by
    have a := p.2.1
    have b : (tvI (tF h 44 8)).toInt ≠ 80 := fun z => q (Int32.toInt_inj.mp z)
    show (tvI (tF h 44 8)).toInt < 80
    omega
  have i1 := zj1 p.2.1.1 q2
  have q3 : (tvI (tF h 44 8)).toInt < 80 := q2
  refine ⟨cP_8 p e (by rw [i1]; have := p.2.1; omega) (by rw [i1]; omega), ?_⟩
  rw [cs_8 e, zj1n p.2.1.1 q2]
  rfl
theorem cFt_of {h h2 : zH} {y : Int32} {w : Nat} (p : cP h) (f : tF h2 44 9 = .int (1 + 8 * tvI (tF h 44 2) + y)) (hy : y.toInt = w) (hw : w ≤ 7) : cFt h2 (1 + 8 * (cs h).1 + w) := by
  unfold cFt
  rw [f, zfa (b := (cs h).1) (w := w) ?_ ?_ hy hw]
  · show (tvI (tF h 44 2)).toInt = ((tvI (tF h 44 2)).toNatClampNeg : Int)
    rw [zclE]
    have := p.1
    omega
  · exact Nat.le_trans (cP_le p) (cP_400 p)
theorem cPut_of {h : zH} {k : Int32} {kd : Nat} (hs : tSh h) (p : cP h) (hc : (tvI (tF h 44 5)).toInt < (tvI (tF h 44 2)).toInt) (hf : tIn h 46 kd (tvI (tF h 44 5))) (hf2 : tFd (tSA h 46 (tvI (tF h 44 5)).toNatClampNeg k) 44 5) : cFr h (tSF (tSA h 46 (tvI (tF h 44 5)).toNatClampNeg k) 44 5 (.int (tvI (tF h 44 5) + 1))) ∧ cs (tSF (tSA h 46 (tvI (tF h 44 5)).toNatClampNeg k) 44 5 (.int (tvI (tF h 44 5) + 1))) = rU k.toNatClampNeg (cs h) ∧ cP (tSF (tSA h 46 (tvI (tF h 44 5)).toNatClampNeg k) 44 5 (.int (tvI (tF h 44 5) + 1))) := by
  have hw := hw_44_5 (x := tvI (tF h 44 5) + 1) hf2 (tSh_SA hs)
  have e := cSet_of hf2 hw
  generalize tSF (tSA h 46 (tvI (tF h 44 5)).toNatClampNeg k) 44 5 (.int (tvI (tF h 44 5) + 1)) = h3 at e
  have hF : ∀ b, b ≠ 5 → tvI (tF h3 44 b) = tvI (tF h 44 b) := fun b hb => (cI_o e hb).trans (by rw [tF_tSA])
  have h5 : tvI (tF h3 44 5) = tvI (tF h 44 5) + 1 := cI_x e
  have hA : tA h3 = fun p q => if p = 46 ∧ q = (tvI (tF h 44 5)).toNatClampNeg then k else tA h p q := e.2.2.2.1.trans (tA_tSA hf.cell _ _)
  have hN : tN h3 = tN h := e.2.2.2.2.trans (tN_tSA _ _ _ _)
  have q2 : (tvI (tF h 44 5)).toInt < (tvI (tF h 44 2)).toInt := hc
  have p1 := p.1
  have p3 := p.2.2.1
  have i1 := zj1 p3.1 q2
  have i2 := zj1n p3.1 q2
  refine ⟨⟨e.1, fun a b z => (e.2.2.1 a b (fun w => z ⟨w.1, by omega⟩)).trans (by rw [tF_tSA]), fun a z => ?_, hN⟩, ?_, ?_⟩
  · rw [hA]
    funext q
    exact if_neg (fun w => z w.1)
  · unfold cs rU cCo
    rw [hF 2 (by decide), hF 8 (by decide), h5, i2, List.range_succ, List.map_append, hA]
    refine Prod.ext rfl (Prod.ext rfl ?_)
    show _ ++ [(if 46 = 46 ∧ (tvI (tF h 44 5)).toNatClampNeg = (tvI (tF h 44 5)).toNatClampNeg then k else _ : Int32).toNatClampNeg] = _
    rw [if_pos ⟨rfl, rfl⟩]
    refine congrArg (fun z => z ++ [k.toNatClampNeg]) ?_
    refine List.map_congr_left (fun i hi => ?_)
    have hi := List.mem_range.mp hi
    show (if 46 = 46 ∧ i = _ then k else tA h 46 i : Int32).toNatClampNeg = _
    rw [if_neg (fun z => by omega)]
  · refine ⟨?_, ?_, ?_, ?_, ?_, (e.2.2.1 44 9 (by decide)).trans (by rw [tF_tSA]; exact p.2.2.2.2.2)⟩
    · rw [hF 2 (by decide), hF 1 (by decide)]; exact p.1
    · rw [hF 8 (by decide)]; exact p.2.1
    · rw [hF 2 (by decide), h5, i1]; omega
    · intro i hi
      rw [hA]
      show _ ≤ (if 45 = 46 ∧ _ then k else tA h 45 i : Int32).toInt ∧ (if 45 = 46 ∧ _ then k else tA h 45 i : Int32).toInt ≤ _
      rw [if_neg (fun z => absurd z.1 (by decide))]
      exact p.2.2.2.1 i hi
    · rw [hN]; exact p.2.2.2.2.1
theorem f_signHere {G : zG} (hG : G.1 = zProg) (hX : G.2.1 = ztx) {h : zH} {T : Nat → Int32} {n : Nat} (hs : tSh h) (hp : cP h) (hT : tA h 45 = T) (hN : cn h = n)  : tC zTt G 90 [.ref 44] h (fun w h2 => cFr h h2 ∧ cP h2 ∧ cs h2 = rA (rB T n (cs h).1) (cs h) ∧ tvI (tF h2 44 3) = tvI (tF h 44 3) ∧ ∃ c, w = some (.int c) ∧ sgn T n (rB T n (cs h).1) c) := by
  refine tC_in (by rw [hG]; rfl) (fun dp => ?_)
  have g0 := cFr_r hs
  have hpn : (cs h).1 ≤ n := by rw [← hN]; exact cP_le hp
  refine tG_loop (zW_mono zTt G dp) (zW_conj zTt G dp) (V := fun pc L st h9 _ _ => pc = 0 ∧ st = [] ∧ ∃ h1, h1 = h9 ∧ cFr h h1 ∧ cP h1 ∧ (cs h1).2 = (cs h).2 ∧ rB T n (cs h1).1 = rB T n (cs h).1 ∧ tvI (tF h1 44 3) = tvI (tF h 44 3) ∧ L = [some (.ref 44)]) ?_ (⟨rfl, rfl, _, rfl, g0, hp, rfl, rfl, rfl, rfl⟩)
  rintro _ _ _ _ _ _ ⟨rfl, rfl, h1, rfl, g1, p1, e1, e2, e3, rfl⟩
  refine tw_aload rfl rfl ?_
  refine tw_getS rfl (hi_44_2 g1.1) ?_
  refine tw_aload rfl rfl ?_
  refine tw_getS rfl (hi_44_1 g1.1) ?_
  refine tw_ic_ge rfl (fun q220 => ?_) (fun q220 => ?_)
  · try dsimp only [tvI_i, tvJ_j, tvR_r] at q220
    refine tw_aload rfl rfl ?_
    refine tw_getS rfl (hi_44_2 g1.1) ?_
    refine tw_aload rfl rfl ?_
    refine tw_getS rfl (hi_44_1 g1.1) ?_
    refine tw_ic_ge rfl (fun q221 => ?_) (fun q221 => ?_)
    · try dsimp only [tvI_i, tvJ_j, tvR_r] at q221
      refine tw_push rfl ?_
      have hb := cGe p1 ((cFr_n g1).trans hN) q220
      obtain ⟨o1, o2⟩ := cSg_o (T := T) (n := n) e1 e2 (fun z => hb z.1)
      exact tw_iret rfl ⟨g1, p1, o1, e3, _, rfl, by rw [← o2]; exact sgn_n hb⟩
    · try dsimp only [tvI_i, tvJ_j, tvR_r] at q221
      exact absurd q221 (Int.not_lt.mpr q220)
  · try dsimp only [tvI_i, tvJ_j, tvR_r] at q220
    refine tw_aload rfl rfl ?_
    refine tw_getS rfl (hs_44_0 g1.1) ?_
    refine tw_aload rfl rfl ?_
    refine tw_getS rfl (hi_44_2 g1.1) ?_
    refine tw_bald rfl (fun f222 => ?_)
    refine tw_push rfl ?_
    refine tw_ic_ne rfl (fun q223 => ?_) (fun q223 => ?_)
    · try dsimp only [tvI_i, tvJ_j, tvR_r] at q223
      have q223i := zneq (Y := 32) (by decide) q223
      refine tw_aload rfl rfl ?_
      refine tw_getS rfl (hi_44_2 g1.1) ?_
      refine tw_aload rfl rfl ?_
      refine tw_getS rfl (hi_44_1 g1.1) ?_
      refine tw_ic_ge rfl (fun q224 => ?_) (fun q224 => ?_)
      · try dsimp only [tvI_i, tvJ_j, tvR_r] at q224
        exact absurd q220 (Int.not_lt.mpr q224)
      · try dsimp only [tvI_i, tvJ_j, tvR_r] at q224
        refine tw_aload rfl rfl ?_
        refine tw_getS rfl (hs_44_0 g1.1) ?_
        refine tw_aload rfl rfl ?_
        refine tw_getS rfl (hi_44_2 g1.1) ?_
        refine tw_bald rfl (fun f225 => ?_)
        refine tw_push rfl ?_
        refine tw_iand rfl ?_
        refine tw_goto rfl ?_
        have hl := cLt p1 ((cFr_n g1).trans hN) q220
        obtain ⟨o1, o2⟩ := cSg_o (T := T) (n := n) e1 e2 (fun z => q223 (by rw [← ((cFr_T g1).trans hT)] at z; exact z.2))
        refine tw_iret rfl ⟨g1, p1, o1, e3, _, rfl, ?_⟩
        rw [← o2, ← ((cFr_T g1).trans hT)]
        exact sgn_y hl (p1.2.2.2.1 _ (Nat.lt_of_lt_of_le hl (by rw [← ((cFr_n g1).trans hN)]; exact cP_400 p1)))
    · try dsimp only [tvI_i, tvJ_j, tvR_r] at q223
      have q223i := zeqi (Y := 32) (by decide) q223
      refine tw_aload rfl rfl ?_
      refine tw_dup rfl ?_
      refine tw_getS rfl (hi_44_2 g1.1) ?_
      refine tw_push rfl ?_
      refine tw_iadd rfl ?_
      refine tw_put rfl (fun f226 => ?_)
      refine tG_set f226 (hw_44_2 f226 (g1).1) (fun hf226 ef226 => ?_)
      try dsimp only [tvI_i] at ef226
      have gf226 := cFr_s g1 ef226 (by decide)
      have lf226 := cLt p1 ((cFr_n g1).trans hN) q220
      obtain ⟨pf226, sf226⟩ := cInc p1 lf226 ((cFr_n g1).trans hN) ef226
      refine tw_goto rfl ?_
      exact tG_cut (zW_mono zTt G dp) (Or.inr ⟨rfl, rfl, _, rfl, gf226, pf226, (congrArg Prod.snd sf226).trans e1, by rw [sf226]; exact (rB_y ⟨lf226, by rw [← ((cFr_T g1).trans hT)]; exact q223⟩).symm.trans e2, (cI_o ef226 (by decide)).trans e3, rfl⟩)
theorem f_refuse {G : zG} (hG : G.1 = zProg) (hX : G.2.1 = ztx) {h : zH} {T : Nat → Int32} {n : Nat} (hs : tSh h) (hp : cP h) (hT : tA h 45 = T) (hN : cn h = n) {a y : Int32} : tC zTt G 93 [.ref 44, .int a, .int y] h (fun w h2 => cFr h h2 ∧ w = some (.int 0) ∧ tF h2 44 9 = .int (1 + 8 * a + y)) := by
  refine tC_in (by rw [hG]; rfl) (fun dp => ?_)
  have g0 := cFr_r hs
  have hpn : (cs h).1 ≤ n := by rw [← hN]; exact cP_le hp
  refine tw_aload rfl rfl ?_
  refine tw_push rfl ?_
  refine tw_push rfl ?_
  refine tw_iload rfl rfl ?_
  refine tw_imul rfl ?_
  refine tw_iadd rfl ?_
  refine tw_iload rfl rfl ?_
  refine tw_iadd rfl ?_
  refine tw_put rfl (fun f227 => ?_)
  refine tG_set f227 (hw_44_9 f227 (g0).1) (fun hf227 ef227 => ?_)
  try dsimp only [tvI_i] at ef227
  have gf227 := cFr_s g0 ef227 (by decide)
  refine tw_push rfl ?_
  exact tw_iret rfl ⟨gf227, rfl, ef227.2.1⟩
theorem f_countOne {G : zG} (hG : G.1 = zProg) (hX : G.2.1 = ztx) {h : zH} {T : Nat → Int32} {n : Nat} (hs : tSh h) (hp : cP h) (hT : tA h 45 = T) (hN : cn h = n)  : tC zTt G 87 [.ref 44] h (fun w h2 => cFr h h2 ∧ ((w = some (.int 1) ∧ rC (cs h).1 (cs h) = some (.inr (cs h2)) ∧ cP h2 ∧ tvI (tF h2 44 3) = tvI (tF h 44 3)) ∨ (w = some (.int 0) ∧ ∃ e, rC (cs h).1 (cs h) = some (.inl e) ∧ cFt h2 e))) := by
  refine tC_in (by rw [hG]; rfl) (fun dp => ?_)
  have g0 := cFr_r hs
  have hpn : (cs h).1 ≤ n := by rw [← hN]; exact cP_le hp
  refine tw_aload rfl rfl ?_
  refine tw_getS rfl (hi_44_8 hs) ?_
  refine tw_push rfl ?_
  refine tw_ic_ne rfl (fun q228 => ?_) (fun q228 => ?_)
  · try dsimp only [tvI_i, tvJ_j, tvR_r] at q228
    have q228i := zneq (Y := 80) (by decide) q228
    refine tw_aload rfl rfl ?_
    refine tw_dup rfl ?_
    refine tw_getS rfl (hi_44_8 hs) ?_
    refine tw_push rfl ?_
    refine tw_iadd rfl ?_
    refine tw_put rfl (fun f229 => ?_)
    refine tG_set f229 (hw_44_8 f229 (g0).1) (fun hf229 ef229 => ?_)
    try dsimp only [tvI_i] at ef229
    have gf229 := cFr_s g0 ef229 (by decide)
    obtain ⟨pf229, sf229⟩ := cCnt hp q228 ef229
    refine tw_push rfl ?_
    exact tw_iret rfl ⟨gf229, Or.inl ⟨rfl, (if_neg (cn80 hp q228)).trans (congrArg (fun z => some (Sum.inr z)) sf229.symm), pf229, cI_o ef229 (by decide)⟩⟩
  · try dsimp only [tvI_i, tvJ_j, tvR_r] at q228
    have q228i := zeqi (Y := 80) (by decide) q228
    refine tw_aload rfl rfl ?_
    refine tw_aload rfl rfl ?_
    refine tw_getS rfl (hi_44_2 hs) ?_
    refine tw_push rfl ?_
    refine tw_virt2 rfl (f_refuse hG hX (g0).1 hp ((cFr_T g0).trans hT) ((cFr_n g0).trans hN)) (fun wp230 hp230 p230 => ?_)
    obtain ⟨gp230, rfl, up230⟩ := p230
    have ggp230 := cFr_t g0 gp230
    exact tw_iret rfl ⟨ggp230, Or.inr ⟨rfl, _, if_pos (c80 q228), cFt_of hp up230 rfl (by decide)⟩⟩
theorem f_takeSign {G : zG} (hG : G.1 = zProg) (hX : G.2.1 = ztx) {h : zH} {T : Nat → Int32} {n : Nat} (hs : tSh h) (hp : cP h) (hT : tA h 45 = T) (hN : cn h = n) {y : Int32} (hy : 0 ≤ y.toInt ∧ y.toInt ≤ 127) : tC zTt G 88 [.ref 44, .int y] h (cOut (rT T n y (cs h)) h) := by
  refine tC_in (by rw [hG]; rfl) (fun dp => ?_)
  have g0 := cFr_r hs
  have hpn : (cs h).1 ≤ n := by rw [← hN]; exact cP_le hp
  refine tw_aload rfl rfl ?_
  refine tw_virt0 rfl (f_signHere hG hX (g0).1 hp ((cFr_T g0).trans hT) ((cFr_n g0).trans hN)) (fun wp231 hp231 p231 => ?_)
  obtain ⟨gp231, ppp231, ssp231, t3p231, cp231, rfl, kp231⟩ := p231
  have ggp231 := cFr_t g0 gp231
  refine tw_iload rfl rfl ?_
  refine tw_ic_eq rfl (fun q232 => ?_) (fun q232 => ?_)
  · try dsimp only [tvI_i, tvJ_j, tvR_r] at q232
    have q232i := zeqi rfl q232
    refine tw_aload rfl rfl ?_
    refine tw_dup rfl ?_
    refine tw_getS rfl (hi_44_2 ggp231.1) ?_
    refine tw_push rfl ?_
    refine tw_iadd rfl ?_
    refine tw_put rfl (fun f233 => ?_)
    refine tG_set f233 (hw_44_2 f233 (ggp231).1) (fun hf233 ef233 => ?_)
    try dsimp only [tvI_i] at ef233
    have gf233 := cFr_s ggp231 ef233 (by decide)
    have wf233 := (sgn_k kp231 y hy).mp q232
    obtain ⟨pf233, sf233⟩ := cInc ppp231 (by rw [ssp231]; exact wf233.1) ((cFr_n ggp231).trans hN) ef233
    refine tw_push rfl ?_
    rw [ssp231] at sf233
    exact tw_iret rfl ⟨gf233, Or.inl ⟨rfl, (if_pos wf233).trans (congrArg (fun z => some (Sum.inr z)) sf233.symm), pf233⟩⟩
  · try dsimp only [tvI_i, tvJ_j, tvR_r] at q232
    have q232i := zneq rfl q232
    refine tw_aload rfl rfl ?_
    refine tw_aload rfl rfl ?_
    refine tw_getS rfl (hi_44_2 ggp231.1) ?_
    refine tw_push rfl ?_
    refine tw_virt2 rfl (f_refuse hG hX (ggp231).1 ppp231 ((cFr_T ggp231).trans hT) ((cFr_n ggp231).trans hN)) (fun wp234 hp234 p234 => ?_)
    obtain ⟨gp234, rfl, up234⟩ := p234
    have ggp234 := cFr_t ggp231 gp234
    have hf := cFt_of ppp231 up234 (w := 0) rfl (by decide)
    rw [ssp231] at hf
    exact tw_iret rfl ⟨ggp234, Or.inr ⟨rfl, _, if_neg (fun z => q232 ((sgn_k kp231 y hy).mpr z)), hf⟩⟩
theorem f_putCode {G : zG} (hG : G.1 = zProg) (hX : G.2.1 = ztx) {h : zH} {T : Nat → Int32} {n : Nat} (hs : tSh h) (hp : cP h) (hT : tA h 45 = T) (hN : cn h = n) {k : Int32} (hc : (tvI (tF h 44 5)).toInt < (tvI (tF h 44 2)).toInt) : tC zTt G 92 [.ref 44, .int k] h (fun w h2 => cFr h h2 ∧ w = none ∧ cs h2 = rU k.toNatClampNeg (cs h) ∧ cP h2) := by
  refine tC_in (by rw [hG]; rfl) (fun dp => ?_)
  have g0 := cFr_r hs
  have hpn : (cs h).1 ≤ n := by rw [← hN]; exact cP_le hp
  refine tw_aload rfl rfl ?_
  refine tw_getS rfl (hi_44_5 hs) ?_
  refine tw_aload rfl rfl ?_
  refine tw_getS rfl (hs_44_4 hs) ?_
  refine tw_alen rfl ?_
  refine tw_ic_ge rfl (fun q235 => ?_) (fun q235 => ?_)
  · try dsimp only [tvI_i, tvJ_j, tvR_r] at q235
    exact absurd (show (Int32.ofNat (tN h 46)).toInt ≤ (tvI (tF h 44 5)).toInt from q235) (by rw [hp.2.2.2.2.1]; show ¬ (400 : Int) ≤ _; have := hp.1; omega)
  · try dsimp only [tvI_i, tvJ_j, tvR_r] at q235
    refine tw_aload rfl rfl ?_
    refine tw_getS rfl (hs_44_4 hs) ?_
    refine tw_aload rfl rfl ?_
    refine tw_getS rfl (hi_44_5 hs) ?_
    refine tw_iload rfl rfl ?_
    refine tw_iast rfl (fun f236 => ?_)
    refine tw_aload rfl rfl ?_
    refine tw_dup rfl ?_
    refine tw_getS rfl (tF_a (hi_44_5 hs)) ?_
    refine tw_push rfl ?_
    refine tw_iadd rfl ?_
    refine tw_put rfl (fun f237 => ?_)
    have hk := cPut_of (k := k) hs hp hc f236 f237
    exact tw_vret rfl ⟨hk.1, rfl, hk.2.1, hk.2.2⟩
/-- the words' text, gone through from a place on -/
noncomputable def scn (T : Nat → Int32) (e b : Nat) : List Int32 → Nat → Nat → Bool → Option Nat
  | [], _, _, _ => none
  | c :: r, w, a, sm => if c = 32 then (if sm && Nat.beq a e then some w else scn T e b r (w + 1) b true) else scn T e b r w (a + 1) (sm && (Nat.blt a e && decide (T a = c)))
theorem scn_w {T : Nat → Int32} {e b k : Nat} {r : List Int32} : ∀ (w : List Int32) (a : Nat) (sm : Bool), w.all (fun c => !(decide (c = 32))) = true → scn T e b (w ++ 32 :: r) k a sm = if (sm && (Nat.beq (a + w.length) e && rQ T a w)) = true then some k else scn T e b r (k + 1) b true
  | [], a, sm, _ => by
    show (if (32 : Int32) = 32 then _ else _) = _
    rw [if_pos rfl]
    show (if (sm && Nat.beq a e) = true then _ else _) = (if (sm && (Nat.beq a e && true)) = true then _ else _)
    rw [Bool.and_true]
  | c :: w, a, sm, h => by
    rw [List.all_cons, Bool.and_eq_true] at h
    have hc : ¬ c = 32 := by
      intro z
      rw [z] at h
      exact absurd h.1 (by decide)
    show (if c = 32 then _ else scn T e b (w ++ 32 :: r) k (a + 1) (sm && (Nat.blt a e && decide (T a = c)))) = _
    rw [if_neg hc, scn_w w (a + 1) _ h.2]
    have e1 : a + 1 + w.length = a + (c :: w).length := by rw [List.length_cons]; omega
    rw [e1]
    have e2 : (sm && (Nat.blt a e && decide (T a = c)) && (Nat.beq (a + (c :: w).length) e && rQ T (a + 1) w)) = (sm && (Nat.beq (a + (c :: w).length) e && rQ T a (c :: w))) := by
      have e3 : rQ T a (c :: w) = (decide (T a = c) && rQ T (a + 1) w) := rfl
      rw [e3]
      cases hq : Nat.beq (a + (c :: w).length) e with
      | false => simp
      | true =>
        have h2 := Nat.eq_of_beq_eq_true hq
        rw [List.length_cons] at h2
        have h3 : Nat.blt a e = true := Nat.ble_eq.mpr (by omega)
        rw [h3]
        cases sm <;> cases decide (T a = c) <;> rfl
    rw [e2]
noncomputable def wdl : Nat → Nat → List Int32
  | 0, _ => []
  | m + 1, k => rWd k ++ 32 :: wdl m (k + 1)
theorem wdl_1 : ztx 1 = wdl 20 0 := by decide +kernel
theorem wdl_32 : (List.range 20).all (fun k => (rWd k).all (fun c => !(decide (c = 32)))) = true := by decide +kernel
theorem scn_l {T : Nat → Int32} {n b : Nat} : ∀ (m k : Nat), k + m ≤ 20 → (scn T (rE T n b) b (wdl m k) k b true = none ∧ ∀ j, k ≤ j → j < k + m → ¬ rW T n b (rWd j) = true) ∨ ∃ j, k ≤ j ∧ j < k + m ∧ scn T (rE T n b) b (wdl m k) k b true = some j ∧ rW T n b (rWd j) = true
  | 0, k, _ => Or.inl ⟨rfl, fun j h1 h2 => by omega⟩
  | m + 1, k, hk => by
    have h32 := List.all_eq_true.mp wdl_32 k (List.mem_range.mpr (by omega))
    have e : scn T (rE T n b) b (wdl (m + 1) k) k b true = _ := scn_w (rWd k) b true h32
    have e2 : (true && (Nat.beq (b + (rWd k).length) (rE T n b) && rQ T b (rWd k))) = rW T n b (rWd k) := by
      unfold rW
      rw [Bool.true_and]
      refine congrArg (fun z => z && _) ?_
      rw [Bool.eq_iff_iff]
      exact ⟨fun z => by rw [Nat.eq_of_beq_eq_true z]; exact Nat.beq_refl _, fun z => by rw [Nat.eq_of_beq_eq_true z]; exact Nat.beq_refl _⟩
    rw [e2] at e
    rw [e]
    by_cases c : rW T n b (rWd k) = true
    · rw [if_pos c]
      exact Or.inr ⟨k, Nat.le_refl _, by omega, rfl, c⟩
    · rw [if_neg c]
      rcases scn_l m (k + 1) (by omega) with ⟨a1, a2⟩ | ⟨j, a1, a2, a3, a4⟩
      · refine Or.inl ⟨a1, fun j h1 h2 => ?_⟩
        by_cases z : j = k
        · rw [z]; exact c
        · exact a2 j (by omega) (by omega)
      · exact Or.inr ⟨j, by omega, by omega, a3, a4⟩
noncomputable def wrd (T : Nat → Int32) (n b : Nat) (i : Int32) : Prop := (-1 ≤ i.toInt ∧ i.toInt < 20) ∧ ∀ k : Nat, k < 20 → (i.toInt = k ↔ rW T n b (rWd k) = true)
theorem wrd_n {T : Nat → Int32} {n b : Nat} (h : scn T (rE T n b) b (ztx 1) 0 b true = none) : wrd T n b (-1) := by
  rw [wdl_1] at h
  refine ⟨by decide, fun k hk => ⟨fun z => ?_, fun z => ?_⟩⟩
  · exfalso
    have : ((-1 : Int32)).toInt = -1 := by decide
    omega
  · rcases scn_l (T := T) (n := n) (b := b) 20 0 (by omega) with ⟨-, a2⟩ | ⟨j, -, -, a3, -⟩
    · exact absurd z (a2 k (by omega) (by omega))
    · rw [h] at a3; cases a3
theorem wrd_s {T : Nat → Int32} {n b : Nat} {i : Int32} {w : Nat} (h : scn T (rE T n b) b (ztx 1) 0 b true = some w) (hi : i.toInt = w) : wrd T n b i := by
  rw [wdl_1] at h
  rcases scn_l (T := T) (n := n) (b := b) 20 0 (by omega) with ⟨a1, -⟩ | ⟨j, -, a2, a3, a4⟩
  · rw [h] at a1; cases a1
  · rw [h] at a3
    cases a3
    refine ⟨by omega, fun k hk => ⟨fun z => ?_, fun z => ?_⟩⟩
    · have : w = k := by omega
      rw [← this]; exact a4
    · have := rW_ij (by omega) hk a4 z
      omega
theorem wlen : (ztx 1).length = 98 ∨ (ztx 1).length ≤ 200 := Or.inr (by decide +kernel)
theorem scn_d {T : Nat → Int32} {e b w a : Nat} {sm : Bool} {l : List Int32} {i : Nat} {R : Option Nat} (h : scn T e b (l.drop i) w a sm = R) (hi : i < l.length) : (if l.getD i 0 = 32 then (if sm && Nat.beq a e then some w else scn T e b (l.drop (i + 1)) (w + 1) b true) else scn T e b (l.drop (i + 1)) w (a + 1) (sm && (Nat.blt a e && decide (T a = l.getD i 0)))) = R := by
  rw [List.drop_eq_getElem_cons hi] at h
  rw [List.getD_eq_getElem?_getD, List.getElem?_eq_getElem hi]
  exact h
theorem scn_e {T : Nat → Int32} {e b w a : Nat} {sm : Bool} {l : List Int32} {i : Nat} {R : Option Nat} (h : scn T e b (l.drop i) w a sm = R) (hi : l.length ≤ i) : R = none := by
  rw [List.drop_eq_nil_of_le hi] at h
  exact h.symm
theorem cPl {h : zH} (p : cP h) : (tvI (tF h 44 2)).toInt = ((cs h).1 : Int) := by
  show _ = ((tvI (tF h 44 2)).toNatClampNeg : Int)
  rw [zclE]
  have := p.1
  omega
theorem cNl {h : zH} {n : Nat} (p : cP h) (hn : cn h = n) : (tvI (tF h 44 1)).toInt = (n : Int) := by
  rw [← hn]
  show _ = ((tvI (tF h 44 1)).toNatClampNeg : Int)
  rw [zclE]
  have := p.1
  omega
theorem wr_e {T : Nat → Int32} {n b k : Nat} (he : rE T n (b + k) = rE T n b) (h : ¬ (b + k < n ∧ 97 ≤ (T (b + k)).toInt ∧ (T (b + k)).toInt ≤ 122)) : rE T n b = b + k := he.symm.trans (rE_n h)
theorem f_wordHere {G : zG} (hG : G.1 = zProg) (hX : G.2.1 = ztx) {h : zH} {T : Nat → Int32} {n : Nat} (hs : tSh h) (hp : cP h) (hT : tA h 45 = T) (hN : cn h = n)  : tC zTt G 91 [.ref 44] h (fun w h2 => cFr h h2 ∧ cP h2 ∧ cs h2 = rA (rB T n (cs h).1) (cs h) ∧ (tvI (tF h2 44 3)).toInt = ((rE T n (rB T n (cs h).1) : Nat) : Int) ∧ ∃ i, w = some (.int i) ∧ wrd T n (rB T n (cs h).1) i) := by
  refine tC_in (by rw [hG]; rfl) (fun dp => ?_)
  have g0 := cFr_r hs
  have hpn : (cs h).1 ≤ n := by rw [← hN]; exact cP_le hp
  have c979 : (97 : Int32).toInt = 97 := rfl
  have c1229 : (122 : Int32).toInt = 122 := rfl
  refine tw_aload rfl rfl ?_
  refine tw_virt0 rfl (f_signHere hG hX (g0).1 hp ((cFr_T g0).trans hT) ((cFr_n g0).trans hN)) (fun wp238 hp238 p238 => ?_)
  obtain ⟨gp238, ppp238, ssp238, t3p238, cp238, rfl, kp238⟩ := p238
  have ggp238 := cFr_t g0 gp238
  refine tw_pop rfl ?_
  refine tw_aload rfl rfl ?_
  refine tw_aload rfl rfl ?_
  refine tw_getS rfl (hi_44_2 ggp238.1) ?_
  refine tw_put rfl (fun f239 => ?_)
  refine tG_set f239 (hw_44_3 f239 (ggp238).1) (fun hf239 ef239 => ?_)
  try dsimp only [tvI_i] at ef239
  have gf239 := cFr_s ggp238 ef239 (by decide)
  have sf239 := cs_o ef239 (by decide) (by decide) (by decide)
  have pf239 := cP_o ppp238 ef239 (by decide)
  have wf239 := cI_x ef239
  have vf239 := cI_o (q := 1) ef239 (by decide)
  have yf239 := cI_o (q := 2) ef239 (by decide)
  refine tG_loop (zW_mono zTt G dp) (zW_conj zTt G dp) (V := fun pc L st h9 _ _ => pc = 13 ∧ st = [] ∧ ∃ (h1 : zH) (k : Nat) (a b c d e : Option Value), h1 = h9 ∧ cFr h h1 ∧ cP h1 ∧ cs h1 = rA (rB T n (cs h).1) (cs h) ∧ (tvI (tF h1 44 3)).toInt = (((rB T n (cs h).1) + k : Nat) : Int) ∧ (rB T n (cs h).1) + k ≤ n ∧ rE T n ((rB T n (cs h).1) + k) = rE T n (rB T n (cs h).1) ∧ L = [some (.ref 44), a, b, c, d, e]) ?_ (⟨rfl, rfl, _, 0, _, _, _, _, _, rfl, gf239, pf239, sf239.trans ssp238, by rw [wf239, cPl ppp238, ssp238]; rfl, (by have := cP_le ppp238; rw [((cFr_n ggp238).trans hN), ssp238] at this; exact this), rfl, rfl⟩)
  rintro _ _ _ _ _ _ ⟨rfl, rfl, h1, k, a, b, c, d, e, rfl, g1, p1, hσ, hk, hkn, he, rfl⟩
  refine tw_aload rfl rfl ?_
  refine tw_getS rfl (hi_44_3 g1.1) ?_
  refine tw_aload rfl rfl ?_
  refine tw_getS rfl (hi_44_1 g1.1) ?_
  refine tw_ic_ge rfl (fun q240 => ?_) (fun q240 => ?_)
  · try dsimp only [tvI_i, tvJ_j, tvR_r] at q240
    refine tw_push rfl ?_
    refine tw_istore rfl ?_
    refine tw_aload rfl rfl ?_
    refine tw_getS rfl (hi_44_2 g1.1) ?_
    refine tw_istore rfl ?_
    refine tw_push rfl ?_
    refine tw_istore rfl ?_
    refine tw_push rfl ?_
    refine tw_istore rfl ?_
    have hend : (tvI (tF h1 44 3)).toInt = ((rE T n (rB T n (cs h).1) : Nat) : Int) := by
      rw [wr_e he (fun z => ?_), hk]
      have hix : (tvI (tF h1 44 3)).toNatClampNeg = (rB T n (cs h).1) + k := zof_cl hk
      have hTx := ((cFr_T g1).trans hT)
      have e9 : tA h1 45 (tvI (tF h1 44 3)).toNatClampNeg = T ((rB T n (cs h).1) + k) := by rw [hix, hTx]
      have e8 := cNl p1 ((cFr_n g1).trans hN)
      have z0 := q240
      try rw [e9] at z1
      try rw [e9] at z2
      omega
    refine tG_loop (zW_mono zTt G dp) (zW_conj zTt G dp) (V := fun pc L st h9 _ _ => pc = 77 ∧ st = [] ∧ h1 = h9 ∧ ∃ (i w2 a2 : Nat) (sm : Bool) (x word at9 same : Int32) (l5 : Option Value), x.toInt = i ∧ i ≤ (ztx 1).length ∧ word.toInt = w2 ∧ w2 ≤ i ∧ at9.toInt = a2 ∧ a2 ≤ 400 + i ∧ same = (if sm = true then 1 else 0) ∧ scn T (rE T n (rB T n (cs h).1)) (rB T n (cs h).1) ((ztx 1).drop i) w2 a2 sm = scn T (rE T n (rB T n (cs h).1)) (rB T n (cs h).1) (ztx 1) 0 (rB T n (cs h).1) true ∧ L = [some (.ref 44), some (.int word), some (.int at9), some (.int same), some (.int x), l5]) ?_ (⟨rfl, rfl, rfl, 0, 0, (rB T n (cs h).1), true, _, _, _, _, _, rfl, Nat.zero_le _, rfl, Nat.le_refl _, (show (tvI (tF h1 44 2)).toInt = (((rB T n (cs h).1) : Nat) : Int) from (cPl p1).trans (by rw [hσ]; rfl)), (by have := cP_400 p1; rw [((cFr_n g1).trans hN)] at this; omega), rfl, rfl, rfl⟩)
    rintro _ _ _ _ _ _ ⟨rfl, rfl, rfl, i, w2, a2, sm, x, word, at9, same, l5, hx, hi, hw, hwi, hat, ha4, hsame, hsc, rfl⟩
    refine tw_iload rfl rfl ?_
    refine tw_push rfl ?_
    refine tw_tlen rfl ?_
    refine tw_ic_ge rfl (fun q241 => ?_) (fun q241 => ?_)
    · try dsimp only [tvI_i, tvJ_j, tvR_r] at q241
      refine tw_push rfl ?_
      have hil : (ztx 1).length ≤ i := by have z := q241; rw [hX] at z; have e9 : (Int32.ofNat (ztx 1).length).toInt = ((ztx 1).length : Int) := zofI (by rcases wlen with y | y <;> omega); omega
      exact tw_iret rfl ⟨g1, p1, hσ, hend, _, rfl, wrd_n (scn_e hsc hil)⟩
    · try dsimp only [tvI_i, tvJ_j, tvR_r] at q241
      refine tw_push rfl ?_
      refine tw_iload rfl rfl ?_
      refine tw_chr rfl (fun _ => ?_)
      refine tw_istore rfl ?_
      refine tw_iload rfl rfl ?_
      refine tw_push rfl ?_
      refine tw_ic_eq rfl (fun q242 => ?_) (fun q242 => ?_)
      · try dsimp only [tvI_i, tvJ_j, tvR_r] at q242
        have q242i := zeqi (Y := 32) (by decide) q242
        refine tw_iload rfl rfl ?_
        refine tw_if_eq rfl (fun q243 => ?_) (fun q243 => ?_)
        · try dsimp only [tvI_i, tvJ_j, tvR_r] at q243
          have q243i := zeqi (Y := 0) (by decide) q243
          refine tw_iinc rfl rfl ?_
          refine tw_aload rfl rfl ?_
          refine tw_getS rfl (hi_44_2 g1.1) ?_
          refine tw_istore rfl ?_
          refine tw_push rfl ?_
          refine tw_istore rfl ?_
          refine tw_iinc rfl rfl ?_
          refine tw_goto rfl ?_
          have hil : i < (ztx 1).length := by have z := q241; rw [hX] at z; have e9 : (Int32.ofNat (ztx 1).length).toInt = ((ztx 1).length : Int) := zofI (by rcases wlen with y | y <;> omega); omega
          have hd := scn_d hsc hil
          have ec : ((G.2.1 1).getD x.toNatClampNeg 0) = (ztx 1).getD i 0 := by rw [hX, zof_cl hx]
          have e32 : (ztx 1).getD i 0 = 32 := ec ▸ q242
          rw [if_pos e32] at hd
          have hsm : sm = false := by cases sm with | false => rfl | true => exact absurd (hsame.symm.trans q243) (by decide)
          subst hsm
          rw [if_neg (show ¬ (false && Nat.beq a2 (rE T n (rB T n (cs h).1))) = true from Bool.false_ne_true)] at hd
          exact tG_cut (zW_mono zTt G dp) (Or.inr ⟨rfl, rfl, rfl, i + 1, w2 + 1, (rB T n (cs h).1), true, _, _, _, _, _, zincN hx (by rcases wlen with y | y <;> omega), by omega, zincN hw (by rcases wlen with y | y <;> omega), by omega, (show (tvI (tF h1 44 2)).toInt = (((rB T n (cs h).1) : Nat) : Int) from (cPl p1).trans (by rw [hσ]; rfl)), (by have := cP_400 p1; rw [((cFr_n g1).trans hN)] at this; omega), rfl, hd, rfl⟩)
        · try dsimp only [tvI_i, tvJ_j, tvR_r] at q243
          have q243i := zneq (Y := 0) (by decide) q243
          refine tw_iload rfl rfl ?_
          refine tw_aload rfl rfl ?_
          refine tw_getS rfl (hi_44_3 g1.1) ?_
          refine tw_ic_ne rfl (fun q244 => ?_) (fun q244 => ?_)
          · try dsimp only [tvI_i, tvJ_j, tvR_r] at q244
            have q244i := zneq rfl q244
            refine tw_iinc rfl rfl ?_
            refine tw_aload rfl rfl ?_
            refine tw_getS rfl (hi_44_2 g1.1) ?_
            refine tw_istore rfl ?_
            refine tw_push rfl ?_
            refine tw_istore rfl ?_
            refine tw_iinc rfl rfl ?_
            refine tw_goto rfl ?_
            have hil : i < (ztx 1).length := by have z := q241; rw [hX] at z; have e9 : (Int32.ofNat (ztx 1).length).toInt = ((ztx 1).length : Int) := zofI (by rcases wlen with y | y <;> omega); omega
            have hd := scn_d hsc hil
            have ec : ((G.2.1 1).getD x.toNatClampNeg 0) = (ztx 1).getD i 0 := by rw [hX, zof_cl hx]
            have e32 : (ztx 1).getD i 0 = 32 := ec ▸ q242
            rw [if_pos e32] at hd
            have hne : ¬ a2 = rE T n (rB T n (cs h).1) := fun z => q244 (Int32.toInt_inj.mp (by rw [hat, hend]; exact congrArg _ z))
            rw [if_neg (fun z => by rw [Bool.and_eq_true] at z; exact hne (Nat.eq_of_beq_eq_true z.2))] at hd
            exact tG_cut (zW_mono zTt G dp) (Or.inr ⟨rfl, rfl, rfl, i + 1, w2 + 1, (rB T n (cs h).1), true, _, _, _, _, _, zincN hx (by rcases wlen with y | y <;> omega), by omega, zincN hw (by rcases wlen with y | y <;> omega), by omega, (show (tvI (tF h1 44 2)).toInt = (((rB T n (cs h).1) : Nat) : Int) from (cPl p1).trans (by rw [hσ]; rfl)), (by have := cP_400 p1; rw [((cFr_n g1).trans hN)] at this; omega), rfl, hd, rfl⟩)
          · try dsimp only [tvI_i, tvJ_j, tvR_r] at q244
            have q244i := zeqi rfl q244
            refine tw_iload rfl rfl ?_
            have hil : i < (ztx 1).length := by have z := q241; rw [hX] at z; have e9 : (Int32.ofNat (ztx 1).length).toInt = ((ztx 1).length : Int) := zofI (by rcases wlen with y | y <;> omega); omega
            have hd := scn_d hsc hil
            have ec : ((G.2.1 1).getD x.toNatClampNeg 0) = (ztx 1).getD i 0 := by rw [hX, zof_cl hx]
            have e32 : (ztx 1).getD i 0 = 32 := ec ▸ q242
            rw [if_pos e32] at hd
            have hsm : sm = true := by cases sm with | true => rfl | false => exact absurd hsame q243
            subst hsm
            have hae : a2 = rE T n (rB T n (cs h).1) := by have z : at9.toInt = (tvI (tF h1 44 3)).toInt := congrArg Int32.toInt q244; omega
            rw [hae, if_pos (by rw [Bool.and_eq_true]; exact ⟨rfl, Nat.beq_refl _⟩)] at hd
            exact tw_iret rfl ⟨g1, p1, hσ, hend, _, rfl, wrd_s hd.symm hw⟩
      · try dsimp only [tvI_i, tvJ_j, tvR_r] at q242
        have q242i := zneq (Y := 32) (by decide) q242
        refine tw_iload rfl rfl ?_
        refine tw_if_eq rfl (fun q245 => ?_) (fun q245 => ?_)
        · try dsimp only [tvI_i, tvJ_j, tvR_r] at q245
          have q245i := zeqi (Y := 0) (by decide) q245
          refine tw_push rfl ?_
          refine tw_istore rfl ?_
          refine tw_iinc rfl rfl ?_
          refine tw_goto rfl ?_
          refine tw_iinc rfl rfl ?_
          refine tw_goto rfl ?_
          have hil : i < (ztx 1).length := by have z := q241; rw [hX] at z; have e9 : (Int32.ofNat (ztx 1).length).toInt = ((ztx 1).length : Int) := zofI (by rcases wlen with y | y <;> omega); omega
          have hd := scn_d hsc hil
          have ec : ((G.2.1 1).getD x.toNatClampNeg 0) = (ztx 1).getD i 0 := by rw [hX, zof_cl hx]
          have e32 : ¬ (ztx 1).getD i 0 = 32 := fun z => q242 (ec.trans z)
          rw [if_neg e32] at hd
          have hsm : sm = false := by cases sm with | false => rfl | true => exact absurd (hsame.symm.trans q245) (by decide)
          subst hsm
          exact tG_cut (zW_mono zTt G dp) (Or.inr ⟨rfl, rfl, rfl, i + 1, w2, a2 + 1, false, _, _, _, _, _, zincN hx (by rcases wlen with y | y <;> omega), by omega, hw, by omega, zincN hat (by rcases wlen with y | y <;> omega), by omega, rfl, hd, rfl⟩)
        · try dsimp only [tvI_i, tvJ_j, tvR_r] at q245
          have q245i := zneq (Y := 0) (by decide) q245
          refine tw_iload rfl rfl ?_
          refine tw_aload rfl rfl ?_
          refine tw_getS rfl (hi_44_3 g1.1) ?_
          refine tw_ic_ge rfl (fun q246 => ?_) (fun q246 => ?_)
          · try dsimp only [tvI_i, tvJ_j, tvR_r] at q246
            refine tw_push rfl ?_
            refine tw_istore rfl ?_
            refine tw_iinc rfl rfl ?_
            refine tw_goto rfl ?_
            refine tw_iinc rfl rfl ?_
            refine tw_goto rfl ?_
            have hil : i < (ztx 1).length := by have z := q241; rw [hX] at z; have e9 : (Int32.ofNat (ztx 1).length).toInt = ((ztx 1).length : Int) := zofI (by rcases wlen with y | y <;> omega); omega
            have hd := scn_d hsc hil
            have ec : ((G.2.1 1).getD x.toNatClampNeg 0) = (ztx 1).getD i 0 := by rw [hX, zof_cl hx]
            have e32 : ¬ (ztx 1).getD i 0 = 32 := fun z => q242 (ec.trans z)
            rw [if_neg e32] at hd
            have hsm : sm = true := by cases sm with | true => rfl | false => exact absurd hsame q245
            subst hsm
            have hb : Nat.blt a2 (rE T n (rB T n (cs h).1)) = false := by cases z : Nat.blt a2 (rE T n (rB T n (cs h).1)) with | false => rfl | true => have y : a2 < rE T n (rB T n (cs h).1) := Nat.le_of_ble_eq_true z; omega
            rw [hb] at hd
            exact tG_cut (zW_mono zTt G dp) (Or.inr ⟨rfl, rfl, rfl, i + 1, w2, a2 + 1, false, _, _, _, _, _, zincN hx (by rcases wlen with y | y <;> omega), by omega, hw, by omega, zincN hat (by rcases wlen with y | y <;> omega), by omega, rfl, hd, rfl⟩)
          · try dsimp only [tvI_i, tvJ_j, tvR_r] at q246
            refine tw_aload rfl rfl ?_
            refine tw_getS rfl (hs_44_0 g1.1) ?_
            refine tw_iload rfl rfl ?_
            refine tw_bald rfl (fun f247 => ?_)
            refine tw_iload rfl rfl ?_
            refine tw_ic_ne rfl (fun q248 => ?_) (fun q248 => ?_)
            · try dsimp only [tvI_i, tvJ_j, tvR_r] at q248
              have q248i := zneq rfl q248
              refine tw_push rfl ?_
              refine tw_istore rfl ?_
              refine tw_iinc rfl rfl ?_
              refine tw_goto rfl ?_
              refine tw_iinc rfl rfl ?_
              refine tw_goto rfl ?_
              have hil : i < (ztx 1).length := by have z := q241; rw [hX] at z; have e9 : (Int32.ofNat (ztx 1).length).toInt = ((ztx 1).length : Int) := zofI (by rcases wlen with y | y <;> omega); omega
              have hd := scn_d hsc hil
              have ec : ((G.2.1 1).getD x.toNatClampNeg 0) = (ztx 1).getD i 0 := by rw [hX, zof_cl hx]
              have e32 : ¬ (ztx 1).getD i 0 = 32 := fun z => q242 (ec.trans z)
              rw [if_neg e32] at hd
              have hsm : sm = true := by cases sm with | true => rfl | false => exact absurd hsame q245
              subst hsm
              have hb : Nat.blt a2 (rE T n (rB T n (cs h).1)) = true := Nat.ble_eq.mpr (by omega)
              rw [hb] at hd
              have et : tA h1 45 at9.toNatClampNeg = T a2 := by rw [zof_cl hat, ((cFr_T g1).trans hT)]
              rw [decide_eq_false (show ¬ T a2 = (ztx 1).getD i 0 from fun z => q248 (et.trans (z.trans ec.symm)))] at hd
              exact tG_cut (zW_mono zTt G dp) (Or.inr ⟨rfl, rfl, rfl, i + 1, w2, a2 + 1, false, _, _, _, _, _, zincN hx (by rcases wlen with y | y <;> omega), by omega, hw, by omega, zincN hat (by rcases wlen with y | y <;> omega), by omega, rfl, hd, rfl⟩)
            · try dsimp only [tvI_i, tvJ_j, tvR_r] at q248
              have q248i := zeqi rfl q248
              refine tw_push rfl ?_
              refine tw_goto rfl ?_
              refine tw_istore rfl ?_
              refine tw_iinc rfl rfl ?_
              refine tw_goto rfl ?_
              refine tw_iinc rfl rfl ?_
              refine tw_goto rfl ?_
              have hil : i < (ztx 1).length := by have z := q241; rw [hX] at z; have e9 : (Int32.ofNat (ztx 1).length).toInt = ((ztx 1).length : Int) := zofI (by rcases wlen with y | y <;> omega); omega
              have hd := scn_d hsc hil
              have ec : ((G.2.1 1).getD x.toNatClampNeg 0) = (ztx 1).getD i 0 := by rw [hX, zof_cl hx]
              have e32 : ¬ (ztx 1).getD i 0 = 32 := fun z => q242 (ec.trans z)
              rw [if_neg e32] at hd
              have hsm : sm = true := by cases sm with | true => rfl | false => exact absurd hsame q245
              subst hsm
              have hb : Nat.blt a2 (rE T n (rB T n (cs h).1)) = true := Nat.ble_eq.mpr (by omega)
              rw [hb] at hd
              have et : tA h1 45 at9.toNatClampNeg = T a2 := by rw [zof_cl hat, ((cFr_T g1).trans hT)]
              rw [decide_eq_true (show T a2 = (ztx 1).getD i 0 from et.symm.trans (q248.trans ec))] at hd
              exact tG_cut (zW_mono zTt G dp) (Or.inr ⟨rfl, rfl, rfl, i + 1, w2, a2 + 1, true, _, _, _, _, _, zincN hx (by rcases wlen with y | y <;> omega), by omega, hw, by omega, zincN hat (by rcases wlen with y | y <;> omega), by omega, rfl, hd, rfl⟩)
  · try dsimp only [tvI_i, tvJ_j, tvR_r] at q240
    refine tw_aload rfl rfl ?_
    refine tw_getS rfl (hs_44_0 g1.1) ?_
    refine tw_aload rfl rfl ?_
    refine tw_getS rfl (hi_44_3 g1.1) ?_
    refine tw_bald rfl (fun f249 => ?_)
    refine tw_push rfl ?_
    refine tw_ic_lt rfl (fun q250 => ?_) (fun q250 => ?_)
    · try dsimp only [tvI_i, tvJ_j, tvR_r] at q250
      refine tw_push rfl ?_
      refine tw_istore rfl ?_
      refine tw_aload rfl rfl ?_
      refine tw_getS rfl (hi_44_2 g1.1) ?_
      refine tw_istore rfl ?_
      refine tw_push rfl ?_
      refine tw_istore rfl ?_
      refine tw_push rfl ?_
      refine tw_istore rfl ?_
      have hend : (tvI (tF h1 44 3)).toInt = ((rE T n (rB T n (cs h).1) : Nat) : Int) := by
        rw [wr_e he (fun z => ?_), hk]
        have hix : (tvI (tF h1 44 3)).toNatClampNeg = (rB T n (cs h).1) + k := zof_cl hk
        have hTx := ((cFr_T g1).trans hT)
        have e9 : tA h1 45 (tvI (tF h1 44 3)).toNatClampNeg = T ((rB T n (cs h).1) + k) := by rw [hix, hTx]
        have e8 := cNl p1 ((cFr_n g1).trans hN)
        have z0 := q240
        have z1 := q250
        try rw [e9] at z1
        try rw [e9] at z2
        omega
      refine tG_loop (zW_mono zTt G dp) (zW_conj zTt G dp) (V := fun pc L st h9 _ _ => pc = 77 ∧ st = [] ∧ h1 = h9 ∧ ∃ (i w2 a2 : Nat) (sm : Bool) (x word at9 same : Int32) (l5 : Option Value), x.toInt = i ∧ i ≤ (ztx 1).length ∧ word.toInt = w2 ∧ w2 ≤ i ∧ at9.toInt = a2 ∧ a2 ≤ 400 + i ∧ same = (if sm = true then 1 else 0) ∧ scn T (rE T n (rB T n (cs h).1)) (rB T n (cs h).1) ((ztx 1).drop i) w2 a2 sm = scn T (rE T n (rB T n (cs h).1)) (rB T n (cs h).1) (ztx 1) 0 (rB T n (cs h).1) true ∧ L = [some (.ref 44), some (.int word), some (.int at9), some (.int same), some (.int x), l5]) ?_ (⟨rfl, rfl, rfl, 0, 0, (rB T n (cs h).1), true, _, _, _, _, _, rfl, Nat.zero_le _, rfl, Nat.le_refl _, (show (tvI (tF h1 44 2)).toInt = (((rB T n (cs h).1) : Nat) : Int) from (cPl p1).trans (by rw [hσ]; rfl)), (by have := cP_400 p1; rw [((cFr_n g1).trans hN)] at this; omega), rfl, rfl, rfl⟩)
      rintro _ _ _ _ _ _ ⟨rfl, rfl, rfl, i, w2, a2, sm, x, word, at9, same, l5, hx, hi, hw, hwi, hat, ha4, hsame, hsc, rfl⟩
      refine tw_iload rfl rfl ?_
      refine tw_push rfl ?_
      refine tw_tlen rfl ?_
      refine tw_ic_ge rfl (fun q251 => ?_) (fun q251 => ?_)
      · try dsimp only [tvI_i, tvJ_j, tvR_r] at q251
        refine tw_push rfl ?_
        have hil : (ztx 1).length ≤ i := by have z := q251; rw [hX] at z; have e9 : (Int32.ofNat (ztx 1).length).toInt = ((ztx 1).length : Int) := zofI (by rcases wlen with y | y <;> omega); omega
        exact tw_iret rfl ⟨g1, p1, hσ, hend, _, rfl, wrd_n (scn_e hsc hil)⟩
      · try dsimp only [tvI_i, tvJ_j, tvR_r] at q251
        refine tw_push rfl ?_
        refine tw_iload rfl rfl ?_
        refine tw_chr rfl (fun _ => ?_)
        refine tw_istore rfl ?_
        refine tw_iload rfl rfl ?_
        refine tw_push rfl ?_
        refine tw_ic_eq rfl (fun q252 => ?_) (fun q252 => ?_)
        · try dsimp only [tvI_i, tvJ_j, tvR_r] at q252
          have q252i := zeqi (Y := 32) (by decide) q252
          refine tw_iload rfl rfl ?_
          refine tw_if_eq rfl (fun q253 => ?_) (fun q253 => ?_)
          · try dsimp only [tvI_i, tvJ_j, tvR_r] at q253
            have q253i := zeqi (Y := 0) (by decide) q253
            refine tw_iinc rfl rfl ?_
            refine tw_aload rfl rfl ?_
            refine tw_getS rfl (hi_44_2 g1.1) ?_
            refine tw_istore rfl ?_
            refine tw_push rfl ?_
            refine tw_istore rfl ?_
            refine tw_iinc rfl rfl ?_
            refine tw_goto rfl ?_
            have hil : i < (ztx 1).length := by have z := q251; rw [hX] at z; have e9 : (Int32.ofNat (ztx 1).length).toInt = ((ztx 1).length : Int) := zofI (by rcases wlen with y | y <;> omega); omega
            have hd := scn_d hsc hil
            have ec : ((G.2.1 1).getD x.toNatClampNeg 0) = (ztx 1).getD i 0 := by rw [hX, zof_cl hx]
            have e32 : (ztx 1).getD i 0 = 32 := ec ▸ q252
            rw [if_pos e32] at hd
            have hsm : sm = false := by cases sm with | false => rfl | true => exact absurd (hsame.symm.trans q253) (by decide)
            subst hsm
            rw [if_neg (show ¬ (false && Nat.beq a2 (rE T n (rB T n (cs h).1))) = true from Bool.false_ne_true)] at hd
            exact tG_cut (zW_mono zTt G dp) (Or.inr ⟨rfl, rfl, rfl, i + 1, w2 + 1, (rB T n (cs h).1), true, _, _, _, _, _, zincN hx (by rcases wlen with y | y <;> omega), by omega, zincN hw (by rcases wlen with y | y <;> omega), by omega, (show (tvI (tF h1 44 2)).toInt = (((rB T n (cs h).1) : Nat) : Int) from (cPl p1).trans (by rw [hσ]; rfl)), (by have := cP_400 p1; rw [((cFr_n g1).trans hN)] at this; omega), rfl, hd, rfl⟩)
          · try dsimp only [tvI_i, tvJ_j, tvR_r] at q253
            have q253i := zneq (Y := 0) (by decide) q253
            refine tw_iload rfl rfl ?_
            refine tw_aload rfl rfl ?_
            refine tw_getS rfl (hi_44_3 g1.1) ?_
            refine tw_ic_ne rfl (fun q254 => ?_) (fun q254 => ?_)
            · try dsimp only [tvI_i, tvJ_j, tvR_r] at q254
              have q254i := zneq rfl q254
              refine tw_iinc rfl rfl ?_
              refine tw_aload rfl rfl ?_
              refine tw_getS rfl (hi_44_2 g1.1) ?_
              refine tw_istore rfl ?_
              refine tw_push rfl ?_
              refine tw_istore rfl ?_
              refine tw_iinc rfl rfl ?_
              refine tw_goto rfl ?_
              have hil : i < (ztx 1).length := by have z := q251; rw [hX] at z; have e9 : (Int32.ofNat (ztx 1).length).toInt = ((ztx 1).length : Int) := zofI (by rcases wlen with y | y <;> omega); omega
              have hd := scn_d hsc hil
              have ec : ((G.2.1 1).getD x.toNatClampNeg 0) = (ztx 1).getD i 0 := by rw [hX, zof_cl hx]
              have e32 : (ztx 1).getD i 0 = 32 := ec ▸ q252
              rw [if_pos e32] at hd
              have hne : ¬ a2 = rE T n (rB T n (cs h).1) := fun z => q254 (Int32.toInt_inj.mp (by rw [hat, hend]; exact congrArg _ z))
              rw [if_neg (fun z => by rw [Bool.and_eq_true] at z; exact hne (Nat.eq_of_beq_eq_true z.2))] at hd
              exact tG_cut (zW_mono zTt G dp) (Or.inr ⟨rfl, rfl, rfl, i + 1, w2 + 1, (rB T n (cs h).1), true, _, _, _, _, _, zincN hx (by rcases wlen with y | y <;> omega), by omega, zincN hw (by rcases wlen with y | y <;> omega), by omega, (show (tvI (tF h1 44 2)).toInt = (((rB T n (cs h).1) : Nat) : Int) from (cPl p1).trans (by rw [hσ]; rfl)), (by have := cP_400 p1; rw [((cFr_n g1).trans hN)] at this; omega), rfl, hd, rfl⟩)
            · try dsimp only [tvI_i, tvJ_j, tvR_r] at q254
              have q254i := zeqi rfl q254
              refine tw_iload rfl rfl ?_
              have hil : i < (ztx 1).length := by have z := q251; rw [hX] at z; have e9 : (Int32.ofNat (ztx 1).length).toInt = ((ztx 1).length : Int) := zofI (by rcases wlen with y | y <;> omega); omega
              have hd := scn_d hsc hil
              have ec : ((G.2.1 1).getD x.toNatClampNeg 0) = (ztx 1).getD i 0 := by rw [hX, zof_cl hx]
              have e32 : (ztx 1).getD i 0 = 32 := ec ▸ q252
              rw [if_pos e32] at hd
              have hsm : sm = true := by cases sm with | true => rfl | false => exact absurd hsame q253
              subst hsm
              have hae : a2 = rE T n (rB T n (cs h).1) := by have z : at9.toInt = (tvI (tF h1 44 3)).toInt := congrArg Int32.toInt q254; omega
              rw [hae, if_pos (by rw [Bool.and_eq_true]; exact ⟨rfl, Nat.beq_refl _⟩)] at hd
              exact tw_iret rfl ⟨g1, p1, hσ, hend, _, rfl, wrd_s hd.symm hw⟩
        · try dsimp only [tvI_i, tvJ_j, tvR_r] at q252
          have q252i := zneq (Y := 32) (by decide) q252
          refine tw_iload rfl rfl ?_
          refine tw_if_eq rfl (fun q255 => ?_) (fun q255 => ?_)
          · try dsimp only [tvI_i, tvJ_j, tvR_r] at q255
            have q255i := zeqi (Y := 0) (by decide) q255
            refine tw_push rfl ?_
            refine tw_istore rfl ?_
            refine tw_iinc rfl rfl ?_
            refine tw_goto rfl ?_
            refine tw_iinc rfl rfl ?_
            refine tw_goto rfl ?_
            have hil : i < (ztx 1).length := by have z := q251; rw [hX] at z; have e9 : (Int32.ofNat (ztx 1).length).toInt = ((ztx 1).length : Int) := zofI (by rcases wlen with y | y <;> omega); omega
            have hd := scn_d hsc hil
            have ec : ((G.2.1 1).getD x.toNatClampNeg 0) = (ztx 1).getD i 0 := by rw [hX, zof_cl hx]
            have e32 : ¬ (ztx 1).getD i 0 = 32 := fun z => q252 (ec.trans z)
            rw [if_neg e32] at hd
            have hsm : sm = false := by cases sm with | false => rfl | true => exact absurd (hsame.symm.trans q255) (by decide)
            subst hsm
            exact tG_cut (zW_mono zTt G dp) (Or.inr ⟨rfl, rfl, rfl, i + 1, w2, a2 + 1, false, _, _, _, _, _, zincN hx (by rcases wlen with y | y <;> omega), by omega, hw, by omega, zincN hat (by rcases wlen with y | y <;> omega), by omega, rfl, hd, rfl⟩)
          · try dsimp only [tvI_i, tvJ_j, tvR_r] at q255
            have q255i := zneq (Y := 0) (by decide) q255
            refine tw_iload rfl rfl ?_
            refine tw_aload rfl rfl ?_
            refine tw_getS rfl (hi_44_3 g1.1) ?_
            refine tw_ic_ge rfl (fun q256 => ?_) (fun q256 => ?_)
            · try dsimp only [tvI_i, tvJ_j, tvR_r] at q256
              refine tw_push rfl ?_
              refine tw_istore rfl ?_
              refine tw_iinc rfl rfl ?_
              refine tw_goto rfl ?_
              refine tw_iinc rfl rfl ?_
              refine tw_goto rfl ?_
              have hil : i < (ztx 1).length := by have z := q251; rw [hX] at z; have e9 : (Int32.ofNat (ztx 1).length).toInt = ((ztx 1).length : Int) := zofI (by rcases wlen with y | y <;> omega); omega
              have hd := scn_d hsc hil
              have ec : ((G.2.1 1).getD x.toNatClampNeg 0) = (ztx 1).getD i 0 := by rw [hX, zof_cl hx]
              have e32 : ¬ (ztx 1).getD i 0 = 32 := fun z => q252 (ec.trans z)
              rw [if_neg e32] at hd
              have hsm : sm = true := by cases sm with | true => rfl | false => exact absurd hsame q255
              subst hsm
              have hb : Nat.blt a2 (rE T n (rB T n (cs h).1)) = false := by cases z : Nat.blt a2 (rE T n (rB T n (cs h).1)) with | false => rfl | true => have y : a2 < rE T n (rB T n (cs h).1) := Nat.le_of_ble_eq_true z; omega
              rw [hb] at hd
              exact tG_cut (zW_mono zTt G dp) (Or.inr ⟨rfl, rfl, rfl, i + 1, w2, a2 + 1, false, _, _, _, _, _, zincN hx (by rcases wlen with y | y <;> omega), by omega, hw, by omega, zincN hat (by rcases wlen with y | y <;> omega), by omega, rfl, hd, rfl⟩)
            · try dsimp only [tvI_i, tvJ_j, tvR_r] at q256
              refine tw_aload rfl rfl ?_
              refine tw_getS rfl (hs_44_0 g1.1) ?_
              refine tw_iload rfl rfl ?_
              refine tw_bald rfl (fun f257 => ?_)
              refine tw_iload rfl rfl ?_
              refine tw_ic_ne rfl (fun q258 => ?_) (fun q258 => ?_)
              · try dsimp only [tvI_i, tvJ_j, tvR_r] at q258
                have q258i := zneq rfl q258
                refine tw_push rfl ?_
                refine tw_istore rfl ?_
                refine tw_iinc rfl rfl ?_
                refine tw_goto rfl ?_
                refine tw_iinc rfl rfl ?_
                refine tw_goto rfl ?_
                have hil : i < (ztx 1).length := by have z := q251; rw [hX] at z; have e9 : (Int32.ofNat (ztx 1).length).toInt = ((ztx 1).length : Int) := zofI (by rcases wlen with y | y <;> omega); omega
                have hd := scn_d hsc hil
                have ec : ((G.2.1 1).getD x.toNatClampNeg 0) = (ztx 1).getD i 0 := by rw [hX, zof_cl hx]
                have e32 : ¬ (ztx 1).getD i 0 = 32 := fun z => q252 (ec.trans z)
                rw [if_neg e32] at hd
                have hsm : sm = true := by cases sm with | true => rfl | false => exact absurd hsame q255
                subst hsm
                have hb : Nat.blt a2 (rE T n (rB T n (cs h).1)) = true := Nat.ble_eq.mpr (by omega)
                rw [hb] at hd
                have et : tA h1 45 at9.toNatClampNeg = T a2 := by rw [zof_cl hat, ((cFr_T g1).trans hT)]
                rw [decide_eq_false (show ¬ T a2 = (ztx 1).getD i 0 from fun z => q258 (et.trans (z.trans ec.symm)))] at hd
                exact tG_cut (zW_mono zTt G dp) (Or.inr ⟨rfl, rfl, rfl, i + 1, w2, a2 + 1, false, _, _, _, _, _, zincN hx (by rcases wlen with y | y <;> omega), by omega, hw, by omega, zincN hat (by rcases wlen with y | y <;> omega), by omega, rfl, hd, rfl⟩)
              · try dsimp only [tvI_i, tvJ_j, tvR_r] at q258
                have q258i := zeqi rfl q258
                refine tw_push rfl ?_
                refine tw_goto rfl ?_
                refine tw_istore rfl ?_
                refine tw_iinc rfl rfl ?_
                refine tw_goto rfl ?_
                refine tw_iinc rfl rfl ?_
                refine tw_goto rfl ?_
                have hil : i < (ztx 1).length := by have z := q251; rw [hX] at z; have e9 : (Int32.ofNat (ztx 1).length).toInt = ((ztx 1).length : Int) := zofI (by rcases wlen with y | y <;> omega); omega
                have hd := scn_d hsc hil
                have ec : ((G.2.1 1).getD x.toNatClampNeg 0) = (ztx 1).getD i 0 := by rw [hX, zof_cl hx]
                have e32 : ¬ (ztx 1).getD i 0 = 32 := fun z => q252 (ec.trans z)
                rw [if_neg e32] at hd
                have hsm : sm = true := by cases sm with | true => rfl | false => exact absurd hsame q255
                subst hsm
                have hb : Nat.blt a2 (rE T n (rB T n (cs h).1)) = true := Nat.ble_eq.mpr (by omega)
                rw [hb] at hd
                have et : tA h1 45 at9.toNatClampNeg = T a2 := by rw [zof_cl hat, ((cFr_T g1).trans hT)]
                rw [decide_eq_true (show T a2 = (ztx 1).getD i 0 from et.symm.trans (q258.trans ec))] at hd
                exact tG_cut (zW_mono zTt G dp) (Or.inr ⟨rfl, rfl, rfl, i + 1, w2, a2 + 1, true, _, _, _, _, _, zincN hx (by rcases wlen with y | y <;> omega), by omega, hw, by omega, zincN hat (by rcases wlen with y | y <;> omega), by omega, rfl, hd, rfl⟩)
    · try dsimp only [tvI_i, tvJ_j, tvR_r] at q250
      refine tw_aload rfl rfl ?_
      refine tw_getS rfl (hs_44_0 g1.1) ?_
      refine tw_aload rfl rfl ?_
      refine tw_getS rfl (hi_44_3 g1.1) ?_
      refine tw_bald rfl (fun f259 => ?_)
      refine tw_push rfl ?_
      refine tw_ic_gt rfl (fun q260 => ?_) (fun q260 => ?_)
      · try dsimp only [tvI_i, tvJ_j, tvR_r] at q260
        refine tw_push rfl ?_
        refine tw_istore rfl ?_
        refine tw_aload rfl rfl ?_
        refine tw_getS rfl (hi_44_2 g1.1) ?_
        refine tw_istore rfl ?_
        refine tw_push rfl ?_
        refine tw_istore rfl ?_
        refine tw_push rfl ?_
        refine tw_istore rfl ?_
        have hend : (tvI (tF h1 44 3)).toInt = ((rE T n (rB T n (cs h).1) : Nat) : Int) := by
          rw [wr_e he (fun z => ?_), hk]
          have hix : (tvI (tF h1 44 3)).toNatClampNeg = (rB T n (cs h).1) + k := zof_cl hk
          have hTx := ((cFr_T g1).trans hT)
          have e9 : tA h1 45 (tvI (tF h1 44 3)).toNatClampNeg = T ((rB T n (cs h).1) + k) := by rw [hix, hTx]
          have e8 := cNl p1 ((cFr_n g1).trans hN)
          have z0 := q240
          have z1 := q250
          have z2 := q260
          try rw [e9] at z1
          try rw [e9] at z2
          omega
        refine tG_loop (zW_mono zTt G dp) (zW_conj zTt G dp) (V := fun pc L st h9 _ _ => pc = 77 ∧ st = [] ∧ h1 = h9 ∧ ∃ (i w2 a2 : Nat) (sm : Bool) (x word at9 same : Int32) (l5 : Option Value), x.toInt = i ∧ i ≤ (ztx 1).length ∧ word.toInt = w2 ∧ w2 ≤ i ∧ at9.toInt = a2 ∧ a2 ≤ 400 + i ∧ same = (if sm = true then 1 else 0) ∧ scn T (rE T n (rB T n (cs h).1)) (rB T n (cs h).1) ((ztx 1).drop i) w2 a2 sm = scn T (rE T n (rB T n (cs h).1)) (rB T n (cs h).1) (ztx 1) 0 (rB T n (cs h).1) true ∧ L = [some (.ref 44), some (.int word), some (.int at9), some (.int same), some (.int x), l5]) ?_ (⟨rfl, rfl, rfl, 0, 0, (rB T n (cs h).1), true, _, _, _, _, _, rfl, Nat.zero_le _, rfl, Nat.le_refl _, (show (tvI (tF h1 44 2)).toInt = (((rB T n (cs h).1) : Nat) : Int) from (cPl p1).trans (by rw [hσ]; rfl)), (by have := cP_400 p1; rw [((cFr_n g1).trans hN)] at this; omega), rfl, rfl, rfl⟩)
        rintro _ _ _ _ _ _ ⟨rfl, rfl, rfl, i, w2, a2, sm, x, word, at9, same, l5, hx, hi, hw, hwi, hat, ha4, hsame, hsc, rfl⟩
        refine tw_iload rfl rfl ?_
        refine tw_push rfl ?_
        refine tw_tlen rfl ?_
        refine tw_ic_ge rfl (fun q261 => ?_) (fun q261 => ?_)
        · try dsimp only [tvI_i, tvJ_j, tvR_r] at q261
          refine tw_push rfl ?_
          have hil : (ztx 1).length ≤ i := by have z := q261; rw [hX] at z; have e9 : (Int32.ofNat (ztx 1).length).toInt = ((ztx 1).length : Int) := zofI (by rcases wlen with y | y <;> omega); omega
          exact tw_iret rfl ⟨g1, p1, hσ, hend, _, rfl, wrd_n (scn_e hsc hil)⟩
        · try dsimp only [tvI_i, tvJ_j, tvR_r] at q261
          refine tw_push rfl ?_
          refine tw_iload rfl rfl ?_
          refine tw_chr rfl (fun _ => ?_)
          refine tw_istore rfl ?_
          refine tw_iload rfl rfl ?_
          refine tw_push rfl ?_
          refine tw_ic_eq rfl (fun q262 => ?_) (fun q262 => ?_)
          · try dsimp only [tvI_i, tvJ_j, tvR_r] at q262
            have q262i := zeqi (Y := 32) (by decide) q262
            refine tw_iload rfl rfl ?_
            refine tw_if_eq rfl (fun q263 => ?_) (fun q263 => ?_)
            · try dsimp only [tvI_i, tvJ_j, tvR_r] at q263
              have q263i := zeqi (Y := 0) (by decide) q263
              refine tw_iinc rfl rfl ?_
              refine tw_aload rfl rfl ?_
              refine tw_getS rfl (hi_44_2 g1.1) ?_
              refine tw_istore rfl ?_
              refine tw_push rfl ?_
              refine tw_istore rfl ?_
              refine tw_iinc rfl rfl ?_
              refine tw_goto rfl ?_
              have hil : i < (ztx 1).length := by have z := q261; rw [hX] at z; have e9 : (Int32.ofNat (ztx 1).length).toInt = ((ztx 1).length : Int) := zofI (by rcases wlen with y | y <;> omega); omega
              have hd := scn_d hsc hil
              have ec : ((G.2.1 1).getD x.toNatClampNeg 0) = (ztx 1).getD i 0 := by rw [hX, zof_cl hx]
              have e32 : (ztx 1).getD i 0 = 32 := ec ▸ q262
              rw [if_pos e32] at hd
              have hsm : sm = false := by cases sm with | false => rfl | true => exact absurd (hsame.symm.trans q263) (by decide)
              subst hsm
              rw [if_neg (show ¬ (false && Nat.beq a2 (rE T n (rB T n (cs h).1))) = true from Bool.false_ne_true)] at hd
              exact tG_cut (zW_mono zTt G dp) (Or.inr ⟨rfl, rfl, rfl, i + 1, w2 + 1, (rB T n (cs h).1), true, _, _, _, _, _, zincN hx (by rcases wlen with y | y <;> omega), by omega, zincN hw (by rcases wlen with y | y <;> omega), by omega, (show (tvI (tF h1 44 2)).toInt = (((rB T n (cs h).1) : Nat) : Int) from (cPl p1).trans (by rw [hσ]; rfl)), (by have := cP_400 p1; rw [((cFr_n g1).trans hN)] at this; omega), rfl, hd, rfl⟩)
            · try dsimp only [tvI_i, tvJ_j, tvR_r] at q263
              have q263i := zneq (Y := 0) (by decide) q263
              refine tw_iload rfl rfl ?_
              refine tw_aload rfl rfl ?_
              refine tw_getS rfl (hi_44_3 g1.1) ?_
              refine tw_ic_ne rfl (fun q264 => ?_) (fun q264 => ?_)
              · try dsimp only [tvI_i, tvJ_j, tvR_r] at q264
                have q264i := zneq rfl q264
                refine tw_iinc rfl rfl ?_
                refine tw_aload rfl rfl ?_
                refine tw_getS rfl (hi_44_2 g1.1) ?_
                refine tw_istore rfl ?_
                refine tw_push rfl ?_
                refine tw_istore rfl ?_
                refine tw_iinc rfl rfl ?_
                refine tw_goto rfl ?_
                have hil : i < (ztx 1).length := by have z := q261; rw [hX] at z; have e9 : (Int32.ofNat (ztx 1).length).toInt = ((ztx 1).length : Int) := zofI (by rcases wlen with y | y <;> omega); omega
                have hd := scn_d hsc hil
                have ec : ((G.2.1 1).getD x.toNatClampNeg 0) = (ztx 1).getD i 0 := by rw [hX, zof_cl hx]
                have e32 : (ztx 1).getD i 0 = 32 := ec ▸ q262
                rw [if_pos e32] at hd
                have hne : ¬ a2 = rE T n (rB T n (cs h).1) := fun z => q264 (Int32.toInt_inj.mp (by rw [hat, hend]; exact congrArg _ z))
                rw [if_neg (fun z => by rw [Bool.and_eq_true] at z; exact hne (Nat.eq_of_beq_eq_true z.2))] at hd
                exact tG_cut (zW_mono zTt G dp) (Or.inr ⟨rfl, rfl, rfl, i + 1, w2 + 1, (rB T n (cs h).1), true, _, _, _, _, _, zincN hx (by rcases wlen with y | y <;> omega), by omega, zincN hw (by rcases wlen with y | y <;> omega), by omega, (show (tvI (tF h1 44 2)).toInt = (((rB T n (cs h).1) : Nat) : Int) from (cPl p1).trans (by rw [hσ]; rfl)), (by have := cP_400 p1; rw [((cFr_n g1).trans hN)] at this; omega), rfl, hd, rfl⟩)
              · try dsimp only [tvI_i, tvJ_j, tvR_r] at q264
                have q264i := zeqi rfl q264
                refine tw_iload rfl rfl ?_
                have hil : i < (ztx 1).length := by have z := q261; rw [hX] at z; have e9 : (Int32.ofNat (ztx 1).length).toInt = ((ztx 1).length : Int) := zofI (by rcases wlen with y | y <;> omega); omega
                have hd := scn_d hsc hil
                have ec : ((G.2.1 1).getD x.toNatClampNeg 0) = (ztx 1).getD i 0 := by rw [hX, zof_cl hx]
                have e32 : (ztx 1).getD i 0 = 32 := ec ▸ q262
                rw [if_pos e32] at hd
                have hsm : sm = true := by cases sm with | true => rfl | false => exact absurd hsame q263
                subst hsm
                have hae : a2 = rE T n (rB T n (cs h).1) := by have z : at9.toInt = (tvI (tF h1 44 3)).toInt := congrArg Int32.toInt q264; omega
                rw [hae, if_pos (by rw [Bool.and_eq_true]; exact ⟨rfl, Nat.beq_refl _⟩)] at hd
                exact tw_iret rfl ⟨g1, p1, hσ, hend, _, rfl, wrd_s hd.symm hw⟩
          · try dsimp only [tvI_i, tvJ_j, tvR_r] at q262
            have q262i := zneq (Y := 32) (by decide) q262
            refine tw_iload rfl rfl ?_
            refine tw_if_eq rfl (fun q265 => ?_) (fun q265 => ?_)
            · try dsimp only [tvI_i, tvJ_j, tvR_r] at q265
              have q265i := zeqi (Y := 0) (by decide) q265
              refine tw_push rfl ?_
              refine tw_istore rfl ?_
              refine tw_iinc rfl rfl ?_
              refine tw_goto rfl ?_
              refine tw_iinc rfl rfl ?_
              refine tw_goto rfl ?_
              have hil : i < (ztx 1).length := by have z := q261; rw [hX] at z; have e9 : (Int32.ofNat (ztx 1).length).toInt = ((ztx 1).length : Int) := zofI (by rcases wlen with y | y <;> omega); omega
              have hd := scn_d hsc hil
              have ec : ((G.2.1 1).getD x.toNatClampNeg 0) = (ztx 1).getD i 0 := by rw [hX, zof_cl hx]
              have e32 : ¬ (ztx 1).getD i 0 = 32 := fun z => q262 (ec.trans z)
              rw [if_neg e32] at hd
              have hsm : sm = false := by cases sm with | false => rfl | true => exact absurd (hsame.symm.trans q265) (by decide)
              subst hsm
              exact tG_cut (zW_mono zTt G dp) (Or.inr ⟨rfl, rfl, rfl, i + 1, w2, a2 + 1, false, _, _, _, _, _, zincN hx (by rcases wlen with y | y <;> omega), by omega, hw, by omega, zincN hat (by rcases wlen with y | y <;> omega), by omega, rfl, hd, rfl⟩)
            · try dsimp only [tvI_i, tvJ_j, tvR_r] at q265
              have q265i := zneq (Y := 0) (by decide) q265
              refine tw_iload rfl rfl ?_
              refine tw_aload rfl rfl ?_
              refine tw_getS rfl (hi_44_3 g1.1) ?_
              refine tw_ic_ge rfl (fun q266 => ?_) (fun q266 => ?_)
              · try dsimp only [tvI_i, tvJ_j, tvR_r] at q266
                refine tw_push rfl ?_
                refine tw_istore rfl ?_
                refine tw_iinc rfl rfl ?_
                refine tw_goto rfl ?_
                refine tw_iinc rfl rfl ?_
                refine tw_goto rfl ?_
                have hil : i < (ztx 1).length := by have z := q261; rw [hX] at z; have e9 : (Int32.ofNat (ztx 1).length).toInt = ((ztx 1).length : Int) := zofI (by rcases wlen with y | y <;> omega); omega
                have hd := scn_d hsc hil
                have ec : ((G.2.1 1).getD x.toNatClampNeg 0) = (ztx 1).getD i 0 := by rw [hX, zof_cl hx]
                have e32 : ¬ (ztx 1).getD i 0 = 32 := fun z => q262 (ec.trans z)
                rw [if_neg e32] at hd
                have hsm : sm = true := by cases sm with | true => rfl | false => exact absurd hsame q265
                subst hsm
                have hb : Nat.blt a2 (rE T n (rB T n (cs h).1)) = false := by cases z : Nat.blt a2 (rE T n (rB T n (cs h).1)) with | false => rfl | true => have y : a2 < rE T n (rB T n (cs h).1) := Nat.le_of_ble_eq_true z; omega
                rw [hb] at hd
                exact tG_cut (zW_mono zTt G dp) (Or.inr ⟨rfl, rfl, rfl, i + 1, w2, a2 + 1, false, _, _, _, _, _, zincN hx (by rcases wlen with y | y <;> omega), by omega, hw, by omega, zincN hat (by rcases wlen with y | y <;> omega), by omega, rfl, hd, rfl⟩)
              · try dsimp only [tvI_i, tvJ_j, tvR_r] at q266
                refine tw_aload rfl rfl ?_
                refine tw_getS rfl (hs_44_0 g1.1) ?_
                refine tw_iload rfl rfl ?_
                refine tw_bald rfl (fun f267 => ?_)
                refine tw_iload rfl rfl ?_
                refine tw_ic_ne rfl (fun q268 => ?_) (fun q268 => ?_)
                · try dsimp only [tvI_i, tvJ_j, tvR_r] at q268
                  have q268i := zneq rfl q268
                  refine tw_push rfl ?_
                  refine tw_istore rfl ?_
                  refine tw_iinc rfl rfl ?_
                  refine tw_goto rfl ?_
                  refine tw_iinc rfl rfl ?_
                  refine tw_goto rfl ?_
                  have hil : i < (ztx 1).length := by have z := q261; rw [hX] at z; have e9 : (Int32.ofNat (ztx 1).length).toInt = ((ztx 1).length : Int) := zofI (by rcases wlen with y | y <;> omega); omega
                  have hd := scn_d hsc hil
                  have ec : ((G.2.1 1).getD x.toNatClampNeg 0) = (ztx 1).getD i 0 := by rw [hX, zof_cl hx]
                  have e32 : ¬ (ztx 1).getD i 0 = 32 := fun z => q262 (ec.trans z)
                  rw [if_neg e32] at hd
                  have hsm : sm = true := by cases sm with | true => rfl | false => exact absurd hsame q265
                  subst hsm
                  have hb : Nat.blt a2 (rE T n (rB T n (cs h).1)) = true := Nat.ble_eq.mpr (by omega)
                  rw [hb] at hd
                  have et : tA h1 45 at9.toNatClampNeg = T a2 := by rw [zof_cl hat, ((cFr_T g1).trans hT)]
                  rw [decide_eq_false (show ¬ T a2 = (ztx 1).getD i 0 from fun z => q268 (et.trans (z.trans ec.symm)))] at hd
                  exact tG_cut (zW_mono zTt G dp) (Or.inr ⟨rfl, rfl, rfl, i + 1, w2, a2 + 1, false, _, _, _, _, _, zincN hx (by rcases wlen with y | y <;> omega), by omega, hw, by omega, zincN hat (by rcases wlen with y | y <;> omega), by omega, rfl, hd, rfl⟩)
                · try dsimp only [tvI_i, tvJ_j, tvR_r] at q268
                  have q268i := zeqi rfl q268
                  refine tw_push rfl ?_
                  refine tw_goto rfl ?_
                  refine tw_istore rfl ?_
                  refine tw_iinc rfl rfl ?_
                  refine tw_goto rfl ?_
                  refine tw_iinc rfl rfl ?_
                  refine tw_goto rfl ?_
                  have hil : i < (ztx 1).length := by have z := q261; rw [hX] at z; have e9 : (Int32.ofNat (ztx 1).length).toInt = ((ztx 1).length : Int) := zofI (by rcases wlen with y | y <;> omega); omega
                  have hd := scn_d hsc hil
                  have ec : ((G.2.1 1).getD x.toNatClampNeg 0) = (ztx 1).getD i 0 := by rw [hX, zof_cl hx]
                  have e32 : ¬ (ztx 1).getD i 0 = 32 := fun z => q262 (ec.trans z)
                  rw [if_neg e32] at hd
                  have hsm : sm = true := by cases sm with | true => rfl | false => exact absurd hsame q265
                  subst hsm
                  have hb : Nat.blt a2 (rE T n (rB T n (cs h).1)) = true := Nat.ble_eq.mpr (by omega)
                  rw [hb] at hd
                  have et : tA h1 45 at9.toNatClampNeg = T a2 := by rw [zof_cl hat, ((cFr_T g1).trans hT)]
                  rw [decide_eq_true (show T a2 = (ztx 1).getD i 0 from et.symm.trans (q268.trans ec))] at hd
                  exact tG_cut (zW_mono zTt G dp) (Or.inr ⟨rfl, rfl, rfl, i + 1, w2, a2 + 1, true, _, _, _, _, _, zincN hx (by rcases wlen with y | y <;> omega), by omega, hw, by omega, zincN hat (by rcases wlen with y | y <;> omega), by omega, rfl, hd, rfl⟩)
      · try dsimp only [tvI_i, tvJ_j, tvR_r] at q260
        refine tw_aload rfl rfl ?_
        refine tw_dup rfl ?_
        refine tw_getS rfl (hi_44_3 g1.1) ?_
        refine tw_push rfl ?_
        refine tw_iadd rfl ?_
        refine tw_put rfl (fun f269 => ?_)
        refine tG_set f269 (hw_44_3 f269 (g1).1) (fun hf269 ef269 => ?_)
        try dsimp only [tvI_i] at ef269
        have gf269 := cFr_s g1 ef269 (by decide)
        have sf269 := cs_o ef269 (by decide) (by decide) (by decide)
        have pf269 := cP_o p1 ef269 (by decide)
        have wf269 := cI_x ef269
        have vf269 := cI_o (q := 1) ef269 (by decide)
        have yf269 := cI_o (q := 2) ef269 (by decide)
        refine tw_goto rfl ?_
        have hlt : (rB T n (cs h).1) + k < n := by have := cNl p1 ((cFr_n g1).trans hN); omega
        have hix : (tvI (tF h1 44 3)).toNatClampNeg = (rB T n (cs h).1) + k := zof_cl hk
        have ha : 97 ≤ (T ((rB T n (cs h).1) + k)).toInt ∧ (T ((rB T n (cs h).1) + k)).toInt ≤ 122 := by rw [← hix, ← ((cFr_T g1).trans hT)]; exact ⟨by omega, by omega⟩
        exact tG_cut (zW_mono zTt G dp) (Or.inr ⟨rfl, rfl, _, k + 1, _, _, _, _, _, rfl, gf269, pf269, sf269.trans hσ, by rw [wf269]; exact zincL hk q240, by omega, (rE_y ⟨hlt, ha⟩).symm.trans he, rfl⟩)
