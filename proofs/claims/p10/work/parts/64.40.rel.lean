/-! what is answered: small helpers -/
def tBo (P : Prop) (w : Option Value) : Prop := (P ∧ w = some (.int 1)) ∨ (¬ P ∧ w = some (.int 0))
theorem tBo_i {P R : Prop} {w : Option Value} (e : P ↔ R) (k : tBo P w) : tBo R w := k.imp (fun z => ⟨e.mp z.1, z.2⟩) (fun z => ⟨fun y => z.1 (e.mpr y), z.2⟩)
theorem zpB_c {b : Int × Int} {r : List (Int × Int)} {xs : List Int32} (h : zpB (b :: r) xs) : ∃ x ys, xs = x :: ys ∧ (b.1 ≤ x.toInt ∧ x.toInt ≤ b.2) ∧ zpB r ys := by
  obtain ⟨lo, hi⟩ := b
  cases xs with
  | nil => exact h.elim
  | cons x ys => exact ⟨x, ys, rfl, h.1, h.2⟩
theorem zpB_n {xs : List Int32} (h : zpB [] xs) : xs = [] := by
  cases xs with
  | nil => rfl
  | cons x ys => exact h.elim
theorem zclx {x : Int32} (h : 0 ≤ x.toInt) : (x.toNatClampNeg : Int) = x.toInt := by
  show ((x.toInt.toNat : Nat) : Int) = _
  omega
theorem zclE {x : Int32} : x.toNatClampNeg = x.toInt.toNat := rfl
theorem zeqi {x y : Int32} {Y : Int} (hy : y.toInt = Y) (h : x = y) : x.toInt = Y := by rw [h]; exact hy
theorem zneq {x y : Int32} {Y : Int} (hy : y.toInt = Y) (h : ¬ x = y) : x.toInt ≠ Y := fun z => h (Int32.toInt_inj.mp (z.trans hy.symm))
theorem zsub1 {x : Int32} (h : 0 ≤ x.toInt) : (x - 1).toInt = x.toInt - 1 := by
  have := Int32.toInt_lt x
  rw [Int32.toInt_sub]
  exact Int.bmod_eq_of_le (by show (-2147483648 : Int) ≤ x.toInt - 1; omega) (by show x.toInt - 1 < (2147483648 : Int); omega)
def tRwl : List (Nat × Nat) := [(4, 5), (14, 15), (27, 28), (97, 98)]
def tRw (h : zH) : Prop := ∀ q ∈ tRwl, ∀ i, i < tN h q.1 → tO h q.1 i = some (q.2 + i)
theorem tRw_A {h : zH} {r i : Nat} {x : Int32} (k : tRw h) : tRw (tSA h r i x) := by unfold tRw; rw [tO_tSA, tN_tSA]; exact k
theorem tRw_J {h : zH} {r i : Nat} {x : Int64} (k : tRw h) : tRw (tSJ h r i x) := by unfold tRw; rw [tO_tSJ, tN_tSJ]; exact k
theorem tRw_F {h : zH} {r b : Nat} {w : Value} (k : tRw h) : tRw (tSF h r b w) := by unfold tRw; rw [tO_tSF, tN_tSF]; exact k
theorem tRw_at {h : zH} (k : tRw h) {p q : Nat} (hm : (p, q) ∈ tRwl) {i : Int32} (z : tInO h p i) : zrf (tO h p i.toNatClampNeg) = .ref (q + i.toNatClampNeg) := by
  rw [k (p, q) hm _ z.rg.2]
  rfl
theorem tfr_N {xs : Nat → Int32} {τ : List Nat} {h h2 : zH} {W : Nat → Nat → Bool} {p t : Nat} (hB : zBs xs τ h) (hf : yFr W τ h h2) (ht : zTG[p]? = some t) : tN h2 p = tN h p := by
  obtain ⟨ct, c, a1, a2, -⟩ := hB.1.2 _ _ (hB.2.1 _ _ ht)
  obtain ⟨c2, b1, b2⟩ := hf _ _ _ (hB.2.1 _ _ ht) a2
  unfold tN
  rw [a2, b1]
  match c, c2, b2 with
  | .inr (x, fs), .inr (y, gs), b2 => rfl
  | .inl (k, N, x), .inl (k2, N2, y), b2 => exact b2.2.1.symm
theorem tfr_Fs {xs : Nat → Int32} {τ : List Nat} {h h2 : zH} {W : Nat → Nat → Bool} {p t b : Nat} (hB : zBs xs τ h) (hf : yFr W τ h h2) (ht : τ[p]? = some t) (hW : W t b = false) : tF h2 p b = tF h p b := by
  obtain ⟨ct, c, a1, a2, -⟩ := hB.1.2 _ _ ht
  obtain ⟨c2, b1, b2⟩ := hf _ _ _ ht a2
  unfold tF
  rw [a2, b1]
  match c, c2, b2 with
  | .inr (x, fs), .inr (y, gs), b2 =>
    dsimp only
    rw [List.getD_eq_getElem?_getD, List.getD_eq_getElem?_getD, b2.2.2 b hW]
  | .inl (k, N, x), .inl (k2, N2, y), b2 => rfl
theorem car_tag {xs : Nat → Int32} {τ : List Nat} {h : zH} (hB : zBs xs τ h) {i r : Nat} (hi : (i : Int) < (tvI (tF h 36 4)).toInt) (hr : tO h 39 i = some r) : τ[r]? = some 150 := by
  have hn := (kb_36_4 hB).2
  obtain ⟨a, b, c⟩ := tkd_o hB (p := 39) (t := 15) rfl rfl
  obtain ⟨-, -, c3⟩ := c i (by omega)
  rw [hr] at c3
  rcases c3 with z | z | z
  · cases z
  · have : zoi (some r) = (r : Int) := rfl
    omega
  · exact z
theorem car_lt {xs : Nat → Int32} {τ : List Nat} {h : zH} (hB : zBs xs τ h) {i r : Nat} (hi : (i : Int) < (tvI (tF h 36 4)).toInt) (hr : tO h 39 i = some r) : r < h.length := by
  have z := car_tag hB hi hr
  rcases Nat.lt_or_ge r τ.length with q | q
  · have := hB.1.1; omega
  · rw [List.getElem?_eq_none q] at z; cases z
theorem car_ne {xs : Nat → Int32} {τ : List Nat} {h : zH} (hB : zBs xs τ h) {i r : Nat} (hi : (i : Int) < (tvI (tF h 36 4)).toInt) (hr : tO h 39 i = some r) {p t : Nat} (ht : zTG[p]? = some t) (hn : t ≠ 150) : r ≠ p := by
  intro e
  subst e
  have z := car_tag hB hi hr
  rw [hB.2.1 _ _ ht] at z
  cases z
  exact hn rfl
theorem zBs_len {xs : Nat → Int32} {τ : List Nat} {h : zH} (hB : zBs xs τ h) : 182 ≤ h.length := by
  have z := hB.2.1 181 149 rfl
  rcases Nat.lt_or_ge 181 τ.length with q | q
  · have := hB.1.1; omega
  · rw [List.getElem?_eq_none q] at z; cases z
/-- a count: what is told is the next of so many, or none -/
def phN (p b : Nat) (C : Prop) (h : zH) (w : Option Value) (h2 : zH) : Prop := (C ∧ w = some (tF h p b) ∧ tF h2 p b = .int (tvI (tF h p b) + 1)) ∨ (¬ C ∧ w = some (.int (-1)) ∧ tF h2 p b = tF h p b)
theorem phN_a {p b q c : Nat} {C D : Prop} {h h2 h3 : zH} {w w2 : Option Value} (hR : tF h p b = tF h q c) (e1 : tF h2 q c = tF h q c) (e2 : tF h3 p b = tF h2 p b) (hCD : C ↔ D) (k1 : phN p b C h w h2) (k2 : phN q c D h2 w2 h3) : w2 = w ∧ tF h3 p b = tF h3 q c := by
  rcases k1 with ⟨c1, rfl, f1⟩ | ⟨c1, rfl, f1⟩ <;> rcases k2 with ⟨c2, rfl, f2⟩ | ⟨c2, rfl, f2⟩
  · rw [e2, f1, f2, e1, hR]
    exact ⟨rfl, rfl⟩
  · exact absurd (hCD.mp c1) c2
  · exact absurd (hCD.mpr c2) c1
  · rw [e2, f1, f2, e1, hR]
    exact ⟨rfl, rfl⟩
theorem zi1 {x : Int32} : x + 1 - 1 = x := Int32.add_sub_cancel x 1
/-- a count and what is told in arrays at its place -/
def phA (p b : Nat) (C : Prop) (l : List (Nat × Int32)) (h : zH) (w : Option Value) (h2 : zH) : Prop := (C ∧ w = some (tF h p b) ∧ tF h2 p b = .int (tvI (tF h p b) + 1) ∧ ∀ q ∈ l, tA h2 q.1 = fun j => if j = (tvI (tF h p b)).toNatClampNeg then q.2 else tA h q.1 j) ∨ (¬ C ∧ w = some (.int (-1)) ∧ tF h2 p b = tF h p b ∧ ∀ q ∈ l, tA h2 q.1 = tA h q.1)
theorem phA_a {p b q c : Nat} {C D : Prop} {l m : List (Nat × Int32)} {h h2 h3 : zH} {w w2 : Option Value} (hR : tF h p b = tF h q c) (e1 : tF h2 q c = tF h q c) (e2 : tF h3 p b = tF h2 p b) (hCD : C ↔ D) (k1 : phA p b C l h w h2) (k2 : phA q c D m h2 w2 h3) : w2 = w ∧ tF h3 p b = tF h3 q c ∧ ∀ P Q v, (P, v) ∈ l → (Q, v) ∈ m → tA h P = tA h Q → tA h2 Q = tA h Q → tA h3 P = tA h2 P → tA h3 P = tA h3 Q := by
  rcases k1 with ⟨c1, rfl, f1, g1⟩ | ⟨c1, rfl, f1, g1⟩ <;> rcases k2 with ⟨c2, rfl, f2, g2⟩ | ⟨c2, rfl, f2, g2⟩
  · refine ⟨by rw [e1, hR], by rw [e2, f1, f2, e1, hR], fun P Q v hP hQ a1 a2 a3 => ?_⟩
    rw [a3, g1 _ hP, g2 _ hQ, e1, ← hR]
    dsimp only
    rw [a1, a2]
  · exact absurd (hCD.mp c1) c2
  · exact absurd (hCD.mpr c2) c1
  · refine ⟨rfl, by rw [e2, f1, f2, e1, hR], fun P Q v hP hQ a1 a2 a3 => ?_⟩
    have h1 := g1 _ hP
    have h2 := g2 _ hQ
    dsimp only at h1 h2
    rw [a3, h1, h2, a1, a2]
theorem tA_st {h : zH} {r i : Nat} {x : Int32} {kd : Nat} {z : Int32} (hf : tIn h r kd z) {f : Nat → Int32} (k : tA h r = f) : tA (tSA h r i x) r = fun j => if j = i then x else f j := by
  rw [tA_tSA hf.cell]
  funext j
  dsimp only
  rw [k]
  by_cases e : j = i
  · rw [if_pos ⟨rfl, e⟩, if_pos e]
  · rw [if_neg (fun z => e z.2), if_neg e]
theorem tA_n {h : zH} {r i p : Nat} {x : Int32} {f : Nat → Int32} (hn : p ≠ r) (k : tA h p = f) : tA (tSA h r i x) p = f := by rw [tA_nz hn]; exact k
theorem tA_ff {h : zH} {r b p : Nat} {w : Value} {f : Nat → Int32} (k : tA h p = f) : tA (tSF h r b w) p = f := by rw [tA_tSF]; exact k
theorem tA_jj {h : zH} {r i p : Nat} {x : Int64} {f : Nat → Int32} (k : tA h p = f) : tA (tSJ h r i x) p = f := by rw [tA_tSJ]; exact k
theorem tA_oo {h : zH} {r i p : Nat} {x : Option Nat} {f : Nat → Int32} (k : tA h p = f) : tA (tSO h r i x) p = f := by rw [tA_tSO]; exact k
def R_now (h : zH) : Prop := tF h 0 14 = tF h 111 1
def ph_clock (p b : Nat) (month : Int32) (h : zH) (w : Option Value) (h2 : zH) : Prop := (((tvI (tF h p b)).toInt ≤ month.toInt ∧ month.toInt ≤ 599) ∧ w = some (.int 1) ∧ tF h2 p b = .int month) ∨ (¬ ((tvI (tF h p b)).toInt ≤ month.toInt ∧ month.toInt ≤ 599) ∧ w = some (.int 0) ∧ tF h2 p b = tF h p b)
theorem f_isWithin {G : zG} (hG : G.1 = zProg) {h : zH} {n lo hi : Int32} {LO HI : Int} (hlo : lo.toInt = LO) (hhi : hi.toInt = HI) : tC zTt G 158 [.int n, .int lo, .int hi] h (fun w h2 => tBo (LO ≤ n.toInt ∧ n.toInt ≤ HI) w ∧ h2 = h) := by
  refine tC_in (by rw [hG]; rfl) (fun dp => ?_)
  refine tw_iload rfl rfl ?_
  refine tw_iload rfl rfl ?_
  refine tw_ic_lt rfl (fun q1 => ?_) (fun q1 => ?_)
  · try dsimp only [tvI_i, tvJ_j, tvR_r] at q1
    refine tw_push rfl ?_
    exact tw_iret rfl ⟨Or.inr ⟨by omega, rfl⟩, rfl⟩
  · try dsimp only [tvI_i, tvJ_j, tvR_r] at q1
    refine tw_iload rfl rfl ?_
    refine tw_iload rfl rfl ?_
    refine tw_ic_gt rfl (fun q2 => ?_) (fun q2 => ?_)
    · try dsimp only [tvI_i, tvJ_j, tvR_r] at q2
      refine tw_push rfl ?_
      exact tw_iret rfl ⟨Or.inr ⟨by omega, rfl⟩, rfl⟩
    · try dsimp only [tvI_i, tvJ_j, tvR_r] at q2
      refine tw_push rfl ?_
      refine tw_goto rfl ?_
      exact tw_iret rfl ⟨Or.inl ⟨by omega, rfl⟩, rfl⟩
theorem f_isMonth {G : zG} (hG : G.1 = zProg) {h : zH} {n : Int32} : tC zTt G 159 [.int n] h (fun w h2 => tBo (0 ≤ n.toInt ∧ n.toInt ≤ 599) w ∧ h2 = h) := by
  refine tC_in (by rw [hG]; rfl) (fun dp => ?_)
  refine tw_iload rfl rfl ?_
  refine tw_push rfl ?_
  refine tw_push rfl ?_
  refine tw_stat3 rfl (f_isWithin hG (LO := 0) (HI := 599) (by decide) (by decide)) (fun w9 h9 p3 => ?_)
  obtain ⟨⟨p3, rfl⟩ | ⟨p3, rfl⟩, rfl⟩ := p3
  · try dsimp only [tvI_i, tvJ_j, tvR_r] at p3
    exact tw_iret rfl ⟨Or.inl ⟨p3, rfl⟩, rfl⟩
  · try dsimp only [tvI_i, tvJ_j, tvR_r] at p3
    exact tw_iret rfl ⟨Or.inr ⟨p3, rfl⟩, rfl⟩
theorem f_clock {G : zG} (hG : G.1 = zProg) {h : zH} {month : Int32} (hs : tSh h) (hk : 0 ≤ (tvI (tF h 0 14)).toInt) : tC zTt G 110 [.ref 0, .int month] h (ph_clock 0 14 month h) := by
  refine tC_in (by rw [hG]; rfl) (fun dp => ?_)
  refine tw_iload rfl rfl ?_
  refine tw_stat1 rfl (f_isMonth hG) (fun w9 h9 p4 => ?_)
  obtain ⟨⟨p4, rfl⟩ | ⟨p4, rfl⟩, rfl⟩ := p4
  · try dsimp only [tvI_i, tvJ_j, tvR_r] at p4
    refine tw_if_eq rfl (fun z => absurd z (by decide)) (fun _ => ?_)
    refine tw_iload rfl rfl ?_
    refine tw_aload rfl rfl ?_
    refine tw_getS rfl (hi_0_14 hs) ?_
    refine tw_ic_ge rfl (fun q5 => ?_) (fun q5 => ?_)
    · try dsimp only [tvI_i, tvJ_j, tvR_r] at q5
      refine tw_aload rfl rfl ?_
      refine tw_iload rfl rfl ?_
      refine tw_put rfl (fun f6 => ?_)
      refine tw_push rfl ?_
      exact tw_iret rfl (Or.inl ⟨by omega, rfl, (tF_same f6)⟩)
    · try dsimp only [tvI_i, tvJ_j, tvR_r] at q5
      refine tw_push rfl ?_
      exact tw_iret rfl (Or.inr ⟨by omega, rfl, rfl⟩)
  · try dsimp only [tvI_i, tvJ_j, tvR_r] at p4
    refine tw_if_eq rfl (fun _ => ?_) (fun z => absurd z (by decide))
    refine tw_push rfl ?_
    exact tw_iret rfl (Or.inr ⟨by omega, rfl, rfl⟩)
theorem f_in {G : zG} (hG : G.1 = zProg) {h : zH} {x lo hi : Int64} {X LO HI : Int} (hx : x.toInt = X) (hlo : lo.toInt = LO) (hhi : hi.toInt = HI) : tC zTt G 171 [.long x, .long lo, .long hi] h (fun w h2 => tBo (LO ≤ X ∧ X ≤ HI) w ∧ h2 = h) := by
  refine tC_in (by rw [hG]; rfl) (fun dp => ?_)
  refine tw_lload rfl rfl ?_
  refine tw_lload rfl rfl ?_
  refine tw_lc_lt rfl rfl (fun q7 => ?_) (fun q7 => ?_)
  · try dsimp only [tvI_i, tvJ_j, tvR_r] at q7
    refine tw_push rfl ?_
    exact tw_iret rfl ⟨Or.inr ⟨by omega, rfl⟩, rfl⟩
  · try dsimp only [tvI_i, tvJ_j, tvR_r] at q7
    refine tw_lload rfl rfl ?_
    refine tw_lload rfl rfl ?_
    refine tw_lc_gt rfl rfl (fun q8 => ?_) (fun q8 => ?_)
    · try dsimp only [tvI_i, tvJ_j, tvR_r] at q8
      refine tw_push rfl ?_
      exact tw_iret rfl ⟨Or.inr ⟨by omega, rfl⟩, rfl⟩
    · try dsimp only [tvI_i, tvJ_j, tvR_r] at q8
      refine tw_push rfl ?_
      refine tw_goto rfl ?_
      exact tw_iret rfl ⟨Or.inl ⟨by omega, rfl⟩, rfl⟩
theorem g_clock {G : zG} (hG : G.1 = zProg) {h : zH} {month : Int32} (hs : tSh h) : tC zTt G 174 [.ref 111, .int month] h (ph_clock 111 1 month h) := by
  refine tC_in (by rw [hG]; rfl) (fun dp => ?_)
  refine tw_iload rfl rfl ?_
  refine tw_i2l rfl ?_
  refine tw_aload rfl rfl ?_
  refine tw_getS rfl (hi_111_1 hs) ?_
  refine tw_i2l rfl ?_
  refine tw_push rfl ?_
  refine tw_stat3 rfl (f_in hG   (HI := 599) (Int32.toInt_toInt64 _) (Int32.toInt_toInt64 _) (by decide)) (fun w9 h9 p9 => ?_)
  obtain ⟨⟨p9, rfl⟩ | ⟨p9, rfl⟩, rfl⟩ := p9
  · try dsimp only [tvI_i, tvJ_j, tvR_r] at p9
    refine tw_if_ne rfl (fun _ => ?_) (fun z => absurd z (by decide))
    refine tw_aload rfl rfl ?_
    refine tw_iload rfl rfl ?_
    refine tw_put rfl (fun f10 => ?_)
    refine tw_push rfl ?_
    exact tw_iret rfl (Or.inl ⟨by omega, rfl, (tF_same f10)⟩)
  · try dsimp only [tvI_i, tvJ_j, tvR_r] at p9
    refine tw_if_ne rfl (fun z => absurd z (by decide)) (fun _ => ?_)
    refine tw_push rfl ?_
    exact tw_iret rfl (Or.inr ⟨by omega, rfl, rfl⟩)
theorem a_clock {month : Int32} {h h2 h3 : zH} {w w2 : Option Value} (hR : R_now h) (e1 : tF h2 111 1 = tF h 111 1) (e2 : tF h3 0 14 = tF h2 0 14) (k1 : ph_clock 0 14 month h w h2) (k2 : ph_clock 111 1 month h2 w2 h3) : w2 = w ∧ R_now h3 := by
  unfold R_now at *
  unfold ph_clock at k1 k2
  rw [e1, ← hR] at k2
  rw [e2]
  rcases k1 with ⟨c1, rfl, f1⟩ | ⟨c1, rfl, f1⟩ <;> rcases k2 with ⟨c2, rfl, f2⟩ | ⟨c2, rfl, f2⟩
  · exact ⟨rfl, f1.trans f2.symm⟩
  · exact absurd c1 c2
  · exact absurd c2 c1
  · exact ⟨rfl, f1.trans f2.symm⟩
def R_rw (h : zH) : Prop := tRw h
def R_kinds (h : zH) : Prop := tF h 1 6 = tF h 111 3
theorem f_isFirm {G : zG} (hG : G.1 = zProg) {h : zH} {n : Int32} : tC zTt G 160 [.int n] h (fun w h2 => tBo (0 ≤ n.toInt ∧ n.toInt ≤ 3) w ∧ h2 = h) := by
  refine tC_in (by rw [hG]; rfl) (fun dp => ?_)
  refine tw_iload rfl rfl ?_
  refine tw_push rfl ?_
  refine tw_push rfl ?_
  refine tw_stat3 rfl (f_isWithin hG (LO := 0) (HI := 3) (by decide) (by decide)) (fun w9 h9 p11 => ?_)
  obtain ⟨⟨p11, rfl⟩ | ⟨p11, rfl⟩, rfl⟩ := p11
  · try dsimp only [tvI_i, tvJ_j, tvR_r] at p11
    exact tw_iret rfl ⟨Or.inl ⟨p11, rfl⟩, rfl⟩
  · try dsimp only [tvI_i, tvJ_j, tvR_r] at p11
    exact tw_iret rfl ⟨Or.inr ⟨p11, rfl⟩, rfl⟩
theorem f_fill {G : zG} (hG : G.1 = zProg) {h : zH} {r : Nat} {a b c : Int32} : tC zTt G 30 [.ref r, .int a, .int b, .int c] h (fun w h2 => w = none ∧ h2 = tSA (tSA (tSA h r 0 a) r 1 b) r 2 c ∧ tIn h r 0 0 ∧ tIn (tSA h r 0 a) r 0 1 ∧ tIn (tSA (tSA h r 0 a) r 1 b) r 0 2) := by
  refine tC_in (by rw [hG]; rfl) (fun dp => ?_)
  refine tw_aload rfl rfl ?_
  refine tw_push rfl ?_
  refine tw_iload rfl rfl ?_
  refine tw_iast rfl (fun f12 => ?_)
  refine tw_aload rfl rfl ?_
  refine tw_push rfl ?_
  refine tw_iload rfl rfl ?_
  refine tw_iast rfl (fun f13 => ?_)
  refine tw_aload rfl rfl ?_
  refine tw_push rfl ?_
  refine tw_iload rfl rfl ?_
  refine tw_iast rfl (fun f14 => ?_)
  exact tw_vret rfl ⟨rfl, rfl, f12, f13, f14⟩
theorem wret1 {h : zH} {p b : Nat} (k : tF h p b = .int (tvI (tF h p b))) : some (Value.int (tvI (tF h p b) + 1 - 1)) = some (tF h p b) := by rw [zi1]; exact congrArg some k.symm
theorem f_addKind {G : zG} (hG : G.1 = zProg) {h : zH} {firm : Int32} {a : Int32} {b : Int32} {c : Int32} (hs : tSh h) (hr : tRw h) : tC zTt G 28 [.ref 1, .int firm, .int a, .int b, .int c] h (phN 1 6 ((tvI (tF h 1 6)).toInt ≠ 8) h) := by
  refine tC_in (by rw [hG]; rfl) (fun dp => ?_)
  refine tw_aload rfl rfl ?_
  refine tw_getS rfl (hi_1_6 hs) ?_
  refine tw_push rfl ?_
  refine tw_ic_ne rfl (fun q15 => ?_) (fun q15 => ?_)
  · try dsimp only [tvI_i, tvJ_j, tvR_r] at q15
    have q15i := zneq (Y := 8) (by decide) q15
    refine tw_aload rfl rfl ?_
    refine tw_getS rfl (hs_1_1 hs) ?_
    refine tw_aload rfl rfl ?_
    refine tw_getS rfl (hi_1_6 hs) ?_
    refine tw_iload rfl rfl ?_
    refine tw_iast rfl (fun f16 => ?_)
    refine tw_aload rfl rfl ?_
    refine tw_getS rfl (hs_1_2 (tSh_SA hs)) ?_
    refine tw_aload rfl rfl ?_
    refine tw_getS rfl (tF_a (hi_1_6 hs)) ?_
    refine tw_aaldS rfl (fun z => tRw_at (tRw_A hr) (p := 4) (q := 5) (by decide) z) ?_
    refine tw_iload rfl rfl ?_
    refine tw_iload rfl rfl ?_
    refine tw_iload rfl rfl ?_
    refine tw_stat4 rfl (f_fill hG) (fun wp18 hp18 p18 => ?_)
    obtain ⟨rfl, rfl, p18a, p18b, p18c⟩ := p18
    refine tw_aload rfl rfl ?_
    refine tw_dup rfl ?_
    refine tw_getS rfl (tF_a (tF_a (tF_a (tF_a (hi_1_6 hs))))) ?_
    refine tw_dup_x1 rfl ?_
    refine tw_push rfl ?_
    refine tw_iadd rfl ?_
    refine tw_put rfl (fun f19 => ?_)
    exact tw_iret rfl (Or.inl ⟨by omega, congrArg some (hi_1_6 hs).symm, (tF_same f19)⟩)
  · try dsimp only [tvI_i, tvJ_j, tvR_r] at q15
    have q15i := zeqi (Y := 8) (by decide) q15
    refine tw_push rfl ?_
    exact tw_iret rfl (Or.inr ⟨by omega, rfl, rfl⟩)
theorem f_kind {G : zG} (hG : G.1 = zProg) {h : zH} {firm : Int32} {a : Int32} {b : Int32} {c : Int32} (hs : tSh h) (hr : tRw h) : tC zTt G 113 [.ref 0, .int firm, .int a, .int b, .int c] h (phN 1 6 (((0 ≤ firm.toInt ∧ firm.toInt ≤ 3) ∧ (0 ≤ a.toInt ∧ a.toInt ≤ 99999) ∧ (0 ≤ b.toInt ∧ b.toInt ≤ 99999) ∧ (0 ≤ c.toInt ∧ c.toInt ≤ 99999)) ∧ (tvI (tF h 1 6)).toInt ≠ 8) h) := by
  refine tC_in (by rw [hG]; rfl) (fun dp => ?_)
  refine tw_iload rfl rfl ?_
  refine tw_stat1 rfl (f_isFirm hG) (fun w9 h9 p20 => ?_)
  obtain ⟨⟨p20, rfl⟩ | ⟨p20, rfl⟩, rfl⟩ := p20
  · try dsimp only [tvI_i, tvJ_j, tvR_r] at p20
    refine tw_if_eq rfl (fun z => absurd z (by decide)) (fun _ => ?_)
    refine tw_iload rfl rfl ?_
    refine tw_push rfl ?_
    refine tw_push rfl ?_
    refine tw_stat3 rfl (f_isWithin hG (LO := 0) (HI := 99999) (by decide) (by decide)) (fun w9 h9 p21 => ?_)
    obtain ⟨⟨p21, rfl⟩ | ⟨p21, rfl⟩, rfl⟩ := p21
    · try dsimp only [tvI_i, tvJ_j, tvR_r] at p21
      refine tw_if_eq rfl (fun z => absurd z (by decide)) (fun _ => ?_)
      refine tw_iload rfl rfl ?_
      refine tw_push rfl ?_
      refine tw_push rfl ?_
      refine tw_stat3 rfl (f_isWithin hG (LO := 0) (HI := 99999) (by decide) (by decide)) (fun w9 h9 p22 => ?_)
      obtain ⟨⟨p22, rfl⟩ | ⟨p22, rfl⟩, rfl⟩ := p22
      · try dsimp only [tvI_i, tvJ_j, tvR_r] at p22
        refine tw_if_eq rfl (fun z => absurd z (by decide)) (fun _ => ?_)
        refine tw_iload rfl rfl ?_
        refine tw_push rfl ?_
        refine tw_push rfl ?_
        refine tw_stat3 rfl (f_isWithin hG (LO := 0) (HI := 99999) (by decide) (by decide)) (fun w9 h9 p23 => ?_)
        obtain ⟨⟨p23, rfl⟩ | ⟨p23, rfl⟩, rfl⟩ := p23
        · try dsimp only [tvI_i, tvJ_j, tvR_r] at p23
          refine tw_if_eq rfl (fun z => absurd z (by decide)) (fun _ => ?_)
          refine tw_push rfl ?_
          refine tw_goto rfl ?_
          refine tw_istore rfl ?_
          refine tw_iload rfl rfl ?_
          refine tw_if_eq rfl (fun z => absurd z (by decide)) (fun _ => ?_)
          refine tw_aload rfl rfl ?_
          refine tw_getS rfl (hs_0_0 hs) ?_
          refine tw_iload rfl rfl ?_
          refine tw_iload rfl rfl ?_
          refine tw_iload rfl rfl ?_
          refine tw_iload rfl rfl ?_
          refine tw_virt4 rfl (f_addKind hG  hs hr) (fun w9 h9 p24 => ?_)
          rcases p24 with ⟨p24, rfl, p24e⟩ | ⟨p24, rfl, p24e⟩
          · refine tw_goto rfl ?_
            exact tw_iret rfl (Or.inl ⟨by omega, congrArg some (hi_1_6 hs).symm, p24e⟩)
          · refine tw_goto rfl ?_
            exact tw_iret rfl (Or.inr ⟨by omega, rfl, p24e⟩)
        · try dsimp only [tvI_i, tvJ_j, tvR_r] at p23
          refine tw_if_eq rfl (fun _ => ?_) (fun z => absurd z (by decide))
          refine tw_push rfl ?_
          refine tw_istore rfl ?_
          refine tw_iload rfl rfl ?_
          refine tw_if_eq rfl (fun _ => ?_) (fun z => absurd z (by decide))
          refine tw_push rfl ?_
          exact tw_iret rfl (Or.inr ⟨by omega, rfl, rfl⟩)
      · try dsimp only [tvI_i, tvJ_j, tvR_r] at p22
        refine tw_if_eq rfl (fun _ => ?_) (fun z => absurd z (by decide))
        refine tw_push rfl ?_
        refine tw_istore rfl ?_
        refine tw_iload rfl rfl ?_
        refine tw_if_eq rfl (fun _ => ?_) (fun z => absurd z (by decide))
        refine tw_push rfl ?_
        exact tw_iret rfl (Or.inr ⟨by omega, rfl, rfl⟩)
    · try dsimp only [tvI_i, tvJ_j, tvR_r] at p21
      refine tw_if_eq rfl (fun _ => ?_) (fun z => absurd z (by decide))
      refine tw_push rfl ?_
      refine tw_istore rfl ?_
      refine tw_iload rfl rfl ?_
      refine tw_if_eq rfl (fun _ => ?_) (fun z => absurd z (by decide))
      refine tw_push rfl ?_
      exact tw_iret rfl (Or.inr ⟨by omega, rfl, rfl⟩)
  · try dsimp only [tvI_i, tvJ_j, tvR_r] at p20
    refine tw_if_eq rfl (fun _ => ?_) (fun z => absurd z (by decide))
    refine tw_push rfl ?_
    refine tw_istore rfl ?_
    refine tw_iload rfl rfl ?_
    refine tw_if_eq rfl (fun _ => ?_) (fun z => absurd z (by decide))
    refine tw_push rfl ?_
    exact tw_iret rfl (Or.inr ⟨by omega, rfl, rfl⟩)
theorem g_kind {G : zG} (hG : G.1 = zProg) {h : zH} {firm : Int32} {a : Int32} {b : Int32} {c : Int32} (hs : tSh h)  : tC zTt G 181 [.ref 111, .int firm, .int a, .int b, .int c] h (phN 111 3 (((0 ≤ firm.toInt ∧ firm.toInt ≤ 3) ∧ (0 ≤ a.toInt ∧ a.toInt ≤ 99999) ∧ (0 ≤ b.toInt ∧ b.toInt ≤ 99999) ∧ (0 ≤ c.toInt ∧ c.toInt ≤ 99999)) ∧ (tvI (tF h 111 3)).toInt ≠ 8) h) := by
  refine tC_in (by rw [hG]; rfl) (fun dp => ?_)
  refine tw_aload rfl rfl ?_
  refine tw_getS rfl (hi_111_3 hs) ?_
  refine tw_push rfl ?_
  refine tw_ic_eq rfl (fun q25 => ?_) (fun q25 => ?_)
  · try dsimp only [tvI_i, tvJ_j, tvR_r] at q25
    have q25i := zeqi (Y := 8) (by decide) q25
    refine tw_push rfl ?_
    exact tw_iret rfl (Or.inr ⟨by omega, rfl, rfl⟩)
  · try dsimp only [tvI_i, tvJ_j, tvR_r] at q25
    have q25i := zneq (Y := 8) (by decide) q25
    refine tw_iload rfl rfl ?_
    refine tw_i2l rfl ?_
    refine tw_push rfl ?_
    refine tw_push rfl ?_
    refine tw_stat3 rfl (f_in hG  (LO := 0) (HI := 3) (Int32.toInt_toInt64 _) (by decide) (by decide)) (fun w9 h9 p26 => ?_)
    obtain ⟨⟨p26, rfl⟩ | ⟨p26, rfl⟩, rfl⟩ := p26
    · try dsimp only [tvI_i, tvJ_j, tvR_r] at p26
      refine tw_if_eq rfl (fun z => absurd z (by decide)) (fun _ => ?_)
      refine tw_iload rfl rfl ?_
      refine tw_i2l rfl ?_
      refine tw_push rfl ?_
      refine tw_push rfl ?_
      refine tw_stat3 rfl (f_in hG  (LO := 0) (HI := 99999) (Int32.toInt_toInt64 _) (by decide) (by decide)) (fun w9 h9 p27 => ?_)
      obtain ⟨⟨p27, rfl⟩ | ⟨p27, rfl⟩, rfl⟩ := p27
      · try dsimp only [tvI_i, tvJ_j, tvR_r] at p27
        refine tw_if_eq rfl (fun z => absurd z (by decide)) (fun _ => ?_)
        refine tw_iload rfl rfl ?_
        refine tw_i2l rfl ?_
        refine tw_push rfl ?_
        refine tw_push rfl ?_
        refine tw_stat3 rfl (f_in hG  (LO := 0) (HI := 99999) (Int32.toInt_toInt64 _) (by decide) (by decide)) (fun w9 h9 p28 => ?_)
        obtain ⟨⟨p28, rfl⟩ | ⟨p28, rfl⟩, rfl⟩ := p28
        · try dsimp only [tvI_i, tvJ_j, tvR_r] at p28
          refine tw_if_eq rfl (fun z => absurd z (by decide)) (fun _ => ?_)
          refine tw_iload rfl rfl ?_
          refine tw_i2l rfl ?_
          refine tw_push rfl ?_
          refine tw_push rfl ?_
          refine tw_stat3 rfl (f_in hG  (LO := 0) (HI := 99999) (Int32.toInt_toInt64 _) (by decide) (by decide)) (fun w9 h9 p29 => ?_)
          obtain ⟨⟨p29, rfl⟩ | ⟨p29, rfl⟩, rfl⟩ := p29
          · try dsimp only [tvI_i, tvJ_j, tvR_r] at p29
            refine tw_if_ne rfl (fun _ => ?_) (fun z => absurd z (by decide))
            refine tw_aload rfl rfl ?_
            refine tw_getS rfl (hs_111_9 hs) ?_
            refine tw_aload rfl rfl ?_
            refine tw_getS rfl (hi_111_3 hs) ?_
            refine tw_iload rfl rfl ?_
            refine tw_iast rfl (fun f30 => ?_)
            refine tw_aload rfl rfl ?_
            refine tw_getS rfl (hs_111_10 (tSh_SA hs)) ?_
            refine tw_push rfl ?_
            refine tw_aload rfl rfl ?_
            refine tw_getS rfl (tF_a (hi_111_3 hs)) ?_
            refine tw_imul rfl ?_
            refine tw_iload rfl rfl ?_
            refine tw_iast rfl (fun f31 => ?_)
            refine tw_aload rfl rfl ?_
            refine tw_getS rfl (hs_111_10 (tSh_SA (tSh_SA hs))) ?_
            refine tw_push rfl ?_
            refine tw_aload rfl rfl ?_
            refine tw_getS rfl (tF_a (tF_a (hi_111_3 hs))) ?_
            refine tw_imul rfl ?_
            refine tw_push rfl ?_
            refine tw_iadd rfl ?_
            refine tw_iload rfl rfl ?_
            refine tw_iast rfl (fun f32 => ?_)
            refine tw_aload rfl rfl ?_
            refine tw_getS rfl (hs_111_10 (tSh_SA (tSh_SA (tSh_SA hs)))) ?_
            refine tw_push rfl ?_
            refine tw_aload rfl rfl ?_
            refine tw_getS rfl (tF_a (tF_a (tF_a (hi_111_3 hs)))) ?_
            refine tw_imul rfl ?_
            refine tw_push rfl ?_
            refine tw_iadd rfl ?_
            refine tw_iload rfl rfl ?_
            refine tw_iast rfl (fun f33 => ?_)
            refine tw_aload rfl rfl ?_
            refine tw_dup rfl ?_
            refine tw_getS rfl (tF_a (tF_a (tF_a (tF_a (hi_111_3 hs))))) ?_
            refine tw_push rfl ?_
            refine tw_iadd rfl ?_
            refine tw_put rfl (fun f34 => ?_)
            refine tw_aload rfl rfl ?_
            refine tw_getS rfl (tF_same f34) ?_
            refine tw_push rfl ?_
            refine tw_isub rfl ?_
            exact tw_iret rfl (Or.inl ⟨by omega, wret1 (hi_111_3 hs), (tF_same f34)⟩)
          · try dsimp only [tvI_i, tvJ_j, tvR_r] at p29
            refine tw_if_ne rfl (fun z => absurd z (by decide)) (fun _ => ?_)
            refine tw_push rfl ?_
            exact tw_iret rfl (Or.inr ⟨by omega, rfl, rfl⟩)
        · try dsimp only [tvI_i, tvJ_j, tvR_r] at p28
          refine tw_if_eq rfl (fun _ => ?_) (fun z => absurd z (by decide))
          refine tw_push rfl ?_
          exact tw_iret rfl (Or.inr ⟨by omega, rfl, rfl⟩)
      · try dsimp only [tvI_i, tvJ_j, tvR_r] at p27
        refine tw_if_eq rfl (fun _ => ?_) (fun z => absurd z (by decide))
        refine tw_push rfl ?_
        exact tw_iret rfl (Or.inr ⟨by omega, rfl, rfl⟩)
    · try dsimp only [tvI_i, tvJ_j, tvR_r] at p26
      refine tw_if_eq rfl (fun _ => ?_) (fun z => absurd z (by decide))
      refine tw_push rfl ?_
      exact tw_iret rfl (Or.inr ⟨by omega, rfl, rfl⟩)
theorem a_kind {firm : Int32} {a : Int32} {b : Int32} {c : Int32} {h h2 h3 : zH} {w w2 : Option Value}  (hR : R_kinds h) (e1 : tF h2 111 3 = tF h 111 3) (e2 : tF h3 1 6 = tF h2 1 6) (k1 : phN 1 6 (((0 ≤ firm.toInt ∧ firm.toInt ≤ 3) ∧ (0 ≤ a.toInt ∧ a.toInt ≤ 99999) ∧ (0 ≤ b.toInt ∧ b.toInt ≤ 99999) ∧ (0 ≤ c.toInt ∧ c.toInt ≤ 99999)) ∧ (tvI (tF h 1 6)).toInt ≠ 8) h w h2) (k2 : phN 111 3 (((0 ≤ firm.toInt ∧ firm.toInt ≤ 3) ∧ (0 ≤ a.toInt ∧ a.toInt ≤ 99999) ∧ (0 ≤ b.toInt ∧ b.toInt ≤ 99999) ∧ (0 ≤ c.toInt ∧ c.toInt ≤ 99999)) ∧ (tvI (tF h2 111 3)).toInt ≠ 8) h2 w2 h3) : w2 = w ∧ R_kinds h3 := by
  refine phN_a hR e1 e2 ?_ k1 k2
  have hR2 := hR
  unfold R_kinds at hR2
  rw [e1, ← hR2]
def R_people (h : zH) : Prop := tF h 36 2 = tF h 111 2
theorem f_addPerson {G : zG} (hG : G.1 = zProg) {h : zH} {firm : Int32} (hs : tSh h) : tC zTt G 16 [.ref 36, .int firm] h (phN 36 2 ((tvI (tF h 36 2)).toInt ≠ 60) h) := by
  refine tC_in (by rw [hG]; rfl) (fun dp => ?_)
  refine tw_aload rfl rfl ?_
  refine tw_getS rfl (hi_36_2 hs) ?_
  refine tw_push rfl ?_
  refine tw_ic_ne rfl (fun q35 => ?_) (fun q35 => ?_)
  · try dsimp only [tvI_i, tvJ_j, tvR_r] at q35
    have q35i := zneq (Y := 60) (by decide) q35
    refine tw_aload rfl rfl ?_
    refine tw_getS rfl (hs_36_0 hs) ?_
    refine tw_aload rfl rfl ?_
    refine tw_getS rfl (hi_36_2 hs) ?_
    refine tw_iload rfl rfl ?_
    refine tw_iast rfl (fun f36 => ?_)
    refine tw_aload rfl rfl ?_
    refine tw_dup rfl ?_
    refine tw_getS rfl (tF_a (hi_36_2 hs)) ?_
    refine tw_dup_x1 rfl ?_
    refine tw_push rfl ?_
    refine tw_iadd rfl ?_
    refine tw_put rfl (fun f37 => ?_)
    exact tw_iret rfl (Or.inl ⟨by omega, congrArg some (hi_36_2 hs).symm, (tF_same f37)⟩)
  · try dsimp only [tvI_i, tvJ_j, tvR_r] at q35
    have q35i := zeqi (Y := 60) (by decide) q35
    refine tw_push rfl ?_
    exact tw_iret rfl (Or.inr ⟨by omega, rfl, rfl⟩)
theorem f_person {G : zG} (hG : G.1 = zProg) {h : zH} {firm : Int32} (hs : tSh h) : tC zTt G 111 [.ref 0, .int firm] h (phN 36 2 ((-1 ≤ firm.toInt ∧ firm.toInt ≤ 3) ∧ (tvI (tF h 36 2)).toInt ≠ 60) h) := by
  refine tC_in (by rw [hG]; rfl) (fun dp => ?_)
  refine tw_iload rfl rfl ?_
  refine tw_push rfl ?_
  refine tw_ic_eq rfl (fun q38 => ?_) (fun q38 => ?_)
  · try dsimp only [tvI_i, tvJ_j, tvR_r] at q38
    have q38i := zeqi (Y := (-1)) (by decide) q38
    refine tw_aload rfl rfl ?_
    refine tw_getS rfl (hs_0_1 hs) ?_
    refine tw_iload rfl rfl ?_
    refine tw_virt1 rfl (f_addPerson hG  hs) (fun w9 h9 p39 => ?_)
    rcases p39 with ⟨p39, rfl, p39e⟩ | ⟨p39, rfl, p39e⟩
    · refine tw_goto rfl ?_
      exact tw_iret rfl (Or.inl ⟨by omega, congrArg some (hi_36_2 hs).symm, p39e⟩)
    · refine tw_goto rfl ?_
      exact tw_iret rfl (Or.inr ⟨by omega, rfl, p39e⟩)
  · try dsimp only [tvI_i, tvJ_j, tvR_r] at q38
    have q38i := zneq (Y := (-1)) (by decide) q38
    refine tw_iload rfl rfl ?_
    refine tw_stat1 rfl (f_isFirm hG) (fun w9 h9 p40 => ?_)
    obtain ⟨⟨p40, rfl⟩ | ⟨p40, rfl⟩, rfl⟩ := p40
    · try dsimp only [tvI_i, tvJ_j, tvR_r] at p40
      refine tw_if_eq rfl (fun z => absurd z (by decide)) (fun _ => ?_)
      refine tw_aload rfl rfl ?_
      refine tw_getS rfl (hs_0_1 hs) ?_
      refine tw_iload rfl rfl ?_
      refine tw_virt1 rfl (f_addPerson hG  hs) (fun w9 h9 p41 => ?_)
      rcases p41 with ⟨p41, rfl, p41e⟩ | ⟨p41, rfl, p41e⟩
      · refine tw_goto rfl ?_
        exact tw_iret rfl (Or.inl ⟨by omega, congrArg some (hi_36_2 hs).symm, p41e⟩)
      · refine tw_goto rfl ?_
        exact tw_iret rfl (Or.inr ⟨by omega, rfl, p41e⟩)
    · try dsimp only [tvI_i, tvJ_j, tvR_r] at p40
      refine tw_if_eq rfl (fun _ => ?_) (fun z => absurd z (by decide))
      refine tw_push rfl ?_
      exact tw_iret rfl (Or.inr ⟨by omega, rfl, rfl⟩)
theorem g_person {G : zG} (hG : G.1 = zProg) {h : zH} {firm : Int32} (hs : tSh h)  : tC zTt G 179 [.ref 111, .int firm] h (phN 111 2 ((-1 ≤ firm.toInt ∧ firm.toInt ≤ 3) ∧ (tvI (tF h 111 2)).toInt ≠ 60) h) := by
  refine tC_in (by rw [hG]; rfl) (fun dp => ?_)
  refine tw_aload rfl rfl ?_
  refine tw_getS rfl (hi_111_2 hs) ?_
  refine tw_push rfl ?_
  refine tw_ic_eq rfl (fun q42 => ?_) (fun q42 => ?_)
  · try dsimp only [tvI_i, tvJ_j, tvR_r] at q42
    have q42i := zeqi (Y := 60) (by decide) q42
    refine tw_push rfl ?_
    exact tw_iret rfl (Or.inr ⟨by omega, rfl, rfl⟩)
  · try dsimp only [tvI_i, tvJ_j, tvR_r] at q42
    have q42i := zneq (Y := 60) (by decide) q42
    refine tw_iload rfl rfl ?_
    refine tw_i2l rfl ?_
    refine tw_push rfl ?_
    refine tw_push rfl ?_
    refine tw_stat3 rfl (f_in hG  (LO := (-1)) (HI := 3) (Int32.toInt_toInt64 _) (by decide) (by decide)) (fun w9 h9 p43 => ?_)
    obtain ⟨⟨p43, rfl⟩ | ⟨p43, rfl⟩, rfl⟩ := p43
    · try dsimp only [tvI_i, tvJ_j, tvR_r] at p43
      refine tw_if_ne rfl (fun _ => ?_) (fun z => absurd z (by decide))
      refine tw_aload rfl rfl ?_
      refine tw_getS rfl (hs_111_7 hs) ?_
      refine tw_aload rfl rfl ?_
      refine tw_getS rfl (hi_111_2 hs) ?_
      refine tw_iload rfl rfl ?_
      refine tw_iast rfl (fun f44 => ?_)
      refine tw_aload rfl rfl ?_
      refine tw_dup rfl ?_
      refine tw_getS rfl (tF_a (hi_111_2 hs)) ?_
      refine tw_push rfl ?_
      refine tw_iadd rfl ?_
      refine tw_put rfl (fun f45 => ?_)
      refine tw_aload rfl rfl ?_
      refine tw_getS rfl (tF_same f45) ?_
      refine tw_push rfl ?_
      refine tw_isub rfl ?_
      exact tw_iret rfl (Or.inl ⟨by omega, wret1 (hi_111_2 hs), (tF_same f45)⟩)
    · try dsimp only [tvI_i, tvJ_j, tvR_r] at p43
      refine tw_if_ne rfl (fun z => absurd z (by decide)) (fun _ => ?_)
      refine tw_push rfl ?_
      exact tw_iret rfl (Or.inr ⟨by omega, rfl, rfl⟩)
theorem a_person {firm : Int32} {h h2 h3 : zH} {w w2 : Option Value}  (hR : R_people h) (e1 : tF h2 111 2 = tF h 111 2) (e2 : tF h3 36 2 = tF h2 36 2) (k1 : phN 36 2 ((-1 ≤ firm.toInt ∧ firm.toInt ≤ 3) ∧ (tvI (tF h 36 2)).toInt ≠ 60) h w h2) (k2 : phN 111 2 ((-1 ≤ firm.toInt ∧ firm.toInt ≤ 3) ∧ (tvI (tF h2 111 2)).toInt ≠ 60) h2 w2 h3) : w2 = w ∧ R_people h3 := by
  refine phN_a hR e1 e2 ?_ k1 k2
  have hR2 := hR
  unfold R_people at hR2
  rw [e1, ← hR2]
def R_cl (h : zH) : Prop := (∀ i : Nat, (i : Int) < (tvI (tF h 36 4)).toInt → ∃ r, tO h 39 i = some r) ∧ (∀ i j : Nat, (i : Int) < (tvI (tF h 36 4)).toInt → (j : Int) < (tvI (tF h 36 4)).toInt → tO h 39 i = tO h 39 j → i = j)
def R_cmade (h : zH) : Prop := ∀ i r : Nat, (i : Int) < (tvI (tF h 36 4)).toInt → tO h 39 i = some r → tF h r 1 = .int (tA h 122 i)
def R_ctl (h : zH) : Prop := ∀ i r : Nat, (i : Int) < (tvI (tF h 36 4)).toInt → tO h 39 i = some r → tF h r 2 = .int (tA h 123 i)
def R_cfo (h : zH) : Prop := ∀ i r : Nat, (i : Int) < (tvI (tF h 36 4)).toInt → tO h 39 i = some r → tF h r 3 = .int (tA h 124 i)
def R_cown (h : zH) : Prop := ∀ i r : Nat, (i : Int) < (tvI (tF h 36 4)).toInt → tO h 39 i = some r → tF h r 4 = .int (tA h 125 i)
def R_csold (h : zH) : Prop := ∀ i r : Nat, (i : Int) < (tvI (tF h 36 4)).toInt → tO h 39 i = some r → tF h r 5 = .int (tA h 126 i)
def R_cars (h : zH) : Prop := tF h 36 4 = tF h 111 5
theorem tF_ap {h l : zH} {p b : Nat} {w : Value} (hl : p < h.length) (k : tF h p b = w) : tF (h ++ l) p b = w := by
  unfold tF at k ⊢
  rw [List.getElem?_append_left hl]
  exact k
theorem tA_ap {h l : zH} {p : Nat} (hl : p < h.length) : tA (h ++ l) p = tA h p := by
  funext i
  unfold tA
  rw [List.getElem?_append_left hl]
theorem tO_ap {h l : zH} {p : Nat} (hl : p < h.length) : tO (h ++ l) p = tO h p := by
  funext i
  unfold tO
  rw [List.getElem?_append_left hl]
theorem tF_nw {h : zH} {a : Nat} {fs : List Value} {x : zC} {b : Nat} : tF (h ++ [.inr (a, fs), x]) h.length b = fs.getD b .null := by
  unfold tF
  rw [List.getElem?_append_right (Nat.le_refl _), Nat.sub_self]
  rfl
theorem tSh_ap {h l : zH} (hl : 182 ≤ h.length) (k : tSh h) : tSh (h ++ l) := by
  have a1 : tSr.all (fun q => Nat.blt q.1 182) = true := by decide +kernel
  have a2 : tSi.all (fun q => Nat.blt q.1 182) = true := by decide +kernel
  refine ⟨fun q hq => tF_ap ?_ (k.1 q hq), fun q hq => ?_⟩
  · have := Nat.le_of_ble_eq_true (List.all_eq_true.mp a1 q hq)
    omega
  · have := Nat.le_of_ble_eq_true (List.all_eq_true.mp a2 q hq)
    have e : tF (h ++ l) q.1 q.2 = tF h q.1 q.2 := tF_ap (by omega) rfl
    rw [e]
    exact k.2 q hq
theorem f_carInit {G : zG} (hG : G.1 = zProg) {h : zH} {k m o t : Int32} : tC zTt G 0 [.ref h.length, .int k, .int m, .int o, .int t] (h ++ [.inr (0, zcls zTt 0)]) (fun w h2 => w = none ∧ ∃ g : Nat → Int32, (∀ i, i < 12 → g i = 600) ∧ h2 = h ++ [.inr (0, [.int k, .int m, .int t, .int o, .int o, .int m, .int m, .int 0, .int 0, .int 0, .ref (h.length + 1)]), .inl (0, 12, .inl g)]) :=
  tC_of (zcar_init (d := 0) hG (fun g hg => ⟨rfl, g, hg, rfl⟩))
theorem f_hasKind {G : zG} (hG : G.1 = zProg) {h : zH} {n : Int32} (hs : tSh h) : tC zTt G 25 [.ref 1, .int n] h (fun w h2 => tBo (0 ≤ n.toInt ∧ n.toInt < (tvI (tF h 1 6)).toInt) w ∧ h2 = h) := by
  refine tC_in (by rw [hG]; rfl) (fun dp => ?_)
  refine tw_iload rfl rfl ?_
  refine tw_if_lt rfl (fun q46 => ?_) (fun q46 => ?_)
  · try dsimp only [tvI_i, tvJ_j, tvR_r] at q46
    refine tw_push rfl ?_
    exact tw_iret rfl ⟨Or.inr ⟨by omega, rfl⟩, rfl⟩
  · try dsimp only [tvI_i, tvJ_j, tvR_r] at q46
    refine tw_iload rfl rfl ?_
    refine tw_aload rfl rfl ?_
    refine tw_getS rfl (hi_1_6 hs) ?_
    refine tw_ic_ge rfl (fun q47 => ?_) (fun q47 => ?_)
    · try dsimp only [tvI_i, tvJ_j, tvR_r] at q47
      refine tw_push rfl ?_
      exact tw_iret rfl ⟨Or.inr ⟨by omega, rfl⟩, rfl⟩
    · try dsimp only [tvI_i, tvJ_j, tvR_r] at q47
      refine tw_push rfl ?_
      refine tw_goto rfl ?_
      exact tw_iret rfl ⟨Or.inl ⟨by omega, rfl⟩, rfl⟩
theorem f_hasPerson {G : zG} (hG : G.1 = zProg) {h : zH} {n : Int32} (hs : tSh h) : tC zTt G 15 [.ref 36, .int n] h (fun w h2 => tBo (0 ≤ n.toInt ∧ n.toInt < (tvI (tF h 36 2)).toInt) w ∧ h2 = h) := by
  refine tC_in (by rw [hG]; rfl) (fun dp => ?_)
  refine tw_iload rfl rfl ?_
  refine tw_if_lt rfl (fun q48 => ?_) (fun q48 => ?_)
  · try dsimp only [tvI_i, tvJ_j, tvR_r] at q48
    refine tw_push rfl ?_
    exact tw_iret rfl ⟨Or.inr ⟨by omega, rfl⟩, rfl⟩
  · try dsimp only [tvI_i, tvJ_j, tvR_r] at q48
    refine tw_iload rfl rfl ?_
    refine tw_aload rfl rfl ?_
    refine tw_getS rfl (hi_36_2 hs) ?_
    refine tw_ic_ge rfl (fun q49 => ?_) (fun q49 => ?_)
    · try dsimp only [tvI_i, tvJ_j, tvR_r] at q49
      refine tw_push rfl ?_
      exact tw_iret rfl ⟨Or.inr ⟨by omega, rfl⟩, rfl⟩
    · try dsimp only [tvI_i, tvJ_j, tvR_r] at q49
      refine tw_push rfl ?_
      refine tw_goto rfl ?_
      exact tw_iret rfl ⟨Or.inl ⟨by omega, rfl⟩, rfl⟩
theorem f_addCar {G : zG} (hG : G.1 = zProg) {h : zH} {k m o t : Int32} (hs : tSh h) (hl : 182 ≤ h.length) : tC zTt G 20 [.ref 36, .int k, .int m, .int o, .int t] h (fun w h2 => ((tvI (tF h 36 4)).toInt ≠ 300 ∧ w = some (tF h 36 4) ∧ tF h2 36 4 = .int (tvI (tF h 36 4) + 1) ∧ tO h2 39 = (fun j => if j = (tvI (tF h 36 4)).toNatClampNeg then some h.length else tO h 39 j) ∧ (∀ p b, p < h.length → ¬ (p = 36 ∧ b = 4) → tF h2 p b = tF h p b) ∧ tF h2 h.length 1 = .int m ∧ tF h2 h.length 2 = .int t ∧ tF h2 h.length 3 = .int o ∧ tF h2 h.length 4 = .int o ∧ tF h2 h.length 5 = .int m) ∨ (¬ (tvI (tF h 36 4)).toInt ≠ 300 ∧ w = some (.int (-1)) ∧ h2 = h)) := by
  refine tC_in (by rw [hG]; rfl) (fun dp => ?_)
  refine tw_aload rfl rfl ?_
  refine tw_getS rfl (hi_36_4 hs) ?_
  refine tw_push rfl ?_
  refine tw_ic_ne rfl (fun q50 => ?_) (fun q50 => ?_)
  · try dsimp only [tvI_i, tvJ_j, tvR_r] at q50
    have q50i := zneq (Y := 300) (by decide) q50
    refine tw_aload rfl rfl ?_
    refine tw_getS rfl (hs_36_3 hs) ?_
    refine tw_aload rfl rfl ?_
    refine tw_getS rfl (hi_36_4 hs) ?_
    refine tw_new rfl rfl ?_
    refine tw_dup rfl ?_
    refine tw_iload rfl rfl ?_
    refine tw_iload rfl rfl ?_
    refine tw_iload rfl rfl ?_
    refine tw_iload rfl rfl ?_
    refine tw_spec4 rfl (f_carInit hG) (fun wp51 hp51 p51 => ?_)
    obtain ⟨rfl, p51g, p51h, rfl⟩ := p51
    refine tw_aast rfl (fun f52 => ?_)
    refine tw_aload rfl rfl ?_
    refine tw_dup rfl ?_
    refine tw_getS rfl (tF_o (tF_ap (by omega) (hi_36_4 hs))) ?_
    refine tw_dup_x1 rfl ?_
    refine tw_push rfl ?_
    refine tw_iadd rfl ?_
    refine tw_put rfl (fun f53 => ?_)
    refine tw_iret rfl (Or.inl ⟨by omega, congrArg some (hi_36_4 hs).symm, tF_same f53, ?_, fun p b hp hn => tF_ne hn (tF_o (tF_ap hp rfl)), (tF_ne (by omega) (tF_o tF_nw)), (tF_ne (by omega) (tF_o tF_nw)), (tF_ne (by omega) (tF_o tF_nw)), (tF_ne (by omega) (tF_o tF_nw)), (tF_ne (by omega) (tF_o tF_nw))⟩)
    rw [tO_tSF, tO_tSO f52.cell]
    funext j
    dsimp only
    rw [tO_ap (by omega)]
    by_cases e : j = (tvI (tF h 36 4)).toNatClampNeg
    · rw [if_pos ⟨rfl, e⟩, if_pos e]
    · rw [if_neg (fun z => e z.2), if_neg e]
  · try dsimp only [tvI_i, tvJ_j, tvR_r] at q50
    have q50i := zeqi (Y := 300) (by decide) q50
    refine tw_push rfl ?_
    exact tw_iret rfl (Or.inr ⟨by omega, rfl, rfl⟩)
def ph_carc (k m o : Int32) (h : zH) (w : Option Value) (h2 : zH) : Prop := ((((0 ≤ k.toInt ∧ k.toInt < (tvI (tF h 1 6)).toInt) ∧ (0 ≤ m.toInt ∧ m.toInt ≤ (tvI (tF h 0 14)).toInt) ∧ (0 ≤ o.toInt ∧ o.toInt < (tvI (tF h 36 2)).toInt)) ∧ (tvI (tF h 36 4)).toInt ≠ 300) ∧ w = some (tF h 36 4) ∧ tF h2 36 4 = .int (tvI (tF h 36 4) + 1) ∧ tO h2 39 = (fun j => if j = (tvI (tF h 36 4)).toNatClampNeg then some h.length else tO h 39 j) ∧ (∀ p b, p < h.length → ¬ (p = 36 ∧ b = 4) → tF h2 p b = tF h p b) ∧ tF h2 h.length 1 = .int m ∧ tF h2 h.length 2 = .int (tvI (tF h 0 14)) ∧ tF h2 h.length 3 = .int o ∧ tF h2 h.length 4 = .int o ∧ tF h2 h.length 5 = .int m) ∨ (¬ (((0 ≤ k.toInt ∧ k.toInt < (tvI (tF h 1 6)).toInt) ∧ (0 ≤ m.toInt ∧ m.toInt ≤ (tvI (tF h 0 14)).toInt) ∧ (0 ≤ o.toInt ∧ o.toInt < (tvI (tF h 36 2)).toInt)) ∧ (tvI (tF h 36 4)).toInt ≠ 300) ∧ w = some (.int (-1)) ∧ h2 = h)
theorem f_car {G : zG} (hG : G.1 = zProg) {h : zH} {k m o : Int32} (hs : tSh h) (hl : 182 ≤ h.length) : tC zTt G 116 [.ref 0, .int k, .int m, .int o] h (ph_carc k m o h) := by
  refine tC_in (by rw [hG]; rfl) (fun dp => ?_)
  refine tw_aload rfl rfl ?_
  refine tw_getS rfl (hs_0_0 hs) ?_
  refine tw_iload rfl rfl ?_
  refine tw_virt1 rfl (f_hasKind hG hs) (fun w9 h9 p54 => ?_)
  obtain ⟨⟨p54, rfl⟩ | ⟨p54, rfl⟩, rfl⟩ := p54
  · try dsimp only [tvI_i, tvJ_j, tvR_r] at p54
    refine tw_if_eq rfl (fun z => absurd z (by decide)) (fun _ => ?_)
    refine tw_iload rfl rfl ?_
    refine tw_push rfl ?_
    refine tw_aload rfl rfl ?_
    refine tw_getS rfl (hi_0_14 hs) ?_
    refine tw_stat3 rfl (f_isWithin hG (LO := 0)  (by decide) rfl) (fun w9 h9 p55 => ?_)
    obtain ⟨⟨p55, rfl⟩ | ⟨p55, rfl⟩, rfl⟩ := p55
    · try dsimp only [tvI_i, tvJ_j, tvR_r] at p55
      refine tw_if_eq rfl (fun z => absurd z (by decide)) (fun _ => ?_)
      refine tw_aload rfl rfl ?_
      refine tw_getS rfl (hs_0_1 hs) ?_
      refine tw_iload rfl rfl ?_
      refine tw_virt1 rfl (f_hasPerson hG hs) (fun w9 h9 p56 => ?_)
      obtain ⟨⟨p56, rfl⟩ | ⟨p56, rfl⟩, rfl⟩ := p56
      · try dsimp only [tvI_i, tvJ_j, tvR_r] at p56
        refine tw_if_eq rfl (fun z => absurd z (by decide)) (fun _ => ?_)
        refine tw_push rfl ?_
        refine tw_goto rfl ?_
        refine tw_istore rfl ?_
        refine tw_iload rfl rfl ?_
        refine tw_if_eq rfl (fun z => absurd z (by decide)) (fun _ => ?_)
        refine tw_aload rfl rfl ?_
        refine tw_getS rfl (hs_0_1 hs) ?_
        refine tw_iload rfl rfl ?_
        refine tw_iload rfl rfl ?_
        refine tw_iload rfl rfl ?_
        refine tw_aload rfl rfl ?_
        refine tw_getS rfl (hi_0_14 hs) ?_
        refine tw_virt4 rfl (f_addCar hG hs hl) (fun w9 h9 p57 => ?_)
        rcases p57 with ⟨p57, rfl, p57e⟩ | ⟨p57, rfl, rfl⟩
        · refine tw_goto rfl ?_
          exact tw_iret rfl (Or.inl ⟨by omega, congrArg some (hi_36_4 hs).symm, p57e⟩)
        · refine tw_goto rfl ?_
          exact tw_iret rfl (Or.inr ⟨by omega, rfl, rfl⟩)
      · try dsimp only [tvI_i, tvJ_j, tvR_r] at p56
        refine tw_if_eq rfl (fun _ => ?_) (fun z => absurd z (by decide))
        refine tw_push rfl ?_
        refine tw_istore rfl ?_
        refine tw_iload rfl rfl ?_
        refine tw_if_eq rfl (fun _ => ?_) (fun z => absurd z (by decide))
        refine tw_push rfl ?_
        exact tw_iret rfl (Or.inr ⟨by omega, rfl, rfl⟩)
    · try dsimp only [tvI_i, tvJ_j, tvR_r] at p55
      refine tw_if_eq rfl (fun _ => ?_) (fun z => absurd z (by decide))
      refine tw_push rfl ?_
      refine tw_istore rfl ?_
      refine tw_iload rfl rfl ?_
      refine tw_if_eq rfl (fun _ => ?_) (fun z => absurd z (by decide))
      refine tw_push rfl ?_
      exact tw_iret rfl (Or.inr ⟨by omega, rfl, rfl⟩)
  · try dsimp only [tvI_i, tvJ_j, tvR_r] at p54
    refine tw_if_eq rfl (fun _ => ?_) (fun z => absurd z (by decide))
    refine tw_push rfl ?_
    refine tw_istore rfl ?_
    refine tw_iload rfl rfl ?_
    refine tw_if_eq rfl (fun _ => ?_) (fun z => absurd z (by decide))
    refine tw_push rfl ?_
    exact tw_iret rfl (Or.inr ⟨by omega, rfl, rfl⟩)
theorem g_isKind {G : zG} (hG : G.1 = zProg) {h : zH} {n : Int32} (hs : tSh h) (hk : 0 ≤ (tvI (tF h 111 3)).toInt) : tC zTt G 176 [.ref 111, .int n] h (fun w h2 => tBo (0 ≤ n.toInt ∧ n.toInt < (tvI (tF h 111 3)).toInt) w ∧ h2 = h) := by
  refine tC_in (by rw [hG]; rfl) (fun dp => ?_)
  refine tw_iload rfl rfl ?_
  refine tw_i2l rfl ?_
  refine tw_push rfl ?_
  refine tw_aload rfl rfl ?_
  refine tw_getS rfl (hi_111_3 hs) ?_
  refine tw_push rfl ?_
  refine tw_isub rfl ?_
  refine tw_i2l rfl ?_
  refine tw_stat3 rfl (f_in hG  (LO := 0)  (Int32.toInt_toInt64 _) (by decide) (Int32.toInt_toInt64 _)) (fun w9 h9 p58 => ?_)
  obtain ⟨⟨p58, rfl⟩ | ⟨p58, rfl⟩, rfl⟩ := p58
  · try dsimp only [tvI_i, tvJ_j, tvR_r] at p58
    exact tw_iret rfl ⟨Or.inl ⟨by have e := zsub1 hk; have := p58; omega, rfl⟩, rfl⟩
  · try dsimp only [tvI_i, tvJ_j, tvR_r] at p58
    exact tw_iret rfl ⟨Or.inr ⟨by have e := zsub1 hk; have := p58; omega, rfl⟩, rfl⟩
theorem g_isPerson {G : zG} (hG : G.1 = zProg) {h : zH} {n : Int32} (hs : tSh h) (hk : 0 ≤ (tvI (tF h 111 2)).toInt) : tC zTt G 175 [.ref 111, .int n] h (fun w h2 => tBo (0 ≤ n.toInt ∧ n.toInt < (tvI (tF h 111 2)).toInt) w ∧ h2 = h) := by
  refine tC_in (by rw [hG]; rfl) (fun dp => ?_)
  refine tw_iload rfl rfl ?_
  refine tw_i2l rfl ?_
  refine tw_push rfl ?_
  refine tw_aload rfl rfl ?_
  refine tw_getS rfl (hi_111_2 hs) ?_
  refine tw_push rfl ?_
  refine tw_isub rfl ?_
  refine tw_i2l rfl ?_
  refine tw_stat3 rfl (f_in hG  (LO := 0)  (Int32.toInt_toInt64 _) (by decide) (Int32.toInt_toInt64 _)) (fun w9 h9 p59 => ?_)
  obtain ⟨⟨p59, rfl⟩ | ⟨p59, rfl⟩, rfl⟩ := p59
  · try dsimp only [tvI_i, tvJ_j, tvR_r] at p59
    exact tw_iret rfl ⟨Or.inl ⟨by have e := zsub1 hk; have := p59; omega, rfl⟩, rfl⟩
  · try dsimp only [tvI_i, tvJ_j, tvR_r] at p59
    exact tw_iret rfl ⟨Or.inr ⟨by have e := zsub1 hk; have := p59; omega, rfl⟩, rfl⟩
theorem g_car {G : zG} (hG : G.1 = zProg) {h : zH} {k m o : Int32} (hs : tSh h) (hk3 : 0 ≤ (tvI (tF h 111 3)).toInt) (hk2 : 0 ≤ (tvI (tF h 111 2)).toInt) : tC zTt G 184 [.ref 111, .int k, .int m, .int o] h (phA 111 5 (((0 ≤ k.toInt ∧ k.toInt < (tvI (tF h 111 3)).toInt) ∧ (0 ≤ m.toInt ∧ m.toInt ≤ (tvI (tF h 111 1)).toInt) ∧ (0 ≤ o.toInt ∧ o.toInt < (tvI (tF h 111 2)).toInt)) ∧ (tvI (tF h 111 5)).toInt ≠ 300) [(122, m), (123, tvI (tF h 111 1)), (124, o), (125, o), (126, m)] h) := by
  refine tC_in (by rw [hG]; rfl) (fun dp => ?_)
  refine tw_aload rfl rfl ?_
  refine tw_getS rfl (hi_111_5 hs) ?_
  refine tw_push rfl ?_
  refine tw_ic_eq rfl (fun q60 => ?_) (fun q60 => ?_)
  · try dsimp only [tvI_i, tvJ_j, tvR_r] at q60
    have q60i := zeqi (Y := 300) (by decide) q60
    refine tw_push rfl ?_
    exact tw_iret rfl (Or.inr ⟨by omega, rfl, rfl, fun _ _ => rfl⟩)
  · try dsimp only [tvI_i, tvJ_j, tvR_r] at q60
    have q60i := zneq (Y := 300) (by decide) q60
    refine tw_aload rfl rfl ?_
    refine tw_iload rfl rfl ?_
    refine tw_virt1 rfl (g_isKind hG hs hk3) (fun w9 h9 p61 => ?_)
    obtain ⟨⟨p61, rfl⟩ | ⟨p61, rfl⟩, rfl⟩ := p61
    · try dsimp only [tvI_i, tvJ_j, tvR_r] at p61
      refine tw_if_eq rfl (fun z => absurd z (by decide)) (fun _ => ?_)
      refine tw_iload rfl rfl ?_
      refine tw_i2l rfl ?_
      refine tw_push rfl ?_
      refine tw_aload rfl rfl ?_
      refine tw_getS rfl (hi_111_1 hs) ?_
      refine tw_i2l rfl ?_
      refine tw_stat3 rfl (f_in hG  (LO := 0)  (Int32.toInt_toInt64 _) (by decide) (Int32.toInt_toInt64 _)) (fun w9 h9 p62 => ?_)
      obtain ⟨⟨p62, rfl⟩ | ⟨p62, rfl⟩, rfl⟩ := p62
      · try dsimp only [tvI_i, tvJ_j, tvR_r] at p62
        refine tw_if_eq rfl (fun z => absurd z (by decide)) (fun _ => ?_)
        refine tw_aload rfl rfl ?_
        refine tw_iload rfl rfl ?_
        refine tw_virt1 rfl (g_isPerson hG hs hk2) (fun w9 h9 p63 => ?_)
        obtain ⟨⟨p63, rfl⟩ | ⟨p63, rfl⟩, rfl⟩ := p63
        · try dsimp only [tvI_i, tvJ_j, tvR_r] at p63
          refine tw_if_ne rfl (fun _ => ?_) (fun z => absurd z (by decide))
          refine tw_aload rfl rfl ?_
          refine tw_getS rfl (hs_111_16 hs) ?_
          refine tw_aload rfl rfl ?_
          refine tw_getS rfl (hi_111_5 hs) ?_
          refine tw_iload rfl rfl ?_
          refine tw_iast rfl (fun f64 => ?_)
          refine tw_aload rfl rfl ?_
          refine tw_getS rfl (hs_111_17 (tSh_SA hs)) ?_
          refine tw_aload rfl rfl ?_
          refine tw_getS rfl (tF_a (hi_111_5 hs)) ?_
          refine tw_iload rfl rfl ?_
          refine tw_iast rfl (fun f65 => ?_)
          refine tw_aload rfl rfl ?_
          refine tw_getS rfl (hs_111_18 (tSh_SA (tSh_SA hs))) ?_
          refine tw_aload rfl rfl ?_
          refine tw_getS rfl (tF_a (tF_a (hi_111_5 hs))) ?_
          refine tw_aload rfl rfl ?_
          refine tw_getS rfl (tF_a (tF_a (hi_111_1 hs))) ?_
          refine tw_iast rfl (fun f66 => ?_)
          refine tw_aload rfl rfl ?_
          refine tw_getS rfl (hs_111_19 (tSh_SA (tSh_SA (tSh_SA hs)))) ?_
          refine tw_aload rfl rfl ?_
          refine tw_getS rfl (tF_a (tF_a (tF_a (hi_111_5 hs)))) ?_
          refine tw_iload rfl rfl ?_
          refine tw_iast rfl (fun f67 => ?_)
          refine tw_aload rfl rfl ?_
          refine tw_getS rfl (hs_111_20 (tSh_SA (tSh_SA (tSh_SA (tSh_SA hs))))) ?_
          refine tw_aload rfl rfl ?_
          refine tw_getS rfl (tF_a (tF_a (tF_a (tF_a (hi_111_5 hs))))) ?_
          refine tw_iload rfl rfl ?_
          refine tw_iast rfl (fun f68 => ?_)
          refine tw_aload rfl rfl ?_
          refine tw_getS rfl (hs_111_21 (tSh_SA (tSh_SA (tSh_SA (tSh_SA (tSh_SA hs)))))) ?_
          refine tw_aload rfl rfl ?_
          refine tw_getS rfl (tF_a (tF_a (tF_a (tF_a (tF_a (hi_111_5 hs)))))) ?_
          refine tw_iload rfl rfl ?_
          refine tw_iast rfl (fun f69 => ?_)
          refine tw_aload rfl rfl ?_
          refine tw_getS rfl (hs_111_22 (tSh_SA (tSh_SA (tSh_SA (tSh_SA (tSh_SA (tSh_SA hs))))))) ?_
          refine tw_aload rfl rfl ?_
          refine tw_getS rfl (tF_a (tF_a (tF_a (tF_a (tF_a (tF_a (hi_111_5 hs))))))) ?_
          refine tw_iload rfl rfl ?_
          refine tw_iast rfl (fun f70 => ?_)
          refine tw_aload rfl rfl ?_
          refine tw_dup rfl ?_
          refine tw_getS rfl (tF_a (tF_a (tF_a (tF_a (tF_a (tF_a (tF_a (hi_111_5 hs)))))))) ?_
          refine tw_push rfl ?_
          refine tw_iadd rfl ?_
          refine tw_put rfl (fun f71 => ?_)
          refine tw_aload rfl rfl ?_
          refine tw_getS rfl (tF_same f71) ?_
          refine tw_push rfl ?_
          refine tw_isub rfl ?_
          exact tw_iret rfl (Or.inl ⟨by omega, wret1 (hi_111_5 hs), (tF_same f71), (fun q hq => by rcases List.mem_cons.mp hq with rfl | hq; (show tA _ 122 = _; exact (tA_ff (tA_n (by decide) (tA_n (by decide) (tA_n (by decide) (tA_n (by decide) (tA_n (by decide) (tA_st f65 (tA_n (by decide) rfl))))))))); rcases List.mem_cons.mp hq with rfl | hq; (show tA _ 123 = _; exact (tA_ff (tA_n (by decide) (tA_n (by decide) (tA_n (by decide) (tA_n (by decide) (tA_st f66 (tA_n (by decide) (tA_n (by decide) rfl))))))))); rcases List.mem_cons.mp hq with rfl | hq; (show tA _ 124 = _; exact (tA_ff (tA_n (by decide) (tA_n (by decide) (tA_n (by decide) (tA_st f67 (tA_n (by decide) (tA_n (by decide) (tA_n (by decide) rfl))))))))); rcases List.mem_cons.mp hq with rfl | hq; (show tA _ 125 = _; exact (tA_ff (tA_n (by decide) (tA_n (by decide) (tA_st f68 (tA_n (by decide) (tA_n (by decide) (tA_n (by decide) (tA_n (by decide) rfl))))))))); rcases List.mem_cons.mp hq with rfl | hq; (show tA _ 126 = _; exact (tA_ff (tA_n (by decide) (tA_st f69 (tA_n (by decide) (tA_n (by decide) (tA_n (by decide) (tA_n (by decide) (tA_n (by decide) rfl))))))))); cases hq)⟩)
        · try dsimp only [tvI_i, tvJ_j, tvR_r] at p63
          refine tw_if_ne rfl (fun z => absurd z (by decide)) (fun _ => ?_)
          refine tw_push rfl ?_
          exact tw_iret rfl (Or.inr ⟨by omega, rfl, rfl, fun _ _ => rfl⟩)
      · try dsimp only [tvI_i, tvJ_j, tvR_r] at p62
        refine tw_if_eq rfl (fun _ => ?_) (fun z => absurd z (by decide))
        refine tw_push rfl ?_
        exact tw_iret rfl (Or.inr ⟨by omega, rfl, rfl, fun _ _ => rfl⟩)
    · try dsimp only [tvI_i, tvJ_j, tvR_r] at p61
      refine tw_if_eq rfl (fun _ => ?_) (fun z => absurd z (by decide))
      refine tw_push rfl ?_
      exact tw_iret rfl (Or.inr ⟨by omega, rfl, rfl, fun _ _ => rfl⟩)
theorem a_car {xs : Nat → Int32} {τ τ2 : List Nat} {k m o : Int32} {h h2 h3 : zH} {w w2 : Option Value} (hB : zBs xs τ h) (hB2 : zBs xs τ2 h2) (hK : R_kinds h) (hW : R_now h) (hP : R_people h) (hR : R_cars h) (hL : R_cl h) (h_cmade : R_cmade h) (o_cmade : tA h2 122 = tA h 122) (h_ctl : R_ctl h) (o_ctl : tA h2 123 = tA h 123) (h_cfo : R_cfo h) (o_cfo : tA h2 124 = tA h 124) (h_cown : R_cown h) (o_cown : tA h2 125 = tA h 125) (h_csold : R_csold h) (o_csold : tA h2 126 = tA h 126) (e1 : tF h2 111 5 = tF h 111 5) (e3 : tF h2 111 3 = tF h 111 3) (e4 : tF h2 111 1 = tF h 111 1) (e5 : tF h2 111 2 = tF h 111 2) (e2 : tF h3 36 4 = tF h2 36 4) (e6 : tO h3 39 = tO h2 39) (e7 : ∀ i r f : Nat, (i : Int) < (tvI (tF h2 36 4)).toInt → tO h2 39 i = some r → tF h3 r f = tF h2 r f) (k1 : ph_carc k m o h w h2) (k2 : phA 111 5 (((0 ≤ k.toInt ∧ k.toInt < (tvI (tF h2 111 3)).toInt) ∧ (0 ≤ m.toInt ∧ m.toInt ≤ (tvI (tF h2 111 1)).toInt) ∧ (0 ≤ o.toInt ∧ o.toInt < (tvI (tF h2 111 2)).toInt)) ∧ (tvI (tF h2 111 5)).toInt ≠ 300) [(122, m), (123, tvI (tF h2 111 1)), (124, o), (125, o), (126, m)] h2 w2 h3) : w2 = w ∧ R_cars h3 ∧ R_cl h3 ∧ R_cmade h3 ∧ R_ctl h3 ∧ R_cfo h3 ∧ R_cown h3 ∧ R_csold h3 := by
  unfold R_kinds at hK
  unfold R_now at hW
  unfold R_people at hP
  have hR0 := hR
  unfold R_cars at hR0
  rw [e1, e3, e4, e5, ← hK, ← hW, ← hP, ← hR0] at k2
  have n1 := (kb_36_4 hB).1
  have n2 := (kb_36_4 hB).2
  rcases k1 with ⟨c1, rfl, f1, g1, g2, f_cmade, f_ctl, f_cfo, f_cown, f_csold⟩ | ⟨c1, rfl, rfl⟩ <;> rcases k2 with ⟨c2, rfl, f2, q2⟩ | ⟨c2, rfl, f2, q2⟩
  · have hc : R_cars h3 := by
      unfold R_cars
      rw [e2, f1, f2, e1, ← hR0]
    have en : (tvI (tF h3 36 4)).toInt = (tvI (tF h 36 4)).toInt + 1 := by
      rw [e2, f1]
      show (tvI (tF h 36 4) + 1).toInt = _
      rw [Int32.toInt_add]
      exact Int.bmod_eq_of_le (by show (-2147483648 : Int) ≤ (tvI (tF h 36 4)).toInt + 1; omega) (by show (tvI (tF h 36 4)).toInt + 1 < (2147483648 : Int); omega)
    have en2 : (tvI (tF h2 36 4)).toInt = (tvI (tF h 36 4)).toInt + 1 := by rw [← e2]; exact en
    have eo : tO h3 39 = fun j => if j = (tvI (tF h 36 4)).toNatClampNeg then some h.length else tO h 39 j := by rw [e6, g1]
    have hnc : ((tvI (tF h 36 4)).toNatClampNeg : Int) = (tvI (tF h 36 4)).toInt := by rw [zclE]; omega
    have hL3 : R_cl h3 := by
      unfold R_cl
      rw [en, eo]
      refine ⟨fun i hi => ?_, fun i j hi hj e => ?_⟩
      · dsimp only
        by_cases z : i = (tvI (tF h 36 4)).toNatClampNeg
        · rw [if_pos z]; exact ⟨_, rfl⟩
        · rw [if_neg z]; exact hL.1 i (by omega)
      · dsimp only at e
        by_cases z : i = (tvI (tF h 36 4)).toNatClampNeg
        · by_cases z2 : j = (tvI (tF h 36 4)).toNatClampNeg
          · omega
          · rw [if_pos z, if_neg z2] at e
            have := car_lt hB (i := j) (r := h.length) (by omega) e.symm
            omega
        · by_cases z2 : j = (tvI (tF h 36 4)).toNatClampNeg
          · rw [if_neg z, if_pos z2] at e
            have := car_lt hB (i := i) (r := h.length) (by omega) e
            omega
          · rw [if_neg z, if_neg z2] at e
            exact hL.2 i j (by omega) (by omega) e
    have H_cmade : R_cmade h3 := by
      intro i r hi hr
      rw [en] at hi
      have hr2 := hr
      rw [e6] at hr2
      rw [e7 i r 1 (by omega) hr2, q2 (122, m) (by simp), e1, ← hR0]
      rw [eo] at hr
      dsimp only at hr ⊢
      by_cases z : i = (tvI (tF h 36 4)).toNatClampNeg
      · rw [if_pos z] at hr
        cases hr
        rw [if_pos z]
        exact f_cmade
      · rw [if_neg z] at hr
        have hi2 : (i : Int) < (tvI (tF h 36 4)).toInt := by omega
        rw [if_neg z, g2 r 1 (car_lt hB hi2 hr) (fun y => car_ne hB hi2 hr (p := 36) (t := 12) rfl (by decide) y.1), o_cmade]
        exact h_cmade i r hi2 hr
    have H_ctl : R_ctl h3 := by
      intro i r hi hr
      rw [en] at hi
      have hr2 := hr
      rw [e6] at hr2
      rw [e7 i r 2 (by omega) hr2, q2 (123, tvI (tF h 0 14)) (by simp), e1, ← hR0]
      rw [eo] at hr
      dsimp only at hr ⊢
      by_cases z : i = (tvI (tF h 36 4)).toNatClampNeg
      · rw [if_pos z] at hr
        cases hr
        rw [if_pos z]
        exact f_ctl
      · rw [if_neg z] at hr
        have hi2 : (i : Int) < (tvI (tF h 36 4)).toInt := by omega
        rw [if_neg z, g2 r 2 (car_lt hB hi2 hr) (fun y => car_ne hB hi2 hr (p := 36) (t := 12) rfl (by decide) y.1), o_ctl]
        exact h_ctl i r hi2 hr
    have H_cfo : R_cfo h3 := by
      intro i r hi hr
      rw [en] at hi
      have hr2 := hr
      rw [e6] at hr2
      rw [e7 i r 3 (by omega) hr2, q2 (124, o) (by simp), e1, ← hR0]
      rw [eo] at hr
      dsimp only at hr ⊢
      by_cases z : i = (tvI (tF h 36 4)).toNatClampNeg
      · rw [if_pos z] at hr
        cases hr
        rw [if_pos z]
        exact f_cfo
      · rw [if_neg z] at hr
        have hi2 : (i : Int) < (tvI (tF h 36 4)).toInt := by omega
        rw [if_neg z, g2 r 3 (car_lt hB hi2 hr) (fun y => car_ne hB hi2 hr (p := 36) (t := 12) rfl (by decide) y.1), o_cfo]
        exact h_cfo i r hi2 hr
    have H_cown : R_cown h3 := by
      intro i r hi hr
      rw [en] at hi
      have hr2 := hr
      rw [e6] at hr2
      rw [e7 i r 4 (by omega) hr2, q2 (125, o) (by simp), e1, ← hR0]
      rw [eo] at hr
      dsimp only at hr ⊢
      by_cases z : i = (tvI (tF h 36 4)).toNatClampNeg
      · rw [if_pos z] at hr
        cases hr
        rw [if_pos z]
        exact f_cown
      · rw [if_neg z] at hr
        have hi2 : (i : Int) < (tvI (tF h 36 4)).toInt := by omega
        rw [if_neg z, g2 r 4 (car_lt hB hi2 hr) (fun y => car_ne hB hi2 hr (p := 36) (t := 12) rfl (by decide) y.1), o_cown]
        exact h_cown i r hi2 hr
    have H_csold : R_csold h3 := by
      intro i r hi hr
      rw [en] at hi
      have hr2 := hr
      rw [e6] at hr2
      rw [e7 i r 5 (by omega) hr2, q2 (126, m) (by simp), e1, ← hR0]
      rw [eo] at hr
      dsimp only at hr ⊢
      by_cases z : i = (tvI (tF h 36 4)).toNatClampNeg
      · rw [if_pos z] at hr
        cases hr
        rw [if_pos z]
        exact f_csold
      · rw [if_neg z] at hr
        have hi2 : (i : Int) < (tvI (tF h 36 4)).toInt := by omega
        rw [if_neg z, g2 r 5 (car_lt hB hi2 hr) (fun y => car_ne hB hi2 hr (p := 36) (t := 12) rfl (by decide) y.1), o_csold]
        exact h_csold i r hi2 hr
    exact ⟨by rw [e1, ← hR0], hc, hL3, H_cmade, H_ctl, H_cfo, H_cown, H_csold⟩
  · exact absurd c1 c2
  · exact absurd c2 c1
  · have hc : R_cars h3 := by
      unfold R_cars
      rw [e2, f2]
      exact hR0
    have hL3 : R_cl h3 := by unfold R_cl; rw [e2, e6]; exact hL
    have H_cmade : R_cmade h3 := by
      intro i r hi hr
      rw [e2] at hi
      rw [e6] at hr
      rw [e7 i r 1 hi hr, q2 (122, m) (by simp)]
      exact h_cmade i r hi hr
    have H_ctl : R_ctl h3 := by
      intro i r hi hr
      rw [e2] at hi
      rw [e6] at hr
      rw [e7 i r 2 hi hr, q2 (123, tvI (tF h2 0 14)) (by simp)]
      exact h_ctl i r hi hr
    have H_cfo : R_cfo h3 := by
      intro i r hi hr
      rw [e2] at hi
      rw [e6] at hr
      rw [e7 i r 3 hi hr, q2 (124, o) (by simp)]
      exact h_cfo i r hi hr
    have H_cown : R_cown h3 := by
      intro i r hi hr
      rw [e2] at hi
      rw [e6] at hr
      rw [e7 i r 4 hi hr, q2 (125, o) (by simp)]
      exact h_cown i r hi hr
    have H_csold : R_csold h3 := by
      intro i r hi hr
      rw [e2] at hi
      rw [e6] at hr
      rw [e7 i r 5 hi hr, q2 (126, m) (by simp)]
      exact h_csold i r hi hr
    exact ⟨rfl, hc, hL3, H_cmade, H_ctl, H_cfo, H_cown, H_csold⟩
def R_scar (h : zH) : Prop := tA h 40 = tA h 128
def R_sto (h : zH) : Prop := tA h 41 = tA h 129
def R_sin (h : zH) : Prop := tA h 42 = tA h 130
def R_stold (h : zH) : Prop := tA h 43 = tA h 131
def R_sales (h : zH) : Prop := tF h 36 9 = tF h 111 6
theorem f_carAt {G : zG} (hG : G.1 = zProg) {h : zH} {n : Int32} (hs : tSh h) : tC zTt G 19 [.ref 36, .int n] h (fun w h2 => (((0 ≤ n.toInt ∧ n.toInt < (tvI (tF h 36 4)).toInt) ∧ w = some (zrf (tO h 39 n.toNatClampNeg))) ∨ (¬ (0 ≤ n.toInt ∧ n.toInt < (tvI (tF h 36 4)).toInt) ∧ w = some .null)) ∧ h2 = h) := by
  refine tC_in (by rw [hG]; rfl) (fun dp => ?_)
  refine tw_iload rfl rfl ?_
  refine tw_if_lt rfl (fun q72 => ?_) (fun q72 => ?_)
  · try dsimp only [tvI_i, tvJ_j, tvR_r] at q72
    refine tw_push rfl ?_
    exact tw_aret rfl ⟨Or.inr ⟨by omega, rfl⟩, rfl⟩
  · try dsimp only [tvI_i, tvJ_j, tvR_r] at q72
    refine tw_iload rfl rfl ?_
    refine tw_aload rfl rfl ?_
    refine tw_getS rfl (hi_36_4 hs) ?_
    refine tw_ic_ge rfl (fun q73 => ?_) (fun q73 => ?_)
    · try dsimp only [tvI_i, tvJ_j, tvR_r] at q73
      refine tw_push rfl ?_
      exact tw_aret rfl ⟨Or.inr ⟨by omega, rfl⟩, rfl⟩
    · try dsimp only [tvI_i, tvJ_j, tvR_r] at q73
      refine tw_aload rfl rfl ?_
      refine tw_getS rfl (hs_36_3 hs) ?_
      refine tw_iload rfl rfl ?_
      refine tw_aald rfl (fun f74 => ?_)
      refine tw_goto rfl ?_
      exact tw_aret rfl ⟨Or.inl ⟨by omega, rfl⟩, rfl⟩
theorem car_ge {xs : Nat → Int32} {τ : List Nat} {h : zH} (hB : zBs xs τ h) : ∀ i r : Nat, (i : Int) < (tvI (tF h 36 4)).toInt → tO h 39 i = some r → 182 ≤ r := by
  intro i r hi hr
  have z := car_tag hB hi hr
  have a : (List.range 182).all (fun p => decide (zTG[p]? ≠ some 150) && decide (p < zTG.length)) = true := by decide +kernel
  rcases Nat.lt_or_ge r 182 with q | q
  · have b := List.all_eq_true.mp a r (List.mem_range.mpr q)
    rw [Bool.and_eq_true, decide_eq_true_eq, decide_eq_true_eq] at b
    have e := hB.2.1 r zTG[r] (List.getElem?_eq_getElem b.2)
    rw [z] at e
    exact absurd (by rw [List.getElem?_eq_getElem b.2]; exact e.symm) b.1
  · exact q
theorem tSh_SFr {h : zH} {r b : Nat} {w : Value} (hr : 182 ≤ r) (k : tSh h) : tSh (tSF h r b w) := by
  have a1 : tSr.all (fun q => Nat.blt q.1 182) = true := by decide +kernel
  have a2 : tSi.all (fun q => Nat.blt q.1 182) = true := by decide +kernel
  refine ⟨fun q hq => tF_ne ?_ (k.1 q hq), fun q hq => ?_⟩
  · have := Nat.le_of_ble_eq_true (List.all_eq_true.mp a1 q hq)
    omega
  · have := Nat.le_of_ble_eq_true (List.all_eq_true.mp a2 q hq)
    have e : tF (tSF h r b w) q.1 q.2 = tF h q.1 q.2 := tF_nz (by omega)
    rw [e]
    exact k.2 q hq
theorem f_carAtR {G : zG} (hG : G.1 = zProg) {h : zH} {n : Int32} (hs : tSh h) (hL : R_cl h) (hg : ∀ i r : Nat, (i : Int) < (tvI (tF h 36 4)).toInt → tO h 39 i = some r → 182 ≤ r) : tC zTt G 19 [.ref 36, .int n] h (fun w h2 => ((∃ r, ((0 ≤ n.toInt ∧ n.toInt < (tvI (tF h 36 4)).toInt) ∧ ((n.toNatClampNeg : Nat) : Int) < (tvI (tF h 36 4)).toInt) ∧ tO h 39 n.toNatClampNeg = some r ∧ 182 ≤ r ∧ w = some (.ref r)) ∨ (¬ (0 ≤ n.toInt ∧ n.toInt < (tvI (tF h 36 4)).toInt) ∧ w = some .null)) ∧ h2 = h) := by
  refine (f_carAt hG hs).mono ?_
  rintro w h2 ⟨⟨c, rfl⟩ | ⟨c, rfl⟩, rfl⟩
  · have hi : ((n.toNatClampNeg : Nat) : Int) < (tvI (tF h2 36 4)).toInt := by rw [zclE]; omega
    obtain ⟨r, hr⟩ := hL.1 _ hi
    exact ⟨Or.inl ⟨r, ⟨c, hi⟩, hr, hg _ r hi hr, by rw [hr]; rfl⟩, rfl⟩
  · exact ⟨Or.inr ⟨c, rfl⟩, rfl⟩
theorem f_addSale {G : zG} (hG : G.1 = zProg) {h : zH} {c o m t : Int32} (hs : tSh h) (hL : R_cl h) (hg : ∀ i r : Nat, (i : Int) < (tvI (tF h 36 4)).toInt → tO h 39 i = some r → 182 ≤ r) (hO : R_cown h) (hS : R_csold h) : tC zTt G 21 [.ref 36, .int c, .int o, .int m, .int t] h (fun w h2 => (((0 ≤ c.toInt ∧ c.toInt < (tvI (tF h 36 4)).toInt) ∧ (tvI (tF h 36 9)).toInt ≠ 400) ∧ w = some (.int 1) ∧ ∃ r, tO h 39 c.toNatClampNeg = some r ∧ tF h2 36 9 = .int (tvI (tF h 36 9) + 1) ∧ tF h2 r 4 = .int o ∧ tF h2 r 5 = .int m ∧ (∀ p b, ¬ (p = 36 ∧ b = 9) → ¬ (p = r ∧ (b = 4 ∨ b = 5)) → tF h2 p b = tF h p b) ∧ tA h2 40 = (fun j => if j = (tvI (tF h 36 9)).toNatClampNeg then c else tA h 40 j) ∧ tA h2 41 = (fun j => if j = (tvI (tF h 36 9)).toNatClampNeg then o else tA h 41 j) ∧ tA h2 42 = (fun j => if j = (tvI (tF h 36 9)).toNatClampNeg then m else tA h 42 j) ∧ tA h2 43 = (fun j => if j = (tvI (tF h 36 9)).toNatClampNeg then t else tA h 43 j)) ∨ (¬ ((0 ≤ c.toInt ∧ c.toInt < (tvI (tF h 36 4)).toInt) ∧ (tvI (tF h 36 9)).toInt ≠ 400) ∧ w = some (.int 0) ∧ h2 = h)) := by
  refine tC_in (by rw [hG]; rfl) (fun dp => ?_)
  refine tw_aload rfl rfl ?_
  refine tw_iload rfl rfl ?_
  refine tw_virt1 rfl (f_carAtR hG hs hL hg) (fun w9 h9 p75 => ?_)
  obtain ⟨⟨rp75, p75, p75r, p75g, rfl⟩ | ⟨p75, rfl⟩, rfl⟩ := p75
  · refine tw_astore rfl ?_
    refine tw_aload rfl rfl ?_
    refine tw_ifnull rfl (fun z => by cases z) (fun _ _ => ?_)
    refine tw_aload rfl rfl ?_
    refine tw_getS rfl (hi_36_9 hs) ?_
    refine tw_push rfl ?_
    refine tw_ic_ne rfl (fun q78 => ?_) (fun q78 => ?_)
    · try dsimp only [tvI_i, tvJ_j, tvR_r] at q78
      have q78i := zneq (Y := 400) (by decide) q78
      refine tw_aload rfl rfl ?_
      refine tw_getS rfl (hs_36_5 hs) ?_
      refine tw_aload rfl rfl ?_
      refine tw_getS rfl (hi_36_9 hs) ?_
      refine tw_iload rfl rfl ?_
      refine tw_iast rfl (fun f79 => ?_)
      refine tw_aload rfl rfl ?_
      refine tw_getS rfl (hs_36_6 (tSh_SA hs)) ?_
      refine tw_aload rfl rfl ?_
      refine tw_getS rfl (tF_a (hi_36_9 hs)) ?_
      refine tw_iload rfl rfl ?_
      refine tw_iast rfl (fun f80 => ?_)
      refine tw_aload rfl rfl ?_
      refine tw_getS rfl (hs_36_7 (tSh_SA (tSh_SA hs))) ?_
      refine tw_aload rfl rfl ?_
      refine tw_getS rfl (tF_a (tF_a (hi_36_9 hs))) ?_
      refine tw_iload rfl rfl ?_
      refine tw_iast rfl (fun f81 => ?_)
      refine tw_aload rfl rfl ?_
      refine tw_getS rfl (hs_36_8 (tSh_SA (tSh_SA (tSh_SA hs)))) ?_
      refine tw_aload rfl rfl ?_
      refine tw_getS rfl (tF_a (tF_a (tF_a (hi_36_9 hs)))) ?_
      refine tw_iload rfl rfl ?_
      refine tw_iast rfl (fun f82 => ?_)
      refine tw_aload rfl rfl ?_
      refine tw_dup rfl ?_
      refine tw_getS rfl (tF_a (tF_a (tF_a (tF_a (hi_36_9 hs))))) ?_
      refine tw_push rfl ?_
      refine tw_iadd rfl ?_
      refine tw_put rfl (fun f83 => ?_)
      refine tw_aload rfl rfl ?_
      refine tw_iload rfl rfl ?_
      refine tw_put rfl (fun f84 => ?_)
      refine tw_aload rfl rfl ?_
      refine tw_iload rfl rfl ?_
      refine tw_put rfl (fun f85 => ?_)
      refine tw_push rfl ?_
      exact tw_iret rfl (Or.inl ⟨by omega, rfl, rp75, p75r, (tF_ne (by omega) (tF_ne (by omega) (tF_same f83))), (tF_ne (by omega) (tF_same f84)), (tF_same f85), fun p b n1 n2 => (tF_ne (fun z => n2 ⟨z.1, Or.inr z.2⟩) (tF_ne (fun z => n2 ⟨z.1, Or.inl z.2⟩) (tF_ne n1 (tF_a (tF_a (tF_a (tF_a rfl))))))), (tA_ff (tA_ff (tA_ff (tA_n (by decide) (tA_n (by decide) (tA_n (by decide) (tA_st f79 rfl))))))), (tA_ff (tA_ff (tA_ff (tA_n (by decide) (tA_n (by decide) (tA_st f80 (tA_n (by decide) rfl))))))), (tA_ff (tA_ff (tA_ff (tA_n (by decide) (tA_st f81 (tA_n (by decide) (tA_n (by decide) rfl))))))), (tA_ff (tA_ff (tA_ff (tA_st f82 (tA_n (by decide) (tA_n (by decide) (tA_n (by decide) rfl)))))))⟩)
    · try dsimp only [tvI_i, tvJ_j, tvR_r] at q78
      have q78i := zeqi (Y := 400) (by decide) q78
      refine tw_push rfl ?_
      exact tw_iret rfl (Or.inr ⟨by omega, rfl, rfl⟩)
  · refine tw_astoreN rfl ?_
    refine tw_aload rfl rfl ?_
    refine tw_ifnull rfl (fun _ => ?_) (fun _ z => by cases z)
    refine tw_push rfl ?_
    exact tw_iret rfl (Or.inr ⟨by omega, rfl, rfl⟩)
def ph_sec (c o m : Int32) (h : zH) (w : Option Value) (h2 : zH) : Prop := (((0 ≤ c.toInt ∧ c.toInt < (tvI (tF h 36 4)).toInt) ∧ (0 ≤ o.toInt ∧ o.toInt < (tvI (tF h 36 2)).toInt) ∧ o.toInt ≠ (tA h 125 c.toNatClampNeg).toInt ∧ ((tA h 126 c.toNatClampNeg).toInt ≤ m.toInt ∧ m.toInt ≤ (tvI (tF h 0 14)).toInt) ∧ (tvI (tF h 36 9)).toInt ≠ 400) ∧ w = some (.int 1) ∧ ∃ r, tO h 39 c.toNatClampNeg = some r ∧ tF h2 36 9 = .int (tvI (tF h 36 9) + 1) ∧ tF h2 r 4 = .int o ∧ tF h2 r 5 = .int m ∧ (∀ p b, ¬ (p = 36 ∧ b = 9) → ¬ (p = r ∧ (b = 4 ∨ b = 5)) → tF h2 p b = tF h p b) ∧ tA h2 40 = (fun j => if j = (tvI (tF h 36 9)).toNatClampNeg then c else tA h 40 j) ∧ tA h2 41 = (fun j => if j = (tvI (tF h 36 9)).toNatClampNeg then o else tA h 41 j) ∧ tA h2 42 = (fun j => if j = (tvI (tF h 36 9)).toNatClampNeg then m else tA h 42 j) ∧ tA h2 43 = (fun j => if j = (tvI (tF h 36 9)).toNatClampNeg then tvI (tF h 0 14) else tA h 43 j)) ∨ (¬ ((0 ≤ c.toInt ∧ c.toInt < (tvI (tF h 36 4)).toInt) ∧ (0 ≤ o.toInt ∧ o.toInt < (tvI (tF h 36 2)).toInt) ∧ o.toInt ≠ (tA h 125 c.toNatClampNeg).toInt ∧ ((tA h 126 c.toNatClampNeg).toInt ≤ m.toInt ∧ m.toInt ≤ (tvI (tF h 0 14)).toInt) ∧ (tvI (tF h 36 9)).toInt ≠ 400) ∧ w = some (.int 0) ∧ h2 = h)
theorem f_sell {G : zG} (hG : G.1 = zProg) {h : zH} {c o m : Int32} (hs : tSh h) (hL : R_cl h) (hg : ∀ i r : Nat, (i : Int) < (tvI (tF h 36 4)).toInt → tO h 39 i = some r → 182 ≤ r) (hO : R_cown h) (hS : R_csold h) : tC zTt G 117 [.ref 0, .int c, .int o, .int m] h (ph_sec c o m h) := by
  refine tC_in (by rw [hG]; rfl) (fun dp => ?_)
  refine tw_aload rfl rfl ?_
  refine tw_getS rfl (hs_0_1 hs) ?_
  refine tw_iload rfl rfl ?_
  refine tw_virt1 rfl (f_carAtR hG hs hL hg) (fun w9 h9 p88 => ?_)
  obtain ⟨⟨rp88, p88, p88r, p88g, rfl⟩ | ⟨p88, rfl⟩, rfl⟩ := p88
  · refine tw_astore rfl ?_
    refine tw_aload rfl rfl ?_
    refine tw_ifnull rfl (fun z => by cases z) (fun _ _ => ?_)
    refine tw_aload rfl rfl ?_
    refine tw_getS rfl (hs_0_1 hs) ?_
    refine tw_iload rfl rfl ?_
    refine tw_virt1 rfl (f_hasPerson hG hs) (fun w9 h9 p91 => ?_)
    obtain ⟨⟨p91, rfl⟩ | ⟨p91, rfl⟩, rfl⟩ := p91
    · try dsimp only [tvI_i, tvJ_j, tvR_r] at p91
      refine tw_if_eq rfl (fun z => absurd z (by decide)) (fun _ => ?_)
      refine tw_iload rfl rfl ?_
      refine tw_aload rfl rfl ?_
      refine tw_getS rfl (hO _ _ p88.2 p88r) ?_
      refine tw_ic_eq rfl (fun q92 => ?_) (fun q92 => ?_)
      · try dsimp only [tvI_i, tvJ_j, tvR_r] at q92
        have q92i := zeqi rfl q92
        refine tw_push rfl ?_
        exact tw_iret rfl (Or.inr ⟨by omega, rfl, rfl⟩)
      · try dsimp only [tvI_i, tvJ_j, tvR_r] at q92
        have q92i := zneq rfl q92
        refine tw_iload rfl rfl ?_
        refine tw_aload rfl rfl ?_
        refine tw_getS rfl (hS _ _ p88.2 p88r) ?_
        refine tw_aload rfl rfl ?_
        refine tw_getS rfl (hi_0_14 hs) ?_
        refine tw_stat3 rfl (f_isWithin hG   rfl rfl) (fun w9 h9 p93 => ?_)
        obtain ⟨⟨p93, rfl⟩ | ⟨p93, rfl⟩, rfl⟩ := p93
        · try dsimp only [tvI_i, tvJ_j, tvR_r] at p93
          refine tw_if_ne rfl (fun _ => ?_) (fun z => absurd z (by decide))
          refine tw_aload rfl rfl ?_
          refine tw_getS rfl (hs_0_1 hs) ?_
          refine tw_iload rfl rfl ?_
          refine tw_iload rfl rfl ?_
          refine tw_iload rfl rfl ?_
          refine tw_aload rfl rfl ?_
          refine tw_getS rfl (hi_0_14 hs) ?_
          refine tw_virt4 rfl (f_addSale hG hs hL hg hO hS) (fun w9 h9 p94 => ?_)
          rcases p94 with ⟨p94, rfl, p94e⟩ | ⟨p94, rfl, rfl⟩
          · exact tw_iret rfl (Or.inl ⟨by omega, rfl, p94e⟩)
          · exact tw_iret rfl (Or.inr ⟨by omega, rfl, rfl⟩)
        · try dsimp only [tvI_i, tvJ_j, tvR_r] at p93
          refine tw_if_ne rfl (fun z => absurd z (by decide)) (fun _ => ?_)
          refine tw_push rfl ?_
          exact tw_iret rfl (Or.inr ⟨by omega, rfl, rfl⟩)
    · try dsimp only [tvI_i, tvJ_j, tvR_r] at p91
      refine tw_if_eq rfl (fun _ => ?_) (fun z => absurd z (by decide))
      refine tw_push rfl ?_
      exact tw_iret rfl (Or.inr ⟨by omega, rfl, rfl⟩)
  · refine tw_astoreN rfl ?_
    refine tw_aload rfl rfl ?_
    refine tw_ifnull rfl (fun _ => ?_) (fun _ z => by cases z)
    refine tw_push rfl ?_
    exact tw_iret rfl (Or.inr ⟨by omega, rfl, rfl⟩)
theorem g_isCar {G : zG} (hG : G.1 = zProg) {h : zH} {n : Int32} (hs : tSh h) (hk : 0 ≤ (tvI (tF h 111 5)).toInt) : tC zTt G 178 [.ref 111, .int n] h (fun w h2 => tBo (0 ≤ n.toInt ∧ n.toInt < (tvI (tF h 111 5)).toInt) w ∧ h2 = h) := by
  refine tC_in (by rw [hG]; rfl) (fun dp => ?_)
  refine tw_iload rfl rfl ?_
  refine tw_i2l rfl ?_
  refine tw_push rfl ?_
  refine tw_aload rfl rfl ?_
  refine tw_getS rfl (hi_111_5 hs) ?_
  refine tw_push rfl ?_
  refine tw_isub rfl ?_
  refine tw_i2l rfl ?_
  refine tw_stat3 rfl (f_in hG  (LO := 0)  (Int32.toInt_toInt64 _) (by decide) (Int32.toInt_toInt64 _)) (fun w9 h9 p97 => ?_)
  obtain ⟨⟨p97, rfl⟩ | ⟨p97, rfl⟩, rfl⟩ := p97
  · try dsimp only [tvI_i, tvJ_j, tvR_r] at p97
    exact tw_iret rfl ⟨Or.inl ⟨by have e := zsub1 hk; have := p97; omega, rfl⟩, rfl⟩
  · try dsimp only [tvI_i, tvJ_j, tvR_r] at p97
    exact tw_iret rfl ⟨Or.inr ⟨by have e := zsub1 hk; have := p97; omega, rfl⟩, rfl⟩
def ph_sem (c o m : Int32) (h : zH) (w : Option Value) (h2 : zH) : Prop := (((0 ≤ c.toInt ∧ c.toInt < (tvI (tF h 111 5)).toInt) ∧ (0 ≤ o.toInt ∧ o.toInt < (tvI (tF h 111 2)).toInt) ∧ o.toInt ≠ (tA h 125 c.toNatClampNeg).toInt ∧ ((tA h 126 c.toNatClampNeg).toInt ≤ m.toInt ∧ m.toInt ≤ (tvI (tF h 111 1)).toInt) ∧ (tvI (tF h 111 6)).toInt ≠ 400) ∧ w = some (.int 1) ∧ tF h2 111 6 = .int (tvI (tF h 111 6) + 1) ∧ tA h2 125 = (fun j => if j = c.toNatClampNeg then o else tA h 125 j) ∧ tA h2 126 = (fun j => if j = c.toNatClampNeg then m else tA h 126 j) ∧ tA h2 128 = (fun j => if j = (tvI (tF h 111 6)).toNatClampNeg then c else tA h 128 j) ∧ tA h2 129 = (fun j => if j = (tvI (tF h 111 6)).toNatClampNeg then o else tA h 129 j) ∧ tA h2 130 = (fun j => if j = (tvI (tF h 111 6)).toNatClampNeg then m else tA h 130 j) ∧ tA h2 131 = (fun j => if j = (tvI (tF h 111 6)).toNatClampNeg then tvI (tF h 111 1) else tA h 131 j)) ∨ (¬ ((0 ≤ c.toInt ∧ c.toInt < (tvI (tF h 111 5)).toInt) ∧ (0 ≤ o.toInt ∧ o.toInt < (tvI (tF h 111 2)).toInt) ∧ o.toInt ≠ (tA h 125 c.toNatClampNeg).toInt ∧ ((tA h 126 c.toNatClampNeg).toInt ≤ m.toInt ∧ m.toInt ≤ (tvI (tF h 111 1)).toInt) ∧ (tvI (tF h 111 6)).toInt ≠ 400) ∧ w = some (.int 0) ∧ h2 = h)
theorem g_sell {G : zG} (hG : G.1 = zProg) {h : zH} {c o m : Int32} (hs : tSh h) (hk5 : 0 ≤ (tvI (tF h 111 5)).toInt) (hk2 : 0 ≤ (tvI (tF h 111 2)).toInt) : tC zTt G 185 [.ref 111, .int c, .int o, .int m] h (ph_sem c o m h) := by
  refine tC_in (by rw [hG]; rfl) (fun dp => ?_)
  refine tw_aload rfl rfl ?_
  refine tw_getS rfl (hi_111_6 hs) ?_
  refine tw_push rfl ?_
  refine tw_ic_eq rfl (fun q98 => ?_) (fun q98 => ?_)
  · try dsimp only [tvI_i, tvJ_j, tvR_r] at q98
    have q98i := zeqi (Y := 400) (by decide) q98
    refine tw_push rfl ?_
    exact tw_iret rfl (Or.inr ⟨by omega, rfl, rfl⟩)
  · try dsimp only [tvI_i, tvJ_j, tvR_r] at q98
    have q98i := zneq (Y := 400) (by decide) q98
    refine tw_aload rfl rfl ?_
    refine tw_iload rfl rfl ?_
    refine tw_virt1 rfl (g_isCar hG hs hk5) (fun w9 h9 p99 => ?_)
    obtain ⟨⟨p99, rfl⟩ | ⟨p99, rfl⟩, rfl⟩ := p99
    · try dsimp only [tvI_i, tvJ_j, tvR_r] at p99
      refine tw_if_eq rfl (fun z => absurd z (by decide)) (fun _ => ?_)
      refine tw_aload rfl rfl ?_
      refine tw_iload rfl rfl ?_
      refine tw_virt1 rfl (g_isPerson hG hs hk2) (fun w9 h9 p100 => ?_)
      obtain ⟨⟨p100, rfl⟩ | ⟨p100, rfl⟩, rfl⟩ := p100
      · try dsimp only [tvI_i, tvJ_j, tvR_r] at p100
        refine tw_if_eq rfl (fun z => absurd z (by decide)) (fun _ => ?_)
        refine tw_aload rfl rfl ?_
        refine tw_getS rfl (hs_111_20 hs) ?_
        refine tw_iload rfl rfl ?_
        refine tw_iald rfl (fun f101 => ?_)
        refine tw_iload rfl rfl ?_
        refine tw_ic_eq rfl (fun q102 => ?_) (fun q102 => ?_)
        · try dsimp only [tvI_i, tvJ_j, tvR_r] at q102
          have q102i := zeqi rfl q102
          refine tw_push rfl ?_
          exact tw_iret rfl (Or.inr ⟨by omega, rfl, rfl⟩)
        · try dsimp only [tvI_i, tvJ_j, tvR_r] at q102
          have q102i := zneq rfl q102
          refine tw_iload rfl rfl ?_
          refine tw_i2l rfl ?_
          refine tw_aload rfl rfl ?_
          refine tw_getS rfl (hs_111_21 hs) ?_
          refine tw_iload rfl rfl ?_
          refine tw_iald rfl (fun f103 => ?_)
          refine tw_i2l rfl ?_
          refine tw_aload rfl rfl ?_
          refine tw_getS rfl (hi_111_1 hs) ?_
          refine tw_i2l rfl ?_
          refine tw_stat3 rfl (f_in hG    (Int32.toInt_toInt64 _) (Int32.toInt_toInt64 _) (Int32.toInt_toInt64 _)) (fun w9 h9 p104 => ?_)
          obtain ⟨⟨p104, rfl⟩ | ⟨p104, rfl⟩, rfl⟩ := p104
          · try dsimp only [tvI_i, tvJ_j, tvR_r] at p104
            refine tw_if_ne rfl (fun _ => ?_) (fun z => absurd z (by decide))
            refine tw_aload rfl rfl ?_
            refine tw_getS rfl (hs_111_23 hs) ?_
            refine tw_aload rfl rfl ?_
            refine tw_getS rfl (hi_111_6 hs) ?_
            refine tw_iload rfl rfl ?_
            refine tw_iast rfl (fun f105 => ?_)
            refine tw_aload rfl rfl ?_
            refine tw_getS rfl (hs_111_24 (tSh_SA hs)) ?_
            refine tw_aload rfl rfl ?_
            refine tw_getS rfl (tF_a (hi_111_6 hs)) ?_
            refine tw_iload rfl rfl ?_
            refine tw_iast rfl (fun f106 => ?_)
            refine tw_aload rfl rfl ?_
            refine tw_getS rfl (hs_111_25 (tSh_SA (tSh_SA hs))) ?_
            refine tw_aload rfl rfl ?_
            refine tw_getS rfl (tF_a (tF_a (hi_111_6 hs))) ?_
            refine tw_iload rfl rfl ?_
            refine tw_iast rfl (fun f107 => ?_)
            refine tw_aload rfl rfl ?_
            refine tw_getS rfl (hs_111_26 (tSh_SA (tSh_SA (tSh_SA hs)))) ?_
            refine tw_aload rfl rfl ?_
            refine tw_getS rfl (tF_a (tF_a (tF_a (hi_111_6 hs)))) ?_
            refine tw_aload rfl rfl ?_
            refine tw_getS rfl (tF_a (tF_a (tF_a (hi_111_1 hs)))) ?_
            refine tw_iast rfl (fun f108 => ?_)
            refine tw_aload rfl rfl ?_
            refine tw_dup rfl ?_
            refine tw_getS rfl (tF_a (tF_a (tF_a (tF_a (hi_111_6 hs))))) ?_
            refine tw_push rfl ?_
            refine tw_iadd rfl ?_
            refine tw_put rfl (fun f109 => ?_)
            refine tw_aload rfl rfl ?_
            refine tw_getS rfl (hs_111_20 (hw_111_6 f109 (tSh_SA (tSh_SA (tSh_SA (tSh_SA hs)))))) ?_
            refine tw_iload rfl rfl ?_
            refine tw_iload rfl rfl ?_
            refine tw_iast rfl (fun f110 => ?_)
            refine tw_aload rfl rfl ?_
            refine tw_getS rfl (hs_111_21 (tSh_SA (hw_111_6 f109 (tSh_SA (tSh_SA (tSh_SA (tSh_SA hs))))))) ?_
            refine tw_iload rfl rfl ?_
            refine tw_iload rfl rfl ?_
            refine tw_iast rfl (fun f111 => ?_)
            refine tw_push rfl ?_
            exact tw_iret rfl (Or.inl ⟨by omega, rfl, (tF_a (tF_a (tF_same f109))), (tA_n (by decide) (tA_st f110 (tA_ff (tA_n (by decide) (tA_n (by decide) (tA_n (by decide) (tA_n (by decide) rfl))))))), (tA_st f111 (tA_n (by decide) (tA_ff (tA_n (by decide) (tA_n (by decide) (tA_n (by decide) (tA_n (by decide) rfl))))))), (tA_n (by decide) (tA_n (by decide) (tA_ff (tA_n (by decide) (tA_n (by decide) (tA_n (by decide) (tA_st f105 rfl))))))), (tA_n (by decide) (tA_n (by decide) (tA_ff (tA_n (by decide) (tA_n (by decide) (tA_st f106 (tA_n (by decide) rfl))))))), (tA_n (by decide) (tA_n (by decide) (tA_ff (tA_n (by decide) (tA_st f107 (tA_n (by decide) (tA_n (by decide) rfl))))))), (tA_n (by decide) (tA_n (by decide) (tA_ff (tA_st f108 (tA_n (by decide) (tA_n (by decide) (tA_n (by decide) rfl)))))))⟩)
          · try dsimp only [tvI_i, tvJ_j, tvR_r] at p104
            refine tw_if_ne rfl (fun z => absurd z (by decide)) (fun _ => ?_)
            refine tw_push rfl ?_
            exact tw_iret rfl (Or.inr ⟨by omega, rfl, rfl⟩)
      · try dsimp only [tvI_i, tvJ_j, tvR_r] at p100
        refine tw_if_eq rfl (fun _ => ?_) (fun z => absurd z (by decide))
        refine tw_push rfl ?_
        exact tw_iret rfl (Or.inr ⟨by omega, rfl, rfl⟩)
    · try dsimp only [tvI_i, tvJ_j, tvR_r] at p99
      refine tw_if_eq rfl (fun _ => ?_) (fun z => absurd z (by decide))
      refine tw_push rfl ?_
      exact tw_iret rfl (Or.inr ⟨by omega, rfl, rfl⟩)
theorem a_sell {xs : Nat → Int32} {τ τ2 : List Nat} {c o m : Int32} {h h2 h3 : zH} {w w2 : Option Value} (hB : zBs xs τ h) (hB2 : zBs xs τ2 h2) (hC : R_cars h) (hP : R_people h) (hW : R_now h) (hA : R_sales h) (hL : R_cl h) (hO : R_cown h) (hS : R_csold h) (h_scar : R_scar h) (o_scar : tA h2 128 = tA h 128) (t_scar : tA h3 40 = tA h2 40) (h_sto : R_sto h) (o_sto : tA h2 129 = tA h 129) (t_sto : tA h3 41 = tA h2 41) (h_sin : R_sin h) (o_sin : tA h2 130 = tA h 130) (t_sin : tA h3 42 = tA h2 42) (h_stold : R_stold h) (o_stold : tA h2 131 = tA h 131) (t_stold : tA h3 43 = tA h2 43) (e1 : tF h2 111 5 = tF h 111 5) (e3 : tF h2 111 2 = tF h 111 2) (e4 : tF h2 111 1 = tF h 111 1) (e5 : tF h2 111 6 = tF h 111 6) (o1 : tA h2 125 = tA h 125) (o2 : tA h2 126 = tA h 126) (e2 : tF h3 36 9 = tF h2 36 9) (e6 : tO h3 39 = tO h2 39) (e8 : tO h2 39 = tO h 39) (e9 : tF h3 36 4 = tF h2 36 4) (e11 : tF h2 36 4 = tF h 36 4) (e7 : ∀ i r f : Nat, (i : Int) < (tvI (tF h2 36 4)).toInt → tO h2 39 i = some r → tF h3 r f = tF h2 r f) (k1 : ph_sec c o m h w h2) (k2 : ph_sem c o m h2 w2 h3) : w2 = w ∧ R_sales h3 ∧ R_cown h3 ∧ R_csold h3 ∧ R_scar h3 ∧ R_sto h3 ∧ R_sin h3 ∧ R_stold h3 := by
  have hC0 := hC
  have hA0 := hA
  unfold R_cars at hC0
  unfold R_people at hP
  unfold R_now at hW
  unfold R_sales at hA0
  unfold ph_sem at k2
  rw [e1, e3, e4, e5, o1, o2, o_scar, o_sto, o_sin, o_stold, ← hC0, ← hP, ← hW, ← hA0] at k2
  rw [e11, e8] at e7
  rcases k1 with ⟨c1, rfl, r, hr, f1, f2, f3, f4, f_scar, f_sto, f_sin, f_stold⟩ | ⟨c1, rfl, rfl⟩ <;> rcases k2 with ⟨c2, rfl, q1, q2, q3, q_scar, q_sto, q_sin, q_stold⟩ | ⟨c2, rfl, rfl⟩
  · have hi : ((c.toNatClampNeg : Nat) : Int) < (tvI (tF h 36 4)).toInt := by rw [zclE]; omega
    have key : ∀ f x P, (f = 4 ∨ f = 5) → tF h2 r f = .int x → tA h3 P = (fun j => if j = c.toNatClampNeg then x else tA h P j) → (∀ i r : Nat, (i : Int) < (tvI (tF h 36 4)).toInt → tO h 39 i = some r → tF h r f = .int (tA h P i)) → ∀ i r : Nat, (i : Int) < (tvI (tF h3 36 4)).toInt → tO h3 39 i = some r → tF h3 r f = .int (tA h3 P i) := by
      intro f x P hf hx hP3 hold i s hi2 hs
      rw [e9, e11] at hi2
      rw [e6, e8] at hs
      rw [e7 i s f hi2 hs, hP3]
      dsimp only
      by_cases z : i = c.toNatClampNeg
      · subst z
        rw [hr] at hs
        cases hs
        rw [if_pos rfl]
        exact hx
      · rw [if_neg z, f4 s f (fun y => car_ne hB hi2 hs (p := 36) (t := 12) rfl (by decide) y.1) (fun y => z (hL.2 _ _ hi2 hi (by rw [hs, hr, y.1])))]
        exact hold i s hi2 hs
    refine ⟨rfl, ?_, key 4 o 125 (Or.inl rfl) f2 q2 hO, key 5 m 126 (Or.inr rfl) f3 q3 hS, ?_, ?_, ?_, ?_⟩
    · unfold R_sales; rw [e2, f1, q1]
    · unfold R_scar at *; rw [t_scar, f_scar, q_scar, ← h_scar]
    · unfold R_sto at *; rw [t_sto, f_sto, q_sto, ← h_sto]
    · unfold R_sin at *; rw [t_sin, f_sin, q_sin, ← h_sin]
    · unfold R_stold at *; rw [t_stold, f_stold, q_stold, ← h_stold]
  · exact absurd c1 c2
  · exact absurd c2 c1
  · exact ⟨rfl, hA, hO, hS, h_scar, h_sto, h_sin, h_stold⟩
theorem zof {x : Int32} {n : Nat} (h : x.toInt = n) : x = Int32.ofNat n := by
  have hx := Int32.toInt_lt x
  exact Int32.toInt_inj.mp (h.trans (yofN (by omega)).symm)
theorem zof_cl {x : Int32} {n : Nat} (h : x.toInt = n) : x.toNatClampNeg = n := by rw [zclE, h]; rfl
theorem zincN {x : Int32} {n : Nat} (h : x.toInt = n) (hn : n < 2147483647) : (x + 1).toInt = ((n + 1 : Nat) : Int) := by
  rw [Int32.toInt_add, h]
  exact Int.bmod_eq_of_le (by show (-2147483648 : Int) ≤ (n : Int) + 1; omega) (by show (n : Int) + 1 < (2147483648 : Int); omega)
theorem zen {x y : Int32} {n : Nat} (hx : x.toInt = n) (hn : (n : Int) ≤ y.toInt) (hq : y.toInt ≤ x.toInt) : n = y.toNatClampNeg := by
  rw [zclE]
  omega
theorem zincL {x y : Int32} {n : Nat} (h : x.toInt = n) (hy : x.toInt < y.toInt) : (x + 1).toInt = ((n + 1 : Nat) : Int) := zincN h (by have := Int32.toInt_lt y; omega)
/-- the owner that the first n sales leave -/
def sO (ca to mo ti : Nat → Int32) (c m k d : Int32) : Nat → Int32
  | 0 => d
  | n + 1 => if ca n = c ∧ (ti n).toInt ≤ k.toInt ∧ (mo n).toInt ≤ m.toInt then to n else sO ca to mo ti c m k d n
theorem sO_y {ca to mo ti : Nat → Int32} {c m k d x : Int32} {n : Nat} (hx : x.toNatClampNeg = n) (h1 : ca x.toNatClampNeg = c) (h2 : (ti x.toNatClampNeg).toInt ≤ k.toInt) (h3 : (mo x.toNatClampNeg).toInt ≤ m.toInt) : sO ca to mo ti c m k d (n + 1) = to x.toNatClampNeg := by
  subst hx
  conv => lhs; unfold sO
  rw [if_pos ⟨h1, h2, h3⟩]
theorem sO_n {ca to mo ti : Nat → Int32} {c m k d x : Int32} {n : Nat} (hx : x.toNatClampNeg = n) (h : ¬ (ca x.toNatClampNeg = c ∧ (ti x.toNatClampNeg).toInt ≤ k.toInt ∧ (mo x.toNatClampNeg).toInt ≤ m.toInt)) : sO ca to mo ti c m k d (n + 1) = sO ca to mo ti c m k d n := by
  subst hx
  conv => lhs; unfold sO
  rw [if_neg h]
theorem zdec2 {x : Int32} (h : 0 ≤ x.toInt) : (x + (-1)).toInt = x.toInt - 1 := by
  have := Int32.toInt_lt x
  rw [Int32.toInt_add]
  exact Int.bmod_eq_of_le (by show (-2147483648 : Int) ≤ x.toInt + -1; omega) (by show x.toInt + -1 < (2147483648 : Int); omega)
theorem zdn1 {x : Int32} {j : Nat} (hx : x.toInt + 1 = ((j + 1 : Nat) : Int)) : (x + (-1)).toInt + 1 = (j : Int) := by
  rw [zdec2 (by omega)]
  omega
theorem zdn2 {x : Int32} {j : Nat} (hx : x.toInt + 1 = ((j + 1 : Nat) : Int)) : x.toNatClampNeg = j := by
  rw [zclE]
  omega
theorem f_ownerIn {G : zG} (hG : G.1 = zProg) {h : zH} {c m k : Int32} (hs : tSh h) (hL : R_cl h) (hg : ∀ i r : Nat, (i : Int) < (tvI (tF h 36 4)).toInt → tO h 39 i = some r → 182 ≤ r) (hM : R_cmade h) (hT : R_ctl h) (hF : R_cfo h) (hc : 0 ≤ c.toInt ∧ c.toInt < (tvI (tF h 36 4)).toInt) (h0 : 0 ≤ (tvI (tF h 36 9)).toInt) : tC zTt G 22 [.ref 36, .int c, .int m, .int k] h (fun w h2 => w = some (.int (sO (tA h 40) (tA h 41) (tA h 42) (tA h 43) c m k (tA h 124 c.toNatClampNeg) (tvI (tF h 36 9)).toNatClampNeg)) ∧ h2 = h) := by
  refine tC_in (by rw [hG]; rfl) (fun dp => ?_)
  refine tw_aload rfl rfl ?_
  refine tw_getS rfl (hi_36_9 hs) ?_
  refine tw_push rfl ?_
  refine tw_isub rfl ?_
  refine tw_istore rfl ?_
  refine tG_loop (zW_mono zTt G dp) (zW_conj zTt G dp) (V := fun pc L st h9 _ _ => pc = 8 ∧ st = [] ∧ h = h9 ∧ ∃ (n : Nat) (x : Int32), x.toInt + 1 = n ∧ sO (tA h 40) (tA h 41) (tA h 42) (tA h 43) c m k (tA h 124 c.toNatClampNeg) (tvI (tF h 36 9)).toNatClampNeg = sO (tA h 40) (tA h 41) (tA h 42) (tA h 43) c m k (tA h 124 c.toNatClampNeg) n ∧ L = [some (.ref 36), some (.int c), some (.int m), some (.int k), some (.int x)]) ?_ (⟨rfl, rfl, rfl, (tvI (tF h 36 9)).toNatClampNeg, tvI (tF h 36 9) - 1, (by have := zsub1 h0; rw [this, zclE]; omega), rfl, rfl⟩)
  rintro _ _ _ _ _ _ ⟨rfl, rfl, rfl, n, x, hx, hv, rfl⟩
  refine tw_iload rfl rfl ?_
  refine tw_if_lt rfl (fun q112 => ?_) (fun q112 => ?_)
  · try dsimp only [tvI_i, tvJ_j, tvR_r] at q112
    refine tw_aload rfl rfl ?_
    refine tw_iload rfl rfl ?_
    refine tw_virt1 rfl (f_carAtR hG hs hL hg) (fun w9 h9 p113 => ?_)
    obtain ⟨⟨rp113, p113, p113r, p113g, rfl⟩ | ⟨p113, rfl⟩, rfl⟩ := p113
    · refine tw_astore rfl ?_
      refine tw_aload rfl rfl ?_
      refine tw_ifnn rfl (fun z => by cases z) (fun _ _ => ?_)
      refine tw_aload rfl rfl ?_
      refine tw_getS rfl (hF _ _ p113.2 p113r) ?_
      obtain rfl : n = 0 := by omega
      exact tw_iret rfl ⟨congrArg (fun z => some (Value.int z)) hv.symm, rfl⟩
    · refine tw_astoreN rfl ?_
      refine tw_aload rfl rfl ?_
      refine tw_ifnn rfl (fun _ => ?_) (fun _ z => by cases z)
      refine tw_push rfl ?_
      refine tw_goto rfl ?_
      exact absurd hc p113
  · try dsimp only [tvI_i, tvJ_j, tvR_r] at q112
    refine tw_aload rfl rfl ?_
    refine tw_getS rfl (hs_36_5 hs) ?_
    refine tw_iload rfl rfl ?_
    refine tw_iald rfl (fun f118 => ?_)
    refine tw_iload rfl rfl ?_
    refine tw_ic_ne rfl (fun q119 => ?_) (fun q119 => ?_)
    · try dsimp only [tvI_i, tvJ_j, tvR_r] at q119
      have q119i := zneq rfl q119
      refine tw_iinc rfl rfl ?_
      refine tw_goto rfl ?_
      obtain ⟨j, rfl⟩ : ∃ j, n = j + 1 := ⟨n - 1, by omega⟩
      exact tG_cut (zW_mono zTt G dp) (Or.inr ⟨rfl, rfl, rfl, j, _, zdn1 hx, hv.trans (sO_n (ca := tA _ 40) (to := tA _ 41) (mo := tA _ 42) (ti := tA _ 43) (c := c) (m := m) (k := k) (d := tA _ 124 c.toNatClampNeg) (x := x) (zdn2 hx) (fun z => q119 z.1)), rfl⟩)
    · try dsimp only [tvI_i, tvJ_j, tvR_r] at q119
      have q119i := zeqi rfl q119
      refine tw_aload rfl rfl ?_
      refine tw_getS rfl (hs_36_8 hs) ?_
      refine tw_iload rfl rfl ?_
      refine tw_iald rfl (fun f120 => ?_)
      refine tw_iload rfl rfl ?_
      refine tw_ic_gt rfl (fun q121 => ?_) (fun q121 => ?_)
      · try dsimp only [tvI_i, tvJ_j, tvR_r] at q121
        refine tw_iinc rfl rfl ?_
        refine tw_goto rfl ?_
        obtain ⟨j, rfl⟩ : ∃ j, n = j + 1 := ⟨n - 1, by omega⟩
        exact tG_cut (zW_mono zTt G dp) (Or.inr ⟨rfl, rfl, rfl, j, _, zdn1 hx, hv.trans (sO_n (ca := tA _ 40) (to := tA _ 41) (mo := tA _ 42) (ti := tA _ 43) (c := c) (m := m) (k := k) (d := tA _ 124 c.toNatClampNeg) (x := x) (zdn2 hx) (fun z => absurd z.2.1 (by omega))), rfl⟩)
      · try dsimp only [tvI_i, tvJ_j, tvR_r] at q121
        refine tw_aload rfl rfl ?_
        refine tw_getS rfl (hs_36_7 hs) ?_
        refine tw_iload rfl rfl ?_
        refine tw_iald rfl (fun f122 => ?_)
        refine tw_iload rfl rfl ?_
        refine tw_ic_gt rfl (fun q123 => ?_) (fun q123 => ?_)
        · try dsimp only [tvI_i, tvJ_j, tvR_r] at q123
          refine tw_iinc rfl rfl ?_
          refine tw_goto rfl ?_
          obtain ⟨j, rfl⟩ : ∃ j, n = j + 1 := ⟨n - 1, by omega⟩
          exact tG_cut (zW_mono zTt G dp) (Or.inr ⟨rfl, rfl, rfl, j, _, zdn1 hx, hv.trans (sO_n (ca := tA _ 40) (to := tA _ 41) (mo := tA _ 42) (ti := tA _ 43) (c := c) (m := m) (k := k) (d := tA _ 124 c.toNatClampNeg) (x := x) (zdn2 hx) (fun z => absurd z.2.2 (by omega))), rfl⟩)
        · try dsimp only [tvI_i, tvJ_j, tvR_r] at q123
          refine tw_aload rfl rfl ?_
          refine tw_getS rfl (hs_36_6 hs) ?_
          refine tw_iload rfl rfl ?_
          refine tw_iald rfl (fun f124 => ?_)
          obtain ⟨j, rfl⟩ : ∃ j, n = j + 1 := ⟨n - 1, by omega⟩
          exact tw_iret rfl ⟨congrArg (fun z => some (Value.int z)) (hv.trans (sO_y (ca := tA _ 40) (to := tA _ 41) (mo := tA _ 42) (ti := tA _ 43) (c := c) (m := m) (k := k) (d := tA _ 124 c.toNatClampNeg) (x := x) (zdn2 hx) q119 (by omega) (by omega))).symm, rfl⟩
theorem g_ownerIn {G : zG} (hG : G.1 = zProg) {h : zH} {c m k : Int32} (hs : tSh h) (h0 : 0 ≤ (tvI (tF h 111 6)).toInt) : tC zTt G 186 [.ref 111, .int c, .int m, .int k] h (fun w h2 => w = some (.int (sO (tA h 128) (tA h 129) (tA h 130) (tA h 131) c m k (tA h 124 c.toNatClampNeg) (tvI (tF h 111 6)).toNatClampNeg)) ∧ h2 = h) := by
  refine tC_in (by rw [hG]; rfl) (fun dp => ?_)
  refine tw_aload rfl rfl ?_
  refine tw_getS rfl (hs_111_19 hs) ?_
  refine tw_iload rfl rfl ?_
  refine tw_iald rfl (fun f125 => ?_)
  refine tw_istore rfl ?_
  refine tw_push rfl ?_
  refine tw_istore rfl ?_
  refine tG_loop (zW_mono zTt G dp) (zW_conj zTt G dp) (V := fun pc L st h9 _ _ => pc = 11 ∧ st = [] ∧ h = h9 ∧ ∃ (n : Nat) (x y : Int32), x.toInt = n ∧ (n : Int) ≤ (tvI (tF h 111 6)).toInt ∧ y = sO (tA h 128) (tA h 129) (tA h 130) (tA h 131) c m k (tA h 124 c.toNatClampNeg) n ∧ L = [some (.ref 111), some (.int c), some (.int m), some (.int k), some (.int y), some (.int x)]) ?_ (⟨rfl, rfl, rfl, 0, 0, _, rfl, h0, rfl, rfl⟩)
  rintro _ _ _ _ _ _ ⟨rfl, rfl, rfl, n, x, _, hx, hn, rfl, rfl⟩
  refine tw_iload rfl rfl ?_
  refine tw_aload rfl rfl ?_
  refine tw_getS rfl (hi_111_6 hs) ?_
  refine tw_ic_ge rfl (fun q126 => ?_) (fun q126 => ?_)
  · try dsimp only [tvI_i, tvJ_j, tvR_r] at q126
    refine tw_iload rfl rfl ?_
    exact tw_iret rfl ⟨by rw [show (tvI (tF _ 111 6)).toNatClampNeg = n from by rw [zclE]; omega] <;> rfl, rfl⟩
  · try dsimp only [tvI_i, tvJ_j, tvR_r] at q126
    refine tw_aload rfl rfl ?_
    refine tw_getS rfl (hs_111_23 hs) ?_
    refine tw_iload rfl rfl ?_
    refine tw_iald rfl (fun f127 => ?_)
    refine tw_iload rfl rfl ?_
    refine tw_ic_ne rfl (fun q128 => ?_) (fun q128 => ?_)
    · try dsimp only [tvI_i, tvJ_j, tvR_r] at q128
      have q128i := zneq rfl q128
      refine tw_iload rfl rfl ?_
      refine tw_istore rfl ?_
      refine tw_iinc rfl rfl ?_
      refine tw_goto rfl ?_
      exact tG_cut (zW_mono zTt G dp) (Or.inr ⟨rfl, rfl, rfl, n + 1, _, _, zincL hx q126, by omega, (sO_n (ca := tA _ 128) (to := tA _ 129) (mo := tA _ 130) (ti := tA _ 131) (c := c) (m := m) (k := k) (d := tA _ 124 c.toNatClampNeg) (zof_cl hx) (fun z => q128 z.1)).symm, rfl⟩)
    · try dsimp only [tvI_i, tvJ_j, tvR_r] at q128
      have q128i := zeqi rfl q128
      refine tw_aload rfl rfl ?_
      refine tw_getS rfl (hs_111_26 hs) ?_
      refine tw_iload rfl rfl ?_
      refine tw_iald rfl (fun f129 => ?_)
      refine tw_iload rfl rfl ?_
      refine tw_ic_gt rfl (fun q130 => ?_) (fun q130 => ?_)
      · try dsimp only [tvI_i, tvJ_j, tvR_r] at q130
        refine tw_iload rfl rfl ?_
        refine tw_istore rfl ?_
        refine tw_iinc rfl rfl ?_
        refine tw_goto rfl ?_
        exact tG_cut (zW_mono zTt G dp) (Or.inr ⟨rfl, rfl, rfl, n + 1, _, _, zincL hx q126, by omega, (sO_n (ca := tA _ 128) (to := tA _ 129) (mo := tA _ 130) (ti := tA _ 131) (c := c) (m := m) (k := k) (d := tA _ 124 c.toNatClampNeg) (zof_cl hx) (fun z => absurd z.2.1 (by omega))).symm, rfl⟩)
      · try dsimp only [tvI_i, tvJ_j, tvR_r] at q130
        refine tw_aload rfl rfl ?_
        refine tw_getS rfl (hs_111_25 hs) ?_
        refine tw_iload rfl rfl ?_
        refine tw_iald rfl (fun f131 => ?_)
        refine tw_iload rfl rfl ?_
        refine tw_ic_gt rfl (fun q132 => ?_) (fun q132 => ?_)
        · try dsimp only [tvI_i, tvJ_j, tvR_r] at q132
          refine tw_iload rfl rfl ?_
          refine tw_istore rfl ?_
          refine tw_iinc rfl rfl ?_
          refine tw_goto rfl ?_
          exact tG_cut (zW_mono zTt G dp) (Or.inr ⟨rfl, rfl, rfl, n + 1, _, _, zincL hx q126, by omega, (sO_n (ca := tA _ 128) (to := tA _ 129) (mo := tA _ 130) (ti := tA _ 131) (c := c) (m := m) (k := k) (d := tA _ 124 c.toNatClampNeg) (zof_cl hx) (fun z => absurd z.2.2 (by omega))).symm, rfl⟩)
        · try dsimp only [tvI_i, tvJ_j, tvR_r] at q132
          refine tw_aload rfl rfl ?_
          refine tw_getS rfl (hs_111_24 hs) ?_
          refine tw_iload rfl rfl ?_
          refine tw_iald rfl (fun f133 => ?_)
          refine tw_goto rfl ?_
          refine tw_istore rfl ?_
          refine tw_iinc rfl rfl ?_
          refine tw_goto rfl ?_
          exact tG_cut (zW_mono zTt G dp) (Or.inr ⟨rfl, rfl, rfl, n + 1, _, _, zincL hx q126, by omega, (sO_y (ca := tA _ 128) (to := tA _ 129) (mo := tA _ 130) (ti := tA _ 131) (c := c) (m := m) (k := k) (d := tA _ 124 c.toNatClampNeg) (zof_cl hx) q128 (by omega) (by omega)).symm, rfl⟩)
def ph_ow (a b p q A B C D : Nat) (c m k : Int32) (h : zH) (w : Option Value) (h2 : zH) : Prop := (((0 ≤ c.toInt ∧ c.toInt < (tvI (tF h a b)).toInt) ∧ (0 ≤ m.toInt ∧ m.toInt ≤ 599) ∧ (0 ≤ k.toInt ∧ k.toInt ≤ 599) ∧ (tA h 122 c.toNatClampNeg).toInt ≤ m.toInt ∧ (tA h 123 c.toNatClampNeg).toInt ≤ k.toInt) ∧ w = some (.int (sO (tA h A) (tA h B) (tA h C) (tA h D) c m k (tA h 124 c.toNatClampNeg) (tvI (tF h p q)).toNatClampNeg)) ∧ h2 = h) ∨ (¬ ((0 ≤ c.toInt ∧ c.toInt < (tvI (tF h a b)).toInt) ∧ (0 ≤ m.toInt ∧ m.toInt ≤ 599) ∧ (0 ≤ k.toInt ∧ k.toInt ≤ 599) ∧ (tA h 122 c.toNatClampNeg).toInt ≤ m.toInt ∧ (tA h 123 c.toNatClampNeg).toInt ≤ k.toInt) ∧ w = some (.int (-1)) ∧ h2 = h)
theorem f_owner {G : zG} (hG : G.1 = zProg) {h : zH} {c m k : Int32} (hs : tSh h) (hL : R_cl h) (hg : ∀ i r : Nat, (i : Int) < (tvI (tF h 36 4)).toInt → tO h 39 i = some r → 182 ≤ r) (hM : R_cmade h) (hT : R_ctl h) (hF : R_cfo h) (h0 : 0 ≤ (tvI (tF h 36 9)).toInt) : tC zTt G 118 [.ref 0, .int c, .int m, .int k] h (ph_ow 36 4 36 9 40 41 42 43 c m k h) := by
  refine tC_in (by rw [hG]; rfl) (fun dp => ?_)
  refine tw_aload rfl rfl ?_
  refine tw_getS rfl (hs_0_1 hs) ?_
  refine tw_iload rfl rfl ?_
  refine tw_virt1 rfl (f_carAtR hG hs hL hg) (fun w9 h9 p134 => ?_)
  obtain ⟨⟨rp134, p134, p134r, p134g, rfl⟩ | ⟨p134, rfl⟩, rfl⟩ := p134
  · refine tw_astore rfl ?_
    refine tw_aload rfl rfl ?_
    refine tw_ifnull rfl (fun z => by cases z) (fun _ _ => ?_)
    refine tw_iload rfl rfl ?_
    refine tw_stat1 rfl (f_isMonth hG) (fun w9 h9 p137 => ?_)
    obtain ⟨⟨p137, rfl⟩ | ⟨p137, rfl⟩, rfl⟩ := p137
    · try dsimp only [tvI_i, tvJ_j, tvR_r] at p137
      refine tw_if_eq rfl (fun z => absurd z (by decide)) (fun _ => ?_)
      refine tw_iload rfl rfl ?_
      refine tw_stat1 rfl (f_isMonth hG) (fun w9 h9 p138 => ?_)
      obtain ⟨⟨p138, rfl⟩ | ⟨p138, rfl⟩, rfl⟩ := p138
      · try dsimp only [tvI_i, tvJ_j, tvR_r] at p138
        refine tw_if_eq rfl (fun z => absurd z (by decide)) (fun _ => ?_)
        refine tw_iload rfl rfl ?_
        refine tw_aload rfl rfl ?_
        refine tw_getS rfl (hM _ _ p134.2 p134r) ?_
        refine tw_ic_lt rfl (fun q139 => ?_) (fun q139 => ?_)
        · try dsimp only [tvI_i, tvJ_j, tvR_r] at q139
          refine tw_push rfl ?_
          exact tw_iret rfl (Or.inr ⟨by omega, rfl, rfl⟩)
        · try dsimp only [tvI_i, tvJ_j, tvR_r] at q139
          refine tw_iload rfl rfl ?_
          refine tw_aload rfl rfl ?_
          refine tw_getS rfl (hT _ _ p134.2 p134r) ?_
          refine tw_ic_ge rfl (fun q140 => ?_) (fun q140 => ?_)
          · try dsimp only [tvI_i, tvJ_j, tvR_r] at q140
            refine tw_aload rfl rfl ?_
            refine tw_getS rfl (hs_0_1 hs) ?_
            refine tw_iload rfl rfl ?_
            refine tw_iload rfl rfl ?_
            refine tw_iload rfl rfl ?_
            refine tw_virt3 rfl (f_ownerIn hG hs hL hg hM hT hF (by omega) h0) (fun w9 h9 p141 => ?_)
            obtain ⟨rfl, rfl⟩ := p141
            exact tw_iret rfl (Or.inl ⟨by omega, rfl, rfl⟩)
          · try dsimp only [tvI_i, tvJ_j, tvR_r] at q140
            refine tw_push rfl ?_
            exact tw_iret rfl (Or.inr ⟨by omega, rfl, rfl⟩)
      · try dsimp only [tvI_i, tvJ_j, tvR_r] at p138
        refine tw_if_eq rfl (fun _ => ?_) (fun z => absurd z (by decide))
        refine tw_push rfl ?_
        exact tw_iret rfl (Or.inr ⟨by omega, rfl, rfl⟩)
    · try dsimp only [tvI_i, tvJ_j, tvR_r] at p137
      refine tw_if_eq rfl (fun _ => ?_) (fun z => absurd z (by decide))
      refine tw_push rfl ?_
      exact tw_iret rfl (Or.inr ⟨by omega, rfl, rfl⟩)
  · refine tw_astoreN rfl ?_
    refine tw_aload rfl rfl ?_
    refine tw_ifnull rfl (fun _ => ?_) (fun _ z => by cases z)
    refine tw_push rfl ?_
    exact tw_iret rfl (Or.inr ⟨by omega, rfl, rfl⟩)
theorem g_isMonth {G : zG} (hG : G.1 = zProg) {h : zH} {n : Int32} : tC zTt G 172 [.int n] h (fun w h2 => tBo (0 ≤ n.toInt ∧ n.toInt ≤ 599) w ∧ h2 = h) := by
  refine tC_in (by rw [hG]; rfl) (fun dp => ?_)
  refine tw_iload rfl rfl ?_
  refine tw_i2l rfl ?_
  refine tw_push rfl ?_
  refine tw_push rfl ?_
  refine tw_stat3 rfl (f_in hG  (LO := 0) (HI := 599) (Int32.toInt_toInt64 _) (by decide) (by decide)) (fun w9 h9 p144 => ?_)
  obtain ⟨⟨p144, rfl⟩ | ⟨p144, rfl⟩, rfl⟩ := p144
  · try dsimp only [tvI_i, tvJ_j, tvR_r] at p144
    exact tw_iret rfl ⟨Or.inl ⟨p144, rfl⟩, rfl⟩
  · try dsimp only [tvI_i, tvJ_j, tvR_r] at p144
    exact tw_iret rfl ⟨Or.inr ⟨p144, rfl⟩, rfl⟩
theorem g_owner {G : zG} (hG : G.1 = zProg) {h : zH} {c m k : Int32} (hs : tSh h) (h0 : 0 ≤ (tvI (tF h 111 6)).toInt) (hk5 : 0 ≤ (tvI (tF h 111 5)).toInt) : tC zTt G 187 [.ref 111, .int c, .int m, .int k] h (ph_ow 111 5 111 6 128 129 130 131 c m k h) := by
  refine tC_in (by rw [hG]; rfl) (fun dp => ?_)
  refine tw_aload rfl rfl ?_
  refine tw_iload rfl rfl ?_
  refine tw_virt1 rfl (g_isCar hG hs hk5) (fun w9 h9 p145 => ?_)
  obtain ⟨⟨p145, rfl⟩ | ⟨p145, rfl⟩, rfl⟩ := p145
  · try dsimp only [tvI_i, tvJ_j, tvR_r] at p145
    refine tw_if_eq rfl (fun z => absurd z (by decide)) (fun _ => ?_)
    refine tw_iload rfl rfl ?_
    refine tw_stat1 rfl (g_isMonth hG) (fun w9 h9 p146 => ?_)
    obtain ⟨⟨p146, rfl⟩ | ⟨p146, rfl⟩, rfl⟩ := p146
    · try dsimp only [tvI_i, tvJ_j, tvR_r] at p146
      refine tw_if_eq rfl (fun z => absurd z (by decide)) (fun _ => ?_)
      refine tw_iload rfl rfl ?_
      refine tw_stat1 rfl (g_isMonth hG) (fun w9 h9 p147 => ?_)
      obtain ⟨⟨p147, rfl⟩ | ⟨p147, rfl⟩, rfl⟩ := p147
      · try dsimp only [tvI_i, tvJ_j, tvR_r] at p147
        refine tw_if_eq rfl (fun z => absurd z (by decide)) (fun _ => ?_)
        refine tw_iload rfl rfl ?_
        refine tw_aload rfl rfl ?_
        refine tw_getS rfl (hs_111_17 hs) ?_
        refine tw_iload rfl rfl ?_
        refine tw_iald rfl (fun f148 => ?_)
        refine tw_ic_lt rfl (fun q149 => ?_) (fun q149 => ?_)
        · try dsimp only [tvI_i, tvJ_j, tvR_r] at q149
          refine tw_push rfl ?_
          exact tw_iret rfl (Or.inr ⟨by omega, rfl, rfl⟩)
        · try dsimp only [tvI_i, tvJ_j, tvR_r] at q149
          refine tw_aload rfl rfl ?_
          refine tw_getS rfl (hs_111_18 hs) ?_
          refine tw_iload rfl rfl ?_
          refine tw_iald rfl (fun f150 => ?_)
          refine tw_iload rfl rfl ?_
          refine tw_ic_le rfl (fun q151 => ?_) (fun q151 => ?_)
          · try dsimp only [tvI_i, tvJ_j, tvR_r] at q151
            refine tw_aload rfl rfl ?_
            refine tw_iload rfl rfl ?_
            refine tw_iload rfl rfl ?_
            refine tw_iload rfl rfl ?_
            refine tw_virt3 rfl (g_ownerIn hG hs h0) (fun w9 h9 p152 => ?_)
            obtain ⟨rfl, rfl⟩ := p152
            exact tw_iret rfl (Or.inl ⟨by omega, rfl, rfl⟩)
          · try dsimp only [tvI_i, tvJ_j, tvR_r] at q151
            refine tw_push rfl ?_
            exact tw_iret rfl (Or.inr ⟨by omega, rfl, rfl⟩)
      · try dsimp only [tvI_i, tvJ_j, tvR_r] at p147
        refine tw_if_eq rfl (fun _ => ?_) (fun z => absurd z (by decide))
        refine tw_push rfl ?_
        exact tw_iret rfl (Or.inr ⟨by omega, rfl, rfl⟩)
    · try dsimp only [tvI_i, tvJ_j, tvR_r] at p146
      refine tw_if_eq rfl (fun _ => ?_) (fun z => absurd z (by decide))
      refine tw_push rfl ?_
      exact tw_iret rfl (Or.inr ⟨by omega, rfl, rfl⟩)
  · try dsimp only [tvI_i, tvJ_j, tvR_r] at p145
    refine tw_if_eq rfl (fun _ => ?_) (fun z => absurd z (by decide))
    refine tw_push rfl ?_
    exact tw_iret rfl (Or.inr ⟨by omega, rfl, rfl⟩)
theorem a_owner {c m k : Int32} {h h2 h3 : zH} {w w2 : Option Value} (hC : R_cars h) (hS : R_sales h) (h1 : R_scar h) (h4 : R_sto h) (h5 : R_sin h) (h6 : R_stold h) (k1 : ph_ow 36 4 36 9 40 41 42 43 c m k h w h2) (k2 : ph_ow 111 5 111 6 128 129 130 131 c m k h2 w2 h3) : w2 = w := by
  unfold R_cars at hC
  unfold R_sales at hS
  unfold R_scar at h1
  unfold R_sto at h4
  unfold R_sin at h5
  unfold R_stold at h6
  have e : h2 = h := by
    rcases k1 with ⟨-, -, e⟩ | ⟨-, -, e⟩ <;> exact e
  subst e
  unfold ph_ow at k1 k2
  rw [← hC, ← hS, ← h1, ← h4, ← h5, ← h6] at k2
  rcases k1 with ⟨c1, rfl, -⟩ | ⟨c1, rfl, -⟩ <;> rcases k2 with ⟨c2, rfl, -⟩ | ⟨c2, rfl, -⟩
  · rfl
  · exact absurd c1 c2
  · exact absurd c2 c1
  · rfl
