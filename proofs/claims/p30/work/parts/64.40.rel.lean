/-! what is answered: small helpers -/
def tBo (P : Prop) (w : Option Value) : Prop := (P ∧ w = some (.int 1)) ∨ (¬ P ∧ w = some (.int 0))
theorem tBo_i {P R : Prop} {w : Option Value} (e : P ↔ R) (k : tBo P w) : tBo R w := k.imp (fun z => ⟨e.mp z.1, z.2⟩) (fun z => ⟨fun y => z.1 (e.mpr y), z.2⟩)
theorem zpB_c {b : Int × Int} {r : List (Int × Int)} {xs : List Int32} (h : zpB (b :: r) xs) : ∃ x ys, xs = x :: ys ∧ (b.1 ≤ x.toInt ∧ x.toInt ≤ b.2) ∧ zpB r ys := by
  obtain ⟨lo, hi⟩ := b
  cases xs with
  | nil => exact h.elim
  | cons x ys => exact ⟨x, ys, rfl, h.1, h.2⟩
theorem zpB_n {xs : List Int32} (h : zpB [] xs) : xs = [] := by
  cases xs with
  | nil => rfl
  | cons x ys => exact h.elim
theorem zclx {x : Int32} (h : 0 ≤ x.toInt) : (x.toNatClampNeg : Int) = x.toInt := by
  show ((x.toInt.toNat : Nat) : Int) = _
  omega
theorem zclE {x : Int32} : x.toNatClampNeg = x.toInt.toNat := rfl
theorem zeqi {x y : Int32} {Y : Int} (hy : y.toInt = Y) (h : x = y) : x.toInt = Y := by rw [h]; exact hy
theorem zneq {x y : Int32} {Y : Int} (hy : y.toInt = Y) (h : ¬ x = y) : x.toInt ≠ Y := fun z => h (Int32.toInt_inj.mp (z.trans hy.symm))
theorem zsub1 {x : Int32} (h : 0 ≤ x.toInt) : (x - 1).toInt = x.toInt - 1 := by
  have := Int32.toInt_lt x
  rw [Int32.toInt_sub]
  exact Int.bmod_eq_of_le (by show (-2147483648 : Int) ≤ x.toInt - 1; omega) (by show x.toInt - 1 < (2147483648 : Int); omega)
def tRwl : List (Nat × Nat) := [(4, 5), (14, 15), (27, 28), (97, 98)]
def tRw (h : zH) : Prop := ∀ q ∈ tRwl, ∀ i, i < tN h q.1 → tO h q.1 i = some (q.2 + i)
theorem tRw_A {h : zH} {r i : Nat} {x : Int32} (k : tRw h) : tRw (tSA h r i x) := by unfold tRw; rw [tO_tSA, tN_tSA]; exact k
theorem tRw_J {h : zH} {r i : Nat} {x : Int64} (k : tRw h) : tRw (tSJ h r i x) := by unfold tRw; rw [tO_tSJ, tN_tSJ]; exact k
theorem tRw_F {h : zH} {r b : Nat} {w : Value} (k : tRw h) : tRw (tSF h r b w) := by unfold tRw; rw [tO_tSF, tN_tSF]; exact k
theorem tRw_at {h : zH} (k : tRw h) {p q : Nat} (hm : (p, q) ∈ tRwl) {i : Int32} (z : tInO h p i) : zrf (tO h p i.toNatClampNeg) = .ref (q + i.toNatClampNeg) := by
  rw [k (p, q) hm _ z.rg.2]
  rfl
theorem tfr_N {xs : Nat → Int32} {τ : List Nat} {h h2 : zH} {W : Nat → Nat → Bool} {p t : Nat} (hB : zBs xs τ h) (hf : yFr W τ h h2) (ht : zTG[p]? = some t) : tN h2 p = tN h p := by
  obtain ⟨ct, c, a1, a2, -⟩ := hB.1.2 _ _ (hB.2.1 _ _ ht)
  obtain ⟨c2, b1, b2⟩ := hf _ _ _ (hB.2.1 _ _ ht) a2
  unfold tN
  rw [a2, b1]
  match c, c2, b2 with
  | .inr (x, fs), .inr (y, gs), b2 => rfl
  | .inl (k, N, x), .inl (k2, N2, y), b2 => exact b2.2.1.symm
theorem tfr_Fs {xs : Nat → Int32} {τ : List Nat} {h h2 : zH} {W : Nat → Nat → Bool} {p t b : Nat} (hB : zBs xs τ h) (hf : yFr W τ h h2) (ht : τ[p]? = some t) (hW : W t b = false) : tF h2 p b = tF h p b := by
  obtain ⟨ct, c, a1, a2, -⟩ := hB.1.2 _ _ ht
  obtain ⟨c2, b1, b2⟩ := hf _ _ _ ht a2
  unfold tF
  rw [a2, b1]
  match c, c2, b2 with
  | .inr (x, fs), .inr (y, gs), b2 =>
    dsimp only
    rw [List.getD_eq_getElem?_getD, List.getD_eq_getElem?_getD, b2.2.2 b hW]
  | .inl (k, N, x), .inl (k2, N2, y), b2 => rfl
theorem car_tag {xs : Nat → Int32} {τ : List Nat} {h : zH} (hB : zBs xs τ h) {i r : Nat} (hi : (i : Int) < (tvI (tF h 36 4)).toInt) (hr : tO h 39 i = some r) : τ[r]? = some 150 := by
  have hn := (kb_36_4 hB).2
  obtain ⟨a, b, c⟩ := tkd_o hB (p := 39) (t := 15) rfl rfl
  obtain ⟨-, -, c3⟩ := c i (by omega)
  rw [hr] at c3
  rcases c3 with z | z | z
  · cases z
  · have : zoi (some r) = (r : Int) := rfl
    omega
  · exact z
theorem car_lt {xs : Nat → Int32} {τ : List Nat} {h : zH} (hB : zBs xs τ h) {i r : Nat} (hi : (i : Int) < (tvI (tF h 36 4)).toInt) (hr : tO h 39 i = some r) : r < h.length := by
  have z := car_tag hB hi hr
  rcases Nat.lt_or_ge r τ.length with q | q
  · have := hB.1.1; omega
  · rw [List.getElem?_eq_none q] at z; cases z
theorem car_ne {xs : Nat → Int32} {τ : List Nat} {h : zH} (hB : zBs xs τ h) {i r : Nat} (hi : (i : Int) < (tvI (tF h 36 4)).toInt) (hr : tO h 39 i = some r) {p t : Nat} (ht : zTG[p]? = some t) (hn : t ≠ 150) : r ≠ p := by
  intro e
  subst e
  have z := car_tag hB hi hr
  rw [hB.2.1 _ _ ht] at z
  cases z
  exact hn rfl
theorem zBs_len {xs : Nat → Int32} {τ : List Nat} {h : zH} (hB : zBs xs τ h) : 182 ≤ h.length := by
  have z := hB.2.1 181 149 rfl
  rcases Nat.lt_or_ge 181 τ.length with q | q
  · have := hB.1.1; omega
  · rw [List.getElem?_eq_none q] at z; cases z
/-- a count: what is told is the next of so many, or none -/
def phN (p b : Nat) (C : Prop) (h : zH) (w : Option Value) (h2 : zH) : Prop := (C ∧ w = some (tF h p b) ∧ tF h2 p b = .int (tvI (tF h p b) + 1)) ∨ (¬ C ∧ w = some (.int (-1)) ∧ tF h2 p b = tF h p b)
theorem phN_a {p b q c : Nat} {C D : Prop} {h h2 h3 : zH} {w w2 : Option Value} (hR : tF h p b = tF h q c) (e1 : tF h2 q c = tF h q c) (e2 : tF h3 p b = tF h2 p b) (hCD : C ↔ D) (k1 : phN p b C h w h2) (k2 : phN q c D h2 w2 h3) : w2 = w ∧ tF h3 p b = tF h3 q c := by
  rcases k1 with ⟨c1, rfl, f1⟩ | ⟨c1, rfl, f1⟩ <;> rcases k2 with ⟨c2, rfl, f2⟩ | ⟨c2, rfl, f2⟩
  · rw [e2, f1, f2, e1, hR]
    exact ⟨rfl, rfl⟩
  · exact absurd (hCD.mp c1) c2
  · exact absurd (hCD.mpr c2) c1
  · rw [e2, f1, f2, e1, hR]
    exact ⟨rfl, rfl⟩
theorem zi1 {x : Int32} : x + 1 - 1 = x := Int32.add_sub_cancel x 1
/-- a count and what is told in arrays at its place -/
def phA (p b : Nat) (C : Prop) (l : List (Nat × Int32)) (h : zH) (w : Option Value) (h2 : zH) : Prop := (C ∧ w = some (tF h p b) ∧ tF h2 p b = .int (tvI (tF h p b) + 1) ∧ ∀ q ∈ l, tA h2 q.1 = fun j => if j = (tvI (tF h p b)).toNatClampNeg then q.2 else tA h q.1 j) ∨ (¬ C ∧ w = some (.int (-1)) ∧ tF h2 p b = tF h p b ∧ ∀ q ∈ l, tA h2 q.1 = tA h q.1)
theorem phA_a {p b q c : Nat} {C D : Prop} {l m : List (Nat × Int32)} {h h2 h3 : zH} {w w2 : Option Value} (hR : tF h p b = tF h q c) (e1 : tF h2 q c = tF h q c) (e2 : tF h3 p b = tF h2 p b) (hCD : C ↔ D) (k1 : phA p b C l h w h2) (k2 : phA q c D m h2 w2 h3) : w2 = w ∧ tF h3 p b = tF h3 q c ∧ ∀ P Q v, (P, v) ∈ l → (Q, v) ∈ m → tA h P = tA h Q → tA h2 Q = tA h Q → tA h3 P = tA h2 P → tA h3 P = tA h3 Q := by
  rcases k1 with ⟨c1, rfl, f1, g1⟩ | ⟨c1, rfl, f1, g1⟩ <;> rcases k2 with ⟨c2, rfl, f2, g2⟩ | ⟨c2, rfl, f2, g2⟩
  · refine ⟨by rw [e1, hR], by rw [e2, f1, f2, e1, hR], fun P Q v hP hQ a1 a2 a3 => ?_⟩
    rw [a3, g1 _ hP, g2 _ hQ, e1, ← hR]
    dsimp only
    rw [a1, a2]
  · exact absurd (hCD.mp c1) c2
  · exact absurd (hCD.mpr c2) c1
  · refine ⟨rfl, by rw [e2, f1, f2, e1, hR], fun P Q v hP hQ a1 a2 a3 => ?_⟩
    have h1 := g1 _ hP
    have h2 := g2 _ hQ
    dsimp only at h1 h2
    rw [a3, h1, h2, a1, a2]
theorem tA_st {h : zH} {r i : Nat} {x : Int32} {kd : Nat} {z : Int32} (hf : tIn h r kd z) {f : Nat → Int32} (k : tA h r = f) : tA (tSA h r i x) r = fun j => if j = i then x else f j := by
  rw [tA_tSA hf.cell]
  funext j
  dsimp only
  rw [k]
  by_cases e : j = i
  · rw [if_pos ⟨rfl, e⟩, if_pos e]
  · rw [if_neg (fun z => e z.2), if_neg e]
theorem tA_n {h : zH} {r i p : Nat} {x : Int32} {f : Nat → Int32} (hn : p ≠ r) (k : tA h p = f) : tA (tSA h r i x) p = f := by rw [tA_nz hn]; exact k
theorem tA_ff {h : zH} {r b p : Nat} {w : Value} {f : Nat → Int32} (k : tA h p = f) : tA (tSF h r b w) p = f := by rw [tA_tSF]; exact k
theorem tA_jj {h : zH} {r i p : Nat} {x : Int64} {f : Nat → Int32} (k : tA h p = f) : tA (tSJ h r i x) p = f := by rw [tA_tSJ]; exact k
theorem tA_oo {h : zH} {r i p : Nat} {x : Option Nat} {f : Nat → Int32} (k : tA h p = f) : tA (tSO h r i x) p = f := by rw [tA_tSO]; exact k
def R_people (h : zH) : Prop := tF h 36 2 = tF h 111 2
theorem f_isWithin {G : zG} (hG : G.1 = zProg) {h : zH} {n lo hi : Int32} {LO HI : Int} (hlo : lo.toInt = LO) (hhi : hi.toInt = HI) : tC zTt G 158 [.int n, .int lo, .int hi] h (fun w h2 => tBo (LO ≤ n.toInt ∧ n.toInt ≤ HI) w ∧ h2 = h) := by
  refine tC_in (by rw [hG]; rfl) (fun dp => ?_)
  refine tw_iload rfl rfl ?_
  refine tw_iload rfl rfl ?_
  refine tw_ic_lt rfl (fun q1 => ?_) (fun q1 => ?_)
  · try dsimp only [tvI_i, tvJ_j, tvR_r] at q1
    refine tw_push rfl ?_
    exact tw_iret rfl ⟨Or.inr ⟨by omega, rfl⟩, rfl⟩
  · try dsimp only [tvI_i, tvJ_j, tvR_r] at q1
    refine tw_iload rfl rfl ?_
    refine tw_iload rfl rfl ?_
    refine tw_ic_gt rfl (fun q2 => ?_) (fun q2 => ?_)
    · try dsimp only [tvI_i, tvJ_j, tvR_r] at q2
      refine tw_push rfl ?_
      exact tw_iret rfl ⟨Or.inr ⟨by omega, rfl⟩, rfl⟩
    · try dsimp only [tvI_i, tvJ_j, tvR_r] at q2
      refine tw_push rfl ?_
      refine tw_goto rfl ?_
      exact tw_iret rfl ⟨Or.inl ⟨by omega, rfl⟩, rfl⟩
theorem f_isFirm {G : zG} (hG : G.1 = zProg) {h : zH} {n : Int32} : tC zTt G 160 [.int n] h (fun w h2 => tBo (0 ≤ n.toInt ∧ n.toInt ≤ 3) w ∧ h2 = h) := by
  refine tC_in (by rw [hG]; rfl) (fun dp => ?_)
  refine tw_iload rfl rfl ?_
  refine tw_push rfl ?_
  refine tw_push rfl ?_
  refine tw_stat3 rfl (f_isWithin hG (LO := 0) (HI := 3) (by decide) (by decide)) (fun w9 h9 p3 => ?_)
  obtain ⟨⟨p3, rfl⟩ | ⟨p3, rfl⟩, rfl⟩ := p3
  · try dsimp only [tvI_i, tvJ_j, tvR_r] at p3
    exact tw_iret rfl ⟨Or.inl ⟨p3, rfl⟩, rfl⟩
  · try dsimp only [tvI_i, tvJ_j, tvR_r] at p3
    exact tw_iret rfl ⟨Or.inr ⟨p3, rfl⟩, rfl⟩
theorem wret1 {h : zH} {p b : Nat} (k : tF h p b = .int (tvI (tF h p b))) : some (Value.int (tvI (tF h p b) + 1 - 1)) = some (tF h p b) := by rw [zi1]; exact congrArg some k.symm
theorem f_addPerson {G : zG} (hG : G.1 = zProg) {h : zH} {firm : Int32} (hs : tSh h) : tC zTt G 16 [.ref 36, .int firm] h (phN 36 2 ((tvI (tF h 36 2)).toInt ≠ 60) h) := by
  refine tC_in (by rw [hG]; rfl) (fun dp => ?_)
  refine tw_aload rfl rfl ?_
  refine tw_getS rfl (hi_36_2 hs) ?_
  refine tw_push rfl ?_
  refine tw_ic_ne rfl (fun q4 => ?_) (fun q4 => ?_)
  · try dsimp only [tvI_i, tvJ_j, tvR_r] at q4
    have q4i := zneq (Y := 60) (by decide) q4
    refine tw_aload rfl rfl ?_
    refine tw_getS rfl (hs_36_0 hs) ?_
    refine tw_aload rfl rfl ?_
    refine tw_getS rfl (hi_36_2 hs) ?_
    refine tw_iload rfl rfl ?_
    refine tw_iast rfl (fun f5 => ?_)
    refine tw_aload rfl rfl ?_
    refine tw_dup rfl ?_
    refine tw_getS rfl (tF_a (hi_36_2 hs)) ?_
    refine tw_dup_x1 rfl ?_
    refine tw_push rfl ?_
    refine tw_iadd rfl ?_
    refine tw_put rfl (fun f6 => ?_)
    exact tw_iret rfl (Or.inl ⟨by omega, congrArg some (hi_36_2 hs).symm, (tF_same f6)⟩)
  · try dsimp only [tvI_i, tvJ_j, tvR_r] at q4
    have q4i := zeqi (Y := 60) (by decide) q4
    refine tw_push rfl ?_
    exact tw_iret rfl (Or.inr ⟨by omega, rfl, rfl⟩)
theorem f_person {G : zG} (hG : G.1 = zProg) {h : zH} {firm : Int32} (hs : tSh h) : tC zTt G 111 [.ref 0, .int firm] h (phN 36 2 ((-1 ≤ firm.toInt ∧ firm.toInt ≤ 3) ∧ (tvI (tF h 36 2)).toInt ≠ 60) h) := by
  refine tC_in (by rw [hG]; rfl) (fun dp => ?_)
  refine tw_iload rfl rfl ?_
  refine tw_push rfl ?_
  refine tw_ic_eq rfl (fun q7 => ?_) (fun q7 => ?_)
  · try dsimp only [tvI_i, tvJ_j, tvR_r] at q7
    have q7i := zeqi (Y := (-1)) (by decide) q7
    refine tw_aload rfl rfl ?_
    refine tw_getS rfl (hs_0_1 hs) ?_
    refine tw_iload rfl rfl ?_
    refine tw_virt1 rfl (f_addPerson hG  hs) (fun w9 h9 p8 => ?_)
    rcases p8 with ⟨p8, rfl, p8e⟩ | ⟨p8, rfl, p8e⟩
    · refine tw_goto rfl ?_
      exact tw_iret rfl (Or.inl ⟨by omega, congrArg some (hi_36_2 hs).symm, p8e⟩)
    · refine tw_goto rfl ?_
      exact tw_iret rfl (Or.inr ⟨by omega, rfl, p8e⟩)
  · try dsimp only [tvI_i, tvJ_j, tvR_r] at q7
    have q7i := zneq (Y := (-1)) (by decide) q7
    refine tw_iload rfl rfl ?_
    refine tw_stat1 rfl (f_isFirm hG) (fun w9 h9 p9 => ?_)
    obtain ⟨⟨p9, rfl⟩ | ⟨p9, rfl⟩, rfl⟩ := p9
    · try dsimp only [tvI_i, tvJ_j, tvR_r] at p9
      refine tw_if_eq rfl (fun z => absurd z (by decide)) (fun _ => ?_)
      refine tw_aload rfl rfl ?_
      refine tw_getS rfl (hs_0_1 hs) ?_
      refine tw_iload rfl rfl ?_
      refine tw_virt1 rfl (f_addPerson hG  hs) (fun w9 h9 p10 => ?_)
      rcases p10 with ⟨p10, rfl, p10e⟩ | ⟨p10, rfl, p10e⟩
      · refine tw_goto rfl ?_
        exact tw_iret rfl (Or.inl ⟨by omega, congrArg some (hi_36_2 hs).symm, p10e⟩)
      · refine tw_goto rfl ?_
        exact tw_iret rfl (Or.inr ⟨by omega, rfl, p10e⟩)
    · try dsimp only [tvI_i, tvJ_j, tvR_r] at p9
      refine tw_if_eq rfl (fun _ => ?_) (fun z => absurd z (by decide))
      refine tw_push rfl ?_
      exact tw_iret rfl (Or.inr ⟨by omega, rfl, rfl⟩)
theorem f_in {G : zG} (hG : G.1 = zProg) {h : zH} {x lo hi : Int64} {X LO HI : Int} (hx : x.toInt = X) (hlo : lo.toInt = LO) (hhi : hi.toInt = HI) : tC zTt G 171 [.long x, .long lo, .long hi] h (fun w h2 => tBo (LO ≤ X ∧ X ≤ HI) w ∧ h2 = h) := by
  refine tC_in (by rw [hG]; rfl) (fun dp => ?_)
  refine tw_lload rfl rfl ?_
  refine tw_lload rfl rfl ?_
  refine tw_lc_lt rfl rfl (fun q11 => ?_) (fun q11 => ?_)
  · try dsimp only [tvI_i, tvJ_j, tvR_r] at q11
    refine tw_push rfl ?_
    exact tw_iret rfl ⟨Or.inr ⟨by omega, rfl⟩, rfl⟩
  · try dsimp only [tvI_i, tvJ_j, tvR_r] at q11
    refine tw_lload rfl rfl ?_
    refine tw_lload rfl rfl ?_
    refine tw_lc_gt rfl rfl (fun q12 => ?_) (fun q12 => ?_)
    · try dsimp only [tvI_i, tvJ_j, tvR_r] at q12
      refine tw_push rfl ?_
      exact tw_iret rfl ⟨Or.inr ⟨by omega, rfl⟩, rfl⟩
    · try dsimp only [tvI_i, tvJ_j, tvR_r] at q12
      refine tw_push rfl ?_
      refine tw_goto rfl ?_
      exact tw_iret rfl ⟨Or.inl ⟨by omega, rfl⟩, rfl⟩
theorem g_person {G : zG} (hG : G.1 = zProg) {h : zH} {firm : Int32} (hs : tSh h)  : tC zTt G 179 [.ref 111, .int firm] h (phN 111 2 ((-1 ≤ firm.toInt ∧ firm.toInt ≤ 3) ∧ (tvI (tF h 111 2)).toInt ≠ 60) h) := by
  refine tC_in (by rw [hG]; rfl) (fun dp => ?_)
  refine tw_aload rfl rfl ?_
  refine tw_getS rfl (hi_111_2 hs) ?_
  refine tw_push rfl ?_
  refine tw_ic_eq rfl (fun q13 => ?_) (fun q13 => ?_)
  · try dsimp only [tvI_i, tvJ_j, tvR_r] at q13
    have q13i := zeqi (Y := 60) (by decide) q13
    refine tw_push rfl ?_
    exact tw_iret rfl (Or.inr ⟨by omega, rfl, rfl⟩)
  · try dsimp only [tvI_i, tvJ_j, tvR_r] at q13
    have q13i := zneq (Y := 60) (by decide) q13
    refine tw_iload rfl rfl ?_
    refine tw_i2l rfl ?_
    refine tw_push rfl ?_
    refine tw_push rfl ?_
    refine tw_stat3 rfl (f_in hG  (LO := (-1)) (HI := 3) (Int32.toInt_toInt64 _) (by decide) (by decide)) (fun w9 h9 p14 => ?_)
    obtain ⟨⟨p14, rfl⟩ | ⟨p14, rfl⟩, rfl⟩ := p14
    · try dsimp only [tvI_i, tvJ_j, tvR_r] at p14
      refine tw_if_ne rfl (fun _ => ?_) (fun z => absurd z (by decide))
      refine tw_aload rfl rfl ?_
      refine tw_getS rfl (hs_111_7 hs) ?_
      refine tw_aload rfl rfl ?_
      refine tw_getS rfl (hi_111_2 hs) ?_
      refine tw_iload rfl rfl ?_
      refine tw_iast rfl (fun f15 => ?_)
      refine tw_aload rfl rfl ?_
      refine tw_dup rfl ?_
      refine tw_getS rfl (tF_a (hi_111_2 hs)) ?_
      refine tw_push rfl ?_
      refine tw_iadd rfl ?_
      refine tw_put rfl (fun f16 => ?_)
      refine tw_aload rfl rfl ?_
      refine tw_getS rfl (tF_same f16) ?_
      refine tw_push rfl ?_
      refine tw_isub rfl ?_
      exact tw_iret rfl (Or.inl ⟨by omega, wret1 (hi_111_2 hs), (tF_same f16)⟩)
    · try dsimp only [tvI_i, tvJ_j, tvR_r] at p14
      refine tw_if_ne rfl (fun z => absurd z (by decide)) (fun _ => ?_)
      refine tw_push rfl ?_
      exact tw_iret rfl (Or.inr ⟨by omega, rfl, rfl⟩)
theorem a_person {firm : Int32} {h h2 h3 : zH} {w w2 : Option Value}  (hR : R_people h) (e1 : tF h2 111 2 = tF h 111 2) (e2 : tF h3 36 2 = tF h2 36 2) (k1 : phN 36 2 ((-1 ≤ firm.toInt ∧ firm.toInt ≤ 3) ∧ (tvI (tF h 36 2)).toInt ≠ 60) h w h2) (k2 : phN 111 2 ((-1 ≤ firm.toInt ∧ firm.toInt ≤ 3) ∧ (tvI (tF h2 111 2)).toInt ≠ 60) h2 w2 h3) : w2 = w ∧ R_people h3 := by
  refine phN_a hR e1 e2 ?_ k1 k2
  have hR2 := hR
  unfold R_people at hR2
  rw [e1, ← hR2]
def R_memos (h : zH) : Prop := tF h 76 0 = tF h 111 71
theorem f_hasPerson {G : zG} (hG : G.1 = zProg) {h : zH} {n : Int32} (hs : tSh h) : tC zTt G 15 [.ref 36, .int n] h (fun w h2 => tBo (0 ≤ n.toInt ∧ n.toInt < (tvI (tF h 36 2)).toInt) w ∧ h2 = h) := by
  refine tC_in (by rw [hG]; rfl) (fun dp => ?_)
  refine tw_iload rfl rfl ?_
  refine tw_if_lt rfl (fun q17 => ?_) (fun q17 => ?_)
  · try dsimp only [tvI_i, tvJ_j, tvR_r] at q17
    refine tw_push rfl ?_
    exact tw_iret rfl ⟨Or.inr ⟨by omega, rfl⟩, rfl⟩
  · try dsimp only [tvI_i, tvJ_j, tvR_r] at q17
    refine tw_iload rfl rfl ?_
    refine tw_aload rfl rfl ?_
    refine tw_getS rfl (hi_36_2 hs) ?_
    refine tw_ic_ge rfl (fun q18 => ?_) (fun q18 => ?_)
    · try dsimp only [tvI_i, tvJ_j, tvR_r] at q18
      refine tw_push rfl ?_
      exact tw_iret rfl ⟨Or.inr ⟨by omega, rfl⟩, rfl⟩
    · try dsimp only [tvI_i, tvJ_j, tvR_r] at q18
      refine tw_push rfl ?_
      refine tw_goto rfl ?_
      exact tw_iret rfl ⟨Or.inl ⟨by omega, rfl⟩, rfl⟩
theorem f_addMemo {G : zG} (hG : G.1 = zProg) {h : zH}  (hs : tSh h) : tC zTt G 39 [.ref 76] h (phN 76 0 ((tvI (tF h 76 0)).toInt ≠ 20) h) := by
  refine tC_in (by rw [hG]; rfl) (fun dp => ?_)
  refine tw_aload rfl rfl ?_
  refine tw_getS rfl (hi_76_0 hs) ?_
  refine tw_push rfl ?_
  refine tw_ic_ne rfl (fun q19 => ?_) (fun q19 => ?_)
  · try dsimp only [tvI_i, tvJ_j, tvR_r] at q19
    have q19i := zneq (Y := 20) (by decide) q19
    refine tw_aload rfl rfl ?_
    refine tw_dup rfl ?_
    refine tw_getS rfl (hi_76_0 hs) ?_
    refine tw_dup_x1 rfl ?_
    refine tw_push rfl ?_
    refine tw_iadd rfl ?_
    refine tw_put rfl (fun f20 => ?_)
    exact tw_iret rfl (Or.inl ⟨by omega, congrArg some (hi_76_0 hs).symm, (tF_same f20)⟩)
  · try dsimp only [tvI_i, tvJ_j, tvR_r] at q19
    have q19i := zeqi (Y := 20) (by decide) q19
    refine tw_push rfl ?_
    refine tw_goto rfl ?_
    exact tw_iret rfl (Or.inr ⟨by omega, rfl, rfl⟩)
theorem f_memo {G : zG} (hG : G.1 = zProg) {h : zH} {person : Int32} (hs : tSh h) : tC zTt G 136 [.ref 0, .int person] h (phN 76 0 ((0 ≤ person.toInt ∧ person.toInt < (tvI (tF h 36 2)).toInt) ∧ (tvI (tF h 76 0)).toInt ≠ 20) h) := by
  refine tC_in (by rw [hG]; rfl) (fun dp => ?_)
  refine tw_aload rfl rfl ?_
  refine tw_getS rfl (hs_0_1 hs) ?_
  refine tw_iload rfl rfl ?_
  refine tw_virt1 rfl (f_hasPerson hG hs) (fun w9 h9 p21 => ?_)
  obtain ⟨⟨p21, rfl⟩ | ⟨p21, rfl⟩, rfl⟩ := p21
  · try dsimp only [tvI_i, tvJ_j, tvR_r] at p21
    refine tw_if_eq rfl (fun z => absurd z (by decide)) (fun _ => ?_)
    refine tw_aload rfl rfl ?_
    refine tw_getS rfl (hs_0_6 hs) ?_
    refine tw_virt0 rfl (f_addMemo hG  hs) (fun w9 h9 p22 => ?_)
    rcases p22 with ⟨p22, rfl, p22e⟩ | ⟨p22, rfl, p22e⟩
    · refine tw_goto rfl ?_
      exact tw_iret rfl (Or.inl ⟨by omega, congrArg some (hi_76_0 hs).symm, p22e⟩)
    · refine tw_goto rfl ?_
      exact tw_iret rfl (Or.inr ⟨by omega, rfl, p22e⟩)
  · try dsimp only [tvI_i, tvJ_j, tvR_r] at p21
    refine tw_if_eq rfl (fun _ => ?_) (fun z => absurd z (by decide))
    refine tw_push rfl ?_
    exact tw_iret rfl (Or.inr ⟨by omega, rfl, rfl⟩)
theorem g_isPerson {G : zG} (hG : G.1 = zProg) {h : zH} {n : Int32} (hs : tSh h) (hk : 0 ≤ (tvI (tF h 111 2)).toInt) : tC zTt G 175 [.ref 111, .int n] h (fun w h2 => tBo (0 ≤ n.toInt ∧ n.toInt < (tvI (tF h 111 2)).toInt) w ∧ h2 = h) := by
  refine tC_in (by rw [hG]; rfl) (fun dp => ?_)
  refine tw_iload rfl rfl ?_
  refine tw_i2l rfl ?_
  refine tw_push rfl ?_
  refine tw_aload rfl rfl ?_
  refine tw_getS rfl (hi_111_2 hs) ?_
  refine tw_push rfl ?_
  refine tw_isub rfl ?_
  refine tw_i2l rfl ?_
  refine tw_stat3 rfl (f_in hG  (LO := 0)  (Int32.toInt_toInt64 _) (by decide) (Int32.toInt_toInt64 _)) (fun w9 h9 p23 => ?_)
  obtain ⟨⟨p23, rfl⟩ | ⟨p23, rfl⟩, rfl⟩ := p23
  · try dsimp only [tvI_i, tvJ_j, tvR_r] at p23
    exact tw_iret rfl ⟨Or.inl ⟨by have e := zsub1 hk; have := p23; omega, rfl⟩, rfl⟩
  · try dsimp only [tvI_i, tvJ_j, tvR_r] at p23
    exact tw_iret rfl ⟨Or.inr ⟨by have e := zsub1 hk; have := p23; omega, rfl⟩, rfl⟩
theorem g_memo {G : zG} (hG : G.1 = zProg) {h : zH} {person : Int32} (hs : tSh h) (hk2 : 0 ≤ (tvI (tF h 111 2)).toInt) : tC zTt G 248 [.ref 111, .int person] h (phN 111 71 ((0 ≤ person.toInt ∧ person.toInt < (tvI (tF h 111 2)).toInt) ∧ (tvI (tF h 111 71)).toInt ≠ 20) h) := by
  refine tC_in (by rw [hG]; rfl) (fun dp => ?_)
  refine tw_aload rfl rfl ?_
  refine tw_getS rfl (hi_111_71 hs) ?_
  refine tw_push rfl ?_
  refine tw_ic_eq rfl (fun q24 => ?_) (fun q24 => ?_)
  · try dsimp only [tvI_i, tvJ_j, tvR_r] at q24
    have q24i := zeqi (Y := 20) (by decide) q24
    refine tw_push rfl ?_
    exact tw_iret rfl (Or.inr ⟨by omega, rfl, rfl⟩)
  · try dsimp only [tvI_i, tvJ_j, tvR_r] at q24
    have q24i := zneq (Y := 20) (by decide) q24
    refine tw_aload rfl rfl ?_
    refine tw_iload rfl rfl ?_
    refine tw_virt1 rfl (g_isPerson hG hs hk2) (fun w9 h9 p25 => ?_)
    obtain ⟨⟨p25, rfl⟩ | ⟨p25, rfl⟩, rfl⟩ := p25
    · try dsimp only [tvI_i, tvJ_j, tvR_r] at p25
      refine tw_if_ne rfl (fun _ => ?_) (fun z => absurd z (by decide))
      refine tw_aload rfl rfl ?_
      refine tw_dup rfl ?_
      refine tw_getS rfl (hi_111_71 hs) ?_
      refine tw_push rfl ?_
      refine tw_iadd rfl ?_
      refine tw_put rfl (fun f26 => ?_)
      refine tw_aload rfl rfl ?_
      refine tw_getS rfl (tF_same f26) ?_
      refine tw_push rfl ?_
      refine tw_isub rfl ?_
      exact tw_iret rfl (Or.inl ⟨by omega, wret1 (hi_111_71 hs), (tF_same f26)⟩)
    · try dsimp only [tvI_i, tvJ_j, tvR_r] at p25
      refine tw_if_ne rfl (fun z => absurd z (by decide)) (fun _ => ?_)
      refine tw_push rfl ?_
      exact tw_iret rfl (Or.inr ⟨by omega, rfl, rfl⟩)
theorem a_memo {person : Int32} {h h2 h3 : zH} {w w2 : Option Value} (h_people : R_people h) (hR : R_memos h) (e1 : tF h2 111 71 = tF h 111 71) (e2 : tF h3 76 0 = tF h2 76 0) (o_people : tF h2 111 2 = tF h 111 2) (k1 : phN 76 0 ((0 ≤ person.toInt ∧ person.toInt < (tvI (tF h 36 2)).toInt) ∧ (tvI (tF h 76 0)).toInt ≠ 20) h w h2) (k2 : phN 111 71 ((0 ≤ person.toInt ∧ person.toInt < (tvI (tF h2 111 2)).toInt) ∧ (tvI (tF h2 111 71)).toInt ≠ 20) h2 w2 h3) : w2 = w ∧ R_memos h3 := by
  refine phN_a hR e1 e2 ?_ k1 k2
  have hR2 := hR
  unfold R_memos at hR2
  unfold R_people at h_people
  rw [o_people, ← h_people]
  rw [e1, ← hR2]
def R_mrows (h : zH) : Prop := tA h 77 = tA h 163
def R_msaved (h : zH) : Prop := tA h 78 = tA h 166
def R_mcounts (h : zH) : Prop := tA h 79 = tA h 164
def R_mcoins (h : zH) : Prop := tA h 80 = tA h 165
theorem f_hasMemo {G : zG} (hG : G.1 = zProg) {h : zH} {n : Int32} (hs : tSh h) : tC zTt G 37 [.ref 76, .int n] h (fun w h2 => tBo (0 ≤ n.toInt ∧ n.toInt < (tvI (tF h 76 0)).toInt) w ∧ h2 = h) := by
  refine tC_in (by rw [hG]; rfl) (fun dp => ?_)
  refine tw_iload rfl rfl ?_
  refine tw_if_lt rfl (fun q27 => ?_) (fun q27 => ?_)
  · try dsimp only [tvI_i, tvJ_j, tvR_r] at q27
    refine tw_push rfl ?_
    exact tw_iret rfl ⟨Or.inr ⟨by omega, rfl⟩, rfl⟩
  · try dsimp only [tvI_i, tvJ_j, tvR_r] at q27
    refine tw_iload rfl rfl ?_
    refine tw_aload rfl rfl ?_
    refine tw_getS rfl (hi_76_0 hs) ?_
    refine tw_ic_ge rfl (fun q28 => ?_) (fun q28 => ?_)
    · try dsimp only [tvI_i, tvJ_j, tvR_r] at q28
      refine tw_push rfl ?_
      exact tw_iret rfl ⟨Or.inr ⟨by omega, rfl⟩, rfl⟩
    · try dsimp only [tvI_i, tvJ_j, tvR_r] at q28
      refine tw_push rfl ?_
      refine tw_goto rfl ?_
      exact tw_iret rfl ⟨Or.inl ⟨by omega, rfl⟩, rfl⟩
def ixc (m x : Int32) : Int32 := m * 6 + x
def ixm (m x : Int32) : Int32 := 6 * m + x
theorem ix_eq : ixc = ixm := by
  funext m x
  unfold ixc ixm
  rw [Int32.mul_comm]
def ph_rw (a b q S T U : Nat) (ix : Int32 → Int32 → Int32) (m z c k : Int32) (h : zH) (w : Option Value) (h2 : zH) : Prop := (((0 ≤ m.toInt ∧ m.toInt < (tvI (tF h a b)).toInt) ∧ ((0 ≤ c.toInt ∧ c.toInt ≤ 999999) ∧ (0 ≤ k.toInt ∧ k.toInt ≤ 9999999)) ∧ ¬ (tA h q m.toNatClampNeg).toInt = 6) ∧ w = some (.int (tA h q m.toNatClampNeg)) ∧ tA h2 q = (fun j => if j = m.toNatClampNeg then tA h q m.toNatClampNeg + 1 else tA h q j) ∧ tA h2 S = (fun j => if j = (ix m (tA h q m.toNatClampNeg)).toNatClampNeg then z else tA h S j) ∧ tA h2 T = (fun j => if j = (ix m (tA h q m.toNatClampNeg)).toNatClampNeg then c else tA h T j) ∧ tA h2 U = (fun j => if j = (ix m (tA h q m.toNatClampNeg)).toNatClampNeg then k else tA h U j)) ∨ (¬ ((0 ≤ m.toInt ∧ m.toInt < (tvI (tF h a b)).toInt) ∧ ((0 ≤ c.toInt ∧ c.toInt ≤ 999999) ∧ (0 ≤ k.toInt ∧ k.toInt ≤ 9999999)) ∧ ¬ (tA h q m.toNatClampNeg).toInt = 6) ∧ w = some (.int (-1)) ∧ tA h2 q = tA h q ∧ tA h2 S = tA h S ∧ tA h2 T = tA h T ∧ tA h2 U = tA h U)
theorem f_addRow {G : zG} (hG : G.1 = zProg) {h : zH} {m z c k : Int32} (bz : 0 ≤ z.toInt ∧ z.toInt ≤ 1) (hs : tSh h) : tC zTt G 40 [.ref 76, .int m, .int z, .int c, .int k] h (fun w h2 => (¬ (tA h 77 m.toNatClampNeg).toInt = 6 ∧ w = some (.int (tA h 77 m.toNatClampNeg)) ∧ tA h2 77 = (fun j => if j = m.toNatClampNeg then tA h 77 m.toNatClampNeg + 1 else tA h 77 j) ∧ tA h2 78 = (fun j => if j = (ixc m (tA h 77 m.toNatClampNeg)).toNatClampNeg then z else tA h 78 j) ∧ tA h2 79 = (fun j => if j = (ixc m (tA h 77 m.toNatClampNeg)).toNatClampNeg then c else tA h 79 j) ∧ tA h2 80 = (fun j => if j = (ixc m (tA h 77 m.toNatClampNeg)).toNatClampNeg then k else tA h 80 j)) ∨ (¬ ¬ (tA h 77 m.toNatClampNeg).toInt = 6 ∧ w = some (.int (-1)) ∧ tA h2 77 = tA h 77 ∧ tA h2 78 = tA h 78 ∧ tA h2 79 = tA h 79 ∧ tA h2 80 = tA h 80)) := by
  refine tC_in (by rw [hG]; rfl) (fun dp => ?_)
  refine tw_aload rfl rfl ?_
  refine tw_getS rfl (hs_76_1 hs) ?_
  refine tw_iload rfl rfl ?_
  refine tw_iald rfl (fun f29 => ?_)
  refine tw_istore rfl ?_
  refine tw_iload rfl rfl ?_
  refine tw_push rfl ?_
  refine tw_ic_ne rfl (fun q30 => ?_) (fun q30 => ?_)
  · try dsimp only [tvI_i, tvJ_j, tvR_r] at q30
    have q30i := zneq (Y := 6) (by decide) q30
    refine tw_iload rfl rfl ?_
    refine tw_push rfl ?_
    refine tw_imul rfl ?_
    refine tw_iload rfl rfl ?_
    refine tw_iadd rfl ?_
    refine tw_istore rfl ?_
    refine tw_aload rfl rfl ?_
    refine tw_getS rfl (hs_76_2 hs) ?_
    refine tw_iload rfl rfl ?_
    refine tw_iload rfl rfl ?_
    refine tw_bastZ bz rfl (fun kf31 f31 => ?_)
    refine tw_aload rfl rfl ?_
    refine tw_getS rfl (hs_76_3 (tSh_SA hs)) ?_
    refine tw_iload rfl rfl ?_
    refine tw_iload rfl rfl ?_
    refine tw_iast rfl (fun f32 => ?_)
    refine tw_aload rfl rfl ?_
    refine tw_getS rfl (hs_76_4 (tSh_SA (tSh_SA hs))) ?_
    refine tw_iload rfl rfl ?_
    refine tw_iload rfl rfl ?_
    refine tw_iast rfl (fun f33 => ?_)
    refine tw_aload rfl rfl ?_
    refine tw_getS rfl (hs_76_1 (tSh_SA (tSh_SA (tSh_SA hs)))) ?_
    refine tw_iload rfl rfl ?_
    refine tw_dup2 rfl ?_
    refine tw_ialdS rfl (fun _ => (tA_a (by decide) (tA_a (by decide) (tA_a (by decide) rfl)))) (fun f34 => ?_)
    refine tw_push rfl ?_
    refine tw_iadd rfl ?_
    refine tw_iast rfl (fun f35 => ?_)
    refine tw_iload rfl rfl ?_
    exact tw_iret rfl (Or.inl ⟨by omega, rfl, (tA_st f35 (tA_n (by decide) (tA_n (by decide) (tA_n (by decide) rfl)))), (tA_n (by decide) (tA_n (by decide) (tA_n (by decide) (tA_st f31 rfl)))), (tA_n (by decide) (tA_n (by decide) (tA_st f32 (tA_n (by decide) rfl)))), (tA_n (by decide) (tA_st f33 (tA_n (by decide) (tA_n (by decide) rfl))))⟩)
  · try dsimp only [tvI_i, tvJ_j, tvR_r] at q30
    have q30i := zeqi (Y := 6) (by decide) q30
    refine tw_push rfl ?_
    exact tw_iret rfl (Or.inr ⟨by omega, rfl, rfl, rfl, rfl, rfl⟩)
theorem f_row {G : zG} (hG : G.1 = zProg) {h : zH} {m z c k : Int32} (bz : 0 ≤ z.toInt ∧ z.toInt ≤ 1) (hs : tSh h) : tC zTt G 137 [.ref 0, .int m, .int z, .int c, .int k] h (ph_rw 76 0 77 78 79 80 ixc m z c k h) := by
  refine tC_in (by rw [hG]; rfl) (fun dp => ?_)
  refine tw_aload rfl rfl ?_
  refine tw_getS rfl (hs_0_6 hs) ?_
  refine tw_iload rfl rfl ?_
  refine tw_virt1 rfl (f_hasMemo hG hs) (fun w9 h9 p36 => ?_)
  obtain ⟨⟨p36, rfl⟩ | ⟨p36, rfl⟩, rfl⟩ := p36
  · try dsimp only [tvI_i, tvJ_j, tvR_r] at p36
    refine tw_if_eq rfl (fun z => absurd z (by decide)) (fun _ => ?_)
    refine tw_iload rfl rfl ?_
    refine tw_push rfl ?_
    refine tw_push rfl ?_
    refine tw_stat3 rfl (f_isWithin hG (LO := 0) (HI := 999999) (by decide) (by decide)) (fun w9 h9 p37 => ?_)
    obtain ⟨⟨p37, rfl⟩ | ⟨p37, rfl⟩, rfl⟩ := p37
    · try dsimp only [tvI_i, tvJ_j, tvR_r] at p37
      refine tw_if_eq rfl (fun z => absurd z (by decide)) (fun _ => ?_)
      refine tw_iload rfl rfl ?_
      refine tw_push rfl ?_
      refine tw_push rfl ?_
      refine tw_stat3 rfl (f_isWithin hG (LO := 0) (HI := 9999999) (by decide) (by decide)) (fun w9 h9 p38 => ?_)
      obtain ⟨⟨p38, rfl⟩ | ⟨p38, rfl⟩, rfl⟩ := p38
      · try dsimp only [tvI_i, tvJ_j, tvR_r] at p38
        refine tw_if_eq rfl (fun z => absurd z (by decide)) (fun _ => ?_)
        refine tw_push rfl ?_
        refine tw_goto rfl ?_
        refine tw_istore rfl ?_
        refine tw_iload rfl rfl ?_
        refine tw_if_eq rfl (fun z => absurd z (by decide)) (fun _ => ?_)
        refine tw_aload rfl rfl ?_
        refine tw_getS rfl (hs_0_6 hs) ?_
        refine tw_iload rfl rfl ?_
        refine tw_iload rfl rfl ?_
        refine tw_iload rfl rfl ?_
        refine tw_iload rfl rfl ?_
        refine tw_virt4 rfl (f_addRow hG bz hs) (fun w9 h9 p39 => ?_)
        rcases p39 with ⟨p39, rfl, p39e⟩ | ⟨p39, rfl, p39e⟩
        · refine tw_goto rfl ?_
          exact tw_iret rfl (Or.inl ⟨by omega, rfl, p39e⟩)
        · refine tw_goto rfl ?_
          exact tw_iret rfl (Or.inr ⟨by omega, rfl, p39e⟩)
      · try dsimp only [tvI_i, tvJ_j, tvR_r] at p38
        refine tw_if_eq rfl (fun _ => ?_) (fun z => absurd z (by decide))
        refine tw_push rfl ?_
        refine tw_istore rfl ?_
        refine tw_iload rfl rfl ?_
        refine tw_if_eq rfl (fun _ => ?_) (fun z => absurd z (by decide))
        refine tw_push rfl ?_
        exact tw_iret rfl (Or.inr ⟨by omega, rfl, rfl, rfl, rfl, rfl⟩)
    · try dsimp only [tvI_i, tvJ_j, tvR_r] at p37
      refine tw_if_eq rfl (fun _ => ?_) (fun z => absurd z (by decide))
      refine tw_push rfl ?_
      refine tw_istore rfl ?_
      refine tw_iload rfl rfl ?_
      refine tw_if_eq rfl (fun _ => ?_) (fun z => absurd z (by decide))
      refine tw_push rfl ?_
      exact tw_iret rfl (Or.inr ⟨by omega, rfl, rfl, rfl, rfl, rfl⟩)
  · try dsimp only [tvI_i, tvJ_j, tvR_r] at p36
    refine tw_if_eq rfl (fun _ => ?_) (fun z => absurd z (by decide))
    refine tw_push rfl ?_
    refine tw_istore rfl ?_
    refine tw_iload rfl rfl ?_
    refine tw_if_eq rfl (fun _ => ?_) (fun z => absurd z (by decide))
    refine tw_push rfl ?_
    exact tw_iret rfl (Or.inr ⟨by omega, rfl, rfl, rfl, rfl, rfl⟩)
theorem g_isMemo {G : zG} (hG : G.1 = zProg) {h : zH} {n : Int32} (hs : tSh h) (hk : 0 ≤ (tvI (tF h 111 71)).toInt) : tC zTt G 249 [.ref 111, .int n] h (fun w h2 => tBo (0 ≤ n.toInt ∧ n.toInt < (tvI (tF h 111 71)).toInt) w ∧ h2 = h) := by
  refine tC_in (by rw [hG]; rfl) (fun dp => ?_)
  refine tw_iload rfl rfl ?_
  refine tw_i2l rfl ?_
  refine tw_push rfl ?_
  refine tw_aload rfl rfl ?_
  refine tw_getS rfl (hi_111_71 hs) ?_
  refine tw_push rfl ?_
  refine tw_isub rfl ?_
  refine tw_i2l rfl ?_
  refine tw_stat3 rfl (f_in hG  (LO := 0)  (Int32.toInt_toInt64 _) (by decide) (Int32.toInt_toInt64 _)) (fun w9 h9 p40 => ?_)
  obtain ⟨⟨p40, rfl⟩ | ⟨p40, rfl⟩, rfl⟩ := p40
  · try dsimp only [tvI_i, tvJ_j, tvR_r] at p40
    exact tw_iret rfl ⟨Or.inl ⟨by have e := zsub1 hk; have := p40; omega, rfl⟩, rfl⟩
  · try dsimp only [tvI_i, tvJ_j, tvR_r] at p40
    exact tw_iret rfl ⟨Or.inr ⟨by have e := zsub1 hk; have := p40; omega, rfl⟩, rfl⟩
theorem wrow {h : zH} {r i : Nat} {x : Int32} {kd : Nat} {z : Int32} (hf : tIn h r kd z) {y : Int32} (hx : x = y + 1) : some (Value.int (tA (tSA h r i x) r i - 1)) = some (.int y) := by
  rw [tA_tSA hf.cell]
  dsimp only
  rw [if_pos ⟨rfl, rfl⟩, hx, zi1]
theorem g_row {G : zG} (hG : G.1 = zProg) {h : zH} {m z c k : Int32} (bz : 0 ≤ z.toInt ∧ z.toInt ≤ 1) (hs : tSh h) (hk71 : 0 ≤ (tvI (tF h 111 71)).toInt) : tC zTt G 250 [.ref 111, .int m, .int z, .int c, .int k] h (ph_rw 111 71 163 166 164 165 ixm m z c k h) := by
  refine tC_in (by rw [hG]; rfl) (fun dp => ?_)
  refine tw_aload rfl rfl ?_
  refine tw_iload rfl rfl ?_
  refine tw_virt1 rfl (g_isMemo hG hs hk71) (fun w9 h9 p41 => ?_)
  obtain ⟨⟨p41, rfl⟩ | ⟨p41, rfl⟩, rfl⟩ := p41
  · try dsimp only [tvI_i, tvJ_j, tvR_r] at p41
    refine tw_if_eq rfl (fun z => absurd z (by decide)) (fun _ => ?_)
    refine tw_aload rfl rfl ?_
    refine tw_getS rfl (hs_111_72 hs) ?_
    refine tw_iload rfl rfl ?_
    refine tw_iald rfl (fun f42 => ?_)
    refine tw_push rfl ?_
    refine tw_ic_eq rfl (fun q43 => ?_) (fun q43 => ?_)
    · try dsimp only [tvI_i, tvJ_j, tvR_r] at q43
      have q43i := zeqi (Y := 6) (by decide) q43
      refine tw_push rfl ?_
      exact tw_iret rfl (Or.inr ⟨by omega, rfl, rfl, rfl, rfl, rfl⟩)
    · try dsimp only [tvI_i, tvJ_j, tvR_r] at q43
      have q43i := zneq (Y := 6) (by decide) q43
      refine tw_iload rfl rfl ?_
      refine tw_i2l rfl ?_
      refine tw_push rfl ?_
      refine tw_push rfl ?_
      refine tw_stat3 rfl (f_in hG  (LO := 0) (HI := 999999) (Int32.toInt_toInt64 _) (by decide) (by decide)) (fun w9 h9 p44 => ?_)
      obtain ⟨⟨p44, rfl⟩ | ⟨p44, rfl⟩, rfl⟩ := p44
      · try dsimp only [tvI_i, tvJ_j, tvR_r] at p44
        refine tw_if_eq rfl (fun z => absurd z (by decide)) (fun _ => ?_)
        refine tw_iload rfl rfl ?_
        refine tw_i2l rfl ?_
        refine tw_push rfl ?_
        refine tw_push rfl ?_
        refine tw_stat3 rfl (f_in hG  (LO := 0) (HI := 9999999) (Int32.toInt_toInt64 _) (by decide) (by decide)) (fun w9 h9 p45 => ?_)
        obtain ⟨⟨p45, rfl⟩ | ⟨p45, rfl⟩, rfl⟩ := p45
        · try dsimp only [tvI_i, tvJ_j, tvR_r] at p45
          refine tw_if_ne rfl (fun _ => ?_) (fun z => absurd z (by decide))
          refine tw_push rfl ?_
          refine tw_iload rfl rfl ?_
          refine tw_imul rfl ?_
          refine tw_aload rfl rfl ?_
          refine tw_getS rfl (hs_111_72 hs) ?_
          refine tw_iload rfl rfl ?_
          refine tw_iald rfl (fun f46 => ?_)
          refine tw_iadd rfl ?_
          refine tw_istore rfl ?_
          refine tw_aload rfl rfl ?_
          refine tw_getS rfl (hs_111_75 hs) ?_
          refine tw_iload rfl rfl ?_
          refine tw_iload rfl rfl ?_
          refine tw_bastZ bz rfl (fun kf47 f47 => ?_)
          refine tw_aload rfl rfl ?_
          refine tw_getS rfl (hs_111_73 (tSh_SA hs)) ?_
          refine tw_iload rfl rfl ?_
          refine tw_iload rfl rfl ?_
          refine tw_iast rfl (fun f48 => ?_)
          refine tw_aload rfl rfl ?_
          refine tw_getS rfl (hs_111_74 (tSh_SA (tSh_SA hs))) ?_
          refine tw_iload rfl rfl ?_
          refine tw_iload rfl rfl ?_
          refine tw_iast rfl (fun f49 => ?_)
          refine tw_aload rfl rfl ?_
          refine tw_getS rfl (hs_111_72 (tSh_SA (tSh_SA (tSh_SA hs)))) ?_
          refine tw_iload rfl rfl ?_
          refine tw_dup2 rfl ?_
          refine tw_ialdS rfl (fun _ => (tA_a (by decide) (tA_a (by decide) (tA_a (by decide) rfl)))) (fun f50 => ?_)
          refine tw_push rfl ?_
          refine tw_iadd rfl ?_
          refine tw_iast rfl (fun f51 => ?_)
          refine tw_aload rfl rfl ?_
          refine tw_getS rfl (hs_111_72 (tSh_SA (tSh_SA (tSh_SA (tSh_SA hs))))) ?_
          refine tw_iload rfl rfl ?_
          refine tw_iald rfl (fun f52 => ?_)
          refine tw_push rfl ?_
          refine tw_isub rfl ?_
          exact tw_iret rfl (Or.inl ⟨by omega, wrow f51 rfl, (tA_st f51 (tA_n (by decide) (tA_n (by decide) (tA_n (by decide) rfl)))), (tA_n (by decide) (tA_n (by decide) (tA_n (by decide) (tA_st f47 rfl)))), (tA_n (by decide) (tA_n (by decide) (tA_st f48 (tA_n (by decide) rfl)))), (tA_n (by decide) (tA_st f49 (tA_n (by decide) (tA_n (by decide) rfl))))⟩)
        · try dsimp only [tvI_i, tvJ_j, tvR_r] at p45
          refine tw_if_ne rfl (fun z => absurd z (by decide)) (fun _ => ?_)
          refine tw_push rfl ?_
          exact tw_iret rfl (Or.inr ⟨by omega, rfl, rfl, rfl, rfl, rfl⟩)
      · try dsimp only [tvI_i, tvJ_j, tvR_r] at p44
        refine tw_if_eq rfl (fun _ => ?_) (fun z => absurd z (by decide))
        refine tw_push rfl ?_
        exact tw_iret rfl (Or.inr ⟨by omega, rfl, rfl, rfl, rfl, rfl⟩)
  · try dsimp only [tvI_i, tvJ_j, tvR_r] at p41
    refine tw_if_eq rfl (fun _ => ?_) (fun z => absurd z (by decide))
    refine tw_push rfl ?_
    exact tw_iret rfl (Or.inr ⟨by omega, rfl, rfl, rfl, rfl, rfl⟩)
theorem a_row {m z c k : Int32} {h h2 h3 : zH} {w w2 : Option Value} (hM : R_memos h) (hR : R_mrows h) (hS : R_msaved h) (hT : R_mcounts h) (hU : R_mcoins h) (e1 : tF h2 111 71 = tF h 111 71) (o1 : tA h2 163 = tA h 163) (o2 : tA h2 166 = tA h 166) (o3 : tA h2 164 = tA h 164) (o4 : tA h2 165 = tA h 165) (t1 : tA h3 77 = tA h2 77) (t2 : tA h3 78 = tA h2 78) (t3 : tA h3 79 = tA h2 79) (t4 : tA h3 80 = tA h2 80) (k1 : ph_rw 76 0 77 78 79 80 ixc m z c k h w h2) (k2 : ph_rw 111 71 163 166 164 165 ixm m z c k h2 w2 h3) : w2 = w ∧ R_mrows h3 ∧ R_msaved h3 ∧ R_mcounts h3 ∧ R_mcoins h3 := by
  unfold R_memos at hM
  unfold R_mrows R_msaved R_mcounts R_mcoins at *
  unfold ph_rw at k1 k2
  rw [e1, o1, o2, o3, o4, ← hM, ← hR, ← hS, ← hT, ← hU, ← ix_eq] at k2
  rcases k1 with ⟨c1, rfl, f1, f2, f3, f4⟩ | ⟨c1, rfl, f1, f2, f3, f4⟩ <;> rcases k2 with ⟨c2, rfl, g1, g2, g3, g4⟩ | ⟨c2, rfl, g1, g2, g3, g4⟩
  · exact ⟨rfl, by rw [t1, f1, g1], by rw [t2, f2, g2], by rw [t3, f3, g3], by rw [t4, f4, g4]⟩
  · exact absurd c1 c2
  · exact absurd c2 c1
  · exact ⟨rfl, by rw [t1, f1, g1], by rw [t2, f2, g2], by rw [t3, f3, g3], by rw [t4, f4, g4]⟩
theorem zof {x : Int32} {n : Nat} (h : x.toInt = n) : x = Int32.ofNat n := by
  have hx := Int32.toInt_lt x
  exact Int32.toInt_inj.mp (h.trans (yofN (by omega)).symm)
theorem zof_cl {x : Int32} {n : Nat} (h : x.toInt = n) : x.toNatClampNeg = n := by rw [zclE, h]; rfl
theorem zincN {x : Int32} {n : Nat} (h : x.toInt = n) (hn : n < 2147483647) : (x + 1).toInt = ((n + 1 : Nat) : Int) := by
  rw [Int32.toInt_add, h]
  exact Int.bmod_eq_of_le (by show (-2147483648 : Int) ≤ (n : Int) + 1; omega) (by show (n : Int) + 1 < (2147483648 : Int); omega)
theorem zen {x y : Int32} {n : Nat} (hx : x.toInt = n) (hn : (n : Int) ≤ y.toInt) (hq : y.toInt ≤ x.toInt) : n = y.toNatClampNeg := by
  rw [zclE]
  omega
theorem zincL {x y : Int32} {n : Nat} (h : x.toInt = n) (hy : x.toInt < y.toInt) : (x + 1).toInt = ((n + 1 : Nat) : Int) := zincN h (by have := Int32.toInt_lt y; omega)
/-- what a memo's rows come to, the first n *-/
def sS (ix : Int32 → Int32 → Int32) (sv ct cn rw : Nat → Int32) (m o y : Int32) : Nat → Int64
  | 0 => 0
  | n + 1 => sS ix sv ct cn rw m o y n + (if sv (ix m (Int32.ofNat n)).toNatClampNeg = 0 then -((ct (ix m (Int32.ofNat n)).toNatClampNeg).toInt64 * (cn (if (y >>> (Int32.ofNat n &&& 31)) &&& 1 = 1 ∧ (Int32.ofNat n).toInt < (rw o.toNatClampNeg).toInt then (ix o (Int32.ofNat n)).toNatClampNeg else (ix m (Int32.ofNat n)).toNatClampNeg)).toInt64) else (ct (ix m (Int32.ofNat n)).toNatClampNeg).toInt64 * (cn (if (y >>> (Int32.ofNat n &&& 31)) &&& 1 = 1 ∧ (Int32.ofNat n).toInt < (rw o.toNatClampNeg).toInt then (ix o (Int32.ofNat n)).toNatClampNeg else (ix m (Int32.ofNat n)).toNatClampNeg)).toInt64)
section SS
variable {ix : Int32 → Int32 → Int32} {sv ct cn rw : Nat → Int32} {m o y : Int32} {n : Nat}
theorem sS_1 (h : (y >>> (Int32.ofNat n &&& 31)) &&& 1 = 1 ∧ (Int32.ofNat n).toInt < (rw o.toNatClampNeg).toInt) (hs : sv (ix m (Int32.ofNat n)).toNatClampNeg = 0) : sS ix sv ct cn rw m o y (n + 1) = sS ix sv ct cn rw m o y n + -((ct (ix m (Int32.ofNat n)).toNatClampNeg).toInt64 * (cn (ix o (Int32.ofNat n)).toNatClampNeg).toInt64) := by
  conv => lhs; unfold sS
  rw [if_pos hs, if_pos h]
theorem sS_2 (h : (y >>> (Int32.ofNat n &&& 31)) &&& 1 = 1 ∧ (Int32.ofNat n).toInt < (rw o.toNatClampNeg).toInt) (hs : ¬ sv (ix m (Int32.ofNat n)).toNatClampNeg = 0) : sS ix sv ct cn rw m o y (n + 1) = sS ix sv ct cn rw m o y n + (ct (ix m (Int32.ofNat n)).toNatClampNeg).toInt64 * (cn (ix o (Int32.ofNat n)).toNatClampNeg).toInt64 := by
  conv => lhs; unfold sS
  rw [if_neg hs, if_pos h]
theorem sS_3 (h : ¬ ((y >>> (Int32.ofNat n &&& 31)) &&& 1 = 1 ∧ (Int32.ofNat n).toInt < (rw o.toNatClampNeg).toInt)) (hs : sv (ix m (Int32.ofNat n)).toNatClampNeg = 0) : sS ix sv ct cn rw m o y (n + 1) = sS ix sv ct cn rw m o y n + -((ct (ix m (Int32.ofNat n)).toNatClampNeg).toInt64 * (cn (ix m (Int32.ofNat n)).toNatClampNeg).toInt64) := by
  conv => lhs; unfold sS
  rw [if_pos hs, if_neg h]
theorem sS_4 (h : ¬ ((y >>> (Int32.ofNat n &&& 31)) &&& 1 = 1 ∧ (Int32.ofNat n).toInt < (rw o.toNatClampNeg).toInt)) (hs : ¬ sv (ix m (Int32.ofNat n)).toNatClampNeg = 0) : sS ix sv ct cn rw m o y (n + 1) = sS ix sv ct cn rw m o y n + (ct (ix m (Int32.ofNat n)).toNatClampNeg).toInt64 * (cn (ix m (Int32.ofNat n)).toNatClampNeg).toInt64 := by
  conv => lhs; unfold sS
  rw [if_neg hs, if_neg h]
end SS
theorem f_hasRow {G : zG} (hG : G.1 = zProg) {h : zH} {m x : Int32} (hs : tSh h) : tC zTt G 38 [.ref 76, .int m, .int x] h (fun w h2 => tBo (0 ≤ x.toInt ∧ x.toInt < (tA h 77 m.toNatClampNeg).toInt) w ∧ h2 = h) := by
  refine tC_in (by rw [hG]; rfl) (fun dp => ?_)
  refine tw_iload rfl rfl ?_
  refine tw_if_lt rfl (fun q53 => ?_) (fun q53 => ?_)
  · try dsimp only [tvI_i, tvJ_j, tvR_r] at q53
    refine tw_push rfl ?_
    exact tw_iret rfl ⟨Or.inr ⟨by omega, rfl⟩, rfl⟩
  · try dsimp only [tvI_i, tvJ_j, tvR_r] at q53
    refine tw_iload rfl rfl ?_
    refine tw_aload rfl rfl ?_
    refine tw_getS rfl (hs_76_1 hs) ?_
    refine tw_iload rfl rfl ?_
    refine tw_iald rfl (fun f54 => ?_)
    refine tw_ic_ge rfl (fun q55 => ?_) (fun q55 => ?_)
    · try dsimp only [tvI_i, tvJ_j, tvR_r] at q55
      refine tw_push rfl ?_
      exact tw_iret rfl ⟨Or.inr ⟨by omega, rfl⟩, rfl⟩
    · try dsimp only [tvI_i, tvJ_j, tvR_r] at q55
      refine tw_push rfl ?_
      refine tw_goto rfl ?_
      exact tw_iret rfl ⟨Or.inl ⟨by omega, rfl⟩, rfl⟩
theorem f_sumWith {G : zG} (hG : G.1 = zProg) {h : zH} {m o y : Int32} (hs : tSh h) (h0 : 0 ≤ (tA h 77 m.toNatClampNeg).toInt) : tC zTt G 42 [.ref 76, .int m, .int o, .int y] h (fun w h2 => w = some (.long (sS ixc (tA h 78) (tA h 79) (tA h 80) (tA h 77) m o y (tA h 77 m.toNatClampNeg).toNatClampNeg)) ∧ h2 = h) := by
  refine tC_in (by rw [hG]; rfl) (fun dp => ?_)
  refine tw_push rfl ?_
  refine tw_lstore rfl ?_
  refine tw_push rfl ?_
  refine tw_istore rfl ?_
  refine tG_loop (zW_mono zTt G dp) (zW_conj zTt G dp) (V := fun pc L st h9 _ _ => pc = 6 ∧ st = [] ∧ h = h9 ∧ ∃ (k : Nat) (x : Int32) (ac : Int64) (l7 l8 l9 l10 : Option Value), x.toInt = k ∧ (k : Int) ≤ (tA h 77 m.toNatClampNeg).toInt ∧ ac = sS ixc (tA h 78) (tA h 79) (tA h 80) (tA h 77) m o y k ∧ L = [some (.ref 76), some (.int m), some (.int o), some (.int y), some (.long ac), none, some (.int x), l7, l8, l9, l10] ∧ (∀ v, l8 = some v → v.category = 1)) ?_ (⟨rfl, rfl, rfl, 0, 0, 0, none, none, none, none, rfl, h0, rfl, rfl, (fun v hv => by cases hv)⟩)
  rintro _ _ _ _ _ _ ⟨rfl, rfl, rfl, k, x, _, l7, l8, l9, l10, hx, hk, rfl, rfl, h8⟩
  refine tw_iload rfl rfl ?_
  refine tw_aload rfl rfl ?_
  refine tw_getS rfl (hs_76_1 hs) ?_
  refine tw_iload rfl rfl ?_
  refine tw_iald rfl (fun f56 => ?_)
  refine tw_ic_ge rfl (fun q57 => ?_) (fun q57 => ?_)
  · try dsimp only [tvI_i, tvJ_j, tvR_r] at q57
    refine tw_lload rfl rfl ?_
    exact tw_lret rfl ⟨by rw [show k = (tA h 77 m.toNatClampNeg).toNatClampNeg from by rw [zclE]; omega]; rfl, rfl⟩
  · try dsimp only [tvI_i, tvJ_j, tvR_r] at q57
    refine tw_iload rfl rfl ?_
    refine tw_push rfl ?_
    refine tw_imul rfl ?_
    refine tw_iload rfl rfl ?_
    refine tw_iadd rfl ?_
    refine tw_istore rfl ?_
    refine tw_iload rfl rfl ?_
    refine tw_iload rfl rfl ?_
    refine tw_ishr rfl ?_
    refine tw_push rfl ?_
    refine tw_iand rfl ?_
    refine tw_push rfl ?_
    refine tw_ic_ne rfl (fun q58 => ?_) (fun q58 => ?_)
    · try dsimp only [tvI_i, tvJ_j, tvR_r] at q58
      have q58i := zneq (Y := 1) (by decide) q58
      refine tw_push rfl ?_
      refine tw_istore rfl ?_
      refine tw_aload rfl rfl ?_
      refine tw_getS rfl (hs_76_3 hs) ?_
      refine tw_iload rfl rfl ?_
      refine tw_iald rfl (fun f59 => ?_)
      refine tw_i2l rfl ?_
      refine tw_aload rfl rfl ?_
      refine tw_getS rfl (hs_76_4 hs) ?_
      refine tw_iload rfl rfl ?_
      refine tw_if_eq rfl (fun _ => ?_) (fun z => absurd z (by decide))
      refine tw_iload rfl rfl ?_
      refine tw_iald rfl (fun f60 => ?_)
      refine tw_i2l rfl ?_
      refine tw_lmul rfl ?_
      refine tw_lstore rfl ?_
      refine tw_lload rfl rfl ?_
      refine tw_aload rfl rfl ?_
      refine tw_getS rfl (hs_76_2 hs) ?_
      refine tw_iload rfl rfl ?_
      refine tw_bald rfl (fun f61 => ?_)
      refine tw_if_eq rfl (fun q62 => ?_) (fun q62 => ?_)
      · try dsimp only [tvI_i, tvJ_j, tvR_r] at q62
        have q62i := zeqi (Y := 0) (by decide) q62
        refine tw_lload rfl rfl ?_
        refine tw_lneg rfl ?_
        refine tw_ladd rfl ?_
        refine tw_lstore rfl ?_
        refine tw_iinc rfl rfl ?_
        refine tw_goto rfl ?_
        have hk9 := zof hx
        subst hk9
        exact tG_cut (zW_mono zTt G dp) (Or.inr ⟨rfl, rfl, rfl, k + 1, _, _, _, _, _, _, zincL hx q57, by omega, (sS_3 (ix := ixc) (sv := tA _ 78) (ct := tA _ 79) (cn := tA _ 80) (rw := tA _ 77) (m := m) (o := o) (y := y) (n := k) (fun z => q58 z.1) q62).symm, rfl, (fun v hv => by cases hv; rfl)⟩)
      · try dsimp only [tvI_i, tvJ_j, tvR_r] at q62
        have q62i := zneq (Y := 0) (by decide) q62
        refine tw_lload rfl rfl ?_
        refine tw_goto rfl ?_
        refine tw_ladd rfl ?_
        refine tw_lstore rfl ?_
        refine tw_iinc rfl rfl ?_
        refine tw_goto rfl ?_
        have hk9 := zof hx
        subst hk9
        exact tG_cut (zW_mono zTt G dp) (Or.inr ⟨rfl, rfl, rfl, k + 1, _, _, _, _, _, _, zincL hx q57, by omega, (sS_4 (ix := ixc) (sv := tA _ 78) (ct := tA _ 79) (cn := tA _ 80) (rw := tA _ 77) (m := m) (o := o) (y := y) (n := k) (fun z => q58 z.1) q62).symm, rfl, (fun v hv => by cases hv; rfl)⟩)
    · try dsimp only [tvI_i, tvJ_j, tvR_r] at q58
      have q58i := zeqi (Y := 1) (by decide) q58
      refine tw_aload rfl rfl ?_
      refine tw_iload rfl rfl ?_
      refine tw_iload rfl rfl ?_
      refine tw_virt2 rfl (f_hasRow hG hs) (fun w9 h9 p63 => ?_)
      obtain ⟨⟨p63, rfl⟩ | ⟨p63, rfl⟩, rfl⟩ := p63
      · try dsimp only [tvI_i, tvJ_j, tvR_r] at p63
        refine tw_if_eq rfl (fun z => absurd z (by decide)) (fun _ => ?_)
        refine tw_push rfl ?_
        refine tw_goto rfl ?_
        refine tw_istore rfl ?_
        refine tw_aload rfl rfl ?_
        refine tw_getS rfl (hs_76_3 hs) ?_
        refine tw_iload rfl rfl ?_
        refine tw_iald rfl (fun f64 => ?_)
        refine tw_i2l rfl ?_
        refine tw_aload rfl rfl ?_
        refine tw_getS rfl (hs_76_4 hs) ?_
        refine tw_iload rfl rfl ?_
        refine tw_if_eq rfl (fun z => absurd z (by decide)) (fun _ => ?_)
        refine tw_iload rfl rfl ?_
        refine tw_push rfl ?_
        refine tw_imul rfl ?_
        refine tw_iload rfl rfl ?_
        refine tw_iadd rfl ?_
        refine tw_goto rfl ?_
        refine tw_iald rfl (fun f65 => ?_)
        refine tw_i2l rfl ?_
        refine tw_lmul rfl ?_
        refine tw_lstore rfl ?_
        refine tw_lload rfl rfl ?_
        refine tw_aload rfl rfl ?_
        refine tw_getS rfl (hs_76_2 hs) ?_
        refine tw_iload rfl rfl ?_
        refine tw_bald rfl (fun f66 => ?_)
        refine tw_if_eq rfl (fun q67 => ?_) (fun q67 => ?_)
        · try dsimp only [tvI_i, tvJ_j, tvR_r] at q67
          have q67i := zeqi (Y := 0) (by decide) q67
          refine tw_lload rfl rfl ?_
          refine tw_lneg rfl ?_
          refine tw_ladd rfl ?_
          refine tw_lstore rfl ?_
          refine tw_iinc rfl rfl ?_
          refine tw_goto rfl ?_
          have hk9 := zof hx
          subst hk9
          exact tG_cut (zW_mono zTt G dp) (Or.inr ⟨rfl, rfl, rfl, k + 1, _, _, _, _, _, _, zincL hx q57, by omega, (sS_1 (ix := ixc) (sv := tA _ 78) (ct := tA _ 79) (cn := tA _ 80) (rw := tA _ 77) (m := m) (o := o) (y := y) (n := k) ⟨q58, p63.2⟩ q67).symm, rfl, (fun v hv => by cases hv; rfl)⟩)
        · try dsimp only [tvI_i, tvJ_j, tvR_r] at q67
          have q67i := zneq (Y := 0) (by decide) q67
          refine tw_lload rfl rfl ?_
          refine tw_goto rfl ?_
          refine tw_ladd rfl ?_
          refine tw_lstore rfl ?_
          refine tw_iinc rfl rfl ?_
          refine tw_goto rfl ?_
          have hk9 := zof hx
          subst hk9
          exact tG_cut (zW_mono zTt G dp) (Or.inr ⟨rfl, rfl, rfl, k + 1, _, _, _, _, _, _, zincL hx q57, by omega, (sS_2 (ix := ixc) (sv := tA _ 78) (ct := tA _ 79) (cn := tA _ 80) (rw := tA _ 77) (m := m) (o := o) (y := y) (n := k) ⟨q58, p63.2⟩ q67).symm, rfl, (fun v hv => by cases hv; rfl)⟩)
      · try dsimp only [tvI_i, tvJ_j, tvR_r] at p63
        refine tw_if_eq rfl (fun _ => ?_) (fun z => absurd z (by decide))
        refine tw_push rfl ?_
        refine tw_istore rfl ?_
        refine tw_aload rfl rfl ?_
        refine tw_getS rfl (hs_76_3 hs) ?_
        refine tw_iload rfl rfl ?_
        refine tw_iald rfl (fun f68 => ?_)
        refine tw_i2l rfl ?_
        refine tw_aload rfl rfl ?_
        refine tw_getS rfl (hs_76_4 hs) ?_
        refine tw_iload rfl rfl ?_
        refine tw_if_eq rfl (fun _ => ?_) (fun z => absurd z (by decide))
        refine tw_iload rfl rfl ?_
        refine tw_iald rfl (fun f69 => ?_)
        refine tw_i2l rfl ?_
        refine tw_lmul rfl ?_
        refine tw_lstore rfl ?_
        refine tw_lload rfl rfl ?_
        refine tw_aload rfl rfl ?_
        refine tw_getS rfl (hs_76_2 hs) ?_
        refine tw_iload rfl rfl ?_
        refine tw_bald rfl (fun f70 => ?_)
        refine tw_if_eq rfl (fun q71 => ?_) (fun q71 => ?_)
        · try dsimp only [tvI_i, tvJ_j, tvR_r] at q71
          have q71i := zeqi (Y := 0) (by decide) q71
          refine tw_lload rfl rfl ?_
          refine tw_lneg rfl ?_
          refine tw_ladd rfl ?_
          refine tw_lstore rfl ?_
          refine tw_iinc rfl rfl ?_
          refine tw_goto rfl ?_
          have hk9 := zof hx
          subst hk9
          exact tG_cut (zW_mono zTt G dp) (Or.inr ⟨rfl, rfl, rfl, k + 1, _, _, _, _, _, _, zincL hx q57, by omega, (sS_3 (ix := ixc) (sv := tA _ 78) (ct := tA _ 79) (cn := tA _ 80) (rw := tA _ 77) (m := m) (o := o) (y := y) (n := k) (fun z => p63 ⟨by omega, z.2⟩) q71).symm, rfl, (fun v hv => by cases hv; rfl)⟩)
        · try dsimp only [tvI_i, tvJ_j, tvR_r] at q71
          have q71i := zneq (Y := 0) (by decide) q71
          refine tw_lload rfl rfl ?_
          refine tw_goto rfl ?_
          refine tw_ladd rfl ?_
          refine tw_lstore rfl ?_
          refine tw_iinc rfl rfl ?_
          refine tw_goto rfl ?_
          have hk9 := zof hx
          subst hk9
          exact tG_cut (zW_mono zTt G dp) (Or.inr ⟨rfl, rfl, rfl, k + 1, _, _, _, _, _, _, zincL hx q57, by omega, (sS_4 (ix := ixc) (sv := tA _ 78) (ct := tA _ 79) (cn := tA _ 80) (rw := tA _ 77) (m := m) (o := o) (y := y) (n := k) (fun z => p63 ⟨by omega, z.2⟩) q71).symm, rfl, (fun v hv => by cases hv; rfl)⟩)
theorem g_sumOf {G : zG} (hG : G.1 = zProg) {h : zH} {m o y : Int32} (hs : tSh h) (h0 : 0 ≤ (tA h 163 m.toNatClampNeg).toInt) : tC zTt G 251 [.ref 111, .int m, .int o, .int y] h (fun w h2 => w = some (.long (sS ixm (tA h 166) (tA h 164) (tA h 165) (tA h 163) m o y (tA h 163 m.toNatClampNeg).toNatClampNeg)) ∧ h2 = h) := by
  refine tC_in (by rw [hG]; rfl) (fun dp => ?_)
  refine tw_push rfl ?_
  refine tw_lstore rfl ?_
  refine tw_push rfl ?_
  refine tw_istore rfl ?_
  refine tG_loop (zW_mono zTt G dp) (zW_conj zTt G dp) (V := fun pc L st h9 _ _ => pc = 6 ∧ st = [] ∧ h = h9 ∧ ∃ (k : Nat) (x : Int32) (ac : Int64) (l7 l8 l9 l10 : Option Value), x.toInt = k ∧ (k : Int) ≤ (tA h 163 m.toNatClampNeg).toInt ∧ ac = sS ixm (tA h 166) (tA h 164) (tA h 165) (tA h 163) m o y k ∧ L = [some (.ref 111), some (.int m), some (.int o), some (.int y), some (.long ac), none, some (.int x), l7, l8, l9, l10] ∧ (∀ v, l8 = some v → v.category = 1)) ?_ (⟨rfl, rfl, rfl, 0, 0, 0, none, none, none, none, rfl, h0, rfl, rfl, (fun v hv => by cases hv)⟩)
  rintro _ _ _ _ _ _ ⟨rfl, rfl, rfl, k, x, _, l7, l8, l9, l10, hx, hk, rfl, rfl, h8⟩
  refine tw_iload rfl rfl ?_
  refine tw_aload rfl rfl ?_
  refine tw_getS rfl (hs_111_72 hs) ?_
  refine tw_iload rfl rfl ?_
  refine tw_iald rfl (fun f72 => ?_)
  refine tw_ic_ge rfl (fun q73 => ?_) (fun q73 => ?_)
  · try dsimp only [tvI_i, tvJ_j, tvR_r] at q73
    refine tw_lload rfl rfl ?_
    exact tw_lret rfl ⟨by rw [show k = (tA h 163 m.toNatClampNeg).toNatClampNeg from by rw [zclE]; omega]; rfl, rfl⟩
  · try dsimp only [tvI_i, tvJ_j, tvR_r] at q73
    refine tw_push rfl ?_
    refine tw_iload rfl rfl ?_
    refine tw_imul rfl ?_
    refine tw_iload rfl rfl ?_
    refine tw_iadd rfl ?_
    refine tw_istore rfl ?_
    refine tw_iload rfl rfl ?_
    refine tw_iload rfl rfl ?_
    refine tw_ishr rfl ?_
    refine tw_push rfl ?_
    refine tw_iand rfl ?_
    refine tw_push rfl ?_
    refine tw_ic_ne rfl (fun q74 => ?_) (fun q74 => ?_)
    · try dsimp only [tvI_i, tvJ_j, tvR_r] at q74
      have q74i := zneq (Y := 1) (by decide) q74
      refine tw_push rfl ?_
      refine tw_istore rfl ?_
      refine tw_aload rfl rfl ?_
      refine tw_getS rfl (hs_111_73 hs) ?_
      refine tw_iload rfl rfl ?_
      refine tw_iald rfl (fun f75 => ?_)
      refine tw_i2l rfl ?_
      refine tw_aload rfl rfl ?_
      refine tw_getS rfl (hs_111_74 hs) ?_
      refine tw_iload rfl rfl ?_
      refine tw_if_eq rfl (fun _ => ?_) (fun z => absurd z (by decide))
      refine tw_iload rfl rfl ?_
      refine tw_iald rfl (fun f76 => ?_)
      refine tw_i2l rfl ?_
      refine tw_lmul rfl ?_
      refine tw_lstore rfl ?_
      refine tw_lload rfl rfl ?_
      refine tw_aload rfl rfl ?_
      refine tw_getS rfl (hs_111_75 hs) ?_
      refine tw_iload rfl rfl ?_
      refine tw_bald rfl (fun f77 => ?_)
      refine tw_if_eq rfl (fun q78 => ?_) (fun q78 => ?_)
      · try dsimp only [tvI_i, tvJ_j, tvR_r] at q78
        have q78i := zeqi (Y := 0) (by decide) q78
        refine tw_lload rfl rfl ?_
        refine tw_lneg rfl ?_
        refine tw_ladd rfl ?_
        refine tw_lstore rfl ?_
        refine tw_iinc rfl rfl ?_
        refine tw_goto rfl ?_
        have hk9 := zof hx
        subst hk9
        exact tG_cut (zW_mono zTt G dp) (Or.inr ⟨rfl, rfl, rfl, k + 1, _, _, _, _, _, _, zincL hx q73, by omega, (sS_3 (ix := ixm) (sv := tA _ 166) (ct := tA _ 164) (cn := tA _ 165) (rw := tA _ 163) (m := m) (o := o) (y := y) (n := k) (fun z => q74 z.1) q78).symm, rfl, (fun v hv => by cases hv; rfl)⟩)
      · try dsimp only [tvI_i, tvJ_j, tvR_r] at q78
        have q78i := zneq (Y := 0) (by decide) q78
        refine tw_lload rfl rfl ?_
        refine tw_goto rfl ?_
        refine tw_ladd rfl ?_
        refine tw_lstore rfl ?_
        refine tw_iinc rfl rfl ?_
        refine tw_goto rfl ?_
        have hk9 := zof hx
        subst hk9
        exact tG_cut (zW_mono zTt G dp) (Or.inr ⟨rfl, rfl, rfl, k + 1, _, _, _, _, _, _, zincL hx q73, by omega, (sS_4 (ix := ixm) (sv := tA _ 166) (ct := tA _ 164) (cn := tA _ 165) (rw := tA _ 163) (m := m) (o := o) (y := y) (n := k) (fun z => q74 z.1) q78).symm, rfl, (fun v hv => by cases hv; rfl)⟩)
    · try dsimp only [tvI_i, tvJ_j, tvR_r] at q74
      have q74i := zeqi (Y := 1) (by decide) q74
      refine tw_iload rfl rfl ?_
      refine tw_aload rfl rfl ?_
      refine tw_getS rfl (hs_111_72 hs) ?_
      refine tw_iload rfl rfl ?_
      refine tw_iald rfl (fun f79 => ?_)
      refine tw_ic_ge rfl (fun q80 => ?_) (fun q80 => ?_)
      · try dsimp only [tvI_i, tvJ_j, tvR_r] at q80
        refine tw_push rfl ?_
        refine tw_istore rfl ?_
        refine tw_aload rfl rfl ?_
        refine tw_getS rfl (hs_111_73 hs) ?_
        refine tw_iload rfl rfl ?_
        refine tw_iald rfl (fun f81 => ?_)
        refine tw_i2l rfl ?_
        refine tw_aload rfl rfl ?_
        refine tw_getS rfl (hs_111_74 hs) ?_
        refine tw_iload rfl rfl ?_
        refine tw_if_eq rfl (fun _ => ?_) (fun z => absurd z (by decide))
        refine tw_iload rfl rfl ?_
        refine tw_iald rfl (fun f82 => ?_)
        refine tw_i2l rfl ?_
        refine tw_lmul rfl ?_
        refine tw_lstore rfl ?_
        refine tw_lload rfl rfl ?_
        refine tw_aload rfl rfl ?_
        refine tw_getS rfl (hs_111_75 hs) ?_
        refine tw_iload rfl rfl ?_
        refine tw_bald rfl (fun f83 => ?_)
        refine tw_if_eq rfl (fun q84 => ?_) (fun q84 => ?_)
        · try dsimp only [tvI_i, tvJ_j, tvR_r] at q84
          have q84i := zeqi (Y := 0) (by decide) q84
          refine tw_lload rfl rfl ?_
          refine tw_lneg rfl ?_
          refine tw_ladd rfl ?_
          refine tw_lstore rfl ?_
          refine tw_iinc rfl rfl ?_
          refine tw_goto rfl ?_
          have hk9 := zof hx
          subst hk9
          exact tG_cut (zW_mono zTt G dp) (Or.inr ⟨rfl, rfl, rfl, k + 1, _, _, _, _, _, _, zincL hx q73, by omega, (sS_3 (ix := ixm) (sv := tA _ 166) (ct := tA _ 164) (cn := tA _ 165) (rw := tA _ 163) (m := m) (o := o) (y := y) (n := k) (fun z => absurd z.2 (by omega)) q84).symm, rfl, (fun v hv => by cases hv; rfl)⟩)
        · try dsimp only [tvI_i, tvJ_j, tvR_r] at q84
          have q84i := zneq (Y := 0) (by decide) q84
          refine tw_lload rfl rfl ?_
          refine tw_goto rfl ?_
          refine tw_ladd rfl ?_
          refine tw_lstore rfl ?_
          refine tw_iinc rfl rfl ?_
          refine tw_goto rfl ?_
          have hk9 := zof hx
          subst hk9
          exact tG_cut (zW_mono zTt G dp) (Or.inr ⟨rfl, rfl, rfl, k + 1, _, _, _, _, _, _, zincL hx q73, by omega, (sS_4 (ix := ixm) (sv := tA _ 166) (ct := tA _ 164) (cn := tA _ 165) (rw := tA _ 163) (m := m) (o := o) (y := y) (n := k) (fun z => absurd z.2 (by omega)) q84).symm, rfl, (fun v hv => by cases hv; rfl)⟩)
      · try dsimp only [tvI_i, tvJ_j, tvR_r] at q80
        refine tw_push rfl ?_
        refine tw_goto rfl ?_
        refine tw_istore rfl ?_
        refine tw_aload rfl rfl ?_
        refine tw_getS rfl (hs_111_73 hs) ?_
        refine tw_iload rfl rfl ?_
        refine tw_iald rfl (fun f85 => ?_)
        refine tw_i2l rfl ?_
        refine tw_aload rfl rfl ?_
        refine tw_getS rfl (hs_111_74 hs) ?_
        refine tw_iload rfl rfl ?_
        refine tw_if_eq rfl (fun z => absurd z (by decide)) (fun _ => ?_)
        refine tw_push rfl ?_
        refine tw_iload rfl rfl ?_
        refine tw_imul rfl ?_
        refine tw_iload rfl rfl ?_
        refine tw_iadd rfl ?_
        refine tw_goto rfl ?_
        refine tw_iald rfl (fun f86 => ?_)
        refine tw_i2l rfl ?_
        refine tw_lmul rfl ?_
        refine tw_lstore rfl ?_
        refine tw_lload rfl rfl ?_
        refine tw_aload rfl rfl ?_
        refine tw_getS rfl (hs_111_75 hs) ?_
        refine tw_iload rfl rfl ?_
        refine tw_bald rfl (fun f87 => ?_)
        refine tw_if_eq rfl (fun q88 => ?_) (fun q88 => ?_)
        · try dsimp only [tvI_i, tvJ_j, tvR_r] at q88
          have q88i := zeqi (Y := 0) (by decide) q88
          refine tw_lload rfl rfl ?_
          refine tw_lneg rfl ?_
          refine tw_ladd rfl ?_
          refine tw_lstore rfl ?_
          refine tw_iinc rfl rfl ?_
          refine tw_goto rfl ?_
          have hk9 := zof hx
          subst hk9
          exact tG_cut (zW_mono zTt G dp) (Or.inr ⟨rfl, rfl, rfl, k + 1, _, _, _, _, _, _, zincL hx q73, by omega, (sS_1 (ix := ixm) (sv := tA _ 166) (ct := tA _ 164) (cn := tA _ 165) (rw := tA _ 163) (m := m) (o := o) (y := y) (n := k) ⟨q74, q80⟩ q88).symm, rfl, (fun v hv => by cases hv; rfl)⟩)
        · try dsimp only [tvI_i, tvJ_j, tvR_r] at q88
          have q88i := zneq (Y := 0) (by decide) q88
          refine tw_lload rfl rfl ?_
          refine tw_goto rfl ?_
          refine tw_ladd rfl ?_
          refine tw_lstore rfl ?_
          refine tw_iinc rfl rfl ?_
          refine tw_goto rfl ?_
          have hk9 := zof hx
          subst hk9
          exact tG_cut (zW_mono zTt G dp) (Or.inr ⟨rfl, rfl, rfl, k + 1, _, _, _, _, _, _, zincL hx q73, by omega, (sS_2 (ix := ixm) (sv := tA _ 166) (ct := tA _ 164) (cn := tA _ 165) (rw := tA _ 163) (m := m) (o := o) (y := y) (n := k) ⟨q74, q80⟩ q88).symm, rfl, (fun v hv => by cases hv; rfl)⟩)
theorem f_sumOf {G : zG} (hG : G.1 = zProg) {h : zH} {m : Int32} (hs : tSh h) (hr0 : 0 ≤ (tA h 77 m.toNatClampNeg).toInt) : tC zTt G 41 [.ref 76, .int m] h (fun w h2 => w = some (.long (sS ixc (tA h 78) (tA h 79) (tA h 80) (tA h 77) m m 0 (tA h 77 m.toNatClampNeg).toNatClampNeg)) ∧ h2 = h) := by
  refine tC_in (by rw [hG]; rfl) (fun dp => ?_)
  refine tw_aload rfl rfl ?_
  refine tw_iload rfl rfl ?_
  refine tw_iload rfl rfl ?_
  refine tw_push rfl ?_
  refine tw_virt3 rfl (f_sumWith hG hs hr0) (fun w9 h9 p89 => ?_)
  obtain ⟨rfl, rfl⟩ := p89
  exact tw_lret rfl ⟨rfl, rfl⟩
def ph_ms (a b S T U q : Nat) (ix : Int32 → Int32 → Int32) (m : Int32) (h : zH) (w : Option Value) (_ : zH) : Prop := ((0 ≤ m.toInt ∧ m.toInt < (tvI (tF h a b)).toInt) ∧ w = some (.long (sS ix (tA h S) (tA h T) (tA h U) (tA h q) m m 0 (tA h q m.toNatClampNeg).toNatClampNeg))) ∨ (¬ (0 ≤ m.toInt ∧ m.toInt < (tvI (tF h a b)).toInt) ∧ w = some (.long (-9000000000000000000)))
theorem f_memoSum {G : zG} (hG : G.1 = zProg) {h : zH} {m : Int32} (hs : tSh h) (hq : ∀ i, i < 20 → 0 ≤ (tA h 77 i).toInt) (hn : (tvI (tF h 76 0)).toInt ≤ 20) : tC zTt G 138 [.ref 0, .int m] h (ph_ms 76 0 78 79 80 77 ixc m h) := by
  refine tC_in (by rw [hG]; rfl) (fun dp => ?_)
  refine tw_aload rfl rfl ?_
  refine tw_getS rfl (hs_0_6 hs) ?_
  refine tw_iload rfl rfl ?_
  refine tw_virt1 rfl (f_hasMemo hG hs) (fun w9 h9 p90 => ?_)
  obtain ⟨⟨p90, rfl⟩ | ⟨p90, rfl⟩, rfl⟩ := p90
  · try dsimp only [tvI_i, tvJ_j, tvR_r] at p90
    refine tw_if_eq rfl (fun z => absurd z (by decide)) (fun _ => ?_)
    refine tw_aload rfl rfl ?_
    refine tw_getS rfl (hs_0_6 hs) ?_
    refine tw_iload rfl rfl ?_
    refine tw_virt1 rfl (f_sumOf hG hs (hq _ (by rw [zclE]; omega))) (fun w9 h9 p91 => ?_)
    obtain ⟨rfl, rfl⟩ := p91
    refine tw_goto rfl ?_
    exact tw_lret rfl (Or.inl ⟨p90, rfl⟩)
  · try dsimp only [tvI_i, tvJ_j, tvR_r] at p90
    refine tw_if_eq rfl (fun _ => ?_) (fun z => absurd z (by decide))
    refine tw_push rfl ?_
    exact tw_lret rfl (Or.inr ⟨p90, rfl⟩)
theorem g_memoSum {G : zG} (hG : G.1 = zProg) {h : zH} {m : Int32} (hs : tSh h) (hq : ∀ i, i < 20 → 0 ≤ (tA h 163 i).toInt) (hn : (tvI (tF h 111 71)).toInt ≤ 20) (hk71 : 0 ≤ (tvI (tF h 111 71)).toInt) : tC zTt G 252 [.ref 111, .int m] h (ph_ms 111 71 166 164 165 163 ixm m h) := by
  refine tC_in (by rw [hG]; rfl) (fun dp => ?_)
  refine tw_aload rfl rfl ?_
  refine tw_iload rfl rfl ?_
  refine tw_virt1 rfl (g_isMemo hG hs hk71) (fun w9 h9 p92 => ?_)
  obtain ⟨⟨p92, rfl⟩ | ⟨p92, rfl⟩, rfl⟩ := p92
  · try dsimp only [tvI_i, tvJ_j, tvR_r] at p92
    refine tw_if_eq rfl (fun z => absurd z (by decide)) (fun _ => ?_)
    refine tw_aload rfl rfl ?_
    refine tw_iload rfl rfl ?_
    refine tw_iload rfl rfl ?_
    refine tw_push rfl ?_
    refine tw_virt3 rfl (g_sumOf hG hs (hq _ (by rw [zclE]; omega))) (fun w9 h9 p93 => ?_)
    obtain ⟨rfl, rfl⟩ := p93
    refine tw_goto rfl ?_
    exact tw_lret rfl (Or.inl ⟨p92, rfl⟩)
  · try dsimp only [tvI_i, tvJ_j, tvR_r] at p92
    refine tw_if_eq rfl (fun _ => ?_) (fun z => absurd z (by decide))
    refine tw_push rfl ?_
    exact tw_lret rfl (Or.inr ⟨p92, rfl⟩)
theorem a_memoSum {m : Int32} {h h2 h3 : zH} {w w2 : Option Value} (hM : R_memos h) (hR : R_mrows h) (hS : R_msaved h) (hT : R_mcounts h) (hU : R_mcoins h) (e1 : tF h2 111 71 = tF h 111 71) (o1 : tA h2 163 = tA h 163) (o2 : tA h2 166 = tA h 166) (o3 : tA h2 164 = tA h 164) (o4 : tA h2 165 = tA h 165) (k1 : ph_ms 76 0 78 79 80 77 ixc m h w h2) (k2 : ph_ms 111 71 166 164 165 163 ixm m h2 w2 h3) : w2 = w := by
  unfold R_memos at hM
  unfold R_mrows R_msaved R_mcounts R_mcoins at *
  unfold ph_ms at k1 k2
  rw [e1, o1, o2, o3, o4, ← hM, ← hR, ← hS, ← hT, ← hU, ← ix_eq] at k2
  rcases k1 with ⟨c1, rfl⟩ | ⟨c1, rfl⟩ <;> rcases k2 with ⟨c2, rfl⟩ | ⟨c2, rfl⟩
  · rfl
  · exact absurd c1 c2
  · exact absurd c2 c1
  · rfl
