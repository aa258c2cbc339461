/-! what is answered: small helpers -/
def tBo (P : Prop) (w : Option Value) : Prop := (P ∧ w = some (.int 1)) ∨ (¬ P ∧ w = some (.int 0))
theorem tBo_i {P R : Prop} {w : Option Value} (e : P ↔ R) (k : tBo P w) : tBo R w := k.imp (fun z => ⟨e.mp z.1, z.2⟩) (fun z => ⟨fun y => z.1 (e.mpr y), z.2⟩)
theorem zpB_c {b : Int × Int} {r : List (Int × Int)} {xs : List Int32} (h : zpB (b :: r) xs) : ∃ x ys, xs = x :: ys ∧ (b.1 ≤ x.toInt ∧ x.toInt ≤ b.2) ∧ zpB r ys := by
  obtain ⟨lo, hi⟩ := b
  cases xs with
  | nil => exact h.elim
  | cons x ys => exact ⟨x, ys, rfl, h.1, h.2⟩
theorem zpB_n {xs : List Int32} (h : zpB [] xs) : xs = [] := by
  cases xs with
  | nil => rfl
  | cons x ys => exact h.elim
theorem zclx {x : Int32} (h : 0 ≤ x.toInt) : (x.toNatClampNeg : Int) = x.toInt := by
  show ((x.toInt.toNat : Nat) : Int) = _
  omega
theorem zclE {x : Int32} : x.toNatClampNeg = x.toInt.toNat := rfl
theorem zeqi {x y : Int32} {Y : Int} (hy : y.toInt = Y) (h : x = y) : x.toInt = Y := by rw [h]; exact hy
theorem zneq {x y : Int32} {Y : Int} (hy : y.toInt = Y) (h : ¬ x = y) : x.toInt ≠ Y := fun z => h (Int32.toInt_inj.mp (z.trans hy.symm))
theorem zsub1 {x : Int32} (h : 0 ≤ x.toInt) : (x - 1).toInt = x.toInt - 1 := by
  have := Int32.toInt_lt x
  rw [Int32.toInt_sub]
  exact Int.bmod_eq_of_le (by show (-2147483648 : Int) ≤ x.toInt - 1; omega) (by show x.toInt - 1 < (2147483648 : Int); omega)
def tRwl : List (Nat × Nat) := [(4, 5), (14, 15), (27, 28), (97, 98)]
def tRw (h : zH) : Prop := ∀ q ∈ tRwl, ∀ i, i < tN h q.1 → tO h q.1 i = some (q.2 + i)
theorem tRw_A {h : zH} {r i : Nat} {x : Int32} (k : tRw h) : tRw (tSA h r i x) := by unfold tRw; rw [tO_tSA, tN_tSA]; exact k
theorem tRw_J {h : zH} {r i : Nat} {x : Int64} (k : tRw h) : tRw (tSJ h r i x) := by unfold tRw; rw [tO_tSJ, tN_tSJ]; exact k
theorem tRw_F {h : zH} {r b : Nat} {w : Value} (k : tRw h) : tRw (tSF h r b w) := by unfold tRw; rw [tO_tSF, tN_tSF]; exact k
theorem tRw_at {h : zH} (k : tRw h) {p q : Nat} (hm : (p, q) ∈ tRwl) {i : Int32} (z : tInO h p i) : zrf (tO h p i.toNatClampNeg) = .ref (q + i.toNatClampNeg) := by
  rw [k (p, q) hm _ z.rg.2]
  rfl
theorem tfr_N {xs : Nat → Int32} {τ : List Nat} {h h2 : zH} {W : Nat → Nat → Bool} {p t : Nat} (hB : zBs xs τ h) (hf : yFr W τ h h2) (ht : zTG[p]? = some t) : tN h2 p = tN h p := by
  obtain ⟨ct, c, a1, a2, -⟩ := hB.1.2 _ _ (hB.2.1 _ _ ht)
  obtain ⟨c2, b1, b2⟩ := hf _ _ _ (hB.2.1 _ _ ht) a2
  unfold tN
  rw [a2, b1]
  match c, c2, b2 with
  | .inr (x, fs), .inr (y, gs), b2 => rfl
  | .inl (k, N, x), .inl (k2, N2, y), b2 => exact b2.2.1.symm
theorem tfr_Fs {xs : Nat → Int32} {τ : List Nat} {h h2 : zH} {W : Nat → Nat → Bool} {p t b : Nat} (hB : zBs xs τ h) (hf : yFr W τ h h2) (ht : τ[p]? = some t) (hW : W t b = false) : tF h2 p b = tF h p b := by
  obtain ⟨ct, c, a1, a2, -⟩ := hB.1.2 _ _ ht
  obtain ⟨c2, b1, b2⟩ := hf _ _ _ ht a2
  unfold tF
  rw [a2, b1]
  match c, c2, b2 with
  | .inr (x, fs), .inr (y, gs), b2 =>
    dsimp only
    rw [List.getD_eq_getElem?_getD, List.getD_eq_getElem?_getD, b2.2.2 b hW]
  | .inl (k, N, x), .inl (k2, N2, y), b2 => rfl
theorem car_tag {xs : Nat → Int32} {τ : List Nat} {h : zH} (hB : zBs xs τ h) {i r : Nat} (hi : (i : Int) < (tvI (tF h 36 4)).toInt) (hr : tO h 39 i = some r) : τ[r]? = some 150 := by
  have hn := (kb_36_4 hB).2
  obtain ⟨a, b, c⟩ := tkd_o hB (p := 39) (t := 15) rfl rfl
  obtain ⟨-, -, c3⟩ := c i (by omega)
  rw [hr] at c3
  rcases c3 with z | z | z
  · cases z
  · have : zoi (some r) = (r : Int) := rfl
    omega
  · exact z
theorem car_lt {xs : Nat → Int32} {τ : List Nat} {h : zH} (hB : zBs xs τ h) {i r : Nat} (hi : (i : Int) < (tvI (tF h 36 4)).toInt) (hr : tO h 39 i = some r) : r < h.length := by
  have z := car_tag hB hi hr
  rcases Nat.lt_or_ge r τ.length with q | q
  · have := hB.1.1; omega
  · rw [List.getElem?_eq_none q] at z; cases z
theorem car_ne {xs : Nat → Int32} {τ : List Nat} {h : zH} (hB : zBs xs τ h) {i r : Nat} (hi : (i : Int) < (tvI (tF h 36 4)).toInt) (hr : tO h 39 i = some r) {p t : Nat} (ht : zTG[p]? = some t) (hn : t ≠ 150) : r ≠ p := by
  intro e
  subst e
  have z := car_tag hB hi hr
  rw [hB.2.1 _ _ ht] at z
  cases z
  exact hn rfl
theorem zBs_len {xs : Nat → Int32} {τ : List Nat} {h : zH} (hB : zBs xs τ h) : 182 ≤ h.length := by
  have z := hB.2.1 181 149 rfl
  rcases Nat.lt_or_ge 181 τ.length with q | q
  · have := hB.1.1; omega
  · rw [List.getElem?_eq_none q] at z; cases z
/-- a count: what is told is the next of so many, or none -/
def phN (p b : Nat) (C : Prop) (h : zH) (w : Option Value) (h2 : zH) : Prop := (C ∧ w = some (tF h p b) ∧ tF h2 p b = .int (tvI (tF h p b) + 1)) ∨ (¬ C ∧ w = some (.int (-1)) ∧ tF h2 p b = tF h p b)
theorem phN_a {p b q c : Nat} {C D : Prop} {h h2 h3 : zH} {w w2 : Option Value} (hR : tF h p b = tF h q c) (e1 : tF h2 q c = tF h q c) (e2 : tF h3 p b = tF h2 p b) (hCD : C ↔ D) (k1 : phN p b C h w h2) (k2 : phN q c D h2 w2 h3) : w2 = w ∧ tF h3 p b = tF h3 q c := by
  rcases k1 with ⟨c1, rfl, f1⟩ | ⟨c1, rfl, f1⟩ <;> rcases k2 with ⟨c2, rfl, f2⟩ | ⟨c2, rfl, f2⟩
  · rw [e2, f1, f2, e1, hR]
    exact ⟨rfl, rfl⟩
  · exact absurd (hCD.mp c1) c2
  · exact absurd (hCD.mpr c2) c1
  · rw [e2, f1, f2, e1, hR]
    exact ⟨rfl, rfl⟩
theorem zi1 {x : Int32} : x + 1 - 1 = x := Int32.add_sub_cancel x 1
/-- a count and what is told in arrays at its place -/
def phA (p b : Nat) (C : Prop) (l : List (Nat × Int32)) (h : zH) (w : Option Value) (h2 : zH) : Prop := (C ∧ w = some (tF h p b) ∧ tF h2 p b = .int (tvI (tF h p b) + 1) ∧ ∀ q ∈ l, tA h2 q.1 = fun j => if j = (tvI (tF h p b)).toNatClampNeg then q.2 else tA h q.1 j) ∨ (¬ C ∧ w = some (.int (-1)) ∧ tF h2 p b = tF h p b ∧ ∀ q ∈ l, tA h2 q.1 = tA h q.1)
theorem phA_a {p b q c : Nat} {C D : Prop} {l m : List (Nat × Int32)} {h h2 h3 : zH} {w w2 : Option Value} (hR : tF h p b = tF h q c) (e1 : tF h2 q c = tF h q c) (e2 : tF h3 p b = tF h2 p b) (hCD : C ↔ D) (k1 : phA p b C l h w h2) (k2 : phA q c D m h2 w2 h3) : w2 = w ∧ tF h3 p b = tF h3 q c ∧ ∀ P Q v, (P, v) ∈ l → (Q, v) ∈ m → tA h P = tA h Q → tA h2 Q = tA h Q → tA h3 P = tA h2 P → tA h3 P = tA h3 Q := by
  rcases k1 with ⟨c1, rfl, f1, g1⟩ | ⟨c1, rfl, f1, g1⟩ <;> rcases k2 with ⟨c2, rfl, f2, g2⟩ | ⟨c2, rfl, f2, g2⟩
  · refine ⟨by rw [e1, hR], by rw [e2, f1, f2, e1, hR], fun P Q v hP hQ a1 a2 a3 => ?_⟩
    rw [a3, g1 _ hP, g2 _ hQ, e1, ← hR]
    dsimp only
    rw [a1, a2]
  · exact absurd (hCD.mp c1) c2
  · exact absurd (hCD.mpr c2) c1
  · refine ⟨rfl, by rw [e2, f1, f2, e1, hR], fun P Q v hP hQ a1 a2 a3 => ?_⟩
    have h1 := g1 _ hP
    have h2 := g2 _ hQ
    dsimp only at h1 h2
    rw [a3, h1, h2, a1, a2]
theorem tA_st {h : zH} {r i : Nat} {x : Int32} {kd : Nat} {z : Int32} (hf : tIn h r kd z) {f : Nat → Int32} (k : tA h r = f) : tA (tSA h r i x) r = fun j => if j = i then x else f j := by
  rw [tA_tSA hf.cell]
  funext j
  dsimp only
  rw [k]
  by_cases e : j = i
  · rw [if_pos ⟨rfl, e⟩, if_pos e]
  · rw [if_neg (fun z => e z.2), if_neg e]
theorem tA_n {h : zH} {r i p : Nat} {x : Int32} {f : Nat → Int32} (hn : p ≠ r) (k : tA h p = f) : tA (tSA h r i x) p = f := by rw [tA_nz hn]; exact k
theorem tA_ff {h : zH} {r b p : Nat} {w : Value} {f : Nat → Int32} (k : tA h p = f) : tA (tSF h r b w) p = f := by rw [tA_tSF]; exact k
theorem tA_jj {h : zH} {r i p : Nat} {x : Int64} {f : Nat → Int32} (k : tA h p = f) : tA (tSJ h r i x) p = f := by rw [tA_tSJ]; exact k
theorem tA_oo {h : zH} {r i p : Nat} {x : Option Nat} {f : Nat → Int32} (k : tA h p = f) : tA (tSO h r i x) p = f := by rw [tA_tSO]; exact k
def R_people (h : zH) : Prop := tF h 36 2 = tF h 111 2
theorem f_isWithin {G : zG} (hG : G.1 = zProg) {h : zH} {n lo hi : Int32} {LO HI : Int} (hlo : lo.toInt = LO) (hhi : hi.toInt = HI) : tC zTt G 158 [.int n, .int lo, .int hi] h (fun w h2 => tBo (LO ≤ n.toInt ∧ n.toInt ≤ HI) w ∧ h2 = h) := by
  refine tC_in (by rw [hG]; rfl) (fun dp => ?_)
  refine tw_iload rfl rfl ?_
  refine tw_iload rfl rfl ?_
  refine tw_ic_lt rfl (fun q1 => ?_) (fun q1 => ?_)
  · try dsimp only [tvI_i, tvJ_j, tvR_r] at q1
    refine tw_push rfl ?_
    exact tw_iret rfl ⟨Or.inr ⟨by omega, rfl⟩, rfl⟩
  · try dsimp only [tvI_i, tvJ_j, tvR_r] at q1
    refine tw_iload rfl rfl ?_
    refine tw_iload rfl rfl ?_
    refine tw_ic_gt rfl (fun q2 => ?_) (fun q2 => ?_)
    · try dsimp only [tvI_i, tvJ_j, tvR_r] at q2
      refine tw_push rfl ?_
      exact tw_iret rfl ⟨Or.inr ⟨by omega, rfl⟩, rfl⟩
    · try dsimp only [tvI_i, tvJ_j, tvR_r] at q2
      refine tw_push rfl ?_
      refine tw_goto rfl ?_
      exact tw_iret rfl ⟨Or.inl ⟨by omega, rfl⟩, rfl⟩
theorem f_isFirm {G : zG} (hG : G.1 = zProg) {h : zH} {n : Int32} : tC zTt G 160 [.int n] h (fun w h2 => tBo (0 ≤ n.toInt ∧ n.toInt ≤ 3) w ∧ h2 = h) := by
  refine tC_in (by rw [hG]; rfl) (fun dp => ?_)
  refine tw_iload rfl rfl ?_
  refine tw_push rfl ?_
  refine tw_push rfl ?_
  refine tw_stat3 rfl (f_isWithin hG (LO := 0) (HI := 3) (by decide) (by decide)) (fun w9 h9 p3 => ?_)
  obtain ⟨⟨p3, rfl⟩ | ⟨p3, rfl⟩, rfl⟩ := p3
  · try dsimp only [tvI_i, tvJ_j, tvR_r] at p3
    exact tw_iret rfl ⟨Or.inl ⟨p3, rfl⟩, rfl⟩
  · try dsimp only [tvI_i, tvJ_j, tvR_r] at p3
    exact tw_iret rfl ⟨Or.inr ⟨p3, rfl⟩, rfl⟩
theorem wret1 {h : zH} {p b : Nat} (k : tF h p b = .int (tvI (tF h p b))) : some (Value.int (tvI (tF h p b) + 1 - 1)) = some (tF h p b) := by rw [zi1]; exact congrArg some k.symm
theorem f_addPerson {G : zG} (hG : G.1 = zProg) {h : zH} {firm : Int32} (hs : tSh h) : tC zTt G 16 [.ref 36, .int firm] h (phN 36 2 ((tvI (tF h 36 2)).toInt ≠ 60) h) := by
  refine tC_in (by rw [hG]; rfl) (fun dp => ?_)
  refine tw_aload rfl rfl ?_
  refine tw_getS rfl (hi_36_2 hs) ?_
  refine tw_push rfl ?_
  refine tw_ic_ne rfl (fun q4 => ?_) (fun q4 => ?_)
  · try dsimp only [tvI_i, tvJ_j, tvR_r] at q4
    have q4i := zneq (Y := 60) (by decide) q4
    refine tw_aload rfl rfl ?_
    refine tw_getS rfl (hs_36_0 hs) ?_
    refine tw_aload rfl rfl ?_
    refine tw_getS rfl (hi_36_2 hs) ?_
    refine tw_iload rfl rfl ?_
    refine tw_iast rfl (fun f5 => ?_)
    refine tw_aload rfl rfl ?_
    refine tw_dup rfl ?_
    refine tw_getS rfl (tF_a (hi_36_2 hs)) ?_
    refine tw_dup_x1 rfl ?_
    refine tw_push rfl ?_
    refine tw_iadd rfl ?_
    refine tw_put rfl (fun f6 => ?_)
    exact tw_iret rfl (Or.inl ⟨by omega, congrArg some (hi_36_2 hs).symm, (tF_same f6)⟩)
  · try dsimp only [tvI_i, tvJ_j, tvR_r] at q4
    have q4i := zeqi (Y := 60) (by decide) q4
    refine tw_push rfl ?_
    exact tw_iret rfl (Or.inr ⟨by omega, rfl, rfl⟩)
theorem f_person {G : zG} (hG : G.1 = zProg) {h : zH} {firm : Int32} (hs : tSh h) : tC zTt G 111 [.ref 0, .int firm] h (phN 36 2 ((-1 ≤ firm.toInt ∧ firm.toInt ≤ 3) ∧ (tvI (tF h 36 2)).toInt ≠ 60) h) := by
  refine tC_in (by rw [hG]; rfl) (fun dp => ?_)
  refine tw_iload rfl rfl ?_
  refine tw_push rfl ?_
  refine tw_ic_eq rfl (fun q7 => ?_) (fun q7 => ?_)
  · try dsimp only [tvI_i, tvJ_j, tvR_r] at q7
    have q7i := zeqi (Y := (-1)) (by decide) q7
    refine tw_aload rfl rfl ?_
    refine tw_getS rfl (hs_0_1 hs) ?_
    refine tw_iload rfl rfl ?_
    refine tw_virt1 rfl (f_addPerson hG  hs) (fun w9 h9 p8 => ?_)
    rcases p8 with ⟨p8, rfl, p8e⟩ | ⟨p8, rfl, p8e⟩
    · refine tw_goto rfl ?_
      exact tw_iret rfl (Or.inl ⟨by omega, congrArg some (hi_36_2 hs).symm, p8e⟩)
    · refine tw_goto rfl ?_
      exact tw_iret rfl (Or.inr ⟨by omega, rfl, p8e⟩)
  · try dsimp only [tvI_i, tvJ_j, tvR_r] at q7
    have q7i := zneq (Y := (-1)) (by decide) q7
    refine tw_iload rfl rfl ?_
    refine tw_stat1 rfl (f_isFirm hG) (fun w9 h9 p9 => ?_)
    obtain ⟨⟨p9, rfl⟩ | ⟨p9, rfl⟩, rfl⟩ := p9
    · try dsimp only [tvI_i, tvJ_j, tvR_r] at p9
      refine tw_if_eq rfl (fun z => absurd z (by decide)) (fun _ => ?_)
      refine tw_aload rfl rfl ?_
      refine tw_getS rfl (hs_0_1 hs) ?_
      refine tw_iload rfl rfl ?_
      refine tw_virt1 rfl (f_addPerson hG  hs) (fun w9 h9 p10 => ?_)
      rcases p10 with ⟨p10, rfl, p10e⟩ | ⟨p10, rfl, p10e⟩
      · refine tw_goto rfl ?_
        exact tw_iret rfl (Or.inl ⟨by omega, congrArg some (hi_36_2 hs).symm, p10e⟩)
      · refine tw_goto rfl ?_
        exact tw_iret rfl (Or.inr ⟨by omega, rfl, p10e⟩)
    · try dsimp only [tvI_i, tvJ_j, tvR_r] at p9
      refine tw_if_eq rfl (fun _ => ?_) (fun z => absurd z (by decide))
      refine tw_push rfl ?_
      exact tw_iret rfl (Or.inr ⟨by omega, rfl, rfl⟩)
theorem f_in {G : zG} (hG : G.1 = zProg) {h : zH} {x lo hi : Int64} {X LO HI : Int} (hx : x.toInt = X) (hlo : lo.toInt = LO) (hhi : hi.toInt = HI) : tC zTt G 171 [.long x, .long lo, .long hi] h (fun w h2 => tBo (LO ≤ X ∧ X ≤ HI) w ∧ h2 = h) := by
  refine tC_in (by rw [hG]; rfl) (fun dp => ?_)
  refine tw_lload rfl rfl ?_
  refine tw_lload rfl rfl ?_
  refine tw_lc_lt rfl rfl (fun q11 => ?_) (fun q11 => ?_)
  · try dsimp only [tvI_i, tvJ_j, tvR_r] at q11
    refine tw_push rfl ?_
    exact tw_iret rfl ⟨Or.inr ⟨by omega, rfl⟩, rfl⟩
  · try dsimp only [tvI_i, tvJ_j, tvR_r] at q11
    refine tw_lload rfl rfl ?_
    refine tw_lload rfl rfl ?_
    refine tw_lc_gt rfl rfl (fun q12 => ?_) (fun q12 => ?_)
    · try dsimp only [tvI_i, tvJ_j, tvR_r] at q12
      refine tw_push rfl ?_
      exact tw_iret rfl ⟨Or.inr ⟨by omega, rfl⟩, rfl⟩
    · try dsimp only [tvI_i, tvJ_j, tvR_r] at q12
      refine tw_push rfl ?_
      refine tw_goto rfl ?_
      exact tw_iret rfl ⟨Or.inl ⟨by omega, rfl⟩, rfl⟩
theorem g_person {G : zG} (hG : G.1 = zProg) {h : zH} {firm : Int32} (hs : tSh h)  : tC zTt G 179 [.ref 111, .int firm] h (phN 111 2 ((-1 ≤ firm.toInt ∧ firm.toInt ≤ 3) ∧ (tvI (tF h 111 2)).toInt ≠ 60) h) := by
  refine tC_in (by rw [hG]; rfl) (fun dp => ?_)
  refine tw_aload rfl rfl ?_
  refine tw_getS rfl (hi_111_2 hs) ?_
  refine tw_push rfl ?_
  refine tw_ic_eq rfl (fun q13 => ?_) (fun q13 => ?_)
  · try dsimp only [tvI_i, tvJ_j, tvR_r] at q13
    have q13i := zeqi (Y := 60) (by decide) q13
    refine tw_push rfl ?_
    exact tw_iret rfl (Or.inr ⟨by omega, rfl, rfl⟩)
  · try dsimp only [tvI_i, tvJ_j, tvR_r] at q13
    have q13i := zneq (Y := 60) (by decide) q13
    refine tw_iload rfl rfl ?_
    refine tw_i2l rfl ?_
    refine tw_push rfl ?_
    refine tw_push rfl ?_
    refine tw_stat3 rfl (f_in hG  (LO := (-1)) (HI := 3) (Int32.toInt_toInt64 _) (by decide) (by decide)) (fun w9 h9 p14 => ?_)
    obtain ⟨⟨p14, rfl⟩ | ⟨p14, rfl⟩, rfl⟩ := p14
    · try dsimp only [tvI_i, tvJ_j, tvR_r] at p14
      refine tw_if_ne rfl (fun _ => ?_) (fun z => absurd z (by decide))
      refine tw_aload rfl rfl ?_
      refine tw_getS rfl (hs_111_7 hs) ?_
      refine tw_aload rfl rfl ?_
      refine tw_getS rfl (hi_111_2 hs) ?_
      refine tw_iload rfl rfl ?_
      refine tw_iast rfl (fun f15 => ?_)
      refine tw_aload rfl rfl ?_
      refine tw_dup rfl ?_
      refine tw_getS rfl (tF_a (hi_111_2 hs)) ?_
      refine tw_push rfl ?_
      refine tw_iadd rfl ?_
      refine tw_put rfl (fun f16 => ?_)
      refine tw_aload rfl rfl ?_
      refine tw_getS rfl (tF_same f16) ?_
      refine tw_push rfl ?_
      refine tw_isub rfl ?_
      exact tw_iret rfl (Or.inl ⟨by omega, wret1 (hi_111_2 hs), (tF_same f16)⟩)
    · try dsimp only [tvI_i, tvJ_j, tvR_r] at p14
      refine tw_if_ne rfl (fun z => absurd z (by decide)) (fun _ => ?_)
      refine tw_push rfl ?_
      exact tw_iret rfl (Or.inr ⟨by omega, rfl, rfl⟩)
theorem a_person {firm : Int32} {h h2 h3 : zH} {w w2 : Option Value}  (hR : R_people h) (e1 : tF h2 111 2 = tF h 111 2) (e2 : tF h3 36 2 = tF h2 36 2) (k1 : phN 36 2 ((-1 ≤ firm.toInt ∧ firm.toInt ≤ 3) ∧ (tvI (tF h 36 2)).toInt ≠ 60) h w h2) (k2 : phN 111 2 ((-1 ≤ firm.toInt ∧ firm.toInt ≤ 3) ∧ (tvI (tF h2 111 2)).toInt ≠ 60) h2 w2 h3) : w2 = w ∧ R_people h3 := by
  refine phN_a hR e1 e2 ?_ k1 k2
  have hR2 := hR
  unfold R_people at hR2
  rw [e1, ← hR2]
def R_memos (h : zH) : Prop := tF h 76 0 = tF h 111 71
theorem f_hasPerson {G : zG} (hG : G.1 = zProg) {h : zH} {n : Int32} (hs : tSh h) : tC zTt G 15 [.ref 36, .int n] h (fun w h2 => tBo (0 ≤ n.toInt ∧ n.toInt < (tvI (tF h 36 2)).toInt) w ∧ h2 = h) := by
  refine tC_in (by rw [hG]; rfl) (fun dp => ?_)
  refine tw_iload rfl rfl ?_
  refine tw_if_lt rfl (fun q17 => ?_) (fun q17 => ?_)
  · try dsimp only [tvI_i, tvJ_j, tvR_r] at q17
    refine tw_push rfl ?_
    exact tw_iret rfl ⟨Or.inr ⟨by omega, rfl⟩, rfl⟩
  · try dsimp only [tvI_i, tvJ_j, tvR_r] at q17
    refine tw_iload rfl rfl ?_
    refine tw_aload rfl rfl ?_
    refine tw_getS rfl (hi_36_2 hs) ?_
    refine tw_ic_ge rfl (fun q18 => ?_) (fun q18 => ?_)
    · try dsimp only [tvI_i, tvJ_j, tvR_r] at q18
      refine tw_push rfl ?_
      exact tw_iret rfl ⟨Or.inr ⟨by omega, rfl⟩, rfl⟩
    · try dsimp only [tvI_i, tvJ_j, tvR_r] at q18
      refine tw_push rfl ?_
      refine tw_goto rfl ?_
      exact tw_iret rfl ⟨Or.inl ⟨by omega, rfl⟩, rfl⟩
theorem f_addMemo {G : zG} (hG : G.1 = zProg) {h : zH}  (hs : tSh h) : tC zTt G 39 [.ref 76] h (phN 76 0 ((tvI (tF h 76 0)).toInt ≠ 20) h) := by
  refine tC_in (by rw [hG]; rfl) (fun dp => ?_)
  refine tw_aload rfl rfl ?_
  refine tw_getS rfl (hi_76_0 hs) ?_
  refine tw_push rfl ?_
  refine tw_ic_ne rfl (fun q19 => ?_) (fun q19 => ?_)
  · try dsimp only [tvI_i, tvJ_j, tvR_r] at q19
    have q19i := zneq (Y := 20) (by decide) q19
    refine tw_aload rfl rfl ?_
    refine tw_dup rfl ?_
    refine tw_getS rfl (hi_76_0 hs) ?_
    refine tw_dup_x1 rfl ?_
    refine tw_push rfl ?_
    refine tw_iadd rfl ?_
    refine tw_put rfl (fun f20 => ?_)
    exact tw_iret rfl (Or.inl ⟨by omega, congrArg some (hi_76_0 hs).symm, (tF_same f20)⟩)
  · try dsimp only [tvI_i, tvJ_j, tvR_r] at q19
    have q19i := zeqi (Y := 20) (by decide) q19
    refine tw_push rfl ?_
    refine tw_goto rfl ?_
    exact tw_iret rfl (Or.inr ⟨by omega, rfl, rfl⟩)
theorem f_memo {G : zG} (hG : G.1 = zProg) {h : zH} {person : Int32} (hs : tSh h) : tC zTt G 136 [.ref 0, .int person] h (phN 76 0 ((0 ≤ person.toInt ∧ person.toInt < (tvI (tF h 36 2)).toInt) ∧ (tvI (tF h 76 0)).toInt ≠ 20) h) := by
  refine tC_in (by rw [hG]; rfl) (fun dp => ?_)
  refine tw_aload rfl rfl ?_
  refine tw_getS rfl (hs_0_1 hs) ?_
  refine tw_iload rfl rfl ?_
  refine tw_virt1 rfl (f_hasPerson hG hs) (fun w9 h9 p21 => ?_)
  obtain ⟨⟨p21, rfl⟩ | ⟨p21, rfl⟩, rfl⟩ := p21
  · try dsimp only [tvI_i, tvJ_j, tvR_r] at p21
    refine tw_if_eq rfl (fun z => absurd z (by decide)) (fun _ => ?_)
    refine tw_aload rfl rfl ?_
    refine tw_getS rfl (hs_0_6 hs) ?_
    refine tw_virt0 rfl (f_addMemo hG  hs) (fun w9 h9 p22 => ?_)
    rcases p22 with ⟨p22, rfl, p22e⟩ | ⟨p22, rfl, p22e⟩
    · refine tw_goto rfl ?_
      exact tw_iret rfl (Or.inl ⟨by omega, congrArg some (hi_76_0 hs).symm, p22e⟩)
    · refine tw_goto rfl ?_
      exact tw_iret rfl (Or.inr ⟨by omega, rfl, p22e⟩)
  · try dsimp only [tvI_i, tvJ_j, tvR_r] at p21
    refine tw_if_eq rfl (fun _ => ?_) (fun z => absurd z (by decide))
    refine tw_push rfl ?_
    exact tw_iret rfl (Or.inr ⟨by omega, rfl, rfl⟩)
theorem g_isPerson {G : zG} (hG : G.1 = zProg) {h : zH} {n : Int32} (hs : tSh h) (hk : 0 ≤ (tvI (tF h 111 2)).toInt) : tC zTt G 175 [.ref 111, .int n] h (fun w h2 => tBo (0 ≤ n.toInt ∧ n.toInt < (tvI (tF h 111 2)).toInt) w ∧ h2 = h) := by
  refine tC_in (by rw [hG]; rfl) (fun dp => ?_)
  refine tw_iload rfl rfl ?_
  refine tw_i2l rfl ?_
  refine tw_push rfl ?_
  refine tw_aload rfl rfl ?_
  refine tw_getS rfl (hi_111_2 hs) ?_
  refine tw_push rfl ?_
  refine tw_isub rfl ?_
  refine tw_i2l rfl ?_
  refine tw_stat3 rfl (f_in hG  (LO := 0)  (Int32.toInt_toInt64 _) (by decide) (Int32.toInt_toInt64 _)) (fun w9 h9 p23 => ?_)
  obtain ⟨⟨p23, rfl⟩ | ⟨p23, rfl⟩, rfl⟩ := p23
  · try dsimp only [tvI_i, tvJ_j, tvR_r] at p23
    exact tw_iret rfl ⟨Or.inl ⟨by have e := zsub1 hk; have := p23; omega, rfl⟩, rfl⟩
  · try dsimp only [tvI_i, tvJ_j, tvR_r] at p23
    exact tw_iret rfl ⟨Or.inr ⟨by have e := zsub1 hk; have := p23; omega, rfl⟩, rfl⟩
theorem g_memo {G : zG} (hG : G.1 = zProg) {h : zH} {person : Int32} (hs : tSh h) (hk2 : 0 ≤ (tvI (tF h 111 2)).toInt) : tC zTt G 248 [.ref 111, .int person] h (phN 111 71 ((0 ≤ person.toInt ∧ person.toInt < (tvI (tF h 111 2)).toInt) ∧ (tvI (tF h 111 71)).toInt ≠ 20) h) := by
  refine tC_in (by rw [hG]; rfl) (fun dp => ?_)
  refine tw_aload rfl rfl ?_
  refine tw_getS rfl (hi_111_71 hs) ?_
  refine tw_push rfl ?_
  refine tw_ic_eq rfl (fun q24 => ?_) (fun q24 => ?_)
  · try dsimp only [tvI_i, tvJ_j, tvR_r] at q24
    have q24i := zeqi (Y := 20) (by decide) q24
    refine tw_push rfl ?_
    exact tw_iret rfl (Or.inr ⟨by omega, rfl, rfl⟩)
  · try dsimp only [tvI_i, tvJ_j, tvR_r] at q24
    have q24i := zneq (Y := 20) (by decide) q24
    refine tw_aload rfl rfl ?_
    refine tw_iload rfl rfl ?_
    refine tw_virt1 rfl (g_isPerson hG hs hk2) (fun w9 h9 p25 => ?_)
    obtain ⟨⟨p25, rfl⟩ | ⟨p25, rfl⟩, rfl⟩ := p25
    · try dsimp only [tvI_i, tvJ_j, tvR_r] at p25
      refine tw_if_ne rfl (fun _ => ?_) (fun z => absurd z (by decide))
      refine tw_aload rfl rfl ?_
      refine tw_dup rfl ?_
      refine tw_getS rfl (hi_111_71 hs) ?_
      refine tw_push rfl ?_
      refine tw_iadd rfl ?_
      refine tw_put rfl (fun f26 => ?_)
      refine tw_aload rfl rfl ?_
      refine tw_getS rfl (tF_same f26) ?_
      refine tw_push rfl ?_
      refine tw_isub rfl ?_
      exact tw_iret rfl (Or.inl ⟨by omega, wret1 (hi_111_71 hs), (tF_same f26)⟩)
    · try dsimp only [tvI_i, tvJ_j, tvR_r] at p25
      refine tw_if_ne rfl (fun z => absurd z (by decide)) (fun _ => ?_)
      refine tw_push rfl ?_
      exact tw_iret rfl (Or.inr ⟨by omega, rfl, rfl⟩)
theorem a_memo {person : Int32} {h h2 h3 : zH} {w w2 : Option Value} (h_people : R_people h) (hR : R_memos h) (e1 : tF h2 111 71 = tF h 111 71) (e2 : tF h3 76 0 = tF h2 76 0) (o_people : tF h2 111 2 = tF h 111 2) (k1 : phN 76 0 ((0 ≤ person.toInt ∧ person.toInt < (tvI (tF h 36 2)).toInt) ∧ (tvI (tF h 76 0)).toInt ≠ 20) h w h2) (k2 : phN 111 71 ((0 ≤ person.toInt ∧ person.toInt < (tvI (tF h2 111 2)).toInt) ∧ (tvI (tF h2 111 71)).toInt ≠ 20) h2 w2 h3) : w2 = w ∧ R_memos h3 := by
  refine phN_a hR e1 e2 ?_ k1 k2
  have hR2 := hR
  unfold R_memos at hR2
  unfold R_people at h_people
  rw [o_people, ← h_people]
  rw [e1, ← hR2]
def R_mrows (h : zH) : Prop := tA h 77 = tA h 163
def R_msaved (h : zH) : Prop := tA h 78 = tA h 166
def R_mcounts (h : zH) : Prop := tA h 79 = tA h 164
def R_mcoins (h : zH) : Prop := tA h 80 = tA h 165
theorem f_hasMemo {G : zG} (hG : G.1 = zProg) {h : zH} {n : Int32} (hs : tSh h) : tC zTt G 37 [.ref 76, .int n] h (fun w h2 => tBo (0 ≤ n.toInt ∧ n.toInt < (tvI (tF h 76 0)).toInt) w ∧ h2 = h) := by
  refine tC_in (by rw [hG]; rfl) (fun dp => ?_)
  refine tw_iload rfl rfl ?_
  refine tw_if_lt rfl (fun q27 => ?_) (fun q27 => ?_)
  · try dsimp only [tvI_i, tvJ_j, tvR_r] at q27
    refine tw_push rfl ?_
    exact tw_iret rfl ⟨Or.inr ⟨by omega, rfl⟩, rfl⟩
  · try dsimp only [tvI_i, tvJ_j, tvR_r] at q27
    refine tw_iload rfl rfl ?_
    refine tw_aload rfl rfl ?_
    refine tw_getS rfl (hi_76_0 hs) ?_
    refine tw_ic_ge rfl (fun q28 => ?_) (fun q28 => ?_)
    · try dsimp only [tvI_i, tvJ_j, tvR_r] at q28
      refine tw_push rfl ?_
      exact tw_iret rfl ⟨Or.inr ⟨by omega, rfl⟩, rfl⟩
    · try dsimp only [tvI_i, tvJ_j, tvR_r] at q28
      refine tw_push rfl ?_
      refine tw_goto rfl ?_
      exact tw_iret rfl ⟨Or.inl ⟨by omega, rfl⟩, rfl⟩
def ixc (m x : Int32) : Int32 := m * 6 + x
def ixm (m x : Int32) : Int32 := 6 * m + x
theorem ix_eq : ixc = ixm := by
  funext m x
  unfold ixc ixm
  rw [Int32.mul_comm]
def ph_rw (a b q S T U : Nat) (ix : Int32 → Int32 → Int32) (m z c k : Int32) (h : zH) (w : Option Value) (h2 : zH) : Prop := (((0 ≤ m.toInt ∧ m.toInt < (tvI (tF h a b)).toInt) ∧ ((0 ≤ c.toInt ∧ c.toInt ≤ 999999) ∧ (0 ≤ k.toInt ∧ k.toInt ≤ 9999999)) ∧ ¬ (tA h q m.toNatClampNeg).toInt = 6) ∧ w = some (.int (tA h q m.toNatClampNeg)) ∧ tA h2 q = (fun j => if j = m.toNatClampNeg then tA h q m.toNatClampNeg + 1 else tA h q j) ∧ tA h2 S = (fun j => if j = (ix m (tA h q m.toNatClampNeg)).toNatClampNeg then z else tA h S j) ∧ tA h2 T = (fun j => if j = (ix m (tA h q m.toNatClampNeg)).toNatClampNeg then c else tA h T j) ∧ tA h2 U = (fun j => if j = (ix m (tA h q m.toNatClampNeg)).toNatClampNeg then k else tA h U j)) ∨ (¬ ((0 ≤ m.toInt ∧ m.toInt < (tvI (tF h a b)).toInt) ∧ ((0 ≤ c.toInt ∧ c.toInt ≤ 999999) ∧ (0 ≤ k.toInt ∧ k.toInt ≤ 9999999)) ∧ ¬ (tA h q m.toNatClampNeg).toInt = 6) ∧ w = some (.int (-1)) ∧ tA h2 q = tA h q ∧ tA h2 S = tA h S ∧ tA h2 T = tA h T ∧ tA h2 U = tA h U)
theorem f_addRow {G : zG} (hG : G.1 = zProg) {h : zH} {m z c k : Int32} (bz : 0 ≤ z.toInt ∧ z.toInt ≤ 1) (hs : tSh h) : tC zTt G 40 [.ref 76, .int m, .int z, .int c, .int k] h (fun w h2 => (¬ (tA h 77 m.toNatClampNeg).toInt = 6 ∧ w = some (.int (tA h 77 m.toNatClampNeg)) ∧ tA h2 77 = (fun j => if j = m.toNatClampNeg then tA h 77 m.toNatClampNeg + 1 else tA h 77 j) ∧ tA h2 78 = (fun j => if j = (ixc m (tA h 77 m.toNatClampNeg)).toNatClampNeg then z else tA h 78 j) ∧ tA h2 79 = (fun j => if j = (ixc m (tA h 77 m.toNatClampNeg)).toNatClampNeg then c else tA h 79 j) ∧ tA h2 80 = (fun j => if j = (ixc m (tA h 77 m.toNatClampNeg)).toNatClampNeg then k else tA h 80 j)) ∨ (¬ ¬ (tA h 77 m.toNatClampNeg).toInt = 6 ∧ w = some (.int (-1)) ∧ tA h2 77 = tA h 77 ∧ tA h2 78 = tA h 78 ∧ tA h2 79 = tA h 79 ∧ tA h2 80 = tA h 80)) := by
  refine tC_in (by rw [hG]; rfl) (fun dp => ?_)
  refine tw_aload rfl rfl ?_
  refine tw_getS rfl (hs_76_1 hs) ?_
  refine tw_iload rfl rfl ?_
  refine tw_iald rfl (fun f29 => ?_)
  refine tw_istore rfl ?_
  refine tw_iload rfl rfl ?_
  refine tw_push rfl ?_
  refine tw_ic_ne rfl (fun q30 => ?_) (fun q30 => ?_)
  · try dsimp only [tvI_i, tvJ_j, tvR_r] at q30
    have q30i := zneq (Y := 6) (by decide) q30
    refine tw_iload rfl rfl ?_
    refine tw_push rfl ?_
    refine tw_imul rfl ?_
    refine tw_iload rfl rfl ?_
    refine tw_iadd rfl ?_
    refine tw_istore rfl ?_
    refine tw_aload rfl rfl ?_
    refine tw_getS rfl (hs_76_2 hs) ?_
    refine tw_iload rfl rfl ?_
    refine tw_iload rfl rfl ?_
    refine tw_bastZ bz rfl (fun kf31 f31 => ?_)
    refine tw_aload rfl rfl ?_
    refine tw_getS rfl (hs_76_3 (tSh_SA hs)) ?_
    refine tw_iload rfl rfl ?_
    refine tw_iload rfl rfl ?_
    refine tw_iast rfl (fun f32 => ?_)
    refine tw_aload rfl rfl ?_
    refine tw_getS rfl (hs_76_4 (tSh_SA (tSh_SA hs))) ?_
    refine tw_iload rfl rfl ?_
    refine tw_iload rfl rfl ?_
    refine tw_iast rfl (fun f33 => ?_)
    refine tw_aload rfl rfl ?_
    refine tw_getS rfl (hs_76_1 (tSh_SA (tSh_SA (tSh_SA hs)))) ?_
    refine tw_iload rfl rfl ?_
    refine tw_dup2 rfl ?_
    refine tw_ialdS rfl (fun _ => (tA_a (by decide) (tA_a (by decide) (tA_a (by decide) rfl)))) (fun f34 => ?_)
    refine tw_push rfl ?_
    refine tw_iadd rfl ?_
    refine tw_iast rfl (fun f35 => ?_)
    refine tw_iload rfl rfl ?_
    exact tw_iret rfl (Or.inl ⟨by omega, rfl, (tA_st f35 (tA_n (by decide) (tA_n (by decide) (tA_n (by decide) rfl)))), (tA_n (by decide) (tA_n (by decide) (tA_n (by decide) (tA_st f31 rfl)))), (tA_n (by decide) (tA_n (by decide) (tA_st f32 (tA_n (by decide) rfl)))), (tA_n (by decide) (tA_st f33 (tA_n (by decide) (tA_n (by decide) rfl))))⟩)
  · try dsimp only [tvI_i, tvJ_j, tvR_r] at q30
    have q30i := zeqi (Y := 6) (by decide) q30
    refine tw_push rfl ?_
    exact tw_iret rfl (Or.inr ⟨by omega, rfl, rfl, rfl, rfl, rfl⟩)
theorem f_row {G : zG} (hG : G.1 = zProg) {h : zH} {m z c k : Int32} (bz : 0 ≤ z.toInt ∧ z.toInt ≤ 1) (hs : tSh h) : tC zTt G 137 [.ref 0, .int m, .int z, .int c, .int k] h (ph_rw 76 0 77 78 79 80 ixc m z c k h) := by
  refine tC_in (by rw [hG]; rfl) (fun dp => ?_)
  refine tw_aload rfl rfl ?_
  refine tw_getS rfl (hs_0_6 hs) ?_
  refine tw_iload rfl rfl ?_
  refine tw_virt1 rfl (f_hasMemo hG hs) (fun w9 h9 p36 => ?_)
  obtain ⟨⟨p36, rfl⟩ | ⟨p36, rfl⟩, rfl⟩ := p36
  · try dsimp only [tvI_i, tvJ_j, tvR_r] at p36
    refine tw_if_eq rfl (fun z => absurd z (by decide)) (fun _ => ?_)
    refine tw_iload rfl rfl ?_
    refine tw_push rfl ?_
    refine tw_push rfl ?_
    refine tw_stat3 rfl (f_isWithin hG (LO := 0) (HI := 999999) (by decide) (by decide)) (fun w9 h9 p37 => ?_)
    obtain ⟨⟨p37, rfl⟩ | ⟨p37, rfl⟩, rfl⟩ := p37
    · try dsimp only [tvI_i, tvJ_j, tvR_r] at p37
      refine tw_if_eq rfl (fun z => absurd z (by decide)) (fun _ => ?_)
      refine tw_iload rfl rfl ?_
      refine tw_push rfl ?_
      refine tw_push rfl ?_
      refine tw_stat3 rfl (f_isWithin hG (LO := 0) (HI := 9999999) (by decide) (by decide)) (fun w9 h9 p38 => ?_)
      obtain ⟨⟨p38, rfl⟩ | ⟨p38, rfl⟩, rfl⟩ := p38
      · try dsimp only [tvI_i, tvJ_j, tvR_r] at p38
        refine tw_if_eq rfl (fun z => absurd z (by decide)) (fun _ => ?_)
        refine tw_push rfl ?_
        refine tw_goto rfl ?_
        refine tw_istore rfl ?_
        refine tw_iload rfl rfl ?_
        refine tw_if_eq rfl (fun z => absurd z (by decide)) (fun _ => ?_)
        refine tw_aload rfl rfl ?_
        refine tw_getS rfl (hs_0_6 hs) ?_
        refine tw_iload rfl rfl ?_
        refine tw_iload rfl rfl ?_
        refine tw_iload rfl rfl ?_
        refine tw_iload rfl rfl ?_
        refine tw_virt4 rfl (f_addRow hG bz hs) (fun w9 h9 p39 => ?_)
        rcases p39 with ⟨p39, rfl, p39e⟩ | ⟨p39, rfl, p39e⟩
        · refine tw_goto rfl ?_
          exact tw_iret rfl (Or.inl ⟨by omega, rfl, p39e⟩)
        · refine tw_goto rfl ?_
          exact tw_iret rfl (Or.inr ⟨by omega, rfl, p39e⟩)
      · try dsimp only [tvI_i, tvJ_j, tvR_r] at p38
        refine tw_if_eq rfl (fun _ => ?_) (fun z => absurd z (by decide))
        refine tw_push rfl ?_
        refine tw_istore rfl ?_
        refine tw_iload rfl rfl ?_
        refine tw_if_eq rfl (fun _ => ?_) (fun z => absurd z (by decide))
        refine tw_push rfl ?_
        exact tw_iret rfl (Or.inr ⟨by omega, rfl, rfl, rfl, rfl, rfl⟩)
    · try dsimp only [tvI_i, tvJ_j, tvR_r] at p37
      refine tw_if_eq rfl (fun _ => ?_) (fun z => absurd z (by decide))
      refine tw_push rfl ?_
      refine tw_istore rfl ?_
      refine tw_iload rfl rfl ?_
      refine tw_if_eq rfl (fun _ => ?_) (fun z => absurd z (by decide))
      refine tw_push rfl ?_
      exact tw_iret rfl (Or.inr ⟨by omega, rfl, rfl, rfl, rfl, rfl⟩)
  · try dsimp only [tvI_i, tvJ_j, tvR_r] at p36
    refine tw_if_eq rfl (fun _ => ?_) (fun z => absurd z (by decide))
    refine tw_push rfl ?_
    refine tw_istore rfl ?_
    refine tw_iload rfl rfl ?_
    refine tw_if_eq rfl (fun _ => ?_) (fun z => absurd z (by decide))
    refine tw_push rfl ?_
    exact tw_iret rfl (Or.inr ⟨by omega, rfl, rfl, rfl, rfl, rfl⟩)
theorem g_isMemo {G : zG} (hG : G.1 = zProg) {h : zH} {n : Int32} (hs : tSh h) (hk : 0 ≤ (tvI (tF h 111 71)).toInt) : tC zTt G 249 [.ref 111, .int n] h (fun w h2 => tBo (0 ≤ n.toInt ∧ n.toInt < (tvI (tF h 111 71)).toInt) w ∧ h2 = h) := by
  refine tC_in (by rw [hG]; rfl) (fun dp => ?_)
  refine tw_iload rfl rfl ?_
  refine tw_i2l rfl ?_
  refine tw_push rfl ?_
  refine tw_aload rfl rfl ?_
  refine tw_getS rfl (hi_111_71 hs) ?_
  refine tw_push rfl ?_
  refine tw_isub rfl ?_
  refine tw_i2l rfl ?_
  refine tw_stat3 rfl (f_in hG  (LO := 0)  (Int32.toInt_toInt64 _) (by decide) (Int32.toInt_toInt64 _)) (fun w9 h9 p40 => ?_)
  obtain ⟨⟨p40, rfl⟩ | ⟨p40, rfl⟩, rfl⟩ := p40
  · try dsimp only [tvI_i, tvJ_j, tvR_r] at p40
    exact tw_iret rfl ⟨Or.inl ⟨by have e := zsub1 hk; have := p40; omega, rfl⟩, rfl⟩
  · try dsimp only [tvI_i, tvJ_j, tvR_r] at p40
    exact tw_iret rfl ⟨Or.inr ⟨by have e := zsub1 hk; have := p40; omega, rfl⟩, rfl⟩
theorem wrow {h : zH} {r i : Nat} {x : Int32} {kd : Nat} {z : Int32} (hf : tIn h r kd z) {y : Int32} (hx : x = y + 1) : some (Value.int (tA (tSA h r i x) r i - 1)) = some (.int y) := by
  rw [tA_tSA hf.cell]
  dsimp only
  rw [if_pos ⟨rfl, rfl⟩, hx, zi1]
theorem g_row {G : zG} (hG : G.1 = zProg) {h : zH} {m z c k : Int32} (bz : 0 ≤ z.toInt ∧ z.toInt ≤ 1) (hs : tSh h) (hk71 : 0 ≤ (tvI (tF h 111 71)).toInt) : tC zTt G 250 [.ref 111, .int m, .int z, .int c, .int k] h (ph_rw 111 71 163 166 164 165 ixm m z c k h) := by
  refine tC_in (by rw [hG]; rfl) (fun dp => ?_)
  refine tw_aload rfl rfl ?_
  refine tw_iload rfl rfl ?_
  refine tw_virt1 rfl (g_isMemo hG hs hk71) (fun w9 h9 p41 => ?_)
  obtain ⟨⟨p41, rfl⟩ | ⟨p41, rfl⟩, rfl⟩ := p41
  · try dsimp only [tvI_i, tvJ_j, tvR_r] at p41
    refine tw_if_eq rfl (fun z => absurd z (by decide)) (fun _ => ?_)
    refine tw_aload rfl rfl ?_
    refine tw_getS rfl (hs_111_72 hs) ?_
    refine tw_iload rfl rfl ?_
    refine tw_iald rfl (fun f42 => ?_)
    refine tw_push rfl ?_
    refine tw_ic_eq rfl (fun q43 => ?_) (fun q43 => ?_)
    · try dsimp only [tvI_i, tvJ_j, tvR_r] at q43
      have q43i := zeqi (Y := 6) (by decide) q43
      refine tw_push rfl ?_
      exact tw_iret rfl (Or.inr ⟨by omega, rfl, rfl, rfl, rfl, rfl⟩)
    · try dsimp only [tvI_i, tvJ_j, tvR_r] at q43
      have q43i := zneq (Y := 6) (by decide) q43
      refine tw_iload rfl rfl ?_
      refine tw_i2l rfl ?_
      refine tw_push rfl ?_
      refine tw_push rfl ?_
      refine tw_stat3 rfl (f_in hG  (LO := 0) (HI := 999999) (Int32.toInt_toInt64 _) (by decide) (by decide)) (fun w9 h9 p44 => ?_)
      obtain ⟨⟨p44, rfl⟩ | ⟨p44, rfl⟩, rfl⟩ := p44
      · try dsimp only [tvI_i, tvJ_j, tvR_r] at p44
        refine tw_if_eq rfl (fun z => absurd z (by decide)) (fun _ => ?_)
        refine tw_iload rfl rfl ?_
        refine tw_i2l rfl ?_
        refine tw_push rfl ?_
        refine tw_push rfl ?_
        refine tw_stat3 rfl (f_in hG  (LO := 0) (HI := 9999999) (Int32.toInt_toInt64 _) (by decide) (by decide)) (fun w9 h9 p45 => ?_)
        obtain ⟨⟨p45, rfl⟩ | ⟨p45, rfl⟩, rfl⟩ := p45
        · try dsimp only [tvI_i, tvJ_j, tvR_r] at p45
          refine tw_if_ne rfl (fun _ => ?_) (fun z => absurd z (by decide))
          refine tw_push rfl ?_
          refine tw_iload rfl rfl ?_
          refine tw_imul rfl ?_
          refine tw_aload rfl rfl ?_
          refine tw_getS rfl (hs_111_72 hs) ?_
          refine tw_iload rfl rfl ?_
          refine tw_iald rfl (fun f46 => ?_)
          refine tw_iadd rfl ?_
          refine tw_istore rfl ?_
          refine tw_aload rfl rfl ?_
          refine tw_getS rfl (hs_111_75 hs) ?_
          refine tw_iload rfl rfl ?_
          refine tw_iload rfl rfl ?_
          refine tw_bastZ bz rfl (fun kf47 f47 => ?_)
          refine tw_aload rfl rfl ?_
          refine tw_getS rfl (hs_111_73 (tSh_SA hs)) ?_
          refine tw_iload rfl rfl ?_
          refine tw_iload rfl rfl ?_
          refine tw_iast rfl (fun f48 => ?_)
          refine tw_aload rfl rfl ?_
          refine tw_getS rfl (hs_111_74 (tSh_SA (tSh_SA hs))) ?_
          refine tw_iload rfl rfl ?_
          refine tw_iload rfl rfl ?_
          refine tw_iast rfl (fun f49 => ?_)
          refine tw_aload rfl rfl ?_
          refine tw_getS rfl (hs_111_72 (tSh_SA (tSh_SA (tSh_SA hs)))) ?_
          refine tw_iload rfl rfl ?_
          refine tw_dup2 rfl ?_
          refine tw_ialdS rfl (fun _ => (tA_a (by decide) (tA_a (by decide) (tA_a (by decide) rfl)))) (fun f50 => ?_)
          refine tw_push rfl ?_
          refine tw_iadd rfl ?_
          refine tw_iast rfl (fun f51 => ?_)
          refine tw_aload rfl rfl ?_
          refine tw_getS rfl (hs_111_72 (tSh_SA (tSh_SA (tSh_SA (tSh_SA hs))))) ?_
          refine tw_iload rfl rfl ?_
          refine tw_iald rfl (fun f52 => ?_)
          refine tw_push rfl ?_
          refine tw_isub rfl ?_
          exact tw_iret rfl (Or.inl ⟨by omega, wrow f51 rfl, (tA_st f51 (tA_n (by decide) (tA_n (by decide) (tA_n (by decide) rfl)))), (tA_n (by decide) (tA_n (by decide) (tA_n (by decide) (tA_st f47 rfl)))), (tA_n (by decide) (tA_n (by decide) (tA_st f48 (tA_n (by decide) rfl)))), (tA_n (by decide) (tA_st f49 (tA_n (by decide) (tA_n (by decide) rfl))))⟩)
        · try dsimp only [tvI_i, tvJ_j, tvR_r] at p45
          refine tw_if_ne rfl (fun z => absurd z (by decide)) (fun _ => ?_)
          refine tw_push rfl ?_
          exact tw_iret rfl (Or.inr ⟨by omega, rfl, rfl, rfl, rfl, rfl⟩)
      · try dsimp only [tvI_i, tvJ_j, tvR_r] at p44
        refine tw_if_eq rfl (fun _ => ?_) (fun z => absurd z (by decide))
        refine tw_push rfl ?_
        exact tw_iret rfl (Or.inr ⟨by omega, rfl, rfl, rfl, rfl, rfl⟩)
  · try dsimp only [tvI_i, tvJ_j, tvR_r] at p41
    refine tw_if_eq rfl (fun _ => ?_) (fun z => absurd z (by decide))
    refine tw_push rfl ?_
    exact tw_iret rfl (Or.inr ⟨by omega, rfl, rfl, rfl, rfl, rfl⟩)
theorem a_row {m z c k : Int32} {h h2 h3 : zH} {w w2 : Option Value} (hM : R_memos h) (hR : R_mrows h) (hS : R_msaved h) (hT : R_mcounts h) (hU : R_mcoins h) (e1 : tF h2 111 71 = tF h 111 71) (o1 : tA h2 163 = tA h 163) (o2 : tA h2 166 = tA h 166) (o3 : tA h2 164 = tA h 164) (o4 : tA h2 165 = tA h 165) (t1 : tA h3 77 = tA h2 77) (t2 : tA h3 78 = tA h2 78) (t3 : tA h3 79 = tA h2 79) (t4 : tA h3 80 = tA h2 80) (k1 : ph_rw 76 0 77 78 79 80 ixc m z c k h w h2) (k2 : ph_rw 111 71 163 166 164 165 ixm m z c k h2 w2 h3) : w2 = w ∧ R_mrows h3 ∧ R_msaved h3 ∧ R_mcounts h3 ∧ R_mcoins h3 := by
  unfold R_memos at hM
  unfold R_mrows R_msaved R_mcounts R_mcoins at *
  unfold ph_rw at k1 k2
  rw [e1, o1, o2, o3, o4, ← hM, ← hR, ← hS, ← hT, ← hU, ← ix_eq] at k2
  rcases k1 with ⟨c1, rfl, f1, f2, f3, f4⟩ | ⟨c1, rfl, f1, f2, f3, f4⟩ <;> rcases k2 with ⟨c2, rfl, g1, g2, g3, g4⟩ | ⟨c2, rfl, g1, g2, g3, g4⟩
  · exact ⟨rfl, by rw [t1, f1, g1], by rw [t2, f2, g2], by rw [t3, f3, g3], by rw [t4, f4, g4]⟩
  · exact absurd c1 c2
  · exact absurd c2 c1
  · exact ⟨rfl, by rw [t1, f1, g1], by rw [t2, f2, g2], by rw [t3, f3, g3], by rw [t4, f4, g4]⟩
/-! long arithmetic without overflow -/
theorem zLr {x : Int} (h : -9000000000000000000 ≤ x ∧ x ≤ 9000000000000000000) : x.bmod (2 ^ 64) = x := Int.bmod_eq_of_le (by show (-9223372036854775808 : Int) ≤ x; omega) (by show x < (9223372036854775808 : Int); omega)
theorem zLadd {a b : Int64} (h : -9000000000000000000 ≤ a.toInt + b.toInt ∧ a.toInt + b.toInt ≤ 9000000000000000000) : (a + b).toInt = a.toInt + b.toInt := by rw [Int64.toInt_add, zLr h]
theorem zLsub {a b : Int64} (h : -9000000000000000000 ≤ a.toInt - b.toInt ∧ a.toInt - b.toInt ≤ 9000000000000000000) : (a - b).toInt = a.toInt - b.toInt := by rw [Int64.toInt_sub, zLr h]
theorem zLmul {a b : Int64} (h : -9000000000000000000 ≤ a.toInt * b.toInt ∧ a.toInt * b.toInt ≤ 9000000000000000000) : (a * b).toInt = a.toInt * b.toInt := by rw [Int64.toInt_mul, zLr h]
theorem zLneg {a : Int64} (h : -9000000000000000000 ≤ a.toInt ∧ a.toInt ≤ 9000000000000000000) : (-a).toInt = -a.toInt := by rw [Int64.toInt_neg, zLr (by omega)]
theorem zLdvb {a b : Int} (hb : 1 ≤ b) {M : Int} (ha : -M ≤ a ∧ a ≤ M) : -M ≤ a / b ∧ a / b ≤ M := by
  have hM : 0 ≤ M := by omega
  constructor
  · refine Int.le_ediv_of_mul_le (by omega) ?_
    have : -M * b ≤ -M * 1 := Int.mul_le_mul_of_nonpos_left (by omega) (by omega)
    omega
  · have h1 : a / b ≤ M / b := Int.ediv_le_ediv (by omega) ha.2
    have h2 : M / b ≤ M := Int.ediv_le_self _ hM
    omega
theorem zLfl {a b F : Int} (hb : 1 ≤ b) (h1 : F * b ≤ a) (h2 : a < F * b + b) : a / b = F := by
  refine Int.le_antisymm ?_ (Int.le_ediv_of_mul_le (by omega) h1)
  have : a / b < F + 1 := Int.ediv_lt_of_lt_mul (by omega) (by rw [Int.add_mul]; omega)
  omega
theorem zLdb {a b : Int} (hb : 1 ≤ b) : a / b * b ≤ a ∧ a < a / b * b + b := by
  have h1 := Int.ediv_mul_le a (show b ≠ 0 by omega)
  have h2 := Int.lt_ediv_add_one_mul_self a (show 0 < b by omega)
  rw [Int.add_mul] at h2
  exact ⟨h1, by omega⟩
theorem zLdiv {a b : Int64} (hb : 1 ≤ b.toInt) (ha : -9000000000000000000 ≤ a.toInt ∧ a.toInt ≤ 9000000000000000000) : (0 ≤ a.toInt → (a / b).toInt = a.toInt / b.toInt) ∧ (a.toInt < 0 → (a / b).toInt = -((-a.toInt) / b.toInt)) := by
  rw [Int64.toInt_div]
  constructor
  · intro h0
    rw [Int.tdiv_eq_ediv_of_nonneg h0]
    exact zLr (zLdvb hb ha)
  · intro h0
    have e : a.toInt.tdiv b.toInt = -((-a.toInt) / b.toInt) := by
      have : a.toInt = -(-a.toInt) := by omega
      rw [this, Int.neg_tdiv, Int.tdiv_eq_ediv_of_nonneg (by omega), Int.neg_neg]
    rw [e]
    have := zLdvb hb (a := -a.toInt) (M := 9000000000000000000) (by omega)
    exact zLr (by omega)
/-- of a number below 0: its floor, by the quotient of what is above -/
theorem zLfn {a b : Int} (hb : 1 ≤ b) (ha : a < 0) : (-((-a) / b) * b = a → a / b = -((-a) / b)) ∧ (-((-a) / b) * b ≠ a → a / b = -((-a) / b) - 1) ∧ a / b = -((-a + b - 1) / b) := by
  have h := zLdb hb (a := -a)
  have h2 := zLdb hb (a := -a + b - 1)
  have e : -((-a) / b) * b = -((-a) / b * b) := Int.neg_mul _ _
  refine ⟨fun z => zLfl hb (by omega) (by omega), fun z => zLfl hb ?_ ?_, zLfl hb ?_ ?_⟩
  · rw [Int.sub_mul]; omega
  · rw [Int.sub_mul]; omega
  · rw [Int.neg_mul]; omega
  · rw [Int.neg_mul]; omega
theorem zLcl {a b : Int} (hb : 1 ≤ b) : (a / b * b = a → -((-a) / b) = a / b) ∧ (a / b * b ≠ a → -((-a) / b) = a / b + 1) := by
  have h := zLdb hb (a := a)
  have h2 := zLdb hb (a := -a)
  have e1 : -((-a) / b) * b = -((-a) / b * b) := Int.neg_mul _ _
  have key : ∀ q : Int, q * b - b < a → a ≤ q * b → -((-a) / b) = q := by
    intro q q1 q2
    have : (-a) / b = -q := zLfl hb (by rw [Int.neg_mul]; omega) (by rw [Int.neg_mul]; omega)
    omega
  exact ⟨fun z => key _ (by omega) (by omega), fun z => key _ (by rw [Int.add_mul]; omega) (by rw [Int.add_mul]; omega)⟩
theorem zLx {a b : Int64} (hb : 1 ≤ b.toInt) : (0 ≤ (a ^^^ b).toInt → 0 ≤ a.toInt) ∧ ((a ^^^ b).toInt < 0 → a.toInt < 0) := by
  have e1 : (a ^^^ b).toInt = (a.toBitVec ^^^ b.toBitVec).toInt := rfl
  have e2 : a.toInt = a.toBitVec.toInt := rfl
  have e3 : b.toInt = b.toBitVec.toInt := rfl
  have m : (a.toBitVec ^^^ b.toBitVec).msb = (a.toBitVec.msb ^^ b.toBitVec.msb) := BitVec.msb_xor
  have mb : b.toBitVec.msb = false := by
    rw [BitVec.msb_eq_toInt, decide_eq_false_iff_not]
    omega
  rw [mb, Bool.xor_false, BitVec.msb_eq_toInt, BitVec.msb_eq_toInt] at m
  rw [e1, e2]
  have m2 : ((a.toBitVec ^^^ b.toBitVec).toInt < 0) ↔ (a.toBitVec.toInt < 0) := decide_eq_decide.mp m
  omega
/-- not below -1 -/
def zmx (x : Int) : Int := if x < -1 then -1 else x
theorem zLmx {F : Int64} : (if F < -1 then (-1 : Int64) else F).toInt = zmx F.toInt := by
  unfold zmx
  have e : (-1 : Int64).toInt = -1 := by decide
  by_cases q : F < -1
  · have q2 := Int64.lt_iff_toInt_lt.mp q
    rw [e] at q2
    rw [if_pos q, if_pos q2, e]
  · have q2 : ¬ F.toInt < -1 := fun z => q (Int64.lt_iff_toInt_lt.mpr (by rw [e]; exact z))
    rw [if_neg q, if_neg q2]
theorem f_floorDiv {G : zG} (hG : G.1 = zProg) {h : zH} {a b : Int64} (hbb : 1 ≤ b.toInt ∧ b.toInt ≤ 10000000) (ha : -2000000000000000 ≤ a.toInt ∧ a.toInt ≤ 2000000000000000) : tC zTt G 280 [.long a, .long b] h (fun w h2 => ∃ v : Int64, w = some (.long v) ∧ v.toInt = a.toInt / b.toInt ∧ h2 = h) := by
  refine tC_in (by rw [hG]; rfl) (fun dp => ?_)
  have hb := hbb.1
  have z0 : (0 : Int64).toInt = 0 := by decide
  have z1 : (1 : Int64).toInt = 1 := by decide
  refine tw_lload rfl rfl ?_
  refine tw_lload rfl rfl ?_
  refine tw_ldiv rfl (fun _ => ?_)
  refine tw_lstore rfl ?_
  refine tw_lload rfl rfl ?_
  refine tw_lload rfl rfl ?_
  refine tw_lxor rfl ?_
  refine tw_push rfl ?_
  refine tw_lc_ge rfl rfl (fun q53 => ?_) (fun q53 => ?_)
  · try dsimp only [tvI_i, tvJ_j, tvR_r] at q53
    refine tw_lload rfl rfl ?_
    have a0 := (zLx (a := a) hb).1 (by omega)
    exact tw_lret rfl ⟨_, rfl, (zLdiv (a := a) hb (by omega)).1 a0, rfl⟩
  · try dsimp only [tvI_i, tvJ_j, tvR_r] at q53
    refine tw_lload rfl rfl ?_
    refine tw_lload rfl rfl ?_
    refine tw_lmul rfl ?_
    refine tw_lload rfl rfl ?_
    refine tw_lc_eq rfl rfl (fun q54 => ?_) (fun q54 => ?_)
    · try dsimp only [tvI_i, tvJ_j, tvR_r] at q54
      refine tw_lload rfl rfl ?_
      have a0 := (zLx (a := a) hb).2 (by omega)
      have d1 := (zLdiv (a := a) hb (by omega)).2 a0
      have bb := zLdvb hb (a := -a.toInt) (M := 2000000000000000) (by omega)
      have d2 := zLfn hb a0
      have bd := zLdb hb (a := -a.toInt)
      have e2 : -((-a.toInt) / b.toInt) * b.toInt = -((-a.toInt) / b.toInt * b.toInt) := Int.neg_mul _ _
      have m1 : (a / b * b).toInt = -((-a.toInt) / b.toInt) * b.toInt := by rw [zLmul (by rw [d1]; omega), d1]
      have q9 : (a / b * b).toInt = a.toInt := congrArg Int64.toInt q54
      exact tw_lret rfl ⟨_, rfl, d1.trans (d2.1 (by rw [← m1]; exact q9)).symm, rfl⟩
    · try dsimp only [tvI_i, tvJ_j, tvR_r] at q54
      refine tw_lload rfl rfl ?_
      refine tw_push rfl ?_
      refine tw_lsub rfl ?_
      have a0 := (zLx (a := a) hb).2 (by omega)
      have d1 := (zLdiv (a := a) hb (by omega)).2 a0
      have bb := zLdvb hb (a := -a.toInt) (M := 2000000000000000) (by omega)
      have d2 := zLfn hb a0
      have bd := zLdb hb (a := -a.toInt)
      have e2 : -((-a.toInt) / b.toInt) * b.toInt = -((-a.toInt) / b.toInt * b.toInt) := Int.neg_mul _ _
      have m1 : (a / b * b).toInt = -((-a.toInt) / b.toInt) * b.toInt := by rw [zLmul (by rw [d1]; omega), d1]
      have q9 : (a / b * b).toInt ≠ a.toInt := fun z => q54 (Int64.toInt_inj.mp z)
      have d3 : (a / b - 1).toInt = a.toInt / b.toInt := by rw [zLsub (by rw [d1]; omega), d1, d2.2.1 (by rw [← m1]; exact q9), z1]
      exact tw_lret rfl ⟨_, rfl, d3, rfl⟩
theorem zof {x : Int32} {n : Nat} (h : x.toInt = n) : x = Int32.ofNat n := by
  have hx := Int32.toInt_lt x
  exact Int32.toInt_inj.mp (h.trans (yofN (by omega)).symm)
theorem zof_cl {x : Int32} {n : Nat} (h : x.toInt = n) : x.toNatClampNeg = n := by rw [zclE, h]; rfl
theorem zincN {x : Int32} {n : Nat} (h : x.toInt = n) (hn : n < 2147483647) : (x + 1).toInt = ((n + 1 : Nat) : Int) := by
  rw [Int32.toInt_add, h]
  exact Int.bmod_eq_of_le (by show (-2147483648 : Int) ≤ (n : Int) + 1; omega) (by show (n : Int) + 1 < (2147483648 : Int); omega)
theorem zen {x y : Int32} {n : Nat} (hx : x.toInt = n) (hn : (n : Int) ≤ y.toInt) (hq : y.toInt ≤ x.toInt) : n = y.toNatClampNeg := by
  rw [zclE]
  omega
theorem zincL {x y : Int32} {n : Nat} (h : x.toInt = n) (hy : x.toInt < y.toInt) : (x + 1).toInt = ((n + 1 : Nat) : Int) := zincN h (by have := Int32.toInt_lt y; omega)
/-- what a memo's rows come to, the first n *-/
def sS (ix : Int32 → Int32 → Int32) (sv ct cn rw : Nat → Int32) (m o y : Int32) : Nat → Int64
  | 0 => 0
  | n + 1 => sS ix sv ct cn rw m o y n + (if sv (ix m (Int32.ofNat n)).toNatClampNeg = 0 then -((ct (ix m (Int32.ofNat n)).toNatClampNeg).toInt64 * (cn (if (y >>> (Int32.ofNat n &&& 31)) &&& 1 = 1 ∧ (Int32.ofNat n).toInt < (rw o.toNatClampNeg).toInt then (ix o (Int32.ofNat n)).toNatClampNeg else (ix m (Int32.ofNat n)).toNatClampNeg)).toInt64) else (ct (ix m (Int32.ofNat n)).toNatClampNeg).toInt64 * (cn (if (y >>> (Int32.ofNat n &&& 31)) &&& 1 = 1 ∧ (Int32.ofNat n).toInt < (rw o.toNatClampNeg).toInt then (ix o (Int32.ofNat n)).toNatClampNeg else (ix m (Int32.ofNat n)).toNatClampNeg)).toInt64)
section SS
variable {ix : Int32 → Int32 → Int32} {sv ct cn rw : Nat → Int32} {m o y : Int32} {n : Nat}
theorem sS_1 (h : (y >>> (Int32.ofNat n &&& 31)) &&& 1 = 1 ∧ (Int32.ofNat n).toInt < (rw o.toNatClampNeg).toInt) (hs : sv (ix m (Int32.ofNat n)).toNatClampNeg = 0) : sS ix sv ct cn rw m o y (n + 1) = sS ix sv ct cn rw m o y n + -((ct (ix m (Int32.ofNat n)).toNatClampNeg).toInt64 * (cn (ix o (Int32.ofNat n)).toNatClampNeg).toInt64) := by
  conv => lhs; unfold sS
  rw [if_pos hs, if_pos h]
theorem sS_2 (h : (y >>> (Int32.ofNat n &&& 31)) &&& 1 = 1 ∧ (Int32.ofNat n).toInt < (rw o.toNatClampNeg).toInt) (hs : ¬ sv (ix m (Int32.ofNat n)).toNatClampNeg = 0) : sS ix sv ct cn rw m o y (n + 1) = sS ix sv ct cn rw m o y n + (ct (ix m (Int32.ofNat n)).toNatClampNeg).toInt64 * (cn (ix o (Int32.ofNat n)).toNatClampNeg).toInt64 := by
  conv => lhs; unfold sS
  rw [if_neg hs, if_pos h]
theorem sS_3 (h : ¬ ((y >>> (Int32.ofNat n &&& 31)) &&& 1 = 1 ∧ (Int32.ofNat n).toInt < (rw o.toNatClampNeg).toInt)) (hs : sv (ix m (Int32.ofNat n)).toNatClampNeg = 0) : sS ix sv ct cn rw m o y (n + 1) = sS ix sv ct cn rw m o y n + -((ct (ix m (Int32.ofNat n)).toNatClampNeg).toInt64 * (cn (ix m (Int32.ofNat n)).toNatClampNeg).toInt64) := by
  conv => lhs; unfold sS
  rw [if_pos hs, if_neg h]
theorem sS_4 (h : ¬ ((y >>> (Int32.ofNat n &&& 31)) &&& 1 = 1 ∧ (Int32.ofNat n).toInt < (rw o.toNatClampNeg).toInt)) (hs : ¬ sv (ix m (Int32.ofNat n)).toNatClampNeg = 0) : sS ix sv ct cn rw m o y (n + 1) = sS ix sv ct cn rw m o y n + (ct (ix m (Int32.ofNat n)).toNatClampNeg).toInt64 * (cn (ix m (Int32.ofNat n)).toNatClampNeg).toInt64 := by
  conv => lhs; unfold sS
  rw [if_neg hs, if_neg h]
end SS
theorem f_hasRow {G : zG} (hG : G.1 = zProg) {h : zH} {m x : Int32} (hs : tSh h) : tC zTt G 38 [.ref 76, .int m, .int x] h (fun w h2 => tBo (0 ≤ x.toInt ∧ x.toInt < (tA h 77 m.toNatClampNeg).toInt) w ∧ h2 = h) := by
  refine tC_in (by rw [hG]; rfl) (fun dp => ?_)
  refine tw_iload rfl rfl ?_
  refine tw_if_lt rfl (fun q55 => ?_) (fun q55 => ?_)
  · try dsimp only [tvI_i, tvJ_j, tvR_r] at q55
    refine tw_push rfl ?_
    exact tw_iret rfl ⟨Or.inr ⟨by omega, rfl⟩, rfl⟩
  · try dsimp only [tvI_i, tvJ_j, tvR_r] at q55
    refine tw_iload rfl rfl ?_
    refine tw_aload rfl rfl ?_
    refine tw_getS rfl (hs_76_1 hs) ?_
    refine tw_iload rfl rfl ?_
    refine tw_iald rfl (fun f56 => ?_)
    refine tw_ic_ge rfl (fun q57 => ?_) (fun q57 => ?_)
    · try dsimp only [tvI_i, tvJ_j, tvR_r] at q57
      refine tw_push rfl ?_
      exact tw_iret rfl ⟨Or.inr ⟨by omega, rfl⟩, rfl⟩
    · try dsimp only [tvI_i, tvJ_j, tvR_r] at q57
      refine tw_push rfl ?_
      refine tw_goto rfl ?_
      exact tw_iret rfl ⟨Or.inl ⟨by omega, rfl⟩, rfl⟩
theorem f_sumWith {G : zG} (hG : G.1 = zProg) {h : zH} {m o y : Int32} (hs : tSh h) (h0 : 0 ≤ (tA h 77 m.toNatClampNeg).toInt) : tC zTt G 42 [.ref 76, .int m, .int o, .int y] h (fun w h2 => w = some (.long (sS ixc (tA h 78) (tA h 79) (tA h 80) (tA h 77) m o y (tA h 77 m.toNatClampNeg).toNatClampNeg)) ∧ h2 = h) := by
  refine tC_in (by rw [hG]; rfl) (fun dp => ?_)
  refine tw_push rfl ?_
  refine tw_lstore rfl ?_
  refine tw_push rfl ?_
  refine tw_istore rfl ?_
  refine tG_loop (zW_mono zTt G dp) (zW_conj zTt G dp) (V := fun pc L st h9 _ _ => pc = 6 ∧ st = [] ∧ h = h9 ∧ ∃ (k : Nat) (x : Int32) (ac : Int64) (l7 l8 l9 l10 : Option Value), x.toInt = k ∧ (k : Int) ≤ (tA h 77 m.toNatClampNeg).toInt ∧ ac = sS ixc (tA h 78) (tA h 79) (tA h 80) (tA h 77) m o y k ∧ L = [some (.ref 76), some (.int m), some (.int o), some (.int y), some (.long ac), none, some (.int x), l7, l8, l9, l10] ∧ (∀ v, l8 = some v → v.category = 1)) ?_ (⟨rfl, rfl, rfl, 0, 0, 0, none, none, none, none, rfl, h0, rfl, rfl, (fun v hv => by cases hv)⟩)
  rintro _ _ _ _ _ _ ⟨rfl, rfl, rfl, k, x, _, l7, l8, l9, l10, hx, hk, rfl, rfl, h8⟩
  refine tw_iload rfl rfl ?_
  refine tw_aload rfl rfl ?_
  refine tw_getS rfl (hs_76_1 hs) ?_
  refine tw_iload rfl rfl ?_
  refine tw_iald rfl (fun f58 => ?_)
  refine tw_ic_ge rfl (fun q59 => ?_) (fun q59 => ?_)
  · try dsimp only [tvI_i, tvJ_j, tvR_r] at q59
    refine tw_lload rfl rfl ?_
    exact tw_lret rfl ⟨by rw [show k = (tA h 77 m.toNatClampNeg).toNatClampNeg from by rw [zclE]; omega]; rfl, rfl⟩
  · try dsimp only [tvI_i, tvJ_j, tvR_r] at q59
    refine tw_iload rfl rfl ?_
    refine tw_push rfl ?_
    refine tw_imul rfl ?_
    refine tw_iload rfl rfl ?_
    refine tw_iadd rfl ?_
    refine tw_istore rfl ?_
    refine tw_iload rfl rfl ?_
    refine tw_iload rfl rfl ?_
    refine tw_ishr rfl ?_
    refine tw_push rfl ?_
    refine tw_iand rfl ?_
    refine tw_push rfl ?_
    refine tw_ic_ne rfl (fun q60 => ?_) (fun q60 => ?_)
    · try dsimp only [tvI_i, tvJ_j, tvR_r] at q60
      have q60i := zneq (Y := 1) (by decide) q60
      refine tw_push rfl ?_
      refine tw_istore rfl ?_
      refine tw_aload rfl rfl ?_
      refine tw_getS rfl (hs_76_3 hs) ?_
      refine tw_iload rfl rfl ?_
      refine tw_iald rfl (fun f61 => ?_)
      refine tw_i2l rfl ?_
      refine tw_aload rfl rfl ?_
      refine tw_getS rfl (hs_76_4 hs) ?_
      refine tw_iload rfl rfl ?_
      refine tw_if_eq rfl (fun _ => ?_) (fun z => absurd z (by decide))
      refine tw_iload rfl rfl ?_
      refine tw_iald rfl (fun f62 => ?_)
      refine tw_i2l rfl ?_
      refine tw_lmul rfl ?_
      refine tw_lstore rfl ?_
      refine tw_lload rfl rfl ?_
      refine tw_aload rfl rfl ?_
      refine tw_getS rfl (hs_76_2 hs) ?_
      refine tw_iload rfl rfl ?_
      refine tw_bald rfl (fun f63 => ?_)
      refine tw_if_eq rfl (fun q64 => ?_) (fun q64 => ?_)
      · try dsimp only [tvI_i, tvJ_j, tvR_r] at q64
        have q64i := zeqi (Y := 0) (by decide) q64
        refine tw_lload rfl rfl ?_
        refine tw_lneg rfl ?_
        refine tw_ladd rfl ?_
        refine tw_lstore rfl ?_
        refine tw_iinc rfl rfl ?_
        refine tw_goto rfl ?_
        have hk9 := zof hx
        subst hk9
        exact tG_cut (zW_mono zTt G dp) (Or.inr ⟨rfl, rfl, rfl, k + 1, _, _, _, _, _, _, zincL hx q59, by omega, (sS_3 (ix := ixc) (sv := tA _ 78) (ct := tA _ 79) (cn := tA _ 80) (rw := tA _ 77) (m := m) (o := o) (y := y) (n := k) (fun z => q60 z.1) q64).symm, rfl, (fun v hv => by cases hv; rfl)⟩)
      · try dsimp only [tvI_i, tvJ_j, tvR_r] at q64
        have q64i := zneq (Y := 0) (by decide) q64
        refine tw_lload rfl rfl ?_
        refine tw_goto rfl ?_
        refine tw_ladd rfl ?_
        refine tw_lstore rfl ?_
        refine tw_iinc rfl rfl ?_
        refine tw_goto rfl ?_
        have hk9 := zof hx
        subst hk9
        exact tG_cut (zW_mono zTt G dp) (Or.inr ⟨rfl, rfl, rfl, k + 1, _, _, _, _, _, _, zincL hx q59, by omega, (sS_4 (ix := ixc) (sv := tA _ 78) (ct := tA _ 79) (cn := tA _ 80) (rw := tA _ 77) (m := m) (o := o) (y := y) (n := k) (fun z => q60 z.1) q64).symm, rfl, (fun v hv => by cases hv; rfl)⟩)
    · try dsimp only [tvI_i, tvJ_j, tvR_r] at q60
      have q60i := zeqi (Y := 1) (by decide) q60
      refine tw_aload rfl rfl ?_
      refine tw_iload rfl rfl ?_
      refine tw_iload rfl rfl ?_
      refine tw_virt2 rfl (f_hasRow hG hs) (fun w9 h9 p65 => ?_)
      obtain ⟨⟨p65, rfl⟩ | ⟨p65, rfl⟩, rfl⟩ := p65
      · try dsimp only [tvI_i, tvJ_j, tvR_r] at p65
        refine tw_if_eq rfl (fun z => absurd z (by decide)) (fun _ => ?_)
        refine tw_push rfl ?_
        refine tw_goto rfl ?_
        refine tw_istore rfl ?_
        refine tw_aload rfl rfl ?_
        refine tw_getS rfl (hs_76_3 hs) ?_
        refine tw_iload rfl rfl ?_
        refine tw_iald rfl (fun f66 => ?_)
        refine tw_i2l rfl ?_
        refine tw_aload rfl rfl ?_
        refine tw_getS rfl (hs_76_4 hs) ?_
        refine tw_iload rfl rfl ?_
        refine tw_if_eq rfl (fun z => absurd z (by decide)) (fun _ => ?_)
        refine tw_iload rfl rfl ?_
        refine tw_push rfl ?_
        refine tw_imul rfl ?_
        refine tw_iload rfl rfl ?_
        refine tw_iadd rfl ?_
        refine tw_goto rfl ?_
        refine tw_iald rfl (fun f67 => ?_)
        refine tw_i2l rfl ?_
        refine tw_lmul rfl ?_
        refine tw_lstore rfl ?_
        refine tw_lload rfl rfl ?_
        refine tw_aload rfl rfl ?_
        refine tw_getS rfl (hs_76_2 hs) ?_
        refine tw_iload rfl rfl ?_
        refine tw_bald rfl (fun f68 => ?_)
        refine tw_if_eq rfl (fun q69 => ?_) (fun q69 => ?_)
        · try dsimp only [tvI_i, tvJ_j, tvR_r] at q69
          have q69i := zeqi (Y := 0) (by decide) q69
          refine tw_lload rfl rfl ?_
          refine tw_lneg rfl ?_
          refine tw_ladd rfl ?_
          refine tw_lstore rfl ?_
          refine tw_iinc rfl rfl ?_
          refine tw_goto rfl ?_
          have hk9 := zof hx
          subst hk9
          exact tG_cut (zW_mono zTt G dp) (Or.inr ⟨rfl, rfl, rfl, k + 1, _, _, _, _, _, _, zincL hx q59, by omega, (sS_1 (ix := ixc) (sv := tA _ 78) (ct := tA _ 79) (cn := tA _ 80) (rw := tA _ 77) (m := m) (o := o) (y := y) (n := k) ⟨q60, p65.2⟩ q69).symm, rfl, (fun v hv => by cases hv; rfl)⟩)
        · try dsimp only [tvI_i, tvJ_j, tvR_r] at q69
          have q69i := zneq (Y := 0) (by decide) q69
          refine tw_lload rfl rfl ?_
          refine tw_goto rfl ?_
          refine tw_ladd rfl ?_
          refine tw_lstore rfl ?_
          refine tw_iinc rfl rfl ?_
          refine tw_goto rfl ?_
          have hk9 := zof hx
          subst hk9
          exact tG_cut (zW_mono zTt G dp) (Or.inr ⟨rfl, rfl, rfl, k + 1, _, _, _, _, _, _, zincL hx q59, by omega, (sS_2 (ix := ixc) (sv := tA _ 78) (ct := tA _ 79) (cn := tA _ 80) (rw := tA _ 77) (m := m) (o := o) (y := y) (n := k) ⟨q60, p65.2⟩ q69).symm, rfl, (fun v hv => by cases hv; rfl)⟩)
      · try dsimp only [tvI_i, tvJ_j, tvR_r] at p65
        refine tw_if_eq rfl (fun _ => ?_) (fun z => absurd z (by decide))
        refine tw_push rfl ?_
        refine tw_istore rfl ?_
        refine tw_aload rfl rfl ?_
        refine tw_getS rfl (hs_76_3 hs) ?_
        refine tw_iload rfl rfl ?_
        refine tw_iald rfl (fun f70 => ?_)
        refine tw_i2l rfl ?_
        refine tw_aload rfl rfl ?_
        refine tw_getS rfl (hs_76_4 hs) ?_
        refine tw_iload rfl rfl ?_
        refine tw_if_eq rfl (fun _ => ?_) (fun z => absurd z (by decide))
        refine tw_iload rfl rfl ?_
        refine tw_iald rfl (fun f71 => ?_)
        refine tw_i2l rfl ?_
        refine tw_lmul rfl ?_
        refine tw_lstore rfl ?_
        refine tw_lload rfl rfl ?_
        refine tw_aload rfl rfl ?_
        refine tw_getS rfl (hs_76_2 hs) ?_
        refine tw_iload rfl rfl ?_
        refine tw_bald rfl (fun f72 => ?_)
        refine tw_if_eq rfl (fun q73 => ?_) (fun q73 => ?_)
        · try dsimp only [tvI_i, tvJ_j, tvR_r] at q73
          have q73i := zeqi (Y := 0) (by decide) q73
          refine tw_lload rfl rfl ?_
          refine tw_lneg rfl ?_
          refine tw_ladd rfl ?_
          refine tw_lstore rfl ?_
          refine tw_iinc rfl rfl ?_
          refine tw_goto rfl ?_
          have hk9 := zof hx
          subst hk9
          exact tG_cut (zW_mono zTt G dp) (Or.inr ⟨rfl, rfl, rfl, k + 1, _, _, _, _, _, _, zincL hx q59, by omega, (sS_3 (ix := ixc) (sv := tA _ 78) (ct := tA _ 79) (cn := tA _ 80) (rw := tA _ 77) (m := m) (o := o) (y := y) (n := k) (fun z => p65 ⟨by omega, z.2⟩) q73).symm, rfl, (fun v hv => by cases hv; rfl)⟩)
        · try dsimp only [tvI_i, tvJ_j, tvR_r] at q73
          have q73i := zneq (Y := 0) (by decide) q73
          refine tw_lload rfl rfl ?_
          refine tw_goto rfl ?_
          refine tw_ladd rfl ?_
          refine tw_lstore rfl ?_
          refine tw_iinc rfl rfl ?_
          refine tw_goto rfl ?_
          have hk9 := zof hx
          subst hk9
          exact tG_cut (zW_mono zTt G dp) (Or.inr ⟨rfl, rfl, rfl, k + 1, _, _, _, _, _, _, zincL hx q59, by omega, (sS_4 (ix := ixc) (sv := tA _ 78) (ct := tA _ 79) (cn := tA _ 80) (rw := tA _ 77) (m := m) (o := o) (y := y) (n := k) (fun z => p65 ⟨by omega, z.2⟩) q73).symm, rfl, (fun v hv => by cases hv; rfl)⟩)
theorem g_sumOf {G : zG} (hG : G.1 = zProg) {h : zH} {m o y : Int32} (hs : tSh h) (h0 : 0 ≤ (tA h 163 m.toNatClampNeg).toInt) : tC zTt G 251 [.ref 111, .int m, .int o, .int y] h (fun w h2 => w = some (.long (sS ixm (tA h 166) (tA h 164) (tA h 165) (tA h 163) m o y (tA h 163 m.toNatClampNeg).toNatClampNeg)) ∧ h2 = h) := by
  refine tC_in (by rw [hG]; rfl) (fun dp => ?_)
  refine tw_push rfl ?_
  refine tw_lstore rfl ?_
  refine tw_push rfl ?_
  refine tw_istore rfl ?_
  refine tG_loop (zW_mono zTt G dp) (zW_conj zTt G dp) (V := fun pc L st h9 _ _ => pc = 6 ∧ st = [] ∧ h = h9 ∧ ∃ (k : Nat) (x : Int32) (ac : Int64) (l7 l8 l9 l10 : Option Value), x.toInt = k ∧ (k : Int) ≤ (tA h 163 m.toNatClampNeg).toInt ∧ ac = sS ixm (tA h 166) (tA h 164) (tA h 165) (tA h 163) m o y k ∧ L = [some (.ref 111), some (.int m), some (.int o), some (.int y), some (.long ac), none, some (.int x), l7, l8, l9, l10] ∧ (∀ v, l8 = some v → v.category = 1)) ?_ (⟨rfl, rfl, rfl, 0, 0, 0, none, none, none, none, rfl, h0, rfl, rfl, (fun v hv => by cases hv)⟩)
  rintro _ _ _ _ _ _ ⟨rfl, rfl, rfl, k, x, _, l7, l8, l9, l10, hx, hk, rfl, rfl, h8⟩
  refine tw_iload rfl rfl ?_
  refine tw_aload rfl rfl ?_
  refine tw_getS rfl (hs_111_72 hs) ?_
  refine tw_iload rfl rfl ?_
  refine tw_iald rfl (fun f74 => ?_)
  refine tw_ic_ge rfl (fun q75 => ?_) (fun q75 => ?_)
  · try dsimp only [tvI_i, tvJ_j, tvR_r] at q75
    refine tw_lload rfl rfl ?_
    exact tw_lret rfl ⟨by rw [show k = (tA h 163 m.toNatClampNeg).toNatClampNeg from by rw [zclE]; omega]; rfl, rfl⟩
  · try dsimp only [tvI_i, tvJ_j, tvR_r] at q75
    refine tw_push rfl ?_
    refine tw_iload rfl rfl ?_
    refine tw_imul rfl ?_
    refine tw_iload rfl rfl ?_
    refine tw_iadd rfl ?_
    refine tw_istore rfl ?_
    refine tw_iload rfl rfl ?_
    refine tw_iload rfl rfl ?_
    refine tw_ishr rfl ?_
    refine tw_push rfl ?_
    refine tw_iand rfl ?_
    refine tw_push rfl ?_
    refine tw_ic_ne rfl (fun q76 => ?_) (fun q76 => ?_)
    · try dsimp only [tvI_i, tvJ_j, tvR_r] at q76
      have q76i := zneq (Y := 1) (by decide) q76
      refine tw_push rfl ?_
      refine tw_istore rfl ?_
      refine tw_aload rfl rfl ?_
      refine tw_getS rfl (hs_111_73 hs) ?_
      refine tw_iload rfl rfl ?_
      refine tw_iald rfl (fun f77 => ?_)
      refine tw_i2l rfl ?_
      refine tw_aload rfl rfl ?_
      refine tw_getS rfl (hs_111_74 hs) ?_
      refine tw_iload rfl rfl ?_
      refine tw_if_eq rfl (fun _ => ?_) (fun z => absurd z (by decide))
      refine tw_iload rfl rfl ?_
      refine tw_iald rfl (fun f78 => ?_)
      refine tw_i2l rfl ?_
      refine tw_lmul rfl ?_
      refine tw_lstore rfl ?_
      refine tw_lload rfl rfl ?_
      refine tw_aload rfl rfl ?_
      refine tw_getS rfl (hs_111_75 hs) ?_
      refine tw_iload rfl rfl ?_
      refine tw_bald rfl (fun f79 => ?_)
      refine tw_if_eq rfl (fun q80 => ?_) (fun q80 => ?_)
      · try dsimp only [tvI_i, tvJ_j, tvR_r] at q80
        have q80i := zeqi (Y := 0) (by decide) q80
        refine tw_lload rfl rfl ?_
        refine tw_lneg rfl ?_
        refine tw_ladd rfl ?_
        refine tw_lstore rfl ?_
        refine tw_iinc rfl rfl ?_
        refine tw_goto rfl ?_
        have hk9 := zof hx
        subst hk9
        exact tG_cut (zW_mono zTt G dp) (Or.inr ⟨rfl, rfl, rfl, k + 1, _, _, _, _, _, _, zincL hx q75, by omega, (sS_3 (ix := ixm) (sv := tA _ 166) (ct := tA _ 164) (cn := tA _ 165) (rw := tA _ 163) (m := m) (o := o) (y := y) (n := k) (fun z => q76 z.1) q80).symm, rfl, (fun v hv => by cases hv; rfl)⟩)
      · try dsimp only [tvI_i, tvJ_j, tvR_r] at q80
        have q80i := zneq (Y := 0) (by decide) q80
        refine tw_lload rfl rfl ?_
        refine tw_goto rfl ?_
        refine tw_ladd rfl ?_
        refine tw_lstore rfl ?_
        refine tw_iinc rfl rfl ?_
        refine tw_goto rfl ?_
        have hk9 := zof hx
        subst hk9
        exact tG_cut (zW_mono zTt G dp) (Or.inr ⟨rfl, rfl, rfl, k + 1, _, _, _, _, _, _, zincL hx q75, by omega, (sS_4 (ix := ixm) (sv := tA _ 166) (ct := tA _ 164) (cn := tA _ 165) (rw := tA _ 163) (m := m) (o := o) (y := y) (n := k) (fun z => q76 z.1) q80).symm, rfl, (fun v hv => by cases hv; rfl)⟩)
    · try dsimp only [tvI_i, tvJ_j, tvR_r] at q76
      have q76i := zeqi (Y := 1) (by decide) q76
      refine tw_iload rfl rfl ?_
      refine tw_aload rfl rfl ?_
      refine tw_getS rfl (hs_111_72 hs) ?_
      refine tw_iload rfl rfl ?_
      refine tw_iald rfl (fun f81 => ?_)
      refine tw_ic_ge rfl (fun q82 => ?_) (fun q82 => ?_)
      · try dsimp only [tvI_i, tvJ_j, tvR_r] at q82
        refine tw_push rfl ?_
        refine tw_istore rfl ?_
        refine tw_aload rfl rfl ?_
        refine tw_getS rfl (hs_111_73 hs) ?_
        refine tw_iload rfl rfl ?_
        refine tw_iald rfl (fun f83 => ?_)
        refine tw_i2l rfl ?_
        refine tw_aload rfl rfl ?_
        refine tw_getS rfl (hs_111_74 hs) ?_
        refine tw_iload rfl rfl ?_
        refine tw_if_eq rfl (fun _ => ?_) (fun z => absurd z (by decide))
        refine tw_iload rfl rfl ?_
        refine tw_iald rfl (fun f84 => ?_)
        refine tw_i2l rfl ?_
        refine tw_lmul rfl ?_
        refine tw_lstore rfl ?_
        refine tw_lload rfl rfl ?_
        refine tw_aload rfl rfl ?_
        refine tw_getS rfl (hs_111_75 hs) ?_
        refine tw_iload rfl rfl ?_
        refine tw_bald rfl (fun f85 => ?_)
        refine tw_if_eq rfl (fun q86 => ?_) (fun q86 => ?_)
        · try dsimp only [tvI_i, tvJ_j, tvR_r] at q86
          have q86i := zeqi (Y := 0) (by decide) q86
          refine tw_lload rfl rfl ?_
          refine tw_lneg rfl ?_
          refine tw_ladd rfl ?_
          refine tw_lstore rfl ?_
          refine tw_iinc rfl rfl ?_
          refine tw_goto rfl ?_
          have hk9 := zof hx
          subst hk9
          exact tG_cut (zW_mono zTt G dp) (Or.inr ⟨rfl, rfl, rfl, k + 1, _, _, _, _, _, _, zincL hx q75, by omega, (sS_3 (ix := ixm) (sv := tA _ 166) (ct := tA _ 164) (cn := tA _ 165) (rw := tA _ 163) (m := m) (o := o) (y := y) (n := k) (fun z => absurd z.2 (by omega)) q86).symm, rfl, (fun v hv => by cases hv; rfl)⟩)
        · try dsimp only [tvI_i, tvJ_j, tvR_r] at q86
          have q86i := zneq (Y := 0) (by decide) q86
          refine tw_lload rfl rfl ?_
          refine tw_goto rfl ?_
          refine tw_ladd rfl ?_
          refine tw_lstore rfl ?_
          refine tw_iinc rfl rfl ?_
          refine tw_goto rfl ?_
          have hk9 := zof hx
          subst hk9
          exact tG_cut (zW_mono zTt G dp) (Or.inr ⟨rfl, rfl, rfl, k + 1, _, _, _, _, _, _, zincL hx q75, by omega, (sS_4 (ix := ixm) (sv := tA _ 166) (ct := tA _ 164) (cn := tA _ 165) (rw := tA _ 163) (m := m) (o := o) (y := y) (n := k) (fun z => absurd z.2 (by omega)) q86).symm, rfl, (fun v hv => by cases hv; rfl)⟩)
      · try dsimp only [tvI_i, tvJ_j, tvR_r] at q82
        refine tw_push rfl ?_
        refine tw_goto rfl ?_
        refine tw_istore rfl ?_
        refine tw_aload rfl rfl ?_
        refine tw_getS rfl (hs_111_73 hs) ?_
        refine tw_iload rfl rfl ?_
        refine tw_iald rfl (fun f87 => ?_)
        refine tw_i2l rfl ?_
        refine tw_aload rfl rfl ?_
        refine tw_getS rfl (hs_111_74 hs) ?_
        refine tw_iload rfl rfl ?_
        refine tw_if_eq rfl (fun z => absurd z (by decide)) (fun _ => ?_)
        refine tw_push rfl ?_
        refine tw_iload rfl rfl ?_
        refine tw_imul rfl ?_
        refine tw_iload rfl rfl ?_
        refine tw_iadd rfl ?_
        refine tw_goto rfl ?_
        refine tw_iald rfl (fun f88 => ?_)
        refine tw_i2l rfl ?_
        refine tw_lmul rfl ?_
        refine tw_lstore rfl ?_
        refine tw_lload rfl rfl ?_
        refine tw_aload rfl rfl ?_
        refine tw_getS rfl (hs_111_75 hs) ?_
        refine tw_iload rfl rfl ?_
        refine tw_bald rfl (fun f89 => ?_)
        refine tw_if_eq rfl (fun q90 => ?_) (fun q90 => ?_)
        · try dsimp only [tvI_i, tvJ_j, tvR_r] at q90
          have q90i := zeqi (Y := 0) (by decide) q90
          refine tw_lload rfl rfl ?_
          refine tw_lneg rfl ?_
          refine tw_ladd rfl ?_
          refine tw_lstore rfl ?_
          refine tw_iinc rfl rfl ?_
          refine tw_goto rfl ?_
          have hk9 := zof hx
          subst hk9
          exact tG_cut (zW_mono zTt G dp) (Or.inr ⟨rfl, rfl, rfl, k + 1, _, _, _, _, _, _, zincL hx q75, by omega, (sS_1 (ix := ixm) (sv := tA _ 166) (ct := tA _ 164) (cn := tA _ 165) (rw := tA _ 163) (m := m) (o := o) (y := y) (n := k) ⟨q76, q82⟩ q90).symm, rfl, (fun v hv => by cases hv; rfl)⟩)
        · try dsimp only [tvI_i, tvJ_j, tvR_r] at q90
          have q90i := zneq (Y := 0) (by decide) q90
          refine tw_lload rfl rfl ?_
          refine tw_goto rfl ?_
          refine tw_ladd rfl ?_
          refine tw_lstore rfl ?_
          refine tw_iinc rfl rfl ?_
          refine tw_goto rfl ?_
          have hk9 := zof hx
          subst hk9
          exact tG_cut (zW_mono zTt G dp) (Or.inr ⟨rfl, rfl, rfl, k + 1, _, _, _, _, _, _, zincL hx q75, by omega, (sS_2 (ix := ixm) (sv := tA _ 166) (ct := tA _ 164) (cn := tA _ 165) (rw := tA _ 163) (m := m) (o := o) (y := y) (n := k) ⟨q76, q82⟩ q90).symm, rfl, (fun v hv => by cases hv; rfl)⟩)
theorem f_sumOf {G : zG} (hG : G.1 = zProg) {h : zH} {m : Int32} (hs : tSh h) (hr0 : 0 ≤ (tA h 77 m.toNatClampNeg).toInt) : tC zTt G 41 [.ref 76, .int m] h (fun w h2 => w = some (.long (sS ixc (tA h 78) (tA h 79) (tA h 80) (tA h 77) m m 0 (tA h 77 m.toNatClampNeg).toNatClampNeg)) ∧ h2 = h) := by
  refine tC_in (by rw [hG]; rfl) (fun dp => ?_)
  refine tw_aload rfl rfl ?_
  refine tw_iload rfl rfl ?_
  refine tw_iload rfl rfl ?_
  refine tw_push rfl ?_
  refine tw_virt3 rfl (f_sumWith hG hs hr0) (fun w9 h9 p91 => ?_)
  obtain ⟨rfl, rfl⟩ := p91
  exact tw_lret rfl ⟨rfl, rfl⟩
/-! when a sum turns -/
theorem zLq1 {a b : Int64} (hbb : 1 ≤ b.toInt ∧ b.toInt ≤ 10000000) (ha : -2000000000000000 ≤ a.toInt ∧ a.toInt ≤ 2000000000000000) (h : 0 ≤ a.toInt) : (a / b).toInt = a.toInt / b.toInt := (zLdiv (a := a) hbb.1 (by omega)).1 h
theorem zLq2 {a b : Int64} (hbb : 1 ≤ b.toInt ∧ b.toInt ≤ 10000000) (ha : -2000000000000000 ≤ a.toInt ∧ a.toInt ≤ 2000000000000000) (h : a.toInt < 0) : (-((-a + b - 1) / b)).toInt = a.toInt / b.toInt := by
  have z1 : (1 : Int64).toInt = 1 := by decide
  have e1 : (-a).toInt = -a.toInt := zLneg (by omega)
  have e2 : (-a + b).toInt = -a.toInt + b.toInt := by rw [zLadd (by rw [e1]; omega), e1]
  have e3 : (-a + b - 1).toInt = -a.toInt + b.toInt - 1 := by rw [zLsub (by rw [e2, z1]; omega), e2, z1]
  have e4 := (zLdiv (a := -a + b - 1) hbb.1 (by rw [e3]; omega)).1 (by rw [e3]; omega)
  have bd := zLdvb hbb.1 (a := -a.toInt + b.toInt - 1) (M := 3000000000000000) (by omega)
  rw [zLneg (by rw [e4, e3]; omega), e4, e3, (zLfn hbb.1 h).2.2]
theorem zLup {a b q : Int64} (hbb : 1 ≤ b.toInt ∧ b.toInt ≤ 10000000) (ha : -2000000000000000 ≤ a.toInt ∧ a.toInt ≤ 2000000000000000) (hq : q.toInt = a.toInt / b.toInt) : (q + 1).toInt = a.toInt / b.toInt + 1 ∧ (q * b = a → q.toInt = -((-a.toInt) / b.toInt)) ∧ (¬ q * b = a → (q + 1).toInt = -((-a.toInt) / b.toInt)) := by
  have z1 : (1 : Int64).toInt = 1 := by decide
  have bd := zLdvb hbb.1 ha
  have be := zLdb hbb.1 (a := a.toInt)
  have e1 : (q + 1).toInt = a.toInt / b.toInt + 1 := by rw [zLadd (by rw [hq, z1]; omega), hq, z1]
  have m1 : (q * b).toInt = a.toInt / b.toInt * b.toInt := by rw [zLmul (by rw [hq]; omega), hq]
  have c := zLcl hbb.1 (a := a.toInt)
  refine ⟨e1, fun z => ?_, fun z => ?_⟩
  · rw [c.1 (by rw [← m1, z]), hq]
  · rw [e1, c.2 (by rw [← m1]; exact fun y => z (Int64.toInt_inj.mp y))]
theorem zmx_p {x : Int} (h : -1 ≤ x) : zmx x = x := if_neg (by omega)
theorem zmx_n {x : Int} (h : x ≤ -1) : zmx x = -1 := by
  unfold zmx
  by_cases q : x < -1
  · rw [if_pos q]
  · rw [if_neg q]
    omega
theorem zLdn {a b : Int64} (hbb : 1 ≤ b.toInt ∧ b.toInt ≤ 10000000) (ha : -2000000000000000 ≤ a.toInt ∧ a.toInt ≤ 2000000000000000) :
    (0 ≤ a.toInt → ((0 ≤ (a / b - 0).toInt → (a / b - 0).toInt = zmx (a.toInt / b.toInt)) ∧ ((a / b - 0).toInt < 0 → (-1 : Int64).toInt = zmx (a.toInt / b.toInt)) ∧
      (a / b * b = a → (0 ≤ (a / b - 1).toInt → (a / b - 1).toInt = zmx (-((-a.toInt) / b.toInt) - 1)) ∧ ((a / b - 1).toInt < 0 → (-1 : Int64).toInt = zmx (-((-a.toInt) / b.toInt) - 1))) ∧
      (¬ a / b * b = a → (0 ≤ (a / b - 0).toInt → (a / b - 0).toInt = zmx (-((-a.toInt) / b.toInt) - 1)) ∧ ((a / b - 0).toInt < 0 → (-1 : Int64).toInt = zmx (-((-a.toInt) / b.toInt) - 1))))) ∧
    (a.toInt < 0 → (-1 : Int64).toInt = zmx (a.toInt / b.toInt) ∧ (-1 : Int64).toInt = zmx (-((-a.toInt) / b.toInt) - 1) ∧ ((-1 : Int64) - 0).toInt < 0) := by
  have z0 : (0 : Int64).toInt = 0 := by decide
  have z1 : (1 : Int64).toInt = 1 := by decide
  have z2 : (-1 : Int64).toInt = -1 := by decide
  have bd := zLdvb hbb.1 ha
  constructor
  · intro h
    have hq := zLq1 hbb ha h
    have u := zLup hbb ha hq
    have e0 : (a / b - 0).toInt = a.toInt / b.toInt := by rw [zLsub (by rw [hq, z0]; omega), hq, z0]; omega
    have e1 : (a / b - 1).toInt = a.toInt / b.toInt - 1 := by rw [zLsub (by rw [hq, z1]; omega), hq, z1]
    rw [e0, e1, z2]
    have p0 : 0 ≤ a.toInt / b.toInt := Int.ediv_nonneg h (by omega)
    refine ⟨fun z => (zmx_p (by omega)).symm, fun z => by omega, fun z => ?_, fun z => ?_⟩
    · have c := u.2.1 z
      rw [hq] at c
      rw [← c]
      exact ⟨fun y => (zmx_p (by omega)).symm, fun y => (zmx_n (by omega)).symm⟩
    · have c := u.2.2 z
      rw [u.1] at c
      rw [← c]
      exact ⟨fun y => by rw [zmx_p (by omega)]; omega, fun y => by omega⟩
  · intro h
    have n1 : a.toInt / b.toInt < 0 := Int.ediv_neg_of_neg_of_pos h (by omega)
    have n2 : 0 ≤ (-a.toInt) / b.toInt := Int.ediv_nonneg (by omega) (by omega)
    rw [z2]
    exact ⟨(zmx_n (by omega)).symm, (zmx_n (by omega)).symm, by decide⟩
def tTT (sv : Int32) (S ct cn E : Int) : Int := if E = 0 then -1 else if sv = 0 then (if 0 < S then -((-(S + ct * cn)) / E) else zmx (-((-(S + ct * cn)) / E) - 1)) else (if 0 < S then zmx ((ct * cn - S) / E) else (ct * cn - S) / E + 1)
theorem tTT_c {sv : Int32} {S a b e : Int} : tTT sv S a b e = tTT sv S b a e := by
  unfold tTT
  rw [Int.mul_comm a b]
section TT
variable {ct cn E sv : Int32} {S F v : Int64}
theorem zTe (hE : 0 ≤ E.toInt ∧ E.toInt ≤ 9999999) (h : ¬ E.toInt64 = 0) : 1 ≤ E.toInt64.toInt ∧ E.toInt64.toInt ≤ 10000000 := by
  have e : E.toInt64.toInt = E.toInt := Int32.toInt_toInt64 E
  have : E.toInt64.toInt ≠ 0 := fun z => h (Int64.toInt_inj.mp (z.trans (by decide)))
  omega
theorem zTp (hct : 0 ≤ ct.toInt ∧ ct.toInt ≤ 9999999) (hcn : 0 ≤ cn.toInt ∧ cn.toInt ≤ 9999999) : (ct.toInt64 * cn.toInt64).toInt = ct.toInt * cn.toInt ∧ 0 ≤ ct.toInt * cn.toInt ∧ ct.toInt * cn.toInt ≤ 100000000000000 := by
  have e1 : ct.toInt64.toInt = ct.toInt := Int32.toInt_toInt64 ct
  have e2 : cn.toInt64.toInt = cn.toInt := Int32.toInt_toInt64 cn
  have p0 : 0 ≤ ct.toInt * cn.toInt := Int.mul_nonneg hct.1 hcn.1
  have p1 : ct.toInt * cn.toInt ≤ 9999999 * 9999999 := Int.mul_le_mul hct.2 hcn.2 hcn.1 (by omega)
  refine ⟨?_, p0, by omega⟩
  rw [zLmul (by rw [e1, e2]; omega), e1, e2]
theorem zTb (hS : -1000000000000000 ≤ S.toInt ∧ S.toInt ≤ 1000000000000000) (hct : 0 ≤ ct.toInt ∧ ct.toInt ≤ 9999999) (hcn : 0 ≤ cn.toInt ∧ cn.toInt ≤ 9999999) :
    ((ct.toInt64 * cn.toInt64 - S).toInt = ct.toInt * cn.toInt - S.toInt ∧ (-2000000000000000 ≤ (ct.toInt64 * cn.toInt64 - S).toInt ∧ (ct.toInt64 * cn.toInt64 - S).toInt ≤ 2000000000000000)) ∧
    ((-(S + ct.toInt64 * cn.toInt64)).toInt = -(S.toInt + ct.toInt * cn.toInt) ∧ (-2000000000000000 ≤ (-(S + ct.toInt64 * cn.toInt64)).toInt ∧ (-(S + ct.toInt64 * cn.toInt64)).toInt ≤ 2000000000000000)) ∧
    ((-(S - ct.toInt64 * cn.toInt64)).toInt = ct.toInt * cn.toInt - S.toInt ∧ (-2000000000000000 ≤ (-(S - ct.toInt64 * cn.toInt64)).toInt ∧ (-(S - ct.toInt64 * cn.toInt64)).toInt ≤ 2000000000000000)) ∧
    ((-(-S - ct.toInt64 * cn.toInt64)).toInt = S.toInt + ct.toInt * cn.toInt ∧ (-2000000000000000 ≤ (-(-S - ct.toInt64 * cn.toInt64)).toInt ∧ (-(-S - ct.toInt64 * cn.toInt64)).toInt ≤ 2000000000000000)) := by
  obtain ⟨p, p0, p1⟩ := zTp hct hcn
  have e1 : (ct.toInt64 * cn.toInt64 - S).toInt = ct.toInt * cn.toInt - S.toInt := by rw [zLsub (by rw [p]; omega), p]
  have e2 : (S + ct.toInt64 * cn.toInt64).toInt = S.toInt + ct.toInt * cn.toInt := by rw [zLadd (by rw [p]; omega), p]
  have e3 : (-(S + ct.toInt64 * cn.toInt64)).toInt = -(S.toInt + ct.toInt * cn.toInt) := by rw [zLneg (by rw [e2]; omega), e2]
  have e4 : (S - ct.toInt64 * cn.toInt64).toInt = S.toInt - ct.toInt * cn.toInt := by rw [zLsub (by rw [p]; omega), p]
  have e5 : (-(S - ct.toInt64 * cn.toInt64)).toInt = ct.toInt * cn.toInt - S.toInt := by rw [zLneg (by rw [e4]; omega), e4]; omega
  have e6 : (-S).toInt = -S.toInt := zLneg (by omega)
  have e7 : (-S - ct.toInt64 * cn.toInt64).toInt = -S.toInt - ct.toInt * cn.toInt := by rw [zLsub (by rw [p, e6]; omega), p, e6]
  have e8 : (-(-S - ct.toInt64 * cn.toInt64)).toInt = S.toInt + ct.toInt * cn.toInt := by rw [zLneg (by rw [e7]; omega), e7]; omega
  rw [e1, e3, e5, e8]
  exact ⟨⟨rfl, by omega, by omega⟩, ⟨rfl, by omega, by omega⟩, ⟨rfl, by omega, by omega⟩, ⟨rfl, by omega, by omega⟩⟩
theorem tT_z (h : E.toInt64 = 0) {S ct cn : Int} : (-1 : Int64).toInt = tTT sv S ct cn E.toInt := by
  have e : E.toInt64.toInt = E.toInt := Int32.toInt_toInt64 E
  rw [h] at e
  unfold tTT
  rw [if_pos (by rw [← e]; decide)]
  decide
theorem tT_e (hE : 0 ≤ E.toInt ∧ E.toInt ≤ 9999999) (h : ¬ E.toInt64 = 0) : ¬ E.toInt = 0 ∧ 1 ≤ E.toInt ∧ E.toInt64.toInt = E.toInt := by
  have := zTe hE h
  have e : E.toInt64.toInt = E.toInt := Int32.toInt_toInt64 E
  omega
theorem tTs (hS : -1000000000000000 ≤ S.toInt ∧ S.toInt ≤ 1000000000000000) (hct : 0 ≤ ct.toInt ∧ ct.toInt ≤ 9999999) (hcn : 0 ≤ cn.toInt ∧ cn.toInt ≤ 9999999) (hE : 0 ≤ E.toInt ∧ E.toInt ≤ 9999999) (h : ¬ E.toInt64 = 0) (hsv : ¬ sv = 0) (Fe : F.toInt = (ct.toInt64 * cn.toInt64 - S).toInt / E.toInt64.toInt) :
    ((0 : Int64).toInt < S.toInt → (if F < -1 then (-1 : Int64) else F).toInt = tTT sv S.toInt ct.toInt cn.toInt E.toInt) ∧ (S.toInt ≤ (0 : Int64).toInt → (F + 1).toInt = tTT sv S.toInt ct.toInt cn.toInt E.toInt) := by
  have z0 : (0 : Int64).toInt = 0 := by decide
  have z1 : (1 : Int64).toInt = 1 := by decide
  obtain ⟨n0, n1, e⟩ := tT_e hE h
  obtain ⟨⟨b1, b2⟩, -⟩ := zTb hS hct hcn
  rw [b1] at b2
  have bd := zLdvb n1 b2
  rw [b1, e] at Fe
  unfold tTT
  rw [if_neg n0, if_neg hsv, z0]
  refine ⟨fun q => ?_, fun q => ?_⟩
  · rw [if_pos q, zLmx, Fe]
  · rw [if_neg (by omega), zLadd (by rw [Fe, z1]; omega), Fe, z1]
theorem zTu (hS : -1000000000000000 ≤ S.toInt ∧ S.toInt ≤ 1000000000000000) (hct : 0 ≤ ct.toInt ∧ ct.toInt ≤ 9999999) (hcn : 0 ≤ cn.toInt ∧ cn.toInt ≤ 9999999) (hE : 0 ≤ E.toInt ∧ E.toInt ≤ 9999999) (h : ¬ E.toInt64 = 0) (hsv : sv = 0) (Fe : F.toInt = (-(S + ct.toInt64 * cn.toInt64)).toInt / E.toInt64.toInt) :
    ((0 : Int64).toInt < S.toInt → (-F).toInt = tTT sv S.toInt ct.toInt cn.toInt E.toInt) ∧ (S.toInt ≤ (0 : Int64).toInt → (if -F - 1 < -1 then (-1 : Int64) else -F - 1).toInt = tTT sv S.toInt ct.toInt cn.toInt E.toInt) := by
  have z0 : (0 : Int64).toInt = 0 := by decide
  have z1 : (1 : Int64).toInt = 1 := by decide
  obtain ⟨n0, n1, e⟩ := tT_e hE h
  obtain ⟨-, ⟨b1, b2⟩, -⟩ := zTb hS hct hcn
  rw [b1] at b2
  have bd := zLdvb n1 b2
  rw [b1, e] at Fe
  have e1 : (-F).toInt = -((-(S.toInt + ct.toInt * cn.toInt)) / E.toInt) := by rw [zLneg (by rw [Fe]; omega), Fe]
  unfold tTT
  rw [if_neg n0, if_pos hsv, z0]
  refine ⟨fun q => ?_, fun q => ?_⟩
  · rw [if_pos q, e1]
  · refine zLmx.trans ?_
    rw [if_neg (by omega), zLsub (by rw [e1, z1]; omega), e1, z1]
theorem zMs (hS : -1000000000000000 ≤ S.toInt ∧ S.toInt ≤ 1000000000000000) (hct : 0 ≤ ct.toInt ∧ ct.toInt ≤ 9999999) (hcn : 0 ≤ cn.toInt ∧ cn.toInt ≤ 9999999) (h : ¬ cn.toInt64 = 0) (hsv : ¬ sv = 0) :
    ((0 : Int64).toInt < S.toInt → v.toInt = zmx ((-(S - ct.toInt64 * cn.toInt64)).toInt / cn.toInt64.toInt) → v.toInt = tTT sv S.toInt ct.toInt cn.toInt cn.toInt) ∧ (S.toInt ≤ (0 : Int64).toInt → v.toInt = (-(S - ct.toInt64 * cn.toInt64)).toInt / cn.toInt64.toInt + 1 → v.toInt = tTT sv S.toInt ct.toInt cn.toInt cn.toInt) := by
  have z0 : (0 : Int64).toInt = 0 := by decide
  obtain ⟨n0, n1, e⟩ := tT_e hcn h
  obtain ⟨-, -, ⟨b1, b2⟩, -⟩ := zTb hS hct hcn
  rw [b1, e]
  unfold tTT
  rw [if_neg n0, if_neg hsv, z0]
  exact ⟨fun q z => by rw [if_pos q]; exact z, fun q z => by rw [if_neg (by omega)]; exact z⟩
theorem zMu (hS : -1000000000000000 ≤ S.toInt ∧ S.toInt ≤ 1000000000000000) (hct : 0 ≤ ct.toInt ∧ ct.toInt ≤ 9999999) (hcn : 0 ≤ cn.toInt ∧ cn.toInt ≤ 9999999) (h : ¬ cn.toInt64 = 0) (hsv : sv = 0) :
    ((0 : Int64).toInt < S.toInt → v.toInt = -((-(-(-S - ct.toInt64 * cn.toInt64)).toInt) / cn.toInt64.toInt) → v.toInt = tTT sv S.toInt ct.toInt cn.toInt cn.toInt) ∧ (S.toInt ≤ (0 : Int64).toInt → v.toInt = zmx (-((-(-(-S - ct.toInt64 * cn.toInt64)).toInt) / cn.toInt64.toInt) - 1) → v.toInt = tTT sv S.toInt ct.toInt cn.toInt cn.toInt) := by
  have z0 : (0 : Int64).toInt = 0 := by decide
  obtain ⟨n0, n1, e⟩ := tT_e hcn h
  obtain ⟨-, -, -, ⟨b1, b2⟩⟩ := zTb hS hct hcn
  rw [b1, e]
  unfold tTT
  rw [if_neg n0, if_pos hsv, z0]
  exact ⟨fun q z => by rw [if_pos q]; exact z, fun q z => by rw [if_neg (by omega)]; exact z⟩
end TT
theorem sS_bd {ix : Int32 → Int32 → Int32} {sv ct cn rw : Nat → Int32} {m : Int32} (hix : ∀ x : Int32, (0 ≤ x.toInt ∧ x.toInt < 6) → (ix m x).toNatClampNeg < 120) (ha : ∀ i, i < 120 → (0 ≤ (ct i).toInt ∧ (ct i).toInt ≤ 9999999) ∧ (0 ≤ (cn i).toInt ∧ (cn i).toInt ≤ 9999999)) : ∀ n : Nat, n ≤ 6 → -(100000000000000 * (n : Int)) ≤ (sS ix sv ct cn rw m m 0 n).toInt ∧ (sS ix sv ct cn rw m m 0 n).toInt ≤ 100000000000000 * (n : Int) := by
  intro n
  induction n with
  | zero => intro _; unfold sS; decide
  | succ n ih =>
    intro hn
    have b := ih (by omega)
    have hx : (Int32.ofNat n).toInt = n := yofN (by omega)
    have hi := hix (Int32.ofNat n) (by omega)
    have r := ha _ hi
    obtain ⟨p, p0, p1⟩ := zTp r.1 r.2
    have e1 : ∀ (P Q : Prop) [Decidable P] [Decidable Q] (a c : Nat) , a = c → (if P then a else c) = c := by
      intro P Q _ _ a c e
      rw [e]
      split <;> rfl
    unfold sS
    rw [ite_self]
    split
    · rw [zLadd (by rw [zLneg (by rw [p]; omega), p]; omega), zLneg (by rw [p]; omega), p]
      omega
    · rw [zLadd (by rw [p]; omega), p]
      omega
theorem ta_all {ix : Int32 → Int32 → Int32} {sv ct cn rw : Nat → Int32} {m r : Int32} (hix : ∀ m : Int32, (0 ≤ m.toInt ∧ m.toInt < 20) → ∀ x : Int32, (0 ≤ x.toInt ∧ x.toInt < 6) → (ix m x).toNatClampNeg < 120) (hm : 0 ≤ m.toInt ∧ m.toInt < 20) (hq : ∀ i, i < 20 → 0 ≤ (rw i).toInt ∧ (rw i).toInt ≤ 6) (ha : ∀ i, i < 120 → (0 ≤ (ct i).toInt ∧ (ct i).toInt ≤ 9999999) ∧ (0 ≤ (cn i).toInt ∧ (cn i).toInt ≤ 9999999)) (hr : 0 ≤ r.toInt ∧ r.toInt < (rw m.toNatClampNeg).toInt) : (-1000000000000000 ≤ (sS ix sv ct cn rw m m 0 (rw m.toNatClampNeg).toNatClampNeg).toInt ∧ (sS ix sv ct cn rw m m 0 (rw m.toNatClampNeg).toNatClampNeg).toInt ≤ 1000000000000000) ∧ (0 ≤ (ct (ix m r).toNatClampNeg).toInt ∧ (ct (ix m r).toNatClampNeg).toInt ≤ 9999999) ∧ (0 ≤ (cn (ix m r).toNatClampNeg).toInt ∧ (cn (ix m r).toNatClampNeg).toInt ≤ 9999999) := by
  have q := hq m.toNatClampNeg (by rw [zclE]; omega)
  have b := sS_bd (sv := sv) (rw := rw) (hix m hm) ha (rw m.toNatClampNeg).toNatClampNeg (by rw [zclE]; omega)
  have c := ha _ (hix m hm r (by omega))
  refine ⟨?_, c.1, c.2⟩
  have : (((rw m.toNatClampNeg).toNatClampNeg : Nat) : Int) ≤ 6 := by rw [zclE]; omega
  omega
theorem ixc_lt : ∀ m : Int32, (0 ≤ m.toInt ∧ m.toInt < 20) → ∀ x : Int32, (0 ≤ x.toInt ∧ x.toInt < 6) → (ixc m x).toNatClampNeg < 120 := by
  intro m hm x hx
  unfold ixc
  have e : (6 : Int32).toInt = 6 := by decide
  have e1 : (m * 6).toInt = m.toInt * 6 := by
    rw [Int32.toInt_mul, e]
    exact Int.bmod_eq_of_le (by show (-2147483648 : Int) ≤ m.toInt * 6; omega) (by show m.toInt * 6 < (2147483648 : Int); omega)
  have e2 : (m * 6 + x).toInt = m.toInt * 6 + x.toInt := by
    rw [Int32.toInt_add, e1]
    exact Int.bmod_eq_of_le (by show (-2147483648 : Int) ≤ m.toInt * 6 + x.toInt; omega) (by show m.toInt * 6 + x.toInt < (2147483648 : Int); omega)
  rw [zclE, e2]
  omega
theorem ixm_lt : ∀ m : Int32, (0 ≤ m.toInt ∧ m.toInt < 20) → ∀ x : Int32, (0 ≤ x.toInt ∧ x.toInt < 6) → (ixm m x).toNatClampNeg < 120 := by
  rw [← ix_eq]
  exact ixc_lt
theorem g_upTo {G : zG} (hG : G.1 = zProg) {h : zH} {a b : Int64} {z : Int32} (hbb : 1 ≤ b.toInt ∧ b.toInt ≤ 10000000) (ha : -2000000000000000 ≤ a.toInt ∧ a.toInt ≤ 2000000000000000) : tC zTt G 254 [.long a, .long b, .int z] h (fun w h2 => ∃ v : Int64, w = some (.long v) ∧ v.toInt = (if z = 0 then -((-a.toInt) / b.toInt) else a.toInt / b.toInt + 1) ∧ h2 = h) := by
  refine tC_in (by rw [hG]; rfl) (fun dp => ?_)
  have z0 : (0 : Int64).toInt = 0 := by decide
  refine tw_lload rfl rfl ?_
  refine tw_push rfl ?_
  refine tw_lc_lt rfl rfl (fun q92 => ?_) (fun q92 => ?_)
  · try dsimp only [tvI_i, tvJ_j, tvR_r] at q92
    refine tw_lload rfl rfl ?_
    refine tw_lneg rfl ?_
    refine tw_lload rfl rfl ?_
    refine tw_ladd rfl ?_
    refine tw_push rfl ?_
    refine tw_lsub rfl ?_
    refine tw_lload rfl rfl ?_
    refine tw_ldiv rfl (fun _ => ?_)
    refine tw_lneg rfl ?_
    refine tw_lstore rfl ?_
    refine tw_iload rfl rfl ?_
    refine tw_if_eq rfl (fun q93 => ?_) (fun q93 => ?_)
    · try dsimp only [tvI_i, tvJ_j, tvR_r] at q93
      have q93i := zeqi (Y := 0) (by decide) q93
      refine tw_lload rfl rfl ?_
      refine tw_lload rfl rfl ?_
      refine tw_lmul rfl ?_
      refine tw_lload rfl rfl ?_
      refine tw_lc_ne rfl rfl (fun q94 => ?_) (fun q94 => ?_)
      · try dsimp only [tvI_i, tvJ_j, tvR_r] at q94
        refine tw_lload rfl rfl ?_
        refine tw_push rfl ?_
        refine tw_ladd rfl ?_
        exact tw_lret rfl ⟨_, rfl, ((zLup hbb ha (zLq2 hbb ha (by omega))).2.2 q94).trans (if_pos q93).symm, rfl⟩
      · try dsimp only [tvI_i, tvJ_j, tvR_r] at q94
        refine tw_lload rfl rfl ?_
        refine tw_goto rfl ?_
        exact tw_lret rfl ⟨_, rfl, ((zLup hbb ha (zLq2 hbb ha (by omega))).2.1 q94).trans (if_pos q93).symm, rfl⟩
    · try dsimp only [tvI_i, tvJ_j, tvR_r] at q93
      have q93i := zneq (Y := 0) (by decide) q93
      refine tw_lload rfl rfl ?_
      refine tw_push rfl ?_
      refine tw_ladd rfl ?_
      refine tw_goto rfl ?_
      exact tw_lret rfl ⟨_, rfl, (zLup hbb ha (zLq2 hbb ha (by omega))).1.trans (if_neg q93).symm, rfl⟩
  · try dsimp only [tvI_i, tvJ_j, tvR_r] at q92
    refine tw_lload rfl rfl ?_
    refine tw_lload rfl rfl ?_
    refine tw_ldiv rfl (fun _ => ?_)
    refine tw_goto rfl ?_
    refine tw_lstore rfl ?_
    refine tw_iload rfl rfl ?_
    refine tw_if_eq rfl (fun q95 => ?_) (fun q95 => ?_)
    · try dsimp only [tvI_i, tvJ_j, tvR_r] at q95
      have q95i := zeqi (Y := 0) (by decide) q95
      refine tw_lload rfl rfl ?_
      refine tw_lload rfl rfl ?_
      refine tw_lmul rfl ?_
      refine tw_lload rfl rfl ?_
      refine tw_lc_ne rfl rfl (fun q96 => ?_) (fun q96 => ?_)
      · try dsimp only [tvI_i, tvJ_j, tvR_r] at q96
        refine tw_lload rfl rfl ?_
        refine tw_push rfl ?_
        refine tw_ladd rfl ?_
        exact tw_lret rfl ⟨_, rfl, ((zLup hbb ha (zLq1 hbb ha (by omega))).2.2 q96).trans (if_pos q95).symm, rfl⟩
      · try dsimp only [tvI_i, tvJ_j, tvR_r] at q96
        refine tw_lload rfl rfl ?_
        refine tw_goto rfl ?_
        exact tw_lret rfl ⟨_, rfl, ((zLup hbb ha (zLq1 hbb ha (by omega))).2.1 q96).trans (if_pos q95).symm, rfl⟩
    · try dsimp only [tvI_i, tvJ_j, tvR_r] at q95
      have q95i := zneq (Y := 0) (by decide) q95
      refine tw_lload rfl rfl ?_
      refine tw_push rfl ?_
      refine tw_ladd rfl ?_
      refine tw_goto rfl ?_
      exact tw_lret rfl ⟨_, rfl, (zLup hbb ha (zLq1 hbb ha (by omega))).1.trans (if_neg q95).symm, rfl⟩
theorem g_downTo {G : zG} (hG : G.1 = zProg) {h : zH} {a b : Int64} {z : Int32} (hbb : 1 ≤ b.toInt ∧ b.toInt ≤ 10000000) (ha : -2000000000000000 ≤ a.toInt ∧ a.toInt ≤ 2000000000000000) : tC zTt G 255 [.long a, .long b, .int z] h (fun w h2 => ∃ v : Int64, w = some (.long v) ∧ v.toInt = (if z = 0 then zmx (a.toInt / b.toInt) else zmx (-((-a.toInt) / b.toInt) - 1)) ∧ h2 = h) := by
  refine tC_in (by rw [hG]; rfl) (fun dp => ?_)
  have z0 : (0 : Int64).toInt = 0 := by decide
  refine tw_lload rfl rfl ?_
  refine tw_push rfl ?_
  refine tw_lc_lt rfl rfl (fun q97 => ?_) (fun q97 => ?_)
  · try dsimp only [tvI_i, tvJ_j, tvR_r] at q97
    refine tw_push rfl ?_
    refine tw_lstore rfl ?_
    refine tw_lload rfl rfl ?_
    refine tw_iload rfl rfl ?_
    refine tw_if_eq rfl (fun q98 => ?_) (fun q98 => ?_)
    · try dsimp only [tvI_i, tvJ_j, tvR_r] at q98
      have q98i := zeqi (Y := 0) (by decide) q98
      refine tw_push rfl ?_
      refine tw_lsub rfl ?_
      refine tw_lstore rfl ?_
      refine tw_lload rfl rfl ?_
      refine tw_push rfl ?_
      refine tw_lc_ge rfl rfl (fun q99 => ?_) (fun q99 => ?_)
      · try dsimp only [tvI_i, tvJ_j, tvR_r] at q99
        refine tw_lload rfl rfl ?_
        have c := ((zLdn hbb ha).2 (by omega)).2.2
        exfalso
        omega
      · try dsimp only [tvI_i, tvJ_j, tvR_r] at q99
        refine tw_push rfl ?_
        refine tw_goto rfl ?_
        exact tw_lret rfl ⟨_, rfl, (((zLdn hbb ha).2 (by omega)).1).trans (if_pos q98).symm, rfl⟩
    · try dsimp only [tvI_i, tvJ_j, tvR_r] at q98
      have q98i := zneq (Y := 0) (by decide) q98
      refine tw_lload rfl rfl ?_
      refine tw_push rfl ?_
      refine tw_lc_lt rfl rfl (fun q100 => ?_) (fun q100 => ?_)
      · try dsimp only [tvI_i, tvJ_j, tvR_r] at q100
        refine tw_push rfl ?_
        refine tw_lsub rfl ?_
        refine tw_lstore rfl ?_
        refine tw_lload rfl rfl ?_
        refine tw_push rfl ?_
        refine tw_lc_ge rfl rfl (fun q101 => ?_) (fun q101 => ?_)
        · try dsimp only [tvI_i, tvJ_j, tvR_r] at q101
          refine tw_lload rfl rfl ?_
          have c := ((zLdn hbb ha).2 (by omega)).2.2
          exfalso
          omega
        · try dsimp only [tvI_i, tvJ_j, tvR_r] at q101
          refine tw_push rfl ?_
          refine tw_goto rfl ?_
          exact tw_lret rfl ⟨_, rfl, (((zLdn hbb ha).2 (by omega)).2.1).trans (if_neg q98).symm, rfl⟩
      · try dsimp only [tvI_i, tvJ_j, tvR_r] at q100
        refine tw_lload rfl rfl ?_
        refine tw_lload rfl rfl ?_
        refine tw_lmul rfl ?_
        refine tw_lload rfl rfl ?_
        refine tw_lc_ne rfl rfl (fun q102 => ?_) (fun q102 => ?_)
        · try dsimp only [tvI_i, tvJ_j, tvR_r] at q102
          refine tw_push rfl ?_
          refine tw_lsub rfl ?_
          refine tw_lstore rfl ?_
          refine tw_lload rfl rfl ?_
          refine tw_push rfl ?_
          refine tw_lc_ge rfl rfl (fun q103 => ?_) (fun q103 => ?_)
          · try dsimp only [tvI_i, tvJ_j, tvR_r] at q103
            refine tw_lload rfl rfl ?_
            exfalso
            omega
          · try dsimp only [tvI_i, tvJ_j, tvR_r] at q103
            refine tw_push rfl ?_
            refine tw_goto rfl ?_
            exfalso
            omega
        · try dsimp only [tvI_i, tvJ_j, tvR_r] at q102
          refine tw_push rfl ?_
          refine tw_goto rfl ?_
          refine tw_lsub rfl ?_
          refine tw_lstore rfl ?_
          refine tw_lload rfl rfl ?_
          refine tw_push rfl ?_
          refine tw_lc_ge rfl rfl (fun q104 => ?_) (fun q104 => ?_)
          · try dsimp only [tvI_i, tvJ_j, tvR_r] at q104
            refine tw_lload rfl rfl ?_
            exfalso
            omega
          · try dsimp only [tvI_i, tvJ_j, tvR_r] at q104
            refine tw_push rfl ?_
            refine tw_goto rfl ?_
            exfalso
            omega
  · try dsimp only [tvI_i, tvJ_j, tvR_r] at q97
    refine tw_lload rfl rfl ?_
    refine tw_lload rfl rfl ?_
    refine tw_ldiv rfl (fun _ => ?_)
    refine tw_goto rfl ?_
    refine tw_lstore rfl ?_
    refine tw_lload rfl rfl ?_
    refine tw_iload rfl rfl ?_
    refine tw_if_eq rfl (fun q105 => ?_) (fun q105 => ?_)
    · try dsimp only [tvI_i, tvJ_j, tvR_r] at q105
      have q105i := zeqi (Y := 0) (by decide) q105
      refine tw_push rfl ?_
      refine tw_lsub rfl ?_
      refine tw_lstore rfl ?_
      refine tw_lload rfl rfl ?_
      refine tw_push rfl ?_
      refine tw_lc_ge rfl rfl (fun q106 => ?_) (fun q106 => ?_)
      · try dsimp only [tvI_i, tvJ_j, tvR_r] at q106
        refine tw_lload rfl rfl ?_
        exact tw_lret rfl ⟨_, rfl, (((zLdn hbb ha).1 (by omega)).1 (by omega)).trans (if_pos q105).symm, rfl⟩
      · try dsimp only [tvI_i, tvJ_j, tvR_r] at q106
        refine tw_push rfl ?_
        refine tw_goto rfl ?_
        exact tw_lret rfl ⟨_, rfl, (((zLdn hbb ha).1 (by omega)).2.1 (by omega)).trans (if_pos q105).symm, rfl⟩
    · try dsimp only [tvI_i, tvJ_j, tvR_r] at q105
      have q105i := zneq (Y := 0) (by decide) q105
      refine tw_lload rfl rfl ?_
      refine tw_push rfl ?_
      refine tw_lc_lt rfl rfl (fun q107 => ?_) (fun q107 => ?_)
      · try dsimp only [tvI_i, tvJ_j, tvR_r] at q107
        refine tw_push rfl ?_
        refine tw_lsub rfl ?_
        refine tw_lstore rfl ?_
        refine tw_lload rfl rfl ?_
        refine tw_push rfl ?_
        refine tw_lc_ge rfl rfl (fun q108 => ?_) (fun q108 => ?_)
        · try dsimp only [tvI_i, tvJ_j, tvR_r] at q108
          refine tw_lload rfl rfl ?_
          exfalso
          omega
        · try dsimp only [tvI_i, tvJ_j, tvR_r] at q108
          refine tw_push rfl ?_
          refine tw_goto rfl ?_
          exfalso
          omega
      · try dsimp only [tvI_i, tvJ_j, tvR_r] at q107
        refine tw_lload rfl rfl ?_
        refine tw_lload rfl rfl ?_
        refine tw_lmul rfl ?_
        refine tw_lload rfl rfl ?_
        refine tw_lc_ne rfl rfl (fun q109 => ?_) (fun q109 => ?_)
        · try dsimp only [tvI_i, tvJ_j, tvR_r] at q109
          refine tw_push rfl ?_
          refine tw_lsub rfl ?_
          refine tw_lstore rfl ?_
          refine tw_lload rfl rfl ?_
          refine tw_push rfl ?_
          refine tw_lc_ge rfl rfl (fun q110 => ?_) (fun q110 => ?_)
          · try dsimp only [tvI_i, tvJ_j, tvR_r] at q110
            refine tw_lload rfl rfl ?_
            exact tw_lret rfl ⟨_, rfl, ((((zLdn hbb ha).1 (by omega)).2.2.2 q109).1 (by omega)).trans (if_neg q105).symm, rfl⟩
          · try dsimp only [tvI_i, tvJ_j, tvR_r] at q110
            refine tw_push rfl ?_
            refine tw_goto rfl ?_
            exact tw_lret rfl ⟨_, rfl, ((((zLdn hbb ha).1 (by omega)).2.2.2 q109).2 (by omega)).trans (if_neg q105).symm, rfl⟩
        · try dsimp only [tvI_i, tvJ_j, tvR_r] at q109
          refine tw_push rfl ?_
          refine tw_goto rfl ?_
          refine tw_lsub rfl ?_
          refine tw_lstore rfl ?_
          refine tw_lload rfl rfl ?_
          refine tw_push rfl ?_
          refine tw_lc_ge rfl rfl (fun q111 => ?_) (fun q111 => ?_)
          · try dsimp only [tvI_i, tvJ_j, tvR_r] at q111
            refine tw_lload rfl rfl ?_
            exact tw_lret rfl ⟨_, rfl, ((((zLdn hbb ha).1 (by omega)).2.2.1 q109).1 (by omega)).trans (if_neg q105).symm, rfl⟩
          · try dsimp only [tvI_i, tvJ_j, tvR_r] at q111
            refine tw_push rfl ?_
            refine tw_goto rfl ?_
            exact tw_lret rfl ⟨_, rfl, ((((zLdn hbb ha).1 (by omega)).2.2.1 q109).2 (by omega)).trans (if_neg q105).symm, rfl⟩
theorem f_turnOf {G : zG} (hG : G.1 = zProg) {h : zH} {m r z : Int32} (hs : tSh h) (hm : 0 ≤ m.toInt ∧ m.toInt < 20) (hq : ∀ i, i < 20 → 0 ≤ (tA h 77 i).toInt ∧ (tA h 77 i).toInt ≤ 6) (ha : ∀ i, i < 120 → (0 ≤ (tA h 79 i).toInt ∧ (tA h 79 i).toInt ≤ 9999999) ∧ (0 ≤ (tA h 80 i).toInt ∧ (tA h 80 i).toInt ≤ 9999999)) (hr : 0 ≤ r.toInt ∧ r.toInt < (tA h 77 m.toNatClampNeg).toInt) : tC zTt G 43 [.ref 76, .int m, .int r, .int z] h (fun w h2 => ∃ v : Int64, w = some (.long v) ∧ v.toInt = tTT (tA h 78 (m * 6 + r).toNatClampNeg) (sS ixc (tA h 78) (tA h 79) (tA h 80) (tA h 77) m m 0 (tA h 77 m.toNatClampNeg).toNatClampNeg).toInt (tA h 79 (m * 6 + r).toNatClampNeg).toInt (tA h 80 (m * 6 + r).toNatClampNeg).toInt (if z = 0 then (tA h 79 (m * 6 + r).toNatClampNeg).toInt else (tA h 80 (m * 6 + r).toNatClampNeg).toInt) ∧ h2 = h) := by
  refine tC_in (by rw [hG]; rfl) (fun dp => ?_)
  obtain ⟨a1, a2, a3⟩ := ta_all (sv := tA h 78) ixc_lt hm hq ha hr
  have hr0 := (hq m.toNatClampNeg (by rw [zclE]; omega)).1
  unfold ixc at a2 a3
  have z0 : (0 : Int64).toInt = 0 := by decide
  refine tw_iload rfl rfl ?_
  refine tw_push rfl ?_
  refine tw_imul rfl ?_
  refine tw_iload rfl rfl ?_
  refine tw_iadd rfl ?_
  refine tw_istore rfl ?_
  refine tw_iload rfl rfl ?_
  refine tw_if_eq rfl (fun q112 => ?_) (fun q112 => ?_)
  · try dsimp only [tvI_i, tvJ_j, tvR_r] at q112
    have q112i := zeqi (Y := 0) (by decide) q112
    refine tw_aload rfl rfl ?_
    refine tw_getS rfl (hs_76_3 hs) ?_
    refine tw_iload rfl rfl ?_
    refine tw_iald rfl (fun f113 => ?_)
    refine tw_i2l rfl ?_
    refine tw_lstore rfl ?_
    refine tw_lload rfl rfl ?_
    refine tw_push rfl ?_
    refine tw_lc_ne rfl rfl (fun q114 => ?_) (fun q114 => ?_)
    · try dsimp only [tvI_i, tvJ_j, tvR_r] at q114
      refine tw_aload rfl rfl ?_
      refine tw_iload rfl rfl ?_
      refine tw_virt1 rfl (f_sumOf hG hs hr0) (fun w9 h9 p115 => ?_)
      obtain ⟨rfl, rfl⟩ := p115
      refine tw_lstore rfl ?_
      refine tw_aload rfl rfl ?_
      refine tw_getS rfl (hs_76_3 hs) ?_
      refine tw_iload rfl rfl ?_
      refine tw_iald rfl (fun f116 => ?_)
      refine tw_i2l rfl ?_
      refine tw_aload rfl rfl ?_
      refine tw_getS rfl (hs_76_4 hs) ?_
      refine tw_iload rfl rfl ?_
      refine tw_iald rfl (fun f117 => ?_)
      refine tw_i2l rfl ?_
      refine tw_lmul rfl ?_
      refine tw_lstore rfl ?_
      refine tw_aload rfl rfl ?_
      refine tw_getS rfl (hs_76_2 hs) ?_
      refine tw_iload rfl rfl ?_
      refine tw_bald rfl (fun f118 => ?_)
      refine tw_if_eq rfl (fun q119 => ?_) (fun q119 => ?_)
      · try dsimp only [tvI_i, tvJ_j, tvR_r] at q119
        have q119i := zeqi (Y := 0) (by decide) q119
        refine tw_lload rfl rfl ?_
        refine tw_lload rfl rfl ?_
        refine tw_ladd rfl ?_
        refine tw_lneg rfl ?_
        refine tw_lload rfl rfl ?_
        refine tw_stat2 rfl (f_floorDiv hG (zTe a2 q114) (zTb a1 a2 a3).2.1.2) (fun wp120 hp120 p120 => ?_)
        obtain ⟨vp120, rfl, p120e, rfl⟩ := p120
        refine tw_lneg rfl ?_
        refine tw_lstore rfl ?_
        refine tw_lload rfl rfl ?_
        refine tw_push rfl ?_
        refine tw_lc_le rfl rfl (fun q121 => ?_) (fun q121 => ?_)
        · try dsimp only [tvI_i, tvJ_j, tvR_r] at q121
          refine tw_push rfl ?_
          refine tw_lload rfl rfl ?_
          refine tw_push rfl ?_
          refine tw_lsub rfl ?_
          refine tw_lmax rfl ?_
          exact tw_lret rfl ⟨_, rfl, ((zTu a1 a2 a3 a2 q114 q119 p120e).2 q121).trans (congrArg (fun e => tTT _ _ _ _ e) (if_pos q112)).symm, rfl⟩
        · try dsimp only [tvI_i, tvJ_j, tvR_r] at q121
          refine tw_lload rfl rfl ?_
          refine tw_goto rfl ?_
          exact tw_lret rfl ⟨_, rfl, ((zTu a1 a2 a3 a2 q114 q119 p120e).1 q121).trans (congrArg (fun e => tTT _ _ _ _ e) (if_pos q112)).symm, rfl⟩
      · try dsimp only [tvI_i, tvJ_j, tvR_r] at q119
        have q119i := zneq (Y := 0) (by decide) q119
        refine tw_lload rfl rfl ?_
        refine tw_lload rfl rfl ?_
        refine tw_lsub rfl ?_
        refine tw_lload rfl rfl ?_
        refine tw_stat2 rfl (f_floorDiv hG (zTe a2 q114) (zTb a1 a2 a3).1.2) (fun wp122 hp122 p122 => ?_)
        obtain ⟨vp122, rfl, p122e, rfl⟩ := p122
        refine tw_lstore rfl ?_
        refine tw_lload rfl rfl ?_
        refine tw_push rfl ?_
        refine tw_lc_le rfl rfl (fun q123 => ?_) (fun q123 => ?_)
        · try dsimp only [tvI_i, tvJ_j, tvR_r] at q123
          refine tw_lload rfl rfl ?_
          refine tw_push rfl ?_
          refine tw_ladd rfl ?_
          exact tw_lret rfl ⟨_, rfl, ((tTs a1 a2 a3 a2 q114 q119 p122e).2 q123).trans (congrArg (fun e => tTT _ _ _ _ e) (if_pos q112)).symm, rfl⟩
        · try dsimp only [tvI_i, tvJ_j, tvR_r] at q123
          refine tw_push rfl ?_
          refine tw_lload rfl rfl ?_
          refine tw_lmax rfl ?_
          refine tw_goto rfl ?_
          exact tw_lret rfl ⟨_, rfl, ((tTs a1 a2 a3 a2 q114 q119 p122e).1 q123).trans (congrArg (fun e => tTT _ _ _ _ e) (if_pos q112)).symm, rfl⟩
    · try dsimp only [tvI_i, tvJ_j, tvR_r] at q114
      refine tw_push rfl ?_
      exact tw_lret rfl ⟨_, rfl, (tT_z q114).trans (congrArg (fun e => tTT _ _ _ _ e) (if_pos q112)).symm, rfl⟩
  · try dsimp only [tvI_i, tvJ_j, tvR_r] at q112
    have q112i := zneq (Y := 0) (by decide) q112
    refine tw_aload rfl rfl ?_
    refine tw_getS rfl (hs_76_4 hs) ?_
    refine tw_iload rfl rfl ?_
    refine tw_iald rfl (fun f124 => ?_)
    refine tw_i2l rfl ?_
    refine tw_goto rfl ?_
    refine tw_lstore rfl ?_
    refine tw_lload rfl rfl ?_
    refine tw_push rfl ?_
    refine tw_lc_ne rfl rfl (fun q125 => ?_) (fun q125 => ?_)
    · try dsimp only [tvI_i, tvJ_j, tvR_r] at q125
      refine tw_aload rfl rfl ?_
      refine tw_iload rfl rfl ?_
      refine tw_virt1 rfl (f_sumOf hG hs hr0) (fun w9 h9 p126 => ?_)
      obtain ⟨rfl, rfl⟩ := p126
      refine tw_lstore rfl ?_
      refine tw_aload rfl rfl ?_
      refine tw_getS rfl (hs_76_3 hs) ?_
      refine tw_iload rfl rfl ?_
      refine tw_iald rfl (fun f127 => ?_)
      refine tw_i2l rfl ?_
      refine tw_aload rfl rfl ?_
      refine tw_getS rfl (hs_76_4 hs) ?_
      refine tw_iload rfl rfl ?_
      refine tw_iald rfl (fun f128 => ?_)
      refine tw_i2l rfl ?_
      refine tw_lmul rfl ?_
      refine tw_lstore rfl ?_
      refine tw_aload rfl rfl ?_
      refine tw_getS rfl (hs_76_2 hs) ?_
      refine tw_iload rfl rfl ?_
      refine tw_bald rfl (fun f129 => ?_)
      refine tw_if_eq rfl (fun q130 => ?_) (fun q130 => ?_)
      · try dsimp only [tvI_i, tvJ_j, tvR_r] at q130
        have q130i := zeqi (Y := 0) (by decide) q130
        refine tw_lload rfl rfl ?_
        refine tw_lload rfl rfl ?_
        refine tw_ladd rfl ?_
        refine tw_lneg rfl ?_
        refine tw_lload rfl rfl ?_
        refine tw_stat2 rfl (f_floorDiv hG (zTe a3 q125) (zTb a1 a2 a3).2.1.2) (fun wp131 hp131 p131 => ?_)
        obtain ⟨vp131, rfl, p131e, rfl⟩ := p131
        refine tw_lneg rfl ?_
        refine tw_lstore rfl ?_
        refine tw_lload rfl rfl ?_
        refine tw_push rfl ?_
        refine tw_lc_le rfl rfl (fun q132 => ?_) (fun q132 => ?_)
        · try dsimp only [tvI_i, tvJ_j, tvR_r] at q132
          refine tw_push rfl ?_
          refine tw_lload rfl rfl ?_
          refine tw_push rfl ?_
          refine tw_lsub rfl ?_
          refine tw_lmax rfl ?_
          exact tw_lret rfl ⟨_, rfl, ((zTu a1 a2 a3 a3 q125 q130 p131e).2 q132).trans (congrArg (fun e => tTT _ _ _ _ e) (if_neg q112)).symm, rfl⟩
        · try dsimp only [tvI_i, tvJ_j, tvR_r] at q132
          refine tw_lload rfl rfl ?_
          refine tw_goto rfl ?_
          exact tw_lret rfl ⟨_, rfl, ((zTu a1 a2 a3 a3 q125 q130 p131e).1 q132).trans (congrArg (fun e => tTT _ _ _ _ e) (if_neg q112)).symm, rfl⟩
      · try dsimp only [tvI_i, tvJ_j, tvR_r] at q130
        have q130i := zneq (Y := 0) (by decide) q130
        refine tw_lload rfl rfl ?_
        refine tw_lload rfl rfl ?_
        refine tw_lsub rfl ?_
        refine tw_lload rfl rfl ?_
        refine tw_stat2 rfl (f_floorDiv hG (zTe a3 q125) (zTb a1 a2 a3).1.2) (fun wp133 hp133 p133 => ?_)
        obtain ⟨vp133, rfl, p133e, rfl⟩ := p133
        refine tw_lstore rfl ?_
        refine tw_lload rfl rfl ?_
        refine tw_push rfl ?_
        refine tw_lc_le rfl rfl (fun q134 => ?_) (fun q134 => ?_)
        · try dsimp only [tvI_i, tvJ_j, tvR_r] at q134
          refine tw_lload rfl rfl ?_
          refine tw_push rfl ?_
          refine tw_ladd rfl ?_
          exact tw_lret rfl ⟨_, rfl, ((tTs a1 a2 a3 a3 q125 q130 p133e).2 q134).trans (congrArg (fun e => tTT _ _ _ _ e) (if_neg q112)).symm, rfl⟩
        · try dsimp only [tvI_i, tvJ_j, tvR_r] at q134
          refine tw_push rfl ?_
          refine tw_lload rfl rfl ?_
          refine tw_lmax rfl ?_
          refine tw_goto rfl ?_
          exact tw_lret rfl ⟨_, rfl, ((tTs a1 a2 a3 a3 q125 q130 p133e).1 q134).trans (congrArg (fun e => tTT _ _ _ _ e) (if_neg q112)).symm, rfl⟩
    · try dsimp only [tvI_i, tvJ_j, tvR_r] at q125
      refine tw_push rfl ?_
      exact tw_lret rfl ⟨_, rfl, (tT_z q125).trans (congrArg (fun e => tTT _ _ _ _ e) (if_neg q112)).symm, rfl⟩
def ph_ta (P b A B C D : Nat) (ix : Int32 → Int32 → Int32) (m r u : Int32) (h : zH) (w : Option Value) (h2 : zH) : Prop := (((0 ≤ m.toInt ∧ m.toInt < (tvI (tF h P b)).toInt) ∧ (0 ≤ r.toInt ∧ r.toInt < (tA h D m.toNatClampNeg).toInt) ∧ (0 ≤ u.toInt ∧ u.toInt ≤ 1)) ∧ ∃ v : Int64, w = some (.long v) ∧ v.toInt = tTT (tA h A (ix m r).toNatClampNeg) (sS ix (tA h A) (tA h B) (tA h C) (tA h D) m m 0 (tA h D m.toNatClampNeg).toNatClampNeg).toInt (tA h B (ix m r).toNatClampNeg).toInt (tA h C (ix m r).toNatClampNeg).toInt (if u = 0 then (tA h C (ix m r).toNatClampNeg).toInt else (tA h B (ix m r).toNatClampNeg).toInt) ∧ h2 = h) ∨ (¬ ((0 ≤ m.toInt ∧ m.toInt < (tvI (tF h P b)).toInt) ∧ (0 ≤ r.toInt ∧ r.toInt < (tA h D m.toNatClampNeg).toInt) ∧ (0 ≤ u.toInt ∧ u.toInt ≤ 1)) ∧ w = some (.long (-2)) ∧ h2 = h)
theorem f_turnsAt {G : zG} (hG : G.1 = zProg) {h : zH} {m r u : Int32} (hs : tSh h) (hn : (tvI (tF h 76 0)).toInt ≤ 20) (hq : ∀ i, i < 20 → 0 ≤ (tA h 77 i).toInt ∧ (tA h 77 i).toInt ≤ 6) (ha : ∀ i, i < 120 → (0 ≤ (tA h 79 i).toInt ∧ (tA h 79 i).toInt ≤ 9999999) ∧ (0 ≤ (tA h 80 i).toInt ∧ (tA h 80 i).toInt ≤ 9999999)) : tC zTt G 139 [.ref 0, .int m, .int r, .int u] h (ph_ta 76 0 78 79 80 77 ixc m r u h) := by
  refine tC_in (by rw [hG]; rfl) (fun dp => ?_)
  refine tw_aload rfl rfl ?_
  refine tw_getS rfl (hs_0_6 hs) ?_
  refine tw_iload rfl rfl ?_
  refine tw_virt1 rfl (f_hasMemo hG hs) (fun w9 h9 p135 => ?_)
  obtain ⟨⟨p135, rfl⟩ | ⟨p135, rfl⟩, rfl⟩ := p135
  · try dsimp only [tvI_i, tvJ_j, tvR_r] at p135
    refine tw_if_eq rfl (fun z => absurd z (by decide)) (fun _ => ?_)
    refine tw_aload rfl rfl ?_
    refine tw_getS rfl (hs_0_6 hs) ?_
    refine tw_iload rfl rfl ?_
    refine tw_iload rfl rfl ?_
    refine tw_virt2 rfl (f_hasRow hG hs) (fun w9 h9 p136 => ?_)
    obtain ⟨⟨p136, rfl⟩ | ⟨p136, rfl⟩, rfl⟩ := p136
    · try dsimp only [tvI_i, tvJ_j, tvR_r] at p136
      refine tw_if_eq rfl (fun z => absurd z (by decide)) (fun _ => ?_)
      refine tw_iload rfl rfl ?_
      refine tw_push rfl ?_
      refine tw_push rfl ?_
      refine tw_stat3 rfl (f_isWithin hG (LO := 0) (HI := 1) (by decide) (by decide)) (fun w9 h9 p137 => ?_)
      obtain ⟨⟨p137, rfl⟩ | ⟨p137, rfl⟩, rfl⟩ := p137
      · try dsimp only [tvI_i, tvJ_j, tvR_r] at p137
        refine tw_if_eq rfl (fun z => absurd z (by decide)) (fun _ => ?_)
        refine tw_push rfl ?_
        refine tw_goto rfl ?_
        refine tw_istore rfl ?_
        refine tw_iload rfl rfl ?_
        refine tw_if_eq rfl (fun z => absurd z (by decide)) (fun _ => ?_)
        refine tw_aload rfl rfl ?_
        refine tw_getS rfl (hs_0_6 hs) ?_
        refine tw_iload rfl rfl ?_
        refine tw_iload rfl rfl ?_
        refine tw_iload rfl rfl ?_
        refine tw_if_ne rfl (fun q138 => ?_) (fun q138 => ?_)
        · try dsimp only [tvI_i, tvJ_j, tvR_r] at q138
          have q138i := zneq (Y := 0) (by decide) q138
          refine tw_push rfl ?_
          refine tw_virt3 rfl (f_turnOf hG hs (by omega) hq ha (by omega)) (fun wp139 hp139 p139 => ?_)
          obtain ⟨vp139, rfl, p139e, rfl⟩ := p139
          refine tw_goto rfl ?_
          exact tw_lret rfl (Or.inl ⟨by omega, _, rfl, p139e.trans (congrArg (fun e => tTT _ _ _ _ e) ((if_pos rfl).trans (if_neg q138).symm)), rfl⟩)
        · try dsimp only [tvI_i, tvJ_j, tvR_r] at q138
          have q138i := zeqi (Y := 0) (by decide) q138
          refine tw_push rfl ?_
          refine tw_goto rfl ?_
          refine tw_virt3 rfl (f_turnOf hG hs (by omega) hq ha (by omega)) (fun wp140 hp140 p140 => ?_)
          obtain ⟨vp140, rfl, p140e, rfl⟩ := p140
          refine tw_goto rfl ?_
          exact tw_lret rfl (Or.inl ⟨by omega, _, rfl, p140e.trans (congrArg (fun e => tTT _ _ _ _ e) ((if_neg (by decide)).trans (if_pos q138).symm)), rfl⟩)
      · try dsimp only [tvI_i, tvJ_j, tvR_r] at p137
        refine tw_if_eq rfl (fun _ => ?_) (fun z => absurd z (by decide))
        refine tw_push rfl ?_
        refine tw_istore rfl ?_
        refine tw_iload rfl rfl ?_
        refine tw_if_eq rfl (fun _ => ?_) (fun z => absurd z (by decide))
        refine tw_push rfl ?_
        exact tw_lret rfl (Or.inr ⟨by omega, rfl, rfl⟩)
    · try dsimp only [tvI_i, tvJ_j, tvR_r] at p136
      refine tw_if_eq rfl (fun _ => ?_) (fun z => absurd z (by decide))
      refine tw_push rfl ?_
      refine tw_istore rfl ?_
      refine tw_iload rfl rfl ?_
      refine tw_if_eq rfl (fun _ => ?_) (fun z => absurd z (by decide))
      refine tw_push rfl ?_
      exact tw_lret rfl (Or.inr ⟨by omega, rfl, rfl⟩)
  · try dsimp only [tvI_i, tvJ_j, tvR_r] at p135
    refine tw_if_eq rfl (fun _ => ?_) (fun z => absurd z (by decide))
    refine tw_push rfl ?_
    refine tw_istore rfl ?_
    refine tw_iload rfl rfl ?_
    refine tw_if_eq rfl (fun _ => ?_) (fun z => absurd z (by decide))
    refine tw_push rfl ?_
    exact tw_lret rfl (Or.inr ⟨by omega, rfl, rfl⟩)
theorem g_turnsAt {G : zG} (hG : G.1 = zProg) {h : zH} {m r u : Int32} (hs : tSh h) (hn : (tvI (tF h 111 71)).toInt ≤ 20) (hq : ∀ i, i < 20 → 0 ≤ (tA h 163 i).toInt ∧ (tA h 163 i).toInt ≤ 6) (ha : ∀ i, i < 120 → (0 ≤ (tA h 164 i).toInt ∧ (tA h 164 i).toInt ≤ 9999999) ∧ (0 ≤ (tA h 165 i).toInt ∧ (tA h 165 i).toInt ≤ 9999999)) (hk71 : 0 ≤ (tvI (tF h 111 71)).toInt) : tC zTt G 253 [.ref 111, .int m, .int r, .int u] h (ph_ta 111 71 166 164 165 163 ixm m r u h) := by
  refine tC_in (by rw [hG]; rfl) (fun dp => ?_)
  have z0 : (0 : Int64).toInt = 0 := by decide
  refine tw_aload rfl rfl ?_
  refine tw_iload rfl rfl ?_
  refine tw_virt1 rfl (g_isMemo hG hs hk71) (fun w9 h9 p141 => ?_)
  obtain ⟨⟨p141, rfl⟩ | ⟨p141, rfl⟩, rfl⟩ := p141
  · try dsimp only [tvI_i, tvJ_j, tvR_r] at p141
    refine tw_if_eq rfl (fun z => absurd z (by decide)) (fun _ => ?_)
    refine tw_iload rfl rfl ?_
    refine tw_i2l rfl ?_
    refine tw_push rfl ?_
    refine tw_aload rfl rfl ?_
    refine tw_getS rfl (hs_111_72 hs) ?_
    refine tw_iload rfl rfl ?_
    refine tw_iald rfl (fun f142 => ?_)
    refine tw_push rfl ?_
    refine tw_isub rfl ?_
    refine tw_i2l rfl ?_
    refine tw_stat3 rfl (f_in hG  (LO := 0)  (Int32.toInt_toInt64 _) (by decide) (Int32.toInt_toInt64 _)) (fun w9 h9 p143 => ?_)
    obtain ⟨⟨p143, rfl⟩ | ⟨p143, rfl⟩, rfl⟩ := p143
    · try dsimp only [tvI_i, tvJ_j, tvR_r] at p143
      refine tw_if_eq rfl (fun z => absurd z (by decide)) (fun _ => ?_)
      refine tw_iload rfl rfl ?_
      refine tw_i2l rfl ?_
      refine tw_push rfl ?_
      refine tw_push rfl ?_
      refine tw_stat3 rfl (f_in hG  (LO := 0) (HI := 1) (Int32.toInt_toInt64 _) (by decide) (by decide)) (fun w9 h9 p144 => ?_)
      obtain ⟨⟨p144, rfl⟩ | ⟨p144, rfl⟩, rfl⟩ := p144
      · try dsimp only [tvI_i, tvJ_j, tvR_r] at p144
        refine tw_if_ne rfl (fun _ => ?_) (fun z => absurd z (by decide))
        refine tw_push rfl ?_
        refine tw_iload rfl rfl ?_
        refine tw_imul rfl ?_
        refine tw_iload rfl rfl ?_
        refine tw_iadd rfl ?_
        refine tw_istore rfl ?_
        refine tw_iload rfl rfl ?_
        refine tw_if_ne rfl (fun q145 => ?_) (fun q145 => ?_)
        · try dsimp only [tvI_i, tvJ_j, tvR_r] at q145
          have q145i := zneq (Y := 0) (by decide) q145
          refine tw_aload rfl rfl ?_
          refine tw_getS rfl (hs_111_74 hs) ?_
          refine tw_iload rfl rfl ?_
          refine tw_iald rfl (fun f146 => ?_)
          refine tw_i2l rfl ?_
          refine tw_lstore rfl ?_
          refine tw_iload rfl rfl ?_
          refine tw_if_ne rfl (fun q147 => ?_) (fun q147 => ?_)
          · try dsimp only [tvI_i, tvJ_j, tvR_r] at q147
            have q147i := zneq (Y := 0) (by decide) q147
            refine tw_aload rfl rfl ?_
            refine tw_getS rfl (hs_111_73 hs) ?_
            refine tw_iload rfl rfl ?_
            refine tw_iald rfl (fun f148 => ?_)
            refine tw_i2l rfl ?_
            refine tw_lstore rfl ?_
            refine tw_aload rfl rfl ?_
            refine tw_iload rfl rfl ?_
            refine tw_iload rfl rfl ?_
            refine tw_push rfl ?_
            refine tw_virt3 rfl (g_sumOf hG hs (hq _ (by rw [zclE]; omega)).1) (fun wp149 hp149 p149 => ?_)
            obtain ⟨rfl, rfl⟩ := p149
            have er := zsub1 (hq m.toNatClampNeg (by rw [zclE]; omega)).1
            obtain ⟨b1, b2, b3⟩ := ta_all (sv := tA _ 166) (rw := tA _ 163) (ct := tA _ 164) (cn := tA _ 165) ixm_lt (m := m) (r := r) (by omega) hq ha (by omega)
            unfold ixm at b2 b3
            refine tw_lstore rfl ?_
            refine tw_lload rfl rfl ?_
            refine tw_push rfl ?_
            refine tw_lc_ne rfl rfl (fun q150 => ?_) (fun q150 => ?_)
            · try dsimp only [tvI_i, tvJ_j, tvR_r] at q150
              refine tw_aload rfl rfl ?_
              refine tw_getS rfl (hs_111_75 hs) ?_
              refine tw_iload rfl rfl ?_
              refine tw_bald rfl (fun f151 => ?_)
              refine tw_if_eq rfl (fun q152 => ?_) (fun q152 => ?_)
              · try dsimp only [tvI_i, tvJ_j, tvR_r] at q152
                have q152i := zeqi (Y := 0) (by decide) q152
                refine tw_lload rfl rfl ?_
                refine tw_lneg rfl ?_
                refine tw_lload rfl rfl ?_
                refine tw_lload rfl rfl ?_
                refine tw_lmul rfl ?_
                refine tw_lsub rfl ?_
                refine tw_lstore rfl ?_
                refine tw_aload rfl rfl ?_
                refine tw_getS rfl (hs_111_75 hs) ?_
                refine tw_iload rfl rfl ?_
                refine tw_bald rfl (fun f153 => ?_)
                refine tw_istore rfl ?_
                refine tw_lload rfl rfl ?_
                refine tw_push rfl ?_
                refine tw_lc_le rfl rfl (fun q154 => ?_) (fun q154 => ?_)
                · try dsimp only [tvI_i, tvJ_j, tvR_r] at q154
                  refine tw_iload rfl rfl ?_
                  refine tw_if_eq rfl (fun q155 => ?_) (fun q155 => ?_)
                  · try dsimp only [tvI_i, tvJ_j, tvR_r] at q155
                    have q155i := zeqi (Y := 0) (by decide) q155
                    refine tw_lload rfl rfl ?_
                    refine tw_lneg rfl ?_
                    refine tw_lload rfl rfl ?_
                    refine tw_push rfl ?_
                    refine tw_stat3 rfl (g_downTo hG (zTe b2 q150) (zTb b1 b3 b2).2.2.2.2) (fun wp156 hp156 p156 => ?_)
                    obtain ⟨vp156, rfl, p156e, rfl⟩ := p156
                    rw [if_neg (by decide)] at p156e
                    exact tw_lret rfl (Or.inl ⟨by omega, _, rfl, (((zMu b1 b3 b2 q150 q152).2 q154 p156e).trans tTT_c).trans (congrArg (fun e => tTT _ _ _ _ e) (if_neg q145)).symm, rfl⟩)
                  · try dsimp only [tvI_i, tvJ_j, tvR_r] at q155
                    have q155i := zneq (Y := 0) (by decide) q155
                    exact absurd q152 q155
                · try dsimp only [tvI_i, tvJ_j, tvR_r] at q154
                  refine tw_iload rfl rfl ?_
                  refine tw_if_eq rfl (fun q157 => ?_) (fun q157 => ?_)
                  · try dsimp only [tvI_i, tvJ_j, tvR_r] at q157
                    have q157i := zeqi (Y := 0) (by decide) q157
                    refine tw_lload rfl rfl ?_
                    refine tw_lneg rfl ?_
                    refine tw_lload rfl rfl ?_
                    refine tw_push rfl ?_
                    refine tw_stat3 rfl (g_upTo hG (zTe b2 q150) (zTb b1 b3 b2).2.2.2.2) (fun wp158 hp158 p158 => ?_)
                    obtain ⟨vp158, rfl, p158e, rfl⟩ := p158
                    rw [if_pos rfl] at p158e
                    exact tw_lret rfl (Or.inl ⟨by omega, _, rfl, (((zMu b1 b3 b2 q150 q152).1 q154 p158e).trans tTT_c).trans (congrArg (fun e => tTT _ _ _ _ e) (if_neg q145)).symm, rfl⟩)
                  · try dsimp only [tvI_i, tvJ_j, tvR_r] at q157
                    have q157i := zneq (Y := 0) (by decide) q157
                    exact absurd q152 q157
              · try dsimp only [tvI_i, tvJ_j, tvR_r] at q152
                have q152i := zneq (Y := 0) (by decide) q152
                refine tw_lload rfl rfl ?_
                refine tw_lload rfl rfl ?_
                refine tw_lload rfl rfl ?_
                refine tw_lmul rfl ?_
                refine tw_lsub rfl ?_
                refine tw_goto rfl ?_
                refine tw_lstore rfl ?_
                refine tw_aload rfl rfl ?_
                refine tw_getS rfl (hs_111_75 hs) ?_
                refine tw_iload rfl rfl ?_
                refine tw_bald rfl (fun f159 => ?_)
                refine tw_istore rfl ?_
                refine tw_lload rfl rfl ?_
                refine tw_push rfl ?_
                refine tw_lc_le rfl rfl (fun q160 => ?_) (fun q160 => ?_)
                · try dsimp only [tvI_i, tvJ_j, tvR_r] at q160
                  refine tw_iload rfl rfl ?_
                  refine tw_if_eq rfl (fun q161 => ?_) (fun q161 => ?_)
                  · try dsimp only [tvI_i, tvJ_j, tvR_r] at q161
                    have q161i := zeqi (Y := 0) (by decide) q161
                    exact absurd q161 q152
                  · try dsimp only [tvI_i, tvJ_j, tvR_r] at q161
                    have q161i := zneq (Y := 0) (by decide) q161
                    refine tw_lload rfl rfl ?_
                    refine tw_lneg rfl ?_
                    refine tw_lload rfl rfl ?_
                    refine tw_push rfl ?_
                    refine tw_stat3 rfl (g_upTo hG (zTe b2 q150) (zTb b1 b3 b2).2.2.1.2) (fun wp162 hp162 p162 => ?_)
                    obtain ⟨vp162, rfl, p162e, rfl⟩ := p162
                    rw [if_neg (by decide)] at p162e
                    refine tw_goto rfl ?_
                    exact tw_lret rfl (Or.inl ⟨by omega, _, rfl, (((zMs b1 b3 b2 q150 q152).2 q160 p162e).trans tTT_c).trans (congrArg (fun e => tTT _ _ _ _ e) (if_neg q145)).symm, rfl⟩)
                · try dsimp only [tvI_i, tvJ_j, tvR_r] at q160
                  refine tw_iload rfl rfl ?_
                  refine tw_if_eq rfl (fun q163 => ?_) (fun q163 => ?_)
                  · try dsimp only [tvI_i, tvJ_j, tvR_r] at q163
                    have q163i := zeqi (Y := 0) (by decide) q163
                    exact absurd q163 q152
                  · try dsimp only [tvI_i, tvJ_j, tvR_r] at q163
                    have q163i := zneq (Y := 0) (by decide) q163
                    refine tw_lload rfl rfl ?_
                    refine tw_lneg rfl ?_
                    refine tw_lload rfl rfl ?_
                    refine tw_push rfl ?_
                    refine tw_stat3 rfl (g_downTo hG (zTe b2 q150) (zTb b1 b3 b2).2.2.1.2) (fun wp164 hp164 p164 => ?_)
                    obtain ⟨vp164, rfl, p164e, rfl⟩ := p164
                    rw [if_pos rfl] at p164e
                    refine tw_goto rfl ?_
                    exact tw_lret rfl (Or.inl ⟨by omega, _, rfl, (((zMs b1 b3 b2 q150 q152).1 q160 p164e).trans tTT_c).trans (congrArg (fun e => tTT _ _ _ _ e) (if_neg q145)).symm, rfl⟩)
            · try dsimp only [tvI_i, tvJ_j, tvR_r] at q150
              refine tw_push rfl ?_
              have er := zsub1 (hq m.toNatClampNeg (by rw [zclE]; omega)).1
              exact tw_lret rfl (Or.inl ⟨by omega, _, rfl, (tT_z q150).trans (congrArg (fun e => tTT _ _ _ _ e) (if_neg q145)).symm, rfl⟩)
          · try dsimp only [tvI_i, tvJ_j, tvR_r] at q147
            have q147i := zeqi (Y := 0) (by decide) q147
            exact absurd q147 q145
        · try dsimp only [tvI_i, tvJ_j, tvR_r] at q145
          have q145i := zeqi (Y := 0) (by decide) q145
          refine tw_aload rfl rfl ?_
          refine tw_getS rfl (hs_111_73 hs) ?_
          refine tw_iload rfl rfl ?_
          refine tw_iald rfl (fun f165 => ?_)
          refine tw_i2l rfl ?_
          refine tw_goto rfl ?_
          refine tw_lstore rfl ?_
          refine tw_iload rfl rfl ?_
          refine tw_if_ne rfl (fun q166 => ?_) (fun q166 => ?_)
          · try dsimp only [tvI_i, tvJ_j, tvR_r] at q166
            have q166i := zneq (Y := 0) (by decide) q166
            exact absurd q145 q166
          · try dsimp only [tvI_i, tvJ_j, tvR_r] at q166
            have q166i := zeqi (Y := 0) (by decide) q166
            refine tw_aload rfl rfl ?_
            refine tw_getS rfl (hs_111_74 hs) ?_
            refine tw_iload rfl rfl ?_
            refine tw_iald rfl (fun f167 => ?_)
            refine tw_i2l rfl ?_
            refine tw_goto rfl ?_
            refine tw_lstore rfl ?_
            refine tw_aload rfl rfl ?_
            refine tw_iload rfl rfl ?_
            refine tw_iload rfl rfl ?_
            refine tw_push rfl ?_
            refine tw_virt3 rfl (g_sumOf hG hs (hq _ (by rw [zclE]; omega)).1) (fun wp168 hp168 p168 => ?_)
            obtain ⟨rfl, rfl⟩ := p168
            have er := zsub1 (hq m.toNatClampNeg (by rw [zclE]; omega)).1
            obtain ⟨b1, b2, b3⟩ := ta_all (sv := tA _ 166) (rw := tA _ 163) (ct := tA _ 164) (cn := tA _ 165) ixm_lt (m := m) (r := r) (by omega) hq ha (by omega)
            unfold ixm at b2 b3
            refine tw_lstore rfl ?_
            refine tw_lload rfl rfl ?_
            refine tw_push rfl ?_
            refine tw_lc_ne rfl rfl (fun q169 => ?_) (fun q169 => ?_)
            · try dsimp only [tvI_i, tvJ_j, tvR_r] at q169
              refine tw_aload rfl rfl ?_
              refine tw_getS rfl (hs_111_75 hs) ?_
              refine tw_iload rfl rfl ?_
              refine tw_bald rfl (fun f170 => ?_)
              refine tw_if_eq rfl (fun q171 => ?_) (fun q171 => ?_)
              · try dsimp only [tvI_i, tvJ_j, tvR_r] at q171
                have q171i := zeqi (Y := 0) (by decide) q171
                refine tw_lload rfl rfl ?_
                refine tw_lneg rfl ?_
                refine tw_lload rfl rfl ?_
                refine tw_lload rfl rfl ?_
                refine tw_lmul rfl ?_
                refine tw_lsub rfl ?_
                refine tw_lstore rfl ?_
                refine tw_aload rfl rfl ?_
                refine tw_getS rfl (hs_111_75 hs) ?_
                refine tw_iload rfl rfl ?_
                refine tw_bald rfl (fun f172 => ?_)
                refine tw_istore rfl ?_
                refine tw_lload rfl rfl ?_
                refine tw_push rfl ?_
                refine tw_lc_le rfl rfl (fun q173 => ?_) (fun q173 => ?_)
                · try dsimp only [tvI_i, tvJ_j, tvR_r] at q173
                  refine tw_iload rfl rfl ?_
                  refine tw_if_eq rfl (fun q174 => ?_) (fun q174 => ?_)
                  · try dsimp only [tvI_i, tvJ_j, tvR_r] at q174
                    have q174i := zeqi (Y := 0) (by decide) q174
                    refine tw_lload rfl rfl ?_
                    refine tw_lneg rfl ?_
                    refine tw_lload rfl rfl ?_
                    refine tw_push rfl ?_
                    refine tw_stat3 rfl (g_downTo hG (zTe b3 q169) (zTb b1 b2 b3).2.2.2.2) (fun wp175 hp175 p175 => ?_)
                    obtain ⟨vp175, rfl, p175e, rfl⟩ := p175
                    rw [if_neg (by decide)] at p175e
                    exact tw_lret rfl (Or.inl ⟨by omega, _, rfl, ((zMu b1 b2 b3 q169 q171).2 q173 p175e).trans (congrArg (fun e => tTT _ _ _ _ e) (if_pos q145)).symm, rfl⟩)
                  · try dsimp only [tvI_i, tvJ_j, tvR_r] at q174
                    have q174i := zneq (Y := 0) (by decide) q174
                    exact absurd q171 q174
                · try dsimp only [tvI_i, tvJ_j, tvR_r] at q173
                  refine tw_iload rfl rfl ?_
                  refine tw_if_eq rfl (fun q176 => ?_) (fun q176 => ?_)
                  · try dsimp only [tvI_i, tvJ_j, tvR_r] at q176
                    have q176i := zeqi (Y := 0) (by decide) q176
                    refine tw_lload rfl rfl ?_
                    refine tw_lneg rfl ?_
                    refine tw_lload rfl rfl ?_
                    refine tw_push rfl ?_
                    refine tw_stat3 rfl (g_upTo hG (zTe b3 q169) (zTb b1 b2 b3).2.2.2.2) (fun wp177 hp177 p177 => ?_)
                    obtain ⟨vp177, rfl, p177e, rfl⟩ := p177
                    rw [if_pos rfl] at p177e
                    exact tw_lret rfl (Or.inl ⟨by omega, _, rfl, ((zMu b1 b2 b3 q169 q171).1 q173 p177e).trans (congrArg (fun e => tTT _ _ _ _ e) (if_pos q145)).symm, rfl⟩)
                  · try dsimp only [tvI_i, tvJ_j, tvR_r] at q176
                    have q176i := zneq (Y := 0) (by decide) q176
                    exact absurd q171 q176
              · try dsimp only [tvI_i, tvJ_j, tvR_r] at q171
                have q171i := zneq (Y := 0) (by decide) q171
                refine tw_lload rfl rfl ?_
                refine tw_lload rfl rfl ?_
                refine tw_lload rfl rfl ?_
                refine tw_lmul rfl ?_
                refine tw_lsub rfl ?_
                refine tw_goto rfl ?_
                refine tw_lstore rfl ?_
                refine tw_aload rfl rfl ?_
                refine tw_getS rfl (hs_111_75 hs) ?_
                refine tw_iload rfl rfl ?_
                refine tw_bald rfl (fun f178 => ?_)
                refine tw_istore rfl ?_
                refine tw_lload rfl rfl ?_
                refine tw_push rfl ?_
                refine tw_lc_le rfl rfl (fun q179 => ?_) (fun q179 => ?_)
                · try dsimp only [tvI_i, tvJ_j, tvR_r] at q179
                  refine tw_iload rfl rfl ?_
                  refine tw_if_eq rfl (fun q180 => ?_) (fun q180 => ?_)
                  · try dsimp only [tvI_i, tvJ_j, tvR_r] at q180
                    have q180i := zeqi (Y := 0) (by decide) q180
                    exact absurd q180 q171
                  · try dsimp only [tvI_i, tvJ_j, tvR_r] at q180
                    have q180i := zneq (Y := 0) (by decide) q180
                    refine tw_lload rfl rfl ?_
                    refine tw_lneg rfl ?_
                    refine tw_lload rfl rfl ?_
                    refine tw_push rfl ?_
                    refine tw_stat3 rfl (g_upTo hG (zTe b3 q169) (zTb b1 b2 b3).2.2.1.2) (fun wp181 hp181 p181 => ?_)
                    obtain ⟨vp181, rfl, p181e, rfl⟩ := p181
                    rw [if_neg (by decide)] at p181e
                    refine tw_goto rfl ?_
                    exact tw_lret rfl (Or.inl ⟨by omega, _, rfl, ((zMs b1 b2 b3 q169 q171).2 q179 p181e).trans (congrArg (fun e => tTT _ _ _ _ e) (if_pos q145)).symm, rfl⟩)
                · try dsimp only [tvI_i, tvJ_j, tvR_r] at q179
                  refine tw_iload rfl rfl ?_
                  refine tw_if_eq rfl (fun q182 => ?_) (fun q182 => ?_)
                  · try dsimp only [tvI_i, tvJ_j, tvR_r] at q182
                    have q182i := zeqi (Y := 0) (by decide) q182
                    exact absurd q182 q171
                  · try dsimp only [tvI_i, tvJ_j, tvR_r] at q182
                    have q182i := zneq (Y := 0) (by decide) q182
                    refine tw_lload rfl rfl ?_
                    refine tw_lneg rfl ?_
                    refine tw_lload rfl rfl ?_
                    refine tw_push rfl ?_
                    refine tw_stat3 rfl (g_downTo hG (zTe b3 q169) (zTb b1 b2 b3).2.2.1.2) (fun wp183 hp183 p183 => ?_)
                    obtain ⟨vp183, rfl, p183e, rfl⟩ := p183
                    rw [if_pos rfl] at p183e
                    refine tw_goto rfl ?_
                    exact tw_lret rfl (Or.inl ⟨by omega, _, rfl, ((zMs b1 b2 b3 q169 q171).1 q179 p183e).trans (congrArg (fun e => tTT _ _ _ _ e) (if_pos q145)).symm, rfl⟩)
            · try dsimp only [tvI_i, tvJ_j, tvR_r] at q169
              refine tw_push rfl ?_
              have er := zsub1 (hq m.toNatClampNeg (by rw [zclE]; omega)).1
              exact tw_lret rfl (Or.inl ⟨by omega, _, rfl, (tT_z q169).trans (congrArg (fun e => tTT _ _ _ _ e) (if_pos q145)).symm, rfl⟩)
      · try dsimp only [tvI_i, tvJ_j, tvR_r] at p144
        refine tw_if_ne rfl (fun z => absurd z (by decide)) (fun _ => ?_)
        refine tw_push rfl ?_
        have er := zsub1 (hq m.toNatClampNeg (by rw [zclE]; omega)).1
        exact tw_lret rfl (Or.inr ⟨by omega, rfl, rfl⟩)
    · try dsimp only [tvI_i, tvJ_j, tvR_r] at p143
      refine tw_if_eq rfl (fun _ => ?_) (fun z => absurd z (by decide))
      refine tw_push rfl ?_
      have er := zsub1 (hq m.toNatClampNeg (by rw [zclE]; omega)).1
      exact tw_lret rfl (Or.inr ⟨by omega, rfl, rfl⟩)
  · try dsimp only [tvI_i, tvJ_j, tvR_r] at p141
    refine tw_if_eq rfl (fun _ => ?_) (fun z => absurd z (by decide))
    refine tw_push rfl ?_
    exact tw_lret rfl (Or.inr ⟨by omega, rfl, rfl⟩)
theorem a_turnsAt {m r u : Int32} {h h2 h3 : zH} {w w2 : Option Value} (hM : R_memos h) (hR : R_mrows h) (hS : R_msaved h) (hT : R_mcounts h) (hU : R_mcoins h) (k1 : ph_ta 76 0 78 79 80 77 ixc m r u h w h2) (k2 : ph_ta 111 71 166 164 165 163 ixm m r u h2 w2 h3) : w2 = w := by
  unfold R_memos at hM
  unfold R_mrows R_msaved R_mcounts R_mcoins at *
  have e : h2 = h := by
    rcases k1 with ⟨-, v, -, -, e⟩ | ⟨-, -, e⟩ <;> exact e
  subst e
  unfold ph_ta at k1 k2
  rw [← hM, ← hR, ← hS, ← hT, ← hU, ← ix_eq] at k2
  rcases k1 with ⟨c1, v1, rfl, f1, -⟩ | ⟨c1, rfl, -⟩ <;> rcases k2 with ⟨c2, v2, rfl, f2, -⟩ | ⟨c2, rfl, -⟩
  · rw [Int64.toInt_inj.mp (f2.trans f1.symm)]
  · exact absurd c1 c2
  · exact absurd c2 c1
  · rfl
theorem ta_r {xs : Nat → Int32} {τ : List Nat} {h : zH} (hB : zBs xs τ h) : (∀ i, i < 120 → (0 ≤ (tA h 79 i).toInt ∧ (tA h 79 i).toInt ≤ 9999999) ∧ (0 ≤ (tA h 80 i).toInt ∧ (tA h 80 i).toInt ≤ 9999999)) ∧ ∀ i, i < 120 → (0 ≤ (tA h 164 i).toInt ∧ (tA h 164 i).toInt ≤ 9999999) ∧ (0 ≤ (tA h 165 i).toInt ∧ (tA h 165 i).toInt ≤ 9999999) := by
  refine ⟨fun i hi => ?_, fun i hi => ?_⟩
  · have a := (ka_79 hB).2 i hi
    have b := (ka_80 hB).2 i hi
    omega
  · have a := (ka_164 hB).2 i hi
    have b := (ka_165 hB).2 i hi
    omega
