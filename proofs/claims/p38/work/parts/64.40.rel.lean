/-! what is answered: small helpers -/
def tBo (P : Prop) (w : Option Value) : Prop := (P ∧ w = some (.int 1)) ∨ (¬ P ∧ w = some (.int 0))
theorem tBo_i {P R : Prop} {w : Option Value} (e : P ↔ R) (k : tBo P w) : tBo R w := k.imp (fun z => ⟨e.mp z.1, z.2⟩) (fun z => ⟨fun y => z.1 (e.mpr y), z.2⟩)
theorem zpB_c {b : Int × Int} {r : List (Int × Int)} {xs : List Int32} (h : zpB (b :: r) xs) : ∃ x ys, xs = x :: ys ∧ (b.1 ≤ x.toInt ∧ x.toInt ≤ b.2) ∧ zpB r ys := by
  obtain ⟨lo, hi⟩ := b
  cases xs with
  | nil => exact h.elim
  | cons x ys => exact ⟨x, ys, rfl, h.1, h.2⟩
theorem zpB_n {xs : List Int32} (h : zpB [] xs) : xs = [] := by
  cases xs with
  | nil => rfl
  | cons x ys => exact h.elim
theorem zclx {x : Int32} (h : 0 ≤ x.toInt) : (x.toNatClampNeg : Int) = x.toInt := by
  show ((x.toInt.toNat : Nat) : Int) = _
  omega
theorem zclE {x : Int32} : x.toNatClampNeg = x.toInt.toNat := rfl
theorem zeqi {x y : Int32} {Y : Int} (hy : y.toInt = Y) (h : x = y) : x.toInt = Y := by rw [h]; exact hy
theorem zneq {x y : Int32} {Y : Int} (hy : y.toInt = Y) (h : ¬ x = y) : x.toInt ≠ Y := fun z => h (Int32.toInt_inj.mp (z.trans hy.symm))
theorem zsub1 {x : Int32} (h : 0 ≤ x.toInt) : (x - 1).toInt = x.toInt - 1 := by
  have := Int32.toInt_lt x
  rw [Int32.toInt_sub]
  exact Int.bmod_eq_of_le (by show (-2147483648 : Int) ≤ x.toInt - 1; omega) (by show x.toInt - 1 < (2147483648 : Int); omega)
def tRwl : List (Nat × Nat) := [(4, 5), (14, 15), (27, 28), (97, 98)]
def tRw (h : zH) : Prop := ∀ q ∈ tRwl, ∀ i, i < tN h q.1 → tO h q.1 i = some (q.2 + i)
theorem tRw_A {h : zH} {r i : Nat} {x : Int32} (k : tRw h) : tRw (tSA h r i x) := by unfold tRw; rw [tO_tSA, tN_tSA]; exact k
theorem tRw_J {h : zH} {r i : Nat} {x : Int64} (k : tRw h) : tRw (tSJ h r i x) := by unfold tRw; rw [tO_tSJ, tN_tSJ]; exact k
theorem tRw_F {h : zH} {r b : Nat} {w : Value} (k : tRw h) : tRw (tSF h r b w) := by unfold tRw; rw [tO_tSF, tN_tSF]; exact k
theorem tRw_at {h : zH} (k : tRw h) {p q : Nat} (hm : (p, q) ∈ tRwl) {i : Int32} (z : tInO h p i) : zrf (tO h p i.toNatClampNeg) = .ref (q + i.toNatClampNeg) := by
  rw [k (p, q) hm _ z.rg.2]
  rfl
theorem tfr_N {xs : Nat → Int32} {τ : List Nat} {h h2 : zH} {W : Nat → Nat → Bool} {p t : Nat} (hB : zBs xs τ h) (hf : yFr W τ h h2) (ht : zTG[p]? = some t) : tN h2 p = tN h p := by
  obtain ⟨ct, c, a1, a2, -⟩ := hB.1.2 _ _ (hB.2.1 _ _ ht)
  obtain ⟨c2, b1, b2⟩ := hf _ _ _ (hB.2.1 _ _ ht) a2
  unfold tN
  rw [a2, b1]
  match c, c2, b2 with
  | .inr (x, fs), .inr (y, gs), b2 => rfl
  | .inl (k, N, x), .inl (k2, N2, y), b2 => exact b2.2.1.symm
theorem tfr_Fs {xs : Nat → Int32} {τ : List Nat} {h h2 : zH} {W : Nat → Nat → Bool} {p t b : Nat} (hB : zBs xs τ h) (hf : yFr W τ h h2) (ht : τ[p]? = some t) (hW : W t b = false) : tF h2 p b = tF h p b := by
  obtain ⟨ct, c, a1, a2, -⟩ := hB.1.2 _ _ ht
  obtain ⟨c2, b1, b2⟩ := hf _ _ _ ht a2
  unfold tF
  rw [a2, b1]
  match c, c2, b2 with
  | .inr (x, fs), .inr (y, gs), b2 =>
    dsimp only
    rw [List.getD_eq_getElem?_getD, List.getD_eq_getElem?_getD, b2.2.2 b hW]
  | .inl (k, N, x), .inl (k2, N2, y), b2 => rfl
theorem car_tag {xs : Nat → Int32} {τ : List Nat} {h : zH} (hB : zBs xs τ h) {i r : Nat} (hi : (i : Int) < (tvI (tF h 36 4)).toInt) (hr : tO h 39 i = some r) : τ[r]? = some 150 := by
  have hn := (kb_36_4 hB).2
  obtain ⟨a, b, c⟩ := tkd_o hB (p := 39) (t := 15) rfl rfl
  obtain ⟨-, -, c3⟩ := c i (by omega)
  rw [hr] at c3
  rcases c3 with z | z | z
  · cases z
  · have : zoi (some r) = (r : Int) := rfl
    omega
  · exact z
theorem car_lt {xs : Nat → Int32} {τ : List Nat} {h : zH} (hB : zBs xs τ h) {i r : Nat} (hi : (i : Int) < (tvI (tF h 36 4)).toInt) (hr : tO h 39 i = some r) : r < h.length := by
  have z := car_tag hB hi hr
  rcases Nat.lt_or_ge r τ.length with q | q
  · have := hB.1.1; omega
  · rw [List.getElem?_eq_none q] at z; cases z
theorem car_ne {xs : Nat → Int32} {τ : List Nat} {h : zH} (hB : zBs xs τ h) {i r : Nat} (hi : (i : Int) < (tvI (tF h 36 4)).toInt) (hr : tO h 39 i = some r) {p t : Nat} (ht : zTG[p]? = some t) (hn : t ≠ 150) : r ≠ p := by
  intro e
  subst e
  have z := car_tag hB hi hr
  rw [hB.2.1 _ _ ht] at z
  cases z
  exact hn rfl
theorem zBs_len {xs : Nat → Int32} {τ : List Nat} {h : zH} (hB : zBs xs τ h) : 182 ≤ h.length := by
  have z := hB.2.1 181 149 rfl
  rcases Nat.lt_or_ge 181 τ.length with q | q
  · have := hB.1.1; omega
  · rw [List.getElem?_eq_none q] at z; cases z
/-- a count: what is told is the next of so many, or none -/
def phN (p b : Nat) (C : Prop) (h : zH) (w : Option Value) (h2 : zH) : Prop := (C ∧ w = some (tF h p b) ∧ tF h2 p b = .int (tvI (tF h p b) + 1)) ∨ (¬ C ∧ w = some (.int (-1)) ∧ tF h2 p b = tF h p b)
theorem phN_a {p b q c : Nat} {C D : Prop} {h h2 h3 : zH} {w w2 : Option Value} (hR : tF h p b = tF h q c) (e1 : tF h2 q c = tF h q c) (e2 : tF h3 p b = tF h2 p b) (hCD : C ↔ D) (k1 : phN p b C h w h2) (k2 : phN q c D h2 w2 h3) : w2 = w ∧ tF h3 p b = tF h3 q c := by
  rcases k1 with ⟨c1, rfl, f1⟩ | ⟨c1, rfl, f1⟩ <;> rcases k2 with ⟨c2, rfl, f2⟩ | ⟨c2, rfl, f2⟩
  · rw [e2, f1, f2, e1, hR]
    exact ⟨rfl, rfl⟩
  · exact absurd (hCD.mp c1) c2
  · exact absurd (hCD.mpr c2) c1
  · rw [e2, f1, f2, e1, hR]
    exact ⟨rfl, rfl⟩
theorem zi1 {x : Int32} : x + 1 - 1 = x := Int32.add_sub_cancel x 1
/-- a count and what is told in arrays at its place -/
def phA (p b : Nat) (C : Prop) (l : List (Nat × Int32)) (h : zH) (w : Option Value) (h2 : zH) : Prop := (C ∧ w = some (tF h p b) ∧ tF h2 p b = .int (tvI (tF h p b) + 1) ∧ ∀ q ∈ l, tA h2 q.1 = fun j => if j = (tvI (tF h p b)).toNatClampNeg then q.2 else tA h q.1 j) ∨ (¬ C ∧ w = some (.int (-1)) ∧ tF h2 p b = tF h p b ∧ ∀ q ∈ l, tA h2 q.1 = tA h q.1)
theorem phA_a {p b q c : Nat} {C D : Prop} {l m : List (Nat × Int32)} {h h2 h3 : zH} {w w2 : Option Value} (hR : tF h p b = tF h q c) (e1 : tF h2 q c = tF h q c) (e2 : tF h3 p b = tF h2 p b) (hCD : C ↔ D) (k1 : phA p b C l h w h2) (k2 : phA q c D m h2 w2 h3) : w2 = w ∧ tF h3 p b = tF h3 q c ∧ ∀ P Q v, (P, v) ∈ l → (Q, v) ∈ m → tA h P = tA h Q → tA h2 Q = tA h Q → tA h3 P = tA h2 P → tA h3 P = tA h3 Q := by
  rcases k1 with ⟨c1, rfl, f1, g1⟩ | ⟨c1, rfl, f1, g1⟩ <;> rcases k2 with ⟨c2, rfl, f2, g2⟩ | ⟨c2, rfl, f2, g2⟩
  · refine ⟨by rw [e1, hR], by rw [e2, f1, f2, e1, hR], fun P Q v hP hQ a1 a2 a3 => ?_⟩
    rw [a3, g1 _ hP, g2 _ hQ, e1, ← hR]
    dsimp only
    rw [a1, a2]
  · exact absurd (hCD.mp c1) c2
  · exact absurd (hCD.mpr c2) c1
  · refine ⟨rfl, by rw [e2, f1, f2, e1, hR], fun P Q v hP hQ a1 a2 a3 => ?_⟩
    have h1 := g1 _ hP
    have h2 := g2 _ hQ
    dsimp only at h1 h2
    rw [a3, h1, h2, a1, a2]
theorem tA_st {h : zH} {r i : Nat} {x : Int32} {kd : Nat} {z : Int32} (hf : tIn h r kd z) {f : Nat → Int32} (k : tA h r = f) : tA (tSA h r i x) r = fun j => if j = i then x else f j := by
  rw [tA_tSA hf.cell]
  funext j
  dsimp only
  rw [k]
  by_cases e : j = i
  · rw [if_pos ⟨rfl, e⟩, if_pos e]
  · rw [if_neg (fun z => e z.2), if_neg e]
theorem tA_n {h : zH} {r i p : Nat} {x : Int32} {f : Nat → Int32} (hn : p ≠ r) (k : tA h p = f) : tA (tSA h r i x) p = f := by rw [tA_nz hn]; exact k
theorem tA_ff {h : zH} {r b p : Nat} {w : Value} {f : Nat → Int32} (k : tA h p = f) : tA (tSF h r b w) p = f := by rw [tA_tSF]; exact k
theorem tA_jj {h : zH} {r i p : Nat} {x : Int64} {f : Nat → Int32} (k : tA h p = f) : tA (tSJ h r i x) p = f := by rw [tA_tSJ]; exact k
theorem tA_oo {h : zH} {r i p : Nat} {x : Option Nat} {f : Nat → Int32} (k : tA h p = f) : tA (tSO h r i x) p = f := by rw [tA_tSO]; exact k
def R_rw (h : zH) : Prop := tRw h
def R_kinds (h : zH) : Prop := tF h 1 6 = tF h 111 3
theorem f_isWithin {G : zG} (hG : G.1 = zProg) {h : zH} {n lo hi : Int32} {LO HI : Int} (hlo : lo.toInt = LO) (hhi : hi.toInt = HI) : tC zTt G 158 [.int n, .int lo, .int hi] h (fun w h2 => tBo (LO ≤ n.toInt ∧ n.toInt ≤ HI) w ∧ h2 = h) := by
  refine tC_in (by rw [hG]; rfl) (fun dp => ?_)
  refine tw_iload rfl rfl ?_
  refine tw_iload rfl rfl ?_
  refine tw_ic_lt rfl (fun q1 => ?_) (fun q1 => ?_)
  · try dsimp only [tvI_i, tvJ_j, tvR_r] at q1
    refine tw_push rfl ?_
    exact tw_iret rfl ⟨Or.inr ⟨by omega, rfl⟩, rfl⟩
  · try dsimp only [tvI_i, tvJ_j, tvR_r] at q1
    refine tw_iload rfl rfl ?_
    refine tw_iload rfl rfl ?_
    refine tw_ic_gt rfl (fun q2 => ?_) (fun q2 => ?_)
    · try dsimp only [tvI_i, tvJ_j, tvR_r] at q2
      refine tw_push rfl ?_
      exact tw_iret rfl ⟨Or.inr ⟨by omega, rfl⟩, rfl⟩
    · try dsimp only [tvI_i, tvJ_j, tvR_r] at q2
      refine tw_push rfl ?_
      refine tw_goto rfl ?_
      exact tw_iret rfl ⟨Or.inl ⟨by omega, rfl⟩, rfl⟩
theorem f_isFirm {G : zG} (hG : G.1 = zProg) {h : zH} {n : Int32} : tC zTt G 160 [.int n] h (fun w h2 => tBo (0 ≤ n.toInt ∧ n.toInt ≤ 3) w ∧ h2 = h) := by
  refine tC_in (by rw [hG]; rfl) (fun dp => ?_)
  refine tw_iload rfl rfl ?_
  refine tw_push rfl ?_
  refine tw_push rfl ?_
  refine tw_stat3 rfl (f_isWithin hG (LO := 0) (HI := 3) (by decide) (by decide)) (fun w9 h9 p3 => ?_)
  obtain ⟨⟨p3, rfl⟩ | ⟨p3, rfl⟩, rfl⟩ := p3
  · try dsimp only [tvI_i, tvJ_j, tvR_r] at p3
    exact tw_iret rfl ⟨Or.inl ⟨p3, rfl⟩, rfl⟩
  · try dsimp only [tvI_i, tvJ_j, tvR_r] at p3
    exact tw_iret rfl ⟨Or.inr ⟨p3, rfl⟩, rfl⟩
theorem f_fill {G : zG} (hG : G.1 = zProg) {h : zH} {r : Nat} {a b c : Int32} : tC zTt G 30 [.ref r, .int a, .int b, .int c] h (fun w h2 => w = none ∧ h2 = tSA (tSA (tSA h r 0 a) r 1 b) r 2 c ∧ tIn h r 0 0 ∧ tIn (tSA h r 0 a) r 0 1 ∧ tIn (tSA (tSA h r 0 a) r 1 b) r 0 2) := by
  refine tC_in (by rw [hG]; rfl) (fun dp => ?_)
  refine tw_aload rfl rfl ?_
  refine tw_push rfl ?_
  refine tw_iload rfl rfl ?_
  refine tw_iast rfl (fun f4 => ?_)
  refine tw_aload rfl rfl ?_
  refine tw_push rfl ?_
  refine tw_iload rfl rfl ?_
  refine tw_iast rfl (fun f5 => ?_)
  refine tw_aload rfl rfl ?_
  refine tw_push rfl ?_
  refine tw_iload rfl rfl ?_
  refine tw_iast rfl (fun f6 => ?_)
  exact tw_vret rfl ⟨rfl, rfl, f4, f5, f6⟩
theorem wret1 {h : zH} {p b : Nat} (k : tF h p b = .int (tvI (tF h p b))) : some (Value.int (tvI (tF h p b) + 1 - 1)) = some (tF h p b) := by rw [zi1]; exact congrArg some k.symm
theorem f_addKind {G : zG} (hG : G.1 = zProg) {h : zH} {firm : Int32} {a : Int32} {b : Int32} {c : Int32} (hs : tSh h) (hr : tRw h) : tC zTt G 28 [.ref 1, .int firm, .int a, .int b, .int c] h (phN 1 6 ((tvI (tF h 1 6)).toInt ≠ 8) h) := by
  refine tC_in (by rw [hG]; rfl) (fun dp => ?_)
  refine tw_aload rfl rfl ?_
  refine tw_getS rfl (hi_1_6 hs) ?_
  refine tw_push rfl ?_
  refine tw_ic_ne rfl (fun q7 => ?_) (fun q7 => ?_)
  · try dsimp only [tvI_i, tvJ_j, tvR_r] at q7
    have q7i := zneq (Y := 8) (by decide) q7
    refine tw_aload rfl rfl ?_
    refine tw_getS rfl (hs_1_1 hs) ?_
    refine tw_aload rfl rfl ?_
    refine tw_getS rfl (hi_1_6 hs) ?_
    refine tw_iload rfl rfl ?_
    refine tw_iast rfl (fun f8 => ?_)
    refine tw_aload rfl rfl ?_
    refine tw_getS rfl (hs_1_2 (tSh_SA hs)) ?_
    refine tw_aload rfl rfl ?_
    refine tw_getS rfl (tF_a (hi_1_6 hs)) ?_
    refine tw_aaldS rfl (fun z => tRw_at (tRw_A hr) (p := 4) (q := 5) (by decide) z) ?_
    refine tw_iload rfl rfl ?_
    refine tw_iload rfl rfl ?_
    refine tw_iload rfl rfl ?_
    refine tw_stat4 rfl (f_fill hG) (fun wp10 hp10 p10 => ?_)
    obtain ⟨rfl, rfl, p10a, p10b, p10c⟩ := p10
    refine tw_aload rfl rfl ?_
    refine tw_dup rfl ?_
    refine tw_getS rfl (tF_a (tF_a (tF_a (tF_a (hi_1_6 hs))))) ?_
    refine tw_dup_x1 rfl ?_
    refine tw_push rfl ?_
    refine tw_iadd rfl ?_
    refine tw_put rfl (fun f11 => ?_)
    exact tw_iret rfl (Or.inl ⟨by omega, congrArg some (hi_1_6 hs).symm, (tF_same f11)⟩)
  · try dsimp only [tvI_i, tvJ_j, tvR_r] at q7
    have q7i := zeqi (Y := 8) (by decide) q7
    refine tw_push rfl ?_
    exact tw_iret rfl (Or.inr ⟨by omega, rfl, rfl⟩)
theorem f_kind {G : zG} (hG : G.1 = zProg) {h : zH} {firm : Int32} {a : Int32} {b : Int32} {c : Int32} (hs : tSh h) (hr : tRw h) : tC zTt G 113 [.ref 0, .int firm, .int a, .int b, .int c] h (phN 1 6 (((0 ≤ firm.toInt ∧ firm.toInt ≤ 3) ∧ (0 ≤ a.toInt ∧ a.toInt ≤ 99999) ∧ (0 ≤ b.toInt ∧ b.toInt ≤ 99999) ∧ (0 ≤ c.toInt ∧ c.toInt ≤ 99999)) ∧ (tvI (tF h 1 6)).toInt ≠ 8) h) := by
  refine tC_in (by rw [hG]; rfl) (fun dp => ?_)
  refine tw_iload rfl rfl ?_
  refine tw_stat1 rfl (f_isFirm hG) (fun w9 h9 p12 => ?_)
  obtain ⟨⟨p12, rfl⟩ | ⟨p12, rfl⟩, rfl⟩ := p12
  · try dsimp only [tvI_i, tvJ_j, tvR_r] at p12
    refine tw_if_eq rfl (fun z => absurd z (by decide)) (fun _ => ?_)
    refine tw_iload rfl rfl ?_
    refine tw_push rfl ?_
    refine tw_push rfl ?_
    refine tw_stat3 rfl (f_isWithin hG (LO := 0) (HI := 99999) (by decide) (by decide)) (fun w9 h9 p13 => ?_)
    obtain ⟨⟨p13, rfl⟩ | ⟨p13, rfl⟩, rfl⟩ := p13
    · try dsimp only [tvI_i, tvJ_j, tvR_r] at p13
      refine tw_if_eq rfl (fun z => absurd z (by decide)) (fun _ => ?_)
      refine tw_iload rfl rfl ?_
      refine tw_push rfl ?_
      refine tw_push rfl ?_
      refine tw_stat3 rfl (f_isWithin hG (LO := 0) (HI := 99999) (by decide) (by decide)) (fun w9 h9 p14 => ?_)
      obtain ⟨⟨p14, rfl⟩ | ⟨p14, rfl⟩, rfl⟩ := p14
      · try dsimp only [tvI_i, tvJ_j, tvR_r] at p14
        refine tw_if_eq rfl (fun z => absurd z (by decide)) (fun _ => ?_)
        refine tw_iload rfl rfl ?_
        refine tw_push rfl ?_
        refine tw_push rfl ?_
        refine tw_stat3 rfl (f_isWithin hG (LO := 0) (HI := 99999) (by decide) (by decide)) (fun w9 h9 p15 => ?_)
        obtain ⟨⟨p15, rfl⟩ | ⟨p15, rfl⟩, rfl⟩ := p15
        · try dsimp only [tvI_i, tvJ_j, tvR_r] at p15
          refine tw_if_eq rfl (fun z => absurd z (by decide)) (fun _ => ?_)
          refine tw_push rfl ?_
          refine tw_goto rfl ?_
          refine tw_istore rfl ?_
          refine tw_iload rfl rfl ?_
          refine tw_if_eq rfl (fun z => absurd z (by decide)) (fun _ => ?_)
          refine tw_aload rfl rfl ?_
          refine tw_getS rfl (hs_0_0 hs) ?_
          refine tw_iload rfl rfl ?_
          refine tw_iload rfl rfl ?_
          refine tw_iload rfl rfl ?_
          refine tw_iload rfl rfl ?_
          refine tw_virt4 rfl (f_addKind hG  hs hr) (fun w9 h9 p16 => ?_)
          rcases p16 with ⟨p16, rfl, p16e⟩ | ⟨p16, rfl, p16e⟩
          · refine tw_goto rfl ?_
            exact tw_iret rfl (Or.inl ⟨by omega, congrArg some (hi_1_6 hs).symm, p16e⟩)
          · refine tw_goto rfl ?_
            exact tw_iret rfl (Or.inr ⟨by omega, rfl, p16e⟩)
        · try dsimp only [tvI_i, tvJ_j, tvR_r] at p15
          refine tw_if_eq rfl (fun _ => ?_) (fun z => absurd z (by decide))
          refine tw_push rfl ?_
          refine tw_istore rfl ?_
          refine tw_iload rfl rfl ?_
          refine tw_if_eq rfl (fun _ => ?_) (fun z => absurd z (by decide))
          refine tw_push rfl ?_
          exact tw_iret rfl (Or.inr ⟨by omega, rfl, rfl⟩)
      · try dsimp only [tvI_i, tvJ_j, tvR_r] at p14
        refine tw_if_eq rfl (fun _ => ?_) (fun z => absurd z (by decide))
        refine tw_push rfl ?_
        refine tw_istore rfl ?_
        refine tw_iload rfl rfl ?_
        refine tw_if_eq rfl (fun _ => ?_) (fun z => absurd z (by decide))
        refine tw_push rfl ?_
        exact tw_iret rfl (Or.inr ⟨by omega, rfl, rfl⟩)
    · try dsimp only [tvI_i, tvJ_j, tvR_r] at p13
      refine tw_if_eq rfl (fun _ => ?_) (fun z => absurd z (by decide))
      refine tw_push rfl ?_
      refine tw_istore rfl ?_
      refine tw_iload rfl rfl ?_
      refine tw_if_eq rfl (fun _ => ?_) (fun z => absurd z (by decide))
      refine tw_push rfl ?_
      exact tw_iret rfl (Or.inr ⟨by omega, rfl, rfl⟩)
  · try dsimp only [tvI_i, tvJ_j, tvR_r] at p12
    refine tw_if_eq rfl (fun _ => ?_) (fun z => absurd z (by decide))
    refine tw_push rfl ?_
    refine tw_istore rfl ?_
    refine tw_iload rfl rfl ?_
    refine tw_if_eq rfl (fun _ => ?_) (fun z => absurd z (by decide))
    refine tw_push rfl ?_
    exact tw_iret rfl (Or.inr ⟨by omega, rfl, rfl⟩)
theorem f_in {G : zG} (hG : G.1 = zProg) {h : zH} {x lo hi : Int64} {X LO HI : Int} (hx : x.toInt = X) (hlo : lo.toInt = LO) (hhi : hi.toInt = HI) : tC zTt G 171 [.long x, .long lo, .long hi] h (fun w h2 => tBo (LO ≤ X ∧ X ≤ HI) w ∧ h2 = h) := by
  refine tC_in (by rw [hG]; rfl) (fun dp => ?_)
  refine tw_lload rfl rfl ?_
  refine tw_lload rfl rfl ?_
  refine tw_lc_lt rfl rfl (fun q17 => ?_) (fun q17 => ?_)
  · try dsimp only [tvI_i, tvJ_j, tvR_r] at q17
    refine tw_push rfl ?_
    exact tw_iret rfl ⟨Or.inr ⟨by omega, rfl⟩, rfl⟩
  · try dsimp only [tvI_i, tvJ_j, tvR_r] at q17
    refine tw_lload rfl rfl ?_
    refine tw_lload rfl rfl ?_
    refine tw_lc_gt rfl rfl (fun q18 => ?_) (fun q18 => ?_)
    · try dsimp only [tvI_i, tvJ_j, tvR_r] at q18
      refine tw_push rfl ?_
      exact tw_iret rfl ⟨Or.inr ⟨by omega, rfl⟩, rfl⟩
    · try dsimp only [tvI_i, tvJ_j, tvR_r] at q18
      refine tw_push rfl ?_
      refine tw_goto rfl ?_
      exact tw_iret rfl ⟨Or.inl ⟨by omega, rfl⟩, rfl⟩
theorem g_kind {G : zG} (hG : G.1 = zProg) {h : zH} {firm : Int32} {a : Int32} {b : Int32} {c : Int32} (hs : tSh h)  : tC zTt G 181 [.ref 111, .int firm, .int a, .int b, .int c] h (phN 111 3 (((0 ≤ firm.toInt ∧ firm.toInt ≤ 3) ∧ (0 ≤ a.toInt ∧ a.toInt ≤ 99999) ∧ (0 ≤ b.toInt ∧ b.toInt ≤ 99999) ∧ (0 ≤ c.toInt ∧ c.toInt ≤ 99999)) ∧ (tvI (tF h 111 3)).toInt ≠ 8) h) := by
  refine tC_in (by rw [hG]; rfl) (fun dp => ?_)
  refine tw_aload rfl rfl ?_
  refine tw_getS rfl (hi_111_3 hs) ?_
  refine tw_push rfl ?_
  refine tw_ic_eq rfl (fun q19 => ?_) (fun q19 => ?_)
  · try dsimp only [tvI_i, tvJ_j, tvR_r] at q19
    have q19i := zeqi (Y := 8) (by decide) q19
    refine tw_push rfl ?_
    exact tw_iret rfl (Or.inr ⟨by omega, rfl, rfl⟩)
  · try dsimp only [tvI_i, tvJ_j, tvR_r] at q19
    have q19i := zneq (Y := 8) (by decide) q19
    refine tw_iload rfl rfl ?_
    refine tw_i2l rfl ?_
    refine tw_push rfl ?_
    refine tw_push rfl ?_
    refine tw_stat3 rfl (f_in hG  (LO := 0) (HI := 3) (Int32.toInt_toInt64 _) (by decide) (by decide)) (fun w9 h9 p20 => ?_)
    obtain ⟨⟨p20, rfl⟩ | ⟨p20, rfl⟩, rfl⟩ := p20
    · try dsimp only [tvI_i, tvJ_j, tvR_r] at p20
      refine tw_if_eq rfl (fun z => absurd z (by decide)) (fun _ => ?_)
      refine tw_iload rfl rfl ?_
      refine tw_i2l rfl ?_
      refine tw_push rfl ?_
      refine tw_push rfl ?_
      refine tw_stat3 rfl (f_in hG  (LO := 0) (HI := 99999) (Int32.toInt_toInt64 _) (by decide) (by decide)) (fun w9 h9 p21 => ?_)
      obtain ⟨⟨p21, rfl⟩ | ⟨p21, rfl⟩, rfl⟩ := p21
      · try dsimp only [tvI_i, tvJ_j, tvR_r] at p21
        refine tw_if_eq rfl (fun z => absurd z (by decide)) (fun _ => ?_)
        refine tw_iload rfl rfl ?_
        refine tw_i2l rfl ?_
        refine tw_push rfl ?_
        refine tw_push rfl ?_
        refine tw_stat3 rfl (f_in hG  (LO := 0) (HI := 99999) (Int32.toInt_toInt64 _) (by decide) (by decide)) (fun w9 h9 p22 => ?_)
        obtain ⟨⟨p22, rfl⟩ | ⟨p22, rfl⟩, rfl⟩ := p22
        · try dsimp only [tvI_i, tvJ_j, tvR_r] at p22
          refine tw_if_eq rfl (fun z => absurd z (by decide)) (fun _ => ?_)
          refine tw_iload rfl rfl ?_
          refine tw_i2l rfl ?_
          refine tw_push rfl ?_
          refine tw_push rfl ?_
          refine tw_stat3 rfl (f_in hG  (LO := 0) (HI := 99999) (Int32.toInt_toInt64 _) (by decide) (by decide)) (fun w9 h9 p23 => ?_)
          obtain ⟨⟨p23, rfl⟩ | ⟨p23, rfl⟩, rfl⟩ := p23
          · try dsimp only [tvI_i, tvJ_j, tvR_r] at p23
            refine tw_if_ne rfl (fun _ => ?_) (fun z => absurd z (by decide))
            refine tw_aload rfl rfl ?_
            refine tw_getS rfl (hs_111_9 hs) ?_
            refine tw_aload rfl rfl ?_
            refine tw_getS rfl (hi_111_3 hs) ?_
            refine tw_iload rfl rfl ?_
            refine tw_iast rfl (fun f24 => ?_)
            refine tw_aload rfl rfl ?_
            refine tw_getS rfl (hs_111_10 (tSh_SA hs)) ?_
            refine tw_push rfl ?_
            refine tw_aload rfl rfl ?_
            refine tw_getS rfl (tF_a (hi_111_3 hs)) ?_
            refine tw_imul rfl ?_
            refine tw_iload rfl rfl ?_
            refine tw_iast rfl (fun f25 => ?_)
            refine tw_aload rfl rfl ?_
            refine tw_getS rfl (hs_111_10 (tSh_SA (tSh_SA hs))) ?_
            refine tw_push rfl ?_
            refine tw_aload rfl rfl ?_
            refine tw_getS rfl (tF_a (tF_a (hi_111_3 hs))) ?_
            refine tw_imul rfl ?_
            refine tw_push rfl ?_
            refine tw_iadd rfl ?_
            refine tw_iload rfl rfl ?_
            refine tw_iast rfl (fun f26 => ?_)
            refine tw_aload rfl rfl ?_
            refine tw_getS rfl (hs_111_10 (tSh_SA (tSh_SA (tSh_SA hs)))) ?_
            refine tw_push rfl ?_
            refine tw_aload rfl rfl ?_
            refine tw_getS rfl (tF_a (tF_a (tF_a (hi_111_3 hs)))) ?_
            refine tw_imul rfl ?_
            refine tw_push rfl ?_
            refine tw_iadd rfl ?_
            refine tw_iload rfl rfl ?_
            refine tw_iast rfl (fun f27 => ?_)
            refine tw_aload rfl rfl ?_
            refine tw_dup rfl ?_
            refine tw_getS rfl (tF_a (tF_a (tF_a (tF_a (hi_111_3 hs))))) ?_
            refine tw_push rfl ?_
            refine tw_iadd rfl ?_
            refine tw_put rfl (fun f28 => ?_)
            refine tw_aload rfl rfl ?_
            refine tw_getS rfl (tF_same f28) ?_
            refine tw_push rfl ?_
            refine tw_isub rfl ?_
            exact tw_iret rfl (Or.inl ⟨by omega, wret1 (hi_111_3 hs), (tF_same f28)⟩)
          · try dsimp only [tvI_i, tvJ_j, tvR_r] at p23
            refine tw_if_ne rfl (fun z => absurd z (by decide)) (fun _ => ?_)
            refine tw_push rfl ?_
            exact tw_iret rfl (Or.inr ⟨by omega, rfl, rfl⟩)
        · try dsimp only [tvI_i, tvJ_j, tvR_r] at p22
          refine tw_if_eq rfl (fun _ => ?_) (fun z => absurd z (by decide))
          refine tw_push rfl ?_
          exact tw_iret rfl (Or.inr ⟨by omega, rfl, rfl⟩)
      · try dsimp only [tvI_i, tvJ_j, tvR_r] at p21
        refine tw_if_eq rfl (fun _ => ?_) (fun z => absurd z (by decide))
        refine tw_push rfl ?_
        exact tw_iret rfl (Or.inr ⟨by omega, rfl, rfl⟩)
    · try dsimp only [tvI_i, tvJ_j, tvR_r] at p20
      refine tw_if_eq rfl (fun _ => ?_) (fun z => absurd z (by decide))
      refine tw_push rfl ?_
      exact tw_iret rfl (Or.inr ⟨by omega, rfl, rfl⟩)
theorem a_kind {firm : Int32} {a : Int32} {b : Int32} {c : Int32} {h h2 h3 : zH} {w w2 : Option Value}  (hR : R_kinds h) (e1 : tF h2 111 3 = tF h 111 3) (e2 : tF h3 1 6 = tF h2 1 6) (k1 : phN 1 6 (((0 ≤ firm.toInt ∧ firm.toInt ≤ 3) ∧ (0 ≤ a.toInt ∧ a.toInt ≤ 99999) ∧ (0 ≤ b.toInt ∧ b.toInt ≤ 99999) ∧ (0 ≤ c.toInt ∧ c.toInt ≤ 99999)) ∧ (tvI (tF h 1 6)).toInt ≠ 8) h w h2) (k2 : phN 111 3 (((0 ≤ firm.toInt ∧ firm.toInt ≤ 3) ∧ (0 ≤ a.toInt ∧ a.toInt ≤ 99999) ∧ (0 ≤ b.toInt ∧ b.toInt ≤ 99999) ∧ (0 ≤ c.toInt ∧ c.toInt ≤ 99999)) ∧ (tvI (tF h2 111 3)).toInt ≠ 8) h2 w2 h3) : w2 = w ∧ R_kinds h3 := by
  refine phN_a hR e1 e2 ?_ k1 k2
  have hR2 := hR
  unfold R_kinds at hR2
  rw [e1, ← hR2]
def R_parts (h : zH) : Prop := tF h 1 7 = tF h 111 4
theorem f_addPart {G : zG} (hG : G.1 = zProg) {h : zH} {price : Int32} {a : Int32} {b : Int32} {c : Int32} (hs : tSh h) (hr : tRw h) : tC zTt G 29 [.ref 1, .int price, .int a, .int b, .int c] h (phN 1 7 ((tvI (tF h 1 7)).toInt ≠ 12) h) := by
  refine tC_in (by rw [hG]; rfl) (fun dp => ?_)
  refine tw_aload rfl rfl ?_
  refine tw_getS rfl (hi_1_7 hs) ?_
  refine tw_push rfl ?_
  refine tw_ic_ne rfl (fun q29 => ?_) (fun q29 => ?_)
  · try dsimp only [tvI_i, tvJ_j, tvR_r] at q29
    have q29i := zneq (Y := 12) (by decide) q29
    refine tw_aload rfl rfl ?_
    refine tw_getS rfl (hs_1_3 hs) ?_
    refine tw_aload rfl rfl ?_
    refine tw_getS rfl (hi_1_7 hs) ?_
    refine tw_iload rfl rfl ?_
    refine tw_iast rfl (fun f30 => ?_)
    refine tw_aload rfl rfl ?_
    refine tw_getS rfl (hs_1_4 (tSh_SA hs)) ?_
    refine tw_aload rfl rfl ?_
    refine tw_getS rfl (tF_a (hi_1_7 hs)) ?_
    refine tw_aaldS rfl (fun z => tRw_at (tRw_A hr) (p := 14) (q := 15) (by decide) z) ?_
    refine tw_iload rfl rfl ?_
    refine tw_iload rfl rfl ?_
    refine tw_iload rfl rfl ?_
    refine tw_stat4 rfl (f_fill hG) (fun wp32 hp32 p32 => ?_)
    obtain ⟨rfl, rfl, p32a, p32b, p32c⟩ := p32
    refine tw_aload rfl rfl ?_
    refine tw_dup rfl ?_
    refine tw_getS rfl (tF_a (tF_a (tF_a (tF_a (hi_1_7 hs))))) ?_
    refine tw_dup_x1 rfl ?_
    refine tw_push rfl ?_
    refine tw_iadd rfl ?_
    refine tw_put rfl (fun f33 => ?_)
    exact tw_iret rfl (Or.inl ⟨by omega, congrArg some (hi_1_7 hs).symm, (tF_same f33)⟩)
  · try dsimp only [tvI_i, tvJ_j, tvR_r] at q29
    have q29i := zeqi (Y := 12) (by decide) q29
    refine tw_push rfl ?_
    exact tw_iret rfl (Or.inr ⟨by omega, rfl, rfl⟩)
theorem f_part {G : zG} (hG : G.1 = zProg) {h : zH} {price : Int32} {a : Int32} {b : Int32} {c : Int32} (hs : tSh h) (hr : tRw h) : tC zTt G 114 [.ref 0, .int price, .int a, .int b, .int c] h (phN 1 7 (((0 ≤ price.toInt ∧ price.toInt ≤ 9999) ∧ (0 ≤ a.toInt ∧ a.toInt ≤ 9999) ∧ (0 ≤ b.toInt ∧ b.toInt ≤ 9999) ∧ (0 ≤ c.toInt ∧ c.toInt ≤ 9999)) ∧ (tvI (tF h 1 7)).toInt ≠ 12) h) := by
  refine tC_in (by rw [hG]; rfl) (fun dp => ?_)
  refine tw_iload rfl rfl ?_
  refine tw_push rfl ?_
  refine tw_push rfl ?_
  refine tw_stat3 rfl (f_isWithin hG (LO := 0) (HI := 9999) (by decide) (by decide)) (fun w9 h9 p34 => ?_)
  obtain ⟨⟨p34, rfl⟩ | ⟨p34, rfl⟩, rfl⟩ := p34
  · try dsimp only [tvI_i, tvJ_j, tvR_r] at p34
    refine tw_if_eq rfl (fun z => absurd z (by decide)) (fun _ => ?_)
    refine tw_iload rfl rfl ?_
    refine tw_push rfl ?_
    refine tw_push rfl ?_
    refine tw_stat3 rfl (f_isWithin hG (LO := 0) (HI := 9999) (by decide) (by decide)) (fun w9 h9 p35 => ?_)
    obtain ⟨⟨p35, rfl⟩ | ⟨p35, rfl⟩, rfl⟩ := p35
    · try dsimp only [tvI_i, tvJ_j, tvR_r] at p35
      refine tw_if_eq rfl (fun z => absurd z (by decide)) (fun _ => ?_)
      refine tw_iload rfl rfl ?_
      refine tw_push rfl ?_
      refine tw_push rfl ?_
      refine tw_stat3 rfl (f_isWithin hG (LO := 0) (HI := 9999) (by decide) (by decide)) (fun w9 h9 p36 => ?_)
      obtain ⟨⟨p36, rfl⟩ | ⟨p36, rfl⟩, rfl⟩ := p36
      · try dsimp only [tvI_i, tvJ_j, tvR_r] at p36
        refine tw_if_eq rfl (fun z => absurd z (by decide)) (fun _ => ?_)
        refine tw_iload rfl rfl ?_
        refine tw_push rfl ?_
        refine tw_push rfl ?_
        refine tw_stat3 rfl (f_isWithin hG (LO := 0) (HI := 9999) (by decide) (by decide)) (fun w9 h9 p37 => ?_)
        obtain ⟨⟨p37, rfl⟩ | ⟨p37, rfl⟩, rfl⟩ := p37
        · try dsimp only [tvI_i, tvJ_j, tvR_r] at p37
          refine tw_if_eq rfl (fun z => absurd z (by decide)) (fun _ => ?_)
          refine tw_push rfl ?_
          refine tw_goto rfl ?_
          refine tw_istore rfl ?_
          refine tw_iload rfl rfl ?_
          refine tw_if_eq rfl (fun z => absurd z (by decide)) (fun _ => ?_)
          refine tw_aload rfl rfl ?_
          refine tw_getS rfl (hs_0_0 hs) ?_
          refine tw_iload rfl rfl ?_
          refine tw_iload rfl rfl ?_
          refine tw_iload rfl rfl ?_
          refine tw_iload rfl rfl ?_
          refine tw_virt4 rfl (f_addPart hG  hs hr) (fun w9 h9 p38 => ?_)
          rcases p38 with ⟨p38, rfl, p38e⟩ | ⟨p38, rfl, p38e⟩
          · refine tw_goto rfl ?_
            exact tw_iret rfl (Or.inl ⟨by omega, congrArg some (hi_1_7 hs).symm, p38e⟩)
          · refine tw_goto rfl ?_
            exact tw_iret rfl (Or.inr ⟨by omega, rfl, p38e⟩)
        · try dsimp only [tvI_i, tvJ_j, tvR_r] at p37
          refine tw_if_eq rfl (fun _ => ?_) (fun z => absurd z (by decide))
          refine tw_push rfl ?_
          refine tw_istore rfl ?_
          refine tw_iload rfl rfl ?_
          refine tw_if_eq rfl (fun _ => ?_) (fun z => absurd z (by decide))
          refine tw_push rfl ?_
          exact tw_iret rfl (Or.inr ⟨by omega, rfl, rfl⟩)
      · try dsimp only [tvI_i, tvJ_j, tvR_r] at p36
        refine tw_if_eq rfl (fun _ => ?_) (fun z => absurd z (by decide))
        refine tw_push rfl ?_
        refine tw_istore rfl ?_
        refine tw_iload rfl rfl ?_
        refine tw_if_eq rfl (fun _ => ?_) (fun z => absurd z (by decide))
        refine tw_push rfl ?_
        exact tw_iret rfl (Or.inr ⟨by omega, rfl, rfl⟩)
    · try dsimp only [tvI_i, tvJ_j, tvR_r] at p35
      refine tw_if_eq rfl (fun _ => ?_) (fun z => absurd z (by decide))
      refine tw_push rfl ?_
      refine tw_istore rfl ?_
      refine tw_iload rfl rfl ?_
      refine tw_if_eq rfl (fun _ => ?_) (fun z => absurd z (by decide))
      refine tw_push rfl ?_
      exact tw_iret rfl (Or.inr ⟨by omega, rfl, rfl⟩)
  · try dsimp only [tvI_i, tvJ_j, tvR_r] at p34
    refine tw_if_eq rfl (fun _ => ?_) (fun z => absurd z (by decide))
    refine tw_push rfl ?_
    refine tw_istore rfl ?_
    refine tw_iload rfl rfl ?_
    refine tw_if_eq rfl (fun _ => ?_) (fun z => absurd z (by decide))
    refine tw_push rfl ?_
    exact tw_iret rfl (Or.inr ⟨by omega, rfl, rfl⟩)
theorem g_part {G : zG} (hG : G.1 = zProg) {h : zH} {price : Int32} {a : Int32} {b : Int32} {c : Int32} (hs : tSh h)  : tC zTt G 182 [.ref 111, .int price, .int a, .int b, .int c] h (phN 111 4 (((0 ≤ price.toInt ∧ price.toInt ≤ 9999) ∧ (0 ≤ a.toInt ∧ a.toInt ≤ 9999) ∧ (0 ≤ b.toInt ∧ b.toInt ≤ 9999) ∧ (0 ≤ c.toInt ∧ c.toInt ≤ 9999)) ∧ (tvI (tF h 111 4)).toInt ≠ 12) h) := by
  refine tC_in (by rw [hG]; rfl) (fun dp => ?_)
  refine tw_aload rfl rfl ?_
  refine tw_getS rfl (hi_111_4 hs) ?_
  refine tw_push rfl ?_
  refine tw_ic_eq rfl (fun q39 => ?_) (fun q39 => ?_)
  · try dsimp only [tvI_i, tvJ_j, tvR_r] at q39
    have q39i := zeqi (Y := 12) (by decide) q39
    refine tw_push rfl ?_
    exact tw_iret rfl (Or.inr ⟨by omega, rfl, rfl⟩)
  · try dsimp only [tvI_i, tvJ_j, tvR_r] at q39
    have q39i := zneq (Y := 12) (by decide) q39
    refine tw_iload rfl rfl ?_
    refine tw_i2l rfl ?_
    refine tw_push rfl ?_
    refine tw_push rfl ?_
    refine tw_stat3 rfl (f_in hG  (LO := 0) (HI := 9999) (Int32.toInt_toInt64 _) (by decide) (by decide)) (fun w9 h9 p40 => ?_)
    obtain ⟨⟨p40, rfl⟩ | ⟨p40, rfl⟩, rfl⟩ := p40
    · try dsimp only [tvI_i, tvJ_j, tvR_r] at p40
      refine tw_if_eq rfl (fun z => absurd z (by decide)) (fun _ => ?_)
      refine tw_iload rfl rfl ?_
      refine tw_i2l rfl ?_
      refine tw_push rfl ?_
      refine tw_push rfl ?_
      refine tw_stat3 rfl (f_in hG  (LO := 0) (HI := 9999) (Int32.toInt_toInt64 _) (by decide) (by decide)) (fun w9 h9 p41 => ?_)
      obtain ⟨⟨p41, rfl⟩ | ⟨p41, rfl⟩, rfl⟩ := p41
      · try dsimp only [tvI_i, tvJ_j, tvR_r] at p41
        refine tw_if_eq rfl (fun z => absurd z (by decide)) (fun _ => ?_)
        refine tw_iload rfl rfl ?_
        refine tw_i2l rfl ?_
        refine tw_push rfl ?_
        refine tw_push rfl ?_
        refine tw_stat3 rfl (f_in hG  (LO := 0) (HI := 9999) (Int32.toInt_toInt64 _) (by decide) (by decide)) (fun w9 h9 p42 => ?_)
        obtain ⟨⟨p42, rfl⟩ | ⟨p42, rfl⟩, rfl⟩ := p42
        · try dsimp only [tvI_i, tvJ_j, tvR_r] at p42
          refine tw_if_eq rfl (fun z => absurd z (by decide)) (fun _ => ?_)
          refine tw_iload rfl rfl ?_
          refine tw_i2l rfl ?_
          refine tw_push rfl ?_
          refine tw_push rfl ?_
          refine tw_stat3 rfl (f_in hG  (LO := 0) (HI := 9999) (Int32.toInt_toInt64 _) (by decide) (by decide)) (fun w9 h9 p43 => ?_)
          obtain ⟨⟨p43, rfl⟩ | ⟨p43, rfl⟩, rfl⟩ := p43
          · try dsimp only [tvI_i, tvJ_j, tvR_r] at p43
            refine tw_if_ne rfl (fun _ => ?_) (fun z => absurd z (by decide))
            refine tw_aload rfl rfl ?_
            refine tw_getS rfl (hs_111_11 hs) ?_
            refine tw_aload rfl rfl ?_
            refine tw_getS rfl (hi_111_4 hs) ?_
            refine tw_iload rfl rfl ?_
            refine tw_iast rfl (fun f44 => ?_)
            refine tw_aload rfl rfl ?_
            refine tw_getS rfl (hs_111_12 (tSh_SA hs)) ?_
            refine tw_push rfl ?_
            refine tw_aload rfl rfl ?_
            refine tw_getS rfl (tF_a (hi_111_4 hs)) ?_
            refine tw_imul rfl ?_
            refine tw_iload rfl rfl ?_
            refine tw_iast rfl (fun f45 => ?_)
            refine tw_aload rfl rfl ?_
            refine tw_getS rfl (hs_111_12 (tSh_SA (tSh_SA hs))) ?_
            refine tw_push rfl ?_
            refine tw_aload rfl rfl ?_
            refine tw_getS rfl (tF_a (tF_a (hi_111_4 hs))) ?_
            refine tw_imul rfl ?_
            refine tw_push rfl ?_
            refine tw_iadd rfl ?_
            refine tw_iload rfl rfl ?_
            refine tw_iast rfl (fun f46 => ?_)
            refine tw_aload rfl rfl ?_
            refine tw_getS rfl (hs_111_12 (tSh_SA (tSh_SA (tSh_SA hs)))) ?_
            refine tw_push rfl ?_
            refine tw_aload rfl rfl ?_
            refine tw_getS rfl (tF_a (tF_a (tF_a (hi_111_4 hs)))) ?_
            refine tw_imul rfl ?_
            refine tw_push rfl ?_
            refine tw_iadd rfl ?_
            refine tw_iload rfl rfl ?_
            refine tw_iast rfl (fun f47 => ?_)
            refine tw_aload rfl rfl ?_
            refine tw_dup rfl ?_
            refine tw_getS rfl (tF_a (tF_a (tF_a (tF_a (hi_111_4 hs))))) ?_
            refine tw_push rfl ?_
            refine tw_iadd rfl ?_
            refine tw_put rfl (fun f48 => ?_)
            refine tw_aload rfl rfl ?_
            refine tw_getS rfl (tF_same f48) ?_
            refine tw_push rfl ?_
            refine tw_isub rfl ?_
            exact tw_iret rfl (Or.inl ⟨by omega, wret1 (hi_111_4 hs), (tF_same f48)⟩)
          · try dsimp only [tvI_i, tvJ_j, tvR_r] at p43
            refine tw_if_ne rfl (fun z => absurd z (by decide)) (fun _ => ?_)
            refine tw_push rfl ?_
            exact tw_iret rfl (Or.inr ⟨by omega, rfl, rfl⟩)
        · try dsimp only [tvI_i, tvJ_j, tvR_r] at p42
          refine tw_if_eq rfl (fun _ => ?_) (fun z => absurd z (by decide))
          refine tw_push rfl ?_
          exact tw_iret rfl (Or.inr ⟨by omega, rfl, rfl⟩)
      · try dsimp only [tvI_i, tvJ_j, tvR_r] at p41
        refine tw_if_eq rfl (fun _ => ?_) (fun z => absurd z (by decide))
        refine tw_push rfl ?_
        exact tw_iret rfl (Or.inr ⟨by omega, rfl, rfl⟩)
    · try dsimp only [tvI_i, tvJ_j, tvR_r] at p40
      refine tw_if_eq rfl (fun _ => ?_) (fun z => absurd z (by decide))
      refine tw_push rfl ?_
      exact tw_iret rfl (Or.inr ⟨by omega, rfl, rfl⟩)
theorem a_part {price : Int32} {a : Int32} {b : Int32} {c : Int32} {h h2 h3 : zH} {w w2 : Option Value}  (hR : R_parts h) (e1 : tF h2 111 4 = tF h 111 4) (e2 : tF h3 1 7 = tF h2 1 7) (k1 : phN 1 7 (((0 ≤ price.toInt ∧ price.toInt ≤ 9999) ∧ (0 ≤ a.toInt ∧ a.toInt ≤ 9999) ∧ (0 ≤ b.toInt ∧ b.toInt ≤ 9999) ∧ (0 ≤ c.toInt ∧ c.toInt ≤ 9999)) ∧ (tvI (tF h 1 7)).toInt ≠ 12) h w h2) (k2 : phN 111 4 (((0 ≤ price.toInt ∧ price.toInt ≤ 9999) ∧ (0 ≤ a.toInt ∧ a.toInt ≤ 9999) ∧ (0 ≤ b.toInt ∧ b.toInt ≤ 9999) ∧ (0 ≤ c.toInt ∧ c.toInt ≤ 9999)) ∧ (tvI (tF h2 111 4)).toInt ≠ 12) h2 w2 h3) : w2 = w ∧ R_parts h3 := by
  refine phN_a hR e1 e2 ?_ k1 k2
  have hR2 := hR
  unfold R_parts at hR2
  rw [e1, ← hR2]
def R_calls (h : zH) : Prop := tF h 89 4 = tF h 111 83
theorem f_hasKind {G : zG} (hG : G.1 = zProg) {h : zH} {n : Int32} (hs : tSh h) : tC zTt G 25 [.ref 1, .int n] h (fun w h2 => tBo (0 ≤ n.toInt ∧ n.toInt < (tvI (tF h 1 6)).toInt) w ∧ h2 = h) := by
  refine tC_in (by rw [hG]; rfl) (fun dp => ?_)
  refine tw_iload rfl rfl ?_
  refine tw_if_lt rfl (fun q49 => ?_) (fun q49 => ?_)
  · try dsimp only [tvI_i, tvJ_j, tvR_r] at q49
    refine tw_push rfl ?_
    exact tw_iret rfl ⟨Or.inr ⟨by omega, rfl⟩, rfl⟩
  · try dsimp only [tvI_i, tvJ_j, tvR_r] at q49
    refine tw_iload rfl rfl ?_
    refine tw_aload rfl rfl ?_
    refine tw_getS rfl (hi_1_6 hs) ?_
    refine tw_ic_ge rfl (fun q50 => ?_) (fun q50 => ?_)
    · try dsimp only [tvI_i, tvJ_j, tvR_r] at q50
      refine tw_push rfl ?_
      exact tw_iret rfl ⟨Or.inr ⟨by omega, rfl⟩, rfl⟩
    · try dsimp only [tvI_i, tvJ_j, tvR_r] at q50
      refine tw_push rfl ?_
      refine tw_goto rfl ?_
      exact tw_iret rfl ⟨Or.inl ⟨by omega, rfl⟩, rfl⟩
theorem f_isMonth {G : zG} (hG : G.1 = zProg) {h : zH} {n : Int32} : tC zTt G 159 [.int n] h (fun w h2 => tBo (0 ≤ n.toInt ∧ n.toInt ≤ 599) w ∧ h2 = h) := by
  refine tC_in (by rw [hG]; rfl) (fun dp => ?_)
  refine tw_iload rfl rfl ?_
  refine tw_push rfl ?_
  refine tw_push rfl ?_
  refine tw_stat3 rfl (f_isWithin hG (LO := 0) (HI := 599) (by decide) (by decide)) (fun w9 h9 p51 => ?_)
  obtain ⟨⟨p51, rfl⟩ | ⟨p51, rfl⟩, rfl⟩ := p51
  · try dsimp only [tvI_i, tvJ_j, tvR_r] at p51
    exact tw_iret rfl ⟨Or.inl ⟨p51, rfl⟩, rfl⟩
  · try dsimp only [tvI_i, tvJ_j, tvR_r] at p51
    exact tw_iret rfl ⟨Or.inr ⟨p51, rfl⟩, rfl⟩
theorem f_hasPart {G : zG} (hG : G.1 = zProg) {h : zH} {n : Int32} (hs : tSh h) : tC zTt G 26 [.ref 1, .int n] h (fun w h2 => tBo (0 ≤ n.toInt ∧ n.toInt < (tvI (tF h 1 7)).toInt) w ∧ h2 = h) := by
  refine tC_in (by rw [hG]; rfl) (fun dp => ?_)
  refine tw_iload rfl rfl ?_
  refine tw_if_lt rfl (fun q52 => ?_) (fun q52 => ?_)
  · try dsimp only [tvI_i, tvJ_j, tvR_r] at q52
    refine tw_push rfl ?_
    exact tw_iret rfl ⟨Or.inr ⟨by omega, rfl⟩, rfl⟩
  · try dsimp only [tvI_i, tvJ_j, tvR_r] at q52
    refine tw_iload rfl rfl ?_
    refine tw_aload rfl rfl ?_
    refine tw_getS rfl (hi_1_7 hs) ?_
    refine tw_ic_ge rfl (fun q53 => ?_) (fun q53 => ?_)
    · try dsimp only [tvI_i, tvJ_j, tvR_r] at q53
      refine tw_push rfl ?_
      exact tw_iret rfl ⟨Or.inr ⟨by omega, rfl⟩, rfl⟩
    · try dsimp only [tvI_i, tvJ_j, tvR_r] at q53
      refine tw_push rfl ?_
      refine tw_goto rfl ?_
      exact tw_iret rfl ⟨Or.inl ⟨by omega, rfl⟩, rfl⟩
theorem f_addCall {G : zG} (hG : G.1 = zProg) {h : zH} {k : Int32} {a : Int32} {b : Int32} {p : Int32} (hs : tSh h) : tC zTt G 56 [.ref 89, .int k, .int a, .int b, .int p] h (phA 89 4 ((tvI (tF h 89 4)).toInt ≠ 20) [] h) := by
  refine tC_in (by rw [hG]; rfl) (fun dp => ?_)
  refine tw_aload rfl rfl ?_
  refine tw_getS rfl (hi_89_4 hs) ?_
  refine tw_push rfl ?_
  refine tw_ic_ne rfl (fun q54 => ?_) (fun q54 => ?_)
  · try dsimp only [tvI_i, tvJ_j, tvR_r] at q54
    have q54i := zneq (Y := 20) (by decide) q54
    refine tw_aload rfl rfl ?_
    refine tw_getS rfl (hs_89_0 hs) ?_
    refine tw_aload rfl rfl ?_
    refine tw_getS rfl (hi_89_4 hs) ?_
    refine tw_iload rfl rfl ?_
    refine tw_iast rfl (fun f55 => ?_)
    refine tw_aload rfl rfl ?_
    refine tw_getS rfl (hs_89_1 (tSh_SA hs)) ?_
    refine tw_aload rfl rfl ?_
    refine tw_getS rfl (tF_a (hi_89_4 hs)) ?_
    refine tw_iload rfl rfl ?_
    refine tw_iast rfl (fun f56 => ?_)
    refine tw_aload rfl rfl ?_
    refine tw_getS rfl (hs_89_2 (tSh_SA (tSh_SA hs))) ?_
    refine tw_aload rfl rfl ?_
    refine tw_getS rfl (tF_a (tF_a (hi_89_4 hs))) ?_
    refine tw_iload rfl rfl ?_
    refine tw_iast rfl (fun f57 => ?_)
    refine tw_aload rfl rfl ?_
    refine tw_getS rfl (hs_89_3 (tSh_SA (tSh_SA (tSh_SA hs)))) ?_
    refine tw_aload rfl rfl ?_
    refine tw_getS rfl (tF_a (tF_a (tF_a (hi_89_4 hs)))) ?_
    refine tw_iload rfl rfl ?_
    refine tw_iast rfl (fun f58 => ?_)
    refine tw_aload rfl rfl ?_
    refine tw_dup rfl ?_
    refine tw_getS rfl (tF_a (tF_a (tF_a (tF_a (hi_89_4 hs))))) ?_
    refine tw_dup_x1 rfl ?_
    refine tw_push rfl ?_
    refine tw_iadd rfl ?_
    refine tw_put rfl (fun f59 => ?_)
    exact tw_iret rfl (Or.inl ⟨by omega, congrArg some (hi_89_4 hs).symm, (tF_same f59), (fun q hq => by cases hq)⟩)
  · try dsimp only [tvI_i, tvJ_j, tvR_r] at q54
    have q54i := zeqi (Y := 20) (by decide) q54
    refine tw_push rfl ?_
    exact tw_iret rfl (Or.inr ⟨by omega, rfl, rfl, fun _ _ => rfl⟩)
theorem f_call {G : zG} (hG : G.1 = zProg) {h : zH} {k : Int32} {a : Int32} {b : Int32} {p : Int32} (hs : tSh h) : tC zTt G 146 [.ref 0, .int k, .int a, .int b, .int p] h (phA 89 4 (((0 ≤ k.toInt ∧ k.toInt < (tvI (tF h 1 6)).toInt) ∧ (0 ≤ a.toInt ∧ a.toInt ≤ 599) ∧ (a.toInt ≤ b.toInt ∧ b.toInt ≤ 599) ∧ (0 ≤ p.toInt ∧ p.toInt < (tvI (tF h 1 7)).toInt)) ∧ (tvI (tF h 89 4)).toInt ≠ 20) [] h) := by
  refine tC_in (by rw [hG]; rfl) (fun dp => ?_)
  refine tw_aload rfl rfl ?_
  refine tw_getS rfl (hs_0_0 hs) ?_
  refine tw_iload rfl rfl ?_
  refine tw_virt1 rfl (f_hasKind hG hs) (fun w9 h9 p60 => ?_)
  obtain ⟨⟨p60, rfl⟩ | ⟨p60, rfl⟩, rfl⟩ := p60
  · try dsimp only [tvI_i, tvJ_j, tvR_r] at p60
    refine tw_if_eq rfl (fun z => absurd z (by decide)) (fun _ => ?_)
    refine tw_iload rfl rfl ?_
    refine tw_stat1 rfl (f_isMonth hG) (fun w9 h9 p61 => ?_)
    obtain ⟨⟨p61, rfl⟩ | ⟨p61, rfl⟩, rfl⟩ := p61
    · try dsimp only [tvI_i, tvJ_j, tvR_r] at p61
      refine tw_if_eq rfl (fun z => absurd z (by decide)) (fun _ => ?_)
      refine tw_iload rfl rfl ?_
      refine tw_stat1 rfl (f_isMonth hG) (fun w9 h9 p62 => ?_)
      obtain ⟨⟨p62, rfl⟩ | ⟨p62, rfl⟩, rfl⟩ := p62
      · try dsimp only [tvI_i, tvJ_j, tvR_r] at p62
        refine tw_if_eq rfl (fun z => absurd z (by decide)) (fun _ => ?_)
        refine tw_iload rfl rfl ?_
        refine tw_iload rfl rfl ?_
        refine tw_ic_gt rfl (fun q63 => ?_) (fun q63 => ?_)
        · try dsimp only [tvI_i, tvJ_j, tvR_r] at q63
          refine tw_push rfl ?_
          refine tw_istore rfl ?_
          refine tw_iload rfl rfl ?_
          refine tw_if_eq rfl (fun _ => ?_) (fun z => absurd z (by decide))
          refine tw_push rfl ?_
          exact tw_iret rfl (Or.inr ⟨by omega, rfl, rfl, fun _ _ => rfl⟩)
        · try dsimp only [tvI_i, tvJ_j, tvR_r] at q63
          refine tw_aload rfl rfl ?_
          refine tw_getS rfl (hs_0_0 hs) ?_
          refine tw_iload rfl rfl ?_
          refine tw_virt1 rfl (f_hasPart hG hs) (fun w9 h9 p64 => ?_)
          obtain ⟨⟨p64, rfl⟩ | ⟨p64, rfl⟩, rfl⟩ := p64
          · try dsimp only [tvI_i, tvJ_j, tvR_r] at p64
            refine tw_if_eq rfl (fun z => absurd z (by decide)) (fun _ => ?_)
            refine tw_push rfl ?_
            refine tw_goto rfl ?_
            refine tw_istore rfl ?_
            refine tw_iload rfl rfl ?_
            refine tw_if_eq rfl (fun z => absurd z (by decide)) (fun _ => ?_)
            refine tw_aload rfl rfl ?_
            refine tw_getS rfl (hs_0_8 hs) ?_
            refine tw_iload rfl rfl ?_
            refine tw_iload rfl rfl ?_
            refine tw_iload rfl rfl ?_
            refine tw_iload rfl rfl ?_
            refine tw_virt4 rfl (f_addCall hG  hs) (fun w9 h9 p65 => ?_)
            rcases p65 with ⟨p65, rfl, p65e, p65g⟩ | ⟨p65, rfl, p65e, p65g⟩
            · refine tw_goto rfl ?_
              exact tw_iret rfl (Or.inl ⟨by omega, congrArg some (hi_89_4 hs).symm, p65e, p65g⟩)
            · refine tw_goto rfl ?_
              exact tw_iret rfl (Or.inr ⟨by omega, rfl, p65e, p65g⟩)
          · try dsimp only [tvI_i, tvJ_j, tvR_r] at p64
            refine tw_if_eq rfl (fun _ => ?_) (fun z => absurd z (by decide))
            refine tw_push rfl ?_
            refine tw_istore rfl ?_
            refine tw_iload rfl rfl ?_
            refine tw_if_eq rfl (fun _ => ?_) (fun z => absurd z (by decide))
            refine tw_push rfl ?_
            exact tw_iret rfl (Or.inr ⟨by omega, rfl, rfl, fun _ _ => rfl⟩)
      · try dsimp only [tvI_i, tvJ_j, tvR_r] at p62
        refine tw_if_eq rfl (fun _ => ?_) (fun z => absurd z (by decide))
        refine tw_push rfl ?_
        refine tw_istore rfl ?_
        refine tw_iload rfl rfl ?_
        refine tw_if_eq rfl (fun _ => ?_) (fun z => absurd z (by decide))
        refine tw_push rfl ?_
        exact tw_iret rfl (Or.inr ⟨by omega, rfl, rfl, fun _ _ => rfl⟩)
    · try dsimp only [tvI_i, tvJ_j, tvR_r] at p61
      refine tw_if_eq rfl (fun _ => ?_) (fun z => absurd z (by decide))
      refine tw_push rfl ?_
      refine tw_istore rfl ?_
      refine tw_iload rfl rfl ?_
      refine tw_if_eq rfl (fun _ => ?_) (fun z => absurd z (by decide))
      refine tw_push rfl ?_
      exact tw_iret rfl (Or.inr ⟨by omega, rfl, rfl, fun _ _ => rfl⟩)
  · try dsimp only [tvI_i, tvJ_j, tvR_r] at p60
    refine tw_if_eq rfl (fun _ => ?_) (fun z => absurd z (by decide))
    refine tw_push rfl ?_
    refine tw_istore rfl ?_
    refine tw_iload rfl rfl ?_
    refine tw_if_eq rfl (fun _ => ?_) (fun z => absurd z (by decide))
    refine tw_push rfl ?_
    exact tw_iret rfl (Or.inr ⟨by omega, rfl, rfl, fun _ _ => rfl⟩)
theorem g_isKind {G : zG} (hG : G.1 = zProg) {h : zH} {n : Int32} (hs : tSh h) (hk : 0 ≤ (tvI (tF h 111 3)).toInt) : tC zTt G 176 [.ref 111, .int n] h (fun w h2 => tBo (0 ≤ n.toInt ∧ n.toInt < (tvI (tF h 111 3)).toInt) w ∧ h2 = h) := by
  refine tC_in (by rw [hG]; rfl) (fun dp => ?_)
  refine tw_iload rfl rfl ?_
  refine tw_i2l rfl ?_
  refine tw_push rfl ?_
  refine tw_aload rfl rfl ?_
  refine tw_getS rfl (hi_111_3 hs) ?_
  refine tw_push rfl ?_
  refine tw_isub rfl ?_
  refine tw_i2l rfl ?_
  refine tw_stat3 rfl (f_in hG  (LO := 0)  (Int32.toInt_toInt64 _) (by decide) (Int32.toInt_toInt64 _)) (fun w9 h9 p66 => ?_)
  obtain ⟨⟨p66, rfl⟩ | ⟨p66, rfl⟩, rfl⟩ := p66
  · try dsimp only [tvI_i, tvJ_j, tvR_r] at p66
    exact tw_iret rfl ⟨Or.inl ⟨by have e := zsub1 hk; have := p66; omega, rfl⟩, rfl⟩
  · try dsimp only [tvI_i, tvJ_j, tvR_r] at p66
    exact tw_iret rfl ⟨Or.inr ⟨by have e := zsub1 hk; have := p66; omega, rfl⟩, rfl⟩
theorem g_isMonth {G : zG} (hG : G.1 = zProg) {h : zH} {n : Int32} : tC zTt G 172 [.int n] h (fun w h2 => tBo (0 ≤ n.toInt ∧ n.toInt ≤ 599) w ∧ h2 = h) := by
  refine tC_in (by rw [hG]; rfl) (fun dp => ?_)
  refine tw_iload rfl rfl ?_
  refine tw_i2l rfl ?_
  refine tw_push rfl ?_
  refine tw_push rfl ?_
  refine tw_stat3 rfl (f_in hG  (LO := 0) (HI := 599) (Int32.toInt_toInt64 _) (by decide) (by decide)) (fun w9 h9 p67 => ?_)
  obtain ⟨⟨p67, rfl⟩ | ⟨p67, rfl⟩, rfl⟩ := p67
  · try dsimp only [tvI_i, tvJ_j, tvR_r] at p67
    exact tw_iret rfl ⟨Or.inl ⟨p67, rfl⟩, rfl⟩
  · try dsimp only [tvI_i, tvJ_j, tvR_r] at p67
    exact tw_iret rfl ⟨Or.inr ⟨p67, rfl⟩, rfl⟩
theorem g_isPart {G : zG} (hG : G.1 = zProg) {h : zH} {n : Int32} (hs : tSh h) (hk : 0 ≤ (tvI (tF h 111 4)).toInt) : tC zTt G 177 [.ref 111, .int n] h (fun w h2 => tBo (0 ≤ n.toInt ∧ n.toInt < (tvI (tF h 111 4)).toInt) w ∧ h2 = h) := by
  refine tC_in (by rw [hG]; rfl) (fun dp => ?_)
  refine tw_iload rfl rfl ?_
  refine tw_i2l rfl ?_
  refine tw_push rfl ?_
  refine tw_aload rfl rfl ?_
  refine tw_getS rfl (hi_111_4 hs) ?_
  refine tw_push rfl ?_
  refine tw_isub rfl ?_
  refine tw_i2l rfl ?_
  refine tw_stat3 rfl (f_in hG  (LO := 0)  (Int32.toInt_toInt64 _) (by decide) (Int32.toInt_toInt64 _)) (fun w9 h9 p68 => ?_)
  obtain ⟨⟨p68, rfl⟩ | ⟨p68, rfl⟩, rfl⟩ := p68
  · try dsimp only [tvI_i, tvJ_j, tvR_r] at p68
    exact tw_iret rfl ⟨Or.inl ⟨by have e := zsub1 hk; have := p68; omega, rfl⟩, rfl⟩
  · try dsimp only [tvI_i, tvJ_j, tvR_r] at p68
    exact tw_iret rfl ⟨Or.inr ⟨by have e := zsub1 hk; have := p68; omega, rfl⟩, rfl⟩
theorem g_call {G : zG} (hG : G.1 = zProg) {h : zH} {k : Int32} {a : Int32} {b : Int32} {p : Int32} (hs : tSh h) (hk3 : 0 ≤ (tvI (tF h 111 3)).toInt) (hk4 : 0 ≤ (tvI (tF h 111 4)).toInt) : tC zTt G 265 [.ref 111, .int k, .int a, .int b, .int p] h (phA 111 83 (((0 ≤ k.toInt ∧ k.toInt < (tvI (tF h 111 3)).toInt) ∧ (0 ≤ a.toInt ∧ a.toInt ≤ 599) ∧ (a.toInt ≤ b.toInt ∧ b.toInt ≤ 599) ∧ (0 ≤ p.toInt ∧ p.toInt < (tvI (tF h 111 4)).toInt)) ∧ (tvI (tF h 111 83)).toInt ≠ 20) [] h) := by
  refine tC_in (by rw [hG]; rfl) (fun dp => ?_)
  refine tw_aload rfl rfl ?_
  refine tw_getS rfl (hi_111_83 hs) ?_
  refine tw_push rfl ?_
  refine tw_ic_eq rfl (fun q69 => ?_) (fun q69 => ?_)
  · try dsimp only [tvI_i, tvJ_j, tvR_r] at q69
    have q69i := zeqi (Y := 20) (by decide) q69
    refine tw_push rfl ?_
    exact tw_iret rfl (Or.inr ⟨by omega, rfl, rfl, fun _ _ => rfl⟩)
  · try dsimp only [tvI_i, tvJ_j, tvR_r] at q69
    have q69i := zneq (Y := 20) (by decide) q69
    refine tw_aload rfl rfl ?_
    refine tw_iload rfl rfl ?_
    refine tw_virt1 rfl (g_isKind hG hs hk3) (fun w9 h9 p70 => ?_)
    obtain ⟨⟨p70, rfl⟩ | ⟨p70, rfl⟩, rfl⟩ := p70
    · try dsimp only [tvI_i, tvJ_j, tvR_r] at p70
      refine tw_if_eq rfl (fun z => absurd z (by decide)) (fun _ => ?_)
      refine tw_iload rfl rfl ?_
      refine tw_stat1 rfl (g_isMonth hG) (fun w9 h9 p71 => ?_)
      obtain ⟨⟨p71, rfl⟩ | ⟨p71, rfl⟩, rfl⟩ := p71
      · try dsimp only [tvI_i, tvJ_j, tvR_r] at p71
        refine tw_if_eq rfl (fun z => absurd z (by decide)) (fun _ => ?_)
        refine tw_iload rfl rfl ?_
        refine tw_i2l rfl ?_
        refine tw_iload rfl rfl ?_
        refine tw_i2l rfl ?_
        refine tw_push rfl ?_
        refine tw_stat3 rfl (f_in hG   (HI := 599) (Int32.toInt_toInt64 _) (Int32.toInt_toInt64 _) (by decide)) (fun w9 h9 p72 => ?_)
        obtain ⟨⟨p72, rfl⟩ | ⟨p72, rfl⟩, rfl⟩ := p72
        · try dsimp only [tvI_i, tvJ_j, tvR_r] at p72
          refine tw_if_eq rfl (fun z => absurd z (by decide)) (fun _ => ?_)
          refine tw_aload rfl rfl ?_
          refine tw_iload rfl rfl ?_
          refine tw_virt1 rfl (g_isPart hG hs hk4) (fun w9 h9 p73 => ?_)
          obtain ⟨⟨p73, rfl⟩ | ⟨p73, rfl⟩, rfl⟩ := p73
          · try dsimp only [tvI_i, tvJ_j, tvR_r] at p73
            refine tw_if_ne rfl (fun _ => ?_) (fun z => absurd z (by decide))
            refine tw_aload rfl rfl ?_
            refine tw_getS rfl (hs_111_84 hs) ?_
            refine tw_aload rfl rfl ?_
            refine tw_getS rfl (hi_111_83 hs) ?_
            refine tw_iload rfl rfl ?_
            refine tw_iast rfl (fun f74 => ?_)
            refine tw_aload rfl rfl ?_
            refine tw_getS rfl (hs_111_85 (tSh_SA hs)) ?_
            refine tw_aload rfl rfl ?_
            refine tw_getS rfl (tF_a (hi_111_83 hs)) ?_
            refine tw_iload rfl rfl ?_
            refine tw_iast rfl (fun f75 => ?_)
            refine tw_aload rfl rfl ?_
            refine tw_getS rfl (hs_111_86 (tSh_SA (tSh_SA hs))) ?_
            refine tw_aload rfl rfl ?_
            refine tw_getS rfl (tF_a (tF_a (hi_111_83 hs))) ?_
            refine tw_iload rfl rfl ?_
            refine tw_iast rfl (fun f76 => ?_)
            refine tw_aload rfl rfl ?_
            refine tw_getS rfl (hs_111_87 (tSh_SA (tSh_SA (tSh_SA hs)))) ?_
            refine tw_aload rfl rfl ?_
            refine tw_getS rfl (tF_a (tF_a (tF_a (hi_111_83 hs)))) ?_
            refine tw_iload rfl rfl ?_
            refine tw_iast rfl (fun f77 => ?_)
            refine tw_aload rfl rfl ?_
            refine tw_dup rfl ?_
            refine tw_getS rfl (tF_a (tF_a (tF_a (tF_a (hi_111_83 hs))))) ?_
            refine tw_push rfl ?_
            refine tw_iadd rfl ?_
            refine tw_put rfl (fun f78 => ?_)
            refine tw_aload rfl rfl ?_
            refine tw_getS rfl (tF_same f78) ?_
            refine tw_push rfl ?_
            refine tw_isub rfl ?_
            exact tw_iret rfl (Or.inl ⟨by omega, wret1 (hi_111_83 hs), (tF_same f78), (fun q hq => by cases hq)⟩)
          · try dsimp only [tvI_i, tvJ_j, tvR_r] at p73
            refine tw_if_ne rfl (fun z => absurd z (by decide)) (fun _ => ?_)
            refine tw_push rfl ?_
            exact tw_iret rfl (Or.inr ⟨by omega, rfl, rfl, fun _ _ => rfl⟩)
        · try dsimp only [tvI_i, tvJ_j, tvR_r] at p72
          refine tw_if_eq rfl (fun _ => ?_) (fun z => absurd z (by decide))
          refine tw_push rfl ?_
          exact tw_iret rfl (Or.inr ⟨by omega, rfl, rfl, fun _ _ => rfl⟩)
      · try dsimp only [tvI_i, tvJ_j, tvR_r] at p71
        refine tw_if_eq rfl (fun _ => ?_) (fun z => absurd z (by decide))
        refine tw_push rfl ?_
        exact tw_iret rfl (Or.inr ⟨by omega, rfl, rfl, fun _ _ => rfl⟩)
    · try dsimp only [tvI_i, tvJ_j, tvR_r] at p70
      refine tw_if_eq rfl (fun _ => ?_) (fun z => absurd z (by decide))
      refine tw_push rfl ?_
      exact tw_iret rfl (Or.inr ⟨by omega, rfl, rfl, fun _ _ => rfl⟩)
theorem a_call {k : Int32} {a : Int32} {b : Int32} {p : Int32} {h h2 h3 : zH} {w w2 : Option Value} (h_kinds : R_kinds h) (h_parts : R_parts h) (hR : R_calls h) (e1 : tF h2 111 83 = tF h 111 83) (e2 : tF h3 89 4 = tF h2 89 4) (o_kinds : tF h2 111 3 = tF h 111 3) (o_parts : tF h2 111 4 = tF h 111 4) (k1 : phA 89 4 (((0 ≤ k.toInt ∧ k.toInt < (tvI (tF h 1 6)).toInt) ∧ (0 ≤ a.toInt ∧ a.toInt ≤ 599) ∧ (a.toInt ≤ b.toInt ∧ b.toInt ≤ 599) ∧ (0 ≤ p.toInt ∧ p.toInt < (tvI (tF h 1 7)).toInt)) ∧ (tvI (tF h 89 4)).toInt ≠ 20) [] h w h2) (k2 : phA 111 83 (((0 ≤ k.toInt ∧ k.toInt < (tvI (tF h2 111 3)).toInt) ∧ (0 ≤ a.toInt ∧ a.toInt ≤ 599) ∧ (a.toInt ≤ b.toInt ∧ b.toInt ≤ 599) ∧ (0 ≤ p.toInt ∧ p.toInt < (tvI (tF h2 111 4)).toInt)) ∧ (tvI (tF h2 111 83)).toInt ≠ 20) [] h2 w2 h3) : w2 = w ∧ R_calls h3 := by
  have hC : (((0 ≤ k.toInt ∧ k.toInt < (tvI (tF h 1 6)).toInt) ∧ (0 ≤ a.toInt ∧ a.toInt ≤ 599) ∧ (a.toInt ≤ b.toInt ∧ b.toInt ≤ 599) ∧ (0 ≤ p.toInt ∧ p.toInt < (tvI (tF h 1 7)).toInt)) ∧ (tvI (tF h 89 4)).toInt ≠ 20) ↔ (((0 ≤ k.toInt ∧ k.toInt < (tvI (tF h2 111 3)).toInt) ∧ (0 ≤ a.toInt ∧ a.toInt ≤ 599) ∧ (a.toInt ≤ b.toInt ∧ b.toInt ≤ 599) ∧ (0 ≤ p.toInt ∧ p.toInt < (tvI (tF h2 111 4)).toInt)) ∧ (tvI (tF h2 111 83)).toInt ≠ 20) := by
    have hR2 := hR
    unfold R_calls at hR2
    unfold R_kinds at h_kinds
    rw [o_kinds, ← h_kinds]
    unfold R_parts at h_parts
    rw [o_parts, ← h_parts]
    rw [e1, ← hR2]
  obtain ⟨r1, r2, r3⟩ := phA_a hR e1 e2 hC k1 k2
  exact ⟨r1, r2⟩
