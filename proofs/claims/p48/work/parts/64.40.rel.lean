/-! what is answered: small helpers -/
noncomputable def tBo (P : Prop) (w : Option Value) : Prop := (P ∧ w = some (.int 1)) ∨ (¬ P ∧ w = some (.int 0))
theorem tBo_i {P R : Prop} {w : Option Value} (e : P ↔ R) (k : tBo P w) : tBo R w := k.imp (fun z => ⟨e.mp z.1, z.2⟩) (fun z => ⟨fun y => z.1 (e.mpr y), z.2⟩)
theorem zpB_c {b : Int × Int} {r : List (Int × Int)} {xs : List Int32} (h : zpB (b :: r) xs) : ∃ x ys, xs = x :: ys ∧ (b.1 ≤ x.toInt ∧ x.toInt ≤ b.2) ∧ zpB r ys := by
  obtain ⟨lo, hi⟩ := b
  cases xs with
  | nil => exact h.elim
  | cons x ys => exact ⟨x, ys, rfl, h.1, h.2⟩
theorem zpB_n {xs : List Int32} (h : zpB [] xs) : xs = [] := by
  cases xs with
  | nil => rfl
  | cons x ys => exact h.elim
theorem zclx {x : Int32} (h : 0 ≤ x.toInt) : (x.toNatClampNeg : Int) = x.toInt := by
  show ((x.toInt.toNat : Nat) : Int) = _
  omega
theorem zclE {x : Int32} : x.toNatClampNeg = x.toInt.toNat := rfl
theorem zeqi {x y : Int32} {Y : Int} (hy : y.toInt = Y) (h : x = y) : x.toInt = Y := by rw [h]; exact hy
theorem zneq {x y : Int32} {Y : Int} (hy : y.toInt = Y) (h : ¬ x = y) : x.toInt ≠ Y := fun z => h (Int32.toInt_inj.mp (z.trans hy.symm))
theorem zsub1 {x : Int32} (h : 0 ≤ x.toInt) : (x - 1).toInt = x.toInt - 1 := by
  have := Int32.toInt_lt x
  rw [Int32.toInt_sub]
  exact Int.bmod_eq_of_le (by show (-2147483648 : Int) ≤ x.toInt - 1; omega) (by show x.toInt - 1 < (2147483648 : Int); omega)
noncomputable def tRwl : List (Nat × Nat) := [(4, 5), (14, 15), (27, 28), (97, 98)]
noncomputable def tRw (h : zH) : Prop := ∀ q ∈ tRwl, ∀ i, i < tN h q.1 → tO h q.1 i = some (q.2 + i)
theorem tRw_A {h : zH} {r i : Nat} {x : Int32} (k : tRw h) : tRw (tSA h r i x) := by unfold tRw; rw [tO_tSA, tN_tSA]; exact k
theorem tRw_J {h : zH} {r i : Nat} {x : Int64} (k : tRw h) : tRw (tSJ h r i x) := by unfold tRw; rw [tO_tSJ, tN_tSJ]; exact k
theorem tRw_F {h : zH} {r b : Nat} {w : Value} (k : tRw h) : tRw (tSF h r b w) := by unfold tRw; rw [tO_tSF, tN_tSF]; exact k
theorem tRw_at {h : zH} (k : tRw h) {p q : Nat} (hm : (p, q) ∈ tRwl) {i : Int32} (z : tInO h p i) : zrf (tO h p i.toNatClampNeg) = .ref (q + i.toNatClampNeg) := by
  rw [k (p, q) hm _ z.rg.2]
  rfl
theorem tfr_N {xs : Nat → Int32} {τ : List Nat} {h h2 : zH} {W : Nat → Nat → Bool} {p t : Nat} (hB : zBs xs τ h) (hf : yFr W τ h h2) (ht : zTG[p]? = some t) : tN h2 p = tN h p := by
  obtain ⟨ct, c, a1, a2, -⟩ := hB.1.2 _ _ (hB.2.1 _ _ ht)
  obtain ⟨c2, b1, b2⟩ := hf _ _ _ (hB.2.1 _ _ ht) a2
  unfold tN
  rw [a2, b1]
  match c, c2, b2 with
  | .inr (x, fs), .inr (y, gs), b2 => rfl
  | .inl (k, N, x), .inl (k2, N2, y), b2 => exact b2.2.1.symm
theorem tfr_Fs {xs : Nat → Int32} {τ : List Nat} {h h2 : zH} {W : Nat → Nat → Bool} {p t b : Nat} (hB : zBs xs τ h) (hf : yFr W τ h h2) (ht : τ[p]? = some t) (hW : W t b = false) : tF h2 p b = tF h p b := by
  obtain ⟨ct, c, a1, a2, -⟩ := hB.1.2 _ _ ht
  obtain ⟨c2, b1, b2⟩ := hf _ _ _ ht a2
  unfold tF
  rw [a2, b1]
  match c, c2, b2 with
  | .inr (x, fs), .inr (y, gs), b2 =>
    dsimp only
    rw [List.getD_eq_getElem?_getD, List.getD_eq_getElem?_getD, b2.2.2 b hW]
  | .inl (k, N, x), .inl (k2, N2, y), b2 => rfl
theorem car_tag {xs : Nat → Int32} {τ : List Nat} {h : zH} (hB : zBs xs τ h) {i r : Nat} (hi : (i : Int) < (tvI (tF h 36 4)).toInt) (hr : tO h 39 i = some r) : τ[r]? = some 150 := by
  have hn := (kb_36_4 hB).2
  obtain ⟨a, b, c⟩ := tkd_o hB (p := 39) (t := 15) rfl rfl
  obtain ⟨-, -, c3⟩ := c i (by omega)
  rw [hr] at c3
  rcases c3 with z | z | z
  · cases z
  · have : zoi (some r) = (r : Int) := rfl
    omega
  · exact z
theorem car_lt {xs : Nat → Int32} {τ : List Nat} {h : zH} (hB : zBs xs τ h) {i r : Nat} (hi : (i : Int) < (tvI (tF h 36 4)).toInt) (hr : tO h 39 i = some r) : r < h.length := by
  have z := car_tag hB hi hr
  rcases Nat.lt_or_ge r τ.length with q | q
  · have := hB.1.1; omega
  · rw [List.getElem?_eq_none q] at z; cases z
theorem car_ne {xs : Nat → Int32} {τ : List Nat} {h : zH} (hB : zBs xs τ h) {i r : Nat} (hi : (i : Int) < (tvI (tF h 36 4)).toInt) (hr : tO h 39 i = some r) {p t : Nat} (ht : zTG[p]? = some t) (hn : t ≠ 150) : r ≠ p := by
  intro e
  subst e
  have z := car_tag hB hi hr
  rw [hB.2.1 _ _ ht] at z
  cases z
  exact hn rfl
theorem zBs_len {xs : Nat → Int32} {τ : List Nat} {h : zH} (hB : zBs xs τ h) : 182 ≤ h.length := by
  have z := hB.2.1 181 149 rfl
  rcases Nat.lt_or_ge 181 τ.length with q | q
  · have := hB.1.1; omega
  · rw [List.getElem?_eq_none q] at z; cases z
/-- a count: what is told is the next of so many, or none -/
noncomputable def phN (p b : Nat) (C : Prop) (h : zH) (w : Option Value) (h2 : zH) : Prop := (C ∧ w = some (tF h p b) ∧ tF h2 p b = .int (tvI (tF h p b) + 1)) ∨ (¬ C ∧ w = some (.int (-1)) ∧ tF h2 p b = tF h p b)
theorem phN_a {p b q c : Nat} {C D : Prop} {h h2 h3 : zH} {w w2 : Option Value} (hR : tF h p b = tF h q c) (e1 : tF h2 q c = tF h q c) (e2 : tF h3 p b = tF h2 p b) (hCD : C ↔ D) (k1 : phN p b C h w h2) (k2 : phN q c D h2 w2 h3) : w2 = w ∧ tF h3 p b = tF h3 q c := by
  rcases k1 with ⟨c1, rfl, f1⟩ | ⟨c1, rfl, f1⟩ <;> rcases k2 with ⟨c2, rfl, f2⟩ | ⟨c2, rfl, f2⟩
  · rw [e2, f1, f2, e1, hR]
    exact ⟨rfl, rfl⟩
  · exact absurd (hCD.mp c1) c2
  · exact absurd (hCD.mpr c2) c1
  · rw [e2, f1, f2, e1, hR]
    exact ⟨rfl, rfl⟩
theorem zi1 {x : Int32} : x + 1 - 1 = x := Int32.add_sub_cancel x 1
/-- a count and what is told in arrays at its place -/
noncomputable def phA (p b : Nat) (C : Prop) (l : List (Nat × Int32)) (h : zH) (w : Option Value) (h2 : zH) : Prop := (C ∧ w = some (tF h p b) ∧ tF h2 p b = .int (tvI (tF h p b) + 1) ∧ ∀ q ∈ l, tA h2 q.1 = fun j => if j = (tvI (tF h p b)).toNatClampNeg then q.2 else tA h q.1 j) ∨ (¬ C ∧ w = some (.int (-1)) ∧ tF h2 p b = tF h p b ∧ ∀ q ∈ l, tA h2 q.1 = tA h q.1)
theorem phA_a {p b q c : Nat} {C D : Prop} {l m : List (Nat × Int32)} {h h2 h3 : zH} {w w2 : Option Value} (hR : tF h p b = tF h q c) (e1 : tF h2 q c = tF h q c) (e2 : tF h3 p b = tF h2 p b) (hCD : C ↔ D) (k1 : phA p b C l h w h2) (k2 : phA q c D m h2 w2 h3) : w2 = w ∧ tF h3 p b = tF h3 q c ∧ ∀ P Q v, (P, v) ∈ l → (Q, v) ∈ m → tA h P = tA h Q → tA h2 Q = tA h Q → tA h3 P = tA h2 P → tA h3 P = tA h3 Q := by
  rcases k1 with ⟨c1, rfl, f1, g1⟩ | ⟨c1, rfl, f1, g1⟩ <;> rcases k2 with ⟨c2, rfl, f2, g2⟩ | ⟨c2, rfl, f2, g2⟩
  · refine ⟨by rw [e1, hR], by rw [e2, f1, f2, e1, hR], fun P Q v hP hQ a1 a2 a3 => ?_⟩
    rw [a3, g1 _ hP, g2 _ hQ, e1, ← hR]
    dsimp only
    rw [a1, a2]
  · exact absurd (hCD.mp c1) c2
  · exact absurd (hCD.mpr c2) c1
  · refine ⟨rfl, by rw [e2, f1, f2, e1, hR], fun P Q v hP hQ a1 a2 a3 => ?_⟩
    have h1 := g1 _ hP
    have h2 := g2 _ hQ
    dsimp only at h1 h2
    rw [a3, h1, h2, a1, a2]
theorem tA_st {h : zH} {r i : Nat} {x : Int32} {kd : Nat} {z : Int32} (hf : tIn h r kd z) {f : Nat → Int32} (k : tA h r = f) : tA (tSA h r i x) r = fun j => if j = i then x else f j := by
  rw [tA_tSA hf.cell]
  funext j
  dsimp only
  rw [k]
  by_cases e : j = i
  · rw [if_pos ⟨rfl, e⟩, if_pos e]
  · rw [if_neg (fun z => e z.2), if_neg e]
theorem tA_n {h : zH} {r i p : Nat} {x : Int32} {f : Nat → Int32} (hn : p ≠ r) (k : tA h p = f) : tA (tSA h r i x) p = f := by rw [tA_nz hn]; exact k
theorem tA_ff {h : zH} {r b p : Nat} {w : Value} {f : Nat → Int32} (k : tA h p = f) : tA (tSF h r b w) p = f := by rw [tA_tSF]; exact k
theorem tA_jj {h : zH} {r i p : Nat} {x : Int64} {f : Nat → Int32} (k : tA h p = f) : tA (tSJ h r i x) p = f := by rw [tA_tSJ]; exact k
theorem tA_oo {h : zH} {r i p : Nat} {x : Option Nat} {f : Nat → Int32} (k : tA h p = f) : tA (tSO h r i x) p = f := by rw [tA_tSO]; exact k
noncomputable def R_savers (h : zH) : Prop := tF h 94 3 = tF h 111 90
noncomputable def R_vcoins (h : zH) : Prop := tA h 95 = tA h 179
noncomputable def R_vlives (h : zH) : Prop := tA h 96 = tA h 180
theorem f_isWithin {G : zG} (hG : G.1 = zProg) {h : zH} {n lo hi : Int32} {LO HI : Int} (hlo : lo.toInt = LO) (hhi : hi.toInt = HI) : tC zTt G 158 [.int n, .int lo, .int hi] h (fun w h2 => tBo (LO ≤ n.toInt ∧ n.toInt ≤ HI) w ∧ h2 = h) := by
  refine tC_in (by rw [hG]; rfl) (fun dp => ?_)
  refine tw_iload rfl rfl ?_
  refine tw_iload rfl rfl ?_
  refine tw_ic_lt rfl (fun q1 => ?_) (fun q1 => ?_)
  · try dsimp only [tvI_i, tvJ_j, tvR_r] at q1
    refine tw_push rfl ?_
    exact tw_iret rfl ⟨Or.inr ⟨by omega, rfl⟩, rfl⟩
  · try dsimp only [tvI_i, tvJ_j, tvR_r] at q1
    refine tw_iload rfl rfl ?_
    refine tw_iload rfl rfl ?_
    refine tw_ic_gt rfl (fun q2 => ?_) (fun q2 => ?_)
    · try dsimp only [tvI_i, tvJ_j, tvR_r] at q2
      refine tw_push rfl ?_
      exact tw_iret rfl ⟨Or.inr ⟨by omega, rfl⟩, rfl⟩
    · try dsimp only [tvI_i, tvJ_j, tvR_r] at q2
      refine tw_push rfl ?_
      refine tw_goto rfl ?_
      exact tw_iret rfl ⟨Or.inl ⟨by omega, rfl⟩, rfl⟩
theorem wret1 {h : zH} {p b : Nat} (k : tF h p b = .int (tvI (tF h p b))) : some (Value.int (tvI (tF h p b) + 1 - 1)) = some (tF h p b) := by rw [zi1]; exact congrArg some k.symm
theorem f_addSaver {G : zG} (hG : G.1 = zProg) {h : zH} {coins : Int32} {lives : Int32} (hs : tSh h) : tC zTt G 96 [.ref 94, .int coins, .int lives] h (phA 94 3 ((tvI (tF h 94 3)).toInt ≠ 9) [(95, coins), (96, lives)] h) := by
  refine tC_in (by rw [hG]; rfl) (fun dp => ?_)
  refine tw_aload rfl rfl ?_
  refine tw_getS rfl (hi_94_3 hs) ?_
  refine tw_push rfl ?_
  refine tw_ic_ne rfl (fun q3 => ?_) (fun q3 => ?_)
  · try dsimp only [tvI_i, tvJ_j, tvR_r] at q3
    have q3i := zneq (Y := 9) (by decide) q3
    refine tw_aload rfl rfl ?_
    refine tw_getS rfl (hs_94_0 hs) ?_
    refine tw_aload rfl rfl ?_
    refine tw_getS rfl (hi_94_3 hs) ?_
    refine tw_iload rfl rfl ?_
    refine tw_iast rfl (fun f4 => ?_)
    refine tw_aload rfl rfl ?_
    refine tw_getS rfl (hs_94_1 (tSh_SA hs)) ?_
    refine tw_aload rfl rfl ?_
    refine tw_getS rfl (tF_a (hi_94_3 hs)) ?_
    refine tw_iload rfl rfl ?_
    refine tw_iast rfl (fun f5 => ?_)
    refine tw_aload rfl rfl ?_
    refine tw_dup rfl ?_
    refine tw_getS rfl (tF_a (tF_a (hi_94_3 hs))) ?_
    refine tw_dup_x1 rfl ?_
    refine tw_push rfl ?_
    refine tw_iadd rfl ?_
    refine tw_put rfl (fun f6 => ?_)
    exact tw_iret rfl (Or.inl ⟨by omega, congrArg some (hi_94_3 hs).symm, (tF_same f6), (fun q hq => by rcases List.mem_cons.mp hq with rfl | hq; (show tA _ 95 = _; exact (tA_ff (tA_n (by decide) (tA_st f4 rfl)))); rcases List.mem_cons.mp hq with rfl | hq; (show tA _ 96 = _; exact (tA_ff (tA_st f5 (tA_n (by decide) rfl)))); cases hq)⟩)
  · try dsimp only [tvI_i, tvJ_j, tvR_r] at q3
    have q3i := zeqi (Y := 9) (by decide) q3
    refine tw_push rfl ?_
    exact tw_iret rfl (Or.inr ⟨by omega, rfl, rfl, fun _ _ => rfl⟩)
theorem f_saver {G : zG} (hG : G.1 = zProg) {h : zH} {coins : Int32} {lives : Int32} (hs : tSh h) : tC zTt G 153 [.ref 0, .int coins, .int lives] h (phA 94 3 (((0 ≤ coins.toInt ∧ coins.toInt ≤ 99999) ∧ (0 ≤ lives.toInt ∧ lives.toInt ≤ 999)) ∧ (tvI (tF h 94 3)).toInt ≠ 9) [(95, coins), (96, lives)] h) := by
  refine tC_in (by rw [hG]; rfl) (fun dp => ?_)
  refine tw_iload rfl rfl ?_
  refine tw_push rfl ?_
  refine tw_push rfl ?_
  refine tw_stat3 rfl (f_isWithin hG (LO := 0) (HI := 99999) (by decide) (by decide)) (fun w9 h9 p7 => ?_)
  obtain ⟨⟨p7, rfl⟩ | ⟨p7, rfl⟩, rfl⟩ := p7
  · try dsimp only [tvI_i, tvJ_j, tvR_r] at p7
    refine tw_if_eq rfl (fun z => absurd z (by decide)) (fun _ => ?_)
    refine tw_iload rfl rfl ?_
    refine tw_push rfl ?_
    refine tw_push rfl ?_
    refine tw_stat3 rfl (f_isWithin hG (LO := 0) (HI := 999) (by decide) (by decide)) (fun w9 h9 p8 => ?_)
    obtain ⟨⟨p8, rfl⟩ | ⟨p8, rfl⟩, rfl⟩ := p8
    · try dsimp only [tvI_i, tvJ_j, tvR_r] at p8
      refine tw_if_eq rfl (fun z => absurd z (by decide)) (fun _ => ?_)
      refine tw_aload rfl rfl ?_
      refine tw_getS rfl (hs_0_9 hs) ?_
      refine tw_iload rfl rfl ?_
      refine tw_iload rfl rfl ?_
      refine tw_virt2 rfl (f_addSaver hG  hs) (fun w9 h9 p9 => ?_)
      rcases p9 with ⟨p9, rfl, p9e, p9g⟩ | ⟨p9, rfl, p9e, p9g⟩
      · refine tw_goto rfl ?_
        exact tw_iret rfl (Or.inl ⟨by omega, congrArg some (hi_94_3 hs).symm, p9e, p9g⟩)
      · refine tw_goto rfl ?_
        exact tw_iret rfl (Or.inr ⟨by omega, rfl, p9e, p9g⟩)
    · try dsimp only [tvI_i, tvJ_j, tvR_r] at p8
      refine tw_if_eq rfl (fun _ => ?_) (fun z => absurd z (by decide))
      refine tw_push rfl ?_
      exact tw_iret rfl (Or.inr ⟨by omega, rfl, rfl, fun _ _ => rfl⟩)
  · try dsimp only [tvI_i, tvJ_j, tvR_r] at p7
    refine tw_if_eq rfl (fun _ => ?_) (fun z => absurd z (by decide))
    refine tw_push rfl ?_
    exact tw_iret rfl (Or.inr ⟨by omega, rfl, rfl, fun _ _ => rfl⟩)
theorem f_in {G : zG} (hG : G.1 = zProg) {h : zH} {x lo hi : Int64} {X LO HI : Int} (hx : x.toInt = X) (hlo : lo.toInt = LO) (hhi : hi.toInt = HI) : tC zTt G 171 [.long x, .long lo, .long hi] h (fun w h2 => tBo (LO ≤ X ∧ X ≤ HI) w ∧ h2 = h) := by
  refine tC_in (by rw [hG]; rfl) (fun dp => ?_)
  refine tw_lload rfl rfl ?_
  refine tw_lload rfl rfl ?_
  refine tw_lc_lt rfl rfl (fun q10 => ?_) (fun q10 => ?_)
  · try dsimp only [tvI_i, tvJ_j, tvR_r] at q10
    refine tw_push rfl ?_
    exact tw_iret rfl ⟨Or.inr ⟨by omega, rfl⟩, rfl⟩
  · try dsimp only [tvI_i, tvJ_j, tvR_r] at q10
    refine tw_lload rfl rfl ?_
    refine tw_lload rfl rfl ?_
    refine tw_lc_gt rfl rfl (fun q11 => ?_) (fun q11 => ?_)
    · try dsimp only [tvI_i, tvJ_j, tvR_r] at q11
      refine tw_push rfl ?_
      exact tw_iret rfl ⟨Or.inr ⟨by omega, rfl⟩, rfl⟩
    · try dsimp only [tvI_i, tvJ_j, tvR_r] at q11
      refine tw_push rfl ?_
      refine tw_goto rfl ?_
      exact tw_iret rfl ⟨Or.inl ⟨by omega, rfl⟩, rfl⟩
theorem g_saver {G : zG} (hG : G.1 = zProg) {h : zH} {coins : Int32} {lives : Int32} (hs : tSh h)  : tC zTt G 275 [.ref 111, .int coins, .int lives] h (phA 111 90 (((0 ≤ coins.toInt ∧ coins.toInt ≤ 99999) ∧ (0 ≤ lives.toInt ∧ lives.toInt ≤ 999)) ∧ (tvI (tF h 111 90)).toInt ≠ 9) [(179, coins), (180, lives)] h) := by
  refine tC_in (by rw [hG]; rfl) (fun dp => ?_)
  refine tw_aload rfl rfl ?_
  refine tw_getS rfl (hi_111_90 hs) ?_
  refine tw_push rfl ?_
  refine tw_ic_eq rfl (fun q12 => ?_) (fun q12 => ?_)
  · try dsimp only [tvI_i, tvJ_j, tvR_r] at q12
    have q12i := zeqi (Y := 9) (by decide) q12
    refine tw_push rfl ?_
    exact tw_iret rfl (Or.inr ⟨by omega, rfl, rfl, fun _ _ => rfl⟩)
  · try dsimp only [tvI_i, tvJ_j, tvR_r] at q12
    have q12i := zneq (Y := 9) (by decide) q12
    refine tw_iload rfl rfl ?_
    refine tw_i2l rfl ?_
    refine tw_push rfl ?_
    refine tw_push rfl ?_
    refine tw_stat3 rfl (f_in hG  (LO := 0) (HI := 99999) (Int32.toInt_toInt64 _) (by decide) (by decide)) (fun w9 h9 p13 => ?_)
    obtain ⟨⟨p13, rfl⟩ | ⟨p13, rfl⟩, rfl⟩ := p13
    · try dsimp only [tvI_i, tvJ_j, tvR_r] at p13
      refine tw_if_eq rfl (fun z => absurd z (by decide)) (fun _ => ?_)
      refine tw_iload rfl rfl ?_
      refine tw_i2l rfl ?_
      refine tw_push rfl ?_
      refine tw_push rfl ?_
      refine tw_stat3 rfl (f_in hG  (LO := 0) (HI := 999) (Int32.toInt_toInt64 _) (by decide) (by decide)) (fun w9 h9 p14 => ?_)
      obtain ⟨⟨p14, rfl⟩ | ⟨p14, rfl⟩, rfl⟩ := p14
      · try dsimp only [tvI_i, tvJ_j, tvR_r] at p14
        refine tw_if_ne rfl (fun _ => ?_) (fun z => absurd z (by decide))
        refine tw_aload rfl rfl ?_
        refine tw_getS rfl (hs_111_93 hs) ?_
        refine tw_aload rfl rfl ?_
        refine tw_getS rfl (hi_111_90 hs) ?_
        refine tw_iload rfl rfl ?_
        refine tw_iast rfl (fun f15 => ?_)
        refine tw_aload rfl rfl ?_
        refine tw_getS rfl (hs_111_94 (tSh_SA hs)) ?_
        refine tw_aload rfl rfl ?_
        refine tw_getS rfl (tF_a (hi_111_90 hs)) ?_
        refine tw_iload rfl rfl ?_
        refine tw_iast rfl (fun f16 => ?_)
        refine tw_aload rfl rfl ?_
        refine tw_dup rfl ?_
        refine tw_getS rfl (tF_a (tF_a (hi_111_90 hs))) ?_
        refine tw_push rfl ?_
        refine tw_iadd rfl ?_
        refine tw_put rfl (fun f17 => ?_)
        refine tw_aload rfl rfl ?_
        refine tw_getS rfl (tF_same f17) ?_
        refine tw_push rfl ?_
        refine tw_isub rfl ?_
        exact tw_iret rfl (Or.inl ⟨by omega, wret1 (hi_111_90 hs), (tF_same f17), (fun q hq => by rcases List.mem_cons.mp hq with rfl | hq; (show tA _ 179 = _; exact (tA_ff (tA_n (by decide) (tA_st f15 rfl)))); rcases List.mem_cons.mp hq with rfl | hq; (show tA _ 180 = _; exact (tA_ff (tA_st f16 (tA_n (by decide) rfl)))); cases hq)⟩)
      · try dsimp only [tvI_i, tvJ_j, tvR_r] at p14
        refine tw_if_ne rfl (fun z => absurd z (by decide)) (fun _ => ?_)
        refine tw_push rfl ?_
        exact tw_iret rfl (Or.inr ⟨by omega, rfl, rfl, fun _ _ => rfl⟩)
    · try dsimp only [tvI_i, tvJ_j, tvR_r] at p13
      refine tw_if_eq rfl (fun _ => ?_) (fun z => absurd z (by decide))
      refine tw_push rfl ?_
      exact tw_iret rfl (Or.inr ⟨by omega, rfl, rfl, fun _ _ => rfl⟩)
theorem a_saver {coins : Int32} {lives : Int32} {h h2 h3 : zH} {w w2 : Option Value}  (hR : R_savers h) (e1 : tF h2 111 90 = tF h 111 90) (e2 : tF h3 94 3 = tF h2 94 3) (h_vcoins : R_vcoins h) (o_vcoins : tA h2 179 = tA h 179) (t_vcoins : tA h3 95 = tA h2 95) (h_vlives : R_vlives h) (o_vlives : tA h2 180 = tA h 180) (t_vlives : tA h3 96 = tA h2 96) (k1 : phA 94 3 (((0 ≤ coins.toInt ∧ coins.toInt ≤ 99999) ∧ (0 ≤ lives.toInt ∧ lives.toInt ≤ 999)) ∧ (tvI (tF h 94 3)).toInt ≠ 9) [(95, coins), (96, lives)] h w h2) (k2 : phA 111 90 (((0 ≤ coins.toInt ∧ coins.toInt ≤ 99999) ∧ (0 ≤ lives.toInt ∧ lives.toInt ≤ 999)) ∧ (tvI (tF h2 111 90)).toInt ≠ 9) [(179, coins), (180, lives)] h2 w2 h3) : w2 = w ∧ R_savers h3 ∧ R_vcoins h3 ∧ R_vlives h3 := by
  have hC : (((0 ≤ coins.toInt ∧ coins.toInt ≤ 99999) ∧ (0 ≤ lives.toInt ∧ lives.toInt ≤ 999)) ∧ (tvI (tF h 94 3)).toInt ≠ 9) ↔ (((0 ≤ coins.toInt ∧ coins.toInt ≤ 99999) ∧ (0 ≤ lives.toInt ∧ lives.toInt ≤ 999)) ∧ (tvI (tF h2 111 90)).toInt ≠ 9) := by
    have hR2 := hR
    unfold R_savers at hR2
    rw [e1, ← hR2]
  obtain ⟨r1, r2, r3⟩ := phA_a hR e1 e2 hC k1 k2
  exact ⟨r1, r2, r3 95 179 coins (by simp) (by simp) h_vcoins o_vcoins t_vcoins, r3 96 180 lives (by simp) (by simp) h_vlives o_vlives t_vlives⟩
noncomputable def R_rw (h : zH) : Prop := tRw h
noncomputable def R_overlaps (h : zH) : Prop := ∀ a, a < 9 → ∀ b, b < 9 → tA h (98 + a) b = tA h 181 (9 * a + b)
theorem zmulc {c : Nat} {k p : Int32} {K : Int32} (hK : K.toInt = c) (hc : c ≤ 100) (hk : 0 ≤ k.toInt ∧ k.toInt ≤ 1000) (hp : 0 ≤ p.toInt ∧ p.toInt ≤ 1000) : (K * k + p).toNatClampNeg = c * k.toNatClampNeg + p.toNatClampNeg ∧ (k * K + p).toNatClampNeg = c * k.toNatClampNeg + p.toNatClampNeg := by
  have hm : 0 ≤ (c : Int) * k.toInt := Int.mul_nonneg (by omega) hk.1
  have hm2 : (c : Int) * k.toInt ≤ 100 * 1000 := Int.mul_le_mul (by omega) hk.2 hk.1 (by decide)
  have e1 : (K * k).toInt = c * k.toInt := by
    rw [Int32.toInt_mul, hK]
    exact Int.bmod_eq_of_le (by show (-2147483648 : Int) ≤ _; omega) (by show _ < (2147483648 : Int); omega)
  have e2 : (K * k + p).toInt = c * k.toInt + p.toInt := by
    rw [Int32.toInt_add, e1]
    exact Int.bmod_eq_of_le (by show (-2147483648 : Int) ≤ _; omega) (by show _ < (2147483648 : Int); omega)
  have e3 : (K * k + p).toNatClampNeg = c * k.toNatClampNeg + p.toNatClampNeg := by
    rw [zclE, zclE, zclE, e2]
    have : ((c : Int) * k.toInt).toNat = c * k.toInt.toNat := by
      rw [Int.toNat_mul (by omega) hk.1]
      rfl
    omega
  exact ⟨e3, by rw [Int32.mul_comm]; exact e3⟩
theorem f_hasSaver {G : zG} (hG : G.1 = zProg) {h : zH} {n : Int32} (hs : tSh h) : tC zTt G 95 [.ref 94, .int n] h (fun w h2 => tBo (0 ≤ n.toInt ∧ n.toInt < (tvI (tF h 94 3)).toInt) w ∧ h2 = h) := by
  refine tC_in (by rw [hG]; rfl) (fun dp => ?_)
  refine tw_iload rfl rfl ?_
  refine tw_if_lt rfl (fun q18 => ?_) (fun q18 => ?_)
  · try dsimp only [tvI_i, tvJ_j, tvR_r] at q18
    refine tw_push rfl ?_
    exact tw_iret rfl ⟨Or.inr ⟨by omega, rfl⟩, rfl⟩
  · try dsimp only [tvI_i, tvJ_j, tvR_r] at q18
    refine tw_iload rfl rfl ?_
    refine tw_aload rfl rfl ?_
    refine tw_getS rfl (hi_94_3 hs) ?_
    refine tw_ic_ge rfl (fun q19 => ?_) (fun q19 => ?_)
    · try dsimp only [tvI_i, tvJ_j, tvR_r] at q19
      refine tw_push rfl ?_
      exact tw_iret rfl ⟨Or.inr ⟨by omega, rfl⟩, rfl⟩
    · try dsimp only [tvI_i, tvJ_j, tvR_r] at q19
      refine tw_push rfl ?_
      refine tw_goto rfl ?_
      exact tw_iret rfl ⟨Or.inl ⟨by omega, rfl⟩, rfl⟩
noncomputable def ph_ovc (a b l : Int32) (h : zH) (w : Option Value) (h2 : zH) : Prop := (((0 ≤ a.toInt ∧ a.toInt < (tvI (tF h 94 3)).toInt) ∧ (0 ≤ b.toInt ∧ b.toInt < (tvI (tF h 94 3)).toInt) ∧ a.toInt ≠ b.toInt ∧ (0 ≤ l.toInt ∧ l.toInt ≤ 999)) ∧ w = some (.int (tA h (98 + a.toNatClampNeg) b.toNatClampNeg)) ∧ ∀ i j, tA h2 (98 + i) j = if i = b.toNatClampNeg ∧ j = a.toNatClampNeg then l else if i = a.toNatClampNeg ∧ j = b.toNatClampNeg then l else tA h (98 + i) j) ∨ (¬ ((0 ≤ a.toInt ∧ a.toInt < (tvI (tF h 94 3)).toInt) ∧ (0 ≤ b.toInt ∧ b.toInt < (tvI (tF h 94 3)).toInt) ∧ a.toInt ≠ b.toInt ∧ (0 ≤ l.toInt ∧ l.toInt ≤ 999)) ∧ w = some (.int (-1)) ∧ h2 = h)
noncomputable def ph_ovm (a b l : Int32) (h : zH) (w : Option Value) (h2 : zH) : Prop := (((0 ≤ a.toInt ∧ a.toInt < (tvI (tF h 111 90)).toInt) ∧ (0 ≤ b.toInt ∧ b.toInt < (tvI (tF h 111 90)).toInt) ∧ a.toInt ≠ b.toInt ∧ (0 ≤ l.toInt ∧ l.toInt ≤ 999)) ∧ w = some (.int (tA h 181 (9 * a + b).toNatClampNeg)) ∧ tA h2 181 = fun j => if j = (9 * b + a).toNatClampNeg then l else if j = (9 * a + b).toNatClampNeg then l else tA h 181 j) ∨ (¬ ((0 ≤ a.toInt ∧ a.toInt < (tvI (tF h 111 90)).toInt) ∧ (0 ≤ b.toInt ∧ b.toInt < (tvI (tF h 111 90)).toInt) ∧ a.toInt ≠ b.toInt ∧ (0 ≤ l.toInt ∧ l.toInt ≤ 999)) ∧ w = some (.int (-1)) ∧ h2 = h)
theorem tA_r2 {h : zH} {a b : Nat} {l : Int32} {k1 k2 : Nat} {z1 z2 : Int32} (f1 : tIn h (98 + a) k1 z1) (f2 : tIn (tSA h (98 + a) b l) (98 + b) k2 z2) : ∀ i j, tA (tSA (tSA h (98 + a) b l) (98 + b) a l) (98 + i) j = if i = b ∧ j = a then l else if i = a ∧ j = b then l else tA h (98 + i) j := by
  intro i j
  rw [tA_tSA f2.cell, tA_tSA f1.cell]
  dsimp only
  by_cases e1 : i = b ∧ j = a
  · rw [if_pos ⟨by omega, e1.2⟩, if_pos e1]
  · rw [if_neg (by omega), if_neg e1]
    by_cases e2 : i = a ∧ j = b
    · rw [if_pos ⟨by omega, e2.2⟩, if_pos e2]
    · rw [if_neg (by omega), if_neg e2]
theorem tA_s2 {h : zH} {p x y : Nat} {l : Int32} {k1 k2 : Nat} {z1 z2 : Int32} (f1 : tIn h p k1 z1) (f2 : tIn (tSA h p x l) p k2 z2) : tA (tSA (tSA h p x l) p y l) p = fun j => if j = y then l else if j = x then l else tA h p j := by
  rw [tA_tSA f2.cell, tA_tSA f1.cell]
  funext j
  dsimp only
  by_cases e1 : j = y
  · rw [if_pos ⟨rfl, e1⟩, if_pos e1]
  · rw [if_neg (fun z => e1 z.2), if_neg e1]
    by_cases e2 : j = x
    · rw [if_pos ⟨rfl, e2⟩, if_pos e2]
    · rw [if_neg (fun z => e2 z.2), if_neg e2]
theorem f_setOverlap {G : zG} (hG : G.1 = zProg) {h : zH} {a b l : Int32} (hs : tSh h) (hr : tRw h) : tC zTt G 97 [.ref 94, .int a, .int b, .int l] h (fun w h2 => w = some (.int (tA h (98 + a.toNatClampNeg) b.toNatClampNeg)) ∧ ∀ i j, tA h2 (98 + i) j = if i = b.toNatClampNeg ∧ j = a.toNatClampNeg then l else if i = a.toNatClampNeg ∧ j = b.toNatClampNeg then l else tA h (98 + i) j) := by
  refine tC_in (by rw [hG]; rfl) (fun dp => ?_)
  refine tw_aload rfl rfl ?_
  refine tw_getS rfl (hs_94_2 hs) ?_
  refine tw_iload rfl rfl ?_
  refine tw_aaldS rfl (fun z => tRw_at hr (p := 97) (q := 98) (by decide) z) ?_
  refine tw_iload rfl rfl ?_
  refine tw_iald rfl (fun f21 => ?_)
  refine tw_istore rfl ?_
  refine tw_aload rfl rfl ?_
  refine tw_getS rfl (hs_94_2 hs) ?_
  refine tw_iload rfl rfl ?_
  refine tw_aaldS rfl (fun z => tRw_at hr (p := 97) (q := 98) (by decide) z) ?_
  refine tw_iload rfl rfl ?_
  refine tw_iload rfl rfl ?_
  refine tw_iast rfl (fun f23 => ?_)
  refine tw_aload rfl rfl ?_
  refine tw_getS rfl (hs_94_2 (tSh_SA hs)) ?_
  refine tw_iload rfl rfl ?_
  refine tw_aaldS rfl (fun z => tRw_at (tRw_A hr) (p := 97) (q := 98) (by decide) z) ?_
  refine tw_iload rfl rfl ?_
  refine tw_iload rfl rfl ?_
  refine tw_iast rfl (fun f25 => ?_)
  refine tw_iload rfl rfl ?_
  exact tw_iret rfl ⟨rfl, tA_r2 f23 f25⟩
theorem f_overlap {G : zG} (hG : G.1 = zProg) {h : zH} {a b l : Int32} (hs : tSh h) (hr : tRw h) : tC zTt G 154 [.ref 0, .int a, .int b, .int l] h (ph_ovc a b l h) := by
  refine tC_in (by rw [hG]; rfl) (fun dp => ?_)
  refine tw_aload rfl rfl ?_
  refine tw_getS rfl (hs_0_9 hs) ?_
  refine tw_iload rfl rfl ?_
  refine tw_virt1 rfl (f_hasSaver hG hs) (fun w9 h9 p26 => ?_)
  obtain ⟨⟨p26, rfl⟩ | ⟨p26, rfl⟩, rfl⟩ := p26
  · try dsimp only [tvI_i, tvJ_j, tvR_r] at p26
    refine tw_if_eq rfl (fun z => absurd z (by decide)) (fun _ => ?_)
    refine tw_aload rfl rfl ?_
    refine tw_getS rfl (hs_0_9 hs) ?_
    refine tw_iload rfl rfl ?_
    refine tw_virt1 rfl (f_hasSaver hG hs) (fun w9 h9 p27 => ?_)
    obtain ⟨⟨p27, rfl⟩ | ⟨p27, rfl⟩, rfl⟩ := p27
    · try dsimp only [tvI_i, tvJ_j, tvR_r] at p27
      refine tw_if_eq rfl (fun z => absurd z (by decide)) (fun _ => ?_)
      refine tw_iload rfl rfl ?_
      refine tw_iload rfl rfl ?_
      refine tw_ic_eq rfl (fun q28 => ?_) (fun q28 => ?_)
      · try dsimp only [tvI_i, tvJ_j, tvR_r] at q28
        have q28i := zeqi rfl q28
        refine tw_push rfl ?_
        refine tw_istore rfl ?_
        refine tw_iload rfl rfl ?_
        refine tw_if_eq rfl (fun _ => ?_) (fun z => absurd z (by decide))
        refine tw_push rfl ?_
        exact tw_iret rfl (Or.inr ⟨by omega, rfl, rfl⟩)
      · try dsimp only [tvI_i, tvJ_j, tvR_r] at q28
        have q28i := zneq rfl q28
        refine tw_iload rfl rfl ?_
        refine tw_push rfl ?_
        refine tw_push rfl ?_
        refine tw_stat3 rfl (f_isWithin hG (LO := 0) (HI := 999) (by decide) (by decide)) (fun w9 h9 p29 => ?_)
        obtain ⟨⟨p29, rfl⟩ | ⟨p29, rfl⟩, rfl⟩ := p29
        · try dsimp only [tvI_i, tvJ_j, tvR_r] at p29
          refine tw_if_eq rfl (fun z => absurd z (by decide)) (fun _ => ?_)
          refine tw_push rfl ?_
          refine tw_goto rfl ?_
          refine tw_istore rfl ?_
          refine tw_iload rfl rfl ?_
          refine tw_if_eq rfl (fun z => absurd z (by decide)) (fun _ => ?_)
          refine tw_aload rfl rfl ?_
          refine tw_getS rfl (hs_0_9 hs) ?_
          refine tw_iload rfl rfl ?_
          refine tw_iload rfl rfl ?_
          refine tw_iload rfl rfl ?_
          refine tw_virt3 rfl (f_setOverlap hG hs hr) (fun wp30 hp30 p30 => ?_)
          obtain ⟨rfl, p30f⟩ := p30
          refine tw_goto rfl ?_
          exact tw_iret rfl (Or.inl ⟨by omega, rfl, p30f⟩)
        · try dsimp only [tvI_i, tvJ_j, tvR_r] at p29
          refine tw_if_eq rfl (fun _ => ?_) (fun z => absurd z (by decide))
          refine tw_push rfl ?_
          refine tw_istore rfl ?_
          refine tw_iload rfl rfl ?_
          refine tw_if_eq rfl (fun _ => ?_) (fun z => absurd z (by decide))
          refine tw_push rfl ?_
          exact tw_iret rfl (Or.inr ⟨by omega, rfl, rfl⟩)
    · try dsimp only [tvI_i, tvJ_j, tvR_r] at p27
      refine tw_if_eq rfl (fun _ => ?_) (fun z => absurd z (by decide))
      refine tw_push rfl ?_
      refine tw_istore rfl ?_
      refine tw_iload rfl rfl ?_
      refine tw_if_eq rfl (fun _ => ?_) (fun z => absurd z (by decide))
      refine tw_push rfl ?_
      exact tw_iret rfl (Or.inr ⟨by omega, rfl, rfl⟩)
  · try dsimp only [tvI_i, tvJ_j, tvR_r] at p26
    refine tw_if_eq rfl (fun _ => ?_) (fun z => absurd z (by decide))
    refine tw_push rfl ?_
    refine tw_istore rfl ?_
    refine tw_iload rfl rfl ?_
    refine tw_if_eq rfl (fun _ => ?_) (fun z => absurd z (by decide))
    refine tw_push rfl ?_
    exact tw_iret rfl (Or.inr ⟨by omega, rfl, rfl⟩)
theorem g_overlap {G : zG} (hG : G.1 = zProg) {h : zH} {a b l : Int32} (hs : tSh h) (hk90 : 0 ≤ (tvI (tF h 111 90)).toInt) : tC zTt G 276 [.ref 111, .int a, .int b, .int l] h (ph_ovm a b l h) := by
  refine tC_in (by rw [hG]; rfl) (fun dp => ?_)
  have hd90 := zsub1 hk90
  refine tw_iload rfl rfl ?_
  refine tw_i2l rfl ?_
  refine tw_push rfl ?_
  refine tw_aload rfl rfl ?_
  refine tw_getS rfl (hi_111_90 hs) ?_
  refine tw_push rfl ?_
  refine tw_isub rfl ?_
  refine tw_i2l rfl ?_
  refine tw_stat3 rfl (f_in hG  (LO := 0)  (Int32.toInt_toInt64 _) (by decide) (Int32.toInt_toInt64 _)) (fun w9 h9 p31 => ?_)
  obtain ⟨⟨p31, rfl⟩ | ⟨p31, rfl⟩, rfl⟩ := p31
  · try dsimp only [tvI_i, tvJ_j, tvR_r] at p31
    refine tw_if_eq rfl (fun z => absurd z (by decide)) (fun _ => ?_)
    refine tw_iload rfl rfl ?_
    refine tw_i2l rfl ?_
    refine tw_push rfl ?_
    refine tw_aload rfl rfl ?_
    refine tw_getS rfl (hi_111_90 hs) ?_
    refine tw_push rfl ?_
    refine tw_isub rfl ?_
    refine tw_i2l rfl ?_
    refine tw_stat3 rfl (f_in hG  (LO := 0)  (Int32.toInt_toInt64 _) (by decide) (Int32.toInt_toInt64 _)) (fun w9 h9 p32 => ?_)
    obtain ⟨⟨p32, rfl⟩ | ⟨p32, rfl⟩, rfl⟩ := p32
    · try dsimp only [tvI_i, tvJ_j, tvR_r] at p32
      refine tw_if_eq rfl (fun z => absurd z (by decide)) (fun _ => ?_)
      refine tw_iload rfl rfl ?_
      refine tw_iload rfl rfl ?_
      refine tw_ic_eq rfl (fun q33 => ?_) (fun q33 => ?_)
      · try dsimp only [tvI_i, tvJ_j, tvR_r] at q33
        have q33i := zeqi rfl q33
        refine tw_push rfl ?_
        exact tw_iret rfl (Or.inr ⟨by omega, rfl, rfl⟩)
      · try dsimp only [tvI_i, tvJ_j, tvR_r] at q33
        have q33i := zneq rfl q33
        refine tw_iload rfl rfl ?_
        refine tw_i2l rfl ?_
        refine tw_push rfl ?_
        refine tw_push rfl ?_
        refine tw_stat3 rfl (f_in hG  (LO := 0) (HI := 999) (Int32.toInt_toInt64 _) (by decide) (by decide)) (fun w9 h9 p34 => ?_)
        obtain ⟨⟨p34, rfl⟩ | ⟨p34, rfl⟩, rfl⟩ := p34
        · try dsimp only [tvI_i, tvJ_j, tvR_r] at p34
          refine tw_if_ne rfl (fun _ => ?_) (fun z => absurd z (by decide))
          refine tw_aload rfl rfl ?_
          refine tw_getS rfl (hs_111_95 hs) ?_
          refine tw_push rfl ?_
          refine tw_iload rfl rfl ?_
          refine tw_imul rfl ?_
          refine tw_iload rfl rfl ?_
          refine tw_iadd rfl ?_
          refine tw_iald rfl (fun f35 => ?_)
          refine tw_istore rfl ?_
          refine tw_aload rfl rfl ?_
          refine tw_getS rfl (hs_111_95 hs) ?_
          refine tw_push rfl ?_
          refine tw_iload rfl rfl ?_
          refine tw_imul rfl ?_
          refine tw_iload rfl rfl ?_
          refine tw_iadd rfl ?_
          refine tw_iload rfl rfl ?_
          refine tw_iast rfl (fun f36 => ?_)
          refine tw_aload rfl rfl ?_
          refine tw_getS rfl (hs_111_95 (tSh_SA hs)) ?_
          refine tw_push rfl ?_
          refine tw_iload rfl rfl ?_
          refine tw_imul rfl ?_
          refine tw_iload rfl rfl ?_
          refine tw_iadd rfl ?_
          refine tw_iload rfl rfl ?_
          refine tw_iast rfl (fun f37 => ?_)
          refine tw_iload rfl rfl ?_
          exact tw_iret rfl (Or.inl ⟨by omega, rfl, tA_s2 f36 f37⟩)
        · try dsimp only [tvI_i, tvJ_j, tvR_r] at p34
          refine tw_if_ne rfl (fun z => absurd z (by decide)) (fun _ => ?_)
          refine tw_push rfl ?_
          exact tw_iret rfl (Or.inr ⟨by omega, rfl, rfl⟩)
    · try dsimp only [tvI_i, tvJ_j, tvR_r] at p32
      refine tw_if_eq rfl (fun _ => ?_) (fun z => absurd z (by decide))
      refine tw_push rfl ?_
      exact tw_iret rfl (Or.inr ⟨by omega, rfl, rfl⟩)
  · try dsimp only [tvI_i, tvJ_j, tvR_r] at p31
    refine tw_if_eq rfl (fun _ => ?_) (fun z => absurd z (by decide))
    refine tw_push rfl ?_
    exact tw_iret rfl (Or.inr ⟨by omega, rfl, rfl⟩)
theorem a_overlap {a b l : Int32} {h h2 h3 : zH} {w w2 : Option Value} (hM : R_savers h) (hn : (tvI (tF h 94 3)).toInt ≤ 9) (hR : R_overlaps h) (e1 : tF h2 111 90 = tF h 111 90) (e2 : tA h2 181 = tA h 181) (e3 : ∀ i, i < 9 → tA h3 (98 + i) = tA h2 (98 + i)) (k1 : ph_ovc a b l h w h2) (k2 : ph_ovm a b l h2 w2 h3) : w2 = w ∧ R_overlaps h3 := by
  unfold R_savers at hM
  unfold ph_ovm at k2
  rw [e1, e2, ← hM] at k2
  rcases k1 with ⟨c1, rfl, f1⟩ | ⟨c1, rfl, rfl⟩ <;> rcases k2 with ⟨c2, rfl, f2⟩ | ⟨c2, rfl, rfl⟩
  · have ha : a.toNatClampNeg < 9 := by rw [zclE]; omega
    have hb : b.toNatClampNeg < 9 := by rw [zclE]; omega
    have hab := (zmulc (c := 9) (K := 9) (k := a) (p := b) rfl (by decide) (by omega) (by omega)).1
    have hba := (zmulc (c := 9) (K := 9) (k := b) (p := a) rfl (by decide) (by omega) (by omega)).1
    refine ⟨by rw [hab, hR _ ha _ hb], fun i hi j hj => ?_⟩
    rw [e3 i hi, f1, f2, hab, hba]
    dsimp only
    by_cases z1 : i = b.toNatClampNeg ∧ j = a.toNatClampNeg
    · have n1 : 9 * i + j = 9 * b.toNatClampNeg + a.toNatClampNeg := by omega
      rw [if_pos z1, if_pos n1]
    · have n1 : ¬ (9 * i + j = 9 * b.toNatClampNeg + a.toNatClampNeg) := by omega
      rw [if_neg z1, if_neg n1]
      by_cases z2 : i = a.toNatClampNeg ∧ j = b.toNatClampNeg
      · have n2 : 9 * i + j = 9 * a.toNatClampNeg + b.toNatClampNeg := by omega
        rw [if_pos z2, if_pos n2]
      · have n2 : ¬ (9 * i + j = 9 * a.toNatClampNeg + b.toNatClampNeg) := by omega
        rw [if_neg z2, if_neg n2]
        exact hR i hi j hj
  · exact absurd c1 c2
  · exact absurd c2 c1
  · exact ⟨rfl, hR⟩
noncomputable def R_bset (h : zH) : Prop := tF h 94 4 = tF h 111 91 ∧ ((tF h 94 4 = .int (-1) ∧ tF h 94 5 = .int (-1)) ∨ (tF h 94 4 ≠ .int (-1) ∧ tF h 94 5 = tF h 111 92))
theorem zof {x : Int32} {n : Nat} (h : x.toInt = n) : x = Int32.ofNat n := by
  have hx := Int32.toInt_lt x
  exact Int32.toInt_inj.mp (h.trans (yofN (by omega)).symm)
theorem zof_cl {x : Int32} {n : Nat} (h : x.toInt = n) : x.toNatClampNeg = n := by rw [zclE, h]; rfl
theorem zincN {x : Int32} {n : Nat} (h : x.toInt = n) (hn : n < 2147483647) : (x + 1).toInt = ((n + 1 : Nat) : Int) := by
  rw [Int32.toInt_add, h]
  exact Int.bmod_eq_of_le (by show (-2147483648 : Int) ≤ (n : Int) + 1; omega) (by show (n : Int) + 1 < (2147483648 : Int); omega)
theorem zen {x y : Int32} {n : Nat} (hx : x.toInt = n) (hn : (n : Int) ≤ y.toInt) (hq : y.toInt ≤ x.toInt) : n = y.toNatClampNeg := by
  rw [zclE]
  omega
theorem zincL {x y : Int32} {n : Nat} (h : x.toInt = n) (hy : x.toInt < y.toInt) : (x + 1).toInt = ((n + 1 : Nat) : Int) := zincN h (by have := Int32.toInt_lt y; omega)
theorem zand1 (y : Int32) : y &&& 1 = 0 ∨ y &&& 1 = 1 := by
  rw [← Int32.toBitVec_inj, ← Int32.toBitVec_inj]
  show y.toBitVec &&& 1#32 = 0#32 ∨ y.toBitVec &&& 1#32 = 1#32
  rw [BitVec.and_one_eq_setWidth_ofBool_getLsbD]
  cases y.toBitVec.getLsbD 0
  · exact Or.inl (by decide)
  · exact Or.inr (by decide)
noncomputable def sCs (co : Nat → Int32) (s : Int32) : Nat → Int32
  | 0 => 0
  | n + 1 => if (s >>> (Int32.ofNat n &&& 31)) &&& 1 = 1 then sCs co s n + co n else sCs co s n
noncomputable def sOv (ov : Nat → Int32) (s d : Int32) : Nat → Int32
  | 0 => d
  | n + 1 => if (s >>> (Int32.ofNat n &&& 31)) &&& 1 = 1 then sOv ov s d n - ov n else sOv ov s d n
noncomputable def sLv (li : Nat → Int32) (ov : Nat → Nat → Int32) (s : Int32) : Nat → Int32
  | 0 => 0
  | n + 1 => if (s >>> (Int32.ofNat n &&& 31)) &&& 1 = 1 then sOv (ov n) s (sLv li ov s n + li n) n else sLv li ov s n
noncomputable def sBb (co li : Int32 → Int32) (m : Int32) : Nat → Int32 × Int32 × Int32
  | 0 => (0, 0, 0)
  | n + 1 => if (co (Int32.ofNat (n + 1))).toInt ≤ m.toInt ∧ ((sBb co li m n).1.toInt < (li (Int32.ofNat (n + 1))).toInt ∨ (li (Int32.ofNat (n + 1)) = (sBb co li m n).1 ∧ (co (Int32.ofNat (n + 1))).toInt < (sBb co li m n).2.2.toInt)) then (li (Int32.ofNat (n + 1)), Int32.ofNat (n + 1), co (Int32.ofNat (n + 1))) else sBb co li m n
section BB
variable {co f : Nat → Int32} {s x c d : Int32} {k n : Nat}
theorem sCs_y (hx : x.toInt = k) (hc : c = sCs co s k) (hb : (s >>> (x &&& 31)) &&& 1 = 1) (ho : f = co) : c + f x.toNatClampNeg = sCs co s (k + 1) := by
  rw [zof hx] at hb
  rw [zof_cl hx, ho, hc]
  show _ = if _ then _ else _
  rw [if_pos hb]
theorem sCs_n (hx : x.toInt = k) (hc : c = sCs co s k) (hb : ¬ (s >>> (x &&& 31)) &&& 1 = 1) : c = sCs co s (k + 1) := by
  rw [zof hx] at hb
  rw [hc]
  show _ = if _ then _ else _
  rw [if_neg hb]
theorem sCs_m (hx : x.toInt = k) (hc : c = sCs co s k) : c + ((s >>> (x &&& 31)) &&& 1) * co x.toNatClampNeg = sCs co s (k + 1) := by
  rcases zand1 (s >>> (x &&& 31)) with e | e
  · rw [e, Int32.zero_mul, Int32.add_zero]
    exact sCs_n hx hc (by rw [e]; decide)
  · rw [e, Int32.one_mul]
    exact sCs_y hx hc e rfl
theorem sOv_y {ov : Nat → Int32} {v : Int32} (hx : x.toInt = k) (hc : c = sOv ov s d k) (hb : (s >>> (x &&& 31)) &&& 1 = 1) (ho : v = ov k) : c - v = sOv ov s d (k + 1) := by
  rw [zof hx] at hb
  rw [hc, ho]
  show _ = if _ then _ else _
  rw [if_pos hb]
theorem sOv_n {ov : Nat → Int32} (hx : x.toInt = k) (hc : c = sOv ov s d k) (hb : ¬ (s >>> (x &&& 31)) &&& 1 = 1) : c - 0 = sOv ov s d (k + 1) := by
  rw [zof hx] at hb
  rw [hc, Int32.sub_zero]
  show _ = if _ then _ else _
  rw [if_neg hb]
theorem sOv_m {ov : Nat → Int32} {v : Int32} (hx : x.toInt = k) (hc : c = sOv ov s d k) (ho : v = ov k) : c - ((s >>> (x &&& 31)) &&& 1) * v = sOv ov s d (k + 1) := by
  rcases zand1 (s >>> (x &&& 31)) with e | e
  · rw [e, Int32.zero_mul]
    exact sOv_n hx hc (by rw [e]; decide)
  · rw [e, Int32.one_mul]
    exact sOv_y hx hc e ho
theorem sLv_n {li : Nat → Int32} {ov : Nat → Nat → Int32} (hx : x.toInt = k) (hc : c = sLv li ov s k) (hb : ¬ (s >>> (x &&& 31)) &&& 1 = 1) : c = sLv li ov s (k + 1) := by
  rw [zof hx] at hb
  rw [hc]
  show _ = if _ then _ else _
  rw [if_neg hb]
theorem sLv_y {li : Nat → Int32} {ov : Nat → Nat → Int32} (hx : x.toInt = k) (hb : (s >>> (x &&& 31)) &&& 1 = 1) (hc : c = sOv (ov k) s (sLv li ov s k + li k) k) : c = sLv li ov s (k + 1) := by
  rw [zof hx] at hb
  rw [hc]
  show _ = if _ then _ else _
  rw [if_pos hb]
end BB
section BC
variable {co li : Int32 → Int32} {m x l s c : Int32} {k : Nat}
theorem sBb_y (hx : x.toInt = ((k + 1 : Nat) : Int)) (ht : (l, s, c) = sBb co li m k) (h1 : (co x).toInt ≤ m.toInt) (h2 : l.toInt < (li x).toInt ∨ (li x = l ∧ (co x).toInt < c.toInt)) : (li x, x, co x) = sBb co li m (k + 1) := by
  rw [zof hx] at h1 h2 ⊢
  show _ = if _ then _ else _
  rw [← ht, if_pos ⟨h1, h2⟩]
theorem sBb_n (hx : x.toInt = ((k + 1 : Nat) : Int)) (ht : (l, s, c) = sBb co li m k) (h : ¬ ((co x).toInt ≤ m.toInt ∧ (l.toInt < (li x).toInt ∨ (li x = l ∧ (co x).toInt < c.toInt)))) : (l, s, c) = sBb co li m (k + 1) := by
  rw [zof hx] at h
  show _ = if _ then _ else _
  rw [← ht, if_neg h]
theorem sBb_p (hk : k < 2147483647) : 0 ≤ ((sBb co li m k).2.1).toInt := by
  induction k with
  | zero => exact (by decide : (0 : Int) ≤ (0 : Int32).toInt)
  | succ k ih =>
    show 0 ≤ ((if _ then _ else _ : Int32 × Int32 × Int32).2.1).toInt
    by_cases e : (co (Int32.ofNat (k + 1))).toInt ≤ m.toInt ∧ ((sBb co li m k).1.toInt < (li (Int32.ofNat (k + 1))).toInt ∨ (li (Int32.ofNat (k + 1)) = (sBb co li m k).1 ∧ (co (Int32.ofNat (k + 1))).toInt < (sBb co li m k).2.2.toInt))
    · rw [if_pos e]
      show 0 ≤ (Int32.ofNat (k + 1)).toInt
      rw [yofN (by omega)]
      omega
    · rw [if_neg e]
      exact ih (by omega)
end BC
theorem sOv_congr {ov ov2 : Nat → Int32} {s d : Int32} : ∀ {n : Nat}, (∀ i, i < n → ov i = ov2 i) → sOv ov s d n = sOv ov2 s d n
  | 0, _ => rfl
  | n + 1, hh => by
    show (if _ then _ else _) = if _ then _ else _
    rw [sOv_congr (n := n) (fun i hi => hh i (by omega)), hh n (by omega)]
theorem sLv_congr {li : Nat → Int32} {ov ov2 : Nat → Nat → Int32} {s : Int32} : ∀ {n : Nat}, (∀ a, a < n → ∀ b, b < n → ov a b = ov2 a b) → sLv li ov s n = sLv li ov2 s n
  | 0, _ => rfl
  | n + 1, hh => by
    show (if _ then _ else _) = if _ then _ else _
    rw [sLv_congr (n := n) (fun a ha b hb => hh a (by omega) b (by omega)), sOv_congr (ov := ov n) (ov2 := ov2 n) (fun i hi => hh n (by omega) i (by omega))]
theorem tw_look2 {tt : zT} {G : zG} {cd : zK} {bc bs : Nat} {rt : Option FieldType} {dp : Nat} {Q : zQ} {Z : zX} {f : Bool} {pc : Nat} {L : zL} {s : List Value} {h : zH} {c n : Nat} {nx a b d : Nat} {v w : Value} {df k1 o1 k2 o2 : Int} (hc : cd[pc]? = some (some (.lookupswitch df #[(k1, o1), (k2, o2)], nx, a, b, d, v))) (h1 : (tvI w).toInt = k1 → tG tt G cd bc bs rt (zW tt G dp) Q Z true o1.toNat L s h c n) (h2 : (tvI w).toInt = k2 → tG tt G cd bc bs rt (zW tt G dp) Q Z true o2.toNat L s h c n) (h3 : (tvI w).toInt ≠ k1 → (tvI w).toInt ≠ k2 → tG tt G cd bc bs rt (zW tt G dp) Q Z true df.toNat L s h c n) : tG tt G cd bc bs rt (zW tt G dp) Q Z f pc L (w :: s) h c n := tw_lookup hc (by
  show tG tt G cd bc bs rt (zW tt G dp) Q Z true (Op.lookupswitch.offset [(k1, o1), (k2, o2)] df (tvI w).toInt).toNat L s h c n
  rw [Op.lookupswitch.offset_cons]
  by_cases e1 : k1 = (tvI w).toInt
  · rw [if_pos e1]; exact h1 e1.symm
  · rw [if_neg e1, Op.lookupswitch.offset_cons]
    by_cases e2 : k2 = (tvI w).toInt
    · rw [if_pos e2]; exact h2 e2.symm
    · rw [if_neg e2]; exact h3 (fun z => e1 z.symm) (fun z => e2 z.symm))
/-- only two fields of an object have changed -/
noncomputable def bFr (p0 b1 b2 : Nat) (h h1 : zH) : Prop := (∀ p b, ¬ (p = p0 ∧ (b = b1 ∨ b = b2)) → tF h1 p b = tF h p b) ∧ tA h1 = tA h ∧ tO h1 = tO h ∧ tN h1 = tN h
theorem bFr_1 {p0 b1 b2 : Nat} {h h1 : zH} {w : Value} (k : bFr p0 b1 b2 h h1) : bFr p0 b1 b2 h (tSF h1 p0 b1 w) := ⟨fun p b n => (tF_nz (fun z => n ⟨z.1, Or.inl z.2⟩)).trans (k.1 p b n), (tA_tSF _ _ _ _).trans k.2.1, (tO_tSF _ _ _ _).trans k.2.2.1, (tN_tSF _ _ _ _).trans k.2.2.2⟩
theorem bFr_2 {p0 b1 b2 : Nat} {h h1 : zH} {w : Value} (k : bFr p0 b1 b2 h h1) : bFr p0 b1 b2 h (tSF h1 p0 b2 w) := ⟨fun p b n => (tF_nz (fun z => n ⟨z.1, Or.inr z.2⟩)).trans (k.1 p b n), (tA_tSF _ _ _ _).trans k.2.1, (tO_tSF _ _ _ _).trans k.2.2.1, (tN_tSF _ _ _ _).trans k.2.2.2⟩
theorem f_coinsOf {G : zG} (hG : G.1 = zProg) {h : zH} {s : Int32} (hs : tSh h) (hn : 0 ≤ (tvI (tF h 94 3)).toInt) : tC zTt G 99 [.ref 94, .int s] h (fun w h2 => w = some (.int (sCs (tA h 95) s (tvI (tF h 94 3)).toNatClampNeg)) ∧ h2 = h) := by
  refine tC_in (by rw [hG]; rfl) (fun dp => ?_)
  refine tw_push rfl ?_
  refine tw_istore rfl ?_
  refine tw_push rfl ?_
  refine tw_istore rfl ?_
  refine tG_loop (zW_mono zTt G dp) (zW_conj zTt G dp) (V := fun pc L st h9 _ _ => pc = 4 ∧ st = [] ∧ h = h9 ∧ ∃ (k : Nat) (x a : Int32), x.toInt = k ∧ (k : Int) ≤ (tvI (tF h 94 3)).toInt ∧ a = sCs (tA h 95) s k ∧ L = [some (.ref 94), some (.int s), some (.int a), some (.int x)]) ?_ (⟨rfl, rfl, rfl, 0, 0, 0, rfl, hn, rfl, rfl⟩)
  rintro _ _ _ _ _ _ ⟨rfl, rfl, rfl, k, x, a, hx, hk, ha, rfl⟩
  refine tw_iload rfl rfl ?_
  refine tw_aload rfl rfl ?_
  refine tw_getS rfl (hi_94_3 hs) ?_
  refine tw_ic_ge rfl (fun q38 => ?_) (fun q38 => ?_)
  · try dsimp only [tvI_i, tvJ_j, tvR_r] at q38
    refine tw_iload rfl rfl ?_
    exact tw_iret rfl ⟨(by rw [show k = (tvI (tF h 94 3)).toNatClampNeg from by rw [zclE]; omega] at ha; exact congrArg (fun z => some (Value.int z)) ha), rfl⟩
  · try dsimp only [tvI_i, tvJ_j, tvR_r] at q38
    refine tw_iload rfl rfl ?_
    refine tw_iload rfl rfl ?_
    refine tw_iload rfl rfl ?_
    refine tw_ishr rfl ?_
    refine tw_push rfl ?_
    refine tw_iand rfl ?_
    refine tw_aload rfl rfl ?_
    refine tw_getS rfl (hs_94_0 hs) ?_
    refine tw_iload rfl rfl ?_
    refine tw_iald rfl (fun f39 => ?_)
    refine tw_imul rfl ?_
    refine tw_iadd rfl ?_
    refine tw_istore rfl ?_
    refine tw_iinc rfl rfl ?_
    refine tw_goto rfl ?_
    exact tG_cut (zW_mono zTt G dp) (Or.inr ⟨rfl, rfl, rfl, k + 1, x + 1, _, zincL hx q38, by omega, sCs_m hx ha, rfl⟩)
theorem f_livesOf {G : zG} (hG : G.1 = zProg) {h : zH} {s : Int32} (hs : tSh h) (hr : tRw h) (hn : 0 ≤ (tvI (tF h 94 3)).toInt) : tC zTt G 100 [.ref 94, .int s] h (fun w h2 => w = some (.int (sLv (tA h 96) (fun n i => tA h (98 + n) i) s (tvI (tF h 94 3)).toNatClampNeg)) ∧ h2 = h) := by
  refine tC_in (by rw [hG]; rfl) (fun dp => ?_)
  refine tw_push rfl ?_
  refine tw_istore rfl ?_
  refine tw_push rfl ?_
  refine tw_istore rfl ?_
  refine tG_loop (zW_mono zTt G dp) (zW_conj zTt G dp) (V := fun pc L st h9 _ _ => pc = 4 ∧ st = [] ∧ h = h9 ∧ ∃ (k : Nat) (x a : Int32) (l4 : Option Value), x.toInt = k ∧ (k : Int) ≤ (tvI (tF h 94 3)).toInt ∧ a = sLv (tA h 96) (fun n i => tA h (98 + n) i) s k ∧ L = [some (.ref 94), some (.int s), some (.int a), some (.int x), l4]) ?_ (⟨rfl, rfl, rfl, 0, 0, 0, _, rfl, hn, rfl, rfl⟩)
  rintro _ _ _ _ _ _ ⟨rfl, rfl, rfl, k, x, a, l4, hx, hk, ha, rfl⟩
  refine tw_iload rfl rfl ?_
  refine tw_aload rfl rfl ?_
  refine tw_getS rfl (hi_94_3 hs) ?_
  refine tw_ic_ge rfl (fun q40 => ?_) (fun q40 => ?_)
  · try dsimp only [tvI_i, tvJ_j, tvR_r] at q40
    refine tw_iload rfl rfl ?_
    exact tw_iret rfl ⟨(by rw [show k = (tvI (tF h 94 3)).toNatClampNeg from by rw [zclE]; omega] at ha; exact congrArg (fun z => some (Value.int z)) ha), rfl⟩
  · try dsimp only [tvI_i, tvJ_j, tvR_r] at q40
    refine tw_iload rfl rfl ?_
    refine tw_iload rfl rfl ?_
    refine tw_ishr rfl ?_
    refine tw_push rfl ?_
    refine tw_iand rfl ?_
    refine tw_push rfl ?_
    refine tw_ic_ne rfl (fun q41 => ?_) (fun q41 => ?_)
    · try dsimp only [tvI_i, tvJ_j, tvR_r] at q41
      have q41i := zneq (Y := 1) (by decide) q41
      refine tw_iinc rfl rfl ?_
      refine tw_goto rfl ?_
      exact tG_cut (zW_mono zTt G dp) (Or.inr ⟨rfl, rfl, rfl, k + 1, x + 1, _, _, zincL hx q40, by omega, sLv_n hx ha q41, rfl⟩)
    · try dsimp only [tvI_i, tvJ_j, tvR_r] at q41
      have q41i := zeqi (Y := 1) (by decide) q41
      refine tw_iload rfl rfl ?_
      refine tw_aload rfl rfl ?_
      refine tw_getS rfl (hs_94_1 hs) ?_
      refine tw_iload rfl rfl ?_
      refine tw_iald rfl (fun f42 => ?_)
      refine tw_iadd rfl ?_
      refine tw_istore rfl ?_
      refine tw_push rfl ?_
      refine tw_istore rfl ?_
      refine tG_loop (zW_mono zTt G dp) (zW_conj zTt G dp) (V := fun pc L st h9 _ _ => pc = 33 ∧ st = [] ∧ h = h9 ∧ ∃ (i : Nat) (y b : Int32), y.toInt = i ∧ i ≤ k ∧ b = sOv (fun i => tA h (98 + k) i) s (sLv (tA h 96) (fun n i => tA h (98 + n) i) s k + tA h 96 k) i ∧ L = [some (.ref 94), some (.int s), some (.int b), some (.int x), some (.int y)]) ?_ (⟨rfl, rfl, rfl, 0, 0, _, rfl, by omega, (by show a + tA h 96 x.toNatClampNeg = _; rw [ha, zof_cl hx]; rfl), rfl⟩)
      rintro _ _ _ _ _ _ ⟨rfl, rfl, rfl, i, y, b, hy, hi, hb, rfl⟩
      refine tw_iload rfl rfl ?_
      refine tw_iload rfl rfl ?_
      refine tw_ic_ge rfl (fun q43 => ?_) (fun q43 => ?_)
      · try dsimp only [tvI_i, tvJ_j, tvR_r] at q43
        refine tw_iinc rfl rfl ?_
        refine tw_goto rfl ?_
        have hb9 := hb
        rw [show i = k from by omega] at hb9
        exact tG_cut (zW_mono zTt G dp) (Or.inl (Or.inr ⟨rfl, rfl, rfl, k + 1, x + 1, _, _, zincL hx q40, by omega, sLv_y hx q41 hb9, rfl⟩))
      · try dsimp only [tvI_i, tvJ_j, tvR_r] at q43
        refine tw_iload rfl rfl ?_
        refine tw_iload rfl rfl ?_
        refine tw_iload rfl rfl ?_
        refine tw_ishr rfl ?_
        refine tw_push rfl ?_
        refine tw_iand rfl ?_
        refine tw_aload rfl rfl ?_
        refine tw_getS rfl (hs_94_2 hs) ?_
        refine tw_iload rfl rfl ?_
        refine tw_aaldS rfl (fun z => tRw_at hr (p := 97) (q := 98) (by decide) z) ?_
        refine tw_iload rfl rfl ?_
        refine tw_iald rfl (fun f45 => ?_)
        refine tw_imul rfl ?_
        refine tw_isub rfl ?_
        refine tw_istore rfl ?_
        refine tw_iinc rfl rfl ?_
        refine tw_goto rfl ?_
        exact tG_cut (zW_mono zTt G dp) (Or.inr ⟨rfl, rfl, rfl, i + 1, y + 1, _, zincL hy q43, by omega, sOv_m hy hb (by show tA h (98 + x.toNatClampNeg) y.toNatClampNeg = _; rw [zof_cl hy, zof_cl hx]), rfl⟩)
theorem f_findBest {G : zG} (hG : G.1 = zProg) {h : zH} {m : Int32} (hs : tSh h) (hr : tRw h) (hn : 0 ≤ (tvI (tF h 94 3)).toInt ∧ (tvI (tF h 94 3)).toInt ≤ 9) : tC zTt G 98 [.ref 94, .int m] h (fun w h2 => w = some (.int (sBb (fun s => sCs (tA h 95) s (tvI (tF h 94 3)).toNatClampNeg) (fun s => sLv (tA h 96) (fun n i => tA h (98 + n) i) s (tvI (tF h 94 3)).toNatClampNeg) m (((1 : Int32) <<< (tvI (tF h 94 3) &&& 31)).toInt.toNat - 1)).1) ∧ tF h2 94 4 = .int (sBb (fun s => sCs (tA h 95) s (tvI (tF h 94 3)).toNatClampNeg) (fun s => sLv (tA h 96) (fun n i => tA h (98 + n) i) s (tvI (tF h 94 3)).toNatClampNeg) m (((1 : Int32) <<< (tvI (tF h 94 3) &&& 31)).toInt.toNat - 1)).2.1 ∧ tF h2 94 5 = .int (sBb (fun s => sCs (tA h 95) s (tvI (tF h 94 3)).toNatClampNeg) (fun s => sLv (tA h 96) (fun n i => tA h (98 + n) i) s (tvI (tF h 94 3)).toNatClampNeg) m (((1 : Int32) <<< (tvI (tF h 94 3) &&& 31)).toInt.toNat - 1)).2.2 ∧ bFr 94 4 5 h h2) := by
  refine tC_in (by rw [hG]; rfl) (fun dp => ?_)
  refine tw_push rfl ?_
  refine tw_istore rfl ?_
  refine tw_aload rfl rfl ?_
  refine tw_push rfl ?_
  refine tw_put rfl (fun f46 => ?_)
  refine tw_aload rfl rfl ?_
  refine tw_push rfl ?_
  refine tw_put rfl (fun f47 => ?_)
  refine tw_push rfl ?_
  refine tw_istore rfl ?_
  refine tG_loop (zW_mono zTt G dp) (zW_conj zTt G dp) (V := fun pc L st h9 _ _ => pc = 14 ∧ st = [] ∧ ∃ (h1 : zH) (k : Nat) (x l s c : Int32) (l4 l5 : Option Value), h1 = h9 ∧ tSh h1 ∧ tRw h1 ∧ bFr 94 4 5 h h1 ∧ x.toInt = ((k + 1 : Nat) : Int) ∧ (k = 0 ∨ ((k + 1 : Nat) : Int) ≤ ((1 : Int32) <<< (tvI (tF h 94 3) &&& 31)).toInt) ∧ 0 ≤ l.toInt ∧ tF h1 94 4 = .int s ∧ tF h1 94 5 = .int c ∧ (l, s, c) = sBb (fun s => sCs (tA h 95) s (tvI (tF h 94 3)).toNatClampNeg) (fun s => sLv (tA h 96) (fun n i => tA h (98 + n) i) s (tvI (tF h 94 3)).toNatClampNeg) m k ∧ L = [some (.ref 94), some (.int m), some (.int l), some (.int x), l4, l5]) ?_ (⟨rfl, rfl, _, 0, 1, 0, 0, 0, _, _, rfl, (hw_94_5 f47 (hw_94_4 f46 hs)), tRw_F (tRw_F hr), bFr_2 (bFr_1 ⟨fun _ _ _ => rfl, rfl, rfl, rfl⟩), rfl, Or.inl rfl, by decide, tF_ne (by omega) (tF_same f46), tF_same f47, rfl, rfl⟩)
  rintro _ _ _ _ _ _ ⟨rfl, rfl, h1, k, x, l, s, c, l4, l5, rfl, hs1, hr1, hFr, hx, hk, hl, h4, h5, ht, rfl⟩
  refine tw_iload rfl rfl ?_
  refine tw_push rfl ?_
  refine tw_aload rfl rfl ?_
  refine tw_getS rfl ((hFr.1 94 3 (by omega)).trans (hi_94_3 hs)) ?_
  refine tw_ishl rfl ?_
  refine tw_ic_ge rfl (fun q48 => ?_) (fun q48 => ?_)
  · try dsimp only [tvI_i, tvJ_j, tvR_r] at q48
    refine tw_iload rfl rfl ?_
    rw [show k = (((1 : Int32) <<< (tvI (tF h 94 3) &&& 31)).toInt.toNat - 1) from by omega] at ht
    exact tw_iret rfl (by rw [← ht]; exact ⟨rfl, h4, h5, hFr⟩)
  · try dsimp only [tvI_i, tvJ_j, tvR_r] at q48
    refine tw_aload rfl rfl ?_
    refine tw_iload rfl rfl ?_
    refine tw_virt1 rfl (f_coinsOf hG hs1 (by rw [hFr.1 94 3 (by omega)]; exact hn.1)) (fun wp49 hp49 p49 => ?_)
    obtain ⟨rfl, e9⟩ := p49
    obtain rfl := e9.symm
    rw [hFr.2.1, hFr.1 94 3 (by omega)]
    refine tw_istore rfl ?_
    refine tw_iload rfl rfl ?_
    refine tw_iload rfl rfl ?_
    refine tw_ic_gt rfl (fun q50 => ?_) (fun q50 => ?_)
    · try dsimp only [tvI_i, tvJ_j, tvR_r] at q50
      refine tw_push rfl ?_
      refine tw_istore rfl ?_
      refine tw_iload rfl rfl ?_
      refine tw_iload rfl rfl ?_
      refine tw_ic_gt rfl (fun q51 => ?_) (fun q51 => ?_)
      · try dsimp only [tvI_i, tvJ_j, tvR_r] at q51
        refine tw_iload rfl rfl ?_
        refine tw_istore rfl ?_
        refine tw_aload rfl rfl ?_
        refine tw_iload rfl rfl ?_
        refine tw_put rfl (fun f52 => ?_)
        refine tw_aload rfl rfl ?_
        refine tw_iload rfl rfl ?_
        refine tw_put rfl (fun f53 => ?_)
        refine tw_iinc rfl rfl ?_
        refine tw_goto rfl ?_
        have hm1 : (-1 : Int32).toInt = -1 := rfl
        exact absurd hl (by omega)
      · try dsimp only [tvI_i, tvJ_j, tvR_r] at q51
        refine tw_iload rfl rfl ?_
        refine tw_iload rfl rfl ?_
        refine tw_ic_ne rfl (fun q54 => ?_) (fun q54 => ?_)
        · try dsimp only [tvI_i, tvJ_j, tvR_r] at q54
          have q54i := zneq rfl q54
          refine tw_iinc rfl rfl ?_
          refine tw_goto rfl ?_
          exact tG_cut (zW_mono zTt G dp) (Or.inr ⟨rfl, rfl, _, k + 1, x + 1, _, _, _, _, _, rfl, hs1, hr1, hFr, zincL hx q48, Or.inr (by omega), hl, h4, h5, sBb_n (co := (fun s => sCs (tA h 95) s (tvI (tF h 94 3)).toNatClampNeg)) (li := (fun s => sLv (tA h 96) (fun n i => tA h (98 + n) i) s (tvI (tF h 94 3)).toNatClampNeg)) hx ht (fun z => absurd z.1 (by omega)), rfl⟩)
        · try dsimp only [tvI_i, tvJ_j, tvR_r] at q54
          have q54i := zeqi rfl q54
          refine tw_iload rfl rfl ?_
          refine tw_aload rfl rfl ?_
          refine tw_getS rfl h5 ?_
          refine tw_ic_ge rfl (fun q55 => ?_) (fun q55 => ?_)
          · try dsimp only [tvI_i, tvJ_j, tvR_r] at q55
            refine tw_iinc rfl rfl ?_
            refine tw_goto rfl ?_
            exact tG_cut (zW_mono zTt G dp) (Or.inr ⟨rfl, rfl, _, k + 1, x + 1, _, _, _, _, _, rfl, hs1, hr1, hFr, zincL hx q48, Or.inr (by omega), hl, h4, h5, sBb_n (co := (fun s => sCs (tA h 95) s (tvI (tF h 94 3)).toNatClampNeg)) (li := (fun s => sLv (tA h 96) (fun n i => tA h (98 + n) i) s (tvI (tF h 94 3)).toNatClampNeg)) hx ht (fun z => absurd z.1 (by omega)), rfl⟩)
          · try dsimp only [tvI_i, tvJ_j, tvR_r] at q55
            refine tw_iload rfl rfl ?_
            refine tw_istore rfl ?_
            refine tw_aload rfl rfl ?_
            refine tw_iload rfl rfl ?_
            refine tw_put rfl (fun f56 => ?_)
            refine tw_aload rfl rfl ?_
            refine tw_iload rfl rfl ?_
            refine tw_put rfl (fun f57 => ?_)
            refine tw_iinc rfl rfl ?_
            refine tw_goto rfl ?_
            have hm1 : (-1 : Int32).toInt = -1 := rfl
            exact absurd hl (by omega)
    · try dsimp only [tvI_i, tvJ_j, tvR_r] at q50
      refine tw_aload rfl rfl ?_
      refine tw_iload rfl rfl ?_
      refine tw_virt1 rfl (f_livesOf hG hs1 hr1 (by rw [hFr.1 94 3 (by omega)]; exact hn.1)) (fun wp58 hp58 p58 => ?_)
      obtain ⟨rfl, e9⟩ := p58
      obtain rfl := e9.symm
      rw [hFr.2.1, hFr.1 94 3 (by omega)]
      refine tw_goto rfl ?_
      refine tw_istore rfl ?_
      refine tw_iload rfl rfl ?_
      refine tw_iload rfl rfl ?_
      refine tw_ic_gt rfl (fun q59 => ?_) (fun q59 => ?_)
      · try dsimp only [tvI_i, tvJ_j, tvR_r] at q59
        refine tw_iload rfl rfl ?_
        refine tw_istore rfl ?_
        refine tw_aload rfl rfl ?_
        refine tw_iload rfl rfl ?_
        refine tw_put rfl (fun f60 => ?_)
        refine tw_aload rfl rfl ?_
        refine tw_iload rfl rfl ?_
        refine tw_put rfl (fun f61 => ?_)
        refine tw_iinc rfl rfl ?_
        refine tw_goto rfl ?_
        exact tG_cut (zW_mono zTt G dp) (Or.inr ⟨rfl, rfl, _, k + 1, x + 1, _, _, _, _, _, rfl, (hw_94_5 f61 (hw_94_4 f60 hs1)), tRw_F (tRw_F hr1), bFr_2 (bFr_1 hFr), zincL hx q48, Or.inr (by omega), by omega, tF_ne (by omega) (tF_same f60), tF_same f61, sBb_y (co := (fun s => sCs (tA h 95) s (tvI (tF h 94 3)).toNatClampNeg)) (li := (fun s => sLv (tA h 96) (fun n i => tA h (98 + n) i) s (tvI (tF h 94 3)).toNatClampNeg)) hx ht q50 (Or.inl q59), rfl⟩)
      · try dsimp only [tvI_i, tvJ_j, tvR_r] at q59
        refine tw_iload rfl rfl ?_
        refine tw_iload rfl rfl ?_
        refine tw_ic_ne rfl (fun q62 => ?_) (fun q62 => ?_)
        · try dsimp only [tvI_i, tvJ_j, tvR_r] at q62
          have q62i := zneq rfl q62
          refine tw_iinc rfl rfl ?_
          refine tw_goto rfl ?_
          exact tG_cut (zW_mono zTt G dp) (Or.inr ⟨rfl, rfl, _, k + 1, x + 1, _, _, _, _, _, rfl, hs1, hr1, hFr, zincL hx q48, Or.inr (by omega), hl, h4, h5, sBb_n (co := (fun s => sCs (tA h 95) s (tvI (tF h 94 3)).toNatClampNeg)) (li := (fun s => sLv (tA h 96) (fun n i => tA h (98 + n) i) s (tvI (tF h 94 3)).toNatClampNeg)) hx ht (fun z => z.2.elim (fun z => absurd z (by omega)) (fun z => q62 z.1)), rfl⟩)
        · try dsimp only [tvI_i, tvJ_j, tvR_r] at q62
          have q62i := zeqi rfl q62
          refine tw_iload rfl rfl ?_
          refine tw_aload rfl rfl ?_
          refine tw_getS rfl h5 ?_
          refine tw_ic_ge rfl (fun q63 => ?_) (fun q63 => ?_)
          · try dsimp only [tvI_i, tvJ_j, tvR_r] at q63
            refine tw_iinc rfl rfl ?_
            refine tw_goto rfl ?_
            exact tG_cut (zW_mono zTt G dp) (Or.inr ⟨rfl, rfl, _, k + 1, x + 1, _, _, _, _, _, rfl, hs1, hr1, hFr, zincL hx q48, Or.inr (by omega), hl, h4, h5, sBb_n (co := (fun s => sCs (tA h 95) s (tvI (tF h 94 3)).toNatClampNeg)) (li := (fun s => sLv (tA h 96) (fun n i => tA h (98 + n) i) s (tvI (tF h 94 3)).toNatClampNeg)) hx ht (fun z => z.2.elim (fun z => absurd z (by omega)) (fun z => absurd z.2 (by omega))), rfl⟩)
          · try dsimp only [tvI_i, tvJ_j, tvR_r] at q63
            refine tw_iload rfl rfl ?_
            refine tw_istore rfl ?_
            refine tw_aload rfl rfl ?_
            refine tw_iload rfl rfl ?_
            refine tw_put rfl (fun f64 => ?_)
            refine tw_aload rfl rfl ?_
            refine tw_iload rfl rfl ?_
            refine tw_put rfl (fun f65 => ?_)
            refine tw_iinc rfl rfl ?_
            refine tw_goto rfl ?_
            exact tG_cut (zW_mono zTt G dp) (Or.inr ⟨rfl, rfl, _, k + 1, x + 1, _, _, _, _, _, rfl, (hw_94_5 f65 (hw_94_4 f64 hs1)), tRw_F (tRw_F hr1), bFr_2 (bFr_1 hFr), zincL hx q48, Or.inr (by omega), by rw [q62]; exact hl, tF_ne (by omega) (tF_same f64), tF_same f65, sBb_y (co := (fun s => sCs (tA h 95) s (tvI (tF h 94 3)).toNatClampNeg)) (li := (fun s => sLv (tA h 96) (fun n i => tA h (98 + n) i) s (tvI (tF h 94 3)).toNatClampNeg)) hx ht q50 (Or.inr ⟨q62, q63⟩), rfl⟩)
noncomputable def ph_bc (m : Int32) (h : zH) (w : Option Value) (h2 : zH) : Prop := ((0 ≤ m.toInt ∧ m.toInt ≤ 999999) ∧ w = some (.int (sBb (fun s => sCs (tA h 95) s (tvI (tF h 94 3)).toNatClampNeg) (fun s => sLv (tA h 96) (fun n i => tA h (98 + n) i) s (tvI (tF h 94 3)).toNatClampNeg) m (((1 : Int32) <<< (tvI (tF h 94 3) &&& 31)).toInt.toNat - 1)).1) ∧ tF h2 94 4 = .int (sBb (fun s => sCs (tA h 95) s (tvI (tF h 94 3)).toNatClampNeg) (fun s => sLv (tA h 96) (fun n i => tA h (98 + n) i) s (tvI (tF h 94 3)).toNatClampNeg) m (((1 : Int32) <<< (tvI (tF h 94 3) &&& 31)).toInt.toNat - 1)).2.1 ∧ tF h2 94 5 = .int (sBb (fun s => sCs (tA h 95) s (tvI (tF h 94 3)).toNatClampNeg) (fun s => sLv (tA h 96) (fun n i => tA h (98 + n) i) s (tvI (tF h 94 3)).toNatClampNeg) m (((1 : Int32) <<< (tvI (tF h 94 3) &&& 31)).toInt.toNat - 1)).2.2) ∨ (¬ (0 ≤ m.toInt ∧ m.toInt ≤ 999999) ∧ w = some (.int (-1)) ∧ h2 = h)
theorem f_best {G : zG} (hG : G.1 = zProg) {h : zH} {m : Int32} (hs : tSh h) (hr : tRw h) (hn : 0 ≤ (tvI (tF h 94 3)).toInt ∧ (tvI (tF h 94 3)).toInt ≤ 9) : tC zTt G 155 [.ref 0, .int m] h (ph_bc m h) := by
  refine tC_in (by rw [hG]; rfl) (fun dp => ?_)
  refine tw_iload rfl rfl ?_
  refine tw_push rfl ?_
  refine tw_push rfl ?_
  refine tw_stat3 rfl (f_isWithin hG (LO := 0) (HI := 999999) (by decide) (by decide)) (fun w9 h9 p66 => ?_)
  obtain ⟨⟨p66, rfl⟩ | ⟨p66, rfl⟩, e9⟩ := p66
  · try dsimp only [tvI_i, tvJ_j, tvR_r] at p66
    obtain rfl := e9.symm
    refine tw_if_eq rfl (fun z => absurd z (by decide)) (fun _ => ?_)
    refine tw_aload rfl rfl ?_
    refine tw_getS rfl (hs_0_9 hs) ?_
    refine tw_iload rfl rfl ?_
    refine tw_virt1 rfl (f_findBest hG hs hr hn) (fun wp67 hp67 p67 => ?_)
    obtain ⟨rfl, p67a⟩ := p67
    refine tw_goto rfl ?_
    exact tw_iret rfl (Or.inl ⟨by omega, rfl, p67a.1, p67a.2.1⟩)
  · try dsimp only [tvI_i, tvJ_j, tvR_r] at p66
    obtain rfl := e9.symm
    refine tw_if_eq rfl (fun _ => ?_) (fun z => absurd z (by decide))
    refine tw_push rfl ?_
    exact tw_iret rfl (Or.inr ⟨by omega, rfl, rfl⟩)
noncomputable def ph_bm (m : Int32) (h : zH) (w : Option Value) (h2 : zH) : Prop := ((0 ≤ m.toInt ∧ m.toInt ≤ 999999) ∧ w = some (.int (sBb (fun s => sCs (tA h 179) s (tvI (tF h 111 90)).toNatClampNeg) (fun s => sLv (tA h 180) (fun n i => tA h 181 (9 * n + i)) s (tvI (tF h 111 90)).toNatClampNeg) m (((1 : Int32) <<< (tvI (tF h 111 90) &&& 31)).toInt.toNat - 1)).1) ∧ tF h2 111 91 = .int (sBb (fun s => sCs (tA h 179) s (tvI (tF h 111 90)).toNatClampNeg) (fun s => sLv (tA h 180) (fun n i => tA h 181 (9 * n + i)) s (tvI (tF h 111 90)).toNatClampNeg) m (((1 : Int32) <<< (tvI (tF h 111 90) &&& 31)).toInt.toNat - 1)).2.1 ∧ tF h2 111 92 = .int (sBb (fun s => sCs (tA h 179) s (tvI (tF h 111 90)).toNatClampNeg) (fun s => sLv (tA h 180) (fun n i => tA h 181 (9 * n + i)) s (tvI (tF h 111 90)).toNatClampNeg) m (((1 : Int32) <<< (tvI (tF h 111 90) &&& 31)).toInt.toNat - 1)).2.2) ∨ (¬ (0 ≤ m.toInt ∧ m.toInt ≤ 999999) ∧ w = some (.int (-1)) ∧ h2 = h)
theorem g_best {G : zG} (hG : G.1 = zProg) {h : zH} {m : Int32} (hs : tSh h) (hn : 0 ≤ (tvI (tF h 111 90)).toInt ∧ (tvI (tF h 111 90)).toInt ≤ 9) : tC zTt G 277 [.ref 111, .int m] h (ph_bm m h) := by
  refine tC_in (by rw [hG]; rfl) (fun dp => ?_)
  refine tw_iload rfl rfl ?_
  refine tw_i2l rfl ?_
  refine tw_push rfl ?_
  refine tw_push rfl ?_
  refine tw_stat3 rfl (f_in hG  (LO := 0) (HI := 999999) (Int32.toInt_toInt64 _) (by decide) (by decide)) (fun w9 h9 p68 => ?_)
  obtain ⟨⟨p68, rfl⟩ | ⟨p68, rfl⟩, e9⟩ := p68
  · try dsimp only [tvI_i, tvJ_j, tvR_r] at p68
    obtain rfl := e9.symm
    refine tw_if_ne rfl (fun _ => ?_) (fun z => absurd z (by decide))
    refine tw_push rfl ?_
    refine tw_istore rfl ?_
    refine tw_aload rfl rfl ?_
    refine tw_push rfl ?_
    refine tw_put rfl (fun f69 => ?_)
    refine tw_aload rfl rfl ?_
    refine tw_push rfl ?_
    refine tw_put rfl (fun f70 => ?_)
    refine tw_push rfl ?_
    refine tw_istore rfl ?_
    refine tG_loop (zW_mono zTt G dp) (zW_conj zTt G dp) (V := fun pc L st h9 _ _ => pc = 28 ∧ st = [] ∧ ∃ (h1 : zH) (k : Nat) (x l s c : Int32) (l4 l5 l6 l7 : Option Value), h1 = h9 ∧ tSh h1 ∧ bFr 111 91 92 h h1 ∧ x.toInt = ((k + 1 : Nat) : Int) ∧ (k = 0 ∨ ((k + 1 : Nat) : Int) ≤ ((1 : Int32) <<< (tvI (tF h 111 90) &&& 31)).toInt) ∧ tF h1 111 91 = .int s ∧ tF h1 111 92 = .int c ∧ (l, s, c) = sBb (fun s => sCs (tA h 179) s (tvI (tF h 111 90)).toNatClampNeg) (fun s => sLv (tA h 180) (fun n i => tA h 181 (9 * n + i)) s (tvI (tF h 111 90)).toNatClampNeg) m k ∧ L = [some (.ref 111), some (.int m), some (.int l), some (.int x), l4, l5, l6, l7]) ?_ (⟨rfl, rfl, _, 0, 1, 0, 0, 0, _, _, _, _, rfl, (hw_111_92 f70 (hw_111_91 f69 hs)), bFr_2 (bFr_1 ⟨fun _ _ _ => rfl, rfl, rfl, rfl⟩), rfl, Or.inl rfl, tF_ne (by omega) (tF_same f69), tF_same f70, rfl, rfl⟩)
    rintro _ _ _ _ _ _ ⟨rfl, rfl, h1, k, x, l, s, c, l4, l5, l6, l7, rfl, hs1, hFr, hx, hk, h4, h5, ht, rfl⟩
    refine tw_iload rfl rfl ?_
    refine tw_push rfl ?_
    refine tw_aload rfl rfl ?_
    refine tw_getS rfl ((hFr.1 111 90 (by omega)).trans (hi_111_90 hs)) ?_
    refine tw_ishl rfl ?_
    refine tw_ic_ge rfl (fun q71 => ?_) (fun q71 => ?_)
    · try dsimp only [tvI_i, tvJ_j, tvR_r] at q71
      refine tw_iload rfl rfl ?_
      rw [show k = (((1 : Int32) <<< (tvI (tF h 111 90) &&& 31)).toInt.toNat - 1) from by omega] at ht
      exact tw_iret rfl (Or.inl ⟨by omega, by rw [← ht]; exact ⟨rfl, h4, h5⟩⟩)
    · try dsimp only [tvI_i, tvJ_j, tvR_r] at q71
      refine tw_push rfl ?_
      refine tw_istore rfl ?_
      refine tw_push rfl ?_
      refine tw_istore rfl ?_
      refine tw_push rfl ?_
      refine tw_istore rfl ?_
      refine tG_loop (zW_mono zTt G dp) (zW_conj zTt G dp) (V := fun pc L st h9 _ _ => pc = 47 ∧ st = [] ∧ h1 = h9 ∧ ∃ (a : Nat) (y co lv : Int32) (l7 : Option Value), y.toInt = a ∧ (a : Int) ≤ (tvI (tF h 111 90)).toInt ∧ co = sCs (tA h 179) x a ∧ lv = sLv (tA h 180) (fun n i => tA h 181 (9 * n + i)) x a ∧ L = [some (.ref 111), some (.int m), some (.int l), some (.int x), some (.int co), some (.int lv), some (.int y), l7]) ?_ (⟨rfl, rfl, rfl, 0, 0, 0, 0, _, rfl, hn.1, rfl, rfl, rfl⟩)
      rintro _ _ _ _ _ _ ⟨rfl, rfl, rfl, a, y, co, lv, l7, hy, ha, hco, hlv, rfl⟩
      refine tw_iload rfl rfl ?_
      refine tw_aload rfl rfl ?_
      refine tw_getS rfl ((hFr.1 111 90 (by omega)).trans (hi_111_90 hs)) ?_
      refine tw_ic_ge rfl (fun q72 => ?_) (fun q72 => ?_)
      · try dsimp only [tvI_i, tvJ_j, tvR_r] at q72
        refine tw_iload rfl rfl ?_
        refine tw_iload rfl rfl ?_
        refine tw_ic_gt rfl (fun q73 => ?_) (fun q73 => ?_)
        · try dsimp only [tvI_i, tvJ_j, tvR_r] at q73
          refine tw_iinc rfl rfl ?_
          refine tw_goto rfl ?_
          have hc9 := hco
          have hl9 := hlv
          rw [show a = (tvI (tF h 111 90)).toNatClampNeg from by rw [zclE]; omega] at hc9 hl9
          subst hc9
          subst hl9
          exact tG_cut (zW_mono zTt G dp) (Or.inl (Or.inr ⟨rfl, rfl, _, k + 1, x + 1, _, _, _, _, _, _, _, rfl, hs1, hFr, zincL hx q71, Or.inr (by omega), h4, h5, sBb_n (co := (fun s => sCs (tA h 179) s (tvI (tF h 111 90)).toNatClampNeg)) (li := (fun s => sLv (tA h 180) (fun n i => tA h 181 (9 * n + i)) s (tvI (tF h 111 90)).toNatClampNeg)) hx ht (fun z => absurd z.1 (by omega)), rfl⟩))
        · try dsimp only [tvI_i, tvJ_j, tvR_r] at q73
          refine tw_iload rfl rfl ?_
          refine tw_iload rfl rfl ?_
          refine tw_ic_gt rfl (fun q74 => ?_) (fun q74 => ?_)
          · try dsimp only [tvI_i, tvJ_j, tvR_r] at q74
            refine tw_iload rfl rfl ?_
            refine tw_istore rfl ?_
            refine tw_aload rfl rfl ?_
            refine tw_iload rfl rfl ?_
            refine tw_put rfl (fun f75 => ?_)
            refine tw_aload rfl rfl ?_
            refine tw_iload rfl rfl ?_
            refine tw_put rfl (fun f76 => ?_)
            refine tw_iinc rfl rfl ?_
            refine tw_goto rfl ?_
            have hc9 := hco
            have hl9 := hlv
            rw [show a = (tvI (tF h 111 90)).toNatClampNeg from by rw [zclE]; omega] at hc9 hl9
            subst hc9
            subst hl9
            exact tG_cut (zW_mono zTt G dp) (Or.inl (Or.inr ⟨rfl, rfl, _, k + 1, x + 1, _, _, _, _, _, _, _, rfl, (hw_111_92 f76 (hw_111_91 f75 hs1)), bFr_2 (bFr_1 hFr), zincL hx q71, Or.inr (by omega), tF_ne (by omega) (tF_same f75), tF_same f76, sBb_y (co := (fun s => sCs (tA h 179) s (tvI (tF h 111 90)).toNatClampNeg)) (li := (fun s => sLv (tA h 180) (fun n i => tA h 181 (9 * n + i)) s (tvI (tF h 111 90)).toNatClampNeg)) hx ht q73 (Or.inl q74), rfl⟩))
          · try dsimp only [tvI_i, tvJ_j, tvR_r] at q74
            refine tw_iload rfl rfl ?_
            refine tw_iload rfl rfl ?_
            refine tw_ic_ne rfl (fun q77 => ?_) (fun q77 => ?_)
            · try dsimp only [tvI_i, tvJ_j, tvR_r] at q77
              have q77i := zneq rfl q77
              refine tw_iinc rfl rfl ?_
              refine tw_goto rfl ?_
              have hc9 := hco
              have hl9 := hlv
              rw [show a = (tvI (tF h 111 90)).toNatClampNeg from by rw [zclE]; omega] at hc9 hl9
              subst hc9
              subst hl9
              exact tG_cut (zW_mono zTt G dp) (Or.inl (Or.inr ⟨rfl, rfl, _, k + 1, x + 1, _, _, _, _, _, _, _, rfl, hs1, hFr, zincL hx q71, Or.inr (by omega), h4, h5, sBb_n (co := (fun s => sCs (tA h 179) s (tvI (tF h 111 90)).toNatClampNeg)) (li := (fun s => sLv (tA h 180) (fun n i => tA h 181 (9 * n + i)) s (tvI (tF h 111 90)).toNatClampNeg)) hx ht (fun z => z.2.elim (fun z => absurd z (by omega)) (fun z => q77 z.1)), rfl⟩))
            · try dsimp only [tvI_i, tvJ_j, tvR_r] at q77
              have q77i := zeqi rfl q77
              refine tw_iload rfl rfl ?_
              refine tw_aload rfl rfl ?_
              refine tw_getS rfl h5 ?_
              refine tw_ic_ge rfl (fun q78 => ?_) (fun q78 => ?_)
              · try dsimp only [tvI_i, tvJ_j, tvR_r] at q78
                refine tw_iinc rfl rfl ?_
                refine tw_goto rfl ?_
                have hc9 := hco
                have hl9 := hlv
                rw [show a = (tvI (tF h 111 90)).toNatClampNeg from by rw [zclE]; omega] at hc9 hl9
                subst hc9
                subst hl9
                exact tG_cut (zW_mono zTt G dp) (Or.inl (Or.inr ⟨rfl, rfl, _, k + 1, x + 1, _, _, _, _, _, _, _, rfl, hs1, hFr, zincL hx q71, Or.inr (by omega), h4, h5, sBb_n (co := (fun s => sCs (tA h 179) s (tvI (tF h 111 90)).toNatClampNeg)) (li := (fun s => sLv (tA h 180) (fun n i => tA h 181 (9 * n + i)) s (tvI (tF h 111 90)).toNatClampNeg)) hx ht (fun z => z.2.elim (fun z => absurd z (by omega)) (fun z => absurd z.2 (by omega))), rfl⟩))
              · try dsimp only [tvI_i, tvJ_j, tvR_r] at q78
                refine tw_iload rfl rfl ?_
                refine tw_istore rfl ?_
                refine tw_aload rfl rfl ?_
                refine tw_iload rfl rfl ?_
                refine tw_put rfl (fun f79 => ?_)
                refine tw_aload rfl rfl ?_
                refine tw_iload rfl rfl ?_
                refine tw_put rfl (fun f80 => ?_)
                refine tw_iinc rfl rfl ?_
                refine tw_goto rfl ?_
                have hc9 := hco
                have hl9 := hlv
                rw [show a = (tvI (tF h 111 90)).toNatClampNeg from by rw [zclE]; omega] at hc9 hl9
                subst hc9
                subst hl9
                exact tG_cut (zW_mono zTt G dp) (Or.inl (Or.inr ⟨rfl, rfl, _, k + 1, x + 1, _, _, _, _, _, _, _, rfl, (hw_111_92 f80 (hw_111_91 f79 hs1)), bFr_2 (bFr_1 hFr), zincL hx q71, Or.inr (by omega), tF_ne (by omega) (tF_same f79), tF_same f80, sBb_y (co := (fun s => sCs (tA h 179) s (tvI (tF h 111 90)).toNatClampNeg)) (li := (fun s => sLv (tA h 180) (fun n i => tA h 181 (9 * n + i)) s (tvI (tF h 111 90)).toNatClampNeg)) hx ht q73 (Or.inr ⟨q77, q78⟩), rfl⟩))
      · try dsimp only [tvI_i, tvJ_j, tvR_r] at q72
        refine tw_iload rfl rfl ?_
        refine tw_iload rfl rfl ?_
        refine tw_ishr rfl ?_
        refine tw_push rfl ?_
        refine tw_iand rfl ?_
        refine tw_push rfl ?_
        refine tw_ic_ne rfl (fun q81 => ?_) (fun q81 => ?_)
        · try dsimp only [tvI_i, tvJ_j, tvR_r] at q81
          have q81i := zneq (Y := 1) (by decide) q81
          refine tw_iinc rfl rfl ?_
          refine tw_goto rfl ?_
          exact tG_cut (zW_mono zTt G dp) (Or.inr ⟨rfl, rfl, rfl, a + 1, y + 1, _, _, _, zincL hy q72, by omega, sCs_n hy hco q81, sLv_n hy hlv q81, rfl⟩)
        · try dsimp only [tvI_i, tvJ_j, tvR_r] at q81
          have q81i := zeqi (Y := 1) (by decide) q81
          refine tw_iload rfl rfl ?_
          refine tw_aload rfl rfl ?_
          refine tw_getS rfl (hs_111_93 hs1) ?_
          refine tw_iload rfl rfl ?_
          refine tw_iald rfl (fun f82 => ?_)
          refine tw_iadd rfl ?_
          refine tw_istore rfl ?_
          refine tw_iload rfl rfl ?_
          refine tw_aload rfl rfl ?_
          refine tw_getS rfl (hs_111_94 hs1) ?_
          refine tw_iload rfl rfl ?_
          refine tw_iald rfl (fun f83 => ?_)
          refine tw_iadd rfl ?_
          refine tw_istore rfl ?_
          refine tw_push rfl ?_
          refine tw_istore rfl ?_
          refine tG_loop (zW_mono zTt G dp) (zW_conj zTt G dp) (V := fun pc L st h9 _ _ => pc = 93 ∧ st = [] ∧ h1 = h9 ∧ ∃ (b : Nat) (z c2 lw : Int32), z.toInt = b ∧ b ≤ a ∧ c2 = sCs (tA h 179) x (a + 1) ∧ lw = sOv (fun i => tA h 181 (9 * a + i)) x (sLv (tA h 180) (fun n i => tA h 181 (9 * n + i)) x a + tA h 180 a) b ∧ L = [some (.ref 111), some (.int m), some (.int l), some (.int x), some (.int c2), some (.int lw), some (.int y), some (.int z)]) ?_ (⟨rfl, rfl, rfl, 0, 0, _, _, rfl, by omega, sCs_y hy hco q81 (congrFun hFr.2.1 179), (by show lv + tA h1 180 y.toNatClampNeg = _; rw [hlv, hFr.2.1, zof_cl hy]; rfl), rfl⟩)
          rintro _ _ _ _ _ _ ⟨rfl, rfl, rfl, b, z, c2, lw, hz, hb, hc2, hlw, rfl⟩
          refine tw_iload rfl rfl ?_
          refine tw_iload rfl rfl ?_
          refine tw_ic_ge rfl (fun q84 => ?_) (fun q84 => ?_)
          · try dsimp only [tvI_i, tvJ_j, tvR_r] at q84
            refine tw_iinc rfl rfl ?_
            refine tw_goto rfl ?_
            have hw9 := hlw
            rw [show b = a from by omega] at hw9
            exact tG_cut (zW_mono zTt G dp) (Or.inl (Or.inr ⟨rfl, rfl, rfl, a + 1, y + 1, _, _, _, zincL hy q72, by omega, hc2, sLv_y hy q81 hw9, rfl⟩))
          · try dsimp only [tvI_i, tvJ_j, tvR_r] at q84
            refine tw_iload rfl rfl ?_
            refine tw_iload rfl rfl ?_
            refine tw_iload rfl rfl ?_
            refine tw_ishr rfl ?_
            refine tw_push rfl ?_
            refine tw_iand rfl ?_
            refine tw_push rfl ?_
            refine tw_ic_ne rfl (fun q85 => ?_) (fun q85 => ?_)
            · try dsimp only [tvI_i, tvJ_j, tvR_r] at q85
              have q85i := zneq (Y := 1) (by decide) q85
              refine tw_push rfl ?_
              refine tw_isub rfl ?_
              refine tw_istore rfl ?_
              refine tw_iinc rfl rfl ?_
              refine tw_goto rfl ?_
              exact tG_cut (zW_mono zTt G dp) (Or.inr ⟨rfl, rfl, rfl, b + 1, z + 1, _, _, zincL hz q84, by omega, hc2, sOv_n hz hlw q85, rfl⟩)
            · try dsimp only [tvI_i, tvJ_j, tvR_r] at q85
              have q85i := zeqi (Y := 1) (by decide) q85
              refine tw_aload rfl rfl ?_
              refine tw_getS rfl (hs_111_95 hs1) ?_
              refine tw_push rfl ?_
              refine tw_iload rfl rfl ?_
              refine tw_imul rfl ?_
              refine tw_iload rfl rfl ?_
              refine tw_iadd rfl ?_
              refine tw_iald rfl (fun f86 => ?_)
              refine tw_goto rfl ?_
              refine tw_isub rfl ?_
              refine tw_istore rfl ?_
              refine tw_iinc rfl rfl ?_
              refine tw_goto rfl ?_
              exact tG_cut (zW_mono zTt G dp) (Or.inr ⟨rfl, rfl, rfl, b + 1, z + 1, _, _, zincL hz q84, by omega, hc2, sOv_y hz hlw q85 (by show tA h1 181 (9 * y + z).toNatClampNeg = _; rw [hFr.2.1, (zmulc (c := 9) (K := 9) (k := y) (p := z) rfl (by decide) (by omega) (by omega)).1, zof_cl hy, zof_cl hz]), rfl⟩)
  · try dsimp only [tvI_i, tvJ_j, tvR_r] at p68
    obtain rfl := e9.symm
    refine tw_if_ne rfl (fun z => absurd z (by decide)) (fun _ => ?_)
    refine tw_push rfl ?_
    exact tw_iret rfl (Or.inr ⟨by omega, rfl, rfl⟩)
theorem a_best {m : Int32} {h h2 h3 : zH} {w w2 : Option Value} (hM : R_savers h) (hv : R_vcoins h) (hl : R_vlives h) (ho : R_overlaps h) (hR : R_bset h) (hn : 0 ≤ (tvI (tF h 94 3)).toInt ∧ (tvI (tF h 94 3)).toInt ≤ 9) (e1 : tF h2 111 90 = tF h 111 90) (o1 : tA h2 179 = tA h 179) (o2 : tA h2 180 = tA h 180) (o3 : tA h2 181 = tA h 181) (t1 : tF h3 94 4 = tF h2 94 4) (t2 : tF h3 94 5 = tF h2 94 5) (x1 : tF h2 111 91 = tF h 111 91) (x2 : tF h2 111 92 = tF h 111 92) (k1 : ph_bc m h w h2) (k2 : ph_bm m h2 w2 h3) : w2 = w ∧ R_bset h3 := by
  unfold R_savers at hM
  unfold R_vcoins at hv
  unfold R_vlives at hl
  unfold ph_bm at k2
  rw [e1, o1, o2, o3, ← hM, ← hv, ← hl] at k2
  have eL : (fun s => sLv (tA h 96) (fun n i => tA h 181 (9 * n + i)) s (tvI (tF h 94 3)).toNatClampNeg) = (fun s => sLv (tA h 96) (fun n i => tA h (98 + n) i) s (tvI (tF h 94 3)).toNatClampNeg) := by
    funext s
    exact (sLv_congr (fun a ha b hb => by rw [zclE] at ha hb; exact ho a (by omega) b (by omega))).symm
  rw [eL] at k2
  rcases k1 with ⟨c1, rfl, f1, f2⟩ | ⟨c1, rfl, rfl⟩ <;> rcases k2 with ⟨c2, rfl, g1, g2⟩ | ⟨c2, rfl, rfl⟩
  · refine ⟨rfl, ?_, Or.inr ⟨?_, ?_⟩⟩
    · rw [t1, f1, g1]
    · rw [t1, f1]
      intro z
      have hp := sBb_p (co := (fun s => sCs (tA h 95) s (tvI (tF h 94 3)).toNatClampNeg)) (li := (fun s => sLv (tA h 96) (fun n i => tA h (98 + n) i) s (tvI (tF h 94 3)).toNatClampNeg)) (m := m) (k := (((1 : Int32) <<< (tvI (tF h 94 3) &&& 31)).toInt.toNat - 1)) (by have := Int32.toInt_lt ((1 : Int32) <<< (tvI (tF h 94 3) &&& 31)); omega)
      rw [Value.int.inj z] at hp
      revert hp
      decide
    · rw [t2, f2, g2]
  · exact absurd c1 c2
  · exact absurd c2 c1
  · exact ⟨rfl, hR⟩
noncomputable def ph_sc (x : Int32) (h : zH) (w : Option Value) (_ : zH) : Prop := (x.toInt = 0 ∧ w = some (tF h 94 4)) ∨ (x.toInt = 1 ∧ w = some (tF h 94 5)) ∨ (x.toInt ≠ 0 ∧ x.toInt ≠ 1 ∧ w = some (.int (-1)))
noncomputable def ph_sm (x : Int32) (h : zH) (w : Option Value) (_ : zH) : Prop := (tF h 111 91 = .int (-1) ∧ w = some (.int (-1))) ∨ (¬ tF h 111 91 = .int (-1) ∧ ((x.toInt = 0 ∧ w = some (tF h 111 91)) ∨ (x.toInt = 1 ∧ w = some (tF h 111 92)) ∨ (x.toInt ≠ 0 ∧ x.toInt ≠ 1 ∧ w = some (.int (-1)))))
theorem f_bests {G : zG} (hG : G.1 = zProg) {h : zH} {x : Int32} (hs : tSh h) : tC zTt G 156 [.ref 0, .int x] h (ph_sc x h) := by
  refine tC_in (by rw [hG]; rfl) (fun dp => ?_)
  refine tw_iload rfl rfl ?_
  refine tw_look2 rfl (fun q87 => ?_) (fun q87 => ?_) (fun q87 q87b => ?_)
  · try dsimp only [tvI_i, tvJ_j, tvR_r] at q87
    refine tw_aload rfl rfl ?_
    refine tw_getS rfl (hs_0_9 hs) ?_
    refine tw_getS rfl (hi_94_4 hs) ?_
    exact tw_iret rfl (Or.inl ⟨q87, congrArg some (hi_94_4 hs).symm⟩)
  · try dsimp only [tvI_i, tvJ_j, tvR_r] at q87
    refine tw_aload rfl rfl ?_
    refine tw_getS rfl (hs_0_9 hs) ?_
    refine tw_getS rfl (hi_94_5 hs) ?_
    exact tw_iret rfl (Or.inr (Or.inl ⟨q87, congrArg some (hi_94_5 hs).symm⟩))
  · try dsimp only [tvI_i, tvJ_j, tvR_r] at q87
    refine tw_push rfl ?_
    exact tw_iret rfl (Or.inr (Or.inr ⟨q87, q87b, rfl⟩))
theorem g_bests {G : zG} (hG : G.1 = zProg) {h : zH} {x : Int32} (hs : tSh h) : tC zTt G 278 [.ref 111, .int x] h (ph_sm x h) := by
  refine tC_in (by rw [hG]; rfl) (fun dp => ?_)
  refine tw_aload rfl rfl ?_
  refine tw_getS rfl (hi_111_91 hs) ?_
  refine tw_push rfl ?_
  refine tw_ic_ne rfl (fun q88 => ?_) (fun q88 => ?_)
  · try dsimp only [tvI_i, tvJ_j, tvR_r] at q88
    have q88i := zneq (Y := (-1)) (by decide) q88
    refine tw_iload rfl rfl ?_
    refine tw_if_ne rfl (fun q89 => ?_) (fun q89 => ?_)
    · try dsimp only [tvI_i, tvJ_j, tvR_r] at q89
      have q89i := zneq (Y := 0) (by decide) q89
      refine tw_iload rfl rfl ?_
      refine tw_push rfl ?_
      refine tw_ic_ne rfl (fun q90 => ?_) (fun q90 => ?_)
      · try dsimp only [tvI_i, tvJ_j, tvR_r] at q90
        have q90i := zneq (Y := 1) (by decide) q90
        refine tw_push rfl ?_
        exact tw_iret rfl (Or.inr ⟨(fun z => q88 (by rw [z]; rfl)), Or.inr (Or.inr ⟨q89i, q90i, rfl⟩)⟩)
      · try dsimp only [tvI_i, tvJ_j, tvR_r] at q90
        have q90i := zeqi (Y := 1) (by decide) q90
        refine tw_aload rfl rfl ?_
        refine tw_getS rfl (hi_111_92 hs) ?_
        refine tw_goto rfl ?_
        exact tw_iret rfl (Or.inr ⟨(fun z => q88 (by rw [z]; rfl)), Or.inr (Or.inl ⟨q90i, congrArg some (hi_111_92 hs).symm⟩)⟩)
    · try dsimp only [tvI_i, tvJ_j, tvR_r] at q89
      have q89i := zeqi (Y := 0) (by decide) q89
      refine tw_aload rfl rfl ?_
      refine tw_getS rfl (hi_111_91 hs) ?_
      refine tw_goto rfl ?_
      exact tw_iret rfl (Or.inr ⟨(fun z => q88 (by rw [z]; rfl)), Or.inl ⟨q89i, congrArg some (hi_111_91 hs).symm⟩⟩)
  · try dsimp only [tvI_i, tvJ_j, tvR_r] at q88
    have q88i := zeqi (Y := (-1)) (by decide) q88
    refine tw_push rfl ?_
    refine tw_goto rfl ?_
    exact tw_iret rfl (Or.inl ⟨by rw [hi_111_91 hs, q88], rfl⟩)
theorem a_bests {x : Int32} {h h2 h3 : zH} {w w2 : Option Value} (hR : R_bset h) (x1 : tF h2 111 91 = tF h 111 91) (x2 : tF h2 111 92 = tF h 111 92) (k1 : ph_sc x h w h2) (k2 : ph_sm x h2 w2 h3) : w2 = w := by
  unfold ph_sm at k2
  rw [x1, x2] at k2
  obtain ⟨r1, r2⟩ := hR
  rw [← r1] at k2
  rcases k2 with ⟨c2, rfl⟩ | ⟨c2, k2⟩
  · rcases r2 with ⟨_, r2⟩ | ⟨r2, _⟩
    · rcases k1 with ⟨_, rfl⟩ | ⟨_, rfl⟩ | ⟨_, _, rfl⟩
      · rw [c2]
      · rw [r2]
      · rfl
    · exact absurd c2 r2
  · rcases r2 with ⟨r2, _⟩ | ⟨_, r2⟩
    · exact absurd r2 c2
    · rw [← r2] at k2
      rcases k1 with ⟨c1, rfl⟩ | ⟨c1, rfl⟩ | ⟨c1, d1, rfl⟩ <;> rcases k2 with ⟨c2, rfl⟩ | ⟨c2, rfl⟩ | ⟨c2, d2, rfl⟩ <;> first
        | rfl
        | omega
