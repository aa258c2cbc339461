/-! what is answered: small helpers -/
noncomputable def tBo (P : Prop) (w : Option Value) : Prop := (P ∧ w = some (.int 1)) ∨ (¬ P ∧ w = some (.int 0))
theorem tBo_i {P R : Prop} {w : Option Value} (e : P ↔ R) (k : tBo P w) : tBo R w := k.imp (fun z => ⟨e.mp z.1, z.2⟩) (fun z => ⟨fun y => z.1 (e.mpr y), z.2⟩)
theorem zpB_c {b : Int × Int} {r : List (Int × Int)} {xs : List Int32} (h : zpB (b :: r) xs) : ∃ x ys, xs = x :: ys ∧ (b.1 ≤ x.toInt ∧ x.toInt ≤ b.2) ∧ zpB r ys := by
  obtain ⟨lo, hi⟩ := b
  cases xs with
  | nil => exact h.elim
  | cons x ys => exact ⟨x, ys, rfl, h.1, h.2⟩
theorem zpB_n {xs : List Int32} (h : zpB [] xs) : xs = [] := by
  cases xs with
  | nil => rfl
  | cons x ys => exact h.elim
theorem zclx {x : Int32} (h : 0 ≤ x.toInt) : (x.toNatClampNeg : Int) = x.toInt := by
  show ((x.toInt.toNat : Nat) : Int) = _
  omega
theorem zclE {x : Int32} : x.toNatClampNeg = x.toInt.toNat := rfl
theorem zeqi {x y : Int32} {Y : Int} (hy : y.toInt = Y) (h : x = y) : x.toInt = Y := by rw [h]; exact hy
theorem zneq {x y : Int32} {Y : Int} (hy : y.toInt = Y) (h : ¬ x = y) : x.toInt ≠ Y := fun z => h (Int32.toInt_inj.mp (z.trans hy.symm))
theorem zsub1 {x : Int32} (h : 0 ≤ x.toInt) : (x - 1).toInt = x.toInt - 1 := by
  have := Int32.toInt_lt x
  rw [Int32.toInt_sub]
  exact Int.bmod_eq_of_le (by show (-2147483648 : Int) ≤ x.toInt - 1; omega) (by show x.toInt - 1 < (2147483648 : Int); omega)
noncomputable def tRwl : List (Nat × Nat) := [(4, 5), (14, 15), (27, 28), (97, 98)]
noncomputable def tRw (h : zH) : Prop := ∀ q ∈ tRwl, ∀ i, i < tN h q.1 → tO h q.1 i = some (q.2 + i)
theorem tRw_A {h : zH} {r i : Nat} {x : Int32} (k : tRw h) : tRw (tSA h r i x) := by unfold tRw; rw [tO_tSA, tN_tSA]; exact k
theorem tRw_J {h : zH} {r i : Nat} {x : Int64} (k : tRw h) : tRw (tSJ h r i x) := by unfold tRw; rw [tO_tSJ, tN_tSJ]; exact k
theorem tRw_F {h : zH} {r b : Nat} {w : Value} (k : tRw h) : tRw (tSF h r b w) := by unfold tRw; rw [tO_tSF, tN_tSF]; exact k
theorem tRw_at {h : zH} (k : tRw h) {p q : Nat} (hm : (p, q) ∈ tRwl) {i : Int32} (z : tInO h p i) : zrf (tO h p i.toNatClampNeg) = .ref (q + i.toNatClampNeg) := by
  rw [k (p, q) hm _ z.rg.2]
  rfl
theorem tfr_N {xs : Nat → Int32} {τ : List Nat} {h h2 : zH} {W : Nat → Nat → Bool} {p t : Nat} (hB : zBs xs τ h) (hf : yFr W τ h h2) (ht : zTG[p]? = some t) : tN h2 p = tN h p := by
  obtain ⟨ct, c, a1, a2, -⟩ := hB.1.2 _ _ (hB.2.1 _ _ ht)
  obtain ⟨c2, b1, b2⟩ := hf _ _ _ (hB.2.1 _ _ ht) a2
  unfold tN
  rw [a2, b1]
  match c, c2, b2 with
  | .inr (x, fs), .inr (y, gs), b2 => rfl
  | .inl (k, N, x), .inl (k2, N2, y), b2 => exact b2.2.1.symm
theorem tfr_Fs {xs : Nat → Int32} {τ : List Nat} {h h2 : zH} {W : Nat → Nat → Bool} {p t b : Nat} (hB : zBs xs τ h) (hf : yFr W τ h h2) (ht : τ[p]? = some t) (hW : W t b = false) : tF h2 p b = tF h p b := by
  obtain ⟨ct, c, a1, a2, -⟩ := hB.1.2 _ _ ht
  obtain ⟨c2, b1, b2⟩ := hf _ _ _ ht a2
  unfold tF
  rw [a2, b1]
  match c, c2, b2 with
  | .inr (x, fs), .inr (y, gs), b2 =>
    dsimp only
    rw [List.getD_eq_getElem?_getD, List.getD_eq_getElem?_getD, b2.2.2 b hW]
  | .inl (k, N, x), .inl (k2, N2, y), b2 => rfl
theorem car_tag {xs : Nat → Int32} {τ : List Nat} {h : zH} (hB : zBs xs τ h) {i r : Nat} (hi : (i : Int) < (tvI (tF h 36 4)).toInt) (hr : tO h 39 i = some r) : τ[r]? = some 150 := by
  have hn := (kb_36_4 hB).2
  obtain ⟨a, b, c⟩ := tkd_o hB (p := 39) (t := 15) rfl rfl
  obtain ⟨-, -, c3⟩ := c i (by omega)
  rw [hr] at c3
  rcases c3 with z | z | z
  · cases z
  · have : zoi (some r) = (r : Int) := rfl
    omega
  · exact z
theorem car_lt {xs : Nat → Int32} {τ : List Nat} {h : zH} (hB : zBs xs τ h) {i r : Nat} (hi : (i : Int) < (tvI (tF h 36 4)).toInt) (hr : tO h 39 i = some r) : r < h.length := by
  have z := car_tag hB hi hr
  rcases Nat.lt_or_ge r τ.length with q | q
  · have := hB.1.1; omega
  · rw [List.getElem?_eq_none q] at z; cases z
theorem car_ne {xs : Nat → Int32} {τ : List Nat} {h : zH} (hB : zBs xs τ h) {i r : Nat} (hi : (i : Int) < (tvI (tF h 36 4)).toInt) (hr : tO h 39 i = some r) {p t : Nat} (ht : zTG[p]? = some t) (hn : t ≠ 150) : r ≠ p := by
  intro e
  subst e
  have z := car_tag hB hi hr
  rw [hB.2.1 _ _ ht] at z
  cases z
  exact hn rfl
theorem zBs_len {xs : Nat → Int32} {τ : List Nat} {h : zH} (hB : zBs xs τ h) : 182 ≤ h.length := by
  have z := hB.2.1 181 149 rfl
  rcases Nat.lt_or_ge 181 τ.length with q | q
  · have := hB.1.1; omega
  · rw [List.getElem?_eq_none q] at z; cases z
/-- a count: what is told is the next of so many, or none -/
noncomputable def phN (p b : Nat) (C : Prop) (h : zH) (w : Option Value) (h2 : zH) : Prop := (C ∧ w = some (tF h p b) ∧ tF h2 p b = .int (tvI (tF h p b) + 1)) ∨ (¬ C ∧ w = some (.int (-1)) ∧ tF h2 p b = tF h p b)
theorem phN_a {p b q c : Nat} {C D : Prop} {h h2 h3 : zH} {w w2 : Option Value} (hR : tF h p b = tF h q c) (e1 : tF h2 q c = tF h q c) (e2 : tF h3 p b = tF h2 p b) (hCD : C ↔ D) (k1 : phN p b C h w h2) (k2 : phN q c D h2 w2 h3) : w2 = w ∧ tF h3 p b = tF h3 q c := by
  rcases k1 with ⟨c1, rfl, f1⟩ | ⟨c1, rfl, f1⟩ <;> rcases k2 with ⟨c2, rfl, f2⟩ | ⟨c2, rfl, f2⟩
  · rw [e2, f1, f2, e1, hR]
    exact ⟨rfl, rfl⟩
  · exact absurd (hCD.mp c1) c2
  · exact absurd (hCD.mpr c2) c1
  · rw [e2, f1, f2, e1, hR]
    exact ⟨rfl, rfl⟩
theorem zi1 {x : Int32} : x + 1 - 1 = x := Int32.add_sub_cancel x 1
/-- a count and what is told in arrays at its place -/
noncomputable def phA (p b : Nat) (C : Prop) (l : List (Nat × Int32)) (h : zH) (w : Option Value) (h2 : zH) : Prop := (C ∧ w = some (tF h p b) ∧ tF h2 p b = .int (tvI (tF h p b) + 1) ∧ ∀ q ∈ l, tA h2 q.1 = fun j => if j = (tvI (tF h p b)).toNatClampNeg then q.2 else tA h q.1 j) ∨ (¬ C ∧ w = some (.int (-1)) ∧ tF h2 p b = tF h p b ∧ ∀ q ∈ l, tA h2 q.1 = tA h q.1)
theorem phA_a {p b q c : Nat} {C D : Prop} {l m : List (Nat × Int32)} {h h2 h3 : zH} {w w2 : Option Value} (hR : tF h p b = tF h q c) (e1 : tF h2 q c = tF h q c) (e2 : tF h3 p b = tF h2 p b) (hCD : C ↔ D) (k1 : phA p b C l h w h2) (k2 : phA q c D m h2 w2 h3) : w2 = w ∧ tF h3 p b = tF h3 q c ∧ ∀ P Q v, (P, v) ∈ l → (Q, v) ∈ m → tA h P = tA h Q → tA h2 Q = tA h Q → tA h3 P = tA h2 P → tA h3 P = tA h3 Q := by
  rcases k1 with ⟨c1, rfl, f1, g1⟩ | ⟨c1, rfl, f1, g1⟩ <;> rcases k2 with ⟨c2, rfl, f2, g2⟩ | ⟨c2, rfl, f2, g2⟩
  · refine ⟨by rw [e1, hR], by rw [e2, f1, f2, e1, hR], fun P Q v hP hQ a1 a2 a3 => ?_⟩
    rw [a3, g1 _ hP, g2 _ hQ, e1, ← hR]
    dsimp only
    rw [a1, a2]
  · exact absurd (hCD.mp c1) c2
  · exact absurd (hCD.mpr c2) c1
  · refine ⟨rfl, by rw [e2, f1, f2, e1, hR], fun P Q v hP hQ a1 a2 a3 => ?_⟩
    have h1 := g1 _ hP
    have h2 := g2 _ hQ
    dsimp only at h1 h2
    rw [a3, h1, h2, a1, a2]
theorem tA_st {h : zH} {r i : Nat} {x : Int32} {kd : Nat} {z : Int32} (hf : tIn h r kd z) {f : Nat → Int32} (k : tA h r = f) : tA (tSA h r i x) r = fun j => if j = i then x else f j := by
  rw [tA_tSA hf.cell]
  funext j
  dsimp only
  rw [k]
  by_cases e : j = i
  · rw [if_pos ⟨rfl, e⟩, if_pos e]
  · rw [if_neg (fun z => e z.2), if_neg e]
theorem tA_n {h : zH} {r i p : Nat} {x : Int32} {f : Nat → Int32} (hn : p ≠ r) (k : tA h p = f) : tA (tSA h r i x) p = f := by rw [tA_nz hn]; exact k
theorem tA_ff {h : zH} {r b p : Nat} {w : Value} {f : Nat → Int32} (k : tA h p = f) : tA (tSF h r b w) p = f := by rw [tA_tSF]; exact k
theorem tA_jj {h : zH} {r i p : Nat} {x : Int64} {f : Nat → Int32} (k : tA h p = f) : tA (tSJ h r i x) p = f := by rw [tA_tSJ]; exact k
theorem tA_oo {h : zH} {r i p : Nat} {x : Option Nat} {f : Nat → Int32} (k : tA h p = f) : tA (tSO h r i x) p = f := by rw [tA_tSO]; exact k
theorem zof {x : Int32} {n : Nat} (h : x.toInt = n) : x = Int32.ofNat n := by
  have hx := Int32.toInt_lt x
  exact Int32.toInt_inj.mp (h.trans (yofN (by omega)).symm)
theorem zof_cl {x : Int32} {n : Nat} (h : x.toInt = n) : x.toNatClampNeg = n := by rw [zclE, h]; rfl
theorem zincN {x : Int32} {n : Nat} (h : x.toInt = n) (hn : n < 2147483647) : (x + 1).toInt = ((n + 1 : Nat) : Int) := by
  rw [Int32.toInt_add, h]
  exact Int.bmod_eq_of_le (by show (-2147483648 : Int) ≤ (n : Int) + 1; omega) (by show (n : Int) + 1 < (2147483648 : Int); omega)
theorem zen {x y : Int32} {n : Nat} (hx : x.toInt = n) (hn : (n : Int) ≤ y.toInt) (hq : y.toInt ≤ x.toInt) : n = y.toNatClampNeg := by
  rw [zclE]
  omega
theorem zincL {x y : Int32} {n : Nat} (h : x.toInt = n) (hy : x.toInt < y.toInt) : (x + 1).toInt = ((n + 1 : Nat) : Int) := zincN h (by have := Int32.toInt_lt y; omega)
/-- the begin of a step behind the first n -/
noncomputable def sBe (m : Int32) (e : Nat → Int32) : Nat → Int32
  | 0 => 0
  | n + 1 => if (m >>> (Int32.ofNat n &&& 31)) &&& 1 = 1 then (if sBe m e n < e n then e n else sBe m e n) else sBe m e n
theorem f_isBehind {G : zG} (hG : G.1 = zProg) {h : zH} {s k : Int32} (hs : tSh h) : tC zTt G 49 [.ref 81, .int s, .int k] h (fun w h2 => tBo ((tA h 84 s.toNatClampNeg >>> (k &&& 31)) &&& 1 = 1) w ∧ h2 = h) := by
  refine tC_in (by rw [hG]; rfl) (fun dp => ?_)
  refine tw_aload rfl rfl ?_
  refine tw_getS rfl (hs_81_2 hs) ?_
  refine tw_iload rfl rfl ?_
  refine tw_iald rfl (fun f1 => ?_)
  refine tw_iload rfl rfl ?_
  refine tw_ishr rfl ?_
  refine tw_push rfl ?_
  refine tw_iand rfl ?_
  refine tw_push rfl ?_
  refine tw_ic_ne rfl (fun q2 => ?_) (fun q2 => ?_)
  · try dsimp only [tvI_i, tvJ_j, tvR_r] at q2
    have q2i := zneq (Y := 1) (by decide) q2
    refine tw_push rfl ?_
    exact tw_iret rfl ⟨Or.inr ⟨q2, rfl⟩, rfl⟩
  · try dsimp only [tvI_i, tvJ_j, tvR_r] at q2
    have q2i := zeqi (Y := 1) (by decide) q2
    refine tw_push rfl ?_
    refine tw_goto rfl ?_
    exact tw_iret rfl ⟨Or.inl ⟨q2, rfl⟩, rfl⟩
theorem sBe_y {m : Int32} {e : Nat → Int32} {n : Nat} (h : (m >>> (Int32.ofNat n &&& 31)) &&& 1 = 1) (hn : (Int32.ofNat n).toNatClampNeg = n) : sBe m e (n + 1) = if sBe m e n < e (Int32.ofNat n).toNatClampNeg then e (Int32.ofNat n).toNatClampNeg else sBe m e n := by
  rw [hn]
  show (if _ then _ else _) = _
  rw [if_pos h]
theorem sBe_n {m : Int32} {e : Nat → Int32} {n : Nat} (h : ¬ (m >>> (Int32.ofNat n &&& 31)) &&& 1 = 1) : sBe m e (n + 1) = sBe m e n := by
  show (if _ then _ else _) = _
  rw [if_neg h]
theorem f_beginOf {G : zG} (hG : G.1 = zProg) {h : zH} {s : Int32} {P : Nat} (hs : tSh h) (h0 : 0 ≤ s.toInt) : tC zTt G 48 [.ref 81, .int s, .ref P] h (fun w h2 => w = some (.int (sBe (tA h 84 s.toNatClampNeg) (tA h P) s.toNatClampNeg)) ∧ h2 = h) := by
  refine tC_in (by rw [hG]; rfl) (fun dp => ?_)
  refine tw_push rfl ?_
  refine tw_istore rfl ?_
  refine tw_push rfl ?_
  refine tw_istore rfl ?_
  refine tG_loop (zW_mono zTt G dp) (zW_conj zTt G dp) (V := fun pc L st h9 _ _ => pc = 5 ∧ st = [] ∧ h = h9 ∧ ∃ (k : Nat) (x : Int32), x.toInt = k ∧ (k : Int) ≤ s.toInt ∧ L = [some (.ref 81), some (.int s), some (.ref P), some (.int (sBe (tA h 84 s.toNatClampNeg) (tA h P) k)), some (.int x)]) ?_ (⟨rfl, rfl, rfl, 0, 0, rfl, h0, rfl⟩)
  rintro _ _ _ _ _ _ ⟨rfl, rfl, rfl, k, x, hx, hk, rfl⟩
  refine tw_iload rfl rfl ?_
  refine tw_iload rfl rfl ?_
  refine tw_ic_ge rfl (fun q3 => ?_) (fun q3 => ?_)
  · try dsimp only [tvI_i, tvJ_j, tvR_r] at q3
    refine tw_iload rfl rfl ?_
    exact tw_iret rfl ⟨by rw [show k = s.toNatClampNeg from by rw [zclE]; omega]; rfl, rfl⟩
  · try dsimp only [tvI_i, tvJ_j, tvR_r] at q3
    refine tw_aload rfl rfl ?_
    refine tw_iload rfl rfl ?_
    refine tw_iload rfl rfl ?_
    refine tw_virt2 rfl (f_isBehind hG hs) (fun w9 h9 p4 => ?_)
    obtain ⟨⟨p4, rfl⟩ | ⟨p4, rfl⟩, rfl⟩ := p4
    · try dsimp only [tvI_i, tvJ_j, tvR_r] at p4
      refine tw_if_eq rfl (fun z => absurd z (by decide)) (fun _ => ?_)
      refine tw_iload rfl rfl ?_
      refine tw_aload rfl rfl ?_
      refine tw_iload rfl rfl ?_
      refine tw_iald rfl (fun f5 => ?_)
      refine tw_imax rfl ?_
      refine tw_istore rfl ?_
      refine tw_iinc rfl rfl ?_
      refine tw_goto rfl ?_
      have hk := zof hx
      subst hk
      exact tG_cut (zW_mono zTt G dp) (Or.inr ⟨rfl, rfl, rfl, k + 1, _, zincN hx (by have := Int32.toInt_lt s; omega), by omega, by rw [sBe_y p4 (zof_cl hx)]; rfl⟩)
    · try dsimp only [tvI_i, tvJ_j, tvR_r] at p4
      refine tw_if_eq rfl (fun _ => ?_) (fun z => absurd z (by decide))
      refine tw_iinc rfl rfl ?_
      refine tw_goto rfl ?_
      have hk := zof hx
      subst hk
      exact tG_cut (zW_mono zTt G dp) (Or.inr ⟨rfl, rfl, rfl, k + 1, _, zincN hx (by have := Int32.toInt_lt s; omega), by omega, by rw [sBe_n p4]; rfl⟩)
theorem tC.and {tt : zT} {G : zG} {j : Nat} {as : List Value} {h : zH} {P Q : zQ} (k1 : tC tt G j as h P) (k2 : tC tt G j as h Q) : tC tt G j as h (fun w h2 => P w h2 ∧ Q w h2) := fun d z => zW_conj tt G d _ _ _ _ _ (k1 d z) (k2 d z)
theorem sBe_u {m : Int32} {e : Nat → Int32} {n : Nat} : sBe m e (n + 1) = if (m >>> (Int32.ofNat n &&& 31)) &&& 1 = 1 then (if sBe m e n < e n then e n else sBe m e n) else sBe m e n := rfl
theorem sBe_congr {m : Int32} {e e2 : Nat → Int32} : ∀ {n : Nat}, (∀ i, i < n → e i = e2 i) → sBe m e n = sBe m e2 n
  | 0, _ => rfl
  | n + 1, hh => by
    have h1 := sBe_congr (m := m) (n := n) (fun i hi => hh i (by omega))
    rw [sBe_u, sBe_u, h1, hh n (by omega)]
theorem sBe_s1 {m X : Int32} {e : Nat → Int32} {n : Nat} (hb : (m >>> (Int32.ofNat n &&& 31)) &&& 1 = 1) (hX : X = sBe m e n) (hl : X.toInt < (e n).toInt) : e n = sBe m e (n + 1) := by
  rw [sBe_u, if_pos hb, ← hX, if_pos (Int32.lt_iff_toInt_lt.mpr hl)]
theorem sBe_s2 {m X : Int32} {e : Nat → Int32} {n : Nat} (hb : (m >>> (Int32.ofNat n &&& 31)) &&& 1 = 1) (hX : X = sBe m e n) (hl : (e n).toInt ≤ X.toInt) : X = sBe m e (n + 1) := by
  rw [sBe_u, if_pos hb, ← hX, if_neg (fun z => by have := Int32.lt_iff_toInt_lt.mp z; omega)]
theorem sBe_s3 {m X : Int32} {e : Nat → Int32} {n : Nat} (hb : ¬ (m >>> (Int32.ofNat n &&& 31)) &&& 1 = 1) (hX : X = sBe m e n) : X = sBe m e (n + 1) := by
  rw [sBe_u, if_neg hb, ← hX]
/-- two lists of ends that are found alike are alike -/
theorem sUniq {be : Nat → Int32} {l l2 E E2 : Nat → Int32} {n : Nat} (hl : ∀ j, j < n → l j = l2 j) (h1 : ∀ j, j < n → E j = sBe (be j) E j + l j) (h2 : ∀ j, j < n → E2 j = sBe (be j) E2 j + l2 j) : ∀ j, j < n → E j = E2 j := by
  have key : ∀ k, k ≤ n → ∀ j, j < k → E j = E2 j := by
    intro k
    induction k with
    | zero => intro _ j hj; omega
    | succ k ih =>
      intro hk j hj
      by_cases e : j = k
      · subst e
        rw [h1 j (by omega), h2 j (by omega), hl j (by omega), sBe_congr (ih (by omega))]
      · exact ih (by omega) j (by omega)
  exact key n (Nat.le_refl n)
noncomputable def gLen (fi mo : Nat → Int32) (w : Int32) (j : Nat) : Int32 := if fi j = w then 0 else mo j
theorem gLen_y {fi mo : Nat → Int32} {w : Int32} {j : Nat} (h : fi j = w) : (0 : Int32) = gLen fi mo w j := by unfold gLen; rw [if_pos h]
theorem gLen_n {fi mo : Nat → Int32} {w : Int32} {j : Nat} (h : ¬ fi j = w) : mo j = gLen fi mo w j := by unfold gLen; rw [if_neg h]
noncomputable def gEnd (B l : Nat → Int32) : Nat → Int32
  | 0 => 0
  | n + 1 => B n + l n
noncomputable def gP (be l B : Nat → Int32) (k : Nat) : Prop := ∀ j, j < k → B j = sBe (be j) (fun i => B i + l i) j
theorem gP_E {be l B : Nat → Int32} {k : Nat} (h : gP be l B k) : ∀ j, j < k → (fun i => B i + l i) j = sBe (be j) (fun i => B i + l i) j + l j := by
  intro j hj
  show B j + l j = _
  rw [← h j hj]
theorem gP_st {be l B : Nat → Int32} {k m : Nat} {X : Int32} (h : gP be l B k) (hm : m ≤ k) (hX : X = sBe (be k) (fun i => B i + l i) m) : gP be l (fun j => if j = k then X else B j) k ∧ (fun j => if j = k then X else B j) k = sBe (be k) (fun i => (fun j => if j = k then X else B j) i + l i) m := by
  refine ⟨fun j hj => ?_, ?_⟩
  · show (if j = k then X else B j) = sBe _ (fun i => (if i = k then X else B i) + l i) j
    rw [if_neg (by omega), h j hj]
    exact sBe_congr (fun i hi => by
      show _ = (if i = k then X else B i) + l i
      rw [if_neg (by omega)])
  · show (if k = k then X else B k) = sBe _ (fun i => (if i = k then X else B i) + l i) m
    rw [if_pos rfl, hX]
    exact sBe_congr (fun i hi => by
      show _ = (if i = k then _ else B i) + l i
      rw [if_neg (by omega)])
noncomputable def gFr (q : Nat) (h h1 : zH) : Prop := tF h1 = tF h ∧ ∀ p, p ≠ q → tA h1 p = tA h p
theorem gFr_A {q a : Nat} {h h1 : zH} {X : Int32} (k : gFr q h h1) : gFr q h (tSA h1 q a X) := ⟨(tF_tSA _ _ _ _).trans k.1, fun p hp => (tA_nz hp).trans (k.2 p hp)⟩
noncomputable def gIn (h h1 : zH) (w : Int32) (k i : Nat) : Prop := gFr 171 h h1 ∧ gP (tA h 169) (gLen (tA h 168) (tA h 167) w) (tA h1 171) k ∧ tA h1 171 k = sBe (tA h 169 k) (fun j => tA h1 171 j + gLen (tA h 168) (tA h 167) w j) i
noncomputable def gOut (h h1 : zH) (w : Int32) (k : Nat) (e : Int32) : Prop := gFr 171 h h1 ∧ gP (tA h 169) (gLen (tA h 168) (tA h 167) w) (tA h1 171) k ∧ e = gEnd (tA h1 171) (gLen (tA h 168) (tA h 167) w) k
section GG
variable {h h1 : zH} {w x y v X : Int32} {k i kd : Nat} {z : Int32}
theorem g_st (hF : gFr 171 h h1) (hP : gP (tA h 169) (gLen (tA h 168) (tA h 167) w) (tA h1 171) k) (hx : x.toInt = k) (hf : tIn h1 171 kd z) (hi : i ≤ k) (hX : X = sBe (tA h 169 k) (fun j => tA h1 171 j + gLen (tA h 168) (tA h 167) w j) i) : gIn h (tSA h1 171 x.toNatClampNeg X) w k i := by
  have e : tA (tSA h1 171 x.toNatClampNeg X) 171 = fun j => if j = k then X else tA h1 171 j := by
    rw [zof_cl hx]
    exact tA_st hf rfl
  refine ⟨gFr_A hF, ?_⟩
  rw [e]
  exact gP_st hP hi hX
theorem g_len1 (hF : gFr 171 h h1) (hx : x.toInt = k) (q : tA h1 168 x.toNatClampNeg = w) : (0 : Int32) = gLen (tA h 168) (tA h 167) w k := gLen_y (by rw [← hF.2 168 (by decide), ← zof_cl hx]; exact q)
theorem g_len2 (hF : gFr 171 h h1) (hx : x.toInt = k) (q : ¬ tA h1 168 x.toNatClampNeg = w) : tA h1 167 x.toNatClampNeg = gLen (tA h 168) (tA h 167) w k := by
  rw [hF.2 168 (by decide), zof_cl hx] at q
  rw [hF.2 167 (by decide), zof_cl hx]
  exact gLen_n q
theorem gX_a (hI : gIn h h1 w k i) (hx : x.toInt = k) (hy : y.toInt = i) (hv : v = gLen (tA h 168) (tA h 167) w i) (qb : (tA h1 169 x.toNatClampNeg >>> (y &&& 31)) &&& 1 = 1) (ql : (tA h1 171 x.toNatClampNeg).toInt < (tA h1 171 y.toNatClampNeg + v).toInt) : tA h1 171 y.toNatClampNeg + v = sBe (tA h 169 k) (fun j => tA h1 171 j + gLen (tA h 168) (tA h 167) w j) (i + 1) := by
  rw [hI.1.2 169 (by decide), zof_cl hx, zof hy] at qb
  rw [zof_cl hx, zof_cl hy, hv] at ql
  rw [zof_cl hy, hv]
  exact sBe_s1 (e := fun j => tA h1 171 j + gLen (tA h 168) (tA h 167) w j) (n := i) qb hI.2.2 ql
theorem gX_b (hI : gIn h h1 w k i) (hx : x.toInt = k) (hy : y.toInt = i) (hv : v = gLen (tA h 168) (tA h 167) w i) (qb : (tA h1 169 x.toNatClampNeg >>> (y &&& 31)) &&& 1 = 1) (ql : (tA h1 171 y.toNatClampNeg + v).toInt ≤ (tA h1 171 x.toNatClampNeg).toInt) : tA h1 171 x.toNatClampNeg = sBe (tA h 169 k) (fun j => tA h1 171 j + gLen (tA h 168) (tA h 167) w j) (i + 1) := by
  rw [hI.1.2 169 (by decide), zof_cl hx, zof hy] at qb
  rw [zof_cl hx, zof_cl hy, hv] at ql
  rw [zof_cl hx]
  exact sBe_s2 (e := fun j => tA h1 171 j + gLen (tA h 168) (tA h 167) w j) (n := i) qb hI.2.2 ql
theorem gX_c (hI : gIn h h1 w k i) (hx : x.toInt = k) (hy : y.toInt = i) (qb : ¬ (tA h1 169 x.toNatClampNeg >>> (y &&& 31)) &&& 1 = 1) : tA h1 171 x.toNatClampNeg = sBe (tA h 169 k) (fun j => tA h1 171 j + gLen (tA h 168) (tA h 167) w j) (i + 1) := by
  rw [hI.1.2 169 (by decide), zof_cl hx, zof hy] at qb
  rw [zof_cl hx]
  exact sBe_s3 (e := fun j => tA h1 171 j + gLen (tA h 168) (tA h 167) w j) (n := i) qb hI.2.2
theorem g_out (hI : gIn h h1 w k k) (hx : x.toInt = k) (hv : v = gLen (tA h 168) (tA h 167) w k) : gOut h h1 w (k + 1) (tA h1 171 x.toNatClampNeg + v) := by
  refine ⟨hI.1, fun j hj => ?_, ?_⟩
  · by_cases e : j = k
    · rw [e]; exact hI.2.2
    · exact hI.2.1 j (by omega)
  · rw [zof_cl hx, hv]
    rfl
end GG
noncomputable def dIn (h h1 : zH) (w : Int32) (k : Nat) : Prop := gFr 88 h h1 ∧ ∀ j, j < k → tA h1 88 j = sBe (tA h 84 j) (tA h1 88) j + gLen (tA h 83) (tA h 82) w j
theorem d_st {h h1 : zH} {w x v : Int32} {k kd : Nat} {z : Int32} (hD : dIn h h1 w k) (hx : x.toInt = k) (hf : tIn h1 88 kd z) (hv : v = gLen (tA h 83) (tA h 82) w k) : dIn h (tSA h1 88 x.toNatClampNeg (sBe (tA h1 84 x.toNatClampNeg) (tA h1 88) x.toNatClampNeg + v)) w (k + 1) := by
  have e : ∀ X, tA (tSA h1 88 x.toNatClampNeg X) 88 = fun j => if j = k then X else tA h1 88 j := by
    intro X
    rw [zof_cl hx]
    exact tA_st hf rfl
  refine ⟨gFr_A hD.1, fun j hj => ?_⟩
  rw [e, hD.1.2 84 (by decide), zof_cl hx, hv]
  have cg : ∀ m (X : Int32), sBe m (fun i => if i = k then X else tA h1 88 i) j = sBe m (tA h1 88) j := fun m X => sBe_congr (fun i hi => if_neg (by omega))
  rw [cg]
  by_cases q : j = k
  · subst q; exact if_pos rfl
  · show (if j = k then _ else _) = _
    rw [if_neg q]
    exact hD.2 j (by omega)
theorem d_len1 {h h1 : zH} {w x : Int32} {k : Nat} (hF : gFr 88 h h1) (hx : x.toInt = k) (q : tA h1 83 x.toNatClampNeg = w) : (0 : Int32) = gLen (tA h 83) (tA h 82) w k := gLen_y (by rw [← hF.2 83 (by decide), ← zof_cl hx]; exact q)
theorem d_len2 {h h1 : zH} {w x : Int32} {k : Nat} (hF : gFr 88 h h1) (hx : x.toInt = k) (q : ¬ tA h1 83 x.toNatClampNeg = w) : tA h1 82 x.toNatClampNeg = gLen (tA h 83) (tA h 82) w k := by
  rw [hF.2 83 (by decide), zof_cl hx] at q
  rw [hF.2 82 (by decide), zof_cl hx]
  exact gLen_n q
theorem zpredN {x : Int32} (h : 0 < x.toInt) : (x - 1).toNatClampNeg = x.toNatClampNeg - 1 := by
  rw [zclE, zclE, zsub1 (by omega)]
  omega
theorem sbe_add {h : zH} {n : Nat} {m f y c : Int32} {kd : Nat} {i : Int32} (h84 : tIn (tSA (tSA h 82 n m) 83 n f) 84 kd i) : sBe (tA (tSA (tSA (tSA (tSA h 82 n m) 83 n f) 84 n y) 85 n c) 84 n) (tA (tSA (tSA (tSA (tSA h 82 n m) 83 n f) 84 n y) 85 n c) 87) n = sBe y (tA h 87) n := by
  have e1 : tA (tSA (tSA (tSA (tSA h 82 n m) 83 n f) 84 n y) 85 n c) 84 n = y := by
    rw [tA_nz (by decide), tA_tSA h84.cell]
    exact if_pos ⟨rfl, rfl⟩
  have e2 : tA (tSA (tSA (tSA (tSA h 82 n m) 83 n f) 84 n y) 85 n c) 87 = tA h 87 := by
    rw [tA_nz (by decide), tA_nz (by decide), tA_nz (by decide), tA_nz (by decide)]
  rw [e1, e2]
/-- what a change costs -/
noncomputable def sCo (b e c m : Int32) : Int32 := if e.toInt ≤ m.toInt then 9 * c else if b.toInt ≤ m.toInt then 3 * c else c
theorem sCo_1 {b e c m : Int32} (h : e.toInt ≤ m.toInt) : 9 * c = sCo b e c m := by unfold sCo; rw [if_pos h]
theorem sCo_2 {b e c m : Int32} (h : m.toInt < e.toInt) (h2 : b.toInt ≤ m.toInt) : 3 * c = sCo b e c m := by unfold sCo; rw [if_neg (by omega), if_pos h2]
theorem sCo_3 {b e c m : Int32} (h : m.toInt < e.toInt) (h2 : m.toInt < b.toInt) : c = sCo b e c m := by unfold sCo; rw [if_neg (by omega), if_neg (by omega)]
/-- the last month of the first n that costs no more -/
noncomputable def sLm (f : Int32 → Int32) (p : Int32) : Nat → Int32
  | 0 => -1
  | n + 1 => if (f (Int32.ofNat n)).toInt ≤ p.toInt then Int32.ofNat n else sLm f p n
theorem sLm_at {f : Int32 → Int32} {p x : Int32} {k : Nat} (hx : x.toInt = (k : Int) - 1) (h0 : 0 ≤ x.toInt) : sLm f p k = if (f x).toInt ≤ p.toInt then x else sLm f p (k - 1) := by
  obtain ⟨j, rfl⟩ : ∃ j, k = j + 1 := ⟨k - 1, by omega⟩
  have e : x = Int32.ofNat j := zof (by omega)
  rw [e]
  rfl
theorem sLm_y {f : Int32 → Int32} {p x : Int32} {k m : Nat} (hx : x.toInt = (k : Int) - 1) (h0 : 0 ≤ x.toInt) (q : (f x).toInt ≤ p.toInt) (e : sLm f p k = sLm f p m) : x = sLm f p m := by
  rw [← e, sLm_at hx h0, if_pos q]
theorem sLm_n {f : Int32 → Int32} {p x : Int32} {k m : Nat} (hx : x.toInt = (k : Int) - 1) (h0 : 0 ≤ x.toInt) (q : p.toInt < (f x).toInt) (e : sLm f p k = sLm f p m) : sLm f p (k - 1) = sLm f p m := by
  rw [← e, sLm_at hx h0, if_neg (by omega)]
theorem sLm_z {f : Int32 → Int32} {p x : Int32} {k m : Nat} (hx : x.toInt = (k : Int) - 1) (h0 : x.toInt < 0) (e : sLm f p k = sLm f p m) : x = sLm f p m := by
  have hk : k = 0 := by omega
  subst hk
  rw [← e]
  exact Int32.toInt_inj.mp (by rw [hx]; rfl)
theorem zdecI {x : Int32} (h : 0 ≤ x.toInt) : (x + (-1)).toInt = x.toInt - 1 := by
  have := Int32.toInt_lt x
  rw [Int32.toInt_add, show (-1 : Int32).toInt = -1 from rfl]
  exact Int.bmod_eq_of_le (by show (-2147483648 : Int) ≤ x.toInt + -1; omega) (by show x.toInt + -1 < (2147483648 : Int); omega)
noncomputable def bI (x : Int32) (c : Nat) : Prop := (x >>> (Int32.ofNat c &&& 31)) &&& 1 = 1
theorem bI_k : ∀ n, n < 32 → ((Int32.ofNat n) &&& 31).toBitVec.smod 32 = BitVec.ofNat 32 n := by decide +kernel
theorem bI_g {x : Int32} {n : Nat} (h : n < 32) : bI x n ↔ x.toBitVec.getLsbD n = true := by
  have hk := bI_k n h
  have e : ((x >>> (Int32.ofNat n &&& 31)) &&& 1).toBitVec = (x.toBitVec.sshiftRight n) &&& 1#32 := by
    show (x.toBitVec.sshiftRight' ((Int32.ofNat n &&& 31).toBitVec.smod 32)) &&& 1#32 = _
    rw [hk]
    show (x.toBitVec.sshiftRight (BitVec.ofNat 32 n).toNat) &&& 1#32 = _
    rw [BitVec.toNat_ofNat, Nat.mod_eq_of_lt (by omega)]
  have e2 : (x.toBitVec.sshiftRight n).getLsbD 0 = x.toBitVec.getLsbD n := by
    rw [BitVec.getLsbD_sshiftRight]
    simp
    intro z
    omega
  unfold bI
  rw [← Int32.toBitVec_inj, e, BitVec.and_one_eq_setWidth_ofBool_getLsbD, e2]
  cases x.toBitVec.getLsbD n <;> decide
theorem bI_or {x : Int32} {n m : Nat} (hn : n < 32) (hm : m < 32) : bI (x ||| ((1 : Int32) <<< (Int32.ofNat m &&& 31))) n ↔ bI x n ∨ n = m := by
  have hk := bI_k m hm
  rw [bI_g hn, bI_g hn]
  have e : (x ||| ((1 : Int32) <<< (Int32.ofNat m &&& 31))).toBitVec = x.toBitVec ||| ((1#32) <<< m) := by
    show x.toBitVec ||| ((1#32) <<< ((Int32.ofNat m &&& 31).toBitVec.smod 32)) = _
    rw [hk]
    show x.toBitVec ||| ((1#32) <<< (BitVec.ofNat 32 m).toNat) = _
    rw [BitVec.toNat_ofNat, Nat.mod_eq_of_lt (by omega)]
  rw [e, BitVec.getLsbD_or, BitVec.getLsbD_shiftLeft, BitVec.getLsbD_one, Bool.or_eq_true]
  have e3 : (decide (n < 32) && !decide (n < m) && (decide (0 < 32) && decide (n - m = 0))) = true ↔ n = m := by
    constructor
    · intro z
      simp at z
      omega
    · rintro rfl
      simp
      omega
  rw [← e3]
theorem bI_0 {n : Nat} (hn : n < 32) : ¬ bI 0 n := by
  rw [bI_g hn]
  show ¬ (0#32).getLsbD _ = true
  simp
theorem zmul3 {k p : Int32} (hk : 0 ≤ k.toInt ∧ k.toInt ≤ 1000) (hp : 0 ≤ p.toInt ∧ p.toInt ≤ 1000) : (300 * k + p).toNatClampNeg = 300 * k.toNatClampNeg + p.toNatClampNeg := by
  have e1 : (300 * k).toInt = 300 * k.toInt := by
    rw [Int32.toInt_mul, show (300 : Int32).toInt = 300 from rfl]
    exact Int.bmod_eq_of_le (by show (-2147483648 : Int) ≤ _; omega) (by show _ < (2147483648 : Int); omega)
  have e2 : (300 * k + p).toInt = 300 * k.toInt + p.toInt := by
    rw [Int32.toInt_add, e1]
    exact Int.bmod_eq_of_le (by show (-2147483648 : Int) ≤ _; omega) (by show _ < (2147483648 : Int); omega)
  rw [zclE, zclE, zclE, e2]
  omega
/-- the owner that the first n sales leave, whenever they are told -/
noncomputable def sLo (ca to : Nat → Int32) (i : Nat) (d : Int32) : Nat → Int32
  | 0 => d
  | n + 1 => if (ca n).toNatClampNeg = i then to n else sLo ca to i d n
theorem sLo_congr {ca to ca2 to2 : Nat → Int32} {i : Nat} {d : Int32} : ∀ {n : Nat}, (∀ k, k < n → ca k = ca2 k ∧ to k = to2 k) → sLo ca to i d n = sLo ca2 to2 i d n
  | 0, _ => rfl
  | n + 1, hh => by
    show (if _ then _ else _) = if _ then _ else _
    rw [sLo_congr (n := n) (fun k hk => hh k (by omega)), (hh n (by omega)).1, (hh n (by omega)).2]
theorem sLo_none {ca to : Nat → Int32} {i : Nat} {d : Int32} : ∀ {n : Nat}, (∀ k, k < n → (ca k).toNatClampNeg ≠ i) → sLo ca to i d n = d
  | 0, _ => rfl
  | n + 1, hh => by
    show (if _ then _ else _) = _
    rw [if_neg (hh n (by omega)), sLo_none (n := n) (fun k hk => hh k (by omega))]
noncomputable def sOw (ca to mo ti : Nat → Int32) (c m k d : Int32) : Nat → Int32
  | 0 => d
  | n + 1 => if ca n = c ∧ (ti n).toInt ≤ k.toInt ∧ (mo n).toInt ≤ m.toInt then to n else sOw ca to mo ti c m k d n
theorem sOw_y {ca to mo ti : Nat → Int32} {c m k d x y : Int32} {n : Nat} (hx : x.toInt = n) (h1 : ca x.toNatClampNeg = c) (h2 : (ti x.toNatClampNeg).toInt ≤ k.toInt) (h3 : (mo x.toNatClampNeg).toInt ≤ m.toInt) : to x.toNatClampNeg = sOw ca to mo ti c m k d (n + 1) := by
  rw [zof_cl hx] at *
  show _ = if _ then _ else _
  rw [if_pos ⟨h1, h2, h3⟩]
theorem sOw_n {ca to mo ti : Nat → Int32} {c m k d x y : Int32} {n : Nat} (hx : x.toInt = n) (hy : y = sOw ca to mo ti c m k d n) (h : ¬ (ca x.toNatClampNeg = c ∧ (ti x.toNatClampNeg).toInt ≤ k.toInt ∧ (mo x.toNatClampNeg).toInt ≤ m.toInt)) : y = sOw ca to mo ti c m k d (n + 1) := by
  rw [zof_cl hx] at h
  rw [hy]
  show _ = if _ then _ else _
  rw [if_neg h]
theorem sOw_low {ca to mo ti : Nat → Int32} {c k d : Int32} (hc : 0 ≤ c.toInt) : ∀ {n : Nat}, (∀ j, j < n → (ti j).toInt ≤ k.toInt ∧ (mo j).toInt ≤ k.toInt ∧ 0 ≤ (ca j).toInt) → sOw ca to mo ti c k k d n = sLo ca to c.toNatClampNeg d n
  | 0, _ => rfl
  | n + 1, hh => by
    obtain ⟨a1, a2, a3⟩ := hh n (by omega)
    show (if _ then _ else _) = if _ then _ else _
    rw [sOw_low hc (n := n) (fun j hj => hh j (by omega))]
    by_cases e : ca n = c
    · rw [if_pos ⟨e, a1, a2⟩, if_pos (by rw [e])]
    · rw [if_neg (fun z => e z.1), if_neg]
      intro z
      rw [zclE, zclE] at z
      exact e (Int32.toInt_inj.mp (by omega))
/-- how many of the first n -/
noncomputable def sCn (P : Nat → Bool) : Nat → Int32
  | 0 => 0
  | n + 1 => if P n = true then sCn P n + 1 else sCn P n
theorem sCn_y {P : Nat → Bool} {n : Nat} {y : Int32} (hy : y = sCn P n) (h : P n = true) : y + 1 = sCn P (n + 1) := by
  rw [hy]
  show _ = if _ then _ else _
  rw [if_pos h]
theorem sCn_n {P : Nat → Bool} {n : Nat} {y : Int32} (hy : y = sCn P n) (h : ¬ P n = true) : y = sCn P (n + 1) := by
  rw [hy]
  show _ = if _ then _ else _
  rw [if_neg h]
theorem sCn_congr {P P2 : Nat → Bool} : ∀ {n : Nat}, (∀ i, i < n → P i = P2 i) → sCn P n = sCn P2 n
  | 0, _ => rfl
  | n + 1, hh => by
    show (if _ then _ else _) = if _ then _ else _
    rw [sCn_congr (n := n) (fun i hi => hh i (by omega)), hh n (by omega)]
theorem sCn_f {P : Nat → Bool} : ∀ {n : Nat}, n ≤ 1000 → 0 ≤ (sCn P n).toInt ∧ (sCn P n).toInt ≤ n
  | 0, _ => by show 0 ≤ (0 : Int32).toInt ∧ (0 : Int32).toInt ≤ _; decide
  | n + 1, hn => by
    have h1 := sCn_f (P := P) (n := n) (by omega)
    show 0 ≤ (if _ then _ else _ : Int32).toInt ∧ (if _ then _ else _ : Int32).toInt ≤ _
    by_cases e : P n = true
    · rw [if_pos e, zincN (n := (sCn P n).toInt.toNat) (by omega) (by omega)]; omega
    · rw [if_neg e]; omega
/-- the call's cars that wait for it -/
noncomputable def lfB (ka kf kl kd mk wr mm : Nat → Int32) (C i : Nat) : Bool := decide ((kd i = ka C ∧ (kf C).toInt ≤ (mk i).toInt ∧ (mk i).toInt ≤ (kl C).toInt) ∧ (wr i).toInt = 0 ∧ mm (300 * C + i) = 0)
noncomputable abbrev lfC (h : zH) (C i : Nat) : Bool := lfB (tA h 90) (tA h 91) (tA h 92) (tA h 121) (tA h 122) (tA h 120) (tA h 177) C i
noncomputable abbrev lfM (h : zH) (C i : Nat) : Bool := lfB (tA h 173) (tA h 174) (tA h 175) (tA h 121) (tA h 122) (tA h 120) (tA h 177) C i
noncomputable abbrev ltC (h : zH) (C i : Nat) : Bool := lfC h C i && decide ((tA h 38 (tA h 125 i).toNatClampNeg).toInt = 0)
noncomputable abbrev ltM (h : zH) (C i : Nat) : Bool := lfM h C i && decide ((tA h 119 (sOw (tA h 128) (tA h 129) (tA h 130) (tA h 131) (Int32.ofNat i) (tvI (tF h 111 1)) (tvI (tF h 111 1)) (tA h 124 i) (tvI (tF h 111 6)).toNatClampNeg).toNatClampNeg).toInt = 0)
noncomputable def R_now (h : zH) : Prop := tF h 0 14 = tF h 111 1
noncomputable def ph_clock (p b : Nat) (month : Int32) (h : zH) (w : Option Value) (h2 : zH) : Prop := (((tvI (tF h p b)).toInt ≤ month.toInt ∧ month.toInt ≤ 599) ∧ w = some (.int 1) ∧ tF h2 p b = .int month) ∨ (¬ ((tvI (tF h p b)).toInt ≤ month.toInt ∧ month.toInt ≤ 599) ∧ w = some (.int 0) ∧ tF h2 p b = tF h p b)
theorem f_isWithin {G : zG} (hG : G.1 = zProg) {h : zH} {n lo hi : Int32} {LO HI : Int} (hlo : lo.toInt = LO) (hhi : hi.toInt = HI) : tC zTt G 158 [.int n, .int lo, .int hi] h (fun w h2 => tBo (LO ≤ n.toInt ∧ n.toInt ≤ HI) w ∧ h2 = h) := by
  refine tC_in (by rw [hG]; rfl) (fun dp => ?_)
  refine tw_iload rfl rfl ?_
  refine tw_iload rfl rfl ?_
  refine tw_ic_lt rfl (fun q6 => ?_) (fun q6 => ?_)
  · try dsimp only [tvI_i, tvJ_j, tvR_r] at q6
    refine tw_push rfl ?_
    exact tw_iret rfl ⟨Or.inr ⟨by omega, rfl⟩, rfl⟩
  · try dsimp only [tvI_i, tvJ_j, tvR_r] at q6
    refine tw_iload rfl rfl ?_
    refine tw_iload rfl rfl ?_
    refine tw_ic_gt rfl (fun q7 => ?_) (fun q7 => ?_)
    · try dsimp only [tvI_i, tvJ_j, tvR_r] at q7
      refine tw_push rfl ?_
      exact tw_iret rfl ⟨Or.inr ⟨by omega, rfl⟩, rfl⟩
    · try dsimp only [tvI_i, tvJ_j, tvR_r] at q7
      refine tw_push rfl ?_
      refine tw_goto rfl ?_
      exact tw_iret rfl ⟨Or.inl ⟨by omega, rfl⟩, rfl⟩
theorem f_isMonth {G : zG} (hG : G.1 = zProg) {h : zH} {n : Int32} : tC zTt G 159 [.int n] h (fun w h2 => tBo (0 ≤ n.toInt ∧ n.toInt ≤ 599) w ∧ h2 = h) := by
  refine tC_in (by rw [hG]; rfl) (fun dp => ?_)
  refine tw_iload rfl rfl ?_
  refine tw_push rfl ?_
  refine tw_push rfl ?_
  refine tw_stat3 rfl (f_isWithin hG (LO := 0) (HI := 599) (by decide) (by decide)) (fun w9 h9 p8 => ?_)
  obtain ⟨⟨p8, rfl⟩ | ⟨p8, rfl⟩, rfl⟩ := p8
  · try dsimp only [tvI_i, tvJ_j, tvR_r] at p8
    exact tw_iret rfl ⟨Or.inl ⟨p8, rfl⟩, rfl⟩
  · try dsimp only [tvI_i, tvJ_j, tvR_r] at p8
    exact tw_iret rfl ⟨Or.inr ⟨p8, rfl⟩, rfl⟩
theorem f_clock {G : zG} (hG : G.1 = zProg) {h : zH} {month : Int32} (hs : tSh h) (hk : 0 ≤ (tvI (tF h 0 14)).toInt) : tC zTt G 110 [.ref 0, .int month] h (ph_clock 0 14 month h) := by
  refine tC_in (by rw [hG]; rfl) (fun dp => ?_)
  refine tw_iload rfl rfl ?_
  refine tw_stat1 rfl (f_isMonth hG) (fun w9 h9 p9 => ?_)
  obtain ⟨⟨p9, rfl⟩ | ⟨p9, rfl⟩, rfl⟩ := p9
  · try dsimp only [tvI_i, tvJ_j, tvR_r] at p9
    refine tw_if_eq rfl (fun z => absurd z (by decide)) (fun _ => ?_)
    refine tw_iload rfl rfl ?_
    refine tw_aload rfl rfl ?_
    refine tw_getS rfl (hi_0_14 hs) ?_
    refine tw_ic_ge rfl (fun q10 => ?_) (fun q10 => ?_)
    · try dsimp only [tvI_i, tvJ_j, tvR_r] at q10
      refine tw_aload rfl rfl ?_
      refine tw_iload rfl rfl ?_
      refine tw_put rfl (fun f11 => ?_)
      refine tw_push rfl ?_
      exact tw_iret rfl (Or.inl ⟨by omega, rfl, (tF_same f11)⟩)
    · try dsimp only [tvI_i, tvJ_j, tvR_r] at q10
      refine tw_push rfl ?_
      exact tw_iret rfl (Or.inr ⟨by omega, rfl, rfl⟩)
  · try dsimp only [tvI_i, tvJ_j, tvR_r] at p9
    refine tw_if_eq rfl (fun _ => ?_) (fun z => absurd z (by decide))
    refine tw_push rfl ?_
    exact tw_iret rfl (Or.inr ⟨by omega, rfl, rfl⟩)
theorem f_in {G : zG} (hG : G.1 = zProg) {h : zH} {x lo hi : Int64} {X LO HI : Int} (hx : x.toInt = X) (hlo : lo.toInt = LO) (hhi : hi.toInt = HI) : tC zTt G 171 [.long x, .long lo, .long hi] h (fun w h2 => tBo (LO ≤ X ∧ X ≤ HI) w ∧ h2 = h) := by
  refine tC_in (by rw [hG]; rfl) (fun dp => ?_)
  refine tw_lload rfl rfl ?_
  refine tw_lload rfl rfl ?_
  refine tw_lc_lt rfl rfl (fun q12 => ?_) (fun q12 => ?_)
  · try dsimp only [tvI_i, tvJ_j, tvR_r] at q12
    refine tw_push rfl ?_
    exact tw_iret rfl ⟨Or.inr ⟨by omega, rfl⟩, rfl⟩
  · try dsimp only [tvI_i, tvJ_j, tvR_r] at q12
    refine tw_lload rfl rfl ?_
    refine tw_lload rfl rfl ?_
    refine tw_lc_gt rfl rfl (fun q13 => ?_) (fun q13 => ?_)
    · try dsimp only [tvI_i, tvJ_j, tvR_r] at q13
      refine tw_push rfl ?_
      exact tw_iret rfl ⟨Or.inr ⟨by omega, rfl⟩, rfl⟩
    · try dsimp only [tvI_i, tvJ_j, tvR_r] at q13
      refine tw_push rfl ?_
      refine tw_goto rfl ?_
      exact tw_iret rfl ⟨Or.inl ⟨by omega, rfl⟩, rfl⟩
theorem g_clock {G : zG} (hG : G.1 = zProg) {h : zH} {month : Int32} (hs : tSh h) : tC zTt G 174 [.ref 111, .int month] h (ph_clock 111 1 month h) := by
  refine tC_in (by rw [hG]; rfl) (fun dp => ?_)
  refine tw_iload rfl rfl ?_
  refine tw_i2l rfl ?_
  refine tw_aload rfl rfl ?_
  refine tw_getS rfl (hi_111_1 hs) ?_
  refine tw_i2l rfl ?_
  refine tw_push rfl ?_
  refine tw_stat3 rfl (f_in hG   (HI := 599) (Int32.toInt_toInt64 _) (Int32.toInt_toInt64 _) (by decide)) (fun w9 h9 p14 => ?_)
  obtain ⟨⟨p14, rfl⟩ | ⟨p14, rfl⟩, rfl⟩ := p14
  · try dsimp only [tvI_i, tvJ_j, tvR_r] at p14
    refine tw_if_ne rfl (fun _ => ?_) (fun z => absurd z (by decide))
    refine tw_aload rfl rfl ?_
    refine tw_iload rfl rfl ?_
    refine tw_put rfl (fun f15 => ?_)
    refine tw_push rfl ?_
    exact tw_iret rfl (Or.inl ⟨by omega, rfl, (tF_same f15)⟩)
  · try dsimp only [tvI_i, tvJ_j, tvR_r] at p14
    refine tw_if_ne rfl (fun z => absurd z (by decide)) (fun _ => ?_)
    refine tw_push rfl ?_
    exact tw_iret rfl (Or.inr ⟨by omega, rfl, rfl⟩)
theorem a_clock {month : Int32} {h h2 h3 : zH} {w w2 : Option Value} (hR : R_now h) (e1 : tF h2 111 1 = tF h 111 1) (e2 : tF h3 0 14 = tF h2 0 14) (k1 : ph_clock 0 14 month h w h2) (k2 : ph_clock 111 1 month h2 w2 h3) : w2 = w ∧ R_now h3 := by
  unfold R_now at *
  unfold ph_clock at k1 k2
  rw [e1, ← hR] at k2
  rw [e2]
  rcases k1 with ⟨c1, rfl, f1⟩ | ⟨c1, rfl, f1⟩ <;> rcases k2 with ⟨c2, rfl, f2⟩ | ⟨c2, rfl, f2⟩
  · exact ⟨rfl, f1.trans f2.symm⟩
  · exact absurd c1 c2
  · exact absurd c2 c1
  · exact ⟨rfl, f1.trans f2.symm⟩
noncomputable def R_lowt (h : zH) : Prop := ∀ k : Nat, (k : Int) < (tvI (tF h 111 6)).toInt → (tA h 131 k).toInt ≤ (tvI (tF h 111 1)).toInt ∧ (tA h 130 k).toInt ≤ (tvI (tF h 111 1)).toInt
theorem low_clock {month : Int32} {h h2 h3 : zH} {w2 : Option Value} (hL : R_lowt h) (e1 : tF h2 111 1 = tF h 111 1) (a1 : tF h3 111 6 = tF h2 111 6) (a2 : tF h2 111 6 = tF h 111 6) (b1 : tA h3 131 = tA h2 131) (b2 : tA h2 131 = tA h 131) (c1 : tA h3 130 = tA h2 130) (c2 : tA h2 130 = tA h 130) (k2 : ph_clock 111 1 month h2 w2 h3) : R_lowt h3 := by
  unfold ph_clock at k2
  rw [e1] at k2
  intro k hk
  rw [a1, a2] at hk
  rw [b1, b2, c1, c2]
  have := hL k hk
  rcases k2 with ⟨d1, -, f1⟩ | ⟨d1, -, f1⟩
  · rw [f1]
    show _ ≤ month.toInt ∧ _ ≤ month.toInt
    omega
  · rw [f1]
    exact this
noncomputable def R_rw (h : zH) : Prop := tRw h
noncomputable def R_kinds (h : zH) : Prop := tF h 1 6 = tF h 111 3
theorem f_isFirm {G : zG} (hG : G.1 = zProg) {h : zH} {n : Int32} : tC zTt G 160 [.int n] h (fun w h2 => tBo (0 ≤ n.toInt ∧ n.toInt ≤ 3) w ∧ h2 = h) := by
  refine tC_in (by rw [hG]; rfl) (fun dp => ?_)
  refine tw_iload rfl rfl ?_
  refine tw_push rfl ?_
  refine tw_push rfl ?_
  refine tw_stat3 rfl (f_isWithin hG (LO := 0) (HI := 3) (by decide) (by decide)) (fun w9 h9 p16 => ?_)
  obtain ⟨⟨p16, rfl⟩ | ⟨p16, rfl⟩, rfl⟩ := p16
  · try dsimp only [tvI_i, tvJ_j, tvR_r] at p16
    exact tw_iret rfl ⟨Or.inl ⟨p16, rfl⟩, rfl⟩
  · try dsimp only [tvI_i, tvJ_j, tvR_r] at p16
    exact tw_iret rfl ⟨Or.inr ⟨p16, rfl⟩, rfl⟩
theorem f_fill {G : zG} (hG : G.1 = zProg) {h : zH} {r : Nat} {a b c : Int32} : tC zTt G 30 [.ref r, .int a, .int b, .int c] h (fun w h2 => w = none ∧ h2 = tSA (tSA (tSA h r 0 a) r 1 b) r 2 c ∧ tIn h r 0 0 ∧ tIn (tSA h r 0 a) r 0 1 ∧ tIn (tSA (tSA h r 0 a) r 1 b) r 0 2) := by
  refine tC_in (by rw [hG]; rfl) (fun dp => ?_)
  refine tw_aload rfl rfl ?_
  refine tw_push rfl ?_
  refine tw_iload rfl rfl ?_
  refine tw_iast rfl (fun f17 => ?_)
  refine tw_aload rfl rfl ?_
  refine tw_push rfl ?_
  refine tw_iload rfl rfl ?_
  refine tw_iast rfl (fun f18 => ?_)
  refine tw_aload rfl rfl ?_
  refine tw_push rfl ?_
  refine tw_iload rfl rfl ?_
  refine tw_iast rfl (fun f19 => ?_)
  exact tw_vret rfl ⟨rfl, rfl, f17, f18, f19⟩
theorem wret1 {h : zH} {p b : Nat} (k : tF h p b = .int (tvI (tF h p b))) : some (Value.int (tvI (tF h p b) + 1 - 1)) = some (tF h p b) := by rw [zi1]; exact congrArg some k.symm
theorem f_addKind {G : zG} (hG : G.1 = zProg) {h : zH} {firm : Int32} {a : Int32} {b : Int32} {c : Int32} (hs : tSh h) (hr : tRw h) : tC zTt G 28 [.ref 1, .int firm, .int a, .int b, .int c] h (phN 1 6 ((tvI (tF h 1 6)).toInt ≠ 8) h) := by
  refine tC_in (by rw [hG]; rfl) (fun dp => ?_)
  refine tw_aload rfl rfl ?_
  refine tw_getS rfl (hi_1_6 hs) ?_
  refine tw_push rfl ?_
  refine tw_ic_ne rfl (fun q20 => ?_) (fun q20 => ?_)
  · try dsimp only [tvI_i, tvJ_j, tvR_r] at q20
    have q20i := zneq (Y := 8) (by decide) q20
    refine tw_aload rfl rfl ?_
    refine tw_getS rfl (hs_1_1 hs) ?_
    refine tw_aload rfl rfl ?_
    refine tw_getS rfl (hi_1_6 hs) ?_
    refine tw_iload rfl rfl ?_
    refine tw_iast rfl (fun f21 => ?_)
    refine tw_aload rfl rfl ?_
    refine tw_getS rfl (hs_1_2 (tSh_SA hs)) ?_
    refine tw_aload rfl rfl ?_
    refine tw_getS rfl (tF_a (hi_1_6 hs)) ?_
    refine tw_aaldS rfl (fun z => tRw_at (tRw_A hr) (p := 4) (q := 5) (by decide) z) ?_
    refine tw_iload rfl rfl ?_
    refine tw_iload rfl rfl ?_
    refine tw_iload rfl rfl ?_
    refine tw_stat4 rfl (f_fill hG) (fun wp23 hp23 p23 => ?_)
    obtain ⟨rfl, rfl, p23a, p23b, p23c⟩ := p23
    refine tw_aload rfl rfl ?_
    refine tw_dup rfl ?_
    refine tw_getS rfl (tF_a (tF_a (tF_a (tF_a (hi_1_6 hs))))) ?_
    refine tw_dup_x1 rfl ?_
    refine tw_push rfl ?_
    refine tw_iadd rfl ?_
    refine tw_put rfl (fun f24 => ?_)
    exact tw_iret rfl (Or.inl ⟨by omega, congrArg some (hi_1_6 hs).symm, (tF_same f24)⟩)
  · try dsimp only [tvI_i, tvJ_j, tvR_r] at q20
    have q20i := zeqi (Y := 8) (by decide) q20
    refine tw_push rfl ?_
    exact tw_iret rfl (Or.inr ⟨by omega, rfl, rfl⟩)
theorem f_kind {G : zG} (hG : G.1 = zProg) {h : zH} {firm : Int32} {a : Int32} {b : Int32} {c : Int32} (hs : tSh h) (hr : tRw h) : tC zTt G 113 [.ref 0, .int firm, .int a, .int b, .int c] h (phN 1 6 (((0 ≤ firm.toInt ∧ firm.toInt ≤ 3) ∧ (0 ≤ a.toInt ∧ a.toInt ≤ 99999) ∧ (0 ≤ b.toInt ∧ b.toInt ≤ 99999) ∧ (0 ≤ c.toInt ∧ c.toInt ≤ 99999)) ∧ (tvI (tF h 1 6)).toInt ≠ 8) h) := by
  refine tC_in (by rw [hG]; rfl) (fun dp => ?_)
  refine tw_iload rfl rfl ?_
  refine tw_stat1 rfl (f_isFirm hG) (fun w9 h9 p25 => ?_)
  obtain ⟨⟨p25, rfl⟩ | ⟨p25, rfl⟩, rfl⟩ := p25
  · try dsimp only [tvI_i, tvJ_j, tvR_r] at p25
    refine tw_if_eq rfl (fun z => absurd z (by decide)) (fun _ => ?_)
    refine tw_iload rfl rfl ?_
    refine tw_push rfl ?_
    refine tw_push rfl ?_
    refine tw_stat3 rfl (f_isWithin hG (LO := 0) (HI := 99999) (by decide) (by decide)) (fun w9 h9 p26 => ?_)
    obtain ⟨⟨p26, rfl⟩ | ⟨p26, rfl⟩, rfl⟩ := p26
    · try dsimp only [tvI_i, tvJ_j, tvR_r] at p26
      refine tw_if_eq rfl (fun z => absurd z (by decide)) (fun _ => ?_)
      refine tw_iload rfl rfl ?_
      refine tw_push rfl ?_
      refine tw_push rfl ?_
      refine tw_stat3 rfl (f_isWithin hG (LO := 0) (HI := 99999) (by decide) (by decide)) (fun w9 h9 p27 => ?_)
      obtain ⟨⟨p27, rfl⟩ | ⟨p27, rfl⟩, rfl⟩ := p27
      · try dsimp only [tvI_i, tvJ_j, tvR_r] at p27
        refine tw_if_eq rfl (fun z => absurd z (by decide)) (fun _ => ?_)
        refine tw_iload rfl rfl ?_
        refine tw_push rfl ?_
        refine tw_push rfl ?_
        refine tw_stat3 rfl (f_isWithin hG (LO := 0) (HI := 99999) (by decide) (by decide)) (fun w9 h9 p28 => ?_)
        obtain ⟨⟨p28, rfl⟩ | ⟨p28, rfl⟩, rfl⟩ := p28
        · try dsimp only [tvI_i, tvJ_j, tvR_r] at p28
          refine tw_if_eq rfl (fun z => absurd z (by decide)) (fun _ => ?_)
          refine tw_push rfl ?_
          refine tw_goto rfl ?_
          refine tw_istore rfl ?_
          refine tw_iload rfl rfl ?_
          refine tw_if_eq rfl (fun z => absurd z (by decide)) (fun _ => ?_)
          refine tw_aload rfl rfl ?_
          refine tw_getS rfl (hs_0_0 hs) ?_
          refine tw_iload rfl rfl ?_
          refine tw_iload rfl rfl ?_
          refine tw_iload rfl rfl ?_
          refine tw_iload rfl rfl ?_
          refine tw_virt4 rfl (f_addKind hG  hs hr) (fun w9 h9 p29 => ?_)
          rcases p29 with ⟨p29, rfl, p29e⟩ | ⟨p29, rfl, p29e⟩
          · refine tw_goto rfl ?_
            exact tw_iret rfl (Or.inl ⟨by omega, congrArg some (hi_1_6 hs).symm, p29e⟩)
          · refine tw_goto rfl ?_
            exact tw_iret rfl (Or.inr ⟨by omega, rfl, p29e⟩)
        · try dsimp only [tvI_i, tvJ_j, tvR_r] at p28
          refine tw_if_eq rfl (fun _ => ?_) (fun z => absurd z (by decide))
          refine tw_push rfl ?_
          refine tw_istore rfl ?_
          refine tw_iload rfl rfl ?_
          refine tw_if_eq rfl (fun _ => ?_) (fun z => absurd z (by decide))
          refine tw_push rfl ?_
          exact tw_iret rfl (Or.inr ⟨by omega, rfl, rfl⟩)
      · try dsimp only [tvI_i, tvJ_j, tvR_r] at p27
        refine tw_if_eq rfl (fun _ => ?_) (fun z => absurd z (by decide))
        refine tw_push rfl ?_
        refine tw_istore rfl ?_
        refine tw_iload rfl rfl ?_
        refine tw_if_eq rfl (fun _ => ?_) (fun z => absurd z (by decide))
        refine tw_push rfl ?_
        exact tw_iret rfl (Or.inr ⟨by omega, rfl, rfl⟩)
    · try dsimp only [tvI_i, tvJ_j, tvR_r] at p26
      refine tw_if_eq rfl (fun _ => ?_) (fun z => absurd z (by decide))
      refine tw_push rfl ?_
      refine tw_istore rfl ?_
      refine tw_iload rfl rfl ?_
      refine tw_if_eq rfl (fun _ => ?_) (fun z => absurd z (by decide))
      refine tw_push rfl ?_
      exact tw_iret rfl (Or.inr ⟨by omega, rfl, rfl⟩)
  · try dsimp only [tvI_i, tvJ_j, tvR_r] at p25
    refine tw_if_eq rfl (fun _ => ?_) (fun z => absurd z (by decide))
    refine tw_push rfl ?_
    refine tw_istore rfl ?_
    refine tw_iload rfl rfl ?_
    refine tw_if_eq rfl (fun _ => ?_) (fun z => absurd z (by decide))
    refine tw_push rfl ?_
    exact tw_iret rfl (Or.inr ⟨by omega, rfl, rfl⟩)
theorem g_kind {G : zG} (hG : G.1 = zProg) {h : zH} {firm : Int32} {a : Int32} {b : Int32} {c : Int32} (hs : tSh h)  : tC zTt G 181 [.ref 111, .int firm, .int a, .int b, .int c] h (phN 111 3 (((0 ≤ firm.toInt ∧ firm.toInt ≤ 3) ∧ (0 ≤ a.toInt ∧ a.toInt ≤ 99999) ∧ (0 ≤ b.toInt ∧ b.toInt ≤ 99999) ∧ (0 ≤ c.toInt ∧ c.toInt ≤ 99999)) ∧ (tvI (tF h 111 3)).toInt ≠ 8) h) := by
  refine tC_in (by rw [hG]; rfl) (fun dp => ?_)
  refine tw_aload rfl rfl ?_
  refine tw_getS rfl (hi_111_3 hs) ?_
  refine tw_push rfl ?_
  refine tw_ic_eq rfl (fun q30 => ?_) (fun q30 => ?_)
  · try dsimp only [tvI_i, tvJ_j, tvR_r] at q30
    have q30i := zeqi (Y := 8) (by decide) q30
    refine tw_push rfl ?_
    exact tw_iret rfl (Or.inr ⟨by omega, rfl, rfl⟩)
  · try dsimp only [tvI_i, tvJ_j, tvR_r] at q30
    have q30i := zneq (Y := 8) (by decide) q30
    refine tw_iload rfl rfl ?_
    refine tw_i2l rfl ?_
    refine tw_push rfl ?_
    refine tw_push rfl ?_
    refine tw_stat3 rfl (f_in hG  (LO := 0) (HI := 3) (Int32.toInt_toInt64 _) (by decide) (by decide)) (fun w9 h9 p31 => ?_)
    obtain ⟨⟨p31, rfl⟩ | ⟨p31, rfl⟩, rfl⟩ := p31
    · try dsimp only [tvI_i, tvJ_j, tvR_r] at p31
      refine tw_if_eq rfl (fun z => absurd z (by decide)) (fun _ => ?_)
      refine tw_iload rfl rfl ?_
      refine tw_i2l rfl ?_
      refine tw_push rfl ?_
      refine tw_push rfl ?_
      refine tw_stat3 rfl (f_in hG  (LO := 0) (HI := 99999) (Int32.toInt_toInt64 _) (by decide) (by decide)) (fun w9 h9 p32 => ?_)
      obtain ⟨⟨p32, rfl⟩ | ⟨p32, rfl⟩, rfl⟩ := p32
      · try dsimp only [tvI_i, tvJ_j, tvR_r] at p32
        refine tw_if_eq rfl (fun z => absurd z (by decide)) (fun _ => ?_)
        refine tw_iload rfl rfl ?_
        refine tw_i2l rfl ?_
        refine tw_push rfl ?_
        refine tw_push rfl ?_
        refine tw_stat3 rfl (f_in hG  (LO := 0) (HI := 99999) (Int32.toInt_toInt64 _) (by decide) (by decide)) (fun w9 h9 p33 => ?_)
        obtain ⟨⟨p33, rfl⟩ | ⟨p33, rfl⟩, rfl⟩ := p33
        · try dsimp only [tvI_i, tvJ_j, tvR_r] at p33
          refine tw_if_eq rfl (fun z => absurd z (by decide)) (fun _ => ?_)
          refine tw_iload rfl rfl ?_
          refine tw_i2l rfl ?_
          refine tw_push rfl ?_
          refine tw_push rfl ?_
          refine tw_stat3 rfl (f_in hG  (LO := 0) (HI := 99999) (Int32.toInt_toInt64 _) (by decide) (by decide)) (fun w9 h9 p34 => ?_)
          obtain ⟨⟨p34, rfl⟩ | ⟨p34, rfl⟩, rfl⟩ := p34
          · try dsimp only [tvI_i, tvJ_j, tvR_r] at p34
            refine tw_if_ne rfl (fun _ => ?_) (fun z => absurd z (by decide))
            refine tw_aload rfl rfl ?_
            refine tw_getS rfl (hs_111_9 hs) ?_
            refine tw_aload rfl rfl ?_
            refine tw_getS rfl (hi_111_3 hs) ?_
            refine tw_iload rfl rfl ?_
            refine tw_iast rfl (fun f35 => ?_)
            refine tw_aload rfl rfl ?_
            refine tw_getS rfl (hs_111_10 (tSh_SA hs)) ?_
            refine tw_push rfl ?_
            refine tw_aload rfl rfl ?_
            refine tw_getS rfl (tF_a (hi_111_3 hs)) ?_
            refine tw_imul rfl ?_
            refine tw_iload rfl rfl ?_
            refine tw_iast rfl (fun f36 => ?_)
            refine tw_aload rfl rfl ?_
            refine tw_getS rfl (hs_111_10 (tSh_SA (tSh_SA hs))) ?_
            refine tw_push rfl ?_
            refine tw_aload rfl rfl ?_
            refine tw_getS rfl (tF_a (tF_a (hi_111_3 hs))) ?_
            refine tw_imul rfl ?_
            refine tw_push rfl ?_
            refine tw_iadd rfl ?_
            refine tw_iload rfl rfl ?_
            refine tw_iast rfl (fun f37 => ?_)
            refine tw_aload rfl rfl ?_
            refine tw_getS rfl (hs_111_10 (tSh_SA (tSh_SA (tSh_SA hs)))) ?_
            refine tw_push rfl ?_
            refine tw_aload rfl rfl ?_
            refine tw_getS rfl (tF_a (tF_a (tF_a (hi_111_3 hs)))) ?_
            refine tw_imul rfl ?_
            refine tw_push rfl ?_
            refine tw_iadd rfl ?_
            refine tw_iload rfl rfl ?_
            refine tw_iast rfl (fun f38 => ?_)
            refine tw_aload rfl rfl ?_
            refine tw_dup rfl ?_
            refine tw_getS rfl (tF_a (tF_a (tF_a (tF_a (hi_111_3 hs))))) ?_
            refine tw_push rfl ?_
            refine tw_iadd rfl ?_
            refine tw_put rfl (fun f39 => ?_)
            refine tw_aload rfl rfl ?_
            refine tw_getS rfl (tF_same f39) ?_
            refine tw_push rfl ?_
            refine tw_isub rfl ?_
            exact tw_iret rfl (Or.inl ⟨by omega, wret1 (hi_111_3 hs), (tF_same f39)⟩)
          · try dsimp only [tvI_i, tvJ_j, tvR_r] at p34
            refine tw_if_ne rfl (fun z => absurd z (by decide)) (fun _ => ?_)
            refine tw_push rfl ?_
            exact tw_iret rfl (Or.inr ⟨by omega, rfl, rfl⟩)
        · try dsimp only [tvI_i, tvJ_j, tvR_r] at p33
          refine tw_if_eq rfl (fun _ => ?_) (fun z => absurd z (by decide))
          refine tw_push rfl ?_
          exact tw_iret rfl (Or.inr ⟨by omega, rfl, rfl⟩)
      · try dsimp only [tvI_i, tvJ_j, tvR_r] at p32
        refine tw_if_eq rfl (fun _ => ?_) (fun z => absurd z (by decide))
        refine tw_push rfl ?_
        exact tw_iret rfl (Or.inr ⟨by omega, rfl, rfl⟩)
    · try dsimp only [tvI_i, tvJ_j, tvR_r] at p31
      refine tw_if_eq rfl (fun _ => ?_) (fun z => absurd z (by decide))
      refine tw_push rfl ?_
      exact tw_iret rfl (Or.inr ⟨by omega, rfl, rfl⟩)
theorem a_kind {firm : Int32} {a : Int32} {b : Int32} {c : Int32} {h h2 h3 : zH} {w w2 : Option Value}  (hR : R_kinds h) (e1 : tF h2 111 3 = tF h 111 3) (e2 : tF h3 1 6 = tF h2 1 6) (k1 : phN 1 6 (((0 ≤ firm.toInt ∧ firm.toInt ≤ 3) ∧ (0 ≤ a.toInt ∧ a.toInt ≤ 99999) ∧ (0 ≤ b.toInt ∧ b.toInt ≤ 99999) ∧ (0 ≤ c.toInt ∧ c.toInt ≤ 99999)) ∧ (tvI (tF h 1 6)).toInt ≠ 8) h w h2) (k2 : phN 111 3 (((0 ≤ firm.toInt ∧ firm.toInt ≤ 3) ∧ (0 ≤ a.toInt ∧ a.toInt ≤ 99999) ∧ (0 ≤ b.toInt ∧ b.toInt ≤ 99999) ∧ (0 ≤ c.toInt ∧ c.toInt ≤ 99999)) ∧ (tvI (tF h2 111 3)).toInt ≠ 8) h2 w2 h3) : w2 = w ∧ R_kinds h3 := by
  refine phN_a hR e1 e2 ?_ k1 k2
  have hR2 := hR
  unfold R_kinds at hR2
  rw [e1, ← hR2]
theorem zmulc {c : Nat} {k p : Int32} {K : Int32} (hK : K.toInt = c) (hc : c ≤ 100) (hk : 0 ≤ k.toInt ∧ k.toInt ≤ 1000) (hp : 0 ≤ p.toInt ∧ p.toInt ≤ 1000) : (K * k + p).toNatClampNeg = c * k.toNatClampNeg + p.toNatClampNeg ∧ (k * K + p).toNatClampNeg = c * k.toNatClampNeg + p.toNatClampNeg := by
  have hm : 0 ≤ (c : Int) * k.toInt := Int.mul_nonneg (by omega) hk.1
  have hm2 : (c : Int) * k.toInt ≤ 100 * 1000 := Int.mul_le_mul (by omega) hk.2 hk.1 (by decide)
  have e1 : (K * k).toInt = c * k.toInt := by
    rw [Int32.toInt_mul, hK]
    exact Int.bmod_eq_of_le (by show (-2147483648 : Int) ≤ _; omega) (by show _ < (2147483648 : Int); omega)
  have e2 : (K * k + p).toInt = c * k.toInt + p.toInt := by
    rw [Int32.toInt_add, e1]
    exact Int.bmod_eq_of_le (by show (-2147483648 : Int) ≤ _; omega) (by show _ < (2147483648 : Int); omega)
  have e3 : (K * k + p).toNatClampNeg = c * k.toNatClampNeg + p.toNatClampNeg := by
    rw [zclE, zclE, zclE, e2]
    have : ((c : Int) * k.toInt).toNat = c * k.toInt.toNat := by
      rw [Int.toNat_mul (by omega) hk.1]
      rfl
    omega
  exact ⟨e3, by rw [Int32.mul_comm]; exact e3⟩
noncomputable def R_parts (h : zH) : Prop := tF h 1 7 = tF h 111 4
noncomputable def rFt (x y : Int32) : Prop := (x = y ∧ x.toInt < 600) ∨ (x = 600 ∧ y = 1000000)
noncomputable def R_fitted (h : zH) : Prop := ∀ a, a < 8 → ∀ b, b < 12 → rFt (tA h (28 + a) b) (tA h 118 (12 * a + b))
theorem tfr_As {xs : Nat → Int32} {τ : List Nat} {h h2 : zH} {W : Nat → Nat → Bool} {p t : Nat} (hB : zBs xs τ h) (hf : yFr W τ h h2) (ht : τ[p]? = some t) (hW : W t 0 = false) : tA h2 p = tA h p := by
  obtain ⟨ct, c, a1, a2, -⟩ := hB.1.2 _ _ ht
  obtain ⟨c2, b1, b2⟩ := hf _ _ _ ht a2
  unfold tA
  funext i
  rw [a2, b1]
  match c, c2, b2 with
  | .inr (x, fs), .inr (y, gs), b2 => rfl
  | .inl (k, N, x), .inl (k2, N2, y), b2 =>
    have := b2.2.2 hW
    subst this
    cases y with
    | inl f => rfl
    | inr y => cases y with
      | inl f => rfl
      | inr y => cases y with
        | inl f => rfl
        | inr y => cases y with
          | inl f => rfl
          | inr f => rfl
theorem car_pt {xs : Nat → Int32} {τ : List Nat} {h : zH} (hB : zBs xs τ h) {i r : Nat} (hi : (i : Int) < (tvI (tF h 36 4)).toInt) (hr : tO h 39 i = some r) (h10 : tF h r 10 = .ref (r + 1)) : τ[r + 1]? = some 151 := by
  obtain ⟨ct, c, a1, a2, a3⟩ := hB.1.2 _ _ (car_tag hB hi hr)
  have e : ct = .inl (0, [(0, .ofNat 0, .ofNat 7, 0), (0, .ofNat 0, .ofNat 599, 0), (0, .ofNat 0, .ofNat 599, 0), (0, .ofNat 0, .ofNat 59, 0), (0, .ofNat 0, .ofNat 59, 0), (0, .ofNat 0, .ofNat 599, 0), (0, .ofNat 0, .ofNat 599, 0), (0, .ofNat 0, .ofNat 1, 0), (0, .negSucc 2147483647, .ofNat 2147483647, 0), (0, .negSucc 2147483647, .ofNat 2147483647, 0), (2, .ofNat 0, .ofNat 10000000, 151)]) := Option.some.inj (a1.symm.trans rfl)
  subst e
  obtain ⟨fs, rfl, -, h3⟩ := a3
  obtain ⟨w, w1, x, rfl, x1, x2, x3⟩ := h3 10 _ rfl
  have e2 : tF h r 10 = zrn x := by
    unfold tF
    rw [a2]
    dsimp only
    rw [List.getD_eq_getElem?_getD, w1]
    rfl
  rw [h10] at e2
  unfold zrn at e2
  have x1 : (0 : Int) ≤ x := x1
  rw [if_neg (by omega)] at e2
  have e3 : r + 1 = x.toNat := by injection e2
  rcases x3 with z | z | z
  · cases z
  · omega
  · rw [e3]; exact z
theorem bI_ext {x y : Int32} (h : ∀ n, n < 32 → (bI x n ↔ bI y n)) : x = y := by
  rw [← Int32.toBitVec_inj]
  refine BitVec.eq_of_getLsbD_eq (fun i hi => ?_)
  have := h i hi
  rw [bI_g hi, bI_g hi] at this
  exact Bool.eq_iff_iff.mpr this
theorem bI_or2 {x y : Int32} {n : Nat} (hn : n < 32) : bI (x ||| y) n ↔ bI x n ∨ bI y n := by
  rw [bI_g hn, bI_g hn, bI_g hn]
  show (x.toBitVec ||| y.toBitVec).getLsbD n = true ↔ _
  rw [BitVec.getLsbD_or, Bool.or_eq_true]
/-- the places of the first n that are not behind a month, as bits -/
noncomputable def sPB (f : Nat → Int32) (m : Int32) : Nat → Int32
  | 0 => 0
  | n + 1 => if (f n).toInt ≤ m.toInt then sPB f m n ||| ((1 : Int32) <<< (Int32.ofNat n &&& 31)) else sPB f m n
theorem sPB_u {f : Nat → Int32} {m : Int32} {n : Nat} : sPB f m (n + 1) = if (f n).toInt ≤ m.toInt then sPB f m n ||| ((1 : Int32) <<< (Int32.ofNat n &&& 31)) else sPB f m n := rfl
section PB9
variable {f : Nat → Int32} {m x y : Int32} {n : Nat}
theorem sPB_y (hx : x.toInt = n) (hy : y = sPB f m n) (q : (f n).toInt ≤ m.toInt) : y ||| ((1 : Int32) <<< (x &&& 31)) = sPB f m (n + 1) := by
  rw [sPB_u, if_pos q, hy, zof hx]
theorem sPB_n (hy : y = sPB f m n) (q : m.toInt < (f n).toInt) : y = sPB f m (n + 1) := by
  rw [sPB_u, if_neg (by omega), hy]
theorem sPB_0 (hy : y = sPB f m n) (q : m.toInt < (f n).toInt) : y ||| 0 = sPB f m (n + 1) := by
  rw [Int32.or_zero]
  exact sPB_n hy q
theorem sPB_b : ∀ {N : Nat}, N ≤ 32 → ∀ n, n < 32 → (bI (sPB f m N) n ↔ n < N ∧ (f n).toInt ≤ m.toInt)
  | 0, _, n, hn => ⟨fun z => absurd z (bI_0 hn), fun z => absurd z.1 (Nat.not_lt_zero _)⟩
  | N + 1, hN, n, hn => by
    have ih := sPB_b (N := N) (by omega) n hn
    rw [sPB_u]
    by_cases q : (f N).toInt ≤ m.toInt
    · rw [if_pos q, bI_or hn (by omega), ih]
      constructor
      · rintro (⟨a, b⟩ | rfl)
        · exact ⟨by omega, b⟩
        · exact ⟨by omega, q⟩
      · rintro ⟨a, b⟩
        by_cases e : n = N
        · exact Or.inr e
        · exact Or.inl ⟨by omega, b⟩
    · rw [if_neg q, ih]
      constructor
      · rintro ⟨a, b⟩
        exact ⟨by omega, b⟩
      · rintro ⟨a, b⟩
        by_cases e : n = N
        · subst e; exact absurd b q
        · exact ⟨by omega, b⟩
end PB9
/-- and the parts that it was mended with, by the first n calls -/
noncomputable def sPM (mi cp : Nat → Int32) (i : Nat) (m d : Int32) : Nat → Int32
  | 0 => d
  | c + 1 => if 0 < (mi (300 * c + i)).toInt ∧ (mi (300 * c + i) - 1).toInt ≤ m.toInt then sPM mi cp i m d c ||| ((1 : Int32) <<< (cp c &&& 31)) else sPM mi cp i m d c
section PM9
variable {mi cp : Nat → Int32} {i c : Nat} {m d x y : Int32}
theorem sPM_u : sPM mi cp i m d (c + 1) = if 0 < (mi (300 * c + i)).toInt ∧ (mi (300 * c + i) - 1).toInt ≤ m.toInt then sPM mi cp i m d c ||| ((1 : Int32) <<< (cp c &&& 31)) else sPM mi cp i m d c := rfl
theorem sPM_y (hx : x.toInt = c) (hy : y = sPM mi cp i m d c) (h0 : 0 < (mi (300 * c + i)).toInt) (h1 : (mi (300 * c + i) - 1).toInt ≤ m.toInt) : y ||| ((1 : Int32) <<< (cp x.toNatClampNeg &&& 31)) = sPM mi cp i m d (c + 1) := by
  rw [sPM_u, if_pos ⟨h0, h1⟩, hy, zof_cl hx]
theorem sPM_n (hy : y = sPM mi cp i m d c) (q : ¬ (0 < (mi (300 * c + i)).toInt ∧ (mi (300 * c + i) - 1).toInt ≤ m.toInt)) : y ||| 0 = sPM mi cp i m d (c + 1) := by
  rw [sPM_u, if_neg q, hy, Int32.or_zero]
theorem sPM_b {C : Nat} (hc : ∀ c, c < C → 0 ≤ (cp c).toInt ∧ (cp c).toInt < 32) : ∀ n, n < 32 → (bI (sPM mi cp i m d C) n ↔ bI d n ∨ ∃ c, c < C ∧ (0 < (mi (300 * c + i)).toInt ∧ (mi (300 * c + i) - 1).toInt ≤ m.toInt) ∧ (cp c).toNatClampNeg = n) := by
  intro n hn
  induction C with
  | zero => exact ⟨Or.inl, fun z => z.resolve_right (fun ⟨c, h, _⟩ => absurd h (Nat.not_lt_zero _))⟩
  | succ C ih =>
    have ih := ih (fun c h => hc c (by omega))
    rw [sPM_u]
    by_cases q : 0 < (mi (300 * C + i)).toInt ∧ (mi (300 * C + i) - 1).toInt ≤ m.toInt
    · have e : cp C = Int32.ofNat (cp C).toNatClampNeg := zof (by rw [zclE]; have := hc C (by omega); omega)
      have hb := bI_or (x := sPM mi cp i m d C) (n := n) (m := (cp C).toNatClampNeg) hn (by rw [zclE]; have := hc C (by omega); omega)
      rw [← e] at hb
      rw [if_pos q, hb, ih]
      constructor
      · rintro ((z | ⟨c, h1, h2⟩) | z)
        · exact Or.inl z
        · exact Or.inr ⟨c, by omega, h2⟩
        · exact Or.inr ⟨C, by omega, q, z.symm⟩
      · rintro (z | ⟨c, h1, h2, h3⟩)
        · exact Or.inl (Or.inl z)
        · by_cases e2 : c = C
          · subst e2; exact Or.inr h3.symm
          · exact Or.inl (Or.inr ⟨c, by omega, h2, h3⟩)
    · rw [if_neg q, ih]
      constructor
      · rintro (z | ⟨c, h1, h2⟩)
        · exact Or.inl z
        · exact Or.inr ⟨c, by omega, h2⟩
      · rintro (z | ⟨c, h1, h2, h3⟩)
        · exact Or.inl z
        · by_cases e2 : c = C
          · subst e2; exact absurd h2 q
          · exact Or.inr ⟨c, by omega, h2, h3⟩
end PM9
theorem rFt_le {x y m : Int32} (h : rFt x y) (hm : m.toInt ≤ 599) : x.toInt ≤ m.toInt ↔ y.toInt ≤ m.toInt := by
  rcases h with ⟨rfl, _⟩ | ⟨rfl, rfl⟩
  · exact Iff.rfl
  · rw [show (600 : Int32).toInt = 600 from rfl, show (1000000 : Int32).toInt = 1000000 from rfl]
    omega
theorem sPB_rel {F F2 : Nat → Int32} {m : Int32} {N : Nat} (hN : N ≤ 12) (hF : ∀ p, p < 12 → rFt (F p) (F2 p)) (hm : m.toInt ≤ 599) : sPB F m N = sPB F2 m N := bI_ext (fun n hn => by
  rw [sPB_b (by omega) n hn, sPB_b (by omega) n hn]
  constructor
  · rintro ⟨a, b⟩
    exact ⟨a, (rFt_le (hF n (by omega)) hm).mp b⟩
  · rintro ⟨a, b⟩
    exact ⟨a, (rFt_le (hF n (by omega)) hm).mpr b⟩)
theorem parts_eq {F F2 T mi cp : Nat → Int32} {i N C : Nat} {md m : Int32} (hN : N ≤ 12) (hC : C ≤ 20) (hF : ∀ p, p < 12 → rFt (F p) (F2 p)) (hmd : md.toInt ≤ 599) (hm : m.toInt ≤ 599) (hcp : ∀ c, c < 20 → 0 ≤ (cp c).toInt ∧ (cp c).toInt ≤ 11) (hT : ∀ p, p < 12 → ∀ m : Int, m ≤ 599 → ((T p).toInt ≤ m ↔ ∃ c : Nat, (c : Int) < (C : Int) ∧ 0 < (mi (300 * c + i)).toInt ∧ (mi (300 * c + i)).toInt - 1 ≤ m ∧ (cp c).toNatClampNeg = p)) : sPB F md N ||| sPB T m 12 = sPM mi cp i m (sPB F2 md N) C := by
  rw [sPB_rel hN hF hmd]
  refine bI_ext (fun n hn => ?_)
  rw [bI_or2 hn, sPM_b (fun c h => by have := hcp c (by omega); omega) n hn, sPB_b (f := T) (by omega) n hn]
  constructor
  · rintro (z | ⟨a, b⟩)
    · exact Or.inl z
    · obtain ⟨c, c1, c2, c3, c4⟩ := (hT n a _ hm).mp b
      exact Or.inr ⟨c, by omega, ⟨c2, by rw [zsub1 (by omega)]; exact c3⟩, c4⟩
  · rintro (z | ⟨c, c1, ⟨c2, c3⟩, c4⟩)
    · exact Or.inl z
    · have h1 := hcp c (by omega)
      have hn2 : n < 12 := by rw [← c4, zclE]; omega
      rw [zsub1 (by omega)] at c3
      exact Or.inr ⟨hn2, (hT n hn2 _ hm).mpr ⟨c, by omega, c2, c3, c4⟩⟩
/-- one part more, or none -/
noncomputable def exP (p : Int32) : Int32 := if p = -1 then 0 else (1 : Int32) <<< (p &&& 31)
theorem exP_1 {p : Int32} (h : p = -1) : (0 : Int32) = exP p := by unfold exP; rw [if_pos h]
theorem exP_2 {p : Int32} (h : ¬ p = -1) : (1 : Int32) <<< (p &&& 31) = exP p := by unfold exP; rw [if_neg h]
/-- what the parts of a set add -/
noncomputable def sBn (ad : Nat → Int32) (s d : Int32) : Nat → Int32
  | 0 => d
  | n + 1 => if (s >>> (Int32.ofNat n &&& 31)) &&& 1 = 1 then sBn ad s d n + ad n else sBn ad s d n
section BN9
variable {ad : Nat → Int32} {s d x y v : Int32} {n : Nat}
theorem sBn_u : sBn ad s d (n + 1) = if (s >>> (Int32.ofNat n &&& 31)) &&& 1 = 1 then sBn ad s d n + ad n else sBn ad s d n := rfl
theorem sBn_y (hx : x.toInt = n) (hy : y = sBn ad s d n) (q : (s >>> (x &&& 31)) &&& 1 = 1) (hv : v = ad n) : y + v = sBn ad s d (n + 1) := by
  rw [zof hx] at q
  rw [sBn_u, if_pos q, hy, hv]
theorem sBn_n (hx : x.toInt = n) (hy : y = sBn ad s d n) (q : ¬ (s >>> (x &&& 31)) &&& 1 = 1) : y = sBn ad s d (n + 1) := by
  rw [zof hx] at q
  rw [sBn_u, if_neg q, hy]
theorem sBn_0 (hx : x.toInt = n) (hy : y = sBn ad s d n) (q : ¬ (s >>> (x &&& 31)) &&& 1 = 1) : y + 0 = sBn ad s d (n + 1) := by
  rw [Int32.add_zero]
  exact sBn_n hx hy q
end BN9
theorem sBn_congr {ad ad2 : Nat → Int32} {s d : Int32} : ∀ {n : Nat}, (∀ i, i < n → ad i = ad2 i) → sBn ad s d n = sBn ad2 s d n
  | 0, _ => rfl
  | n + 1, hh => by rw [sBn_u, sBn_u, sBn_congr (n := n) (fun i hi => hh i (by omega)), hh n (by omega)]
theorem tBo_u {P Q : Prop} {w w2 : Option Value} (h1 : tBo P w) (h2 : tBo Q w2) (e : P ↔ Q) : w2 = w := by
  rcases h1 with ⟨a, rfl⟩ | ⟨a, rfl⟩ <;> rcases h2 with ⟨b, rfl⟩ | ⟨b, rfl⟩
  · rfl
  · exact absurd (e.mp a) b
  · exact absurd (e.mpr b) a
  · rfl
noncomputable def R_bears (h : zH) : Prop := ∀ a, a < 8 → ∀ b, b < 3 → tA h (5 + a) b = tA h 115 (3 * a + b)
noncomputable def R_adds (h : zH) : Prop := ∀ a, a < 12 → ∀ b, b < 3 → tA h (15 + a) b = tA h 117 (3 * a + b)
theorem row3 {h : zH} {p0 n : Nat} {a b c : Int32} {k1 k2 k3 : Nat} {z1 z2 z3 : Int32} (f1 : tIn h (p0 + n) k1 z1) (f2 : tIn (tSA h (p0 + n) 0 a) (p0 + n) k2 z2) (f3 : tIn (tSA (tSA h (p0 + n) 0 a) (p0 + n) 1 b) (p0 + n) k3 z3) : ∀ i j, tA (tSA (tSA (tSA h (p0 + n) 0 a) (p0 + n) 1 b) (p0 + n) 2 c) (p0 + i) j = if i = n then (if j = 2 then c else if j = 1 then b else if j = 0 then a else tA h (p0 + i) j) else tA h (p0 + i) j := by
  intro i j
  rw [tA_tSA f3.cell, tA_tSA f2.cell, tA_tSA f1.cell]
  dsimp only
  by_cases e : i = n
  · rw [if_pos e]
    by_cases e2 : j = 2
    · rw [if_pos ⟨by omega, e2⟩, if_pos e2]
    · rw [if_neg (fun z => e2 z.2), if_neg e2]
      by_cases e1 : j = 1
      · rw [if_pos ⟨by omega, e1⟩, if_pos e1]
      · rw [if_neg (fun z => e1 z.2), if_neg e1]
        by_cases e0 : j = 0
        · rw [if_pos ⟨by omega, e0⟩, if_pos e0]
        · rw [if_neg (fun z => e0 z.2), if_neg e0]
  · rw [if_neg e, if_neg (by omega), if_neg (by omega), if_neg (by omega)]
/-- a row of three of the next one told -/
noncomputable def ph_rowc (p b p0 : Nat) (mx : Int) (C : Prop) (x y z : Int32) (h h2 : zH) : Prop := ((C ∧ (tvI (tF h p b)).toInt ≠ mx) ∧ ∀ i j, tA h2 (p0 + i) j = if i = (tvI (tF h p b)).toNatClampNeg then (if j = 2 then z else if j = 1 then y else if j = 0 then x else tA h (p0 + i) j) else tA h (p0 + i) j) ∨ (¬ (C ∧ (tvI (tF h p b)).toInt ≠ mx) ∧ ∀ i, tA h2 (p0 + i) = tA h (p0 + i))
noncomputable def ph_rowm (q c P : Nat) (mx : Int) (C : Prop) (x y z : Int32) (h h2 : zH) : Prop := ((C ∧ (tvI (tF h q c)).toInt ≠ mx) ∧ tA h2 P = fun j => if j = (3 * tvI (tF h q c) + 2).toNatClampNeg then z else if j = (3 * tvI (tF h q c) + 1).toNatClampNeg then y else if j = (3 * tvI (tF h q c)).toNatClampNeg then x else tA h P j) ∨ (¬ (C ∧ (tvI (tF h q c)).toInt ≠ mx) ∧ tA h2 P = tA h P)
theorem row_a {p b q c p0 P N : Nat} {C D : Prop} {x y z : Int32} {h h2 h3 : zH} (hR : ∀ a, a < N → ∀ b, b < 3 → tA h (p0 + a) b = tA h P (3 * a + b)) (hK : tF h p b = tF h q c) (nk : 0 ≤ (tvI (tF h p b)).toInt ∧ (tvI (tF h p b)).toInt ≤ (N : Int)) (hN : N ≤ 12) (e1 : tF h2 q c = tF h q c) (o1 : tA h2 P = tA h P) (t : ∀ i, i < N → tA h3 (p0 + i) = tA h2 (p0 + i)) (hC : C ↔ D) (k1 : ph_rowc p b p0 N C x y z h h2) (k2 : ph_rowm q c P N D x y z h2 h3) : ∀ a, a < N → ∀ b, b < 3 → tA h3 (p0 + a) b = tA h3 P (3 * a + b) := by
  unfold ph_rowc at k1
  unfold ph_rowm at k2
  rw [e1, o1, ← hK] at k2
  rcases k1 with ⟨c1, f1⟩ | ⟨c1, f1⟩ <;> rcases k2 with ⟨c2, f2⟩ | ⟨c2, f2⟩
  · intro a ha d hd
    have i0 := (zmulc (c := 3) (K := 3) (k := tvI (tF h p b)) (p := 0) rfl (by decide) (by omega) (by decide)).1
    have i1 := (zmulc (c := 3) (K := 3) (k := tvI (tF h p b)) (p := 1) rfl (by decide) (by omega) (by decide)).1
    have i2 := (zmulc (c := 3) (K := 3) (k := tvI (tF h p b)) (p := 2) rfl (by decide) (by omega) (by decide)).1
    rw [Int32.add_zero] at i0
    have z0 : (0 : Int32).toNatClampNeg = 0 := rfl
    have z1 : (1 : Int32).toNatClampNeg = 1 := rfl
    have z2 : (2 : Int32).toNatClampNeg = 2 := rfl
    rw [t a ha, f1, f2, hR a ha d hd, i0, i1, i2, z0, z1, z2]
    dsimp only
    by_cases e : a = (tvI (tF h p b)).toNatClampNeg
    · rw [if_pos e]
      rcases (by omega : d = 0 ∨ d = 1 ∨ d = 2) with rfl | rfl | rfl
      · rw [if_neg (by omega), if_neg (by omega), if_pos rfl, if_neg (by omega), if_neg (by omega), if_pos (by omega)]
      · rw [if_neg (by omega), if_pos rfl, if_neg (by omega), if_pos (by omega)]
      · rw [if_pos rfl, if_pos (by omega)]
    · rw [if_neg e, if_neg (by omega), if_neg (by omega), if_neg (by omega)]
  · exact absurd ⟨hC.mp c1.1, c1.2⟩ c2
  · exact absurd ⟨hC.mpr c2.1, c2.2⟩ c1
  · intro a ha d hd
    rw [t a ha, f1, f2]
    exact hR a ha d hd
theorem f_addKindB {G : zG} (hG : G.1 = zProg) {h : zH} {firm a b c : Int32} (hs : tSh h) (hr : tRw h) : tC zTt G 28 [.ref 1, .int firm, .int a, .int b, .int c] h (fun w h2 => (∃ x, w = some (.int x)) ∧ ph_rowc 1 6 5 8 True a b c h h2) := by
  refine tC_in (by rw [hG]; rfl) (fun dp => ?_)
  refine tw_aload rfl rfl ?_
  refine tw_getS rfl (hi_1_6 hs) ?_
  refine tw_push rfl ?_
  refine tw_ic_ne rfl (fun q40 => ?_) (fun q40 => ?_)
  · try dsimp only [tvI_i, tvJ_j, tvR_r] at q40
    have q40i := zneq (Y := 8) (by decide) q40
    refine tw_aload rfl rfl ?_
    refine tw_getS rfl (hs_1_1 hs) ?_
    refine tw_aload rfl rfl ?_
    refine tw_getS rfl (hi_1_6 hs) ?_
    refine tw_iload rfl rfl ?_
    refine tw_iast rfl (fun f41 => ?_)
    refine tw_aload rfl rfl ?_
    refine tw_getS rfl (hs_1_2 (tSh_SA hs)) ?_
    refine tw_aload rfl rfl ?_
    refine tw_getS rfl (tF_a (hi_1_6 hs)) ?_
    refine tw_aaldS rfl (fun z => tRw_at (tRw_A hr) (p := 4) (q := 5) (by decide) z) ?_
    refine tw_iload rfl rfl ?_
    refine tw_iload rfl rfl ?_
    refine tw_iload rfl rfl ?_
    refine tw_stat4 rfl (f_fill hG) (fun wp43 hp43 p43 => ?_)
    obtain ⟨rfl, rfl, p43a, p43b, p43c⟩ := p43
    refine tw_aload rfl rfl ?_
    refine tw_dup rfl ?_
    refine tw_getS rfl (tF_a (tF_a (tF_a (tF_a (hi_1_6 hs))))) ?_
    refine tw_dup_x1 rfl ?_
    refine tw_push rfl ?_
    refine tw_iadd rfl ?_
    refine tw_put rfl (fun f44 => ?_)
    refine tw_iret rfl ⟨⟨_, rfl⟩, Or.inl ⟨⟨trivial, by omega⟩, fun i j => ?_⟩⟩
    have e9 : tA (tSA h 3 (tvI (tF h 1 6)).toNatClampNeg firm) (5 + i) = tA h (5 + i) := tA_nz (by omega)
    rw [tA_tSF]
    refine (row3 p43a p43b p43c i j).trans ?_
    show (if i = (tvI (tF h 1 6)).toNatClampNeg then (if j = 2 then c else if j = 1 then b else if j = 0 then a else tA (tSA h 3 (tvI (tF h 1 6)).toNatClampNeg firm) (5 + i) j) else tA (tSA h 3 (tvI (tF h 1 6)).toNatClampNeg firm) (5 + i) j) = _
    rw [e9]
  · try dsimp only [tvI_i, tvJ_j, tvR_r] at q40
    have q40i := zeqi (Y := 8) (by decide) q40
    refine tw_push rfl ?_
    exact tw_iret rfl ⟨⟨_, rfl⟩, Or.inr ⟨fun z => absurd z.2 (by omega), fun _ => rfl⟩⟩
theorem f_kindB {G : zG} (hG : G.1 = zProg) {h : zH} {firm a b c : Int32} (hs : tSh h) (hr : tRw h) : tC zTt G 113 [.ref 0, .int firm, .int a, .int b, .int c] h (fun w h2 => ph_rowc 1 6 5 8 ((0 ≤ firm.toInt ∧ firm.toInt ≤ 3) ∧ (0 ≤ a.toInt ∧ a.toInt ≤ 99999) ∧ (0 ≤ b.toInt ∧ b.toInt ≤ 99999) ∧ (0 ≤ c.toInt ∧ c.toInt ≤ 99999)) a b c h h2) := by
  refine tC_in (by rw [hG]; rfl) (fun dp => ?_)
  refine tw_iload rfl rfl ?_
  refine tw_stat1 rfl (f_isFirm hG) (fun w9 h9 p45 => ?_)
  obtain ⟨⟨p45, rfl⟩ | ⟨p45, rfl⟩, rfl⟩ := p45
  · try dsimp only [tvI_i, tvJ_j, tvR_r] at p45
    refine tw_if_eq rfl (fun z => absurd z (by decide)) (fun _ => ?_)
    refine tw_iload rfl rfl ?_
    refine tw_push rfl ?_
    refine tw_push rfl ?_
    refine tw_stat3 rfl (f_isWithin hG (LO := 0) (HI := 99999) (by decide) (by decide)) (fun w9 h9 p46 => ?_)
    obtain ⟨⟨p46, rfl⟩ | ⟨p46, rfl⟩, rfl⟩ := p46
    · try dsimp only [tvI_i, tvJ_j, tvR_r] at p46
      refine tw_if_eq rfl (fun z => absurd z (by decide)) (fun _ => ?_)
      refine tw_iload rfl rfl ?_
      refine tw_push rfl ?_
      refine tw_push rfl ?_
      refine tw_stat3 rfl (f_isWithin hG (LO := 0) (HI := 99999) (by decide) (by decide)) (fun w9 h9 p47 => ?_)
      obtain ⟨⟨p47, rfl⟩ | ⟨p47, rfl⟩, rfl⟩ := p47
      · try dsimp only [tvI_i, tvJ_j, tvR_r] at p47
        refine tw_if_eq rfl (fun z => absurd z (by decide)) (fun _ => ?_)
        refine tw_iload rfl rfl ?_
        refine tw_push rfl ?_
        refine tw_push rfl ?_
        refine tw_stat3 rfl (f_isWithin hG (LO := 0) (HI := 99999) (by decide) (by decide)) (fun w9 h9 p48 => ?_)
        obtain ⟨⟨p48, rfl⟩ | ⟨p48, rfl⟩, rfl⟩ := p48
        · try dsimp only [tvI_i, tvJ_j, tvR_r] at p48
          refine tw_if_eq rfl (fun z => absurd z (by decide)) (fun _ => ?_)
          refine tw_push rfl ?_
          refine tw_goto rfl ?_
          refine tw_istore rfl ?_
          refine tw_iload rfl rfl ?_
          refine tw_if_eq rfl (fun z => absurd z (by decide)) (fun _ => ?_)
          refine tw_aload rfl rfl ?_
          refine tw_getS rfl (hs_0_0 hs) ?_
          refine tw_iload rfl rfl ?_
          refine tw_iload rfl rfl ?_
          refine tw_iload rfl rfl ?_
          refine tw_iload rfl rfl ?_
          refine tw_virt4 rfl (f_addKindB hG hs hr) (fun wp49 hp49 p49 => ?_)
          obtain ⟨⟨_, rfl⟩, ap49⟩ := p49
          refine tw_goto rfl ?_
          exact tw_iret rfl (ap49.imp (fun z => ⟨⟨by omega, z.1.2⟩, z.2⟩) (fun z => ⟨fun y => z.1 ⟨trivial, y.2⟩, z.2⟩))
        · try dsimp only [tvI_i, tvJ_j, tvR_r] at p48
          refine tw_if_eq rfl (fun _ => ?_) (fun z => absurd z (by decide))
          refine tw_push rfl ?_
          refine tw_istore rfl ?_
          refine tw_iload rfl rfl ?_
          refine tw_if_eq rfl (fun _ => ?_) (fun z => absurd z (by decide))
          refine tw_push rfl ?_
          exact tw_iret rfl (Or.inr ⟨fun z => absurd z.1 (by omega), fun _ => rfl⟩)
      · try dsimp only [tvI_i, tvJ_j, tvR_r] at p47
        refine tw_if_eq rfl (fun _ => ?_) (fun z => absurd z (by decide))
        refine tw_push rfl ?_
        refine tw_istore rfl ?_
        refine tw_iload rfl rfl ?_
        refine tw_if_eq rfl (fun _ => ?_) (fun z => absurd z (by decide))
        refine tw_push rfl ?_
        exact tw_iret rfl (Or.inr ⟨fun z => absurd z.1 (by omega), fun _ => rfl⟩)
    · try dsimp only [tvI_i, tvJ_j, tvR_r] at p46
      refine tw_if_eq rfl (fun _ => ?_) (fun z => absurd z (by decide))
      refine tw_push rfl ?_
      refine tw_istore rfl ?_
      refine tw_iload rfl rfl ?_
      refine tw_if_eq rfl (fun _ => ?_) (fun z => absurd z (by decide))
      refine tw_push rfl ?_
      exact tw_iret rfl (Or.inr ⟨fun z => absurd z.1 (by omega), fun _ => rfl⟩)
  · try dsimp only [tvI_i, tvJ_j, tvR_r] at p45
    refine tw_if_eq rfl (fun _ => ?_) (fun z => absurd z (by decide))
    refine tw_push rfl ?_
    refine tw_istore rfl ?_
    refine tw_iload rfl rfl ?_
    refine tw_if_eq rfl (fun _ => ?_) (fun z => absurd z (by decide))
    refine tw_push rfl ?_
    exact tw_iret rfl (Or.inr ⟨fun z => absurd z.1 (by omega), fun _ => rfl⟩)
theorem g_kindB {G : zG} (hG : G.1 = zProg) {h : zH} {firm a b c : Int32} (hs : tSh h) : tC zTt G 181 [.ref 111, .int firm, .int a, .int b, .int c] h (fun w h2 => ph_rowm 111 3 115 8 ((0 ≤ firm.toInt ∧ firm.toInt ≤ 3) ∧ (0 ≤ a.toInt ∧ a.toInt ≤ 99999) ∧ (0 ≤ b.toInt ∧ b.toInt ≤ 99999) ∧ (0 ≤ c.toInt ∧ c.toInt ≤ 99999)) a b c h h2) := by
  refine tC_in (by rw [hG]; rfl) (fun dp => ?_)
  refine tw_aload rfl rfl ?_
  refine tw_getS rfl (hi_111_3 hs) ?_
  refine tw_push rfl ?_
  refine tw_ic_eq rfl (fun q50 => ?_) (fun q50 => ?_)
  · try dsimp only [tvI_i, tvJ_j, tvR_r] at q50
    have q50i := zeqi (Y := 8) (by decide) q50
    refine tw_push rfl ?_
    exact tw_iret rfl (Or.inr ⟨fun z => by omega, rfl⟩)
  · try dsimp only [tvI_i, tvJ_j, tvR_r] at q50
    have q50i := zneq (Y := 8) (by decide) q50
    refine tw_iload rfl rfl ?_
    refine tw_i2l rfl ?_
    refine tw_push rfl ?_
    refine tw_push rfl ?_
    refine tw_stat3 rfl (f_in hG  (LO := 0) (HI := 3) (Int32.toInt_toInt64 _) (by decide) (by decide)) (fun w9 h9 p51 => ?_)
    obtain ⟨⟨p51, rfl⟩ | ⟨p51, rfl⟩, rfl⟩ := p51
    · try dsimp only [tvI_i, tvJ_j, tvR_r] at p51
      refine tw_if_eq rfl (fun z => absurd z (by decide)) (fun _ => ?_)
      refine tw_iload rfl rfl ?_
      refine tw_i2l rfl ?_
      refine tw_push rfl ?_
      refine tw_push rfl ?_
      refine tw_stat3 rfl (f_in hG  (LO := 0) (HI := 99999) (Int32.toInt_toInt64 _) (by decide) (by decide)) (fun w9 h9 p52 => ?_)
      obtain ⟨⟨p52, rfl⟩ | ⟨p52, rfl⟩, rfl⟩ := p52
      · try dsimp only [tvI_i, tvJ_j, tvR_r] at p52
        refine tw_if_eq rfl (fun z => absurd z (by decide)) (fun _ => ?_)
        refine tw_iload rfl rfl ?_
        refine tw_i2l rfl ?_
        refine tw_push rfl ?_
        refine tw_push rfl ?_
        refine tw_stat3 rfl (f_in hG  (LO := 0) (HI := 99999) (Int32.toInt_toInt64 _) (by decide) (by decide)) (fun w9 h9 p53 => ?_)
        obtain ⟨⟨p53, rfl⟩ | ⟨p53, rfl⟩, rfl⟩ := p53
        · try dsimp only [tvI_i, tvJ_j, tvR_r] at p53
          refine tw_if_eq rfl (fun z => absurd z (by decide)) (fun _ => ?_)
          refine tw_iload rfl rfl ?_
          refine tw_i2l rfl ?_
          refine tw_push rfl ?_
          refine tw_push rfl ?_
          refine tw_stat3 rfl (f_in hG  (LO := 0) (HI := 99999) (Int32.toInt_toInt64 _) (by decide) (by decide)) (fun w9 h9 p54 => ?_)
          obtain ⟨⟨p54, rfl⟩ | ⟨p54, rfl⟩, rfl⟩ := p54
          · try dsimp only [tvI_i, tvJ_j, tvR_r] at p54
            refine tw_if_ne rfl (fun _ => ?_) (fun z => absurd z (by decide))
            refine tw_aload rfl rfl ?_
            refine tw_getS rfl (hs_111_9 hs) ?_
            refine tw_aload rfl rfl ?_
            refine tw_getS rfl (hi_111_3 hs) ?_
            refine tw_iload rfl rfl ?_
            refine tw_iast rfl (fun f55 => ?_)
            refine tw_aload rfl rfl ?_
            refine tw_getS rfl (hs_111_10 (tSh_SA hs)) ?_
            refine tw_push rfl ?_
            refine tw_aload rfl rfl ?_
            refine tw_getS rfl (tF_a (hi_111_3 hs)) ?_
            refine tw_imul rfl ?_
            refine tw_iload rfl rfl ?_
            refine tw_iast rfl (fun f56 => ?_)
            refine tw_aload rfl rfl ?_
            refine tw_getS rfl (hs_111_10 (tSh_SA (tSh_SA hs))) ?_
            refine tw_push rfl ?_
            refine tw_aload rfl rfl ?_
            refine tw_getS rfl (tF_a (tF_a (hi_111_3 hs))) ?_
            refine tw_imul rfl ?_
            refine tw_push rfl ?_
            refine tw_iadd rfl ?_
            refine tw_iload rfl rfl ?_
            refine tw_iast rfl (fun f57 => ?_)
            refine tw_aload rfl rfl ?_
            refine tw_getS rfl (hs_111_10 (tSh_SA (tSh_SA (tSh_SA hs)))) ?_
            refine tw_push rfl ?_
            refine tw_aload rfl rfl ?_
            refine tw_getS rfl (tF_a (tF_a (tF_a (hi_111_3 hs)))) ?_
            refine tw_imul rfl ?_
            refine tw_push rfl ?_
            refine tw_iadd rfl ?_
            refine tw_iload rfl rfl ?_
            refine tw_iast rfl (fun f58 => ?_)
            refine tw_aload rfl rfl ?_
            refine tw_dup rfl ?_
            refine tw_getS rfl (tF_a (tF_a (tF_a (tF_a (hi_111_3 hs))))) ?_
            refine tw_push rfl ?_
            refine tw_iadd rfl ?_
            refine tw_put rfl (fun f59 => ?_)
            refine tw_aload rfl rfl ?_
            refine tw_getS rfl (tF_same f59) ?_
            refine tw_push rfl ?_
            refine tw_isub rfl ?_
            exact tw_iret rfl (Or.inl ⟨⟨by omega, by omega⟩, (tA_ff (tA_st f58 (tA_st f57 (tA_st f56 (tA_n (by decide) rfl)))))⟩)
          · try dsimp only [tvI_i, tvJ_j, tvR_r] at p54
            refine tw_if_ne rfl (fun z => absurd z (by decide)) (fun _ => ?_)
            refine tw_push rfl ?_
            exact tw_iret rfl (Or.inr ⟨fun z => by omega, rfl⟩)
        · try dsimp only [tvI_i, tvJ_j, tvR_r] at p53
          refine tw_if_eq rfl (fun _ => ?_) (fun z => absurd z (by decide))
          refine tw_push rfl ?_
          exact tw_iret rfl (Or.inr ⟨fun z => by omega, rfl⟩)
      · try dsimp only [tvI_i, tvJ_j, tvR_r] at p52
        refine tw_if_eq rfl (fun _ => ?_) (fun z => absurd z (by decide))
        refine tw_push rfl ?_
        exact tw_iret rfl (Or.inr ⟨fun z => by omega, rfl⟩)
    · try dsimp only [tvI_i, tvJ_j, tvR_r] at p51
      refine tw_if_eq rfl (fun _ => ?_) (fun z => absurd z (by decide))
      refine tw_push rfl ?_
      exact tw_iret rfl (Or.inr ⟨fun z => by omega, rfl⟩)
noncomputable def ph_kindB (firm a b c : Int32) (h : zH) (w : Option Value) (h2 : zH) : Prop := (fun firm a b c h => phN 1 6 (((0 ≤ firm.toInt ∧ firm.toInt ≤ 3) ∧ (0 ≤ a.toInt ∧ a.toInt ≤ 99999) ∧ (0 ≤ b.toInt ∧ b.toInt ≤ 99999) ∧ (0 ≤ c.toInt ∧ c.toInt ≤ 99999)) ∧ (tvI (tF h 1 6)).toInt ≠ 8) h) firm a b c h w h2 ∧ ph_rowc 1 6 5 8 ((0 ≤ firm.toInt ∧ firm.toInt ≤ 3) ∧ (0 ≤ a.toInt ∧ a.toInt ≤ 99999) ∧ (0 ≤ b.toInt ∧ b.toInt ≤ 99999) ∧ (0 ≤ c.toInt ∧ c.toInt ≤ 99999)) a b c h h2
noncomputable def ph_kindM (firm a b c : Int32) (h : zH) (w : Option Value) (h2 : zH) : Prop := (fun firm a b c h => phN 111 3 (((0 ≤ firm.toInt ∧ firm.toInt ≤ 3) ∧ (0 ≤ a.toInt ∧ a.toInt ≤ 99999) ∧ (0 ≤ b.toInt ∧ b.toInt ≤ 99999) ∧ (0 ≤ c.toInt ∧ c.toInt ≤ 99999)) ∧ (tvI (tF h 111 3)).toInt ≠ 8) h) firm a b c h w h2 ∧ ph_rowm 111 3 115 8 ((0 ≤ firm.toInt ∧ firm.toInt ≤ 3) ∧ (0 ≤ a.toInt ∧ a.toInt ≤ 99999) ∧ (0 ≤ b.toInt ∧ b.toInt ≤ 99999) ∧ (0 ≤ c.toInt ∧ c.toInt ≤ 99999)) a b c h h2
noncomputable def R_people (h : zH) : Prop := tF h 36 2 = tF h 111 2
theorem f_addPerson {G : zG} (hG : G.1 = zProg) {h : zH} {firm : Int32} (hs : tSh h) : tC zTt G 16 [.ref 36, .int firm] h (phN 36 2 ((tvI (tF h 36 2)).toInt ≠ 60) h) := by
  refine tC_in (by rw [hG]; rfl) (fun dp => ?_)
  refine tw_aload rfl rfl ?_
  refine tw_getS rfl (hi_36_2 hs) ?_
  refine tw_push rfl ?_
  refine tw_ic_ne rfl (fun q60 => ?_) (fun q60 => ?_)
  · try dsimp only [tvI_i, tvJ_j, tvR_r] at q60
    have q60i := zneq (Y := 60) (by decide) q60
    refine tw_aload rfl rfl ?_
    refine tw_getS rfl (hs_36_0 hs) ?_
    refine tw_aload rfl rfl ?_
    refine tw_getS rfl (hi_36_2 hs) ?_
    refine tw_iload rfl rfl ?_
    refine tw_iast rfl (fun f61 => ?_)
    refine tw_aload rfl rfl ?_
    refine tw_dup rfl ?_
    refine tw_getS rfl (tF_a (hi_36_2 hs)) ?_
    refine tw_dup_x1 rfl ?_
    refine tw_push rfl ?_
    refine tw_iadd rfl ?_
    refine tw_put rfl (fun f62 => ?_)
    exact tw_iret rfl (Or.inl ⟨by omega, congrArg some (hi_36_2 hs).symm, (tF_same f62)⟩)
  · try dsimp only [tvI_i, tvJ_j, tvR_r] at q60
    have q60i := zeqi (Y := 60) (by decide) q60
    refine tw_push rfl ?_
    exact tw_iret rfl (Or.inr ⟨by omega, rfl, rfl⟩)
theorem f_person {G : zG} (hG : G.1 = zProg) {h : zH} {firm : Int32} (hs : tSh h) : tC zTt G 111 [.ref 0, .int firm] h (phN 36 2 ((-1 ≤ firm.toInt ∧ firm.toInt ≤ 3) ∧ (tvI (tF h 36 2)).toInt ≠ 60) h) := by
  refine tC_in (by rw [hG]; rfl) (fun dp => ?_)
  refine tw_iload rfl rfl ?_
  refine tw_push rfl ?_
  refine tw_ic_eq rfl (fun q63 => ?_) (fun q63 => ?_)
  · try dsimp only [tvI_i, tvJ_j, tvR_r] at q63
    have q63i := zeqi (Y := (-1)) (by decide) q63
    refine tw_aload rfl rfl ?_
    refine tw_getS rfl (hs_0_1 hs) ?_
    refine tw_iload rfl rfl ?_
    refine tw_virt1 rfl (f_addPerson hG  hs) (fun w9 h9 p64 => ?_)
    rcases p64 with ⟨p64, rfl, p64e⟩ | ⟨p64, rfl, p64e⟩
    · refine tw_goto rfl ?_
      exact tw_iret rfl (Or.inl ⟨by omega, congrArg some (hi_36_2 hs).symm, p64e⟩)
    · refine tw_goto rfl ?_
      exact tw_iret rfl (Or.inr ⟨by omega, rfl, p64e⟩)
  · try dsimp only [tvI_i, tvJ_j, tvR_r] at q63
    have q63i := zneq (Y := (-1)) (by decide) q63
    refine tw_iload rfl rfl ?_
    refine tw_stat1 rfl (f_isFirm hG) (fun w9 h9 p65 => ?_)
    obtain ⟨⟨p65, rfl⟩ | ⟨p65, rfl⟩, rfl⟩ := p65
    · try dsimp only [tvI_i, tvJ_j, tvR_r] at p65
      refine tw_if_eq rfl (fun z => absurd z (by decide)) (fun _ => ?_)
      refine tw_aload rfl rfl ?_
      refine tw_getS rfl (hs_0_1 hs) ?_
      refine tw_iload rfl rfl ?_
      refine tw_virt1 rfl (f_addPerson hG  hs) (fun w9 h9 p66 => ?_)
      rcases p66 with ⟨p66, rfl, p66e⟩ | ⟨p66, rfl, p66e⟩
      · refine tw_goto rfl ?_
        exact tw_iret rfl (Or.inl ⟨by omega, congrArg some (hi_36_2 hs).symm, p66e⟩)
      · refine tw_goto rfl ?_
        exact tw_iret rfl (Or.inr ⟨by omega, rfl, p66e⟩)
    · try dsimp only [tvI_i, tvJ_j, tvR_r] at p65
      refine tw_if_eq rfl (fun _ => ?_) (fun z => absurd z (by decide))
      refine tw_push rfl ?_
      exact tw_iret rfl (Or.inr ⟨by omega, rfl, rfl⟩)
theorem g_person {G : zG} (hG : G.1 = zProg) {h : zH} {firm : Int32} (hs : tSh h)  : tC zTt G 179 [.ref 111, .int firm] h (phN 111 2 ((-1 ≤ firm.toInt ∧ firm.toInt ≤ 3) ∧ (tvI (tF h 111 2)).toInt ≠ 60) h) := by
  refine tC_in (by rw [hG]; rfl) (fun dp => ?_)
  refine tw_aload rfl rfl ?_
  refine tw_getS rfl (hi_111_2 hs) ?_
  refine tw_push rfl ?_
  refine tw_ic_eq rfl (fun q67 => ?_) (fun q67 => ?_)
  · try dsimp only [tvI_i, tvJ_j, tvR_r] at q67
    have q67i := zeqi (Y := 60) (by decide) q67
    refine tw_push rfl ?_
    exact tw_iret rfl (Or.inr ⟨by omega, rfl, rfl⟩)
  · try dsimp only [tvI_i, tvJ_j, tvR_r] at q67
    have q67i := zneq (Y := 60) (by decide) q67
    refine tw_iload rfl rfl ?_
    refine tw_i2l rfl ?_
    refine tw_push rfl ?_
    refine tw_push rfl ?_
    refine tw_stat3 rfl (f_in hG  (LO := (-1)) (HI := 3) (Int32.toInt_toInt64 _) (by decide) (by decide)) (fun w9 h9 p68 => ?_)
    obtain ⟨⟨p68, rfl⟩ | ⟨p68, rfl⟩, rfl⟩ := p68
    · try dsimp only [tvI_i, tvJ_j, tvR_r] at p68
      refine tw_if_ne rfl (fun _ => ?_) (fun z => absurd z (by decide))
      refine tw_aload rfl rfl ?_
      refine tw_getS rfl (hs_111_7 hs) ?_
      refine tw_aload rfl rfl ?_
      refine tw_getS rfl (hi_111_2 hs) ?_
      refine tw_iload rfl rfl ?_
      refine tw_iast rfl (fun f69 => ?_)
      refine tw_aload rfl rfl ?_
      refine tw_dup rfl ?_
      refine tw_getS rfl (tF_a (hi_111_2 hs)) ?_
      refine tw_push rfl ?_
      refine tw_iadd rfl ?_
      refine tw_put rfl (fun f70 => ?_)
      refine tw_aload rfl rfl ?_
      refine tw_getS rfl (tF_same f70) ?_
      refine tw_push rfl ?_
      refine tw_isub rfl ?_
      exact tw_iret rfl (Or.inl ⟨by omega, wret1 (hi_111_2 hs), (tF_same f70)⟩)
    · try dsimp only [tvI_i, tvJ_j, tvR_r] at p68
      refine tw_if_ne rfl (fun z => absurd z (by decide)) (fun _ => ?_)
      refine tw_push rfl ?_
      exact tw_iret rfl (Or.inr ⟨by omega, rfl, rfl⟩)
theorem a_person {firm : Int32} {h h2 h3 : zH} {w w2 : Option Value}  (hR : R_people h) (e1 : tF h2 111 2 = tF h 111 2) (e2 : tF h3 36 2 = tF h2 36 2) (k1 : phN 36 2 ((-1 ≤ firm.toInt ∧ firm.toInt ≤ 3) ∧ (tvI (tF h 36 2)).toInt ≠ 60) h w h2) (k2 : phN 111 2 ((-1 ≤ firm.toInt ∧ firm.toInt ≤ 3) ∧ (tvI (tF h2 111 2)).toInt ≠ 60) h2 w2 h3) : w2 = w ∧ R_people h3 := by
  refine phN_a hR e1 e2 ?_ k1 k2
  have hR2 := hR
  unfold R_people at hR2
  rw [e1, ← hR2]
theorem f_addPart {G : zG} (hG : G.1 = zProg) {h : zH} {price : Int32} {a : Int32} {b : Int32} {c : Int32} (hs : tSh h) (hr : tRw h) : tC zTt G 29 [.ref 1, .int price, .int a, .int b, .int c] h (phN 1 7 ((tvI (tF h 1 7)).toInt ≠ 12) h) := by
  refine tC_in (by rw [hG]; rfl) (fun dp => ?_)
  refine tw_aload rfl rfl ?_
  refine tw_getS rfl (hi_1_7 hs) ?_
  refine tw_push rfl ?_
  refine tw_ic_ne rfl (fun q71 => ?_) (fun q71 => ?_)
  · try dsimp only [tvI_i, tvJ_j, tvR_r] at q71
    have q71i := zneq (Y := 12) (by decide) q71
    refine tw_aload rfl rfl ?_
    refine tw_getS rfl (hs_1_3 hs) ?_
    refine tw_aload rfl rfl ?_
    refine tw_getS rfl (hi_1_7 hs) ?_
    refine tw_iload rfl rfl ?_
    refine tw_iast rfl (fun f72 => ?_)
    refine tw_aload rfl rfl ?_
    refine tw_getS rfl (hs_1_4 (tSh_SA hs)) ?_
    refine tw_aload rfl rfl ?_
    refine tw_getS rfl (tF_a (hi_1_7 hs)) ?_
    refine tw_aaldS rfl (fun z => tRw_at (tRw_A hr) (p := 14) (q := 15) (by decide) z) ?_
    refine tw_iload rfl rfl ?_
    refine tw_iload rfl rfl ?_
    refine tw_iload rfl rfl ?_
    refine tw_stat4 rfl (f_fill hG) (fun wp74 hp74 p74 => ?_)
    obtain ⟨rfl, rfl, p74a, p74b, p74c⟩ := p74
    refine tw_aload rfl rfl ?_
    refine tw_dup rfl ?_
    refine tw_getS rfl (tF_a (tF_a (tF_a (tF_a (hi_1_7 hs))))) ?_
    refine tw_dup_x1 rfl ?_
    refine tw_push rfl ?_
    refine tw_iadd rfl ?_
    refine tw_put rfl (fun f75 => ?_)
    exact tw_iret rfl (Or.inl ⟨by omega, congrArg some (hi_1_7 hs).symm, (tF_same f75)⟩)
  · try dsimp only [tvI_i, tvJ_j, tvR_r] at q71
    have q71i := zeqi (Y := 12) (by decide) q71
    refine tw_push rfl ?_
    exact tw_iret rfl (Or.inr ⟨by omega, rfl, rfl⟩)
theorem f_part {G : zG} (hG : G.1 = zProg) {h : zH} {price : Int32} {a : Int32} {b : Int32} {c : Int32} (hs : tSh h) (hr : tRw h) : tC zTt G 114 [.ref 0, .int price, .int a, .int b, .int c] h (phN 1 7 (((0 ≤ price.toInt ∧ price.toInt ≤ 9999) ∧ (0 ≤ a.toInt ∧ a.toInt ≤ 9999) ∧ (0 ≤ b.toInt ∧ b.toInt ≤ 9999) ∧ (0 ≤ c.toInt ∧ c.toInt ≤ 9999)) ∧ (tvI (tF h 1 7)).toInt ≠ 12) h) := by
  refine tC_in (by rw [hG]; rfl) (fun dp => ?_)
  refine tw_iload rfl rfl ?_
  refine tw_push rfl ?_
  refine tw_push rfl ?_
  refine tw_stat3 rfl (f_isWithin hG (LO := 0) (HI := 9999) (by decide) (by decide)) (fun w9 h9 p76 => ?_)
  obtain ⟨⟨p76, rfl⟩ | ⟨p76, rfl⟩, rfl⟩ := p76
  · try dsimp only [tvI_i, tvJ_j, tvR_r] at p76
    refine tw_if_eq rfl (fun z => absurd z (by decide)) (fun _ => ?_)
    refine tw_iload rfl rfl ?_
    refine tw_push rfl ?_
    refine tw_push rfl ?_
    refine tw_stat3 rfl (f_isWithin hG (LO := 0) (HI := 9999) (by decide) (by decide)) (fun w9 h9 p77 => ?_)
    obtain ⟨⟨p77, rfl⟩ | ⟨p77, rfl⟩, rfl⟩ := p77
    · try dsimp only [tvI_i, tvJ_j, tvR_r] at p77
      refine tw_if_eq rfl (fun z => absurd z (by decide)) (fun _ => ?_)
      refine tw_iload rfl rfl ?_
      refine tw_push rfl ?_
      refine tw_push rfl ?_
      refine tw_stat3 rfl (f_isWithin hG (LO := 0) (HI := 9999) (by decide) (by decide)) (fun w9 h9 p78 => ?_)
      obtain ⟨⟨p78, rfl⟩ | ⟨p78, rfl⟩, rfl⟩ := p78
      · try dsimp only [tvI_i, tvJ_j, tvR_r] at p78
        refine tw_if_eq rfl (fun z => absurd z (by decide)) (fun _ => ?_)
        refine tw_iload rfl rfl ?_
        refine tw_push rfl ?_
        refine tw_push rfl ?_
        refine tw_stat3 rfl (f_isWithin hG (LO := 0) (HI := 9999) (by decide) (by decide)) (fun w9 h9 p79 => ?_)
        obtain ⟨⟨p79, rfl⟩ | ⟨p79, rfl⟩, rfl⟩ := p79
        · try dsimp only [tvI_i, tvJ_j, tvR_r] at p79
          refine tw_if_eq rfl (fun z => absurd z (by decide)) (fun _ => ?_)
          refine tw_push rfl ?_
          refine tw_goto rfl ?_
          refine tw_istore rfl ?_
          refine tw_iload rfl rfl ?_
          refine tw_if_eq rfl (fun z => absurd z (by decide)) (fun _ => ?_)
          refine tw_aload rfl rfl ?_
          refine tw_getS rfl (hs_0_0 hs) ?_
          refine tw_iload rfl rfl ?_
          refine tw_iload rfl rfl ?_
          refine tw_iload rfl rfl ?_
          refine tw_iload rfl rfl ?_
          refine tw_virt4 rfl (f_addPart hG  hs hr) (fun w9 h9 p80 => ?_)
          rcases p80 with ⟨p80, rfl, p80e⟩ | ⟨p80, rfl, p80e⟩
          · refine tw_goto rfl ?_
            exact tw_iret rfl (Or.inl ⟨by omega, congrArg some (hi_1_7 hs).symm, p80e⟩)
          · refine tw_goto rfl ?_
            exact tw_iret rfl (Or.inr ⟨by omega, rfl, p80e⟩)
        · try dsimp only [tvI_i, tvJ_j, tvR_r] at p79
          refine tw_if_eq rfl (fun _ => ?_) (fun z => absurd z (by decide))
          refine tw_push rfl ?_
          refine tw_istore rfl ?_
          refine tw_iload rfl rfl ?_
          refine tw_if_eq rfl (fun _ => ?_) (fun z => absurd z (by decide))
          refine tw_push rfl ?_
          exact tw_iret rfl (Or.inr ⟨by omega, rfl, rfl⟩)
      · try dsimp only [tvI_i, tvJ_j, tvR_r] at p78
        refine tw_if_eq rfl (fun _ => ?_) (fun z => absurd z (by decide))
        refine tw_push rfl ?_
        refine tw_istore rfl ?_
        refine tw_iload rfl rfl ?_
        refine tw_if_eq rfl (fun _ => ?_) (fun z => absurd z (by decide))
        refine tw_push rfl ?_
        exact tw_iret rfl (Or.inr ⟨by omega, rfl, rfl⟩)
    · try dsimp only [tvI_i, tvJ_j, tvR_r] at p77
      refine tw_if_eq rfl (fun _ => ?_) (fun z => absurd z (by decide))
      refine tw_push rfl ?_
      refine tw_istore rfl ?_
      refine tw_iload rfl rfl ?_
      refine tw_if_eq rfl (fun _ => ?_) (fun z => absurd z (by decide))
      refine tw_push rfl ?_
      exact tw_iret rfl (Or.inr ⟨by omega, rfl, rfl⟩)
  · try dsimp only [tvI_i, tvJ_j, tvR_r] at p76
    refine tw_if_eq rfl (fun _ => ?_) (fun z => absurd z (by decide))
    refine tw_push rfl ?_
    refine tw_istore rfl ?_
    refine tw_iload rfl rfl ?_
    refine tw_if_eq rfl (fun _ => ?_) (fun z => absurd z (by decide))
    refine tw_push rfl ?_
    exact tw_iret rfl (Or.inr ⟨by omega, rfl, rfl⟩)
theorem g_part {G : zG} (hG : G.1 = zProg) {h : zH} {price : Int32} {a : Int32} {b : Int32} {c : Int32} (hs : tSh h)  : tC zTt G 182 [.ref 111, .int price, .int a, .int b, .int c] h (phN 111 4 (((0 ≤ price.toInt ∧ price.toInt ≤ 9999) ∧ (0 ≤ a.toInt ∧ a.toInt ≤ 9999) ∧ (0 ≤ b.toInt ∧ b.toInt ≤ 9999) ∧ (0 ≤ c.toInt ∧ c.toInt ≤ 9999)) ∧ (tvI (tF h 111 4)).toInt ≠ 12) h) := by
  refine tC_in (by rw [hG]; rfl) (fun dp => ?_)
  refine tw_aload rfl rfl ?_
  refine tw_getS rfl (hi_111_4 hs) ?_
  refine tw_push rfl ?_
  refine tw_ic_eq rfl (fun q81 => ?_) (fun q81 => ?_)
  · try dsimp only [tvI_i, tvJ_j, tvR_r] at q81
    have q81i := zeqi (Y := 12) (by decide) q81
    refine tw_push rfl ?_
    exact tw_iret rfl (Or.inr ⟨by omega, rfl, rfl⟩)
  · try dsimp only [tvI_i, tvJ_j, tvR_r] at q81
    have q81i := zneq (Y := 12) (by decide) q81
    refine tw_iload rfl rfl ?_
    refine tw_i2l rfl ?_
    refine tw_push rfl ?_
    refine tw_push rfl ?_
    refine tw_stat3 rfl (f_in hG  (LO := 0) (HI := 9999) (Int32.toInt_toInt64 _) (by decide) (by decide)) (fun w9 h9 p82 => ?_)
    obtain ⟨⟨p82, rfl⟩ | ⟨p82, rfl⟩, rfl⟩ := p82
    · try dsimp only [tvI_i, tvJ_j, tvR_r] at p82
      refine tw_if_eq rfl (fun z => absurd z (by decide)) (fun _ => ?_)
      refine tw_iload rfl rfl ?_
      refine tw_i2l rfl ?_
      refine tw_push rfl ?_
      refine tw_push rfl ?_
      refine tw_stat3 rfl (f_in hG  (LO := 0) (HI := 9999) (Int32.toInt_toInt64 _) (by decide) (by decide)) (fun w9 h9 p83 => ?_)
      obtain ⟨⟨p83, rfl⟩ | ⟨p83, rfl⟩, rfl⟩ := p83
      · try dsimp only [tvI_i, tvJ_j, tvR_r] at p83
        refine tw_if_eq rfl (fun z => absurd z (by decide)) (fun _ => ?_)
        refine tw_iload rfl rfl ?_
        refine tw_i2l rfl ?_
        refine tw_push rfl ?_
        refine tw_push rfl ?_
        refine tw_stat3 rfl (f_in hG  (LO := 0) (HI := 9999) (Int32.toInt_toInt64 _) (by decide) (by decide)) (fun w9 h9 p84 => ?_)
        obtain ⟨⟨p84, rfl⟩ | ⟨p84, rfl⟩, rfl⟩ := p84
        · try dsimp only [tvI_i, tvJ_j, tvR_r] at p84
          refine tw_if_eq rfl (fun z => absurd z (by decide)) (fun _ => ?_)
          refine tw_iload rfl rfl ?_
          refine tw_i2l rfl ?_
          refine tw_push rfl ?_
          refine tw_push rfl ?_
          refine tw_stat3 rfl (f_in hG  (LO := 0) (HI := 9999) (Int32.toInt_toInt64 _) (by decide) (by decide)) (fun w9 h9 p85 => ?_)
          obtain ⟨⟨p85, rfl⟩ | ⟨p85, rfl⟩, rfl⟩ := p85
          · try dsimp only [tvI_i, tvJ_j, tvR_r] at p85
            refine tw_if_ne rfl (fun _ => ?_) (fun z => absurd z (by decide))
            refine tw_aload rfl rfl ?_
            refine tw_getS rfl (hs_111_11 hs) ?_
            refine tw_aload rfl rfl ?_
            refine tw_getS rfl (hi_111_4 hs) ?_
            refine tw_iload rfl rfl ?_
            refine tw_iast rfl (fun f86 => ?_)
            refine tw_aload rfl rfl ?_
            refine tw_getS rfl (hs_111_12 (tSh_SA hs)) ?_
            refine tw_push rfl ?_
            refine tw_aload rfl rfl ?_
            refine tw_getS rfl (tF_a (hi_111_4 hs)) ?_
            refine tw_imul rfl ?_
            refine tw_iload rfl rfl ?_
            refine tw_iast rfl (fun f87 => ?_)
            refine tw_aload rfl rfl ?_
            refine tw_getS rfl (hs_111_12 (tSh_SA (tSh_SA hs))) ?_
            refine tw_push rfl ?_
            refine tw_aload rfl rfl ?_
            refine tw_getS rfl (tF_a (tF_a (hi_111_4 hs))) ?_
            refine tw_imul rfl ?_
            refine tw_push rfl ?_
            refine tw_iadd rfl ?_
            refine tw_iload rfl rfl ?_
            refine tw_iast rfl (fun f88 => ?_)
            refine tw_aload rfl rfl ?_
            refine tw_getS rfl (hs_111_12 (tSh_SA (tSh_SA (tSh_SA hs)))) ?_
            refine tw_push rfl ?_
            refine tw_aload rfl rfl ?_
            refine tw_getS rfl (tF_a (tF_a (tF_a (hi_111_4 hs)))) ?_
            refine tw_imul rfl ?_
            refine tw_push rfl ?_
            refine tw_iadd rfl ?_
            refine tw_iload rfl rfl ?_
            refine tw_iast rfl (fun f89 => ?_)
            refine tw_aload rfl rfl ?_
            refine tw_dup rfl ?_
            refine tw_getS rfl (tF_a (tF_a (tF_a (tF_a (hi_111_4 hs))))) ?_
            refine tw_push rfl ?_
            refine tw_iadd rfl ?_
            refine tw_put rfl (fun f90 => ?_)
            refine tw_aload rfl rfl ?_
            refine tw_getS rfl (tF_same f90) ?_
            refine tw_push rfl ?_
            refine tw_isub rfl ?_
            exact tw_iret rfl (Or.inl ⟨by omega, wret1 (hi_111_4 hs), (tF_same f90)⟩)
          · try dsimp only [tvI_i, tvJ_j, tvR_r] at p85
            refine tw_if_ne rfl (fun z => absurd z (by decide)) (fun _ => ?_)
            refine tw_push rfl ?_
            exact tw_iret rfl (Or.inr ⟨by omega, rfl, rfl⟩)
        · try dsimp only [tvI_i, tvJ_j, tvR_r] at p84
          refine tw_if_eq rfl (fun _ => ?_) (fun z => absurd z (by decide))
          refine tw_push rfl ?_
          exact tw_iret rfl (Or.inr ⟨by omega, rfl, rfl⟩)
      · try dsimp only [tvI_i, tvJ_j, tvR_r] at p83
        refine tw_if_eq rfl (fun _ => ?_) (fun z => absurd z (by decide))
        refine tw_push rfl ?_
        exact tw_iret rfl (Or.inr ⟨by omega, rfl, rfl⟩)
    · try dsimp only [tvI_i, tvJ_j, tvR_r] at p82
      refine tw_if_eq rfl (fun _ => ?_) (fun z => absurd z (by decide))
      refine tw_push rfl ?_
      exact tw_iret rfl (Or.inr ⟨by omega, rfl, rfl⟩)
theorem a_part {price : Int32} {a : Int32} {b : Int32} {c : Int32} {h h2 h3 : zH} {w w2 : Option Value}  (hR : R_parts h) (e1 : tF h2 111 4 = tF h 111 4) (e2 : tF h3 1 7 = tF h2 1 7) (k1 : phN 1 7 (((0 ≤ price.toInt ∧ price.toInt ≤ 9999) ∧ (0 ≤ a.toInt ∧ a.toInt ≤ 9999) ∧ (0 ≤ b.toInt ∧ b.toInt ≤ 9999) ∧ (0 ≤ c.toInt ∧ c.toInt ≤ 9999)) ∧ (tvI (tF h 1 7)).toInt ≠ 12) h w h2) (k2 : phN 111 4 (((0 ≤ price.toInt ∧ price.toInt ≤ 9999) ∧ (0 ≤ a.toInt ∧ a.toInt ≤ 9999) ∧ (0 ≤ b.toInt ∧ b.toInt ≤ 9999) ∧ (0 ≤ c.toInt ∧ c.toInt ≤ 9999)) ∧ (tvI (tF h2 111 4)).toInt ≠ 12) h2 w2 h3) : w2 = w ∧ R_parts h3 := by
  refine phN_a hR e1 e2 ?_ k1 k2
  have hR2 := hR
  unfold R_parts at hR2
  rw [e1, ← hR2]
theorem f_addPartB {G : zG} (hG : G.1 = zProg) {h : zH} {price a b c : Int32} (hs : tSh h) (hr : tRw h) : tC zTt G 29 [.ref 1, .int price, .int a, .int b, .int c] h (fun w h2 => (∃ x, w = some (.int x)) ∧ ph_rowc 1 7 15 12 True a b c h h2) := by
  refine tC_in (by rw [hG]; rfl) (fun dp => ?_)
  refine tw_aload rfl rfl ?_
  refine tw_getS rfl (hi_1_7 hs) ?_
  refine tw_push rfl ?_
  refine tw_ic_ne rfl (fun q91 => ?_) (fun q91 => ?_)
  · try dsimp only [tvI_i, tvJ_j, tvR_r] at q91
    have q91i := zneq (Y := 12) (by decide) q91
    refine tw_aload rfl rfl ?_
    refine tw_getS rfl (hs_1_3 hs) ?_
    refine tw_aload rfl rfl ?_
    refine tw_getS rfl (hi_1_7 hs) ?_
    refine tw_iload rfl rfl ?_
    refine tw_iast rfl (fun f92 => ?_)
    refine tw_aload rfl rfl ?_
    refine tw_getS rfl (hs_1_4 (tSh_SA hs)) ?_
    refine tw_aload rfl rfl ?_
    refine tw_getS rfl (tF_a (hi_1_7 hs)) ?_
    refine tw_aaldS rfl (fun z => tRw_at (tRw_A hr) (p := 14) (q := 15) (by decide) z) ?_
    refine tw_iload rfl rfl ?_
    refine tw_iload rfl rfl ?_
    refine tw_iload rfl rfl ?_
    refine tw_stat4 rfl (f_fill hG) (fun wp94 hp94 p94 => ?_)
    obtain ⟨rfl, rfl, p94a, p94b, p94c⟩ := p94
    refine tw_aload rfl rfl ?_
    refine tw_dup rfl ?_
    refine tw_getS rfl (tF_a (tF_a (tF_a (tF_a (hi_1_7 hs))))) ?_
    refine tw_dup_x1 rfl ?_
    refine tw_push rfl ?_
    refine tw_iadd rfl ?_
    refine tw_put rfl (fun f95 => ?_)
    refine tw_iret rfl ⟨⟨_, rfl⟩, Or.inl ⟨⟨trivial, by omega⟩, fun i j => ?_⟩⟩
    have e9 : tA (tSA h 13 (tvI (tF h 1 7)).toNatClampNeg price) (15 + i) = tA h (15 + i) := tA_nz (by omega)
    rw [tA_tSF]
    refine (row3 p94a p94b p94c i j).trans ?_
    show (if i = (tvI (tF h 1 7)).toNatClampNeg then (if j = 2 then c else if j = 1 then b else if j = 0 then a else tA (tSA h 13 (tvI (tF h 1 7)).toNatClampNeg price) (15 + i) j) else tA (tSA h 13 (tvI (tF h 1 7)).toNatClampNeg price) (15 + i) j) = _
    rw [e9]
  · try dsimp only [tvI_i, tvJ_j, tvR_r] at q91
    have q91i := zeqi (Y := 12) (by decide) q91
    refine tw_push rfl ?_
    exact tw_iret rfl ⟨⟨_, rfl⟩, Or.inr ⟨fun z => absurd z.2 (by omega), fun _ => rfl⟩⟩
theorem f_partB {G : zG} (hG : G.1 = zProg) {h : zH} {price a b c : Int32} (hs : tSh h) (hr : tRw h) : tC zTt G 114 [.ref 0, .int price, .int a, .int b, .int c] h (fun w h2 => ph_rowc 1 7 15 12 ((0 ≤ price.toInt ∧ price.toInt ≤ 9999) ∧ (0 ≤ a.toInt ∧ a.toInt ≤ 9999) ∧ (0 ≤ b.toInt ∧ b.toInt ≤ 9999) ∧ (0 ≤ c.toInt ∧ c.toInt ≤ 9999)) a b c h h2) := by
  refine tC_in (by rw [hG]; rfl) (fun dp => ?_)
  refine tw_iload rfl rfl ?_
  refine tw_push rfl ?_
  refine tw_push rfl ?_
  refine tw_stat3 rfl (f_isWithin hG (LO := 0) (HI := 9999) (by decide) (by decide)) (fun w9 h9 p96 => ?_)
  obtain ⟨⟨p96, rfl⟩ | ⟨p96, rfl⟩, rfl⟩ := p96
  · try dsimp only [tvI_i, tvJ_j, tvR_r] at p96
    refine tw_if_eq rfl (fun z => absurd z (by decide)) (fun _ => ?_)
    refine tw_iload rfl rfl ?_
    refine tw_push rfl ?_
    refine tw_push rfl ?_
    refine tw_stat3 rfl (f_isWithin hG (LO := 0) (HI := 9999) (by decide) (by decide)) (fun w9 h9 p97 => ?_)
    obtain ⟨⟨p97, rfl⟩ | ⟨p97, rfl⟩, rfl⟩ := p97
    · try dsimp only [tvI_i, tvJ_j, tvR_r] at p97
      refine tw_if_eq rfl (fun z => absurd z (by decide)) (fun _ => ?_)
      refine tw_iload rfl rfl ?_
      refine tw_push rfl ?_
      refine tw_push rfl ?_
      refine tw_stat3 rfl (f_isWithin hG (LO := 0) (HI := 9999) (by decide) (by decide)) (fun w9 h9 p98 => ?_)
      obtain ⟨⟨p98, rfl⟩ | ⟨p98, rfl⟩, rfl⟩ := p98
      · try dsimp only [tvI_i, tvJ_j, tvR_r] at p98
        refine tw_if_eq rfl (fun z => absurd z (by decide)) (fun _ => ?_)
        refine tw_iload rfl rfl ?_
        refine tw_push rfl ?_
        refine tw_push rfl ?_
        refine tw_stat3 rfl (f_isWithin hG (LO := 0) (HI := 9999) (by decide) (by decide)) (fun w9 h9 p99 => ?_)
        obtain ⟨⟨p99, rfl⟩ | ⟨p99, rfl⟩, rfl⟩ := p99
        · try dsimp only [tvI_i, tvJ_j, tvR_r] at p99
          refine tw_if_eq rfl (fun z => absurd z (by decide)) (fun _ => ?_)
          refine tw_push rfl ?_
          refine tw_goto rfl ?_
          refine tw_istore rfl ?_
          refine tw_iload rfl rfl ?_
          refine tw_if_eq rfl (fun z => absurd z (by decide)) (fun _ => ?_)
          refine tw_aload rfl rfl ?_
          refine tw_getS rfl (hs_0_0 hs) ?_
          refine tw_iload rfl rfl ?_
          refine tw_iload rfl rfl ?_
          refine tw_iload rfl rfl ?_
          refine tw_iload rfl rfl ?_
          refine tw_virt4 rfl (f_addPartB hG hs hr) (fun wp100 hp100 p100 => ?_)
          obtain ⟨⟨_, rfl⟩, ap100⟩ := p100
          refine tw_goto rfl ?_
          exact tw_iret rfl (ap100.imp (fun z => ⟨⟨by omega, z.1.2⟩, z.2⟩) (fun z => ⟨fun y => z.1 ⟨trivial, y.2⟩, z.2⟩))
        · try dsimp only [tvI_i, tvJ_j, tvR_r] at p99
          refine tw_if_eq rfl (fun _ => ?_) (fun z => absurd z (by decide))
          refine tw_push rfl ?_
          refine tw_istore rfl ?_
          refine tw_iload rfl rfl ?_
          refine tw_if_eq rfl (fun _ => ?_) (fun z => absurd z (by decide))
          refine tw_push rfl ?_
          exact tw_iret rfl (Or.inr ⟨fun z => absurd z.1 (by omega), fun _ => rfl⟩)
      · try dsimp only [tvI_i, tvJ_j, tvR_r] at p98
        refine tw_if_eq rfl (fun _ => ?_) (fun z => absurd z (by decide))
        refine tw_push rfl ?_
        refine tw_istore rfl ?_
        refine tw_iload rfl rfl ?_
        refine tw_if_eq rfl (fun _ => ?_) (fun z => absurd z (by decide))
        refine tw_push rfl ?_
        exact tw_iret rfl (Or.inr ⟨fun z => absurd z.1 (by omega), fun _ => rfl⟩)
    · try dsimp only [tvI_i, tvJ_j, tvR_r] at p97
      refine tw_if_eq rfl (fun _ => ?_) (fun z => absurd z (by decide))
      refine tw_push rfl ?_
      refine tw_istore rfl ?_
      refine tw_iload rfl rfl ?_
      refine tw_if_eq rfl (fun _ => ?_) (fun z => absurd z (by decide))
      refine tw_push rfl ?_
      exact tw_iret rfl (Or.inr ⟨fun z => absurd z.1 (by omega), fun _ => rfl⟩)
  · try dsimp only [tvI_i, tvJ_j, tvR_r] at p96
    refine tw_if_eq rfl (fun _ => ?_) (fun z => absurd z (by decide))
    refine tw_push rfl ?_
    refine tw_istore rfl ?_
    refine tw_iload rfl rfl ?_
    refine tw_if_eq rfl (fun _ => ?_) (fun z => absurd z (by decide))
    refine tw_push rfl ?_
    exact tw_iret rfl (Or.inr ⟨fun z => absurd z.1 (by omega), fun _ => rfl⟩)
theorem g_partB {G : zG} (hG : G.1 = zProg) {h : zH} {price a b c : Int32} (hs : tSh h) : tC zTt G 182 [.ref 111, .int price, .int a, .int b, .int c] h (fun w h2 => ph_rowm 111 4 117 12 ((0 ≤ price.toInt ∧ price.toInt ≤ 9999) ∧ (0 ≤ a.toInt ∧ a.toInt ≤ 9999) ∧ (0 ≤ b.toInt ∧ b.toInt ≤ 9999) ∧ (0 ≤ c.toInt ∧ c.toInt ≤ 9999)) a b c h h2) := by
  refine tC_in (by rw [hG]; rfl) (fun dp => ?_)
  refine tw_aload rfl rfl ?_
  refine tw_getS rfl (hi_111_4 hs) ?_
  refine tw_push rfl ?_
  refine tw_ic_eq rfl (fun q101 => ?_) (fun q101 => ?_)
  · try dsimp only [tvI_i, tvJ_j, tvR_r] at q101
    have q101i := zeqi (Y := 12) (by decide) q101
    refine tw_push rfl ?_
    exact tw_iret rfl (Or.inr ⟨fun z => by omega, rfl⟩)
  · try dsimp only [tvI_i, tvJ_j, tvR_r] at q101
    have q101i := zneq (Y := 12) (by decide) q101
    refine tw_iload rfl rfl ?_
    refine tw_i2l rfl ?_
    refine tw_push rfl ?_
    refine tw_push rfl ?_
    refine tw_stat3 rfl (f_in hG  (LO := 0) (HI := 9999) (Int32.toInt_toInt64 _) (by decide) (by decide)) (fun w9 h9 p102 => ?_)
    obtain ⟨⟨p102, rfl⟩ | ⟨p102, rfl⟩, rfl⟩ := p102
    · try dsimp only [tvI_i, tvJ_j, tvR_r] at p102
      refine tw_if_eq rfl (fun z => absurd z (by decide)) (fun _ => ?_)
      refine tw_iload rfl rfl ?_
      refine tw_i2l rfl ?_
      refine tw_push rfl ?_
      refine tw_push rfl ?_
      refine tw_stat3 rfl (f_in hG  (LO := 0) (HI := 9999) (Int32.toInt_toInt64 _) (by decide) (by decide)) (fun w9 h9 p103 => ?_)
      obtain ⟨⟨p103, rfl⟩ | ⟨p103, rfl⟩, rfl⟩ := p103
      · try dsimp only [tvI_i, tvJ_j, tvR_r] at p103
        refine tw_if_eq rfl (fun z => absurd z (by decide)) (fun _ => ?_)
        refine tw_iload rfl rfl ?_
        refine tw_i2l rfl ?_
        refine tw_push rfl ?_
        refine tw_push rfl ?_
        refine tw_stat3 rfl (f_in hG  (LO := 0) (HI := 9999) (Int32.toInt_toInt64 _) (by decide) (by decide)) (fun w9 h9 p104 => ?_)
        obtain ⟨⟨p104, rfl⟩ | ⟨p104, rfl⟩, rfl⟩ := p104
        · try dsimp only [tvI_i, tvJ_j, tvR_r] at p104
          refine tw_if_eq rfl (fun z => absurd z (by decide)) (fun _ => ?_)
          refine tw_iload rfl rfl ?_
          refine tw_i2l rfl ?_
          refine tw_push rfl ?_
          refine tw_push rfl ?_
          refine tw_stat3 rfl (f_in hG  (LO := 0) (HI := 9999) (Int32.toInt_toInt64 _) (by decide) (by decide)) (fun w9 h9 p105 => ?_)
          obtain ⟨⟨p105, rfl⟩ | ⟨p105, rfl⟩, rfl⟩ := p105
          · try dsimp only [tvI_i, tvJ_j, tvR_r] at p105
            refine tw_if_ne rfl (fun _ => ?_) (fun z => absurd z (by decide))
            refine tw_aload rfl rfl ?_
            refine tw_getS rfl (hs_111_11 hs) ?_
            refine tw_aload rfl rfl ?_
            refine tw_getS rfl (hi_111_4 hs) ?_
            refine tw_iload rfl rfl ?_
            refine tw_iast rfl (fun f106 => ?_)
            refine tw_aload rfl rfl ?_
            refine tw_getS rfl (hs_111_12 (tSh_SA hs)) ?_
            refine tw_push rfl ?_
            refine tw_aload rfl rfl ?_
            refine tw_getS rfl (tF_a (hi_111_4 hs)) ?_
            refine tw_imul rfl ?_
            refine tw_iload rfl rfl ?_
            refine tw_iast rfl (fun f107 => ?_)
            refine tw_aload rfl rfl ?_
            refine tw_getS rfl (hs_111_12 (tSh_SA (tSh_SA hs))) ?_
            refine tw_push rfl ?_
            refine tw_aload rfl rfl ?_
            refine tw_getS rfl (tF_a (tF_a (hi_111_4 hs))) ?_
            refine tw_imul rfl ?_
            refine tw_push rfl ?_
            refine tw_iadd rfl ?_
            refine tw_iload rfl rfl ?_
            refine tw_iast rfl (fun f108 => ?_)
            refine tw_aload rfl rfl ?_
            refine tw_getS rfl (hs_111_12 (tSh_SA (tSh_SA (tSh_SA hs)))) ?_
            refine tw_push rfl ?_
            refine tw_aload rfl rfl ?_
            refine tw_getS rfl (tF_a (tF_a (tF_a (hi_111_4 hs)))) ?_
            refine tw_imul rfl ?_
            refine tw_push rfl ?_
            refine tw_iadd rfl ?_
            refine tw_iload rfl rfl ?_
            refine tw_iast rfl (fun f109 => ?_)
            refine tw_aload rfl rfl ?_
            refine tw_dup rfl ?_
            refine tw_getS rfl (tF_a (tF_a (tF_a (tF_a (hi_111_4 hs))))) ?_
            refine tw_push rfl ?_
            refine tw_iadd rfl ?_
            refine tw_put rfl (fun f110 => ?_)
            refine tw_aload rfl rfl ?_
            refine tw_getS rfl (tF_same f110) ?_
            refine tw_push rfl ?_
            refine tw_isub rfl ?_
            exact tw_iret rfl (Or.inl ⟨⟨by omega, by omega⟩, (tA_ff (tA_st f109 (tA_st f108 (tA_st f107 (tA_n (by decide) rfl)))))⟩)
          · try dsimp only [tvI_i, tvJ_j, tvR_r] at p105
            refine tw_if_ne rfl (fun z => absurd z (by decide)) (fun _ => ?_)
            refine tw_push rfl ?_
            exact tw_iret rfl (Or.inr ⟨fun z => by omega, rfl⟩)
        · try dsimp only [tvI_i, tvJ_j, tvR_r] at p104
          refine tw_if_eq rfl (fun _ => ?_) (fun z => absurd z (by decide))
          refine tw_push rfl ?_
          exact tw_iret rfl (Or.inr ⟨fun z => by omega, rfl⟩)
      · try dsimp only [tvI_i, tvJ_j, tvR_r] at p103
        refine tw_if_eq rfl (fun _ => ?_) (fun z => absurd z (by decide))
        refine tw_push rfl ?_
        exact tw_iret rfl (Or.inr ⟨fun z => by omega, rfl⟩)
    · try dsimp only [tvI_i, tvJ_j, tvR_r] at p102
      refine tw_if_eq rfl (fun _ => ?_) (fun z => absurd z (by decide))
      refine tw_push rfl ?_
      exact tw_iret rfl (Or.inr ⟨fun z => by omega, rfl⟩)
noncomputable def ph_partB (price a b c : Int32) (h : zH) (w : Option Value) (h2 : zH) : Prop := (fun price a b c h => phN 1 7 (((0 ≤ price.toInt ∧ price.toInt ≤ 9999) ∧ (0 ≤ a.toInt ∧ a.toInt ≤ 9999) ∧ (0 ≤ b.toInt ∧ b.toInt ≤ 9999) ∧ (0 ≤ c.toInt ∧ c.toInt ≤ 9999)) ∧ (tvI (tF h 1 7)).toInt ≠ 12) h) price a b c h w h2 ∧ ph_rowc 1 7 15 12 ((0 ≤ price.toInt ∧ price.toInt ≤ 9999) ∧ (0 ≤ a.toInt ∧ a.toInt ≤ 9999) ∧ (0 ≤ b.toInt ∧ b.toInt ≤ 9999) ∧ (0 ≤ c.toInt ∧ c.toInt ≤ 9999)) a b c h h2
noncomputable def ph_partM (price a b c : Int32) (h : zH) (w : Option Value) (h2 : zH) : Prop := (fun price a b c h => phN 111 4 (((0 ≤ price.toInt ∧ price.toInt ≤ 9999) ∧ (0 ≤ a.toInt ∧ a.toInt ≤ 9999) ∧ (0 ≤ b.toInt ∧ b.toInt ≤ 9999) ∧ (0 ≤ c.toInt ∧ c.toInt ≤ 9999)) ∧ (tvI (tF h 111 4)).toInt ≠ 12) h) price a b c h w h2 ∧ ph_rowm 111 4 117 12 ((0 ≤ price.toInt ∧ price.toInt ≤ 9999) ∧ (0 ≤ a.toInt ∧ a.toInt ≤ 9999) ∧ (0 ≤ b.toInt ∧ b.toInt ≤ 9999) ∧ (0 ≤ c.toInt ∧ c.toInt ≤ 9999)) a b c h h2
theorem f_hasKind {G : zG} (hG : G.1 = zProg) {h : zH} {n : Int32} (hs : tSh h) : tC zTt G 25 [.ref 1, .int n] h (fun w h2 => tBo (0 ≤ n.toInt ∧ n.toInt < (tvI (tF h 1 6)).toInt) w ∧ h2 = h) := by
  refine tC_in (by rw [hG]; rfl) (fun dp => ?_)
  refine tw_iload rfl rfl ?_
  refine tw_if_lt rfl (fun q111 => ?_) (fun q111 => ?_)
  · try dsimp only [tvI_i, tvJ_j, tvR_r] at q111
    refine tw_push rfl ?_
    exact tw_iret rfl ⟨Or.inr ⟨by omega, rfl⟩, rfl⟩
  · try dsimp only [tvI_i, tvJ_j, tvR_r] at q111
    refine tw_iload rfl rfl ?_
    refine tw_aload rfl rfl ?_
    refine tw_getS rfl (hi_1_6 hs) ?_
    refine tw_ic_ge rfl (fun q112 => ?_) (fun q112 => ?_)
    · try dsimp only [tvI_i, tvJ_j, tvR_r] at q112
      refine tw_push rfl ?_
      exact tw_iret rfl ⟨Or.inr ⟨by omega, rfl⟩, rfl⟩
    · try dsimp only [tvI_i, tvJ_j, tvR_r] at q112
      refine tw_push rfl ?_
      refine tw_goto rfl ?_
      exact tw_iret rfl ⟨Or.inl ⟨by omega, rfl⟩, rfl⟩
theorem f_hasPart {G : zG} (hG : G.1 = zProg) {h : zH} {n : Int32} (hs : tSh h) : tC zTt G 26 [.ref 1, .int n] h (fun w h2 => tBo (0 ≤ n.toInt ∧ n.toInt < (tvI (tF h 1 7)).toInt) w ∧ h2 = h) := by
  refine tC_in (by rw [hG]; rfl) (fun dp => ?_)
  refine tw_iload rfl rfl ?_
  refine tw_if_lt rfl (fun q113 => ?_) (fun q113 => ?_)
  · try dsimp only [tvI_i, tvJ_j, tvR_r] at q113
    refine tw_push rfl ?_
    exact tw_iret rfl ⟨Or.inr ⟨by omega, rfl⟩, rfl⟩
  · try dsimp only [tvI_i, tvJ_j, tvR_r] at q113
    refine tw_iload rfl rfl ?_
    refine tw_aload rfl rfl ?_
    refine tw_getS rfl (hi_1_7 hs) ?_
    refine tw_ic_ge rfl (fun q114 => ?_) (fun q114 => ?_)
    · try dsimp only [tvI_i, tvJ_j, tvR_r] at q114
      refine tw_push rfl ?_
      exact tw_iret rfl ⟨Or.inr ⟨by omega, rfl⟩, rfl⟩
    · try dsimp only [tvI_i, tvJ_j, tvR_r] at q114
      refine tw_push rfl ?_
      refine tw_goto rfl ?_
      exact tw_iret rfl ⟨Or.inl ⟨by omega, rfl⟩, rfl⟩
noncomputable def ph_fic (k p m : Int32) (h : zH) (w : Option Value) (h2 : zH) : Prop := (((0 ≤ k.toInt ∧ k.toInt < (tvI (tF h 1 6)).toInt) ∧ (0 ≤ p.toInt ∧ p.toInt < (tvI (tF h 1 7)).toInt) ∧ (0 ≤ m.toInt ∧ m.toInt ≤ 599) ∧ m.toInt < (tA h (28 + k.toNatClampNeg) p.toNatClampNeg).toInt) ∧ w = some (.int 1) ∧ ∀ i j, tA h2 (28 + i) j = if i = k.toNatClampNeg ∧ j = p.toNatClampNeg then m else tA h (28 + i) j) ∨ (¬ ((0 ≤ k.toInt ∧ k.toInt < (tvI (tF h 1 6)).toInt) ∧ (0 ≤ p.toInt ∧ p.toInt < (tvI (tF h 1 7)).toInt) ∧ (0 ≤ m.toInt ∧ m.toInt ≤ 599) ∧ m.toInt < (tA h (28 + k.toNatClampNeg) p.toNatClampNeg).toInt) ∧ w = some (.int 0) ∧ h2 = h)
noncomputable def ph_fim (k p m : Int32) (h : zH) (w : Option Value) (h2 : zH) : Prop := (((0 ≤ k.toInt ∧ k.toInt < (tvI (tF h 111 3)).toInt) ∧ (0 ≤ p.toInt ∧ p.toInt < (tvI (tF h 111 4)).toInt) ∧ (0 ≤ m.toInt ∧ m.toInt ≤ 599) ∧ m.toInt < (tA h 118 (12 * k + p).toNatClampNeg).toInt) ∧ w = some (.int 1) ∧ tA h2 118 = fun j => if j = (12 * k + p).toNatClampNeg then m else tA h 118 j) ∨ (¬ ((0 ≤ k.toInt ∧ k.toInt < (tvI (tF h 111 3)).toInt) ∧ (0 ≤ p.toInt ∧ p.toInt < (tvI (tF h 111 4)).toInt) ∧ (0 ≤ m.toInt ∧ m.toInt ≤ 599) ∧ m.toInt < (tA h 118 (12 * k + p).toNatClampNeg).toInt) ∧ w = some (.int 0) ∧ h2 = h)
theorem tA_r1 {h : zH} {a b q : Nat} {l : Int32} {k1 : Nat} {z1 : Int32} (f1 : tIn h (q + a) k1 z1) : ∀ i j, tA (tSA h (q + a) b l) (q + i) j = if i = a ∧ j = b then l else tA h (q + i) j := by
  intro i j
  rw [tA_tSA f1.cell]
  dsimp only
  by_cases e1 : i = a ∧ j = b
  · rw [if_pos ⟨by omega, e1.2⟩, if_pos e1]
  · rw [if_neg (by omega), if_neg e1]
theorem tA_s1 {h : zH} {p x : Nat} {l : Int32} {k1 : Nat} {z1 : Int32} (f1 : tIn h p k1 z1) : tA (tSA h p x l) p = fun j => if j = x then l else tA h p j := by
  rw [tA_tSA f1.cell]
  funext j
  dsimp only
  by_cases e2 : j = x
  · rw [if_pos ⟨rfl, e2⟩, if_pos e2]
  · rw [if_neg (fun z => e2 z.2), if_neg e2]
theorem f_fitFrom {G : zG} (hG : G.1 = zProg) {h : zH} {k p m : Int32} (hs : tSh h) (hr : tRw h) : tC zTt G 31 [.ref 1, .int k, .int p, .int m] h (fun w h2 => (m.toInt < (tA h (28 + k.toNatClampNeg) p.toNatClampNeg).toInt ∧ w = some (.int 1) ∧ ∀ i j, tA h2 (28 + i) j = if i = k.toNatClampNeg ∧ j = p.toNatClampNeg then m else tA h (28 + i) j) ∨ (¬ m.toInt < (tA h (28 + k.toNatClampNeg) p.toNatClampNeg).toInt ∧ w = some (.int 0) ∧ h2 = h)) := by
  refine tC_in (by rw [hG]; rfl) (fun dp => ?_)
  refine tw_aload rfl rfl ?_
  refine tw_getS rfl (hs_1_5 hs) ?_
  refine tw_iload rfl rfl ?_
  refine tw_aaldS rfl (fun z => tRw_at hr (p := 27) (q := 28) (by decide) z) ?_
  refine tw_iload rfl rfl ?_
  refine tw_iald rfl (fun f116 => ?_)
  refine tw_iload rfl rfl ?_
  refine tw_ic_gt rfl (fun q117 => ?_) (fun q117 => ?_)
  · try dsimp only [tvI_i, tvJ_j, tvR_r] at q117
    refine tw_aload rfl rfl ?_
    refine tw_getS rfl (hs_1_5 hs) ?_
    refine tw_iload rfl rfl ?_
    refine tw_aaldS rfl (fun z => tRw_at hr (p := 27) (q := 28) (by decide) z) ?_
    refine tw_iload rfl rfl ?_
    refine tw_iload rfl rfl ?_
    refine tw_iast rfl (fun f119 => ?_)
    refine tw_push rfl ?_
    exact tw_iret rfl (Or.inl ⟨by omega, rfl, tA_r1 f119⟩)
  · try dsimp only [tvI_i, tvJ_j, tvR_r] at q117
    refine tw_push rfl ?_
    exact tw_iret rfl (Or.inr ⟨by omega, rfl, rfl⟩)
theorem f_fit {G : zG} (hG : G.1 = zProg) {h : zH} {k p m : Int32} (hs : tSh h) (hr : tRw h) : tC zTt G 115 [.ref 0, .int k, .int p, .int m] h (ph_fic k p m h) := by
  refine tC_in (by rw [hG]; rfl) (fun dp => ?_)
  refine tw_aload rfl rfl ?_
  refine tw_getS rfl (hs_0_0 hs) ?_
  refine tw_iload rfl rfl ?_
  refine tw_virt1 rfl (f_hasKind hG hs) (fun w9 h9 p120 => ?_)
  obtain ⟨⟨p120, rfl⟩ | ⟨p120, rfl⟩, rfl⟩ := p120
  · try dsimp only [tvI_i, tvJ_j, tvR_r] at p120
    refine tw_if_eq rfl (fun z => absurd z (by decide)) (fun _ => ?_)
    refine tw_aload rfl rfl ?_
    refine tw_getS rfl (hs_0_0 hs) ?_
    refine tw_iload rfl rfl ?_
    refine tw_virt1 rfl (f_hasPart hG hs) (fun w9 h9 p121 => ?_)
    obtain ⟨⟨p121, rfl⟩ | ⟨p121, rfl⟩, rfl⟩ := p121
    · try dsimp only [tvI_i, tvJ_j, tvR_r] at p121
      refine tw_if_eq rfl (fun z => absurd z (by decide)) (fun _ => ?_)
      refine tw_iload rfl rfl ?_
      refine tw_stat1 rfl (f_isMonth hG) (fun w9 h9 p122 => ?_)
      obtain ⟨⟨p122, rfl⟩ | ⟨p122, rfl⟩, rfl⟩ := p122
      · try dsimp only [tvI_i, tvJ_j, tvR_r] at p122
        refine tw_if_eq rfl (fun z => absurd z (by decide)) (fun _ => ?_)
        refine tw_aload rfl rfl ?_
        refine tw_getS rfl (hs_0_0 hs) ?_
        refine tw_iload rfl rfl ?_
        refine tw_iload rfl rfl ?_
        refine tw_iload rfl rfl ?_
        refine tw_virt3 rfl (f_fitFrom hG hs hr) (fun w9 h9 p123 => ?_)
        rcases p123 with ⟨p123, rfl, p123f⟩ | ⟨p123, rfl, rfl⟩
        · refine tw_if_eq rfl (fun z => absurd z (by decide)) (fun _ => ?_)
          refine tw_push rfl ?_
          refine tw_goto rfl ?_
          exact tw_iret rfl (Or.inl ⟨by omega, rfl, p123f⟩)
        · refine tw_if_eq rfl (fun _ => ?_) (fun z => absurd z (by decide))
          refine tw_push rfl ?_
          exact tw_iret rfl (Or.inr ⟨by omega, rfl, rfl⟩)
      · try dsimp only [tvI_i, tvJ_j, tvR_r] at p122
        refine tw_if_eq rfl (fun _ => ?_) (fun z => absurd z (by decide))
        refine tw_push rfl ?_
        exact tw_iret rfl (Or.inr ⟨by omega, rfl, rfl⟩)
    · try dsimp only [tvI_i, tvJ_j, tvR_r] at p121
      refine tw_if_eq rfl (fun _ => ?_) (fun z => absurd z (by decide))
      refine tw_push rfl ?_
      exact tw_iret rfl (Or.inr ⟨by omega, rfl, rfl⟩)
  · try dsimp only [tvI_i, tvJ_j, tvR_r] at p120
    refine tw_if_eq rfl (fun _ => ?_) (fun z => absurd z (by decide))
    refine tw_push rfl ?_
    exact tw_iret rfl (Or.inr ⟨by omega, rfl, rfl⟩)
theorem g_isKind {G : zG} (hG : G.1 = zProg) {h : zH} {n : Int32} (hs : tSh h) (hk : 0 ≤ (tvI (tF h 111 3)).toInt) : tC zTt G 176 [.ref 111, .int n] h (fun w h2 => tBo (0 ≤ n.toInt ∧ n.toInt < (tvI (tF h 111 3)).toInt) w ∧ h2 = h) := by
  refine tC_in (by rw [hG]; rfl) (fun dp => ?_)
  refine tw_iload rfl rfl ?_
  refine tw_i2l rfl ?_
  refine tw_push rfl ?_
  refine tw_aload rfl rfl ?_
  refine tw_getS rfl (hi_111_3 hs) ?_
  refine tw_push rfl ?_
  refine tw_isub rfl ?_
  refine tw_i2l rfl ?_
  refine tw_stat3 rfl (f_in hG  (LO := 0)  (Int32.toInt_toInt64 _) (by decide) (Int32.toInt_toInt64 _)) (fun w9 h9 p124 => ?_)
  obtain ⟨⟨p124, rfl⟩ | ⟨p124, rfl⟩, rfl⟩ := p124
  · try dsimp only [tvI_i, tvJ_j, tvR_r] at p124
    exact tw_iret rfl ⟨Or.inl ⟨by have e := zsub1 hk; have := p124; omega, rfl⟩, rfl⟩
  · try dsimp only [tvI_i, tvJ_j, tvR_r] at p124
    exact tw_iret rfl ⟨Or.inr ⟨by have e := zsub1 hk; have := p124; omega, rfl⟩, rfl⟩
theorem g_isPart {G : zG} (hG : G.1 = zProg) {h : zH} {n : Int32} (hs : tSh h) (hk : 0 ≤ (tvI (tF h 111 4)).toInt) : tC zTt G 177 [.ref 111, .int n] h (fun w h2 => tBo (0 ≤ n.toInt ∧ n.toInt < (tvI (tF h 111 4)).toInt) w ∧ h2 = h) := by
  refine tC_in (by rw [hG]; rfl) (fun dp => ?_)
  refine tw_iload rfl rfl ?_
  refine tw_i2l rfl ?_
  refine tw_push rfl ?_
  refine tw_aload rfl rfl ?_
  refine tw_getS rfl (hi_111_4 hs) ?_
  refine tw_push rfl ?_
  refine tw_isub rfl ?_
  refine tw_i2l rfl ?_
  refine tw_stat3 rfl (f_in hG  (LO := 0)  (Int32.toInt_toInt64 _) (by decide) (Int32.toInt_toInt64 _)) (fun w9 h9 p125 => ?_)
  obtain ⟨⟨p125, rfl⟩ | ⟨p125, rfl⟩, rfl⟩ := p125
  · try dsimp only [tvI_i, tvJ_j, tvR_r] at p125
    exact tw_iret rfl ⟨Or.inl ⟨by have e := zsub1 hk; have := p125; omega, rfl⟩, rfl⟩
  · try dsimp only [tvI_i, tvJ_j, tvR_r] at p125
    exact tw_iret rfl ⟨Or.inr ⟨by have e := zsub1 hk; have := p125; omega, rfl⟩, rfl⟩
theorem g_isMonth {G : zG} (hG : G.1 = zProg) {h : zH} {n : Int32} : tC zTt G 172 [.int n] h (fun w h2 => tBo (0 ≤ n.toInt ∧ n.toInt ≤ 599) w ∧ h2 = h) := by
  refine tC_in (by rw [hG]; rfl) (fun dp => ?_)
  refine tw_iload rfl rfl ?_
  refine tw_i2l rfl ?_
  refine tw_push rfl ?_
  refine tw_push rfl ?_
  refine tw_stat3 rfl (f_in hG  (LO := 0) (HI := 599) (Int32.toInt_toInt64 _) (by decide) (by decide)) (fun w9 h9 p126 => ?_)
  obtain ⟨⟨p126, rfl⟩ | ⟨p126, rfl⟩, rfl⟩ := p126
  · try dsimp only [tvI_i, tvJ_j, tvR_r] at p126
    exact tw_iret rfl ⟨Or.inl ⟨p126, rfl⟩, rfl⟩
  · try dsimp only [tvI_i, tvJ_j, tvR_r] at p126
    exact tw_iret rfl ⟨Or.inr ⟨p126, rfl⟩, rfl⟩
theorem g_fit {G : zG} (hG : G.1 = zProg) {h : zH} {k p m : Int32} (hs : tSh h) (hk3 : 0 ≤ (tvI (tF h 111 3)).toInt) (hk4 : 0 ≤ (tvI (tF h 111 4)).toInt) : tC zTt G 183 [.ref 111, .int k, .int p, .int m] h (ph_fim k p m h) := by
  refine tC_in (by rw [hG]; rfl) (fun dp => ?_)
  refine tw_aload rfl rfl ?_
  refine tw_iload rfl rfl ?_
  refine tw_virt1 rfl (g_isKind hG hs hk3) (fun w9 h9 p127 => ?_)
  obtain ⟨⟨p127, rfl⟩ | ⟨p127, rfl⟩, rfl⟩ := p127
  · try dsimp only [tvI_i, tvJ_j, tvR_r] at p127
    refine tw_if_eq rfl (fun z => absurd z (by decide)) (fun _ => ?_)
    refine tw_aload rfl rfl ?_
    refine tw_iload rfl rfl ?_
    refine tw_virt1 rfl (g_isPart hG hs hk4) (fun w9 h9 p128 => ?_)
    obtain ⟨⟨p128, rfl⟩ | ⟨p128, rfl⟩, rfl⟩ := p128
    · try dsimp only [tvI_i, tvJ_j, tvR_r] at p128
      refine tw_if_eq rfl (fun z => absurd z (by decide)) (fun _ => ?_)
      refine tw_iload rfl rfl ?_
      refine tw_stat1 rfl (g_isMonth hG) (fun w9 h9 p129 => ?_)
      obtain ⟨⟨p129, rfl⟩ | ⟨p129, rfl⟩, rfl⟩ := p129
      · try dsimp only [tvI_i, tvJ_j, tvR_r] at p129
        refine tw_if_eq rfl (fun z => absurd z (by decide)) (fun _ => ?_)
        refine tw_aload rfl rfl ?_
        refine tw_getS rfl (hs_111_13 hs) ?_
        refine tw_push rfl ?_
        refine tw_iload rfl rfl ?_
        refine tw_imul rfl ?_
        refine tw_iload rfl rfl ?_
        refine tw_iadd rfl ?_
        refine tw_iald rfl (fun f130 => ?_)
        refine tw_iload rfl rfl ?_
        refine tw_ic_gt rfl (fun q131 => ?_) (fun q131 => ?_)
        · try dsimp only [tvI_i, tvJ_j, tvR_r] at q131
          refine tw_aload rfl rfl ?_
          refine tw_getS rfl (hs_111_13 hs) ?_
          refine tw_push rfl ?_
          refine tw_iload rfl rfl ?_
          refine tw_imul rfl ?_
          refine tw_iload rfl rfl ?_
          refine tw_iadd rfl ?_
          refine tw_iload rfl rfl ?_
          refine tw_iast rfl (fun f132 => ?_)
          refine tw_push rfl ?_
          exact tw_iret rfl (Or.inl ⟨by omega, rfl, tA_s1 f132⟩)
        · try dsimp only [tvI_i, tvJ_j, tvR_r] at q131
          refine tw_push rfl ?_
          exact tw_iret rfl (Or.inr ⟨by omega, rfl, rfl⟩)
      · try dsimp only [tvI_i, tvJ_j, tvR_r] at p129
        refine tw_if_eq rfl (fun _ => ?_) (fun z => absurd z (by decide))
        refine tw_push rfl ?_
        exact tw_iret rfl (Or.inr ⟨by omega, rfl, rfl⟩)
    · try dsimp only [tvI_i, tvJ_j, tvR_r] at p128
      refine tw_if_eq rfl (fun _ => ?_) (fun z => absurd z (by decide))
      refine tw_push rfl ?_
      exact tw_iret rfl (Or.inr ⟨by omega, rfl, rfl⟩)
  · try dsimp only [tvI_i, tvJ_j, tvR_r] at p127
    refine tw_if_eq rfl (fun _ => ?_) (fun z => absurd z (by decide))
    refine tw_push rfl ?_
    exact tw_iret rfl (Or.inr ⟨by omega, rfl, rfl⟩)
theorem rFt_lt {x y m : Int32} (h : rFt x y) (hm : m.toInt ≤ 599) : m.toInt < x.toInt ↔ m.toInt < y.toInt := by
  rcases h with ⟨rfl, _⟩ | ⟨rfl, rfl⟩
  · exact Iff.rfl
  · rw [show (600 : Int32).toInt = 600 from rfl, show (1000000 : Int32).toInt = 1000000 from rfl]
    omega
theorem a_fit {k p m : Int32} {h h2 h3 : zH} {w w2 : Option Value} (hK : R_kinds h) (hP : R_parts h) (nk : (tvI (tF h 1 6)).toInt ≤ 8) (np : (tvI (tF h 1 7)).toInt ≤ 12) (hR : R_fitted h) (e1 : tF h2 111 3 = tF h 111 3) (e4 : tF h2 111 4 = tF h 111 4) (e2 : tA h2 118 = tA h 118) (e3 : ∀ i, i < 8 → tA h3 (28 + i) = tA h2 (28 + i)) (k1 : ph_fic k p m h w h2) (k2 : ph_fim k p m h2 w2 h3) : w2 = w ∧ R_fitted h3 := by
  unfold R_kinds at hK
  unfold R_parts at hP
  unfold ph_fim at k2
  rw [e1, e2, e4, ← hK, ← hP] at k2
  have key : 0 ≤ k.toInt ∧ k.toInt < (tvI (tF h 1 6)).toInt → 0 ≤ p.toInt ∧ p.toInt < (tvI (tF h 1 7)).toInt → 0 ≤ m.toInt ∧ m.toInt ≤ 599 → (m.toInt < (tA h (28 + k.toNatClampNeg) p.toNatClampNeg).toInt ↔ m.toInt < (tA h 118 (12 * k + p).toNatClampNeg).toInt) := fun z1 z2 z3 => by
    have hab := (zmulc (c := 12) (K := 12) (k := k) (p := p) rfl (by decide) (by omega) (by omega)).1
    rw [hab]
    exact rFt_lt (hR _ (by rw [zclE]; omega) _ (by rw [zclE]; omega)) z3.2
  rcases k1 with ⟨c1, rfl, f1⟩ | ⟨c1, rfl, rfl⟩ <;> rcases k2 with ⟨c2, rfl, f2⟩ | ⟨c2, rfl, rfl⟩
  · have hk : k.toNatClampNeg < 8 := by rw [zclE]; omega
    have hp : p.toNatClampNeg < 12 := by rw [zclE]; omega
    have hab := (zmulc (c := 12) (K := 12) (k := k) (p := p) rfl (by decide) (by omega) (by omega)).1
    refine ⟨rfl, fun i hi j hj => ?_⟩
    rw [e3 i hi, f1, f2, hab]
    dsimp only
    by_cases z2 : i = k.toNatClampNeg ∧ j = p.toNatClampNeg
    · rw [if_pos z2, if_pos (by omega)]
      exact Or.inl ⟨rfl, by omega⟩
    · rw [if_neg z2, if_neg (by omega)]
      exact hR i hi j hj
  · exact absurd ⟨c1.1, c1.2.1, c1.2.2.1, (key c1.1 c1.2.1 c1.2.2.1).mp c1.2.2.2⟩ c2
  · exact absurd ⟨c2.1, c2.2.1, c2.2.2.1, (key c2.1 c2.2.1 c2.2.2.1).mpr c2.2.2.2⟩ c1
  · exact ⟨rfl, hR⟩
noncomputable def R_factor (h : zH) : Prop := ∀ i, i < 3 → tA h 2 i = tA h 113 i
theorem f_isSort {G : zG} (hG : G.1 = zProg) {h : zH} {n : Int32} : tC zTt G 161 [.int n] h (fun w h2 => tBo (0 ≤ n.toInt ∧ n.toInt ≤ 2) w ∧ h2 = h) := by
  refine tC_in (by rw [hG]; rfl) (fun dp => ?_)
  refine tw_iload rfl rfl ?_
  refine tw_push rfl ?_
  refine tw_push rfl ?_
  refine tw_stat3 rfl (f_isWithin hG (LO := 0) (HI := 2) (by decide) (by decide)) (fun w9 h9 p133 => ?_)
  obtain ⟨⟨p133, rfl⟩ | ⟨p133, rfl⟩, rfl⟩ := p133
  · try dsimp only [tvI_i, tvJ_j, tvR_r] at p133
    exact tw_iret rfl ⟨Or.inl ⟨p133, rfl⟩, rfl⟩
  · try dsimp only [tvI_i, tvJ_j, tvR_r] at p133
    exact tw_iret rfl ⟨Or.inr ⟨p133, rfl⟩, rfl⟩
theorem f_setFactor {G : zG} (hG : G.1 = zProg) {h : zH} {s n : Int32} (hs : tSh h) : tC zTt G 27 [.ref 1, .int s, .int n] h (fun w h2 => w = some (.int (tA h 2 s.toNatClampNeg)) ∧ h2 = tSA h 2 s.toNatClampNeg n ∧ tIn h 2 0 s) := by
  refine tC_in (by rw [hG]; rfl) (fun dp => ?_)
  refine tw_aload rfl rfl ?_
  refine tw_getS rfl (hs_1_0 hs) ?_
  refine tw_iload rfl rfl ?_
  refine tw_iald rfl (fun f134 => ?_)
  refine tw_istore rfl ?_
  refine tw_aload rfl rfl ?_
  refine tw_getS rfl (hs_1_0 hs) ?_
  refine tw_iload rfl rfl ?_
  refine tw_iload rfl rfl ?_
  refine tw_iast rfl (fun f135 => ?_)
  refine tw_iload rfl rfl ?_
  exact tw_iret rfl ⟨rfl, rfl, f135⟩
noncomputable def ph_factor (p : Nat) (s n : Int32) (h : zH) (w : Option Value) (h2 : zH) : Prop := (((0 ≤ s.toInt ∧ s.toInt ≤ 2) ∧ (1 ≤ n.toInt ∧ n.toInt ≤ 999)) ∧ w = some (.int (tA h p s.toNatClampNeg)) ∧ h2 = tSA h p s.toNatClampNeg n ∧ tIn h p 0 s) ∨ (¬ ((0 ≤ s.toInt ∧ s.toInt ≤ 2) ∧ (1 ≤ n.toInt ∧ n.toInt ≤ 999)) ∧ w = some (.int (-1)) ∧ h2 = h)
theorem f_factor {G : zG} (hG : G.1 = zProg) {h : zH} {s n : Int32} (hs : tSh h) : tC zTt G 112 [.ref 0, .int s, .int n] h (ph_factor 2 s n h) := by
  refine tC_in (by rw [hG]; rfl) (fun dp => ?_)
  refine tw_iload rfl rfl ?_
  refine tw_stat1 rfl (f_isSort hG) (fun w9 h9 p136 => ?_)
  obtain ⟨⟨p136, rfl⟩ | ⟨p136, rfl⟩, rfl⟩ := p136
  · try dsimp only [tvI_i, tvJ_j, tvR_r] at p136
    refine tw_if_eq rfl (fun z => absurd z (by decide)) (fun _ => ?_)
    refine tw_iload rfl rfl ?_
    refine tw_push rfl ?_
    refine tw_push rfl ?_
    refine tw_stat3 rfl (f_isWithin hG (LO := 1) (HI := 999) (by decide) (by decide)) (fun w9 h9 p137 => ?_)
    obtain ⟨⟨p137, rfl⟩ | ⟨p137, rfl⟩, rfl⟩ := p137
    · try dsimp only [tvI_i, tvJ_j, tvR_r] at p137
      refine tw_if_eq rfl (fun z => absurd z (by decide)) (fun _ => ?_)
      refine tw_aload rfl rfl ?_
      refine tw_getS rfl (hs_0_0 hs) ?_
      refine tw_iload rfl rfl ?_
      refine tw_iload rfl rfl ?_
      refine tw_virt2 rfl (f_setFactor hG hs) (fun wp138 hp138 p138 => ?_)
      obtain ⟨rfl, rfl, p138f⟩ := p138
      refine tw_goto rfl ?_
      exact tw_iret rfl (Or.inl ⟨⟨by omega, by omega⟩, rfl, rfl, p138f⟩)
    · try dsimp only [tvI_i, tvJ_j, tvR_r] at p137
      refine tw_if_eq rfl (fun _ => ?_) (fun z => absurd z (by decide))
      refine tw_push rfl ?_
      exact tw_iret rfl (Or.inr ⟨by omega, rfl, rfl⟩)
  · try dsimp only [tvI_i, tvJ_j, tvR_r] at p136
    refine tw_if_eq rfl (fun _ => ?_) (fun z => absurd z (by decide))
    refine tw_push rfl ?_
    exact tw_iret rfl (Or.inr ⟨by omega, rfl, rfl⟩)
theorem g_isSort {G : zG} (hG : G.1 = zProg) {h : zH} {n : Int32} : tC zTt G 173 [.int n] h (fun w h2 => tBo (0 ≤ n.toInt ∧ n.toInt ≤ 2) w ∧ h2 = h) := by
  refine tC_in (by rw [hG]; rfl) (fun dp => ?_)
  refine tw_iload rfl rfl ?_
  refine tw_i2l rfl ?_
  refine tw_push rfl ?_
  refine tw_push rfl ?_
  refine tw_stat3 rfl (f_in hG  (LO := 0) (HI := 2) (Int32.toInt_toInt64 _) (by decide) (by decide)) (fun w9 h9 p139 => ?_)
  obtain ⟨⟨p139, rfl⟩ | ⟨p139, rfl⟩, rfl⟩ := p139
  · try dsimp only [tvI_i, tvJ_j, tvR_r] at p139
    exact tw_iret rfl ⟨Or.inl ⟨p139, rfl⟩, rfl⟩
  · try dsimp only [tvI_i, tvJ_j, tvR_r] at p139
    exact tw_iret rfl ⟨Or.inr ⟨p139, rfl⟩, rfl⟩
theorem g_factor {G : zG} (hG : G.1 = zProg) {h : zH} {s n : Int32} (hs : tSh h) : tC zTt G 180 [.ref 111, .int s, .int n] h (ph_factor 113 s n h) := by
  refine tC_in (by rw [hG]; rfl) (fun dp => ?_)
  refine tw_iload rfl rfl ?_
  refine tw_stat1 rfl (g_isSort hG) (fun w9 h9 p140 => ?_)
  obtain ⟨⟨p140, rfl⟩ | ⟨p140, rfl⟩, rfl⟩ := p140
  · try dsimp only [tvI_i, tvJ_j, tvR_r] at p140
    refine tw_if_eq rfl (fun z => absurd z (by decide)) (fun _ => ?_)
    refine tw_iload rfl rfl ?_
    refine tw_i2l rfl ?_
    refine tw_push rfl ?_
    refine tw_push rfl ?_
    refine tw_stat3 rfl (f_in hG  (LO := 1) (HI := 999) (Int32.toInt_toInt64 _) (by decide) (by decide)) (fun w9 h9 p141 => ?_)
    obtain ⟨⟨p141, rfl⟩ | ⟨p141, rfl⟩, rfl⟩ := p141
    · try dsimp only [tvI_i, tvJ_j, tvR_r] at p141
      refine tw_if_ne rfl (fun _ => ?_) (fun z => absurd z (by decide))
      refine tw_aload rfl rfl ?_
      refine tw_getS rfl (hs_111_8 hs) ?_
      refine tw_iload rfl rfl ?_
      refine tw_iald rfl (fun f142 => ?_)
      refine tw_istore rfl ?_
      refine tw_aload rfl rfl ?_
      refine tw_getS rfl (hs_111_8 hs) ?_
      refine tw_iload rfl rfl ?_
      refine tw_iload rfl rfl ?_
      refine tw_iast rfl (fun f143 => ?_)
      refine tw_iload rfl rfl ?_
      exact tw_iret rfl (Or.inl ⟨⟨by omega, by omega⟩, rfl, rfl, f143⟩)
    · try dsimp only [tvI_i, tvJ_j, tvR_r] at p141
      refine tw_if_ne rfl (fun z => absurd z (by decide)) (fun _ => ?_)
      refine tw_push rfl ?_
      exact tw_iret rfl (Or.inr ⟨by omega, rfl, rfl⟩)
  · try dsimp only [tvI_i, tvJ_j, tvR_r] at p140
    refine tw_if_eq rfl (fun _ => ?_) (fun z => absurd z (by decide))
    refine tw_push rfl ?_
    exact tw_iret rfl (Or.inr ⟨by omega, rfl, rfl⟩)
theorem a_factor {s n : Int32} {h h2 h3 : zH} {w w2 : Option Value} (hR : R_factor h) (h1 : ph_factor 2 s n h w h2) (h9 : ph_factor 113 s n h2 w2 h3) : w2 = w ∧ R_factor h3 := by
  rcases h1 with ⟨c1, rfl, rfl, f1⟩ | ⟨c1, rfl, rfl⟩
  · rcases h9 with ⟨c2, rfl, rfl, f2⟩ | ⟨c2, rfl, rfl⟩
    · refine ⟨?_, fun i hi => ?_⟩
      · rw [tA_tSA f1.cell]
        dsimp only
        rw [if_neg (by omega), hR s.toNatClampNeg (by rw [zclE]; omega)]
      · rw [tA_tSA f2.cell, tA_tSA f1.cell]
        dsimp only
        by_cases e : i = s.toNatClampNeg
        · rw [if_neg (by omega), if_pos ⟨rfl, e⟩, if_pos ⟨rfl, e⟩]
        · rw [if_neg (by omega), if_neg (by omega), if_neg (by omega), if_neg (by omega)]
          exact hR i hi
    · exact absurd c1 c2
  · rcases h9 with ⟨c2, rfl, rfl, f2⟩ | ⟨c2, rfl, rfl⟩
    · exact absurd c2 c1
    · exact ⟨rfl, hR⟩
noncomputable def R_cl (h : zH) : Prop := (∀ i : Nat, (i : Int) < (tvI (tF h 36 4)).toInt → ∃ r, tO h 39 i = some r) ∧ (∀ i j : Nat, (i : Int) < (tvI (tF h 36 4)).toInt → (j : Int) < (tvI (tF h 36 4)).toInt → tO h 39 i = tO h 39 j → i = j)
noncomputable def R_ckind (h : zH) : Prop := ∀ i r : Nat, (i : Int) < (tvI (tF h 36 4)).toInt → tO h 39 i = some r → tF h r 0 = .int (tA h 121 i)
noncomputable def R_cmade (h : zH) : Prop := ∀ i r : Nat, (i : Int) < (tvI (tF h 36 4)).toInt → tO h 39 i = some r → tF h r 1 = .int (tA h 122 i)
noncomputable def R_ctl (h : zH) : Prop := ∀ i r : Nat, (i : Int) < (tvI (tF h 36 4)).toInt → tO h 39 i = some r → tF h r 2 = .int (tA h 123 i)
noncomputable def R_cfo (h : zH) : Prop := ∀ i r : Nat, (i : Int) < (tvI (tF h 36 4)).toInt → tO h 39 i = some r → tF h r 3 = .int (tA h 124 i)
noncomputable def R_cown (h : zH) : Prop := ∀ i r : Nat, (i : Int) < (tvI (tF h 36 4)).toInt → tO h 39 i = some r → tF h r 4 = .int (tA h 125 i)
noncomputable def R_csold (h : zH) : Prop := ∀ i r : Nat, (i : Int) < (tvI (tF h 36 4)).toInt → tO h 39 i = some r → tF h r 5 = .int (tA h 126 i)
noncomputable def R_ccr (h : zH) : Prop := ∀ i r : Nat, (i : Int) < (tvI (tF h 36 4)).toInt → tO h 39 i = some r → tF h r 6 = .int (tA h 127 i)
noncomputable def R_cwr (h : zH) : Prop := ∀ i r : Nat, (i : Int) < (tvI (tF h 36 4)).toInt → tO h 39 i = some r → tF h r 7 = .int (tA h 120 i)
noncomputable def R_cw0 (h : zH) : Prop := ∀ i : Nat, (tvI (tF h 36 4)).toInt ≤ (i : Int) → tA h 120 i = 0
noncomputable def R_cars (h : zH) : Prop := tF h 36 4 = tF h 111 5
theorem tF_ap {h l : zH} {p b : Nat} {w : Value} (hl : p < h.length) (k : tF h p b = w) : tF (h ++ l) p b = w := by
  unfold tF at k ⊢
  rw [List.getElem?_append_left hl]
  exact k
theorem tA_ap {h l : zH} {p : Nat} (hl : p < h.length) : tA (h ++ l) p = tA h p := by
  funext i
  unfold tA
  rw [List.getElem?_append_left hl]
theorem tO_ap {h l : zH} {p : Nat} (hl : p < h.length) : tO (h ++ l) p = tO h p := by
  funext i
  unfold tO
  rw [List.getElem?_append_left hl]
theorem tF_nw {h : zH} {a : Nat} {fs : List Value} {x : zC} {b : Nat} : tF (h ++ [.inr (a, fs), x]) h.length b = fs.getD b .null := by
  unfold tF
  rw [List.getElem?_append_right (Nat.le_refl _), Nat.sub_self]
  rfl
theorem tSh_ap {h l : zH} (hl : 182 ≤ h.length) (k : tSh h) : tSh (h ++ l) := by
  have a1 : tSr.all (fun q => Nat.blt q.1 182) = true := by decide +kernel
  have a2 : tSi.all (fun q => Nat.blt q.1 182) = true := by decide +kernel
  refine ⟨fun q hq => tF_ap ?_ (k.1 q hq), fun q hq => ?_⟩
  · have := Nat.le_of_ble_eq_true (List.all_eq_true.mp a1 q hq)
    omega
  · have := Nat.le_of_ble_eq_true (List.all_eq_true.mp a2 q hq)
    have e : tF (h ++ l) q.1 q.2 = tF h q.1 q.2 := tF_ap (by omega) rfl
    rw [e]
    exact k.2 q hq
theorem f_carInit {G : zG} (hG : G.1 = zProg) {h : zH} {k m o t : Int32} : tC zTt G 0 [.ref h.length, .int k, .int m, .int o, .int t] (h ++ [.inr (0, zcls zTt 0)]) (fun w h2 => w = none ∧ ∃ g : Nat → Int32, (∀ i, i < 12 → g i = 600) ∧ h2 = h ++ [.inr (0, [.int k, .int m, .int t, .int o, .int o, .int m, .int m, .int 0, .int 0, .int 0, .ref (h.length + 1)]), .inl (0, 12, .inl g)]) :=
  tC_of (zcar_init (d := 0) hG (fun g hg => ⟨rfl, g, hg, rfl⟩))
theorem f_hasPerson {G : zG} (hG : G.1 = zProg) {h : zH} {n : Int32} (hs : tSh h) : tC zTt G 15 [.ref 36, .int n] h (fun w h2 => tBo (0 ≤ n.toInt ∧ n.toInt < (tvI (tF h 36 2)).toInt) w ∧ h2 = h) := by
  refine tC_in (by rw [hG]; rfl) (fun dp => ?_)
  refine tw_iload rfl rfl ?_
  refine tw_if_lt rfl (fun q144 => ?_) (fun q144 => ?_)
  · try dsimp only [tvI_i, tvJ_j, tvR_r] at q144
    refine tw_push rfl ?_
    exact tw_iret rfl ⟨Or.inr ⟨by omega, rfl⟩, rfl⟩
  · try dsimp only [tvI_i, tvJ_j, tvR_r] at q144
    refine tw_iload rfl rfl ?_
    refine tw_aload rfl rfl ?_
    refine tw_getS rfl (hi_36_2 hs) ?_
    refine tw_ic_ge rfl (fun q145 => ?_) (fun q145 => ?_)
    · try dsimp only [tvI_i, tvJ_j, tvR_r] at q145
      refine tw_push rfl ?_
      exact tw_iret rfl ⟨Or.inr ⟨by omega, rfl⟩, rfl⟩
    · try dsimp only [tvI_i, tvJ_j, tvR_r] at q145
      refine tw_push rfl ?_
      refine tw_goto rfl ?_
      exact tw_iret rfl ⟨Or.inl ⟨by omega, rfl⟩, rfl⟩
theorem f_addCar {G : zG} (hG : G.1 = zProg) {h : zH} {k m o t : Int32} (hs : tSh h) (hl : 182 ≤ h.length) : tC zTt G 20 [.ref 36, .int k, .int m, .int o, .int t] h (fun w h2 => ((tvI (tF h 36 4)).toInt ≠ 300 ∧ w = some (tF h 36 4) ∧ tF h2 36 4 = .int (tvI (tF h 36 4) + 1) ∧ tO h2 39 = (fun j => if j = (tvI (tF h 36 4)).toNatClampNeg then some h.length else tO h 39 j) ∧ (∀ p b, p < h.length → ¬ (p = 36 ∧ b = 4) → tF h2 p b = tF h p b) ∧ tF h2 h.length 0 = .int k ∧ tF h2 h.length 1 = .int m ∧ tF h2 h.length 2 = .int t ∧ tF h2 h.length 3 = .int o ∧ tF h2 h.length 4 = .int o ∧ tF h2 h.length 5 = .int m ∧ tF h2 h.length 6 = .int m ∧ tF h2 h.length 7 = .int 0) ∨ (¬ (tvI (tF h 36 4)).toInt ≠ 300 ∧ w = some (.int (-1)) ∧ h2 = h)) := by
  refine tC_in (by rw [hG]; rfl) (fun dp => ?_)
  refine tw_aload rfl rfl ?_
  refine tw_getS rfl (hi_36_4 hs) ?_
  refine tw_push rfl ?_
  refine tw_ic_ne rfl (fun q146 => ?_) (fun q146 => ?_)
  · try dsimp only [tvI_i, tvJ_j, tvR_r] at q146
    have q146i := zneq (Y := 300) (by decide) q146
    refine tw_aload rfl rfl ?_
    refine tw_getS rfl (hs_36_3 hs) ?_
    refine tw_aload rfl rfl ?_
    refine tw_getS rfl (hi_36_4 hs) ?_
    refine tw_new rfl rfl ?_
    refine tw_dup rfl ?_
    refine tw_iload rfl rfl ?_
    refine tw_iload rfl rfl ?_
    refine tw_iload rfl rfl ?_
    refine tw_iload rfl rfl ?_
    refine tw_spec4 rfl (f_carInit hG) (fun wp147 hp147 p147 => ?_)
    obtain ⟨rfl, p147g, p147h, rfl⟩ := p147
    refine tw_aast rfl (fun f148 => ?_)
    refine tw_aload rfl rfl ?_
    refine tw_dup rfl ?_
    refine tw_getS rfl (tF_o (tF_ap (by omega) (hi_36_4 hs))) ?_
    refine tw_dup_x1 rfl ?_
    refine tw_push rfl ?_
    refine tw_iadd rfl ?_
    refine tw_put rfl (fun f149 => ?_)
    refine tw_iret rfl (Or.inl ⟨by omega, congrArg some (hi_36_4 hs).symm, tF_same f149, ?_, fun p b hp hn => tF_ne hn (tF_o (tF_ap hp rfl)), (tF_ne (by omega) (tF_o tF_nw)), (tF_ne (by omega) (tF_o tF_nw)), (tF_ne (by omega) (tF_o tF_nw)), (tF_ne (by omega) (tF_o tF_nw)), (tF_ne (by omega) (tF_o tF_nw)), (tF_ne (by omega) (tF_o tF_nw)), (tF_ne (by omega) (tF_o tF_nw)), (tF_ne (by omega) (tF_o tF_nw))⟩)
    rw [tO_tSF, tO_tSO f148.cell]
    funext j
    dsimp only
    rw [tO_ap (by omega)]
    by_cases e : j = (tvI (tF h 36 4)).toNatClampNeg
    · rw [if_pos ⟨rfl, e⟩, if_pos e]
    · rw [if_neg (fun z => e z.2), if_neg e]
  · try dsimp only [tvI_i, tvJ_j, tvR_r] at q146
    have q146i := zeqi (Y := 300) (by decide) q146
    refine tw_push rfl ?_
    exact tw_iret rfl (Or.inr ⟨by omega, rfl, rfl⟩)
noncomputable def ph_carc (k m o : Int32) (h : zH) (w : Option Value) (h2 : zH) : Prop := ((((0 ≤ k.toInt ∧ k.toInt < (tvI (tF h 1 6)).toInt) ∧ (0 ≤ m.toInt ∧ m.toInt ≤ (tvI (tF h 0 14)).toInt) ∧ (0 ≤ o.toInt ∧ o.toInt < (tvI (tF h 36 2)).toInt)) ∧ (tvI (tF h 36 4)).toInt ≠ 300) ∧ w = some (tF h 36 4) ∧ tF h2 36 4 = .int (tvI (tF h 36 4) + 1) ∧ tO h2 39 = (fun j => if j = (tvI (tF h 36 4)).toNatClampNeg then some h.length else tO h 39 j) ∧ (∀ p b, p < h.length → ¬ (p = 36 ∧ b = 4) → tF h2 p b = tF h p b) ∧ tF h2 h.length 0 = .int k ∧ tF h2 h.length 1 = .int m ∧ tF h2 h.length 2 = .int (tvI (tF h 0 14)) ∧ tF h2 h.length 3 = .int o ∧ tF h2 h.length 4 = .int o ∧ tF h2 h.length 5 = .int m ∧ tF h2 h.length 6 = .int m ∧ tF h2 h.length 7 = .int 0) ∨ (¬ (((0 ≤ k.toInt ∧ k.toInt < (tvI (tF h 1 6)).toInt) ∧ (0 ≤ m.toInt ∧ m.toInt ≤ (tvI (tF h 0 14)).toInt) ∧ (0 ≤ o.toInt ∧ o.toInt < (tvI (tF h 36 2)).toInt)) ∧ (tvI (tF h 36 4)).toInt ≠ 300) ∧ w = some (.int (-1)) ∧ h2 = h)
theorem f_car {G : zG} (hG : G.1 = zProg) {h : zH} {k m o : Int32} (hs : tSh h) (hl : 182 ≤ h.length) : tC zTt G 116 [.ref 0, .int k, .int m, .int o] h (ph_carc k m o h) := by
  refine tC_in (by rw [hG]; rfl) (fun dp => ?_)
  refine tw_aload rfl rfl ?_
  refine tw_getS rfl (hs_0_0 hs) ?_
  refine tw_iload rfl rfl ?_
  refine tw_virt1 rfl (f_hasKind hG hs) (fun w9 h9 p150 => ?_)
  obtain ⟨⟨p150, rfl⟩ | ⟨p150, rfl⟩, rfl⟩ := p150
  · try dsimp only [tvI_i, tvJ_j, tvR_r] at p150
    refine tw_if_eq rfl (fun z => absurd z (by decide)) (fun _ => ?_)
    refine tw_iload rfl rfl ?_
    refine tw_push rfl ?_
    refine tw_aload rfl rfl ?_
    refine tw_getS rfl (hi_0_14 hs) ?_
    refine tw_stat3 rfl (f_isWithin hG (LO := 0)  (by decide) rfl) (fun w9 h9 p151 => ?_)
    obtain ⟨⟨p151, rfl⟩ | ⟨p151, rfl⟩, rfl⟩ := p151
    · try dsimp only [tvI_i, tvJ_j, tvR_r] at p151
      refine tw_if_eq rfl (fun z => absurd z (by decide)) (fun _ => ?_)
      refine tw_aload rfl rfl ?_
      refine tw_getS rfl (hs_0_1 hs) ?_
      refine tw_iload rfl rfl ?_
      refine tw_virt1 rfl (f_hasPerson hG hs) (fun w9 h9 p152 => ?_)
      obtain ⟨⟨p152, rfl⟩ | ⟨p152, rfl⟩, rfl⟩ := p152
      · try dsimp only [tvI_i, tvJ_j, tvR_r] at p152
        refine tw_if_eq rfl (fun z => absurd z (by decide)) (fun _ => ?_)
        refine tw_push rfl ?_
        refine tw_goto rfl ?_
        refine tw_istore rfl ?_
        refine tw_iload rfl rfl ?_
        refine tw_if_eq rfl (fun z => absurd z (by decide)) (fun _ => ?_)
        refine tw_aload rfl rfl ?_
        refine tw_getS rfl (hs_0_1 hs) ?_
        refine tw_iload rfl rfl ?_
        refine tw_iload rfl rfl ?_
        refine tw_iload rfl rfl ?_
        refine tw_aload rfl rfl ?_
        refine tw_getS rfl (hi_0_14 hs) ?_
        refine tw_virt4 rfl (f_addCar hG hs hl) (fun w9 h9 p153 => ?_)
        rcases p153 with ⟨p153, rfl, p153e⟩ | ⟨p153, rfl, rfl⟩
        · refine tw_goto rfl ?_
          exact tw_iret rfl (Or.inl ⟨by omega, congrArg some (hi_36_4 hs).symm, p153e⟩)
        · refine tw_goto rfl ?_
          exact tw_iret rfl (Or.inr ⟨by omega, rfl, rfl⟩)
      · try dsimp only [tvI_i, tvJ_j, tvR_r] at p152
        refine tw_if_eq rfl (fun _ => ?_) (fun z => absurd z (by decide))
        refine tw_push rfl ?_
        refine tw_istore rfl ?_
        refine tw_iload rfl rfl ?_
        refine tw_if_eq rfl (fun _ => ?_) (fun z => absurd z (by decide))
        refine tw_push rfl ?_
        exact tw_iret rfl (Or.inr ⟨by omega, rfl, rfl⟩)
    · try dsimp only [tvI_i, tvJ_j, tvR_r] at p151
      refine tw_if_eq rfl (fun _ => ?_) (fun z => absurd z (by decide))
      refine tw_push rfl ?_
      refine tw_istore rfl ?_
      refine tw_iload rfl rfl ?_
      refine tw_if_eq rfl (fun _ => ?_) (fun z => absurd z (by decide))
      refine tw_push rfl ?_
      exact tw_iret rfl (Or.inr ⟨by omega, rfl, rfl⟩)
  · try dsimp only [tvI_i, tvJ_j, tvR_r] at p150
    refine tw_if_eq rfl (fun _ => ?_) (fun z => absurd z (by decide))
    refine tw_push rfl ?_
    refine tw_istore rfl ?_
    refine tw_iload rfl rfl ?_
    refine tw_if_eq rfl (fun _ => ?_) (fun z => absurd z (by decide))
    refine tw_push rfl ?_
    exact tw_iret rfl (Or.inr ⟨by omega, rfl, rfl⟩)
theorem g_isPerson {G : zG} (hG : G.1 = zProg) {h : zH} {n : Int32} (hs : tSh h) (hk : 0 ≤ (tvI (tF h 111 2)).toInt) : tC zTt G 175 [.ref 111, .int n] h (fun w h2 => tBo (0 ≤ n.toInt ∧ n.toInt < (tvI (tF h 111 2)).toInt) w ∧ h2 = h) := by
  refine tC_in (by rw [hG]; rfl) (fun dp => ?_)
  refine tw_iload rfl rfl ?_
  refine tw_i2l rfl ?_
  refine tw_push rfl ?_
  refine tw_aload rfl rfl ?_
  refine tw_getS rfl (hi_111_2 hs) ?_
  refine tw_push rfl ?_
  refine tw_isub rfl ?_
  refine tw_i2l rfl ?_
  refine tw_stat3 rfl (f_in hG  (LO := 0)  (Int32.toInt_toInt64 _) (by decide) (Int32.toInt_toInt64 _)) (fun w9 h9 p154 => ?_)
  obtain ⟨⟨p154, rfl⟩ | ⟨p154, rfl⟩, rfl⟩ := p154
  · try dsimp only [tvI_i, tvJ_j, tvR_r] at p154
    exact tw_iret rfl ⟨Or.inl ⟨by have e := zsub1 hk; have := p154; omega, rfl⟩, rfl⟩
  · try dsimp only [tvI_i, tvJ_j, tvR_r] at p154
    exact tw_iret rfl ⟨Or.inr ⟨by have e := zsub1 hk; have := p154; omega, rfl⟩, rfl⟩
theorem g_car {G : zG} (hG : G.1 = zProg) {h : zH} {k m o : Int32} (hs : tSh h) (hk3 : 0 ≤ (tvI (tF h 111 3)).toInt) (hk2 : 0 ≤ (tvI (tF h 111 2)).toInt) : tC zTt G 184 [.ref 111, .int k, .int m, .int o] h (phA 111 5 (((0 ≤ k.toInt ∧ k.toInt < (tvI (tF h 111 3)).toInt) ∧ (0 ≤ m.toInt ∧ m.toInt ≤ (tvI (tF h 111 1)).toInt) ∧ (0 ≤ o.toInt ∧ o.toInt < (tvI (tF h 111 2)).toInt)) ∧ (tvI (tF h 111 5)).toInt ≠ 300) [(121, k), (122, m), (123, tvI (tF h 111 1)), (124, o), (125, o), (126, m), (127, m)] h) := by
  refine tC_in (by rw [hG]; rfl) (fun dp => ?_)
  refine tw_aload rfl rfl ?_
  refine tw_getS rfl (hi_111_5 hs) ?_
  refine tw_push rfl ?_
  refine tw_ic_eq rfl (fun q155 => ?_) (fun q155 => ?_)
  · try dsimp only [tvI_i, tvJ_j, tvR_r] at q155
    have q155i := zeqi (Y := 300) (by decide) q155
    refine tw_push rfl ?_
    exact tw_iret rfl (Or.inr ⟨by omega, rfl, rfl, fun _ _ => rfl⟩)
  · try dsimp only [tvI_i, tvJ_j, tvR_r] at q155
    have q155i := zneq (Y := 300) (by decide) q155
    refine tw_aload rfl rfl ?_
    refine tw_iload rfl rfl ?_
    refine tw_virt1 rfl (g_isKind hG hs hk3) (fun w9 h9 p156 => ?_)
    obtain ⟨⟨p156, rfl⟩ | ⟨p156, rfl⟩, rfl⟩ := p156
    · try dsimp only [tvI_i, tvJ_j, tvR_r] at p156
      refine tw_if_eq rfl (fun z => absurd z (by decide)) (fun _ => ?_)
      refine tw_iload rfl rfl ?_
      refine tw_i2l rfl ?_
      refine tw_push rfl ?_
      refine tw_aload rfl rfl ?_
      refine tw_getS rfl (hi_111_1 hs) ?_
      refine tw_i2l rfl ?_
      refine tw_stat3 rfl (f_in hG  (LO := 0)  (Int32.toInt_toInt64 _) (by decide) (Int32.toInt_toInt64 _)) (fun w9 h9 p157 => ?_)
      obtain ⟨⟨p157, rfl⟩ | ⟨p157, rfl⟩, rfl⟩ := p157
      · try dsimp only [tvI_i, tvJ_j, tvR_r] at p157
        refine tw_if_eq rfl (fun z => absurd z (by decide)) (fun _ => ?_)
        refine tw_aload rfl rfl ?_
        refine tw_iload rfl rfl ?_
        refine tw_virt1 rfl (g_isPerson hG hs hk2) (fun w9 h9 p158 => ?_)
        obtain ⟨⟨p158, rfl⟩ | ⟨p158, rfl⟩, rfl⟩ := p158
        · try dsimp only [tvI_i, tvJ_j, tvR_r] at p158
          refine tw_if_ne rfl (fun _ => ?_) (fun z => absurd z (by decide))
          refine tw_aload rfl rfl ?_
          refine tw_getS rfl (hs_111_16 hs) ?_
          refine tw_aload rfl rfl ?_
          refine tw_getS rfl (hi_111_5 hs) ?_
          refine tw_iload rfl rfl ?_
          refine tw_iast rfl (fun f159 => ?_)
          refine tw_aload rfl rfl ?_
          refine tw_getS rfl (hs_111_17 (tSh_SA hs)) ?_
          refine tw_aload rfl rfl ?_
          refine tw_getS rfl (tF_a (hi_111_5 hs)) ?_
          refine tw_iload rfl rfl ?_
          refine tw_iast rfl (fun f160 => ?_)
          refine tw_aload rfl rfl ?_
          refine tw_getS rfl (hs_111_18 (tSh_SA (tSh_SA hs))) ?_
          refine tw_aload rfl rfl ?_
          refine tw_getS rfl (tF_a (tF_a (hi_111_5 hs))) ?_
          refine tw_aload rfl rfl ?_
          refine tw_getS rfl (tF_a (tF_a (hi_111_1 hs))) ?_
          refine tw_iast rfl (fun f161 => ?_)
          refine tw_aload rfl rfl ?_
          refine tw_getS rfl (hs_111_19 (tSh_SA (tSh_SA (tSh_SA hs)))) ?_
          refine tw_aload rfl rfl ?_
          refine tw_getS rfl (tF_a (tF_a (tF_a (hi_111_5 hs)))) ?_
          refine tw_iload rfl rfl ?_
          refine tw_iast rfl (fun f162 => ?_)
          refine tw_aload rfl rfl ?_
          refine tw_getS rfl (hs_111_20 (tSh_SA (tSh_SA (tSh_SA (tSh_SA hs))))) ?_
          refine tw_aload rfl rfl ?_
          refine tw_getS rfl (tF_a (tF_a (tF_a (tF_a (hi_111_5 hs))))) ?_
          refine tw_iload rfl rfl ?_
          refine tw_iast rfl (fun f163 => ?_)
          refine tw_aload rfl rfl ?_
          refine tw_getS rfl (hs_111_21 (tSh_SA (tSh_SA (tSh_SA (tSh_SA (tSh_SA hs)))))) ?_
          refine tw_aload rfl rfl ?_
          refine tw_getS rfl (tF_a (tF_a (tF_a (tF_a (tF_a (hi_111_5 hs)))))) ?_
          refine tw_iload rfl rfl ?_
          refine tw_iast rfl (fun f164 => ?_)
          refine tw_aload rfl rfl ?_
          refine tw_getS rfl (hs_111_22 (tSh_SA (tSh_SA (tSh_SA (tSh_SA (tSh_SA (tSh_SA hs))))))) ?_
          refine tw_aload rfl rfl ?_
          refine tw_getS rfl (tF_a (tF_a (tF_a (tF_a (tF_a (tF_a (hi_111_5 hs))))))) ?_
          refine tw_iload rfl rfl ?_
          refine tw_iast rfl (fun f165 => ?_)
          refine tw_aload rfl rfl ?_
          refine tw_dup rfl ?_
          refine tw_getS rfl (tF_a (tF_a (tF_a (tF_a (tF_a (tF_a (tF_a (hi_111_5 hs)))))))) ?_
          refine tw_push rfl ?_
          refine tw_iadd rfl ?_
          refine tw_put rfl (fun f166 => ?_)
          refine tw_aload rfl rfl ?_
          refine tw_getS rfl (tF_same f166) ?_
          refine tw_push rfl ?_
          refine tw_isub rfl ?_
          exact tw_iret rfl (Or.inl ⟨by omega, wret1 (hi_111_5 hs), (tF_same f166), (fun q hq => by rcases List.mem_cons.mp hq with rfl | hq; (show tA _ 121 = _; exact (tA_ff (tA_n (by decide) (tA_n (by decide) (tA_n (by decide) (tA_n (by decide) (tA_n (by decide) (tA_n (by decide) (tA_st f159 rfl))))))))); rcases List.mem_cons.mp hq with rfl | hq; (show tA _ 122 = _; exact (tA_ff (tA_n (by decide) (tA_n (by decide) (tA_n (by decide) (tA_n (by decide) (tA_n (by decide) (tA_st f160 (tA_n (by decide) rfl))))))))); rcases List.mem_cons.mp hq with rfl | hq; (show tA _ 123 = _; exact (tA_ff (tA_n (by decide) (tA_n (by decide) (tA_n (by decide) (tA_n (by decide) (tA_st f161 (tA_n (by decide) (tA_n (by decide) rfl))))))))); rcases List.mem_cons.mp hq with rfl | hq; (show tA _ 124 = _; exact (tA_ff (tA_n (by decide) (tA_n (by decide) (tA_n (by decide) (tA_st f162 (tA_n (by decide) (tA_n (by decide) (tA_n (by decide) rfl))))))))); rcases List.mem_cons.mp hq with rfl | hq; (show tA _ 125 = _; exact (tA_ff (tA_n (by decide) (tA_n (by decide) (tA_st f163 (tA_n (by decide) (tA_n (by decide) (tA_n (by decide) (tA_n (by decide) rfl))))))))); rcases List.mem_cons.mp hq with rfl | hq; (show tA _ 126 = _; exact (tA_ff (tA_n (by decide) (tA_st f164 (tA_n (by decide) (tA_n (by decide) (tA_n (by decide) (tA_n (by decide) (tA_n (by decide) rfl))))))))); rcases List.mem_cons.mp hq with rfl | hq; (show tA _ 127 = _; exact (tA_ff (tA_st f165 (tA_n (by decide) (tA_n (by decide) (tA_n (by decide) (tA_n (by decide) (tA_n (by decide) (tA_n (by decide) rfl))))))))); cases hq)⟩)
        · try dsimp only [tvI_i, tvJ_j, tvR_r] at p158
          refine tw_if_ne rfl (fun z => absurd z (by decide)) (fun _ => ?_)
          refine tw_push rfl ?_
          exact tw_iret rfl (Or.inr ⟨by omega, rfl, rfl, fun _ _ => rfl⟩)
      · try dsimp only [tvI_i, tvJ_j, tvR_r] at p157
        refine tw_if_eq rfl (fun _ => ?_) (fun z => absurd z (by decide))
        refine tw_push rfl ?_
        exact tw_iret rfl (Or.inr ⟨by omega, rfl, rfl, fun _ _ => rfl⟩)
    · try dsimp only [tvI_i, tvJ_j, tvR_r] at p156
      refine tw_if_eq rfl (fun _ => ?_) (fun z => absurd z (by decide))
      refine tw_push rfl ?_
      exact tw_iret rfl (Or.inr ⟨by omega, rfl, rfl, fun _ _ => rfl⟩)
theorem a_car {xs : Nat → Int32} {τ τ2 : List Nat} {k m o : Int32} {h h2 h3 : zH} {w w2 : Option Value} (hB : zBs xs τ h) (hB2 : zBs xs τ2 h2) (hK : R_kinds h) (hW : R_now h) (hP : R_people h) (hR : R_cars h) (hL : R_cl h) (h_ckind : R_ckind h) (o_ckind : tA h2 121 = tA h 121) (h_cmade : R_cmade h) (o_cmade : tA h2 122 = tA h 122) (h_ctl : R_ctl h) (o_ctl : tA h2 123 = tA h 123) (h_cfo : R_cfo h) (o_cfo : tA h2 124 = tA h 124) (h_cown : R_cown h) (o_cown : tA h2 125 = tA h 125) (h_csold : R_csold h) (o_csold : tA h2 126 = tA h 126) (h_ccr : R_ccr h) (o_ccr : tA h2 127 = tA h 127) (h_cwr : R_cwr h) (o_cwr : tA h2 120 = tA h 120) (e1 : tF h2 111 5 = tF h 111 5) (e3 : tF h2 111 3 = tF h 111 3) (e4 : tF h2 111 1 = tF h 111 1) (e5 : tF h2 111 2 = tF h 111 2) (e2 : tF h3 36 4 = tF h2 36 4) (e6 : tO h3 39 = tO h2 39) (e7 : ∀ i r f : Nat, (i : Int) < (tvI (tF h2 36 4)).toInt → tO h2 39 i = some r → tF h3 r f = tF h2 r f) (hwr : R_cw0 h) (o9 : tA h3 120 = tA h2 120) (k1 : ph_carc k m o h w h2) (k2 : phA 111 5 (((0 ≤ k.toInt ∧ k.toInt < (tvI (tF h2 111 3)).toInt) ∧ (0 ≤ m.toInt ∧ m.toInt ≤ (tvI (tF h2 111 1)).toInt) ∧ (0 ≤ o.toInt ∧ o.toInt < (tvI (tF h2 111 2)).toInt)) ∧ (tvI (tF h2 111 5)).toInt ≠ 300) [(121, k), (122, m), (123, tvI (tF h2 111 1)), (124, o), (125, o), (126, m), (127, m)] h2 w2 h3) : w2 = w ∧ R_cars h3 ∧ R_cl h3 ∧ R_ckind h3 ∧ R_cmade h3 ∧ R_ctl h3 ∧ R_cfo h3 ∧ R_cown h3 ∧ R_csold h3 ∧ R_ccr h3 ∧ R_cwr h3 ∧ R_cw0 h3 := by
  unfold R_kinds at hK
  unfold R_now at hW
  unfold R_people at hP
  have hR0 := hR
  unfold R_cars at hR0
  rw [e1, e3, e4, e5, ← hK, ← hW, ← hP, ← hR0] at k2
  have n1 := (kb_36_4 hB).1
  have n2 := (kb_36_4 hB).2
  rcases k1 with ⟨c1, rfl, f1, g1, g2, f_ckind, f_cmade, f_ctl, f_cfo, f_cown, f_csold, f_ccr, f_cwr⟩ | ⟨c1, rfl, rfl⟩ <;> rcases k2 with ⟨c2, rfl, f2, q2⟩ | ⟨c2, rfl, f2, q2⟩
  · have hc : R_cars h3 := by
      unfold R_cars
      rw [e2, f1, f2, e1, ← hR0]
    have en : (tvI (tF h3 36 4)).toInt = (tvI (tF h 36 4)).toInt + 1 := by
      rw [e2, f1]
      show (tvI (tF h 36 4) + 1).toInt = _
      rw [Int32.toInt_add]
      exact Int.bmod_eq_of_le (by show (-2147483648 : Int) ≤ (tvI (tF h 36 4)).toInt + 1; omega) (by show (tvI (tF h 36 4)).toInt + 1 < (2147483648 : Int); omega)
    have en2 : (tvI (tF h2 36 4)).toInt = (tvI (tF h 36 4)).toInt + 1 := by rw [← e2]; exact en
    have eo : tO h3 39 = fun j => if j = (tvI (tF h 36 4)).toNatClampNeg then some h.length else tO h 39 j := by rw [e6, g1]
    have hnc : ((tvI (tF h 36 4)).toNatClampNeg : Int) = (tvI (tF h 36 4)).toInt := by rw [zclE]; omega
    have hL3 : R_cl h3 := by
      unfold R_cl
      rw [en, eo]
      refine ⟨fun i hi => ?_, fun i j hi hj e => ?_⟩
      · dsimp only
        by_cases z : i = (tvI (tF h 36 4)).toNatClampNeg
        · rw [if_pos z]; exact ⟨_, rfl⟩
        · rw [if_neg z]; exact hL.1 i (by omega)
      · dsimp only at e
        by_cases z : i = (tvI (tF h 36 4)).toNatClampNeg
        · by_cases z2 : j = (tvI (tF h 36 4)).toNatClampNeg
          · omega
          · rw [if_pos z, if_neg z2] at e
            have := car_lt hB (i := j) (r := h.length) (by omega) e.symm
            omega
        · by_cases z2 : j = (tvI (tF h 36 4)).toNatClampNeg
          · rw [if_neg z, if_pos z2] at e
            have := car_lt hB (i := i) (r := h.length) (by omega) e
            omega
          · rw [if_neg z, if_neg z2] at e
            exact hL.2 i j (by omega) (by omega) e
    have H_ckind : R_ckind h3 := by
      intro i r hi hr
      rw [en] at hi
      have hr2 := hr
      rw [e6] at hr2
      rw [e7 i r 0 (by omega) hr2, q2 (121, k) (by simp), e1, ← hR0]
      rw [eo] at hr
      dsimp only at hr ⊢
      by_cases z : i = (tvI (tF h 36 4)).toNatClampNeg
      · rw [if_pos z] at hr
        cases hr
        rw [if_pos z]
        exact f_ckind
      · rw [if_neg z] at hr
        have hi2 : (i : Int) < (tvI (tF h 36 4)).toInt := by omega
        rw [if_neg z, g2 r 0 (car_lt hB hi2 hr) (fun y => car_ne hB hi2 hr (p := 36) (t := 12) rfl (by decide) y.1), o_ckind]
        exact h_ckind i r hi2 hr
    have H_cmade : R_cmade h3 := by
      intro i r hi hr
      rw [en] at hi
      have hr2 := hr
      rw [e6] at hr2
      rw [e7 i r 1 (by omega) hr2, q2 (122, m) (by simp), e1, ← hR0]
      rw [eo] at hr
      dsimp only at hr ⊢
      by_cases z : i = (tvI (tF h 36 4)).toNatClampNeg
      · rw [if_pos z] at hr
        cases hr
        rw [if_pos z]
        exact f_cmade
      · rw [if_neg z] at hr
        have hi2 : (i : Int) < (tvI (tF h 36 4)).toInt := by omega
        rw [if_neg z, g2 r 1 (car_lt hB hi2 hr) (fun y => car_ne hB hi2 hr (p := 36) (t := 12) rfl (by decide) y.1), o_cmade]
        exact h_cmade i r hi2 hr
    have H_ctl : R_ctl h3 := by
      intro i r hi hr
      rw [en] at hi
      have hr2 := hr
      rw [e6] at hr2
      rw [e7 i r 2 (by omega) hr2, q2 (123, tvI (tF h 0 14)) (by simp), e1, ← hR0]
      rw [eo] at hr
      dsimp only at hr ⊢
      by_cases z : i = (tvI (tF h 36 4)).toNatClampNeg
      · rw [if_pos z] at hr
        cases hr
        rw [if_pos z]
        exact f_ctl
      · rw [if_neg z] at hr
        have hi2 : (i : Int) < (tvI (tF h 36 4)).toInt := by omega
        rw [if_neg z, g2 r 2 (car_lt hB hi2 hr) (fun y => car_ne hB hi2 hr (p := 36) (t := 12) rfl (by decide) y.1), o_ctl]
        exact h_ctl i r hi2 hr
    have H_cfo : R_cfo h3 := by
      intro i r hi hr
      rw [en] at hi
      have hr2 := hr
      rw [e6] at hr2
      rw [e7 i r 3 (by omega) hr2, q2 (124, o) (by simp), e1, ← hR0]
      rw [eo] at hr
      dsimp only at hr ⊢
      by_cases z : i = (tvI (tF h 36 4)).toNatClampNeg
      · rw [if_pos z] at hr
        cases hr
        rw [if_pos z]
        exact f_cfo
      · rw [if_neg z] at hr
        have hi2 : (i : Int) < (tvI (tF h 36 4)).toInt := by omega
        rw [if_neg z, g2 r 3 (car_lt hB hi2 hr) (fun y => car_ne hB hi2 hr (p := 36) (t := 12) rfl (by decide) y.1), o_cfo]
        exact h_cfo i r hi2 hr
    have H_cown : R_cown h3 := by
      intro i r hi hr
      rw [en] at hi
      have hr2 := hr
      rw [e6] at hr2
      rw [e7 i r 4 (by omega) hr2, q2 (125, o) (by simp), e1, ← hR0]
      rw [eo] at hr
      dsimp only at hr ⊢
      by_cases z : i = (tvI (tF h 36 4)).toNatClampNeg
      · rw [if_pos z] at hr
        cases hr
        rw [if_pos z]
        exact f_cown
      · rw [if_neg z] at hr
        have hi2 : (i : Int) < (tvI (tF h 36 4)).toInt := by omega
        rw [if_neg z, g2 r 4 (car_lt hB hi2 hr) (fun y => car_ne hB hi2 hr (p := 36) (t := 12) rfl (by decide) y.1), o_cown]
        exact h_cown i r hi2 hr
    have H_csold : R_csold h3 := by
      intro i r hi hr
      rw [en] at hi
      have hr2 := hr
      rw [e6] at hr2
      rw [e7 i r 5 (by omega) hr2, q2 (126, m) (by simp), e1, ← hR0]
      rw [eo] at hr
      dsimp only at hr ⊢
      by_cases z : i = (tvI (tF h 36 4)).toNatClampNeg
      · rw [if_pos z] at hr
        cases hr
        rw [if_pos z]
        exact f_csold
      · rw [if_neg z] at hr
        have hi2 : (i : Int) < (tvI (tF h 36 4)).toInt := by omega
        rw [if_neg z, g2 r 5 (car_lt hB hi2 hr) (fun y => car_ne hB hi2 hr (p := 36) (t := 12) rfl (by decide) y.1), o_csold]
        exact h_csold i r hi2 hr
    have H_ccr : R_ccr h3 := by
      intro i r hi hr
      rw [en] at hi
      have hr2 := hr
      rw [e6] at hr2
      rw [e7 i r 6 (by omega) hr2, q2 (127, m) (by simp), e1, ← hR0]
      rw [eo] at hr
      dsimp only at hr ⊢
      by_cases z : i = (tvI (tF h 36 4)).toNatClampNeg
      · rw [if_pos z] at hr
        cases hr
        rw [if_pos z]
        exact f_ccr
      · rw [if_neg z] at hr
        have hi2 : (i : Int) < (tvI (tF h 36 4)).toInt := by omega
        rw [if_neg z, g2 r 6 (car_lt hB hi2 hr) (fun y => car_ne hB hi2 hr (p := 36) (t := 12) rfl (by decide) y.1), o_ccr]
        exact h_ccr i r hi2 hr
    have H_cw0 : R_cw0 h3 := by
      intro i hi
      rw [en] at hi
      rw [o9, o_cwr]
      exact hwr i (by omega)
    have H_cwr : R_cwr h3 := by
      intro i r hi hr
      rw [en] at hi
      have hr2 := hr
      rw [e6] at hr2
      rw [e7 i r 7 (by omega) hr2, o9, o_cwr]
      rw [eo] at hr
      dsimp only at hr
      by_cases z : i = (tvI (tF h 36 4)).toNatClampNeg
      · rw [if_pos z] at hr
        cases hr
        rw [hwr i (by omega)]
        exact f_cwr
      · rw [if_neg z] at hr
        have hi2 : (i : Int) < (tvI (tF h 36 4)).toInt := by omega
        rw [g2 r 7 (car_lt hB hi2 hr) (fun y => car_ne hB hi2 hr (p := 36) (t := 12) rfl (by decide) y.1)]
        exact h_cwr i r hi2 hr
    exact ⟨by rw [e1, ← hR0], hc, hL3, H_ckind, H_cmade, H_ctl, H_cfo, H_cown, H_csold, H_ccr, H_cwr, H_cw0⟩
  · exact absurd c1 c2
  · exact absurd c2 c1
  · have hc : R_cars h3 := by
      unfold R_cars
      rw [e2, f2]
      exact hR0
    have hL3 : R_cl h3 := by unfold R_cl; rw [e2, e6]; exact hL
    have H_ckind : R_ckind h3 := by
      intro i r hi hr
      rw [e2] at hi
      rw [e6] at hr
      rw [e7 i r 0 hi hr, q2 (121, k) (by simp)]
      exact h_ckind i r hi hr
    have H_cmade : R_cmade h3 := by
      intro i r hi hr
      rw [e2] at hi
      rw [e6] at hr
      rw [e7 i r 1 hi hr, q2 (122, m) (by simp)]
      exact h_cmade i r hi hr
    have H_ctl : R_ctl h3 := by
      intro i r hi hr
      rw [e2] at hi
      rw [e6] at hr
      rw [e7 i r 2 hi hr, q2 (123, tvI (tF h2 0 14)) (by simp)]
      exact h_ctl i r hi hr
    have H_cfo : R_cfo h3 := by
      intro i r hi hr
      rw [e2] at hi
      rw [e6] at hr
      rw [e7 i r 3 hi hr, q2 (124, o) (by simp)]
      exact h_cfo i r hi hr
    have H_cown : R_cown h3 := by
      intro i r hi hr
      rw [e2] at hi
      rw [e6] at hr
      rw [e7 i r 4 hi hr, q2 (125, o) (by simp)]
      exact h_cown i r hi hr
    have H_csold : R_csold h3 := by
      intro i r hi hr
      rw [e2] at hi
      rw [e6] at hr
      rw [e7 i r 5 hi hr, q2 (126, m) (by simp)]
      exact h_csold i r hi hr
    have H_ccr : R_ccr h3 := by
      intro i r hi hr
      rw [e2] at hi
      rw [e6] at hr
      rw [e7 i r 6 hi hr, q2 (127, m) (by simp)]
      exact h_ccr i r hi hr
    have H_cw0 : R_cw0 h3 := by
      intro i hi
      rw [e2] at hi
      rw [o9]
      exact hwr i hi
    have H_cwr : R_cwr h3 := by
      intro i r hi hr
      rw [e2] at hi
      rw [e6] at hr
      rw [e7 i r 7 hi hr, o9]
      exact h_cwr i r hi hr
    exact ⟨rfl, hc, hL3, H_ckind, H_cmade, H_ctl, H_cfo, H_cown, H_csold, H_ccr, H_cwr, H_cw0⟩
noncomputable def R_crb (h : zH) : Prop := ∀ i r : Nat, (i : Int) < (tvI (tF h 36 4)).toInt → tO h 39 i = some r → tF h r 8 = .int (tvI (tF h r 8)) ∧ ∀ c, c < 20 → (bI (tvI (tF h r 8)) c ↔ ¬ tA h 178 (300 * c + i) = 0)
noncomputable def R_cr0 (h : zH) : Prop := ∀ i c : Nat, (tvI (tF h 36 4)).toInt ≤ (i : Int) → i < 300 → c < 20 → tA h 178 (300 * c + i) = 0
noncomputable def R_cmb (h : zH) : Prop := ∀ i r : Nat, (i : Int) < (tvI (tF h 36 4)).toInt → tO h 39 i = some r → tF h r 9 = .int (tvI (tF h r 9)) ∧ ∀ c, c < 20 → (bI (tvI (tF h r 9)) c ↔ ¬ tA h 177 (300 * c + i) = 0)
noncomputable def R_cm0 (h : zH) : Prop := ∀ i c : Nat, (tvI (tF h 36 4)).toInt ≤ (i : Int) → i < 300 → c < 20 → tA h 177 (300 * c + i) = 0
noncomputable def R_crc (h : zH) : Prop := ∀ i c : Nat, i < 300 → c < 20 → ¬ tA h 178 (300 * c + i) = 0 → (c : Int) < (tvI (tF h 111 83)).toInt ∧ tA h 121 i = tA h 173 c ∧ (tA h 174 c).toInt ≤ (tA h 122 i).toInt ∧ (tA h 122 i).toInt ≤ (tA h 175 c).toInt
noncomputable def R_cpp (h : zH) : Prop := ∀ i r : Nat, (i : Int) < (tvI (tF h 36 4)).toInt → tO h 39 i = some r → tF h r 10 = .ref (r + 1)
noncomputable def R_lowc (h : zH) : Prop := ∀ k : Nat, (k : Int) < (tvI (tF h 111 6)).toInt → ((tA h 128 k).toNatClampNeg : Int) < (tvI (tF h 111 5)).toInt
noncomputable def R_lowo (h : zH) : Prop := ∀ i : Nat, (i : Int) < (tvI (tF h 111 5)).toInt → tA h 125 i = sLo (tA h 128) (tA h 129) i (tA h 124 i) (tvI (tF h 111 6)).toNatClampNeg
theorem tA_nw {h : zH} {x : zC} {k N : Nat} {g : Nat → Int32} : tA (h ++ [x, .inl (k, N, .inl g)]) (h.length + 1) = g := by
  funext i
  unfold tA
  rw [List.getElem?_append_right (by omega), show h.length + 1 - h.length = 1 by omega]
  rfl
theorem f_addCarX {G : zG} (hG : G.1 = zProg) {h : zH} {k m o t : Int32} (hs : tSh h) (hl : 182 ≤ h.length) : tC zTt G 20 [.ref 36, .int k, .int m, .int o, .int t] h (fun w h2 => ((tvI (tF h 36 4)).toInt ≠ 300 ∧ (∃ x, w = some (.int x)) ∧ tF h2 h.length 8 = .int 0 ∧ tF h2 h.length 9 = .int 0 ∧ tF h2 h.length 10 = .ref (h.length + 1) ∧ ∀ i, i < 12 → tA h2 (h.length + 1) i = 600) ∨ (¬ (tvI (tF h 36 4)).toInt ≠ 300 ∧ (∃ x, w = some (.int x)))) := by
  refine tC_in (by rw [hG]; rfl) (fun dp => ?_)
  refine tw_aload rfl rfl ?_
  refine tw_getS rfl (hi_36_4 hs) ?_
  refine tw_push rfl ?_
  refine tw_ic_ne rfl (fun q167 => ?_) (fun q167 => ?_)
  · try dsimp only [tvI_i, tvJ_j, tvR_r] at q167
    have q167i := zneq (Y := 300) (by decide) q167
    refine tw_aload rfl rfl ?_
    refine tw_getS rfl (hs_36_3 hs) ?_
    refine tw_aload rfl rfl ?_
    refine tw_getS rfl (hi_36_4 hs) ?_
    refine tw_new rfl rfl ?_
    refine tw_dup rfl ?_
    refine tw_iload rfl rfl ?_
    refine tw_iload rfl rfl ?_
    refine tw_iload rfl rfl ?_
    refine tw_iload rfl rfl ?_
    refine tw_spec4 rfl (f_carInit hG) (fun wp168 hp168 p168 => ?_)
    obtain ⟨rfl, p168g, p168h, rfl⟩ := p168
    refine tw_aast rfl (fun f169 => ?_)
    refine tw_aload rfl rfl ?_
    refine tw_dup rfl ?_
    refine tw_getS rfl (tF_o (tF_ap (by omega) (hi_36_4 hs))) ?_
    refine tw_dup_x1 rfl ?_
    refine tw_push rfl ?_
    refine tw_iadd rfl ?_
    refine tw_put rfl (fun f170 => ?_)
    exact tw_iret rfl (Or.inl ⟨by omega, ⟨_, rfl⟩, (tF_ne (by omega) (tF_o tF_nw)), (tF_ne (by omega) (tF_o tF_nw)), (tF_ne (by omega) (tF_o tF_nw)), fun i hi => by rw [tA_tSF, tA_tSO, tA_nw]; exact p168h i hi⟩)
  · try dsimp only [tvI_i, tvJ_j, tvR_r] at q167
    have q167i := zeqi (Y := 300) (by decide) q167
    refine tw_push rfl ?_
    exact tw_iret rfl (Or.inr ⟨by omega, _, rfl⟩)
theorem f_carX {G : zG} (hG : G.1 = zProg) {h : zH} {k m o : Int32} (hs : tSh h) (hl : 182 ≤ h.length) : tC zTt G 116 [.ref 0, .int k, .int m, .int o] h (fun w h2 => ((((0 ≤ k.toInt ∧ k.toInt < (tvI (tF h 1 6)).toInt) ∧ (0 ≤ m.toInt ∧ m.toInt ≤ (tvI (tF h 0 14)).toInt) ∧ (0 ≤ o.toInt ∧ o.toInt < (tvI (tF h 36 2)).toInt)) ∧ (tvI (tF h 36 4)).toInt ≠ 300) ∧ tF h2 h.length 8 = .int 0 ∧ tF h2 h.length 9 = .int 0 ∧ tF h2 h.length 10 = .ref (h.length + 1) ∧ ∀ i, i < 12 → tA h2 (h.length + 1) i = 600) ∨ ¬ (((0 ≤ k.toInt ∧ k.toInt < (tvI (tF h 1 6)).toInt) ∧ (0 ≤ m.toInt ∧ m.toInt ≤ (tvI (tF h 0 14)).toInt) ∧ (0 ≤ o.toInt ∧ o.toInt < (tvI (tF h 36 2)).toInt)) ∧ (tvI (tF h 36 4)).toInt ≠ 300)) := by
  refine tC_in (by rw [hG]; rfl) (fun dp => ?_)
  refine tw_aload rfl rfl ?_
  refine tw_getS rfl (hs_0_0 hs) ?_
  refine tw_iload rfl rfl ?_
  refine tw_virt1 rfl (f_hasKind hG hs) (fun w9 h9 p171 => ?_)
  obtain ⟨⟨p171, rfl⟩ | ⟨p171, rfl⟩, rfl⟩ := p171
  · try dsimp only [tvI_i, tvJ_j, tvR_r] at p171
    refine tw_if_eq rfl (fun z => absurd z (by decide)) (fun _ => ?_)
    refine tw_iload rfl rfl ?_
    refine tw_push rfl ?_
    refine tw_aload rfl rfl ?_
    refine tw_getS rfl (hi_0_14 hs) ?_
    refine tw_stat3 rfl (f_isWithin hG (LO := 0)  (by decide) rfl) (fun w9 h9 p172 => ?_)
    obtain ⟨⟨p172, rfl⟩ | ⟨p172, rfl⟩, rfl⟩ := p172
    · try dsimp only [tvI_i, tvJ_j, tvR_r] at p172
      refine tw_if_eq rfl (fun z => absurd z (by decide)) (fun _ => ?_)
      refine tw_aload rfl rfl ?_
      refine tw_getS rfl (hs_0_1 hs) ?_
      refine tw_iload rfl rfl ?_
      refine tw_virt1 rfl (f_hasPerson hG hs) (fun w9 h9 p173 => ?_)
      obtain ⟨⟨p173, rfl⟩ | ⟨p173, rfl⟩, rfl⟩ := p173
      · try dsimp only [tvI_i, tvJ_j, tvR_r] at p173
        refine tw_if_eq rfl (fun z => absurd z (by decide)) (fun _ => ?_)
        refine tw_push rfl ?_
        refine tw_goto rfl ?_
        refine tw_istore rfl ?_
        refine tw_iload rfl rfl ?_
        refine tw_if_eq rfl (fun z => absurd z (by decide)) (fun _ => ?_)
        refine tw_aload rfl rfl ?_
        refine tw_getS rfl (hs_0_1 hs) ?_
        refine tw_iload rfl rfl ?_
        refine tw_iload rfl rfl ?_
        refine tw_iload rfl rfl ?_
        refine tw_aload rfl rfl ?_
        refine tw_getS rfl (hi_0_14 hs) ?_
        refine tw_virt4 rfl (f_addCarX hG hs hl) (fun w9 h9 p174 => ?_)
        rcases p174 with ⟨p174, ⟨_, rfl⟩, p174e⟩ | ⟨p174, ⟨_, rfl⟩⟩
        · refine tw_goto rfl ?_
          exact tw_iret rfl (Or.inl ⟨by omega, p174e⟩)
        · refine tw_goto rfl ?_
          exact tw_iret rfl (Or.inr (by omega))
      · try dsimp only [tvI_i, tvJ_j, tvR_r] at p173
        refine tw_if_eq rfl (fun _ => ?_) (fun z => absurd z (by decide))
        refine tw_push rfl ?_
        refine tw_istore rfl ?_
        refine tw_iload rfl rfl ?_
        refine tw_if_eq rfl (fun _ => ?_) (fun z => absurd z (by decide))
        refine tw_push rfl ?_
        exact tw_iret rfl (Or.inr (by omega))
    · try dsimp only [tvI_i, tvJ_j, tvR_r] at p172
      refine tw_if_eq rfl (fun _ => ?_) (fun z => absurd z (by decide))
      refine tw_push rfl ?_
      refine tw_istore rfl ?_
      refine tw_iload rfl rfl ?_
      refine tw_if_eq rfl (fun _ => ?_) (fun z => absurd z (by decide))
      refine tw_push rfl ?_
      exact tw_iret rfl (Or.inr (by omega))
  · try dsimp only [tvI_i, tvJ_j, tvR_r] at p171
    refine tw_if_eq rfl (fun _ => ?_) (fun z => absurd z (by decide))
    refine tw_push rfl ?_
    refine tw_istore rfl ?_
    refine tw_iload rfl rfl ?_
    refine tw_if_eq rfl (fun _ => ?_) (fun z => absurd z (by decide))
    refine tw_push rfl ?_
    exact tw_iret rfl (Or.inr (by omega))
noncomputable def ph_carX (k m o : Int32) (h : zH) (w : Option Value) (h2 : zH) : Prop := ph_carc k m o h w h2 ∧ (((((0 ≤ k.toInt ∧ k.toInt < (tvI (tF h 1 6)).toInt) ∧ (0 ≤ m.toInt ∧ m.toInt ≤ (tvI (tF h 0 14)).toInt) ∧ (0 ≤ o.toInt ∧ o.toInt < (tvI (tF h 36 2)).toInt)) ∧ (tvI (tF h 36 4)).toInt ≠ 300) ∧ tF h2 h.length 8 = .int 0 ∧ tF h2 h.length 9 = .int 0 ∧ tF h2 h.length 10 = .ref (h.length + 1) ∧ ∀ i, i < 12 → tA h2 (h.length + 1) i = 600) ∨ ¬ (((0 ≤ k.toInt ∧ k.toInt < (tvI (tF h 1 6)).toInt) ∧ (0 ≤ m.toInt ∧ m.toInt ≤ (tvI (tF h 0 14)).toInt) ∧ (0 ≤ o.toInt ∧ o.toInt < (tvI (tF h 36 2)).toInt)) ∧ (tvI (tF h 36 4)).toInt ≠ 300))
theorem car_cases {xs : Nat → Int32} {τ : List Nat} {k m o : Int32} {h h2 h3 : zH} {w : Option Value} (hB : zBs xs τ h) (e2 : tF h3 36 4 = tF h2 36 4) (e6 : tO h3 39 = tO h2 39) (e7 : ∀ i r f : Nat, (i : Int) < (tvI (tF h2 36 4)).toInt → tO h2 39 i = some r → tF h3 r f = tF h2 r f) (k1 : ph_carX k m o h w h2) :
    (tvI (tF h 36 4)).toInt ≤ (tvI (tF h3 36 4)).toInt ∧ (∀ i r : Nat, (i : Int) < (tvI (tF h3 36 4)).toInt → tO h3 39 i = some r → (((i : Int) < (tvI (tF h 36 4)).toInt ∧ tO h 39 i = some r ∧ ∀ f, tF h3 r f = tF h r f) ∨ ((i : Int) = (tvI (tF h 36 4)).toInt ∧ r = h.length ∧ (tvI (tF h3 36 4)).toInt = (tvI (tF h 36 4)).toInt + 1 ∧ tF h3 r 8 = .int 0 ∧ tF h3 r 9 = .int 0 ∧ tF h3 r 10 = .ref (r + 1) ∧ ∀ i, i < 12 → tA h2 (r + 1) i = 600))) := by
  have n1 := (kb_36_4 hB).1
  have n2 := (kb_36_4 hB).2
  obtain ⟨k1, k2⟩ := k1
  rcases k1 with ⟨c1, -, f1, g1, g2, -⟩ | ⟨c1, -, rfl⟩
  · rcases k2 with ⟨-, d8, d9, d10, dA⟩ | k2
    · have en : (tvI (tF h3 36 4)).toInt = (tvI (tF h 36 4)).toInt + 1 := by
        rw [e2, f1]
        exact (zincN (n := (tvI (tF h 36 4)).toInt.toNat) (by omega) (by omega)).trans (by omega)
      have en2 : (tvI (tF h2 36 4)).toInt = (tvI (tF h 36 4)).toInt + 1 := by rw [← e2]; exact en
      refine ⟨by omega, fun i r hi hr => ?_⟩
      have e8 : ∀ f, tF h3 r f = tF h2 r f := fun f => e7 i r f (by omega) (by rw [← e6]; exact hr)
      rw [e6, g1] at hr
      dsimp only at hr
      by_cases z : i = (tvI (tF h 36 4)).toNatClampNeg
      · rw [if_pos z] at hr
        cases hr
        exact Or.inr ⟨by rw [z, zclE]; omega, rfl, en, (e8 8).trans d8, (e8 9).trans d9, (e8 10).trans d10, dA⟩
      · rw [if_neg z] at hr
        rw [zclE] at z
        have hi2 : (i : Int) < (tvI (tF h 36 4)).toInt := by omega
        exact Or.inl ⟨hi2, hr, fun f => (e8 f).trans (g2 r f (car_lt hB hi2 hr) (fun y => car_ne hB hi2 hr (p := 36) (t := 12) rfl (by decide) y.1))⟩
    · exact absurd c1 k2
  · refine ⟨by rw [e2]; exact Int.le_refl _, fun i r hi hr => ?_⟩
    rw [e2] at hi
    rw [e6] at hr
    exact Or.inl ⟨hi, hr, fun f => e7 i r f hi hr⟩
/-- the arrays at other places than the next one
-/
noncomputable def carKp (h h3 : zH) : Prop := ∀ p, (p = 121 ∨ p = 122 ∨ p = 124 ∨ p = 125) → ∀ i : Nat, (i : Int) ≠ (tvI (tF h 111 5)).toInt → tA h3 p i = tA h p i
theorem keep_car {C : Prop} {k m o : Int32} {h h2 h3 : zH} {w2 : Option Value} (hn : 0 ≤ (tvI (tF h 111 5)).toInt ∧ (tvI (tF h 111 5)).toInt ≤ 300) (e1 : tF h2 111 5 = tF h 111 5) (u1 : tA h2 121 = tA h 121) (u2 : tA h2 122 = tA h 122) (u3 : tA h2 124 = tA h 124) (u4 : tA h2 125 = tA h 125) (k2 : phA 111 5 C [(121, k), (122, m), (123, tvI (tF h2 111 1)), (124, o), (125, o), (126, m), (127, m)] h2 w2 h3) : carKp h h3 ∧ ((tF h3 111 5 = .int (tvI (tF h 111 5) + 1) ∧ (tvI (tF h3 111 5)).toInt = (tvI (tF h 111 5)).toInt + 1 ∧ tA h3 124 (tvI (tF h 111 5)).toNatClampNeg = o ∧ tA h3 125 (tvI (tF h 111 5)).toNatClampNeg = o) ∨ (tF h3 111 5 = tF h 111 5 ∧ tA h3 121 = tA h 121 ∧ tA h3 122 = tA h 122 ∧ tA h3 124 = tA h 124 ∧ tA h3 125 = tA h 125)) := by
  rcases k2 with ⟨-, -, f1, g⟩ | ⟨-, -, f1, g⟩
  · rw [e1] at f1 g
    have g1 := g (121, k) (by simp)
    have g2 := g (122, m) (by simp)
    have g3 := g (124, o) (by simp)
    have g4 := g (125, o) (by simp)
    dsimp only at g1 g2 g3 g4
    refine ⟨?_, Or.inl ⟨f1, ?_, ?_, ?_⟩⟩
    · intro p hp i hi
      have hne : ¬ i = (tvI (tF h 111 5)).toNatClampNeg := by rw [zclE]; omega
      rcases hp with rfl | rfl | rfl | rfl
      · rw [g1, u1]; exact if_neg hne
      · rw [g2, u2]; exact if_neg hne
      · rw [g3, u3]; exact if_neg hne
      · rw [g4, u4]; exact if_neg hne
    · rw [f1]
      exact (zincN (n := (tvI (tF h 111 5)).toInt.toNat) (by omega) (by omega)).trans (by omega)
    · rw [g3]; exact if_pos rfl
    · rw [g4]; exact if_pos rfl
  · have g1 := g (121, k) (by simp)
    have g2 := g (122, m) (by simp)
    have g3 := g (124, o) (by simp)
    have g4 := g (125, o) (by simp)
    dsimp only at g1 g2 g3 g4
    refine ⟨?_, Or.inr ⟨f1.trans e1, g1.trans u1, g2.trans u2, g3.trans u3, g4.trans u4⟩⟩
    intro p hp i _
    rcases hp with rfl | rfl | rfl | rfl
    · rw [g1, u1]
    · rw [g2, u2]
    · rw [g3, u3]
    · rw [g4, u4]
theorem carX_b {f P : Nat} {h h3 : zH} (hC : (∀ i r : Nat, (i : Int) < (tvI (tF h3 36 4)).toInt → tO h3 39 i = some r → (((i : Int) < (tvI (tF h 36 4)).toInt ∧ tO h 39 i = some r ∧ ∀ f, tF h3 r f = tF h r f) ∨ ((i : Int) = (tvI (tF h 36 4)).toInt ∧ i < 300 ∧ tF h3 r f = .int 0)))) (hz : ∀ i c : Nat, (tvI (tF h 36 4)).toInt ≤ (i : Int) → i < 300 → c < 20 → tA h P (300 * c + i) = 0) (hP : tA h3 P = tA h P) (hR : ∀ i r : Nat, (i : Int) < (tvI (tF h 36 4)).toInt → tO h 39 i = some r → tF h r f = .int (tvI (tF h r f)) ∧ ∀ c, c < 20 → (bI (tvI (tF h r f)) c ↔ ¬ tA h P (300 * c + i) = 0)) : ∀ i r : Nat, (i : Int) < (tvI (tF h3 36 4)).toInt → tO h3 39 i = some r → tF h3 r f = .int (tvI (tF h3 r f)) ∧ ∀ c, c < 20 → (bI (tvI (tF h3 r f)) c ↔ ¬ tA h3 P (300 * c + i) = 0) := by
  intro i r hi hr
  rw [hP]
  rcases hC i r hi hr with ⟨a1, a2, a3⟩ | ⟨a1, a2, a3⟩
  · rw [a3 f]
    exact hR i r a1 a2
  · rw [a3]
    refine ⟨rfl, fun c hc => ?_⟩
    rw [hz i c (by omega) a2 hc]
    exact ⟨fun z => absurd z (bI_0 (by omega)), fun z => absurd rfl z⟩
theorem a_carX {xs xs2 : Nat → Int32} {τ τ3 : List Nat} {k m o : Int32} {h h2 h3 : zH} {w : Option Value} (hB : zBs xs τ h) (hB3 : zBs xs2 τ3 h3) (hCa : R_cars h) (h1 : R_crb h) (h4 : R_cr0 h) (h5 : R_cmb h) (h6 : R_cm0 h) (h7 : R_crc h) (h8 : R_cpp h) (h9 : R_lowc h) (h0 : R_lowo h)
  (e2 : tF h3 36 4 = tF h2 36 4) (e6 : tO h3 39 = tO h2 39) (e7 : ∀ i r f : Nat, (i : Int) < (tvI (tF h2 36 4)).toInt → tO h2 39 i = some r → tF h3 r f = tF h2 r f)
  (x1 : tA h3 178 = tA h 178) (x2 : tA h3 177 = tA h 177) (x3 : tF h3 111 83 = tF h 111 83) (x4 : tA h3 173 = tA h 173) (x5 : tA h3 174 = tA h 174) (x6 : tA h3 175 = tA h 175) (x7 : tF h3 111 6 = tF h 111 6) (x8 : tA h3 128 = tA h 128) (x9 : tA h3 129 = tA h 129) (hK : carKp h h3 ∧ ((tF h3 111 5 = .int (tvI (tF h 111 5) + 1) ∧ (tvI (tF h3 111 5)).toInt = (tvI (tF h 111 5)).toInt + 1 ∧ tA h3 124 (tvI (tF h 111 5)).toNatClampNeg = o ∧ tA h3 125 (tvI (tF h 111 5)).toNatClampNeg = o) ∨ (tF h3 111 5 = tF h 111 5 ∧ tA h3 121 = tA h 121 ∧ tA h3 122 = tA h 122 ∧ tA h3 124 = tA h 124 ∧ tA h3 125 = tA h 125))) (k1 : ph_carX k m o h w h2) : R_crb h3 ∧ R_cr0 h3 ∧ R_cmb h3 ∧ R_cm0 h3 ∧ R_crc h3 ∧ R_cpp h3 ∧ R_lowc h3 ∧ R_lowo h3 := by
  obtain ⟨hle, hC⟩ := car_cases hB e2 e6 e7 k1
  have hn3 := kb_36_4 hB3
  have hn5 := kb_111_5 hB
  have hn6 := kb_111_6 hB
  have hCa0 := hCa
  unfold R_cars at hCa0
  obtain ⟨hkp, hK⟩ := hK
  refine ⟨carX_b (f := 8) (P := 178) (fun i r hi hr => (hC i r hi hr).imp id (fun z => ⟨z.1, by omega, z.2.2.2.1⟩)) h4 x1 h1, fun i c hi a b => ?_, carX_b (f := 9) (P := 177) (fun i r hi hr => (hC i r hi hr).imp id (fun z => ⟨z.1, by omega, z.2.2.2.2.1⟩)) h6 x2 h5, fun i c hi a b => ?_, fun i c hi hc hne => ?_, fun i r hi hr => ?_, fun j hj => ?_, fun i hi => ?_⟩
  · rw [x1]; exact h4 i c (by omega) a b
  · rw [x2]; exact h6 i c (by omega) a b
  · rw [x1] at hne
    obtain ⟨b1, b2, b3, b4⟩ := h7 i c hi hc hne
    have hne5 : (i : Int) ≠ (tvI (tF h 111 5)).toInt := by
      intro z
      exact hne (h4 i c (by rw [hCa0]; omega) hi hc)
    rw [x3, x4, x5, x6, hkp 121 (by omega) i hne5, hkp 122 (by omega) i hne5]
    exact ⟨b1, b2, b3, b4⟩
  · rcases hC i r hi hr with ⟨a1, a2, a3⟩ | ⟨-, -, -, -, -, a3, -⟩
    · rw [a3 10]; exact h8 i r a1 a2
    · exact a3
  · rw [x7] at hj
    rw [x8]
    have := h9 j hj
    rcases hK with ⟨-, z, -⟩ | ⟨z, -⟩
    · rw [z]; omega
    · rw [z]; exact this
  · rw [x7, x8, x9]
    rcases hK with ⟨-, z, z1, z2⟩ | ⟨z, -, -, z1, z2⟩
    · rw [z] at hi
      by_cases e : (i : Int) = (tvI (tF h 111 5)).toInt
      · have ei : i = (tvI (tF h 111 5)).toNatClampNeg := by rw [zclE]; omega
        rw [ei, z1, z2]
        refine (sLo_none (fun q hq => ?_)).symm
        have := h9 q (by rw [zclE] at hq; omega)
        rw [zclE]
        rw [zclE] at this
        omega
      · rw [hkp 125 (by omega) i e, hkp 124 (by omega) i e]
        exact h0 i (by omega)
    · rw [z] at hi
      rw [z1, z2]
      exact h0 i hi
noncomputable def R_cmp (h : zH) : Prop := ∀ i r : Nat, (i : Int) < (tvI (tF h 36 4)).toInt → tO h 39 i = some r → tF h r 10 = .ref (r + 1) ∧ ∀ p : Nat, p < 12 → ∀ m : Int, m ≤ 599 → ((tA h (r + 1) p).toInt ≤ m ↔ ∃ c : Nat, (c : Int) < (tvI (tF h 111 83)).toInt ∧ 0 < (tA h 177 (300 * c + i)).toInt ∧ (tA h 177 (300 * c + i)).toInt - 1 ≤ m ∧ (tA h 176 c).toNatClampNeg = p)
theorem cmp_car {xs xs2 : Nat → Int32} {τ τ2 : List Nat} {k m o : Int32} {h h2 h3 : zH} {w : Option Value} (hB : zBs xs τ h) (hB2 : zBs xs2 τ2 h2) (hCa : R_cars h) (hR : R_cmp h) (h0 : R_cm0 h) (hN : (tvI (tF h 36 4)).toInt ≤ (tvI (tF h2 36 4)).toInt) (e2 : tF h3 36 4 = tF h2 36 4) (e6 : tO h3 39 = tO h2 39) (e7 : ∀ i r f : Nat, (i : Int) < (tvI (tF h2 36 4)).toInt → tO h2 39 i = some r → tF h3 r f = tF h2 r f) (eA : ∀ i r : Nat, (i : Int) < (tvI (tF h2 36 4)).toInt → tO h2 39 i = some r → tF h2 r 10 = .ref (r + 1) → tA h3 (r + 1) = tA h2 (r + 1)) (eB : ∀ i r : Nat, (i : Int) < (tvI (tF h 36 4)).toInt → tO h 39 i = some r → tF h r 10 = .ref (r + 1) → tA h2 (r + 1) = tA h (r + 1)) (x2 : tA h3 177 = tA h 177) (x3 : tF h3 111 83 = tF h 111 83) (x4 : tA h3 176 = tA h 176) (k1 : ph_carX k m o h w h2) : R_cmp h3 := by
  obtain ⟨hle, hC⟩ := car_cases hB e2 e6 e7 k1
  intro i r hi hr
  have hi2 : (i : Int) < (tvI (tF h2 36 4)).toInt := by rw [← e2]; exact hi
  have hr2 : tO h2 39 i = some r := by rw [← e6]; exact hr
  rw [x2, x3, x4]
  rcases hC i r hi hr with ⟨a1, a2, a3⟩ | ⟨a1, a2, a3, -, -, a6, a7⟩
  · obtain ⟨b1, b2⟩ := hR i r a1 a2
    have c1 : tF h3 r 10 = .ref (r + 1) := (a3 10).trans b1
    refine ⟨c1, ?_⟩
    rw [eA i r hi2 hr2 ((e7 i r 10 hi2 hr2).symm.trans c1), eB i r a1 a2 b1]
    exact b2
  · refine ⟨a6, fun p hp m2 hm2 => ?_⟩
    rw [eA i r hi2 hr2 ((e7 i r 10 hi2 hr2).symm.trans a6), a7 p hp, show (600 : Int32).toInt = 600 from rfl]
    have hn := kb_36_4 hB
    have hn2 := kb_36_4 hB2
    have h83 := kb_111_83 hB
    refine ⟨fun z => by omega, ?_⟩
    rintro ⟨c, c1, c2, -, -⟩
    rw [h0 i c (by omega) (by omega) (by omega)] at c2
    exact absurd c2 (by decide)

theorem f_addCarY {G : zG} (hG : G.1 = zProg) {h : zH} {k m o t : Int32} (hs : tSh h) (hl : 182 ≤ h.length) : tC zTt G 20 [.ref 36, .int k, .int m, .int o, .int t] h (fun w h2 => (∃ x, w = some (.int x)) ∧ ∀ p, p < h.length → tA h2 p = tA h p) := by
  refine tC_in (by rw [hG]; rfl) (fun dp => ?_)
  refine tw_aload rfl rfl ?_
  refine tw_getS rfl (hi_36_4 hs) ?_
  refine tw_push rfl ?_
  refine tw_ic_ne rfl (fun q175 => ?_) (fun q175 => ?_)
  · try dsimp only [tvI_i, tvJ_j, tvR_r] at q175
    have q175i := zneq (Y := 300) (by decide) q175
    refine tw_aload rfl rfl ?_
    refine tw_getS rfl (hs_36_3 hs) ?_
    refine tw_aload rfl rfl ?_
    refine tw_getS rfl (hi_36_4 hs) ?_
    refine tw_new rfl rfl ?_
    refine tw_dup rfl ?_
    refine tw_iload rfl rfl ?_
    refine tw_iload rfl rfl ?_
    refine tw_iload rfl rfl ?_
    refine tw_iload rfl rfl ?_
    refine tw_spec4 rfl (f_carInit hG) (fun wp176 hp176 p176 => ?_)
    obtain ⟨rfl, p176g, p176h, rfl⟩ := p176
    refine tw_aast rfl (fun f177 => ?_)
    refine tw_aload rfl rfl ?_
    refine tw_dup rfl ?_
    refine tw_getS rfl (tF_o (tF_ap (by omega) (hi_36_4 hs))) ?_
    refine tw_dup_x1 rfl ?_
    refine tw_push rfl ?_
    refine tw_iadd rfl ?_
    refine tw_put rfl (fun f178 => ?_)
    exact tw_iret rfl ⟨⟨_, rfl⟩, fun p hp => by rw [tA_tSF, tA_tSO, tA_ap hp]⟩
  · try dsimp only [tvI_i, tvJ_j, tvR_r] at q175
    have q175i := zeqi (Y := 300) (by decide) q175
    refine tw_push rfl ?_
    exact tw_iret rfl ⟨⟨_, rfl⟩, fun p _ => rfl⟩
theorem f_carY {G : zG} (hG : G.1 = zProg) {h : zH} {k m o : Int32} (hs : tSh h) (hl : 182 ≤ h.length) : tC zTt G 116 [.ref 0, .int k, .int m, .int o] h (fun w h2 => ∀ p, p < h.length → tA h2 p = tA h p) := by
  refine tC_in (by rw [hG]; rfl) (fun dp => ?_)
  refine tw_aload rfl rfl ?_
  refine tw_getS rfl (hs_0_0 hs) ?_
  refine tw_iload rfl rfl ?_
  refine tw_virt1 rfl (f_hasKind hG hs) (fun w9 h9 p179 => ?_)
  obtain ⟨⟨p179, rfl⟩ | ⟨p179, rfl⟩, rfl⟩ := p179
  · try dsimp only [tvI_i, tvJ_j, tvR_r] at p179
    refine tw_if_eq rfl (fun z => absurd z (by decide)) (fun _ => ?_)
    refine tw_iload rfl rfl ?_
    refine tw_push rfl ?_
    refine tw_aload rfl rfl ?_
    refine tw_getS rfl (hi_0_14 hs) ?_
    refine tw_stat3 rfl (f_isWithin hG (LO := 0)  (by decide) rfl) (fun w9 h9 p180 => ?_)
    obtain ⟨⟨p180, rfl⟩ | ⟨p180, rfl⟩, rfl⟩ := p180
    · try dsimp only [tvI_i, tvJ_j, tvR_r] at p180
      refine tw_if_eq rfl (fun z => absurd z (by decide)) (fun _ => ?_)
      refine tw_aload rfl rfl ?_
      refine tw_getS rfl (hs_0_1 hs) ?_
      refine tw_iload rfl rfl ?_
      refine tw_virt1 rfl (f_hasPerson hG hs) (fun w9 h9 p181 => ?_)
      obtain ⟨⟨p181, rfl⟩ | ⟨p181, rfl⟩, rfl⟩ := p181
      · try dsimp only [tvI_i, tvJ_j, tvR_r] at p181
        refine tw_if_eq rfl (fun z => absurd z (by decide)) (fun _ => ?_)
        refine tw_push rfl ?_
        refine tw_goto rfl ?_
        refine tw_istore rfl ?_
        refine tw_iload rfl rfl ?_
        refine tw_if_eq rfl (fun z => absurd z (by decide)) (fun _ => ?_)
        refine tw_aload rfl rfl ?_
        refine tw_getS rfl (hs_0_1 hs) ?_
        refine tw_iload rfl rfl ?_
        refine tw_iload rfl rfl ?_
        refine tw_iload rfl rfl ?_
        refine tw_aload rfl rfl ?_
        refine tw_getS rfl (hi_0_14 hs) ?_
        refine tw_virt4 rfl (f_addCarY hG hs hl) (fun wp182 hp182 p182 => ?_)
        obtain ⟨⟨_, rfl⟩, ap182⟩ := p182
        refine tw_goto rfl ?_
        exact tw_iret rfl ap182
      · try dsimp only [tvI_i, tvJ_j, tvR_r] at p181
        refine tw_if_eq rfl (fun _ => ?_) (fun z => absurd z (by decide))
        refine tw_push rfl ?_
        refine tw_istore rfl ?_
        refine tw_iload rfl rfl ?_
        refine tw_if_eq rfl (fun _ => ?_) (fun z => absurd z (by decide))
        refine tw_push rfl ?_
        exact tw_iret rfl (fun p _ => rfl)
    · try dsimp only [tvI_i, tvJ_j, tvR_r] at p180
      refine tw_if_eq rfl (fun _ => ?_) (fun z => absurd z (by decide))
      refine tw_push rfl ?_
      refine tw_istore rfl ?_
      refine tw_iload rfl rfl ?_
      refine tw_if_eq rfl (fun _ => ?_) (fun z => absurd z (by decide))
      refine tw_push rfl ?_
      exact tw_iret rfl (fun p _ => rfl)
  · try dsimp only [tvI_i, tvJ_j, tvR_r] at p179
    refine tw_if_eq rfl (fun _ => ?_) (fun z => absurd z (by decide))
    refine tw_push rfl ?_
    refine tw_istore rfl ?_
    refine tw_iload rfl rfl ?_
    refine tw_if_eq rfl (fun _ => ?_) (fun z => absurd z (by decide))
    refine tw_push rfl ?_
    exact tw_iret rfl (fun p _ => rfl)
noncomputable def ph_carY (k m o : Int32) (h : zH) (w : Option Value) (h2 : zH) : Prop := ph_carX k m o h w h2 ∧ ∀ p, p < h.length → tA h2 p = tA h p
theorem cmp_eB {xs : Nat → Int32} {τ : List Nat} {h h2 : zH} (hB : zBs xs τ h) (k1 : ∀ p, p < h.length → tA h2 p = tA h p) : ∀ i r : Nat, (i : Int) < (tvI (tF h 36 4)).toInt → tO h 39 i = some r → tF h r 10 = .ref (r + 1) → tA h2 (r + 1) = tA h (r + 1) := fun i r hi hr h10 => k1 (r + 1) (by
  have z := car_pt hB hi hr h10
  rcases Nat.lt_or_ge (r + 1) τ.length with q | q
  · have := hB.1.1; omega
  · rw [List.getElem?_eq_none q] at z; cases z)
theorem cmp_eA {xs : Nat → Int32} {τ : List Nat} {W : Nat → Nat → Bool} {h h2 : zH} (hB : zBs xs τ h) (hf : yFr W τ h h2) (hW : W 151 0 = false) : ∀ i r : Nat, (i : Int) < (tvI (tF h 36 4)).toInt → tO h 39 i = some r → tF h r 10 = .ref (r + 1) → tA h2 (r + 1) = tA h (r + 1) := fun i r hi hr h10 => tfr_As hB hf (car_pt hB hi hr h10) hW
theorem car_le {xs : Nat → Int32} {τ : List Nat} {k m o : Int32} {h h2 : zH} {w : Option Value} (hB : zBs xs τ h) (k1 : ph_carX k m o h w h2) : (tvI (tF h 36 4)).toInt ≤ (tvI (tF h2 36 4)).toInt := (car_cases (h3 := h2) hB rfl rfl (fun _ _ _ _ _ => rfl) k1).1
noncomputable def R_ccl (h : zH) : Prop := ∀ k : Nat, (k : Int) < (tvI (tF h 63 8)).toInt → (tA h 64 k).toInt < (tvI (tF h 36 4)).toInt
theorem ccl_car {xs : Nat → Int32} {τ : List Nat} {k m o : Int32} {h h2 h3 : zH} {w : Option Value} (hB : zBs xs τ h) (hR : R_ccl h) (e1 : tF h3 63 8 = tF h 63 8) (e2 : tF h3 36 4 = tF h2 36 4) (t1 : tA h3 64 = tA h 64) (k1 : ph_carX k m o h w h2) : R_ccl h3 := by
  have hle := car_le hB k1
  intro j hj
  rw [e1] at hj
  rw [e2, t1]
  have := hR j hj
  omega
noncomputable def R_scar (h : zH) : Prop := tA h 40 = tA h 128
noncomputable def R_sto (h : zH) : Prop := tA h 41 = tA h 129
noncomputable def R_sin (h : zH) : Prop := tA h 42 = tA h 130
noncomputable def R_stold (h : zH) : Prop := tA h 43 = tA h 131
noncomputable def R_sales (h : zH) : Prop := tF h 36 9 = tF h 111 6
theorem f_carAt {G : zG} (hG : G.1 = zProg) {h : zH} {n : Int32} (hs : tSh h) : tC zTt G 19 [.ref 36, .int n] h (fun w h2 => (((0 ≤ n.toInt ∧ n.toInt < (tvI (tF h 36 4)).toInt) ∧ w = some (zrf (tO h 39 n.toNatClampNeg))) ∨ (¬ (0 ≤ n.toInt ∧ n.toInt < (tvI (tF h 36 4)).toInt) ∧ w = some .null)) ∧ h2 = h) := by
  refine tC_in (by rw [hG]; rfl) (fun dp => ?_)
  refine tw_iload rfl rfl ?_
  refine tw_if_lt rfl (fun q183 => ?_) (fun q183 => ?_)
  · try dsimp only [tvI_i, tvJ_j, tvR_r] at q183
    refine tw_push rfl ?_
    exact tw_aret rfl ⟨Or.inr ⟨by omega, rfl⟩, rfl⟩
  · try dsimp only [tvI_i, tvJ_j, tvR_r] at q183
    refine tw_iload rfl rfl ?_
    refine tw_aload rfl rfl ?_
    refine tw_getS rfl (hi_36_4 hs) ?_
    refine tw_ic_ge rfl (fun q184 => ?_) (fun q184 => ?_)
    · try dsimp only [tvI_i, tvJ_j, tvR_r] at q184
      refine tw_push rfl ?_
      exact tw_aret rfl ⟨Or.inr ⟨by omega, rfl⟩, rfl⟩
    · try dsimp only [tvI_i, tvJ_j, tvR_r] at q184
      refine tw_aload rfl rfl ?_
      refine tw_getS rfl (hs_36_3 hs) ?_
      refine tw_iload rfl rfl ?_
      refine tw_aald rfl (fun f185 => ?_)
      refine tw_goto rfl ?_
      exact tw_aret rfl ⟨Or.inl ⟨by omega, rfl⟩, rfl⟩
theorem car_ge {xs : Nat → Int32} {τ : List Nat} {h : zH} (hB : zBs xs τ h) : ∀ i r : Nat, (i : Int) < (tvI (tF h 36 4)).toInt → tO h 39 i = some r → 182 ≤ r := by
  intro i r hi hr
  have z := car_tag hB hi hr
  have a : (List.range 182).all (fun p => decide (zTG[p]? ≠ some 150) && decide (p < zTG.length)) = true := by decide +kernel
  rcases Nat.lt_or_ge r 182 with q | q
  · have b := List.all_eq_true.mp a r (List.mem_range.mpr q)
    rw [Bool.and_eq_true, decide_eq_true_eq, decide_eq_true_eq] at b
    have e := hB.2.1 r zTG[r] (List.getElem?_eq_getElem b.2)
    rw [z] at e
    exact absurd (by rw [List.getElem?_eq_getElem b.2]; exact e.symm) b.1
  · exact q
theorem tSh_SFr {h : zH} {r b : Nat} {w : Value} (hr : 182 ≤ r) (k : tSh h) : tSh (tSF h r b w) := by
  have a1 : tSr.all (fun q => Nat.blt q.1 182) = true := by decide +kernel
  have a2 : tSi.all (fun q => Nat.blt q.1 182) = true := by decide +kernel
  refine ⟨fun q hq => tF_ne ?_ (k.1 q hq), fun q hq => ?_⟩
  · have := Nat.le_of_ble_eq_true (List.all_eq_true.mp a1 q hq)
    omega
  · have := Nat.le_of_ble_eq_true (List.all_eq_true.mp a2 q hq)
    have e : tF (tSF h r b w) q.1 q.2 = tF h q.1 q.2 := tF_nz (by omega)
    rw [e]
    exact k.2 q hq
theorem f_carAtR {G : zG} (hG : G.1 = zProg) {h : zH} {n : Int32} (hs : tSh h) (hL : R_cl h) (hg : ∀ i r : Nat, (i : Int) < (tvI (tF h 36 4)).toInt → tO h 39 i = some r → 182 ≤ r) : tC zTt G 19 [.ref 36, .int n] h (fun w h2 => ((∃ r, ((0 ≤ n.toInt ∧ n.toInt < (tvI (tF h 36 4)).toInt) ∧ ((n.toNatClampNeg : Nat) : Int) < (tvI (tF h 36 4)).toInt) ∧ tO h 39 n.toNatClampNeg = some r ∧ 182 ≤ r ∧ w = some (.ref r)) ∨ (¬ (0 ≤ n.toInt ∧ n.toInt < (tvI (tF h 36 4)).toInt) ∧ w = some .null)) ∧ h2 = h) := by
  refine (f_carAt hG hs).mono ?_
  rintro w h2 ⟨⟨c, rfl⟩ | ⟨c, rfl⟩, rfl⟩
  · have hi : ((n.toNatClampNeg : Nat) : Int) < (tvI (tF h2 36 4)).toInt := by rw [zclE]; omega
    obtain ⟨r, hr⟩ := hL.1 _ hi
    exact ⟨Or.inl ⟨r, ⟨c, hi⟩, hr, hg _ r hi hr, by rw [hr]; rfl⟩, rfl⟩
  · exact ⟨Or.inr ⟨c, rfl⟩, rfl⟩
theorem f_addSale {G : zG} (hG : G.1 = zProg) {h : zH} {c o m t : Int32} (hs : tSh h) (hL : R_cl h) (hg : ∀ i r : Nat, (i : Int) < (tvI (tF h 36 4)).toInt → tO h 39 i = some r → 182 ≤ r) (hO : R_cown h) (hS : R_csold h) : tC zTt G 21 [.ref 36, .int c, .int o, .int m, .int t] h (fun w h2 => (((0 ≤ c.toInt ∧ c.toInt < (tvI (tF h 36 4)).toInt) ∧ (tvI (tF h 36 9)).toInt ≠ 400) ∧ w = some (.int 1) ∧ ∃ r, tO h 39 c.toNatClampNeg = some r ∧ tF h2 36 9 = .int (tvI (tF h 36 9) + 1) ∧ tF h2 r 4 = .int o ∧ tF h2 r 5 = .int m ∧ (∀ p b, ¬ (p = 36 ∧ b = 9) → ¬ (p = r ∧ (b = 4 ∨ b = 5)) → tF h2 p b = tF h p b) ∧ tA h2 40 = (fun j => if j = (tvI (tF h 36 9)).toNatClampNeg then c else tA h 40 j) ∧ tA h2 41 = (fun j => if j = (tvI (tF h 36 9)).toNatClampNeg then o else tA h 41 j) ∧ tA h2 42 = (fun j => if j = (tvI (tF h 36 9)).toNatClampNeg then m else tA h 42 j) ∧ tA h2 43 = (fun j => if j = (tvI (tF h 36 9)).toNatClampNeg then t else tA h 43 j)) ∨ (¬ ((0 ≤ c.toInt ∧ c.toInt < (tvI (tF h 36 4)).toInt) ∧ (tvI (tF h 36 9)).toInt ≠ 400) ∧ w = some (.int 0) ∧ h2 = h)) := by
  refine tC_in (by rw [hG]; rfl) (fun dp => ?_)
  refine tw_aload rfl rfl ?_
  refine tw_iload rfl rfl ?_
  refine tw_virt1 rfl (f_carAtR hG hs hL hg) (fun w9 h9 p186 => ?_)
  obtain ⟨⟨rp186, p186, p186r, p186g, rfl⟩ | ⟨p186, rfl⟩, rfl⟩ := p186
  · refine tw_astore rfl ?_
    refine tw_aload rfl rfl ?_
    refine tw_ifnull rfl (fun z => by cases z) (fun _ _ => ?_)
    refine tw_aload rfl rfl ?_
    refine tw_getS rfl (hi_36_9 hs) ?_
    refine tw_push rfl ?_
    refine tw_ic_ne rfl (fun q189 => ?_) (fun q189 => ?_)
    · try dsimp only [tvI_i, tvJ_j, tvR_r] at q189
      have q189i := zneq (Y := 400) (by decide) q189
      refine tw_aload rfl rfl ?_
      refine tw_getS rfl (hs_36_5 hs) ?_
      refine tw_aload rfl rfl ?_
      refine tw_getS rfl (hi_36_9 hs) ?_
      refine tw_iload rfl rfl ?_
      refine tw_iast rfl (fun f190 => ?_)
      refine tw_aload rfl rfl ?_
      refine tw_getS rfl (hs_36_6 (tSh_SA hs)) ?_
      refine tw_aload rfl rfl ?_
      refine tw_getS rfl (tF_a (hi_36_9 hs)) ?_
      refine tw_iload rfl rfl ?_
      refine tw_iast rfl (fun f191 => ?_)
      refine tw_aload rfl rfl ?_
      refine tw_getS rfl (hs_36_7 (tSh_SA (tSh_SA hs))) ?_
      refine tw_aload rfl rfl ?_
      refine tw_getS rfl (tF_a (tF_a (hi_36_9 hs))) ?_
      refine tw_iload rfl rfl ?_
      refine tw_iast rfl (fun f192 => ?_)
      refine tw_aload rfl rfl ?_
      refine tw_getS rfl (hs_36_8 (tSh_SA (tSh_SA (tSh_SA hs)))) ?_
      refine tw_aload rfl rfl ?_
      refine tw_getS rfl (tF_a (tF_a (tF_a (hi_36_9 hs)))) ?_
      refine tw_iload rfl rfl ?_
      refine tw_iast rfl (fun f193 => ?_)
      refine tw_aload rfl rfl ?_
      refine tw_dup rfl ?_
      refine tw_getS rfl (tF_a (tF_a (tF_a (tF_a (hi_36_9 hs))))) ?_
      refine tw_push rfl ?_
      refine tw_iadd rfl ?_
      refine tw_put rfl (fun f194 => ?_)
      refine tw_aload rfl rfl ?_
      refine tw_iload rfl rfl ?_
      refine tw_put rfl (fun f195 => ?_)
      refine tw_aload rfl rfl ?_
      refine tw_iload rfl rfl ?_
      refine tw_put rfl (fun f196 => ?_)
      refine tw_push rfl ?_
      exact tw_iret rfl (Or.inl ⟨by omega, rfl, rp186, p186r, (tF_ne (by omega) (tF_ne (by omega) (tF_same f194))), (tF_ne (by omega) (tF_same f195)), (tF_same f196), fun p b n1 n2 => (tF_ne (fun z => n2 ⟨z.1, Or.inr z.2⟩) (tF_ne (fun z => n2 ⟨z.1, Or.inl z.2⟩) (tF_ne n1 (tF_a (tF_a (tF_a (tF_a rfl))))))), (tA_ff (tA_ff (tA_ff (tA_n (by decide) (tA_n (by decide) (tA_n (by decide) (tA_st f190 rfl))))))), (tA_ff (tA_ff (tA_ff (tA_n (by decide) (tA_n (by decide) (tA_st f191 (tA_n (by decide) rfl))))))), (tA_ff (tA_ff (tA_ff (tA_n (by decide) (tA_st f192 (tA_n (by decide) (tA_n (by decide) rfl))))))), (tA_ff (tA_ff (tA_ff (tA_st f193 (tA_n (by decide) (tA_n (by decide) (tA_n (by decide) rfl)))))))⟩)
    · try dsimp only [tvI_i, tvJ_j, tvR_r] at q189
      have q189i := zeqi (Y := 400) (by decide) q189
      refine tw_push rfl ?_
      exact tw_iret rfl (Or.inr ⟨by omega, rfl, rfl⟩)
  · refine tw_astoreN rfl ?_
    refine tw_aload rfl rfl ?_
    refine tw_ifnull rfl (fun _ => ?_) (fun _ z => by cases z)
    refine tw_push rfl ?_
    exact tw_iret rfl (Or.inr ⟨by omega, rfl, rfl⟩)
noncomputable def ph_sec (c o m : Int32) (h : zH) (w : Option Value) (h2 : zH) : Prop := (((0 ≤ c.toInt ∧ c.toInt < (tvI (tF h 36 4)).toInt) ∧ (0 ≤ o.toInt ∧ o.toInt < (tvI (tF h 36 2)).toInt) ∧ o.toInt ≠ (tA h 125 c.toNatClampNeg).toInt ∧ ((tA h 126 c.toNatClampNeg).toInt ≤ m.toInt ∧ m.toInt ≤ (tvI (tF h 0 14)).toInt) ∧ (tvI (tF h 36 9)).toInt ≠ 400) ∧ w = some (.int 1) ∧ ∃ r, tO h 39 c.toNatClampNeg = some r ∧ tF h2 36 9 = .int (tvI (tF h 36 9) + 1) ∧ tF h2 r 4 = .int o ∧ tF h2 r 5 = .int m ∧ (∀ p b, ¬ (p = 36 ∧ b = 9) → ¬ (p = r ∧ (b = 4 ∨ b = 5)) → tF h2 p b = tF h p b) ∧ tA h2 40 = (fun j => if j = (tvI (tF h 36 9)).toNatClampNeg then c else tA h 40 j) ∧ tA h2 41 = (fun j => if j = (tvI (tF h 36 9)).toNatClampNeg then o else tA h 41 j) ∧ tA h2 42 = (fun j => if j = (tvI (tF h 36 9)).toNatClampNeg then m else tA h 42 j) ∧ tA h2 43 = (fun j => if j = (tvI (tF h 36 9)).toNatClampNeg then tvI (tF h 0 14) else tA h 43 j)) ∨ (¬ ((0 ≤ c.toInt ∧ c.toInt < (tvI (tF h 36 4)).toInt) ∧ (0 ≤ o.toInt ∧ o.toInt < (tvI (tF h 36 2)).toInt) ∧ o.toInt ≠ (tA h 125 c.toNatClampNeg).toInt ∧ ((tA h 126 c.toNatClampNeg).toInt ≤ m.toInt ∧ m.toInt ≤ (tvI (tF h 0 14)).toInt) ∧ (tvI (tF h 36 9)).toInt ≠ 400) ∧ w = some (.int 0) ∧ h2 = h)
theorem f_sell {G : zG} (hG : G.1 = zProg) {h : zH} {c o m : Int32} (hs : tSh h) (hL : R_cl h) (hg : ∀ i r : Nat, (i : Int) < (tvI (tF h 36 4)).toInt → tO h 39 i = some r → 182 ≤ r) (hO : R_cown h) (hS : R_csold h) : tC zTt G 117 [.ref 0, .int c, .int o, .int m] h (ph_sec c o m h) := by
  refine tC_in (by rw [hG]; rfl) (fun dp => ?_)
  refine tw_aload rfl rfl ?_
  refine tw_getS rfl (hs_0_1 hs) ?_
  refine tw_iload rfl rfl ?_
  refine tw_virt1 rfl (f_carAtR hG hs hL hg) (fun w9 h9 p199 => ?_)
  obtain ⟨⟨rp199, p199, p199r, p199g, rfl⟩ | ⟨p199, rfl⟩, rfl⟩ := p199
  · refine tw_astore rfl ?_
    refine tw_aload rfl rfl ?_
    refine tw_ifnull rfl (fun z => by cases z) (fun _ _ => ?_)
    refine tw_aload rfl rfl ?_
    refine tw_getS rfl (hs_0_1 hs) ?_
    refine tw_iload rfl rfl ?_
    refine tw_virt1 rfl (f_hasPerson hG hs) (fun w9 h9 p202 => ?_)
    obtain ⟨⟨p202, rfl⟩ | ⟨p202, rfl⟩, rfl⟩ := p202
    · try dsimp only [tvI_i, tvJ_j, tvR_r] at p202
      refine tw_if_eq rfl (fun z => absurd z (by decide)) (fun _ => ?_)
      refine tw_iload rfl rfl ?_
      refine tw_aload rfl rfl ?_
      refine tw_getS rfl (hO _ _ p199.2 p199r) ?_
      refine tw_ic_eq rfl (fun q203 => ?_) (fun q203 => ?_)
      · try dsimp only [tvI_i, tvJ_j, tvR_r] at q203
        have q203i := zeqi rfl q203
        refine tw_push rfl ?_
        exact tw_iret rfl (Or.inr ⟨by omega, rfl, rfl⟩)
      · try dsimp only [tvI_i, tvJ_j, tvR_r] at q203
        have q203i := zneq rfl q203
        refine tw_iload rfl rfl ?_
        refine tw_aload rfl rfl ?_
        refine tw_getS rfl (hS _ _ p199.2 p199r) ?_
        refine tw_aload rfl rfl ?_
        refine tw_getS rfl (hi_0_14 hs) ?_
        refine tw_stat3 rfl (f_isWithin hG   rfl rfl) (fun w9 h9 p204 => ?_)
        obtain ⟨⟨p204, rfl⟩ | ⟨p204, rfl⟩, rfl⟩ := p204
        · try dsimp only [tvI_i, tvJ_j, tvR_r] at p204
          refine tw_if_ne rfl (fun _ => ?_) (fun z => absurd z (by decide))
          refine tw_aload rfl rfl ?_
          refine tw_getS rfl (hs_0_1 hs) ?_
          refine tw_iload rfl rfl ?_
          refine tw_iload rfl rfl ?_
          refine tw_iload rfl rfl ?_
          refine tw_aload rfl rfl ?_
          refine tw_getS rfl (hi_0_14 hs) ?_
          refine tw_virt4 rfl (f_addSale hG hs hL hg hO hS) (fun w9 h9 p205 => ?_)
          rcases p205 with ⟨p205, rfl, p205e⟩ | ⟨p205, rfl, rfl⟩
          · exact tw_iret rfl (Or.inl ⟨by omega, rfl, p205e⟩)
          · exact tw_iret rfl (Or.inr ⟨by omega, rfl, rfl⟩)
        · try dsimp only [tvI_i, tvJ_j, tvR_r] at p204
          refine tw_if_ne rfl (fun z => absurd z (by decide)) (fun _ => ?_)
          refine tw_push rfl ?_
          exact tw_iret rfl (Or.inr ⟨by omega, rfl, rfl⟩)
    · try dsimp only [tvI_i, tvJ_j, tvR_r] at p202
      refine tw_if_eq rfl (fun _ => ?_) (fun z => absurd z (by decide))
      refine tw_push rfl ?_
      exact tw_iret rfl (Or.inr ⟨by omega, rfl, rfl⟩)
  · refine tw_astoreN rfl ?_
    refine tw_aload rfl rfl ?_
    refine tw_ifnull rfl (fun _ => ?_) (fun _ z => by cases z)
    refine tw_push rfl ?_
    exact tw_iret rfl (Or.inr ⟨by omega, rfl, rfl⟩)
theorem g_isCar {G : zG} (hG : G.1 = zProg) {h : zH} {n : Int32} (hs : tSh h) (hk : 0 ≤ (tvI (tF h 111 5)).toInt) : tC zTt G 178 [.ref 111, .int n] h (fun w h2 => tBo (0 ≤ n.toInt ∧ n.toInt < (tvI (tF h 111 5)).toInt) w ∧ h2 = h) := by
  refine tC_in (by rw [hG]; rfl) (fun dp => ?_)
  refine tw_iload rfl rfl ?_
  refine tw_i2l rfl ?_
  refine tw_push rfl ?_
  refine tw_aload rfl rfl ?_
  refine tw_getS rfl (hi_111_5 hs) ?_
  refine tw_push rfl ?_
  refine tw_isub rfl ?_
  refine tw_i2l rfl ?_
  refine tw_stat3 rfl (f_in hG  (LO := 0)  (Int32.toInt_toInt64 _) (by decide) (Int32.toInt_toInt64 _)) (fun w9 h9 p208 => ?_)
  obtain ⟨⟨p208, rfl⟩ | ⟨p208, rfl⟩, rfl⟩ := p208
  · try dsimp only [tvI_i, tvJ_j, tvR_r] at p208
    exact tw_iret rfl ⟨Or.inl ⟨by have e := zsub1 hk; have := p208; omega, rfl⟩, rfl⟩
  · try dsimp only [tvI_i, tvJ_j, tvR_r] at p208
    exact tw_iret rfl ⟨Or.inr ⟨by have e := zsub1 hk; have := p208; omega, rfl⟩, rfl⟩
noncomputable def ph_sem (c o m : Int32) (h : zH) (w : Option Value) (h2 : zH) : Prop := (((0 ≤ c.toInt ∧ c.toInt < (tvI (tF h 111 5)).toInt) ∧ (0 ≤ o.toInt ∧ o.toInt < (tvI (tF h 111 2)).toInt) ∧ o.toInt ≠ (tA h 125 c.toNatClampNeg).toInt ∧ ((tA h 126 c.toNatClampNeg).toInt ≤ m.toInt ∧ m.toInt ≤ (tvI (tF h 111 1)).toInt) ∧ (tvI (tF h 111 6)).toInt ≠ 400) ∧ w = some (.int 1) ∧ tF h2 111 6 = .int (tvI (tF h 111 6) + 1) ∧ tA h2 125 = (fun j => if j = c.toNatClampNeg then o else tA h 125 j) ∧ tA h2 126 = (fun j => if j = c.toNatClampNeg then m else tA h 126 j) ∧ tA h2 128 = (fun j => if j = (tvI (tF h 111 6)).toNatClampNeg then c else tA h 128 j) ∧ tA h2 129 = (fun j => if j = (tvI (tF h 111 6)).toNatClampNeg then o else tA h 129 j) ∧ tA h2 130 = (fun j => if j = (tvI (tF h 111 6)).toNatClampNeg then m else tA h 130 j) ∧ tA h2 131 = (fun j => if j = (tvI (tF h 111 6)).toNatClampNeg then tvI (tF h 111 1) else tA h 131 j)) ∨ (¬ ((0 ≤ c.toInt ∧ c.toInt < (tvI (tF h 111 5)).toInt) ∧ (0 ≤ o.toInt ∧ o.toInt < (tvI (tF h 111 2)).toInt) ∧ o.toInt ≠ (tA h 125 c.toNatClampNeg).toInt ∧ ((tA h 126 c.toNatClampNeg).toInt ≤ m.toInt ∧ m.toInt ≤ (tvI (tF h 111 1)).toInt) ∧ (tvI (tF h 111 6)).toInt ≠ 400) ∧ w = some (.int 0) ∧ h2 = h)
theorem g_sell {G : zG} (hG : G.1 = zProg) {h : zH} {c o m : Int32} (hs : tSh h) (hk5 : 0 ≤ (tvI (tF h 111 5)).toInt) (hk2 : 0 ≤ (tvI (tF h 111 2)).toInt) : tC zTt G 185 [.ref 111, .int c, .int o, .int m] h (ph_sem c o m h) := by
  refine tC_in (by rw [hG]; rfl) (fun dp => ?_)
  refine tw_aload rfl rfl ?_
  refine tw_getS rfl (hi_111_6 hs) ?_
  refine tw_push rfl ?_
  refine tw_ic_eq rfl (fun q209 => ?_) (fun q209 => ?_)
  · try dsimp only [tvI_i, tvJ_j, tvR_r] at q209
    have q209i := zeqi (Y := 400) (by decide) q209
    refine tw_push rfl ?_
    exact tw_iret rfl (Or.inr ⟨by omega, rfl, rfl⟩)
  · try dsimp only [tvI_i, tvJ_j, tvR_r] at q209
    have q209i := zneq (Y := 400) (by decide) q209
    refine tw_aload rfl rfl ?_
    refine tw_iload rfl rfl ?_
    refine tw_virt1 rfl (g_isCar hG hs hk5) (fun w9 h9 p210 => ?_)
    obtain ⟨⟨p210, rfl⟩ | ⟨p210, rfl⟩, rfl⟩ := p210
    · try dsimp only [tvI_i, tvJ_j, tvR_r] at p210
      refine tw_if_eq rfl (fun z => absurd z (by decide)) (fun _ => ?_)
      refine tw_aload rfl rfl ?_
      refine tw_iload rfl rfl ?_
      refine tw_virt1 rfl (g_isPerson hG hs hk2) (fun w9 h9 p211 => ?_)
      obtain ⟨⟨p211, rfl⟩ | ⟨p211, rfl⟩, rfl⟩ := p211
      · try dsimp only [tvI_i, tvJ_j, tvR_r] at p211
        refine tw_if_eq rfl (fun z => absurd z (by decide)) (fun _ => ?_)
        refine tw_aload rfl rfl ?_
        refine tw_getS rfl (hs_111_20 hs) ?_
        refine tw_iload rfl rfl ?_
        refine tw_iald rfl (fun f212 => ?_)
        refine tw_iload rfl rfl ?_
        refine tw_ic_eq rfl (fun q213 => ?_) (fun q213 => ?_)
        · try dsimp only [tvI_i, tvJ_j, tvR_r] at q213
          have q213i := zeqi rfl q213
          refine tw_push rfl ?_
          exact tw_iret rfl (Or.inr ⟨by omega, rfl, rfl⟩)
        · try dsimp only [tvI_i, tvJ_j, tvR_r] at q213
          have q213i := zneq rfl q213
          refine tw_iload rfl rfl ?_
          refine tw_i2l rfl ?_
          refine tw_aload rfl rfl ?_
          refine tw_getS rfl (hs_111_21 hs) ?_
          refine tw_iload rfl rfl ?_
          refine tw_iald rfl (fun f214 => ?_)
          refine tw_i2l rfl ?_
          refine tw_aload rfl rfl ?_
          refine tw_getS rfl (hi_111_1 hs) ?_
          refine tw_i2l rfl ?_
          refine tw_stat3 rfl (f_in hG    (Int32.toInt_toInt64 _) (Int32.toInt_toInt64 _) (Int32.toInt_toInt64 _)) (fun w9 h9 p215 => ?_)
          obtain ⟨⟨p215, rfl⟩ | ⟨p215, rfl⟩, rfl⟩ := p215
          · try dsimp only [tvI_i, tvJ_j, tvR_r] at p215
            refine tw_if_ne rfl (fun _ => ?_) (fun z => absurd z (by decide))
            refine tw_aload rfl rfl ?_
            refine tw_getS rfl (hs_111_23 hs) ?_
            refine tw_aload rfl rfl ?_
            refine tw_getS rfl (hi_111_6 hs) ?_
            refine tw_iload rfl rfl ?_
            refine tw_iast rfl (fun f216 => ?_)
            refine tw_aload rfl rfl ?_
            refine tw_getS rfl (hs_111_24 (tSh_SA hs)) ?_
            refine tw_aload rfl rfl ?_
            refine tw_getS rfl (tF_a (hi_111_6 hs)) ?_
            refine tw_iload rfl rfl ?_
            refine tw_iast rfl (fun f217 => ?_)
            refine tw_aload rfl rfl ?_
            refine tw_getS rfl (hs_111_25 (tSh_SA (tSh_SA hs))) ?_
            refine tw_aload rfl rfl ?_
            refine tw_getS rfl (tF_a (tF_a (hi_111_6 hs))) ?_
            refine tw_iload rfl rfl ?_
            refine tw_iast rfl (fun f218 => ?_)
            refine tw_aload rfl rfl ?_
            refine tw_getS rfl (hs_111_26 (tSh_SA (tSh_SA (tSh_SA hs)))) ?_
            refine tw_aload rfl rfl ?_
            refine tw_getS rfl (tF_a (tF_a (tF_a (hi_111_6 hs)))) ?_
            refine tw_aload rfl rfl ?_
            refine tw_getS rfl (tF_a (tF_a (tF_a (hi_111_1 hs)))) ?_
            refine tw_iast rfl (fun f219 => ?_)
            refine tw_aload rfl rfl ?_
            refine tw_dup rfl ?_
            refine tw_getS rfl (tF_a (tF_a (tF_a (tF_a (hi_111_6 hs))))) ?_
            refine tw_push rfl ?_
            refine tw_iadd rfl ?_
            refine tw_put rfl (fun f220 => ?_)
            refine tw_aload rfl rfl ?_
            refine tw_getS rfl (hs_111_20 (hw_111_6 f220 (tSh_SA (tSh_SA (tSh_SA (tSh_SA hs)))))) ?_
            refine tw_iload rfl rfl ?_
            refine tw_iload rfl rfl ?_
            refine tw_iast rfl (fun f221 => ?_)
            refine tw_aload rfl rfl ?_
            refine tw_getS rfl (hs_111_21 (tSh_SA (hw_111_6 f220 (tSh_SA (tSh_SA (tSh_SA (tSh_SA hs))))))) ?_
            refine tw_iload rfl rfl ?_
            refine tw_iload rfl rfl ?_
            refine tw_iast rfl (fun f222 => ?_)
            refine tw_push rfl ?_
            exact tw_iret rfl (Or.inl ⟨by omega, rfl, (tF_a (tF_a (tF_same f220))), (tA_n (by decide) (tA_st f221 (tA_ff (tA_n (by decide) (tA_n (by decide) (tA_n (by decide) (tA_n (by decide) rfl))))))), (tA_st f222 (tA_n (by decide) (tA_ff (tA_n (by decide) (tA_n (by decide) (tA_n (by decide) (tA_n (by decide) rfl))))))), (tA_n (by decide) (tA_n (by decide) (tA_ff (tA_n (by decide) (tA_n (by decide) (tA_n (by decide) (tA_st f216 rfl))))))), (tA_n (by decide) (tA_n (by decide) (tA_ff (tA_n (by decide) (tA_n (by decide) (tA_st f217 (tA_n (by decide) rfl))))))), (tA_n (by decide) (tA_n (by decide) (tA_ff (tA_n (by decide) (tA_st f218 (tA_n (by decide) (tA_n (by decide) rfl))))))), (tA_n (by decide) (tA_n (by decide) (tA_ff (tA_st f219 (tA_n (by decide) (tA_n (by decide) (tA_n (by decide) rfl)))))))⟩)
          · try dsimp only [tvI_i, tvJ_j, tvR_r] at p215
            refine tw_if_ne rfl (fun z => absurd z (by decide)) (fun _ => ?_)
            refine tw_push rfl ?_
            exact tw_iret rfl (Or.inr ⟨by omega, rfl, rfl⟩)
      · try dsimp only [tvI_i, tvJ_j, tvR_r] at p211
        refine tw_if_eq rfl (fun _ => ?_) (fun z => absurd z (by decide))
        refine tw_push rfl ?_
        exact tw_iret rfl (Or.inr ⟨by omega, rfl, rfl⟩)
    · try dsimp only [tvI_i, tvJ_j, tvR_r] at p210
      refine tw_if_eq rfl (fun _ => ?_) (fun z => absurd z (by decide))
      refine tw_push rfl ?_
      exact tw_iret rfl (Or.inr ⟨by omega, rfl, rfl⟩)
theorem a_sell {xs : Nat → Int32} {τ τ2 : List Nat} {c o m : Int32} {h h2 h3 : zH} {w w2 : Option Value} (hB : zBs xs τ h) (hB2 : zBs xs τ2 h2) (hC : R_cars h) (hP : R_people h) (hW : R_now h) (hA : R_sales h) (hL : R_cl h) (hO : R_cown h) (hS : R_csold h) (h_scar : R_scar h) (o_scar : tA h2 128 = tA h 128) (t_scar : tA h3 40 = tA h2 40) (h_sto : R_sto h) (o_sto : tA h2 129 = tA h 129) (t_sto : tA h3 41 = tA h2 41) (h_sin : R_sin h) (o_sin : tA h2 130 = tA h 130) (t_sin : tA h3 42 = tA h2 42) (h_stold : R_stold h) (o_stold : tA h2 131 = tA h 131) (t_stold : tA h3 43 = tA h2 43) (e1 : tF h2 111 5 = tF h 111 5) (e3 : tF h2 111 2 = tF h 111 2) (e4 : tF h2 111 1 = tF h 111 1) (e5 : tF h2 111 6 = tF h 111 6) (o1 : tA h2 125 = tA h 125) (o2 : tA h2 126 = tA h 126) (e2 : tF h3 36 9 = tF h2 36 9) (e6 : tO h3 39 = tO h2 39) (e8 : tO h2 39 = tO h 39) (e9 : tF h3 36 4 = tF h2 36 4) (e11 : tF h2 36 4 = tF h 36 4) (e7 : ∀ i r f : Nat, (i : Int) < (tvI (tF h2 36 4)).toInt → tO h2 39 i = some r → tF h3 r f = tF h2 r f) (k1 : ph_sec c o m h w h2) (k2 : ph_sem c o m h2 w2 h3) : w2 = w ∧ R_sales h3 ∧ R_cown h3 ∧ R_csold h3 ∧ R_scar h3 ∧ R_sto h3 ∧ R_sin h3 ∧ R_stold h3 := by
  have hC0 := hC
  have hA0 := hA
  unfold R_cars at hC0
  unfold R_people at hP
  unfold R_now at hW
  unfold R_sales at hA0
  unfold ph_sem at k2
  rw [e1, e3, e4, e5, o1, o2, o_scar, o_sto, o_sin, o_stold, ← hC0, ← hP, ← hW, ← hA0] at k2
  rw [e11, e8] at e7
  rcases k1 with ⟨c1, rfl, r, hr, f1, f2, f3, f4, f_scar, f_sto, f_sin, f_stold⟩ | ⟨c1, rfl, rfl⟩ <;> rcases k2 with ⟨c2, rfl, q1, q2, q3, q_scar, q_sto, q_sin, q_stold⟩ | ⟨c2, rfl, rfl⟩
  · have hi : ((c.toNatClampNeg : Nat) : Int) < (tvI (tF h 36 4)).toInt := by rw [zclE]; omega
    have key : ∀ f x P, (f = 4 ∨ f = 5) → tF h2 r f = .int x → tA h3 P = (fun j => if j = c.toNatClampNeg then x else tA h P j) → (∀ i r : Nat, (i : Int) < (tvI (tF h 36 4)).toInt → tO h 39 i = some r → tF h r f = .int (tA h P i)) → ∀ i r : Nat, (i : Int) < (tvI (tF h3 36 4)).toInt → tO h3 39 i = some r → tF h3 r f = .int (tA h3 P i) := by
      intro f x P hf hx hP3 hold i s hi2 hs
      rw [e9, e11] at hi2
      rw [e6, e8] at hs
      rw [e7 i s f hi2 hs, hP3]
      dsimp only
      by_cases z : i = c.toNatClampNeg
      · subst z
        rw [hr] at hs
        cases hs
        rw [if_pos rfl]
        exact hx
      · rw [if_neg z, f4 s f (fun y => car_ne hB hi2 hs (p := 36) (t := 12) rfl (by decide) y.1) (fun y => z (hL.2 _ _ hi2 hi (by rw [hs, hr, y.1])))]
        exact hold i s hi2 hs
    refine ⟨rfl, ?_, key 4 o 125 (Or.inl rfl) f2 q2 hO, key 5 m 126 (Or.inr rfl) f3 q3 hS, ?_, ?_, ?_, ?_⟩
    · unfold R_sales; rw [e2, f1, q1]
    · unfold R_scar at *; rw [t_scar, f_scar, q_scar, ← h_scar]
    · unfold R_sto at *; rw [t_sto, f_sto, q_sto, ← h_sto]
    · unfold R_sin at *; rw [t_sin, f_sin, q_sin, ← h_sin]
    · unfold R_stold at *; rw [t_stold, f_stold, q_stold, ← h_stold]
  · exact absurd c1 c2
  · exact absurd c2 c1
  · exact ⟨rfl, hA, hO, hS, h_scar, h_sto, h_sin, h_stold⟩
theorem low_sell {c o m : Int32} {h h2 h3 : zH} {w2 : Option Value} (hB6 : 0 ≤ (tvI (tF h 111 6)).toInt ∧ (tvI (tF h 111 6)).toInt ≤ 400) (hB1 : 0 ≤ (tvI (tF h 111 1)).toInt) (h1 : R_lowt h) (h4 : R_lowc h) (h5 : R_lowo h) (e5 : tF h2 111 5 = tF h 111 5) (e1 : tF h2 111 1 = tF h 111 1) (e6 : tF h2 111 6 = tF h 111 6) (u1 : tA h2 131 = tA h 131) (u2 : tA h2 130 = tA h 130) (u3 : tA h2 128 = tA h 128) (u4 : tA h2 125 = tA h 125) (u5 : tA h2 129 = tA h 129) (u6 : tA h2 124 = tA h 124) (t5 : tF h3 111 5 = tF h2 111 5) (t1 : tF h3 111 1 = tF h2 111 1) (t6 : tA h3 124 = tA h2 124) (v1 : tA h3 131 = tA h2 131 ∨ True) (k2 : ph_sem c o m h2 w2 h3) : R_lowt h3 ∧ R_lowc h3 ∧ R_lowo h3 := by
  unfold ph_sem at k2
  rw [e5, e1, e6, u1, u2, u3, u4, u5] at k2
  rcases k2 with ⟨c2, -, q1, q2, q3, q4, q5, q6, q7⟩ | ⟨c2, -, rfl⟩
  · have hS : (tvI (tF h3 111 6)).toInt = (tvI (tF h 111 6)).toInt + 1 := by
      rw [q1]
      show (tvI (tF h 111 6) + 1).toInt = _
      exact (zincN (n := (tvI (tF h 111 6)).toInt.toNat) (by omega) (by omega)).trans (by omega)
    have hSN : (tvI (tF h3 111 6)).toNatClampNeg = (tvI (tF h 111 6)).toNatClampNeg + 1 := by rw [zclE, zclE, hS]; omega
    refine ⟨fun k hk => ?_, fun k hk => ?_, fun i hi => ?_⟩
    · rw [hS] at hk
      rw [t1, e1, q7, q6]
      show (if k = _ then _ else _ : Int32).toInt ≤ _ ∧ (if k = _ then _ else _ : Int32).toInt ≤ _
      by_cases e : k = (tvI (tF h 111 6)).toNatClampNeg
      · rw [if_pos e, if_pos e]
        exact ⟨Int.le_refl _, c2.2.2.2.1.2⟩
      · rw [if_neg e, if_neg e]
        rw [zclE] at e
        exact h1 k (by omega)
    · rw [hS] at hk
      rw [t5, e5, q4]
      show ((if k = _ then _ else _ : Int32).toNatClampNeg : Int) < _
      by_cases e : k = (tvI (tF h 111 6)).toNatClampNeg
      · rw [if_pos e, zclE]; omega
      · rw [if_neg e]
        rw [zclE] at e
        exact h4 k (by omega)
    · rw [t5, e5] at hi
      rw [hSN, q2, q4, q5, t6, u6]
      show (if i = c.toNatClampNeg then o else tA h 125 i) = if _ then _ else _
      have hcg : sLo (fun j => if j = (tvI (tF h 111 6)).toNatClampNeg then c else tA h 128 j) (fun j => if j = (tvI (tF h 111 6)).toNatClampNeg then o else tA h 129 j) i (tA h 124 i) (tvI (tF h 111 6)).toNatClampNeg = sLo (tA h 128) (tA h 129) i (tA h 124 i) (tvI (tF h 111 6)).toNatClampNeg := sLo_congr (fun k hk => ⟨if_neg (by omega), if_neg (by omega)⟩)
      rw [hcg]
      show (if i = c.toNatClampNeg then o else tA h 125 i) = if (if (tvI (tF h 111 6)).toNatClampNeg = (tvI (tF h 111 6)).toNatClampNeg then c else tA h 128 (tvI (tF h 111 6)).toNatClampNeg).toNatClampNeg = i then (if (tvI (tF h 111 6)).toNatClampNeg = (tvI (tF h 111 6)).toNatClampNeg then o else tA h 129 (tvI (tF h 111 6)).toNatClampNeg) else _
      rw [if_pos rfl, if_pos rfl, ← h5 i hi]
      by_cases e : i = c.toNatClampNeg
      · rw [if_pos e, if_pos e.symm]
      · rw [if_neg e, if_neg (fun z => e z.symm)]
  · refine ⟨fun k hk => ?_, fun k hk => ?_, fun i hi => ?_⟩
    · rw [e6] at hk
      rw [u1, u2, e1]
      exact h1 k hk
    · rw [e6] at hk
      rw [u3, e5]
      exact h4 k hk
    · rw [e5] at hi
      rw [u4, u3, u5, u6, e6]
      exact h5 i hi
noncomputable def R_ccar (h : zH) : Prop := tA h 64 = tA h 152
noncomputable def R_cmonth (h : zH) : Prop := tA h 66 = tA h 153
noncomputable def R_csort (h : zH) : Prop := tA h 68 = tA h 154
noncomputable def R_cspeed (h : zH) : Prop := tA h 69 = tA h 155
noncomputable def R_cburn (h : zH) : Prop := tA h 71 = tA h 158
noncomputable def R_crashes (h : zH) : Prop := tF h 63 8 = tF h 111 59
theorem f_isSpeed {G : zG} (hG : G.1 = zProg) {h : zH} {n : Int32} : tC zTt G 162 [.int n] h (fun w h2 => tBo (0 ≤ n.toInt ∧ n.toInt ≤ 200) w ∧ h2 = h) := by
  refine tC_in (by rw [hG]; rfl) (fun dp => ?_)
  refine tw_iload rfl rfl ?_
  refine tw_push rfl ?_
  refine tw_push rfl ?_
  refine tw_stat3 rfl (f_isWithin hG (LO := 0) (HI := 200) (by decide) (by decide)) (fun w9 h9 p223 => ?_)
  obtain ⟨⟨p223, rfl⟩ | ⟨p223, rfl⟩, rfl⟩ := p223
  · try dsimp only [tvI_i, tvJ_j, tvR_r] at p223
    exact tw_iret rfl ⟨Or.inl ⟨p223, rfl⟩, rfl⟩
  · try dsimp only [tvI_i, tvJ_j, tvR_r] at p223
    exact tw_iret rfl ⟨Or.inr ⟨p223, rfl⟩, rfl⟩
theorem f_cfull {G : zG} (hG : G.1 = zProg) {h : zH} (hs : tSh h) {n : Int32} (hn : tF h 63 8 = .int n) : tC zTt G 7 [.ref 63] h (fun w h2 => tBo (n.toInt = 200) w ∧ h2 = h) := by
  refine tC_in (by rw [hG]; rfl) (fun dp => ?_)
  have hn0 := congrArg (fun z => (tvI z).toInt) hn
  have hn1 : (tvI (tF h 63 8)).toInt = n.toInt := hn0
  refine tw_aload rfl rfl ?_
  refine tw_getS rfl (hi_63_8 hs) ?_
  refine tw_push rfl ?_
  refine tw_ic_ne rfl (fun q224 => ?_) (fun q224 => ?_)
  · try dsimp only [tvI_i, tvJ_j, tvR_r] at q224
    have q224i := zneq (Y := 200) (by decide) q224
    refine tw_push rfl ?_
    exact tw_iret rfl ⟨Or.inr ⟨by omega, rfl⟩, rfl⟩
  · try dsimp only [tvI_i, tvJ_j, tvR_r] at q224
    have q224i := zeqi (Y := 200) (by decide) q224
    refine tw_push rfl ?_
    refine tw_goto rfl ?_
    exact tw_iret rfl ⟨Or.inl ⟨by omega, rfl⟩, rfl⟩
theorem tSh_ex {h h2 : zH} {p0 b0 : Nat} {x : Int32} (hn : tSr.all (fun q => !(Nat.beq q.1 p0 && Nat.beq q.2.1 b0)) = true) (k : tSh h) (e1 : tF h2 p0 b0 = .int x) (e2 : ∀ p b, ¬ (p = p0 ∧ b = b0) → tF h2 p b = tF h p b) : tSh h2 := by
  refine ⟨fun q hq => ?_, fun q hq => ?_⟩
  · rw [e2]
    · exact k.1 q hq
    · rintro ⟨z1, z2⟩
      have := List.all_eq_true.mp hn q hq
      rw [z1, z2] at this
      simp at this
  · by_cases e : q.1 = p0 ∧ q.2 = b0
    · rw [e.1, e.2, e1]; rfl
    · rw [e2 _ _ e]; exact k.2 q hq
theorem f_addCrash {G : zG} (hG : G.1 = zProg) {h : zH} {c k m t n : Int32} (hs : tSh h) (hn : tF h 63 8 = .int n) (hf : ¬ n.toInt = 200) : tC zTt G 8 [.ref 63, .int c, .int k, .int m, .int t] h (fun w h2 => w = some (.int n) ∧ tF h2 63 8 = .int (n + 1) ∧ (∀ p b, ¬ (p = 63 ∧ b = 8) → tF h2 p b = tF h p b) ∧ tO h2 = tO h ∧ tA h2 64 = (fun j => if j = n.toNatClampNeg then c else tA h 64 j) ∧ tA h2 66 = (fun j => if j = n.toNatClampNeg then m else tA h 66 j) ∧ tA h2 68 = tA h 68 ∧ tA h2 69 = tA h 69 ∧ tA h2 71 = tA h 71) := by
  refine tC_in (by rw [hG]; rfl) (fun dp => ?_)
  have hnx : tvI (tF h 63 8) = n := by rw [hn]; rfl
  refine tw_aload rfl rfl ?_
  refine tw_virt0 rfl (f_cfull hG hs (hi_63_8 hs)) (fun w9 h9 p225 => ?_)
  obtain ⟨⟨p225, rfl⟩ | ⟨p225, rfl⟩, rfl⟩ := p225
  · try dsimp only [tvI_i, tvJ_j, tvR_r] at p225
    refine tw_if_eq rfl (fun z => absurd z (by decide)) (fun _ => ?_)
    refine tw_push rfl ?_
    rw [hnx] at p225
    exact absurd p225 hf
  · try dsimp only [tvI_i, tvJ_j, tvR_r] at p225
    refine tw_if_eq rfl (fun _ => ?_) (fun z => absurd z (by decide))
    refine tw_aload rfl rfl ?_
    refine tw_getS rfl (hs_63_0 hs) ?_
    refine tw_aload rfl rfl ?_
    refine tw_getS rfl (hi_63_8 hs) ?_
    refine tw_iload rfl rfl ?_
    refine tw_iast rfl (fun f226 => ?_)
    refine tw_aload rfl rfl ?_
    refine tw_getS rfl (hs_63_1 (tSh_SA hs)) ?_
    refine tw_aload rfl rfl ?_
    refine tw_getS rfl (tF_a (hi_63_8 hs)) ?_
    refine tw_iload rfl rfl ?_
    refine tw_iast rfl (fun f227 => ?_)
    refine tw_aload rfl rfl ?_
    refine tw_getS rfl (hs_63_2 (tSh_SA (tSh_SA hs))) ?_
    refine tw_aload rfl rfl ?_
    refine tw_getS rfl (tF_a (tF_a (hi_63_8 hs))) ?_
    refine tw_iload rfl rfl ?_
    refine tw_iast rfl (fun f228 => ?_)
    refine tw_aload rfl rfl ?_
    refine tw_getS rfl (hs_63_3 (tSh_SA (tSh_SA (tSh_SA hs)))) ?_
    refine tw_aload rfl rfl ?_
    refine tw_getS rfl (tF_a (tF_a (tF_a (hi_63_8 hs)))) ?_
    refine tw_iload rfl rfl ?_
    refine tw_iast rfl (fun f229 => ?_)
    refine tw_aload rfl rfl ?_
    refine tw_dup rfl ?_
    refine tw_getS rfl (tF_a (tF_a (tF_a (tF_a (hi_63_8 hs))))) ?_
    refine tw_dup_x1 rfl ?_
    refine tw_push rfl ?_
    refine tw_iadd rfl ?_
    refine tw_put rfl (fun f230 => ?_)
    exact tw_iret rfl ⟨congrArg some (congrArg Value.int hnx), (tF_same f230).trans (by rw [hnx] <;> rfl), fun p b n1 => (tF_ne n1 (tF_a (tF_a (tF_a (tF_a rfl))))), by rw [tO_tSF, tO_tSA, tO_tSA, tO_tSA, tO_tSA], (tA_ff (tA_n (by decide) (tA_n (by decide) (tA_n (by decide) (tA_st f226 rfl))))).trans (by rw [hnx] <;> rfl), (tA_ff (tA_n (by decide) (tA_st f228 (tA_n (by decide) (tA_n (by decide) rfl))))).trans (by rw [hnx] <;> rfl), (tA_ff (tA_n (by decide) (tA_n (by decide) (tA_n (by decide) (tA_n (by decide) rfl))))), (tA_ff (tA_n (by decide) (tA_n (by decide) (tA_n (by decide) (tA_n (by decide) rfl))))), (tA_ff (tA_n (by decide) (tA_n (by decide) (tA_n (by decide) (tA_n (by decide) rfl)))))⟩
theorem f_hasCrash {G : zG} (hG : G.1 = zProg) {h : zH} {n : Int32} (hs : tSh h) : tC zTt G 6 [.ref 63, .int n] h (fun w h2 => tBo (0 ≤ n.toInt ∧ n.toInt < (tvI (tF h 63 8)).toInt) w ∧ h2 = h) := by
  refine tC_in (by rw [hG]; rfl) (fun dp => ?_)
  refine tw_iload rfl rfl ?_
  refine tw_if_lt rfl (fun q231 => ?_) (fun q231 => ?_)
  · try dsimp only [tvI_i, tvJ_j, tvR_r] at q231
    refine tw_push rfl ?_
    exact tw_iret rfl ⟨Or.inr ⟨by omega, rfl⟩, rfl⟩
  · try dsimp only [tvI_i, tvJ_j, tvR_r] at q231
    refine tw_iload rfl rfl ?_
    refine tw_aload rfl rfl ?_
    refine tw_getS rfl (hi_63_8 hs) ?_
    refine tw_ic_ge rfl (fun q232 => ?_) (fun q232 => ?_)
    · try dsimp only [tvI_i, tvJ_j, tvR_r] at q232
      refine tw_push rfl ?_
      exact tw_iret rfl ⟨Or.inr ⟨by omega, rfl⟩, rfl⟩
    · try dsimp only [tvI_i, tvJ_j, tvR_r] at q232
      refine tw_push rfl ?_
      refine tw_goto rfl ?_
      exact tw_iret rfl ⟨Or.inl ⟨by omega, rfl⟩, rfl⟩
theorem f_tellOf {G : zG} (hG : G.1 = zProg) {h : zH} {x s v d u n : Int32} (bu : 0 ≤ u.toInt ∧ u.toInt ≤ 1) (hs : tSh h) (hn : tF h 63 8 = .int n) (h0 : 0 ≤ x.toInt ∧ x.toInt < n.toInt) : tC zTt G 9 [.ref 63, .int x, .int s, .int v, .int d, .int u] h (fun w h2 => w = none ∧ tF h2 = tF h ∧ tO h2 = tO h ∧ tA h2 64 = tA h 64 ∧ tA h2 66 = tA h 66 ∧ tA h2 68 = (fun j => if j = x.toNatClampNeg then s else tA h 68 j) ∧ tA h2 69 = (fun j => if j = x.toNatClampNeg then v else tA h 69 j) ∧ tA h2 71 = (fun j => if j = x.toNatClampNeg then u else tA h 71 j)) := by
  refine tC_in (by rw [hG]; rfl) (fun dp => ?_)
  have hnx : (tvI (tF h 63 8)).toInt = n.toInt := by rw [hn]; rfl
  refine tw_aload rfl rfl ?_
  refine tw_iload rfl rfl ?_
  refine tw_virt1 rfl (f_hasCrash hG hs) (fun w9 h9 p233 => ?_)
  obtain ⟨⟨p233, rfl⟩ | ⟨p233, rfl⟩, rfl⟩ := p233
  · try dsimp only [tvI_i, tvJ_j, tvR_r] at p233
    refine tw_if_ne rfl (fun _ => ?_) (fun z => absurd z (by decide))
    refine tw_aload rfl rfl ?_
    refine tw_getS rfl (hs_63_4 hs) ?_
    refine tw_iload rfl rfl ?_
    refine tw_iload rfl rfl ?_
    refine tw_iast rfl (fun f234 => ?_)
    refine tw_aload rfl rfl ?_
    refine tw_getS rfl (hs_63_5 (tSh_SA hs)) ?_
    refine tw_iload rfl rfl ?_
    refine tw_iload rfl rfl ?_
    refine tw_iast rfl (fun f235 => ?_)
    refine tw_aload rfl rfl ?_
    refine tw_getS rfl (hs_63_6 (tSh_SA (tSh_SA hs))) ?_
    refine tw_iload rfl rfl ?_
    refine tw_iload rfl rfl ?_
    refine tw_iast rfl (fun f236 => ?_)
    refine tw_aload rfl rfl ?_
    refine tw_getS rfl (hs_63_7 (tSh_SA (tSh_SA (tSh_SA hs)))) ?_
    refine tw_iload rfl rfl ?_
    refine tw_iload rfl rfl ?_
    refine tw_bastZ bu rfl (fun kf237 f237 => ?_)
    exact tw_vret rfl ⟨rfl, by rw [tF_tSA, tF_tSA, tF_tSA, tF_tSA], by rw [tO_tSA, tO_tSA, tO_tSA, tO_tSA], (tA_n (by decide) (tA_n (by decide) (tA_n (by decide) (tA_n (by decide) rfl)))), (tA_n (by decide) (tA_n (by decide) (tA_n (by decide) (tA_n (by decide) rfl)))), (tA_n (by decide) (tA_n (by decide) (tA_n (by decide) (tA_st f234 rfl)))), (tA_n (by decide) (tA_n (by decide) (tA_st f235 (tA_n (by decide) rfl)))), (tA_st f237 (tA_n (by decide) (tA_n (by decide) (tA_n (by decide) rfl))))⟩
  · try dsimp only [tvI_i, tvJ_j, tvR_r] at p233
    refine tw_if_ne rfl (fun z => absurd z (by decide)) (fun _ => ?_)
    exact (p233 ⟨by omega, by omega⟩).elim
noncomputable def ph_crc (c m s v d u y : Int32) (h : zH) (w : Option Value) (h2 : zH) : Prop := (((0 ≤ c.toInt ∧ c.toInt < (tvI (tF h 36 4)).toInt) ∧ (tA h 120 c.toNatClampNeg).toInt = 0 ∧ ((tA h 127 c.toNatClampNeg).toInt ≤ m.toInt ∧ m.toInt ≤ (tvI (tF h 0 14)).toInt) ∧ (0 ≤ s.toInt ∧ s.toInt ≤ 2) ∧ (0 ≤ v.toInt ∧ v.toInt ≤ 200) ∧ (0 ≤ d.toInt ∧ d.toInt ≤ 9) ∧ (tvI (tF h 63 8)).toInt ≠ 200) ∧ w = some (tF h 63 8) ∧ ∃ r, tO h 39 c.toNatClampNeg = some r ∧ tF h2 63 8 = .int (tvI (tF h 63 8) + 1) ∧ tF h2 r 6 = .int m ∧ tF h2 r 7 = .int y ∧ (∀ p b, ¬ (p = 63 ∧ b = 8) → ¬ (p = r ∧ (b = 6 ∨ b = 7)) → tF h2 p b = tF h p b) ∧ tO h2 = tO h ∧ tA h2 64 = (fun j => if j = (tvI (tF h 63 8)).toNatClampNeg then c else tA h 64 j) ∧ tA h2 66 = (fun j => if j = (tvI (tF h 63 8)).toNatClampNeg then m else tA h 66 j) ∧ tA h2 68 = (fun j => if j = (tvI (tF h 63 8)).toNatClampNeg then s else tA h 68 j) ∧ tA h2 69 = (fun j => if j = (tvI (tF h 63 8)).toNatClampNeg then v else tA h 69 j) ∧ tA h2 71 = (fun j => if j = (tvI (tF h 63 8)).toNatClampNeg then u else tA h 71 j)) ∨ (¬ ((0 ≤ c.toInt ∧ c.toInt < (tvI (tF h 36 4)).toInt) ∧ (tA h 120 c.toNatClampNeg).toInt = 0 ∧ ((tA h 127 c.toNatClampNeg).toInt ≤ m.toInt ∧ m.toInt ≤ (tvI (tF h 0 14)).toInt) ∧ (0 ≤ s.toInt ∧ s.toInt ≤ 2) ∧ (0 ≤ v.toInt ∧ v.toInt ≤ 200) ∧ (0 ≤ d.toInt ∧ d.toInt ≤ 9) ∧ (tvI (tF h 63 8)).toInt ≠ 200) ∧ w = some (.int (-1)) ∧ h2 = h)
theorem zinc1 {x : Int32} (h : 0 ≤ x.toInt ∧ x.toInt ≤ 200) : (x + 1).toInt = x.toInt + 1 := by
  rw [Int32.toInt_add]
  exact Int.bmod_eq_of_le (by show (-2147483648 : Int) ≤ x.toInt + 1; omega) (by show x.toInt + 1 < (2147483648 : Int); omega)
theorem f_crash {G : zG} (hG : G.1 = zProg) {h : zH} {c m s v d u y : Int32} (bu : 0 ≤ u.toInt ∧ u.toInt ≤ 1) (bw : 0 ≤ y.toInt ∧ y.toInt ≤ 1) (hs : tSh h) (hL : R_cl h) (hg : ∀ i r : Nat, (i : Int) < (tvI (tF h 36 4)).toInt → tO h 39 i = some r → 182 ≤ r) (hR6 : R_ccr h) (hR7 : R_cwr h) (hR0 : R_ckind h) (hn0 : 0 ≤ (tvI (tF h 63 8)).toInt ∧ (tvI (tF h 63 8)).toInt ≤ 200) : tC zTt G 133 [.ref 0, .int c, .int m, .int s, .int v, .int d, .int u, .int y] h (ph_crc c m s v d u y h) := by
  refine tC_in (by rw [hG]; rfl) (fun dp => ?_)
  refine tw_aload rfl rfl ?_
  refine tw_getS rfl (hs_0_1 hs) ?_
  refine tw_iload rfl rfl ?_
  refine tw_virt1 rfl (f_carAtR hG hs hL hg) (fun w9 h9 p238 => ?_)
  obtain ⟨⟨rp238, p238, p238r, p238g, rfl⟩ | ⟨p238, rfl⟩, rfl⟩ := p238
  · refine tw_astore rfl ?_
    refine tw_aload rfl rfl ?_
    refine tw_ifnull rfl (fun z => by cases z) (fun _ _ => ?_)
    refine tw_aload rfl rfl ?_
    refine tw_getS rfl (hR7 _ _ p238.2 p238r) ?_
    refine tw_if_ne rfl (fun q241 => ?_) (fun q241 => ?_)
    · try dsimp only [tvI_i, tvJ_j, tvR_r] at q241
      have q241i := zneq (Y := 0) (by decide) q241
      refine tw_push rfl ?_
      exact tw_iret rfl (Or.inr ⟨by omega, rfl, rfl⟩)
    · try dsimp only [tvI_i, tvJ_j, tvR_r] at q241
      have q241i := zeqi (Y := 0) (by decide) q241
      refine tw_iload rfl rfl ?_
      refine tw_aload rfl rfl ?_
      refine tw_getS rfl (hR6 _ _ p238.2 p238r) ?_
      refine tw_aload rfl rfl ?_
      refine tw_getS rfl (hi_0_14 hs) ?_
      refine tw_stat3 rfl (f_isWithin hG   rfl rfl) (fun w9 h9 p242 => ?_)
      obtain ⟨⟨p242, rfl⟩ | ⟨p242, rfl⟩, rfl⟩ := p242
      · try dsimp only [tvI_i, tvJ_j, tvR_r] at p242
        refine tw_if_ne rfl (fun _ => ?_) (fun z => absurd z (by decide))
        refine tw_iload rfl rfl ?_
        refine tw_stat1 rfl (f_isSort hG) (fun w9 h9 p243 => ?_)
        obtain ⟨⟨p243, rfl⟩ | ⟨p243, rfl⟩, rfl⟩ := p243
        · try dsimp only [tvI_i, tvJ_j, tvR_r] at p243
          refine tw_if_eq rfl (fun z => absurd z (by decide)) (fun _ => ?_)
          refine tw_iload rfl rfl ?_
          refine tw_stat1 rfl (f_isSpeed hG) (fun w9 h9 p244 => ?_)
          obtain ⟨⟨p244, rfl⟩ | ⟨p244, rfl⟩, rfl⟩ := p244
          · try dsimp only [tvI_i, tvJ_j, tvR_r] at p244
            refine tw_if_eq rfl (fun z => absurd z (by decide)) (fun _ => ?_)
            refine tw_iload rfl rfl ?_
            refine tw_push rfl ?_
            refine tw_push rfl ?_
            refine tw_stat3 rfl (f_isWithin hG (LO := 0) (HI := 9) (by decide) (by decide)) (fun w9 h9 p245 => ?_)
            obtain ⟨⟨p245, rfl⟩ | ⟨p245, rfl⟩, rfl⟩ := p245
            · try dsimp only [tvI_i, tvJ_j, tvR_r] at p245
              refine tw_if_eq rfl (fun z => absurd z (by decide)) (fun _ => ?_)
              refine tw_aload rfl rfl ?_
              refine tw_getS rfl (hs_0_5 hs) ?_
              refine tw_virt0 rfl (f_cfull hG hs (hi_63_8 hs)) (fun w9 h9 p246 => ?_)
              obtain ⟨⟨p246, rfl⟩ | ⟨p246, rfl⟩, rfl⟩ := p246
              · try dsimp only [tvI_i, tvJ_j, tvR_r] at p246
                refine tw_if_eq rfl (fun z => absurd z (by decide)) (fun _ => ?_)
                refine tw_push rfl ?_
                exact tw_iret rfl (Or.inr ⟨by omega, rfl, rfl⟩)
              · try dsimp only [tvI_i, tvJ_j, tvR_r] at p246
                refine tw_if_eq rfl (fun _ => ?_) (fun z => absurd z (by decide))
                refine tw_aload rfl rfl ?_
                refine tw_iload rfl rfl ?_
                refine tw_put rfl (fun f247 => ?_)
                refine tw_aload rfl rfl ?_
                refine tw_iload rfl rfl ?_
                refine tw_put rfl (fun f248 => ?_)
                refine tw_aload rfl rfl ?_
                refine tw_getS rfl (hs_0_5 (tSh_SFr (by omega) (tSh_SFr (by omega) hs))) ?_
                refine tw_iload rfl rfl ?_
                refine tw_aload rfl rfl ?_
                refine tw_getS rfl (tF_ne (by omega) (tF_ne (by omega) (hR0 _ _ p238.2 p238r))) ?_
                refine tw_iload rfl rfl ?_
                refine tw_aload rfl rfl ?_
                refine tw_getS rfl (tF_ne (by omega) (tF_ne (by omega) (hi_0_14 hs))) ?_
                refine tw_virt4 rfl (f_addCrash hG (tSh_SFr (by omega) (tSh_SFr (by omega) hs)) (tF_ne (by omega) (tF_ne (by omega) (hi_63_8 hs))) (by omega)) (fun wp249 hp249 p249 => ?_)
                obtain ⟨rfl, p249e, p249f, p249o, p249a64, p249a66, p249a68, p249a69, p249a71⟩ := p249
                refine tw_istore rfl ?_
                refine tw_aload rfl rfl ?_
                refine tw_getS rfl (hs_0_5 (tSh_ex (by decide +kernel) (tSh_SFr (by omega) (tSh_SFr (by omega) hs)) p249e p249f)) ?_
                refine tw_iload rfl rfl ?_
                refine tw_iload rfl rfl ?_
                refine tw_iload rfl rfl ?_
                refine tw_iload rfl rfl ?_
                refine tw_iload rfl rfl ?_
                refine tw_virt5 rfl (f_tellOf hG bu (tSh_ex (by decide +kernel) (tSh_SFr (by omega) (tSh_SFr (by omega) hs)) p249e p249f) p249e ⟨hn0.1, (by rw [zinc1 hn0]; exact Int.lt_succ _)⟩) (fun wp250 hp250 p250 => ?_)
                obtain ⟨rfl, p250e, p250o, p250a64, p250a66, p250a68, p250a69, p250a71⟩ := p250
                refine tw_iload rfl rfl ?_
                have e63 := hi_63_8 hs
                refine tw_iret rfl (Or.inl ⟨by omega, congrArg some e63.symm, rp238, p238r, ?_, ?_, ?_, fun p b n1 n2 => ?_, ?_, ?_, ?_, ?_, ?_, ?_⟩)
                · rw [p250e, p249e]
                · rw [p250e, p249f _ _ (by omega)]; exact tF_ne (by omega) (tF_same f247)
                · rw [p250e, p249f _ _ (by omega)]; exact tF_same f248
                · rw [p250e, p249f _ _ n1]; exact (tF_ne (fun z => n2 ⟨z.1, Or.inr z.2⟩) (tF_ne (fun z => n2 ⟨z.1, Or.inl z.2⟩) rfl))
                · rw [p250o, p249o, tO_tSF, tO_tSF]
                · rw [p250a64, p249a64, tA_tSF, tA_tSF]
                · rw [p250a66, p249a66, tA_tSF, tA_tSF]
                · rw [p250a68, p249a68, tA_tSF, tA_tSF] <;> rfl
                · rw [p250a69, p249a69, tA_tSF, tA_tSF] <;> rfl
                · rw [p250a71, p249a71, tA_tSF, tA_tSF] <;> rfl
            · try dsimp only [tvI_i, tvJ_j, tvR_r] at p245
              refine tw_if_eq rfl (fun _ => ?_) (fun z => absurd z (by decide))
              refine tw_push rfl ?_
              exact tw_iret rfl (Or.inr ⟨by omega, rfl, rfl⟩)
          · try dsimp only [tvI_i, tvJ_j, tvR_r] at p244
            refine tw_if_eq rfl (fun _ => ?_) (fun z => absurd z (by decide))
            refine tw_push rfl ?_
            exact tw_iret rfl (Or.inr ⟨by omega, rfl, rfl⟩)
        · try dsimp only [tvI_i, tvJ_j, tvR_r] at p243
          refine tw_if_eq rfl (fun _ => ?_) (fun z => absurd z (by decide))
          refine tw_push rfl ?_
          exact tw_iret rfl (Or.inr ⟨by omega, rfl, rfl⟩)
      · try dsimp only [tvI_i, tvJ_j, tvR_r] at p242
        refine tw_if_ne rfl (fun z => absurd z (by decide)) (fun _ => ?_)
        refine tw_push rfl ?_
        exact tw_iret rfl (Or.inr ⟨by omega, rfl, rfl⟩)
  · refine tw_astoreN rfl ?_
    refine tw_aload rfl rfl ?_
    refine tw_ifnull rfl (fun _ => ?_) (fun _ z => by cases z)
    refine tw_push rfl ?_
    exact tw_iret rfl (Or.inr ⟨by omega, rfl, rfl⟩)
noncomputable def ph_crm (c m s v d u y : Int32) (h : zH) (w : Option Value) (h2 : zH) : Prop := (((0 ≤ c.toInt ∧ c.toInt < (tvI (tF h 111 5)).toInt) ∧ (tA h 120 c.toNatClampNeg).toInt = 0 ∧ ((tA h 127 c.toNatClampNeg).toInt ≤ m.toInt ∧ m.toInt ≤ (tvI (tF h 111 1)).toInt) ∧ (0 ≤ s.toInt ∧ s.toInt ≤ 2) ∧ (0 ≤ v.toInt ∧ v.toInt ≤ 200) ∧ (0 ≤ d.toInt ∧ d.toInt ≤ 9) ∧ (tvI (tF h 111 59)).toInt ≠ 200) ∧ w = some (tF h 111 59) ∧ tF h2 111 59 = .int (tvI (tF h 111 59) + 1) ∧ tA h2 127 = (fun j => if j = c.toNatClampNeg then m else tA h 127 j) ∧ tA h2 120 = (fun j => if j = c.toNatClampNeg then y else tA h 120 j) ∧ tA h2 152 = (fun j => if j = (tvI (tF h 111 59)).toNatClampNeg then c else tA h 152 j) ∧ tA h2 153 = (fun j => if j = (tvI (tF h 111 59)).toNatClampNeg then m else tA h 153 j) ∧ tA h2 154 = (fun j => if j = (tvI (tF h 111 59)).toNatClampNeg then s else tA h 154 j) ∧ tA h2 155 = (fun j => if j = (tvI (tF h 111 59)).toNatClampNeg then v else tA h 155 j) ∧ tA h2 158 = (fun j => if j = (tvI (tF h 111 59)).toNatClampNeg then u else tA h 158 j)) ∨ (¬ ((0 ≤ c.toInt ∧ c.toInt < (tvI (tF h 111 5)).toInt) ∧ (tA h 120 c.toNatClampNeg).toInt = 0 ∧ ((tA h 127 c.toNatClampNeg).toInt ≤ m.toInt ∧ m.toInt ≤ (tvI (tF h 111 1)).toInt) ∧ (0 ≤ s.toInt ∧ s.toInt ≤ 2) ∧ (0 ≤ v.toInt ∧ v.toInt ≤ 200) ∧ (0 ≤ d.toInt ∧ d.toInt ≤ 9) ∧ (tvI (tF h 111 59)).toInt ≠ 200) ∧ w = some (.int (-1)) ∧ h2 = h)
theorem g_crash {G : zG} (hG : G.1 = zProg) {h : zH} {c m s v d u y : Int32} (bu : 0 ≤ u.toInt ∧ u.toInt ≤ 1) (bw : 0 ≤ y.toInt ∧ y.toInt ≤ 1) (hs : tSh h) (hk5 : 0 ≤ (tvI (tF h 111 5)).toInt) : tC zTt G 244 [.ref 111, .int c, .int m, .int s, .int v, .int d, .int u, .int y] h (ph_crm c m s v d u y h) := by
  refine tC_in (by rw [hG]; rfl) (fun dp => ?_)
  refine tw_aload rfl rfl ?_
  refine tw_getS rfl (hi_111_59 hs) ?_
  refine tw_push rfl ?_
  refine tw_ic_eq rfl (fun q253 => ?_) (fun q253 => ?_)
  · try dsimp only [tvI_i, tvJ_j, tvR_r] at q253
    have q253i := zeqi (Y := 200) (by decide) q253
    refine tw_push rfl ?_
    exact tw_iret rfl (Or.inr ⟨by omega, rfl, rfl⟩)
  · try dsimp only [tvI_i, tvJ_j, tvR_r] at q253
    have q253i := zneq (Y := 200) (by decide) q253
    refine tw_aload rfl rfl ?_
    refine tw_iload rfl rfl ?_
    refine tw_virt1 rfl (g_isCar hG hs hk5) (fun w9 h9 p254 => ?_)
    obtain ⟨⟨p254, rfl⟩ | ⟨p254, rfl⟩, rfl⟩ := p254
    · try dsimp only [tvI_i, tvJ_j, tvR_r] at p254
      refine tw_if_eq rfl (fun z => absurd z (by decide)) (fun _ => ?_)
      refine tw_aload rfl rfl ?_
      refine tw_getS rfl (hs_111_15 hs) ?_
      refine tw_iload rfl rfl ?_
      refine tw_bald rfl (fun f255 => ?_)
      refine tw_if_ne rfl (fun q256 => ?_) (fun q256 => ?_)
      · try dsimp only [tvI_i, tvJ_j, tvR_r] at q256
        have q256i := zneq (Y := 0) (by decide) q256
        refine tw_push rfl ?_
        exact tw_iret rfl (Or.inr ⟨by omega, rfl, rfl⟩)
      · try dsimp only [tvI_i, tvJ_j, tvR_r] at q256
        have q256i := zeqi (Y := 0) (by decide) q256
        refine tw_iload rfl rfl ?_
        refine tw_i2l rfl ?_
        refine tw_aload rfl rfl ?_
        refine tw_getS rfl (hs_111_22 hs) ?_
        refine tw_iload rfl rfl ?_
        refine tw_iald rfl (fun f257 => ?_)
        refine tw_i2l rfl ?_
        refine tw_aload rfl rfl ?_
        refine tw_getS rfl (hi_111_1 hs) ?_
        refine tw_i2l rfl ?_
        refine tw_stat3 rfl (f_in hG    (Int32.toInt_toInt64 _) (Int32.toInt_toInt64 _) (Int32.toInt_toInt64 _)) (fun w9 h9 p258 => ?_)
        obtain ⟨⟨p258, rfl⟩ | ⟨p258, rfl⟩, rfl⟩ := p258
        · try dsimp only [tvI_i, tvJ_j, tvR_r] at p258
          refine tw_if_eq rfl (fun z => absurd z (by decide)) (fun _ => ?_)
          refine tw_iload rfl rfl ?_
          refine tw_stat1 rfl (g_isSort hG) (fun w9 h9 p259 => ?_)
          obtain ⟨⟨p259, rfl⟩ | ⟨p259, rfl⟩, rfl⟩ := p259
          · try dsimp only [tvI_i, tvJ_j, tvR_r] at p259
            refine tw_if_eq rfl (fun z => absurd z (by decide)) (fun _ => ?_)
            refine tw_iload rfl rfl ?_
            refine tw_i2l rfl ?_
            refine tw_push rfl ?_
            refine tw_push rfl ?_
            refine tw_stat3 rfl (f_in hG  (LO := 0) (HI := 200) (Int32.toInt_toInt64 _) (by decide) (by decide)) (fun w9 h9 p260 => ?_)
            obtain ⟨⟨p260, rfl⟩ | ⟨p260, rfl⟩, rfl⟩ := p260
            · try dsimp only [tvI_i, tvJ_j, tvR_r] at p260
              refine tw_if_eq rfl (fun z => absurd z (by decide)) (fun _ => ?_)
              refine tw_iload rfl rfl ?_
              refine tw_i2l rfl ?_
              refine tw_push rfl ?_
              refine tw_push rfl ?_
              refine tw_stat3 rfl (f_in hG  (LO := 0) (HI := 9) (Int32.toInt_toInt64 _) (by decide) (by decide)) (fun w9 h9 p261 => ?_)
              obtain ⟨⟨p261, rfl⟩ | ⟨p261, rfl⟩, rfl⟩ := p261
              · try dsimp only [tvI_i, tvJ_j, tvR_r] at p261
                refine tw_if_ne rfl (fun _ => ?_) (fun z => absurd z (by decide))
                refine tw_aload rfl rfl ?_
                refine tw_getS rfl (hs_111_60 hs) ?_
                refine tw_aload rfl rfl ?_
                refine tw_getS rfl (hi_111_59 hs) ?_
                refine tw_iload rfl rfl ?_
                refine tw_iast rfl (fun f262 => ?_)
                refine tw_aload rfl rfl ?_
                refine tw_getS rfl (hs_111_61 (tSh_SA hs)) ?_
                refine tw_aload rfl rfl ?_
                refine tw_getS rfl (tF_a (hi_111_59 hs)) ?_
                refine tw_iload rfl rfl ?_
                refine tw_iast rfl (fun f263 => ?_)
                refine tw_aload rfl rfl ?_
                refine tw_getS rfl (hs_111_62 (tSh_SA (tSh_SA hs))) ?_
                refine tw_aload rfl rfl ?_
                refine tw_getS rfl (tF_a (tF_a (hi_111_59 hs))) ?_
                refine tw_iload rfl rfl ?_
                refine tw_iast rfl (fun f264 => ?_)
                refine tw_aload rfl rfl ?_
                refine tw_getS rfl (hs_111_63 (tSh_SA (tSh_SA (tSh_SA hs)))) ?_
                refine tw_aload rfl rfl ?_
                refine tw_getS rfl (tF_a (tF_a (tF_a (hi_111_59 hs)))) ?_
                refine tw_iload rfl rfl ?_
                refine tw_iast rfl (fun f265 => ?_)
                refine tw_aload rfl rfl ?_
                refine tw_getS rfl (hs_111_64 (tSh_SA (tSh_SA (tSh_SA (tSh_SA hs))))) ?_
                refine tw_aload rfl rfl ?_
                refine tw_getS rfl (tF_a (tF_a (tF_a (tF_a (hi_111_59 hs))))) ?_
                refine tw_iload rfl rfl ?_
                refine tw_iast rfl (fun f266 => ?_)
                refine tw_aload rfl rfl ?_
                refine tw_getS rfl (hs_111_65 (tSh_SA (tSh_SA (tSh_SA (tSh_SA (tSh_SA hs)))))) ?_
                refine tw_aload rfl rfl ?_
                refine tw_getS rfl (tF_a (tF_a (tF_a (tF_a (tF_a (hi_111_59 hs)))))) ?_
                refine tw_aload rfl rfl ?_
                refine tw_getS rfl (tF_a (tF_a (tF_a (tF_a (tF_a (hi_111_1 hs)))))) ?_
                refine tw_iast rfl (fun f267 => ?_)
                refine tw_aload rfl rfl ?_
                refine tw_getS rfl (hs_111_66 (tSh_SA (tSh_SA (tSh_SA (tSh_SA (tSh_SA (tSh_SA hs))))))) ?_
                refine tw_aload rfl rfl ?_
                refine tw_getS rfl (tF_a (tF_a (tF_a (tF_a (tF_a (tF_a (hi_111_59 hs))))))) ?_
                refine tw_iload rfl rfl ?_
                refine tw_bastZ bu rfl (fun kf268 f268 => ?_)
                refine tw_aload rfl rfl ?_
                refine tw_getS rfl (hs_111_22 (tSh_SA (tSh_SA (tSh_SA (tSh_SA (tSh_SA (tSh_SA (tSh_SA hs)))))))) ?_
                refine tw_iload rfl rfl ?_
                refine tw_iload rfl rfl ?_
                refine tw_iast rfl (fun f269 => ?_)
                refine tw_aload rfl rfl ?_
                refine tw_getS rfl (hs_111_15 (tSh_SA (tSh_SA (tSh_SA (tSh_SA (tSh_SA (tSh_SA (tSh_SA (tSh_SA hs))))))))) ?_
                refine tw_iload rfl rfl ?_
                refine tw_iload rfl rfl ?_
                refine tw_bastZ bw rfl (fun kf270 f270 => ?_)
                refine tw_aload rfl rfl ?_
                refine tw_dup rfl ?_
                refine tw_getS rfl (tF_a (tF_a (tF_a (tF_a (tF_a (tF_a (tF_a (tF_a (tF_a (hi_111_59 hs)))))))))) ?_
                refine tw_push rfl ?_
                refine tw_iadd rfl ?_
                refine tw_put rfl (fun f271 => ?_)
                refine tw_aload rfl rfl ?_
                refine tw_getS rfl (tF_same f271) ?_
                refine tw_push rfl ?_
                refine tw_isub rfl ?_
                exact tw_iret rfl (Or.inl ⟨by omega, wret1 (hi_111_59 hs), (tF_same f271), (tA_ff (tA_n (by decide) (tA_st f269 (tA_n (by decide) (tA_n (by decide) (tA_n (by decide) (tA_n (by decide) (tA_n (by decide) (tA_n (by decide) (tA_n (by decide) rfl)))))))))), (tA_ff (tA_st f270 (tA_n (by decide) (tA_n (by decide) (tA_n (by decide) (tA_n (by decide) (tA_n (by decide) (tA_n (by decide) (tA_n (by decide) (tA_n (by decide) rfl)))))))))), (tA_ff (tA_n (by decide) (tA_n (by decide) (tA_n (by decide) (tA_n (by decide) (tA_n (by decide) (tA_n (by decide) (tA_n (by decide) (tA_n (by decide) (tA_st f262 rfl)))))))))), (tA_ff (tA_n (by decide) (tA_n (by decide) (tA_n (by decide) (tA_n (by decide) (tA_n (by decide) (tA_n (by decide) (tA_n (by decide) (tA_st f263 (tA_n (by decide) rfl)))))))))), (tA_ff (tA_n (by decide) (tA_n (by decide) (tA_n (by decide) (tA_n (by decide) (tA_n (by decide) (tA_n (by decide) (tA_st f264 (tA_n (by decide) (tA_n (by decide) rfl)))))))))), (tA_ff (tA_n (by decide) (tA_n (by decide) (tA_n (by decide) (tA_n (by decide) (tA_n (by decide) (tA_st f265 (tA_n (by decide) (tA_n (by decide) (tA_n (by decide) rfl)))))))))), (tA_ff (tA_n (by decide) (tA_n (by decide) (tA_st f268 (tA_n (by decide) (tA_n (by decide) (tA_n (by decide) (tA_n (by decide) (tA_n (by decide) (tA_n (by decide) rfl))))))))))⟩)
              · try dsimp only [tvI_i, tvJ_j, tvR_r] at p261
                refine tw_if_ne rfl (fun z => absurd z (by decide)) (fun _ => ?_)
                refine tw_push rfl ?_
                exact tw_iret rfl (Or.inr ⟨by omega, rfl, rfl⟩)
            · try dsimp only [tvI_i, tvJ_j, tvR_r] at p260
              refine tw_if_eq rfl (fun _ => ?_) (fun z => absurd z (by decide))
              refine tw_push rfl ?_
              exact tw_iret rfl (Or.inr ⟨by omega, rfl, rfl⟩)
          · try dsimp only [tvI_i, tvJ_j, tvR_r] at p259
            refine tw_if_eq rfl (fun _ => ?_) (fun z => absurd z (by decide))
            refine tw_push rfl ?_
            exact tw_iret rfl (Or.inr ⟨by omega, rfl, rfl⟩)
        · try dsimp only [tvI_i, tvJ_j, tvR_r] at p258
          refine tw_if_eq rfl (fun _ => ?_) (fun z => absurd z (by decide))
          refine tw_push rfl ?_
          exact tw_iret rfl (Or.inr ⟨by omega, rfl, rfl⟩)
    · try dsimp only [tvI_i, tvJ_j, tvR_r] at p254
      refine tw_if_eq rfl (fun _ => ?_) (fun z => absurd z (by decide))
      refine tw_push rfl ?_
      exact tw_iret rfl (Or.inr ⟨by omega, rfl, rfl⟩)
theorem a_crash {xs : Nat → Int32} {τ : List Nat} {c m s v d u y : Int32} {h h2 h3 : zH} {w w2 : Option Value} (hB : zBs xs τ h) (hC : R_cars h) (hW : R_now h) (hA : R_crashes h) (hL : R_cl h) (h6 : R_ccr h) (h7 : R_cwr h) (h0 : R_cw0 h) (h_ccar : R_ccar h) (o_ccar : tA h2 152 = tA h 152) (t_ccar : tA h3 64 = tA h2 64) (h_cmonth : R_cmonth h) (o_cmonth : tA h2 153 = tA h 153) (t_cmonth : tA h3 66 = tA h2 66) (h_csort : R_csort h) (o_csort : tA h2 154 = tA h 154) (t_csort : tA h3 68 = tA h2 68) (h_cspeed : R_cspeed h) (o_cspeed : tA h2 155 = tA h 155) (t_cspeed : tA h3 69 = tA h2 69) (h_cburn : R_cburn h) (o_cburn : tA h2 158 = tA h 158) (t_cburn : tA h3 71 = tA h2 71) (e1 : tF h2 111 5 = tF h 111 5) (e4 : tF h2 111 1 = tF h 111 1) (e5 : tF h2 111 59 = tF h 111 59) (o1 : tA h2 127 = tA h 127) (o2 : tA h2 120 = tA h 120) (e2 : tF h3 63 8 = tF h2 63 8) (e6 : tO h3 39 = tO h2 39) (e8 : tO h2 39 = tO h 39) (e9 : tF h3 36 4 = tF h2 36 4) (e11 : tF h2 36 4 = tF h 36 4) (e7 : ∀ i r f : Nat, (i : Int) < (tvI (tF h2 36 4)).toInt → tO h2 39 i = some r → tF h3 r f = tF h2 r f) (k1 : ph_crc c m s v d u y h w h2) (k2 : ph_crm c m s v d u y h2 w2 h3) : w2 = w ∧ R_crashes h3 ∧ R_ccr h3 ∧ R_cwr h3 ∧ R_cw0 h3 ∧ R_ccar h3 ∧ R_cmonth h3 ∧ R_csort h3 ∧ R_cspeed h3 ∧ R_cburn h3 := by
  have hC0 := hC
  have hA0 := hA
  unfold R_cars at hC0
  unfold R_now at hW
  unfold R_crashes at hA0
  unfold ph_crm at k2
  rw [e1, e4, e5, o1, o2, o_ccar, o_cmonth, o_csort, o_cspeed, o_cburn, ← hC0, ← hW, ← hA0] at k2
  rw [e11, e8] at e7
  rcases k1 with ⟨c1, rfl, r, hr, f1, f2, f3, f4, f5, f_64, f_66, f_68, f_69, f_71⟩ | ⟨c1, rfl, rfl⟩ <;> rcases k2 with ⟨c2, rfl, q1, q2, q3, q_152, q_153, q_154, q_155, q_158⟩ | ⟨c2, rfl, rfl⟩
  · have hi : ((c.toNatClampNeg : Nat) : Int) < (tvI (tF h 36 4)).toInt := by rw [zclE]; omega
    have key : ∀ f x P, (f = 6 ∨ f = 7) → tF h2 r f = .int x → tA h3 P = (fun j => if j = c.toNatClampNeg then x else tA h P j) → (∀ i r : Nat, (i : Int) < (tvI (tF h 36 4)).toInt → tO h 39 i = some r → tF h r f = .int (tA h P i)) → ∀ i r : Nat, (i : Int) < (tvI (tF h3 36 4)).toInt → tO h3 39 i = some r → tF h3 r f = .int (tA h3 P i) := by
      intro f x P hf hx hP3 hold i s hi2 hs
      rw [e9, e11] at hi2
      rw [e6, e8] at hs
      rw [e7 i s f hi2 hs, hP3]
      dsimp only
      by_cases z : i = c.toNatClampNeg
      · subst z
        rw [hr] at hs
        cases hs
        rw [if_pos rfl]
        exact hx
      · rw [if_neg z, f4 s f (fun y => car_ne hB hi2 hs (p := 63) (t := 39) rfl (by decide) y.1) (fun y => z (hL.2 _ _ hi2 hi (by rw [hs, hr, y.1])))]
        exact hold i s hi2 hs
    refine ⟨rfl, ?_, key 6 m 127 (Or.inl rfl) f2 q2 h6, key 7 y 120 (Or.inr rfl) f3 q3 h7, ?_, ?_, ?_, ?_, ?_, ?_⟩
    · unfold R_crashes; rw [e2, f1, q1]
    · intro i hi2
      rw [e9, e11] at hi2
      rw [q3]
      dsimp only
      rw [if_neg (by omega)]
      exact h0 i hi2
    · unfold R_ccar at *; rw [t_ccar, f_64, q_152, ← h_ccar]
    · unfold R_cmonth at *; rw [t_cmonth, f_66, q_153, ← h_cmonth]
    · unfold R_csort at *; rw [t_csort, f_68, q_154, ← h_csort]
    · unfold R_cspeed at *; rw [t_cspeed, f_69, q_155, ← h_cspeed]
    · unfold R_cburn at *; rw [t_cburn, f_71, q_158, ← h_cburn]
  · exact absurd c1 c2
  · exact absurd c2 c1
  · exact ⟨rfl, hA, h6, h7, h0, h_ccar, h_cmonth, h_csort, h_cspeed, h_cburn⟩
theorem ccl_crash {xs : Nat → Int32} {τ : List Nat} {c m s v d u y : Int32} {h h2 h3 : zH} {w : Option Value} (hB : zBs xs τ h) (hR : R_ccl h) (e2 : tF h3 63 8 = tF h2 63 8) (e4 : tF h3 36 4 = tF h 36 4) (t1 : tA h3 64 = tA h2 64) (k1 : ph_crc c m s v d u y h w h2) : R_ccl h3 := by
  have n8 := kb_63_8 hB
  intro k hk
  rw [e4, t1]
  rw [e2] at hk
  rcases k1 with ⟨c1, -, r, hr, f1, f2, f3, f4, f5, f64, -⟩ | ⟨c1, -, rfl⟩
  · rw [f1] at hk
    have hk : (k : Int) < (tvI (tF h 63 8) + 1).toInt := hk
    rw [zinc1 n8] at hk
    rw [f64]
    dsimp only
    by_cases e : k = (tvI (tF h 63 8)).toNatClampNeg
    · rw [if_pos e]; exact c1.1.2
    · rw [if_neg e]
      rw [zclE] at e
      exact hR k (by omega)
  · exact hR k hk
noncomputable def R_calls (h : zH) : Prop := tF h 89 4 = tF h 111 83
noncomputable def R_qkind (h : zH) : Prop := tA h 90 = tA h 173
noncomputable def R_qfrom (h : zH) : Prop := tA h 91 = tA h 174
noncomputable def R_qto (h : zH) : Prop := tA h 92 = tA h 175
noncomputable def R_qpart (h : zH) : Prop := tA h 93 = tA h 176
theorem f_addCall {G : zG} (hG : G.1 = zProg) {h : zH} {k : Int32} {a : Int32} {b : Int32} {p : Int32} (hs : tSh h) : tC zTt G 56 [.ref 89, .int k, .int a, .int b, .int p] h (phA 89 4 ((tvI (tF h 89 4)).toInt ≠ 20) [(90, k), (91, a), (92, b), (93, p)] h) := by
  refine tC_in (by rw [hG]; rfl) (fun dp => ?_)
  refine tw_aload rfl rfl ?_
  refine tw_getS rfl (hi_89_4 hs) ?_
  refine tw_push rfl ?_
  refine tw_ic_ne rfl (fun q272 => ?_) (fun q272 => ?_)
  · try dsimp only [tvI_i, tvJ_j, tvR_r] at q272
    have q272i := zneq (Y := 20) (by decide) q272
    refine tw_aload rfl rfl ?_
    refine tw_getS rfl (hs_89_0 hs) ?_
    refine tw_aload rfl rfl ?_
    refine tw_getS rfl (hi_89_4 hs) ?_
    refine tw_iload rfl rfl ?_
    refine tw_iast rfl (fun f273 => ?_)
    refine tw_aload rfl rfl ?_
    refine tw_getS rfl (hs_89_1 (tSh_SA hs)) ?_
    refine tw_aload rfl rfl ?_
    refine tw_getS rfl (tF_a (hi_89_4 hs)) ?_
    refine tw_iload rfl rfl ?_
    refine tw_iast rfl (fun f274 => ?_)
    refine tw_aload rfl rfl ?_
    refine tw_getS rfl (hs_89_2 (tSh_SA (tSh_SA hs))) ?_
    refine tw_aload rfl rfl ?_
    refine tw_getS rfl (tF_a (tF_a (hi_89_4 hs))) ?_
    refine tw_iload rfl rfl ?_
    refine tw_iast rfl (fun f275 => ?_)
    refine tw_aload rfl rfl ?_
    refine tw_getS rfl (hs_89_3 (tSh_SA (tSh_SA (tSh_SA hs)))) ?_
    refine tw_aload rfl rfl ?_
    refine tw_getS rfl (tF_a (tF_a (tF_a (hi_89_4 hs)))) ?_
    refine tw_iload rfl rfl ?_
    refine tw_iast rfl (fun f276 => ?_)
    refine tw_aload rfl rfl ?_
    refine tw_dup rfl ?_
    refine tw_getS rfl (tF_a (tF_a (tF_a (tF_a (hi_89_4 hs))))) ?_
    refine tw_dup_x1 rfl ?_
    refine tw_push rfl ?_
    refine tw_iadd rfl ?_
    refine tw_put rfl (fun f277 => ?_)
    exact tw_iret rfl (Or.inl ⟨by omega, congrArg some (hi_89_4 hs).symm, (tF_same f277), (fun q hq => by rcases List.mem_cons.mp hq with rfl | hq; (show tA _ 90 = _; exact (tA_ff (tA_n (by decide) (tA_n (by decide) (tA_n (by decide) (tA_st f273 rfl)))))); rcases List.mem_cons.mp hq with rfl | hq; (show tA _ 91 = _; exact (tA_ff (tA_n (by decide) (tA_n (by decide) (tA_st f274 (tA_n (by decide) rfl)))))); rcases List.mem_cons.mp hq with rfl | hq; (show tA _ 92 = _; exact (tA_ff (tA_n (by decide) (tA_st f275 (tA_n (by decide) (tA_n (by decide) rfl)))))); rcases List.mem_cons.mp hq with rfl | hq; (show tA _ 93 = _; exact (tA_ff (tA_st f276 (tA_n (by decide) (tA_n (by decide) (tA_n (by decide) rfl)))))); cases hq)⟩)
  · try dsimp only [tvI_i, tvJ_j, tvR_r] at q272
    have q272i := zeqi (Y := 20) (by decide) q272
    refine tw_push rfl ?_
    exact tw_iret rfl (Or.inr ⟨by omega, rfl, rfl, fun _ _ => rfl⟩)
theorem f_call {G : zG} (hG : G.1 = zProg) {h : zH} {k : Int32} {a : Int32} {b : Int32} {p : Int32} (hs : tSh h) : tC zTt G 146 [.ref 0, .int k, .int a, .int b, .int p] h (phA 89 4 (((0 ≤ k.toInt ∧ k.toInt < (tvI (tF h 1 6)).toInt) ∧ (0 ≤ a.toInt ∧ a.toInt ≤ 599) ∧ (a.toInt ≤ b.toInt ∧ b.toInt ≤ 599) ∧ (0 ≤ p.toInt ∧ p.toInt < (tvI (tF h 1 7)).toInt)) ∧ (tvI (tF h 89 4)).toInt ≠ 20) [(90, k), (91, a), (92, b), (93, p)] h) := by
  refine tC_in (by rw [hG]; rfl) (fun dp => ?_)
  refine tw_aload rfl rfl ?_
  refine tw_getS rfl (hs_0_0 hs) ?_
  refine tw_iload rfl rfl ?_
  refine tw_virt1 rfl (f_hasKind hG hs) (fun w9 h9 p278 => ?_)
  obtain ⟨⟨p278, rfl⟩ | ⟨p278, rfl⟩, rfl⟩ := p278
  · try dsimp only [tvI_i, tvJ_j, tvR_r] at p278
    refine tw_if_eq rfl (fun z => absurd z (by decide)) (fun _ => ?_)
    refine tw_iload rfl rfl ?_
    refine tw_stat1 rfl (f_isMonth hG) (fun w9 h9 p279 => ?_)
    obtain ⟨⟨p279, rfl⟩ | ⟨p279, rfl⟩, rfl⟩ := p279
    · try dsimp only [tvI_i, tvJ_j, tvR_r] at p279
      refine tw_if_eq rfl (fun z => absurd z (by decide)) (fun _ => ?_)
      refine tw_iload rfl rfl ?_
      refine tw_stat1 rfl (f_isMonth hG) (fun w9 h9 p280 => ?_)
      obtain ⟨⟨p280, rfl⟩ | ⟨p280, rfl⟩, rfl⟩ := p280
      · try dsimp only [tvI_i, tvJ_j, tvR_r] at p280
        refine tw_if_eq rfl (fun z => absurd z (by decide)) (fun _ => ?_)
        refine tw_iload rfl rfl ?_
        refine tw_iload rfl rfl ?_
        refine tw_ic_gt rfl (fun q281 => ?_) (fun q281 => ?_)
        · try dsimp only [tvI_i, tvJ_j, tvR_r] at q281
          refine tw_push rfl ?_
          refine tw_istore rfl ?_
          refine tw_iload rfl rfl ?_
          refine tw_if_eq rfl (fun _ => ?_) (fun z => absurd z (by decide))
          refine tw_push rfl ?_
          exact tw_iret rfl (Or.inr ⟨by omega, rfl, rfl, fun _ _ => rfl⟩)
        · try dsimp only [tvI_i, tvJ_j, tvR_r] at q281
          refine tw_aload rfl rfl ?_
          refine tw_getS rfl (hs_0_0 hs) ?_
          refine tw_iload rfl rfl ?_
          refine tw_virt1 rfl (f_hasPart hG hs) (fun w9 h9 p282 => ?_)
          obtain ⟨⟨p282, rfl⟩ | ⟨p282, rfl⟩, rfl⟩ := p282
          · try dsimp only [tvI_i, tvJ_j, tvR_r] at p282
            refine tw_if_eq rfl (fun z => absurd z (by decide)) (fun _ => ?_)
            refine tw_push rfl ?_
            refine tw_goto rfl ?_
            refine tw_istore rfl ?_
            refine tw_iload rfl rfl ?_
            refine tw_if_eq rfl (fun z => absurd z (by decide)) (fun _ => ?_)
            refine tw_aload rfl rfl ?_
            refine tw_getS rfl (hs_0_8 hs) ?_
            refine tw_iload rfl rfl ?_
            refine tw_iload rfl rfl ?_
            refine tw_iload rfl rfl ?_
            refine tw_iload rfl rfl ?_
            refine tw_virt4 rfl (f_addCall hG  hs) (fun w9 h9 p283 => ?_)
            rcases p283 with ⟨p283, rfl, p283e, p283g⟩ | ⟨p283, rfl, p283e, p283g⟩
            · refine tw_goto rfl ?_
              exact tw_iret rfl (Or.inl ⟨by omega, congrArg some (hi_89_4 hs).symm, p283e, p283g⟩)
            · refine tw_goto rfl ?_
              exact tw_iret rfl (Or.inr ⟨by omega, rfl, p283e, p283g⟩)
          · try dsimp only [tvI_i, tvJ_j, tvR_r] at p282
            refine tw_if_eq rfl (fun _ => ?_) (fun z => absurd z (by decide))
            refine tw_push rfl ?_
            refine tw_istore rfl ?_
            refine tw_iload rfl rfl ?_
            refine tw_if_eq rfl (fun _ => ?_) (fun z => absurd z (by decide))
            refine tw_push rfl ?_
            exact tw_iret rfl (Or.inr ⟨by omega, rfl, rfl, fun _ _ => rfl⟩)
      · try dsimp only [tvI_i, tvJ_j, tvR_r] at p280
        refine tw_if_eq rfl (fun _ => ?_) (fun z => absurd z (by decide))
        refine tw_push rfl ?_
        refine tw_istore rfl ?_
        refine tw_iload rfl rfl ?_
        refine tw_if_eq rfl (fun _ => ?_) (fun z => absurd z (by decide))
        refine tw_push rfl ?_
        exact tw_iret rfl (Or.inr ⟨by omega, rfl, rfl, fun _ _ => rfl⟩)
    · try dsimp only [tvI_i, tvJ_j, tvR_r] at p279
      refine tw_if_eq rfl (fun _ => ?_) (fun z => absurd z (by decide))
      refine tw_push rfl ?_
      refine tw_istore rfl ?_
      refine tw_iload rfl rfl ?_
      refine tw_if_eq rfl (fun _ => ?_) (fun z => absurd z (by decide))
      refine tw_push rfl ?_
      exact tw_iret rfl (Or.inr ⟨by omega, rfl, rfl, fun _ _ => rfl⟩)
  · try dsimp only [tvI_i, tvJ_j, tvR_r] at p278
    refine tw_if_eq rfl (fun _ => ?_) (fun z => absurd z (by decide))
    refine tw_push rfl ?_
    refine tw_istore rfl ?_
    refine tw_iload rfl rfl ?_
    refine tw_if_eq rfl (fun _ => ?_) (fun z => absurd z (by decide))
    refine tw_push rfl ?_
    exact tw_iret rfl (Or.inr ⟨by omega, rfl, rfl, fun _ _ => rfl⟩)
theorem g_call {G : zG} (hG : G.1 = zProg) {h : zH} {k : Int32} {a : Int32} {b : Int32} {p : Int32} (hs : tSh h) (hk3 : 0 ≤ (tvI (tF h 111 3)).toInt) (hk4 : 0 ≤ (tvI (tF h 111 4)).toInt) : tC zTt G 265 [.ref 111, .int k, .int a, .int b, .int p] h (phA 111 83 (((0 ≤ k.toInt ∧ k.toInt < (tvI (tF h 111 3)).toInt) ∧ (0 ≤ a.toInt ∧ a.toInt ≤ 599) ∧ (a.toInt ≤ b.toInt ∧ b.toInt ≤ 599) ∧ (0 ≤ p.toInt ∧ p.toInt < (tvI (tF h 111 4)).toInt)) ∧ (tvI (tF h 111 83)).toInt ≠ 20) [(173, k), (174, a), (175, b), (176, p)] h) := by
  refine tC_in (by rw [hG]; rfl) (fun dp => ?_)
  refine tw_aload rfl rfl ?_
  refine tw_getS rfl (hi_111_83 hs) ?_
  refine tw_push rfl ?_
  refine tw_ic_eq rfl (fun q284 => ?_) (fun q284 => ?_)
  · try dsimp only [tvI_i, tvJ_j, tvR_r] at q284
    have q284i := zeqi (Y := 20) (by decide) q284
    refine tw_push rfl ?_
    exact tw_iret rfl (Or.inr ⟨by omega, rfl, rfl, fun _ _ => rfl⟩)
  · try dsimp only [tvI_i, tvJ_j, tvR_r] at q284
    have q284i := zneq (Y := 20) (by decide) q284
    refine tw_aload rfl rfl ?_
    refine tw_iload rfl rfl ?_
    refine tw_virt1 rfl (g_isKind hG hs hk3) (fun w9 h9 p285 => ?_)
    obtain ⟨⟨p285, rfl⟩ | ⟨p285, rfl⟩, rfl⟩ := p285
    · try dsimp only [tvI_i, tvJ_j, tvR_r] at p285
      refine tw_if_eq rfl (fun z => absurd z (by decide)) (fun _ => ?_)
      refine tw_iload rfl rfl ?_
      refine tw_stat1 rfl (g_isMonth hG) (fun w9 h9 p286 => ?_)
      obtain ⟨⟨p286, rfl⟩ | ⟨p286, rfl⟩, rfl⟩ := p286
      · try dsimp only [tvI_i, tvJ_j, tvR_r] at p286
        refine tw_if_eq rfl (fun z => absurd z (by decide)) (fun _ => ?_)
        refine tw_iload rfl rfl ?_
        refine tw_i2l rfl ?_
        refine tw_iload rfl rfl ?_
        refine tw_i2l rfl ?_
        refine tw_push rfl ?_
        refine tw_stat3 rfl (f_in hG   (HI := 599) (Int32.toInt_toInt64 _) (Int32.toInt_toInt64 _) (by decide)) (fun w9 h9 p287 => ?_)
        obtain ⟨⟨p287, rfl⟩ | ⟨p287, rfl⟩, rfl⟩ := p287
        · try dsimp only [tvI_i, tvJ_j, tvR_r] at p287
          refine tw_if_eq rfl (fun z => absurd z (by decide)) (fun _ => ?_)
          refine tw_aload rfl rfl ?_
          refine tw_iload rfl rfl ?_
          refine tw_virt1 rfl (g_isPart hG hs hk4) (fun w9 h9 p288 => ?_)
          obtain ⟨⟨p288, rfl⟩ | ⟨p288, rfl⟩, rfl⟩ := p288
          · try dsimp only [tvI_i, tvJ_j, tvR_r] at p288
            refine tw_if_ne rfl (fun _ => ?_) (fun z => absurd z (by decide))
            refine tw_aload rfl rfl ?_
            refine tw_getS rfl (hs_111_84 hs) ?_
            refine tw_aload rfl rfl ?_
            refine tw_getS rfl (hi_111_83 hs) ?_
            refine tw_iload rfl rfl ?_
            refine tw_iast rfl (fun f289 => ?_)
            refine tw_aload rfl rfl ?_
            refine tw_getS rfl (hs_111_85 (tSh_SA hs)) ?_
            refine tw_aload rfl rfl ?_
            refine tw_getS rfl (tF_a (hi_111_83 hs)) ?_
            refine tw_iload rfl rfl ?_
            refine tw_iast rfl (fun f290 => ?_)
            refine tw_aload rfl rfl ?_
            refine tw_getS rfl (hs_111_86 (tSh_SA (tSh_SA hs))) ?_
            refine tw_aload rfl rfl ?_
            refine tw_getS rfl (tF_a (tF_a (hi_111_83 hs))) ?_
            refine tw_iload rfl rfl ?_
            refine tw_iast rfl (fun f291 => ?_)
            refine tw_aload rfl rfl ?_
            refine tw_getS rfl (hs_111_87 (tSh_SA (tSh_SA (tSh_SA hs)))) ?_
            refine tw_aload rfl rfl ?_
            refine tw_getS rfl (tF_a (tF_a (tF_a (hi_111_83 hs)))) ?_
            refine tw_iload rfl rfl ?_
            refine tw_iast rfl (fun f292 => ?_)
            refine tw_aload rfl rfl ?_
            refine tw_dup rfl ?_
            refine tw_getS rfl (tF_a (tF_a (tF_a (tF_a (hi_111_83 hs))))) ?_
            refine tw_push rfl ?_
            refine tw_iadd rfl ?_
            refine tw_put rfl (fun f293 => ?_)
            refine tw_aload rfl rfl ?_
            refine tw_getS rfl (tF_same f293) ?_
            refine tw_push rfl ?_
            refine tw_isub rfl ?_
            exact tw_iret rfl (Or.inl ⟨by omega, wret1 (hi_111_83 hs), (tF_same f293), (fun q hq => by rcases List.mem_cons.mp hq with rfl | hq; (show tA _ 173 = _; exact (tA_ff (tA_n (by decide) (tA_n (by decide) (tA_n (by decide) (tA_st f289 rfl)))))); rcases List.mem_cons.mp hq with rfl | hq; (show tA _ 174 = _; exact (tA_ff (tA_n (by decide) (tA_n (by decide) (tA_st f290 (tA_n (by decide) rfl)))))); rcases List.mem_cons.mp hq with rfl | hq; (show tA _ 175 = _; exact (tA_ff (tA_n (by decide) (tA_st f291 (tA_n (by decide) (tA_n (by decide) rfl)))))); rcases List.mem_cons.mp hq with rfl | hq; (show tA _ 176 = _; exact (tA_ff (tA_st f292 (tA_n (by decide) (tA_n (by decide) (tA_n (by decide) rfl)))))); cases hq)⟩)
          · try dsimp only [tvI_i, tvJ_j, tvR_r] at p288
            refine tw_if_ne rfl (fun z => absurd z (by decide)) (fun _ => ?_)
            refine tw_push rfl ?_
            exact tw_iret rfl (Or.inr ⟨by omega, rfl, rfl, fun _ _ => rfl⟩)
        · try dsimp only [tvI_i, tvJ_j, tvR_r] at p287
          refine tw_if_eq rfl (fun _ => ?_) (fun z => absurd z (by decide))
          refine tw_push rfl ?_
          exact tw_iret rfl (Or.inr ⟨by omega, rfl, rfl, fun _ _ => rfl⟩)
      · try dsimp only [tvI_i, tvJ_j, tvR_r] at p286
        refine tw_if_eq rfl (fun _ => ?_) (fun z => absurd z (by decide))
        refine tw_push rfl ?_
        exact tw_iret rfl (Or.inr ⟨by omega, rfl, rfl, fun _ _ => rfl⟩)
    · try dsimp only [tvI_i, tvJ_j, tvR_r] at p285
      refine tw_if_eq rfl (fun _ => ?_) (fun z => absurd z (by decide))
      refine tw_push rfl ?_
      exact tw_iret rfl (Or.inr ⟨by omega, rfl, rfl, fun _ _ => rfl⟩)
theorem a_call {k : Int32} {a : Int32} {b : Int32} {p : Int32} {h h2 h3 : zH} {w w2 : Option Value} (h_kinds : R_kinds h) (h_parts : R_parts h) (hR : R_calls h) (e1 : tF h2 111 83 = tF h 111 83) (e2 : tF h3 89 4 = tF h2 89 4) (o_kinds : tF h2 111 3 = tF h 111 3) (o_parts : tF h2 111 4 = tF h 111 4) (h_qkind : R_qkind h) (o_qkind : tA h2 173 = tA h 173) (t_qkind : tA h3 90 = tA h2 90) (h_qfrom : R_qfrom h) (o_qfrom : tA h2 174 = tA h 174) (t_qfrom : tA h3 91 = tA h2 91) (h_qto : R_qto h) (o_qto : tA h2 175 = tA h 175) (t_qto : tA h3 92 = tA h2 92) (h_qpart : R_qpart h) (o_qpart : tA h2 176 = tA h 176) (t_qpart : tA h3 93 = tA h2 93) (k1 : phA 89 4 (((0 ≤ k.toInt ∧ k.toInt < (tvI (tF h 1 6)).toInt) ∧ (0 ≤ a.toInt ∧ a.toInt ≤ 599) ∧ (a.toInt ≤ b.toInt ∧ b.toInt ≤ 599) ∧ (0 ≤ p.toInt ∧ p.toInt < (tvI (tF h 1 7)).toInt)) ∧ (tvI (tF h 89 4)).toInt ≠ 20) [(90, k), (91, a), (92, b), (93, p)] h w h2) (k2 : phA 111 83 (((0 ≤ k.toInt ∧ k.toInt < (tvI (tF h2 111 3)).toInt) ∧ (0 ≤ a.toInt ∧ a.toInt ≤ 599) ∧ (a.toInt ≤ b.toInt ∧ b.toInt ≤ 599) ∧ (0 ≤ p.toInt ∧ p.toInt < (tvI (tF h2 111 4)).toInt)) ∧ (tvI (tF h2 111 83)).toInt ≠ 20) [(173, k), (174, a), (175, b), (176, p)] h2 w2 h3) : w2 = w ∧ R_calls h3 ∧ R_qkind h3 ∧ R_qfrom h3 ∧ R_qto h3 ∧ R_qpart h3 := by
  have hC : (((0 ≤ k.toInt ∧ k.toInt < (tvI (tF h 1 6)).toInt) ∧ (0 ≤ a.toInt ∧ a.toInt ≤ 599) ∧ (a.toInt ≤ b.toInt ∧ b.toInt ≤ 599) ∧ (0 ≤ p.toInt ∧ p.toInt < (tvI (tF h 1 7)).toInt)) ∧ (tvI (tF h 89 4)).toInt ≠ 20) ↔ (((0 ≤ k.toInt ∧ k.toInt < (tvI (tF h2 111 3)).toInt) ∧ (0 ≤ a.toInt ∧ a.toInt ≤ 599) ∧ (a.toInt ≤ b.toInt ∧ b.toInt ≤ 599) ∧ (0 ≤ p.toInt ∧ p.toInt < (tvI (tF h2 111 4)).toInt)) ∧ (tvI (tF h2 111 83)).toInt ≠ 20) := by
    have hR2 := hR
    unfold R_calls at hR2
    unfold R_kinds at h_kinds
    rw [o_kinds, ← h_kinds]
    unfold R_parts at h_parts
    rw [o_parts, ← h_parts]
    rw [e1, ← hR2]
  obtain ⟨r1, r2, r3⟩ := phA_a hR e1 e2 hC k1 k2
  exact ⟨r1, r2, r3 90 173 k (by simp) (by simp) h_qkind o_qkind t_qkind, r3 91 174 a (by simp) (by simp) h_qfrom o_qfrom t_qfrom, r3 92 175 b (by simp) (by simp) h_qto o_qto t_qto, r3 93 176 p (by simp) (by simp) h_qpart o_qpart t_qpart⟩
theorem crc_call {C : Prop} {k a b p : Int32} {h h2 h3 : zH} {w2 : Option Value} (hn : 0 ≤ (tvI (tF h 111 83)).toInt ∧ (tvI (tF h 111 83)).toInt ≤ 20) (hR : R_crc h) (e1 : tF h2 111 83 = tF h 111 83) (u1 : tA h2 178 = tA h 178) (u2 : tA h2 121 = tA h 121) (u3 : tA h2 122 = tA h 122) (u4 : tA h2 173 = tA h 173) (u5 : tA h2 174 = tA h 174) (u6 : tA h2 175 = tA h 175) (t1 : tA h3 178 = tA h2 178) (t2 : tA h3 121 = tA h2 121) (t3 : tA h3 122 = tA h2 122) (k2 : phA 111 83 C [(173, k), (174, a), (175, b), (176, p)] h2 w2 h3) : R_crc h3 := by
  intro i c hi hc hne
  rw [t1, u1] at hne
  obtain ⟨a1, a2, a3, a4⟩ := hR i c hi hc hne
  rw [t2, t3, u2, u3]
  rcases k2 with ⟨-, -, f1, g⟩ | ⟨-, -, f1, g⟩
  · rw [g (173, k) (by simp), g (174, a) (by simp), g (175, b) (by simp), f1, e1, u4, u5, u6]
    have hS : (tvI (Value.int (tvI (tF h 111 83) + 1))).toInt = (tvI (tF h 111 83)).toInt + 1 := (zincN (n := (tvI (tF h 111 83)).toInt.toNat) (by omega) (by omega)).trans (by omega)
    rw [hS]
    have hc9 : ¬ c = (tvI (tF h 111 83)).toNatClampNeg := by rw [zclE]; omega
    dsimp only
    rw [if_neg hc9, if_neg hc9, if_neg hc9]
    exact ⟨by omega, a2, a3, a4⟩
  · rw [g (173, k) (by simp), g (174, a) (by simp), g (175, b) (by simp), f1, e1]
    dsimp only
    rw [u4, u5, u6]
    exact ⟨a1, a2, a3, a4⟩
noncomputable def R_cmz (h : zH) : Prop := ∀ i c : Nat, i < 300 → (tvI (tF h 111 83)).toInt ≤ (c : Int) → tA h 177 (300 * c + i) = 0
theorem cmp_call {C : Prop} {k a b p : Int32} {h h2 h3 : zH} {w2 : Option Value} (hn : 0 ≤ (tvI (tF h 111 83)).toInt ∧ (tvI (tF h 111 83)).toInt ≤ 20) (hR : R_cmp h) (hz : R_cmz h) (n3 : tF h3 36 4 = tF h 36 4) (l3 : tO h3 39 = tO h 39) (c3 : ∀ i r : Nat, (i : Int) < (tvI (tF h 36 4)).toInt → tO h 39 i = some r → tF h r 10 = .ref (r + 1) → tF h3 r 10 = tF h r 10 ∧ tA h3 (r + 1) = tA h (r + 1)) (n5 : (tvI (tF h 36 4)).toInt ≤ 300) (e1 : tF h2 111 83 = tF h 111 83) (u1 : tA h2 176 = tA h 176) (t1 : tA h3 177 = tA h 177) (k2 : phA 111 83 C [(173, k), (174, a), (175, b), (176, p)] h2 w2 h3) : R_cmp h3 ∧ R_cmz h3 := by
  rcases k2 with ⟨c0, -, f1, g⟩ | ⟨-, -, f1, g⟩
  · have hS : (tvI (tF h3 111 83)).toInt = (tvI (tF h 111 83)).toInt + 1 := by
      rw [f1, e1]
      exact (zincN (n := (tvI (tF h 111 83)).toInt.toNat) (by omega) (by omega)).trans (by omega)
    have g6 := g (176, p) (by simp)
    dsimp only at g6
    rw [e1, u1] at g6
    have key : ∀ i c : Nat, i < 300 → (tvI (tF h 111 83)).toInt ≤ (c : Int) → (c : Int) < (tvI (tF h3 111 83)).toInt → tA h 177 (300 * c + i) = 0 := fun i c hi h1 h2 => hz i c hi h1
    refine ⟨fun i r hi hr => ?_, fun i c hi hc => ?_⟩
    · rw [n3] at hi
      rw [l3] at hr
      obtain ⟨b1, b2⟩ := hR i r hi hr
      obtain ⟨c1, c2⟩ := c3 i r hi hr b1
      refine ⟨c1.trans b1, fun q hq m hm => ?_⟩
      rw [c2, b2 q hq m hm, t1, g6]
      constructor
      · rintro ⟨c, d1, d2, d3, d4⟩
        refine ⟨c, by omega, d2, d3, ?_⟩
        have hc9 : ¬ c = (tvI (tF h 111 83)).toNatClampNeg := by rw [zclE]; omega
        show (if c = (tvI (tF h 111 83)).toNatClampNeg then p else tA h 176 c).toNatClampNeg = q
        rw [if_neg hc9]
        exact d4
      · rintro ⟨c, d1, d2, d3, d4⟩
        by_cases z : (c : Int) < (tvI (tF h 111 83)).toInt
        · have hc9 : ¬ c = (tvI (tF h 111 83)).toNatClampNeg := by rw [zclE]; omega
          have d4 : (if c = (tvI (tF h 111 83)).toNatClampNeg then p else tA h 176 c).toNatClampNeg = q := d4
          rw [if_neg hc9] at d4
          exact ⟨c, z, d2, d3, d4⟩
        · rw [key i c (by omega) (by omega) d1] at d2
          exact absurd d2 (by decide)
    · rw [t1]
      rw [hS] at hc
      exact hz i c hi (by omega)
  · have g6 := g (176, p) (by simp)
    dsimp only at g6
    rw [u1] at g6
    rw [e1] at f1
    refine ⟨fun i r hi hr => ?_, fun i c hi hc => ?_⟩
    · rw [n3] at hi
      rw [l3] at hr
      obtain ⟨b1, b2⟩ := hR i r hi hr
      obtain ⟨c1, c2⟩ := c3 i r hi hr b1
      refine ⟨c1.trans b1, ?_⟩
      rw [c2, t1, g6, f1]
      exact b2
    · rw [t1]
      rw [f1] at hc
      exact hz i c hi hc
noncomputable def R_moved (h : zH) : Prop := ∀ i, i < 60 → tA h 38 i = tA h 119 i
theorem f_wasReached {G : zG} (hG : G.1 = zProg) {h : zH} {r : Nat} {c z : Int32} (h8 : tF h r 8 = .int z) : tC zTt G 2 [.ref r, .int c] h (fun w h2 => tBo ((z >>> (c &&& 31)) &&& 1 = 1) w ∧ h2 = h) := by
  refine tC_in (by rw [hG]; rfl) (fun dp => ?_)
  refine tw_aload rfl rfl ?_
  refine tw_getS rfl h8 ?_
  refine tw_iload rfl rfl ?_
  refine tw_ishr rfl ?_
  refine tw_push rfl ?_
  refine tw_iand rfl ?_
  refine tw_push rfl ?_
  refine tw_ic_ne rfl (fun q294 => ?_) (fun q294 => ?_)
  · try dsimp only [tvI_i, tvJ_j, tvR_r] at q294
    have q294i := zneq (Y := 1) (by decide) q294
    refine tw_push rfl ?_
    exact tw_iret rfl ⟨Or.inr ⟨q294, rfl⟩, rfl⟩
  · try dsimp only [tvI_i, tvJ_j, tvR_r] at q294
    have q294i := zeqi (Y := 1) (by decide) q294
    refine tw_push rfl ?_
    refine tw_goto rfl ?_
    exact tw_iret rfl ⟨Or.inl ⟨q294, rfl⟩, rfl⟩
theorem zand1 (y : Int32) : y &&& 1 = 0 ∨ y &&& 1 = 1 := by
  rw [← Int32.toBitVec_inj, ← Int32.toBitVec_inj]
  show y.toBitVec &&& 1#32 = 0#32 ∨ y.toBitVec &&& 1#32 = 1#32
  rw [BitVec.and_one_eq_setWidth_ofBool_getLsbD]
  cases y.toBitVec.getLsbD 0
  · exact Or.inl (by decide)
  · exact Or.inr (by decide)
theorem f_isLeftBy {G : zG} (hG : G.1 = zProg) {h : zH} {r : Nat} {c wr md : Int32} (h7 : tF h r 7 = .int wr) (h9 : tF h r 9 = .int md) : tC zTt G 3 [.ref r, .int c] h (fun w h2 => tBo (wr.toInt = 0 ∧ ¬ (md >>> (c &&& 31)) &&& 1 = 1) w ∧ h2 = h) := by
  refine tC_in (by rw [hG]; rfl) (fun dp => ?_)
  refine tw_aload rfl rfl ?_
  refine tw_getS rfl h7 ?_
  refine tw_if_ne rfl (fun q295 => ?_) (fun q295 => ?_)
  · try dsimp only [tvI_i, tvJ_j, tvR_r] at q295
    have q295i := zneq (Y := 0) (by decide) q295
    refine tw_push rfl ?_
    exact tw_iret rfl ⟨Or.inr ⟨fun z => q295i z.1, rfl⟩, rfl⟩
  · try dsimp only [tvI_i, tvJ_j, tvR_r] at q295
    have q295i := zeqi (Y := 0) (by decide) q295
    refine tw_aload rfl rfl ?_
    refine tw_getS rfl h9 ?_
    refine tw_iload rfl rfl ?_
    refine tw_ishr rfl ?_
    refine tw_push rfl ?_
    refine tw_iand rfl ?_
    refine tw_if_ne rfl (fun q296 => ?_) (fun q296 => ?_)
    · try dsimp only [tvI_i, tvJ_j, tvR_r] at q296
      have q296i := zneq (Y := 0) (by decide) q296
      refine tw_push rfl ?_
      exact tw_iret rfl ⟨Or.inr ⟨fun z => (zand1 _).elim q296 z.2, rfl⟩, rfl⟩
    · try dsimp only [tvI_i, tvJ_j, tvR_r] at q296
      have q296i := zeqi (Y := 0) (by decide) q296
      refine tw_push rfl ?_
      refine tw_goto rfl ?_
      exact tw_iret rfl ⟨Or.inl ⟨⟨q295i, (by rw [q296]; decide)⟩, rfl⟩, rfl⟩
theorem f_isCalled {G : zG} (hG : G.1 = zProg) {h : zH} {r : Nat} {c k m : Int32} (hs : tSh h) (h0 : tF h r 0 = .int k) (h1 : tF h r 1 = .int m) : tC zTt G 57 [.ref 89, .int c, .ref r] h (fun w h2 => tBo (k = tA h 90 c.toNatClampNeg ∧ (tA h 91 c.toNatClampNeg).toInt ≤ m.toInt ∧ m.toInt ≤ (tA h 92 c.toNatClampNeg).toInt) w ∧ h2 = h) := by
  refine tC_in (by rw [hG]; rfl) (fun dp => ?_)
  refine tw_aload rfl rfl ?_
  refine tw_getS rfl h0 ?_
  refine tw_aload rfl rfl ?_
  refine tw_getS rfl (hs_89_0 hs) ?_
  refine tw_iload rfl rfl ?_
  refine tw_iald rfl (fun f297 => ?_)
  refine tw_ic_ne rfl (fun q298 => ?_) (fun q298 => ?_)
  · try dsimp only [tvI_i, tvJ_j, tvR_r] at q298
    have q298i := zneq rfl q298
    refine tw_push rfl ?_
    exact tw_iret rfl ⟨Or.inr ⟨fun z => q298 z.1, rfl⟩, rfl⟩
  · try dsimp only [tvI_i, tvJ_j, tvR_r] at q298
    have q298i := zeqi rfl q298
    refine tw_aload rfl rfl ?_
    refine tw_getS rfl h1 ?_
    refine tw_aload rfl rfl ?_
    refine tw_getS rfl (hs_89_1 hs) ?_
    refine tw_iload rfl rfl ?_
    refine tw_iald rfl (fun f299 => ?_)
    refine tw_ic_lt rfl (fun q300 => ?_) (fun q300 => ?_)
    · try dsimp only [tvI_i, tvJ_j, tvR_r] at q300
      refine tw_push rfl ?_
      exact tw_iret rfl ⟨Or.inr ⟨fun z => absurd z.2.1 (by omega), rfl⟩, rfl⟩
    · try dsimp only [tvI_i, tvJ_j, tvR_r] at q300
      refine tw_aload rfl rfl ?_
      refine tw_getS rfl h1 ?_
      refine tw_aload rfl rfl ?_
      refine tw_getS rfl (hs_89_2 hs) ?_
      refine tw_iload rfl rfl ?_
      refine tw_iald rfl (fun f301 => ?_)
      refine tw_ic_gt rfl (fun q302 => ?_) (fun q302 => ?_)
      · try dsimp only [tvI_i, tvJ_j, tvR_r] at q302
        refine tw_push rfl ?_
        exact tw_iret rfl ⟨Or.inr ⟨fun z => absurd z.2.2 (by omega), rfl⟩, rfl⟩
      · try dsimp only [tvI_i, tvJ_j, tvR_r] at q302
        refine tw_push rfl ?_
        refine tw_goto rfl ?_
        exact tw_iret rfl ⟨Or.inl ⟨⟨q298, q300, q302⟩, rfl⟩, rfl⟩
theorem f_isLeft {G : zG} (hG : G.1 = zProg) {h : zH} {r : Nat} {c k m wr md : Int32} (hs : tSh h) (h0 : tF h r 0 = .int k) (h1 : tF h r 1 = .int m) (h7 : tF h r 7 = .int wr) (h9 : tF h r 9 = .int md) : tC zTt G 58 [.ref 89, .int c, .ref r] h (fun w h2 => tBo ((k = tA h 90 c.toNatClampNeg ∧ (tA h 91 c.toNatClampNeg).toInt ≤ m.toInt ∧ m.toInt ≤ (tA h 92 c.toNatClampNeg).toInt) ∧ (wr.toInt = 0 ∧ ¬ (md >>> (c &&& 31)) &&& 1 = 1)) w ∧ h2 = h) := by
  refine tC_in (by rw [hG]; rfl) (fun dp => ?_)
  refine tw_aload rfl rfl ?_
  refine tw_ifnull rfl (fun z => by cases z) (fun _ _ => ?_)
  refine tw_aload rfl rfl ?_
  refine tw_iload rfl rfl ?_
  refine tw_aload rfl rfl ?_
  refine tw_virt2 rfl (f_isCalled hG hs h0 h1) (fun w9 h9 p305 => ?_)
  obtain ⟨⟨p305, rfl⟩ | ⟨p305, rfl⟩, e9⟩ := p305
  · try dsimp only [tvI_i, tvJ_j, tvR_r] at p305
    obtain rfl := e9.symm
    refine tw_if_eq rfl (fun z => absurd z (by decide)) (fun _ => ?_)
    refine tw_aload rfl rfl ?_
    refine tw_iload rfl rfl ?_
    refine tw_virt1 rfl (f_isLeftBy hG h7 h9) (fun w9 h9 p306 => ?_)
    obtain ⟨⟨p306, rfl⟩ | ⟨p306, rfl⟩, e9⟩ := p306
    · try dsimp only [tvI_i, tvJ_j, tvR_r] at p306
      obtain rfl := e9.symm
      refine tw_if_eq rfl (fun z => absurd z (by decide)) (fun _ => ?_)
      refine tw_push rfl ?_
      refine tw_goto rfl ?_
      exact tw_iret rfl ⟨Or.inl ⟨⟨p305, p306⟩, rfl⟩, rfl⟩
    · try dsimp only [tvI_i, tvJ_j, tvR_r] at p306
      obtain rfl := e9.symm
      refine tw_if_eq rfl (fun _ => ?_) (fun z => absurd z (by decide))
      refine tw_push rfl ?_
      exact tw_iret rfl ⟨Or.inr ⟨fun z => p306 z.2, rfl⟩, rfl⟩
  · try dsimp only [tvI_i, tvJ_j, tvR_r] at p305
    obtain rfl := e9.symm
    refine tw_if_eq rfl (fun _ => ?_) (fun z => absurd z (by decide))
    refine tw_push rfl ?_
    exact tw_iret rfl ⟨Or.inr ⟨fun z => p305 z.1, rfl⟩, rfl⟩
theorem g_isCall {G : zG} (hG : G.1 = zProg) {h : zH} {n : Int32} (hs : tSh h) (hk : 0 ≤ (tvI (tF h 111 83)).toInt) : tC zTt G 266 [.ref 111, .int n] h (fun w h2 => tBo (0 ≤ n.toInt ∧ n.toInt < (tvI (tF h 111 83)).toInt) w ∧ h2 = h) := by
  refine tC_in (by rw [hG]; rfl) (fun dp => ?_)
  refine tw_iload rfl rfl ?_
  refine tw_i2l rfl ?_
  refine tw_push rfl ?_
  refine tw_aload rfl rfl ?_
  refine tw_getS rfl (hi_111_83 hs) ?_
  refine tw_push rfl ?_
  refine tw_isub rfl ?_
  refine tw_i2l rfl ?_
  refine tw_stat3 rfl (f_in hG  (LO := 0)  (Int32.toInt_toInt64 _) (by decide) (Int32.toInt_toInt64 _)) (fun w9 h9 p307 => ?_)
  obtain ⟨⟨p307, rfl⟩ | ⟨p307, rfl⟩, rfl⟩ := p307
  · try dsimp only [tvI_i, tvJ_j, tvR_r] at p307
    exact tw_iret rfl ⟨Or.inl ⟨by have e := zsub1 hk; have := p307; omega, rfl⟩, rfl⟩
  · try dsimp only [tvI_i, tvJ_j, tvR_r] at p307
    exact tw_iret rfl ⟨Or.inr ⟨by have e := zsub1 hk; have := p307; omega, rfl⟩, rfl⟩
theorem g_isOf {G : zG} (hG : G.1 = zProg) {h : zH} {c x : Int32} (hs : tSh h) : tC zTt G 267 [.ref 111, .int c, .int x] h (fun w h2 => tBo (tA h 121 x.toNatClampNeg = tA h 173 c.toNatClampNeg ∧ ((tA h 174 c.toNatClampNeg).toInt ≤ (tA h 122 x.toNatClampNeg).toInt ∧ (tA h 122 x.toNatClampNeg).toInt ≤ (tA h 175 c.toNatClampNeg).toInt)) w ∧ h2 = h) := by
  refine tC_in (by rw [hG]; rfl) (fun dp => ?_)
  refine tw_aload rfl rfl ?_
  refine tw_getS rfl (hs_111_16 hs) ?_
  refine tw_iload rfl rfl ?_
  refine tw_iald rfl (fun f308 => ?_)
  refine tw_aload rfl rfl ?_
  refine tw_getS rfl (hs_111_84 hs) ?_
  refine tw_iload rfl rfl ?_
  refine tw_iald rfl (fun f309 => ?_)
  refine tw_ic_ne rfl (fun q310 => ?_) (fun q310 => ?_)
  · try dsimp only [tvI_i, tvJ_j, tvR_r] at q310
    have q310i := zneq rfl q310
    refine tw_push rfl ?_
    exact tw_iret rfl ⟨Or.inr ⟨fun z => q310 z.1, rfl⟩, rfl⟩
  · try dsimp only [tvI_i, tvJ_j, tvR_r] at q310
    have q310i := zeqi rfl q310
    refine tw_aload rfl rfl ?_
    refine tw_getS rfl (hs_111_17 hs) ?_
    refine tw_iload rfl rfl ?_
    refine tw_iald rfl (fun f311 => ?_)
    refine tw_i2l rfl ?_
    refine tw_aload rfl rfl ?_
    refine tw_getS rfl (hs_111_85 hs) ?_
    refine tw_iload rfl rfl ?_
    refine tw_iald rfl (fun f312 => ?_)
    refine tw_i2l rfl ?_
    refine tw_aload rfl rfl ?_
    refine tw_getS rfl (hs_111_86 hs) ?_
    refine tw_iload rfl rfl ?_
    refine tw_iald rfl (fun f313 => ?_)
    refine tw_i2l rfl ?_
    refine tw_stat3 rfl (f_in hG    (Int32.toInt_toInt64 _) (Int32.toInt_toInt64 _) (Int32.toInt_toInt64 _)) (fun w9 h9 p314 => ?_)
    obtain ⟨⟨p314, rfl⟩ | ⟨p314, rfl⟩, e9⟩ := p314
    · try dsimp only [tvI_i, tvJ_j, tvR_r] at p314
      obtain rfl := e9.symm
      refine tw_if_eq rfl (fun z => absurd z (by decide)) (fun _ => ?_)
      refine tw_push rfl ?_
      refine tw_goto rfl ?_
      exact tw_iret rfl ⟨Or.inl ⟨⟨q310, p314⟩, rfl⟩, rfl⟩
    · try dsimp only [tvI_i, tvJ_j, tvR_r] at p314
      obtain rfl := e9.symm
      refine tw_if_eq rfl (fun _ => ?_) (fun z => absurd z (by decide))
      refine tw_push rfl ?_
      exact tw_iret rfl ⟨Or.inr ⟨fun z => p314 z.2, rfl⟩, rfl⟩
theorem g_isLeft {G : zG} (hG : G.1 = zProg) {h : zH} {c x : Int32} (hs : tSh h) (hc : 0 ≤ c.toInt ∧ c.toInt ≤ 20) (hx : 0 ≤ x.toInt ∧ x.toInt ≤ 300) : tC zTt G 268 [.ref 111, .int c, .int x] h (fun w h2 => tBo (lfM h c.toNatClampNeg x.toNatClampNeg = true) w ∧ h2 = h) := by
  refine tC_in (by rw [hG]; rfl) (fun dp => ?_)
  refine tw_aload rfl rfl ?_
  refine tw_iload rfl rfl ?_
  refine tw_iload rfl rfl ?_
  refine tw_virt2 rfl (g_isOf hG hs) (fun w9 h9 p315 => ?_)
  obtain ⟨⟨p315, rfl⟩ | ⟨p315, rfl⟩, e9⟩ := p315
  · try dsimp only [tvI_i, tvJ_j, tvR_r] at p315
    obtain rfl := e9.symm
    refine tw_if_eq rfl (fun z => absurd z (by decide)) (fun _ => ?_)
    refine tw_aload rfl rfl ?_
    refine tw_getS rfl (hs_111_88 hs) ?_
    refine tw_push rfl ?_
    refine tw_iload rfl rfl ?_
    refine tw_imul rfl ?_
    refine tw_iload rfl rfl ?_
    refine tw_iadd rfl ?_
    refine tw_iald rfl (fun f316 => ?_)
    refine tw_if_ne rfl (fun q317 => ?_) (fun q317 => ?_)
    · try dsimp only [tvI_i, tvJ_j, tvR_r] at q317
      have q317i := zneq (Y := 0) (by decide) q317
      refine tw_push rfl ?_
      exact tw_iret rfl ⟨Or.inr ⟨fun z => by unfold lfM lfB at z; have z := of_decide_eq_true z; exact q317 ((congrArg (tA _ 177) (zmul3 (k := c) (p := x) (by omega) (by omega))).trans z.2.2), rfl⟩, rfl⟩
    · try dsimp only [tvI_i, tvJ_j, tvR_r] at q317
      have q317i := zeqi (Y := 0) (by decide) q317
      refine tw_aload rfl rfl ?_
      refine tw_getS rfl (hs_111_15 hs) ?_
      refine tw_iload rfl rfl ?_
      refine tw_bald rfl (fun f318 => ?_)
      refine tw_if_ne rfl (fun q319 => ?_) (fun q319 => ?_)
      · try dsimp only [tvI_i, tvJ_j, tvR_r] at q319
        have q319i := zneq (Y := 0) (by decide) q319
        refine tw_push rfl ?_
        exact tw_iret rfl ⟨Or.inr ⟨fun z => by unfold lfM lfB at z; have z := of_decide_eq_true z; exact q319i z.2.1, rfl⟩, rfl⟩
      · try dsimp only [tvI_i, tvJ_j, tvR_r] at q319
        have q319i := zeqi (Y := 0) (by decide) q319
        refine tw_push rfl ?_
        refine tw_goto rfl ?_
        exact tw_iret rfl ⟨Or.inl ⟨by unfold lfM lfB; exact decide_eq_true ⟨p315, q319i, by rw [← (zmul3 (by omega) (by omega))]; exact q317⟩, rfl⟩, rfl⟩
  · try dsimp only [tvI_i, tvJ_j, tvR_r] at p315
    obtain rfl := e9.symm
    refine tw_if_eq rfl (fun _ => ?_) (fun z => absurd z (by decide))
    refine tw_push rfl ?_
    exact tw_iret rfl ⟨Or.inr ⟨fun z => by unfold lfM lfB at z; have z := of_decide_eq_true z; exact p315 z.1, rfl⟩, rfl⟩
theorem lfC_of {h : zH} {c k m wr md : Int32} {C i : Nat} (hc : c.toInt = C) (hC : C < 20) (h0 : k = tA h 121 i) (h1 : m = tA h 122 i) (h7 : wr = tA h 120 i) (h9 : ∀ c, c < 20 → (bI md c ↔ ¬ tA h 177 (300 * c + i) = 0)) : ((k = tA h 90 c.toNatClampNeg ∧ (tA h 91 c.toNatClampNeg).toInt ≤ m.toInt ∧ m.toInt ≤ (tA h 92 c.toNatClampNeg).toInt) ∧ (wr.toInt = 0 ∧ ¬ (md >>> (c &&& 31)) &&& 1 = 1)) ↔ lfC h C i = true := by
  have e9 : ((md >>> (c &&& 31)) &&& 1 = 1) ↔ ¬ tA h 177 (300 * C + i) = 0 := by
    rw [zof hc]; exact h9 C hC
  rw [zof_cl hc, e9, h0, h1, h7]
  unfold lfC lfB
  rw [decide_eq_true_iff, Classical.not_not]
theorem g_ownerIn5 {G : zG} (hG : G.1 = zProg) {h : zH} {c m k : Int32} (hs : tSh h) (h0 : 0 ≤ (tvI (tF h 111 6)).toInt) : tC zTt G 186 [.ref 111, .int c, .int m, .int k] h (fun w h2 => w = some (.int (sOw (tA h 128) (tA h 129) (tA h 130) (tA h 131) c m k (tA h 124 c.toNatClampNeg) (tvI (tF h 111 6)).toNatClampNeg)) ∧ h2 = h) := by
  refine tC_in (by rw [hG]; rfl) (fun dp => ?_)
  refine tw_aload rfl rfl ?_
  refine tw_getS rfl (hs_111_19 hs) ?_
  refine tw_iload rfl rfl ?_
  refine tw_iald rfl (fun f320 => ?_)
  refine tw_istore rfl ?_
  refine tw_push rfl ?_
  refine tw_istore rfl ?_
  refine tG_loop (zW_mono zTt G dp) (zW_conj zTt G dp) (V := fun pc L st h9 _ _ => pc = 11 ∧ st = [] ∧ h = h9 ∧ ∃ (n : Nat) (x y : Int32), x.toInt = n ∧ (n : Int) ≤ (tvI (tF h 111 6)).toInt ∧ y = sOw (tA h 128) (tA h 129) (tA h 130) (tA h 131) c m k (tA h 124 c.toNatClampNeg) n ∧ L = [some (.ref 111), some (.int c), some (.int m), some (.int k), some (.int y), some (.int x)]) ?_ (⟨rfl, rfl, rfl, 0, 0, _, rfl, h0, rfl, rfl⟩)
  rintro _ _ _ _ _ _ ⟨rfl, rfl, rfl, n, x, y, hx, hn, hy, rfl⟩
  refine tw_iload rfl rfl ?_
  refine tw_aload rfl rfl ?_
  refine tw_getS rfl (hi_111_6 hs) ?_
  refine tw_ic_ge rfl (fun q321 => ?_) (fun q321 => ?_)
  · try dsimp only [tvI_i, tvJ_j, tvR_r] at q321
    refine tw_iload rfl rfl ?_
    rw [show n = (tvI (tF h 111 6)).toNatClampNeg from by rw [zclE]; omega] at hy
    exact tw_iret rfl ⟨congrArg (fun z => some (Value.int z)) hy, rfl⟩
  · try dsimp only [tvI_i, tvJ_j, tvR_r] at q321
    refine tw_aload rfl rfl ?_
    refine tw_getS rfl (hs_111_23 hs) ?_
    refine tw_iload rfl rfl ?_
    refine tw_iald rfl (fun f322 => ?_)
    refine tw_iload rfl rfl ?_
    refine tw_ic_ne rfl (fun q323 => ?_) (fun q323 => ?_)
    · try dsimp only [tvI_i, tvJ_j, tvR_r] at q323
      have q323i := zneq rfl q323
      refine tw_iload rfl rfl ?_
      refine tw_istore rfl ?_
      refine tw_iinc rfl rfl ?_
      refine tw_goto rfl ?_
      exact tG_cut (zW_mono zTt G dp) (Or.inr ⟨rfl, rfl, rfl, n + 1, x + 1, _, zincL hx q321, by omega, sOw_n hx hy (fun z => q323 z.1), rfl⟩)
    · try dsimp only [tvI_i, tvJ_j, tvR_r] at q323
      have q323i := zeqi rfl q323
      refine tw_aload rfl rfl ?_
      refine tw_getS rfl (hs_111_26 hs) ?_
      refine tw_iload rfl rfl ?_
      refine tw_iald rfl (fun f324 => ?_)
      refine tw_iload rfl rfl ?_
      refine tw_ic_gt rfl (fun q325 => ?_) (fun q325 => ?_)
      · try dsimp only [tvI_i, tvJ_j, tvR_r] at q325
        refine tw_iload rfl rfl ?_
        refine tw_istore rfl ?_
        refine tw_iinc rfl rfl ?_
        refine tw_goto rfl ?_
        exact tG_cut (zW_mono zTt G dp) (Or.inr ⟨rfl, rfl, rfl, n + 1, x + 1, _, zincL hx q321, by omega, sOw_n hx hy (fun z => absurd z.2.1 (Int.not_le.mpr q325)), rfl⟩)
      · try dsimp only [tvI_i, tvJ_j, tvR_r] at q325
        refine tw_aload rfl rfl ?_
        refine tw_getS rfl (hs_111_25 hs) ?_
        refine tw_iload rfl rfl ?_
        refine tw_iald rfl (fun f326 => ?_)
        refine tw_iload rfl rfl ?_
        refine tw_ic_gt rfl (fun q327 => ?_) (fun q327 => ?_)
        · try dsimp only [tvI_i, tvJ_j, tvR_r] at q327
          refine tw_iload rfl rfl ?_
          refine tw_istore rfl ?_
          refine tw_iinc rfl rfl ?_
          refine tw_goto rfl ?_
          exact tG_cut (zW_mono zTt G dp) (Or.inr ⟨rfl, rfl, rfl, n + 1, x + 1, _, zincL hx q321, by omega, sOw_n hx hy (fun z => absurd z.2.2 (Int.not_le.mpr q327)), rfl⟩)
        · try dsimp only [tvI_i, tvJ_j, tvR_r] at q327
          refine tw_aload rfl rfl ?_
          refine tw_getS rfl (hs_111_24 hs) ?_
          refine tw_iload rfl rfl ?_
          refine tw_iald rfl (fun f328 => ?_)
          refine tw_goto rfl ?_
          refine tw_istore rfl ?_
          refine tw_iinc rfl rfl ?_
          refine tw_goto rfl ?_
          exact tG_cut (zW_mono zTt G dp) (Or.inr ⟨rfl, rfl, rfl, n + 1, x + 1, _, zincL hx q321, by omega, sOw_y (y := y) hx q323 q325 q327, rfl⟩)
theorem f_hasCall {G : zG} (hG : G.1 = zProg) {h : zH} {n : Int32} (hs : tSh h) : tC zTt G 55 [.ref 89, .int n] h (fun w h2 => tBo (0 ≤ n.toInt ∧ n.toInt < (tvI (tF h 89 4)).toInt) w ∧ h2 = h) := by
  refine tC_in (by rw [hG]; rfl) (fun dp => ?_)
  refine tw_iload rfl rfl ?_
  refine tw_if_lt rfl (fun q329 => ?_) (fun q329 => ?_)
  · try dsimp only [tvI_i, tvJ_j, tvR_r] at q329
    refine tw_push rfl ?_
    exact tw_iret rfl ⟨Or.inr ⟨by omega, rfl⟩, rfl⟩
  · try dsimp only [tvI_i, tvJ_j, tvR_r] at q329
    refine tw_iload rfl rfl ?_
    refine tw_aload rfl rfl ?_
    refine tw_getS rfl (hi_89_4 hs) ?_
    refine tw_ic_ge rfl (fun q330 => ?_) (fun q330 => ?_)
    · try dsimp only [tvI_i, tvJ_j, tvR_r] at q330
      refine tw_push rfl ?_
      exact tw_iret rfl ⟨Or.inr ⟨by omega, rfl⟩, rfl⟩
    · try dsimp only [tvI_i, tvJ_j, tvR_r] at q330
      refine tw_push rfl ?_
      refine tw_goto rfl ?_
      exact tw_iret rfl ⟨Or.inl ⟨by omega, rfl⟩, rfl⟩
/-- letters sent to the first k cars -/
noncomputable def lsF (h h1 : zH) (c : Int32) (k : Nat) : Prop := (∀ p b, ¬ (182 ≤ p ∧ b = 8) → tF h1 p b = tF h p b) ∧ tA h1 = tA h ∧ tO h1 = tO h ∧ ∀ i r : Nat, (i : Int) < (tvI (tF h 36 4)).toInt → tO h 39 i = some r → tF h1 r 8 = .int (if i < k ∧ ltC h c.toNatClampNeg i = true then tvI (tF h r 8) ||| ((1 : Int32) <<< (c &&& 31)) else tvI (tF h r 8))
section LS
variable {h h1 : zH} {c : Int32} {k : Nat}
theorem ls_sh (k1 : lsF h h1 c k) (hs : tSh h) : tSh h1 := by
  have a1 : tSr.all (fun q => Nat.blt q.1 182) = true := by decide +kernel
  have a2 : tSi.all (fun q => Nat.blt q.1 182) = true := by decide +kernel
  refine ⟨fun q hq => ?_, fun q hq => ?_⟩
  · have := Nat.le_of_ble_eq_true (List.all_eq_true.mp a1 q hq)
    rw [k1.1 _ _ (by omega)]; exact hs.1 q hq
  · have := Nat.le_of_ble_eq_true (List.all_eq_true.mp a2 q hq)
    rw [k1.1 _ _ (by omega)]; exact hs.2 q hq
theorem ls_n (k1 : lsF h h1 c k) : tF h1 36 4 = tF h 36 4 := k1.1 36 4 (by omega)
theorem ls_cl (k1 : lsF h h1 c k) (hL : R_cl h) : R_cl h1 := by unfold R_cl; rw [ls_n k1, k1.2.2.1]; exact hL
theorem ls_g (k1 : lsF h h1 c k) (hg : ∀ i r : Nat, (i : Int) < (tvI (tF h 36 4)).toInt → tO h 39 i = some r → 182 ≤ r) : ∀ i r : Nat, (i : Int) < (tvI (tF h1 36 4)).toInt → tO h1 39 i = some r → 182 ≤ r := by rw [ls_n k1, k1.2.2.1]; exact hg
theorem ls_R (k1 : lsF h h1 c k) {f P : Nat} (hf : f ≠ 8) (hR : ∀ i r : Nat, (i : Int) < (tvI (tF h 36 4)).toInt → tO h 39 i = some r → tF h r f = .int (tA h P i)) : ∀ i r : Nat, (i : Int) < (tvI (tF h1 36 4)).toInt → tO h1 39 i = some r → tF h1 r f = .int (tA h P i) := by
  intro i r hi hr
  rw [ls_n k1] at hi
  rw [k1.2.2.1] at hr
  rw [k1.1 r f (by omega)]
  exact hR i r hi hr
theorem ls_9 (k1 : lsF h h1 c k) (hR : R_cmb h) : ∀ i r : Nat, (i : Int) < (tvI (tF h1 36 4)).toInt → tO h1 39 i = some r → tF h1 r 9 = .int (tvI (tF h r 9)) ∧ ∀ c, c < 20 → (bI (tvI (tF h r 9)) c ↔ ¬ tA h 177 (300 * c + i) = 0) := by
  intro i r hi hr
  rw [ls_n k1] at hi
  rw [k1.2.2.1] at hr
  rw [k1.1 r 9 (by omega)]
  exact hR i r hi hr
theorem ls_8 (k1 : lsF h h1 c k) {i r : Nat} (hi : (i : Int) < (tvI (tF h1 36 4)).toInt) (hr : tO h1 39 i = some r) (hk : k ≤ i) : tF h1 r 8 = .int (tvI (tF h r 8)) := by
  rw [ls_n k1] at hi
  rw [k1.2.2.1] at hr
  rw [k1.2.2.2 i r hi hr, if_neg (fun z => by omega)]
theorem ls_st (k1 : lsF h h1 c k) (hL : R_cl h) {r : Nat} {X : Int32} (hi : (k : Int) < (tvI (tF h1 36 4)).toInt) (hr : tO h1 39 k = some r) (h182 : 182 ≤ r) (hf : tFd h1 r 8) (hP : ltC h c.toNatClampNeg k = true) (hX : X = tvI (tF h r 8) ||| ((1 : Int32) <<< (c &&& 31))) : lsF h (tSF h1 r 8 (.int X)) c (k + 1) := by
  rw [ls_n k1] at hi
  have hr2 := hr
  rw [k1.2.2.1] at hr2
  refine ⟨fun p b n => (tF_nz (fun z => n ⟨by omega, z.2⟩)).trans (k1.1 p b n), (tA_tSF _ _ _ _).trans k1.2.1, (tO_tSF _ _ _ _).trans k1.2.2.1, fun i s hi2 hs => ?_⟩
  by_cases e : i = k
  · subst e
    rw [hr2] at hs
    cases hs
    rw [tF_same hf, if_pos ⟨by omega, hP⟩, hX]
  · rw [tF_nz (fun z => e (hL.2 i k hi2 hi (by rw [hs, hr2, z.1]))), k1.2.2.2 i s hi2 hs]
    by_cases q : i < k ∧ ltC h c.toNatClampNeg i = true
    · rw [if_pos q, if_pos ⟨by omega, q.2⟩]
    · rw [if_neg q, if_neg (fun z => q ⟨by omega, z.2⟩)]
theorem ls_no (k1 : lsF h h1 c k) (hP : ¬ ltC h c.toNatClampNeg k = true) : lsF h h1 c (k + 1) := by
  refine ⟨k1.1, k1.2.1, k1.2.2.1, fun i s hi2 hs => ?_⟩
  rw [k1.2.2.2 i s hi2 hs]
  by_cases q : i < k ∧ ltC h c.toNatClampNeg i = true
  · rw [if_pos q, if_pos ⟨by omega, q.2⟩]
  · rw [if_neg q, if_neg]
    rintro ⟨z1, z2⟩
    by_cases e : i = k
    · subst e; exact hP z2
    · exact q ⟨by omega, z2⟩
end LS
theorem f_send {G : zG} (hG : G.1 = zProg) {h : zH} {c : Int32} (hs : tSh h) (hL : R_cl h) (hg : ∀ i r : Nat, (i : Int) < (tvI (tF h 36 4)).toInt → tO h 39 i = some r → 182 ≤ r) (hK : R_ckind h) (hM : R_cmade h) (hO : R_cown h) (hW : R_cwr h) (hB9 : R_cmb h) (hB8 : R_crb h) (hC : 0 ≤ c.toInt ∧ c.toInt < 20) (hn : 0 ≤ (tvI (tF h 36 4)).toInt) : tC zTt G 59 [.ref 89, .int c, .ref 36] h (fun w h2 => w = some (.int (sCn (ltC h c.toNatClampNeg) (tvI (tF h 36 4)).toNatClampNeg)) ∧ lsF h h2 c (tvI (tF h 36 4)).toNatClampNeg) := by
  refine tC_in (by rw [hG]; rfl) (fun dp => ?_)
  refine tw_push rfl ?_
  refine tw_istore rfl ?_
  refine tw_push rfl ?_
  refine tw_istore rfl ?_
  refine tG_loop (zW_mono zTt G dp) (zW_conj zTt G dp) (V := fun pc L st h9 _ _ => pc = 5 ∧ st = [] ∧ ∃ (h1 : zH) (k : Nat) (x y : Int32) (l5 : Option Value), h1 = h9 ∧ x.toInt = k ∧ (k : Int) ≤ (tvI (tF h 36 4)).toInt ∧ y = sCn (ltC h c.toNatClampNeg) k ∧ lsF h h1 c k ∧ L = [some (.ref 89), some (.int c), some (.ref 36), some (.int y), some (.int x), l5]) ?_ (⟨rfl, rfl, h, 0, 0, 0, _, rfl, rfl, hn, rfl, ⟨fun _ _ _ => rfl, rfl, rfl, fun i r hi hr => (hB8 i r hi hr).1.trans (by rw [if_neg (fun z => by omega)])⟩, rfl⟩)
  rintro _ _ _ _ _ _ ⟨rfl, rfl, h1, k, x, y, l5, rfl, hx, hk, hy, hLS, rfl⟩
  have hs1 := ls_sh hLS hs
  have hL1 := ls_cl hLS hL
  have hg1 := ls_g hLS hg
  have hK1 := ls_R hLS (f := 0) (P := 121) (by decide) hK
  have hM1 := ls_R hLS (f := 1) (P := 122) (by decide) hM
  have hO1 := ls_R hLS (f := 4) (P := 125) (by decide) hO
  have hW1 := ls_R hLS (f := 7) (P := 120) (by decide) hW
  have hB1 := ls_9 hLS hB9
  refine tw_iload rfl rfl ?_
  refine tw_aload rfl rfl ?_
  refine tw_getS rfl ((hLS.1 36 4 (by omega)).trans (hi_36_4 hs)) ?_
  refine tw_ic_ge rfl (fun q331 => ?_) (fun q331 => ?_)
  · try dsimp only [tvI_i, tvJ_j, tvR_r] at q331
    refine tw_iload rfl rfl ?_
    have hk9 : k = (tvI (tF h 36 4)).toNatClampNeg := by rw [zclE]; omega
    rw [hk9] at hy hLS
    exact tw_iret rfl ⟨congrArg (fun z => some (Value.int z)) hy, hLS⟩
  · try dsimp only [tvI_i, tvJ_j, tvR_r] at q331
    refine tw_aload rfl rfl ?_
    refine tw_iload rfl rfl ?_
    refine tw_virt1 rfl (f_carAtR hG hs1 hL1 hg1) (fun w9 h9 p332 => ?_)
    obtain ⟨⟨rp332, p332, p332r, p332g, rfl⟩ | ⟨p332, rfl⟩, e9⟩ := p332
    · obtain rfl := e9.symm
      refine tw_astore rfl ?_
      refine tw_aload rfl rfl ?_
      refine tw_iload rfl rfl ?_
      refine tw_aload rfl rfl ?_
      refine tw_virt2 rfl (f_isLeft hG hs1 (hK1 _ _ p332.2 p332r) (hM1 _ _ p332.2 p332r) (hW1 _ _ p332.2 p332r) (hB1 _ _ p332.2 p332r).1) (fun w9 h9 p333 => ?_)
      obtain ⟨⟨p333, rfl⟩ | ⟨p333, rfl⟩, e9⟩ := p333
      · try dsimp only [tvI_i, tvJ_j, tvR_r] at p333
        obtain rfl := e9.symm
        refine tw_if_eq rfl (fun z => absurd z (by decide)) (fun _ => ?_)
        refine tw_aload rfl rfl ?_
        refine tw_getS rfl (hs_36_1 hs1) ?_
        refine tw_aload rfl rfl ?_
        refine tw_getS rfl (hO1 _ _ p332.2 p332r) ?_
        refine tw_bald rfl (fun f334 => ?_)
        refine tw_if_ne rfl (fun q335 => ?_) (fun q335 => ?_)
        · try dsimp only [tvI_i, tvJ_j, tvR_r] at q335
          have q335i := zneq (Y := 0) (by decide) q335
          refine tw_iinc rfl rfl ?_
          refine tw_goto rfl ?_
          have eA := hLS.2.1
          have hB19 := (hB1 _ _ p332.2 p332r).2
          rw [zof_cl hx] at hB19
          have hpl := p333
          rw [eA] at hpl
          have hlf := lfC_of (h := h) (C := c.toNatClampNeg) (i := k) (c := c) (by rw [zclE]; omega) (by rw [zclE]; omega) (congrArg (tA h 121) (zof_cl hx)) (congrArg (tA h 122) (zof_cl hx)) (congrArg (tA h 120) (zof_cl hx)) hB19
          have hmv := q335
          rw [eA] at hmv
          rw [zof_cl hx] at hmv
          have hP : ¬ ltC h c.toNatClampNeg k = true := fun z => hmv (Int32.toInt_inj.mp (of_decide_eq_true (Bool.and_eq_true _ _ ▸ z).2))
          exact tG_cut (zW_mono zTt G dp) (Or.inr ⟨rfl, rfl, _, k + 1, x + 1, _, _, rfl, zincL hx q331, by omega, sCn_n hy hP, ls_no hLS hP, rfl⟩)
        · try dsimp only [tvI_i, tvJ_j, tvR_r] at q335
          have q335i := zeqi (Y := 0) (by decide) q335
          refine tw_aload rfl rfl ?_
          refine tw_dup rfl ?_
          refine tw_getS rfl (ls_8 hLS p332.2 p332r (by rw [zof_cl hx]; exact Nat.le_refl _)) ?_
          refine tw_push rfl ?_
          refine tw_iload rfl rfl ?_
          refine tw_ishl rfl ?_
          refine tw_ior rfl ?_
          refine tw_put rfl (fun f336 => ?_)
          refine tw_iinc rfl rfl ?_
          refine tw_iinc rfl rfl ?_
          refine tw_goto rfl ?_
          have eA := hLS.2.1
          have hB19 := (hB1 _ _ p332.2 p332r).2
          rw [zof_cl hx] at hB19
          have hpl := p333
          rw [eA] at hpl
          have hlf := lfC_of (h := h) (C := c.toNatClampNeg) (i := k) (c := c) (by rw [zclE]; omega) (by rw [zclE]; omega) (congrArg (tA h 121) (zof_cl hx)) (congrArg (tA h 122) (zof_cl hx)) (congrArg (tA h 120) (zof_cl hx)) hB19
          have hmv := q335
          rw [eA] at hmv
          rw [zof_cl hx] at hmv
          have hP : ltC h c.toNatClampNeg k = true := by rw [Bool.and_eq_true]; exact ⟨hlf.mp hpl, decide_eq_true (by rw [hmv]; rfl)⟩
          have hr9 := p332r
          rw [zof_cl hx] at hr9
          have hi9 := p332.2
          rw [zof_cl hx] at hi9
          exact tG_cut (zW_mono zTt G dp) (Or.inr ⟨rfl, rfl, _, k + 1, x + 1, _, _, rfl, zincL hx q331, by omega, sCn_y hy hP, ls_st hLS hL hi9 hr9 p332g f336 hP rfl, rfl⟩)
      · try dsimp only [tvI_i, tvJ_j, tvR_r] at p333
        obtain rfl := e9.symm
        refine tw_if_eq rfl (fun _ => ?_) (fun z => absurd z (by decide))
        refine tw_iinc rfl rfl ?_
        refine tw_goto rfl ?_
        have eA := hLS.2.1
        have hB19 := (hB1 _ _ p332.2 p332r).2
        rw [zof_cl hx] at hB19
        have hpl := p333
        rw [eA] at hpl
        have hlf := lfC_of (h := h) (C := c.toNatClampNeg) (i := k) (c := c) (by rw [zclE]; omega) (by rw [zclE]; omega) (congrArg (tA h 121) (zof_cl hx)) (congrArg (tA h 122) (zof_cl hx)) (congrArg (tA h 120) (zof_cl hx)) hB19
        have hP : ¬ ltC h c.toNatClampNeg k = true := fun z => hpl (hlf.mpr (Bool.and_eq_true _ _ ▸ z).1)
        exact tG_cut (zW_mono zTt G dp) (Or.inr ⟨rfl, rfl, _, k + 1, x + 1, _, _, rfl, zincL hx q331, by omega, sCn_n hy hP, ls_no hLS hP, rfl⟩)
    · obtain rfl := e9.symm
      exact absurd ⟨by omega, by rw [ls_n hLS]; omega⟩ p332
noncomputable def ph_lec (c : Int32) (h : zH) (w : Option Value) (h2 : zH) : Prop := ((0 ≤ c.toInt ∧ c.toInt < (tvI (tF h 89 4)).toInt) ∧ w = some (.int (sCn (ltC h c.toNatClampNeg) (tvI (tF h 36 4)).toNatClampNeg)) ∧ lsF h h2 c (tvI (tF h 36 4)).toNatClampNeg) ∨ (¬ (0 ≤ c.toInt ∧ c.toInt < (tvI (tF h 89 4)).toInt) ∧ w = some (.int (-1)) ∧ h2 = h)
theorem f_letters {G : zG} (hG : G.1 = zProg) {h : zH} {c : Int32} (hs : tSh h) (hL : R_cl h) (hg : ∀ i r : Nat, (i : Int) < (tvI (tF h 36 4)).toInt → tO h 39 i = some r → 182 ≤ r) (hK : R_ckind h) (hM : R_cmade h) (hO : R_cown h) (hW : R_cwr h) (hB9 : R_cmb h) (hB8 : R_crb h) (hk20 : (tvI (tF h 89 4)).toInt ≤ 20) (hn : 0 ≤ (tvI (tF h 36 4)).toInt) : tC zTt G 147 [.ref 0, .int c] h (ph_lec c h) := by
  refine tC_in (by rw [hG]; rfl) (fun dp => ?_)
  refine tw_aload rfl rfl ?_
  refine tw_getS rfl (hs_0_8 hs) ?_
  refine tw_iload rfl rfl ?_
  refine tw_virt1 rfl (f_hasCall hG hs) (fun w9 h9 p337 => ?_)
  obtain ⟨⟨p337, rfl⟩ | ⟨p337, rfl⟩, e9⟩ := p337
  · try dsimp only [tvI_i, tvJ_j, tvR_r] at p337
    obtain rfl := e9.symm
    refine tw_if_eq rfl (fun z => absurd z (by decide)) (fun _ => ?_)
    refine tw_aload rfl rfl ?_
    refine tw_getS rfl (hs_0_8 hs) ?_
    refine tw_iload rfl rfl ?_
    refine tw_aload rfl rfl ?_
    refine tw_getS rfl (hs_0_1 hs) ?_
    refine tw_virt2 rfl (f_send hG hs hL hg hK hM hO hW hB9 hB8 (by omega) hn) (fun wp338 hp338 p338 => ?_)
    obtain ⟨rfl, lp338⟩ := p338
    refine tw_goto rfl ?_
    exact tw_iret rfl (Or.inl ⟨by omega, rfl, lp338⟩)
  · try dsimp only [tvI_i, tvJ_j, tvR_r] at p337
    obtain rfl := e9.symm
    refine tw_if_eq rfl (fun _ => ?_) (fun z => absurd z (by decide))
    refine tw_push rfl ?_
    exact tw_iret rfl (Or.inr ⟨by omega, rfl, rfl⟩)
noncomputable def lmF (h h2 : zH) (c : Int32) (k : Nat) : Prop := gFr 178 h h2 ∧ (∀ i c2 : Nat, i < 300 → c2 < 20 → tA h2 178 (300 * c2 + i) = if c2 = c.toNatClampNeg ∧ i < k ∧ ltM h c.toNatClampNeg i = true then 1 else tA h 178 (300 * c2 + i))
theorem lm_st {h h1 : zH} {c x : Int32} {k kd : Nat} {z : Int32} (k1 : lmF h h1 c k) (hc : 0 ≤ c.toInt ∧ c.toInt < 20) (hx : x.toInt = k) (hk : k < 300) (hf : tIn h1 178 kd z) (hP : ltM h c.toNatClampNeg k = true) : lmF h (tSA h1 178 (300 * c + x).toNatClampNeg 1) c (k + 1) := by
  refine ⟨gFr_A k1.1, fun i c2 hi h2 => ?_⟩
  rw [zmul3 (k := c) (p := x) (by omega) (by omega), zof_cl hx, tA_tSA hf.cell]
  have hcN : c.toNatClampNeg < 20 := by rw [zclE]; omega
  show (if 178 = 178 ∧ 300 * c2 + i = 300 * c.toNatClampNeg + k then (1 : Int32) else tA h1 178 (300 * c2 + i)) = _
  by_cases e : c2 = c.toNatClampNeg ∧ i = k
  · rw [if_pos ⟨rfl, by omega⟩, if_pos ⟨e.1, by omega, by rw [e.2]; exact hP⟩]
  · rw [if_neg (fun z => e ⟨by omega, by omega⟩), k1.2 i c2 hi h2]
    by_cases q : c2 = c.toNatClampNeg ∧ i < k ∧ ltM h c.toNatClampNeg i = true
    · rw [if_pos q, if_pos ⟨q.1, by omega, q.2.2⟩]
    · rw [if_neg q, if_neg (fun z => q ⟨z.1, by have := z.2.1; have : i ≠ k := (fun w => e ⟨z.1, w⟩); omega, z.2.2⟩)]
theorem lm_no {h h1 : zH} {c : Int32} {k : Nat} (k1 : lmF h h1 c k) (hP : ¬ ltM h c.toNatClampNeg k = true) : lmF h h1 c (k + 1) := by
  refine ⟨k1.1, fun i c2 hi h2 => ?_⟩
  rw [k1.2 i c2 hi h2]
  by_cases q : c2 = c.toNatClampNeg ∧ i < k ∧ ltM h c.toNatClampNeg i = true
  · rw [if_pos q, if_pos ⟨q.1, by omega, q.2.2⟩]
  · rw [if_neg q, if_neg]
    rintro ⟨z1, z2, z3⟩
    by_cases e : i = k
    · subst e; exact hP z3
    · exact q ⟨z1, by omega, z3⟩
theorem lm_P {h h1 : zH} {c : Int32} {k : Nat} (k1 : gFr 178 h h1) {C i : Nat} : lfM h1 C i = lfM h C i := by
  unfold lfM
  rw [k1.2 173 (by decide), k1.2 174 (by decide), k1.2 175 (by decide), k1.2 121 (by decide), k1.2 122 (by decide), k1.2 120 (by decide), k1.2 177 (by decide)]
noncomputable def ph_lem (c : Int32) (h : zH) (w : Option Value) (h2 : zH) : Prop := ((0 ≤ c.toInt ∧ c.toInt < (tvI (tF h 111 83)).toInt) ∧ w = some (.int (sCn (ltM h c.toNatClampNeg) (tvI (tF h 111 5)).toNatClampNeg)) ∧ lmF h h2 c (tvI (tF h 111 5)).toNatClampNeg) ∨ (¬ (0 ≤ c.toInt ∧ c.toInt < (tvI (tF h 111 83)).toInt) ∧ w = some (.int (-1)) ∧ h2 = h)
theorem g_letters {G : zG} (hG : G.1 = zProg) {h : zH} {c : Int32} (hs : tSh h) (hn5 : 0 ≤ (tvI (tF h 111 5)).toInt ∧ (tvI (tF h 111 5)).toInt ≤ 300) (hk20 : (tvI (tF h 111 83)).toInt ≤ 20) (h06 : 0 ≤ (tvI (tF h 111 6)).toInt) (hk83 : 0 ≤ (tvI (tF h 111 83)).toInt) : tC zTt G 269 [.ref 111, .int c] h (ph_lem c h) := by
  refine tC_in (by rw [hG]; rfl) (fun dp => ?_)
  refine tw_aload rfl rfl ?_
  refine tw_iload rfl rfl ?_
  refine tw_virt1 rfl (g_isCall hG hs hk83) (fun w9 h9 p339 => ?_)
  obtain ⟨⟨p339, rfl⟩ | ⟨p339, rfl⟩, e9⟩ := p339
  · try dsimp only [tvI_i, tvJ_j, tvR_r] at p339
    obtain rfl := e9.symm
    refine tw_if_ne rfl (fun _ => ?_) (fun z => absurd z (by decide))
    refine tw_push rfl ?_
    refine tw_istore rfl ?_
    refine tw_push rfl ?_
    refine tw_istore rfl ?_
    refine tG_loop (zW_mono zTt G dp) (zW_conj zTt G dp) (V := fun pc L st h9 _ _ => pc = 14 ∧ st = [] ∧ ∃ (h1 : zH) (k : Nat) (x y : Int32), h1 = h9 ∧ x.toInt = k ∧ (k : Int) ≤ (tvI (tF h 111 5)).toInt ∧ y = sCn (ltM h c.toNatClampNeg) k ∧ lmF h h1 c k ∧ L = [some (.ref 111), some (.int c), some (.int y), some (.int x)]) ?_ (⟨rfl, rfl, h, 0, 0, 0, rfl, rfl, hn5.1, rfl, ⟨⟨rfl, fun _ _ => rfl⟩, fun i c2 _ _ => by rw [if_neg (fun z => by omega)]⟩, rfl⟩)
    rintro _ _ _ _ _ _ ⟨rfl, rfl, h1, k, x, y, rfl, hx, hk, hy, hLM, rfl⟩
    have hs1 := tSh_F hLM.1.1 hs
    refine tw_iload rfl rfl ?_
    refine tw_aload rfl rfl ?_
    refine tw_getS rfl ((congrFun (congrFun hLM.1.1 111) 5).trans (hi_111_5 hs)) ?_
    refine tw_ic_ge rfl (fun q340 => ?_) (fun q340 => ?_)
    · try dsimp only [tvI_i, tvJ_j, tvR_r] at q340
      refine tw_iload rfl rfl ?_
      have hk9 : k = (tvI (tF h 111 5)).toNatClampNeg := by rw [zclE]; omega
      rw [hk9] at hy hLM
      exact tw_iret rfl (Or.inl ⟨by omega, congrArg (fun z => some (Value.int z)) hy, hLM⟩)
    · try dsimp only [tvI_i, tvJ_j, tvR_r] at q340
      refine tw_aload rfl rfl ?_
      refine tw_iload rfl rfl ?_
      refine tw_iload rfl rfl ?_
      refine tw_virt2 rfl (g_isLeft hG hs1 (by omega) (by omega)) (fun w9 h9 p341 => ?_)
      obtain ⟨⟨p341, rfl⟩ | ⟨p341, rfl⟩, e9⟩ := p341
      · try dsimp only [tvI_i, tvJ_j, tvR_r] at p341
        obtain rfl := e9.symm
        refine tw_if_eq rfl (fun z => absurd z (by decide)) (fun _ => ?_)
        refine tw_aload rfl rfl ?_
        refine tw_getS rfl (hs_111_14 hs1) ?_
        refine tw_aload rfl rfl ?_
        refine tw_iload rfl rfl ?_
        refine tw_aload rfl rfl ?_
        refine tw_getS rfl ((congrFun (congrFun hLM.1.1 111) 1).trans (hi_111_1 hs)) ?_
        refine tw_aload rfl rfl ?_
        refine tw_getS rfl ((congrFun (congrFun hLM.1.1 111) 1).trans (hi_111_1 hs)) ?_
        refine tw_virt3 rfl (g_ownerIn5 hG hs1 (by rw [hLM.1.1]; exact h06)) (fun w9 h9 p342 => ?_)
        obtain ⟨rfl, e9⟩ := p342
        obtain rfl := e9.symm
        refine tw_bald rfl (fun f343 => ?_)
        refine tw_if_ne rfl (fun q344 => ?_) (fun q344 => ?_)
        · try dsimp only [tvI_i, tvJ_j, tvR_r] at q344
          have q344i := zneq (Y := 0) (by decide) q344
          refine tw_iinc rfl rfl ?_
          refine tw_goto rfl ?_
          have hpl := p341
          rw [lm_P (c := c) (k := k) hLM.1, zof_cl hx] at hpl
          have hmv := q344
          have E1 := hLM.1.1
          have E2 := hLM.1.2
          rw [E1, E2 119 (by decide), E2 128 (by decide), E2 129 (by decide), E2 130 (by decide), E2 131 (by decide), E2 124 (by decide)] at hmv
          have hmv2 : tA h 119 (sOw (tA h 128) (tA h 129) (tA h 130) (tA h 131) (Int32.ofNat k) (tvI (tF h 111 1)) (tvI (tF h 111 1)) (tA h 124 k) (tvI (tF h 111 6)).toNatClampNeg).toNatClampNeg ≠ 0 := by rw [← zof hx, ← zof_cl hx]; exact hmv
          have hP : ¬ ltM h c.toNatClampNeg k = true := fun z => hmv2 (Int32.toInt_inj.mp (of_decide_eq_true (Bool.and_eq_true _ _ ▸ z).2))
          exact tG_cut (zW_mono zTt G dp) (Or.inr ⟨rfl, rfl, _, k + 1, x + 1, _, rfl, zincL hx q340, by omega, sCn_n hy hP, lm_no hLM hP, rfl⟩)
        · try dsimp only [tvI_i, tvJ_j, tvR_r] at q344
          have q344i := zeqi (Y := 0) (by decide) q344
          refine tw_aload rfl rfl ?_
          refine tw_getS rfl (hs_111_89 hs1) ?_
          refine tw_push rfl ?_
          refine tw_iload rfl rfl ?_
          refine tw_imul rfl ?_
          refine tw_iload rfl rfl ?_
          refine tw_iadd rfl ?_
          refine tw_push rfl ?_
          refine tw_bastZ (by decide) rfl (fun kf345 f345 => ?_)
          refine tw_iinc rfl rfl ?_
          refine tw_iinc rfl rfl ?_
          refine tw_goto rfl ?_
          have hpl := p341
          rw [lm_P (c := c) (k := k) hLM.1, zof_cl hx] at hpl
          have hmv := q344
          have E1 := hLM.1.1
          have E2 := hLM.1.2
          rw [E1, E2 119 (by decide), E2 128 (by decide), E2 129 (by decide), E2 130 (by decide), E2 131 (by decide), E2 124 (by decide)] at hmv
          have hmv2 : tA h 119 (sOw (tA h 128) (tA h 129) (tA h 130) (tA h 131) (Int32.ofNat k) (tvI (tF h 111 1)) (tvI (tF h 111 1)) (tA h 124 k) (tvI (tF h 111 6)).toNatClampNeg).toNatClampNeg = 0 := by rw [← zof hx, ← zof_cl hx]; exact hmv
          have hP : ltM h c.toNatClampNeg k = true := by rw [Bool.and_eq_true]; exact ⟨hpl, decide_eq_true (by rw [hmv2]; rfl)⟩
          exact tG_cut (zW_mono zTt G dp) (Or.inr ⟨rfl, rfl, _, k + 1, x + 1, _, rfl, zincL hx q340, by omega, sCn_y hy hP, lm_st (c := c) hLM (by omega) hx (by omega) f345 hP, rfl⟩)
      · try dsimp only [tvI_i, tvJ_j, tvR_r] at p341
        obtain rfl := e9.symm
        refine tw_if_eq rfl (fun _ => ?_) (fun z => absurd z (by decide))
        refine tw_iinc rfl rfl ?_
        refine tw_goto rfl ?_
        have hpl := p341
        rw [lm_P (c := c) (k := k) hLM.1, zof_cl hx] at hpl
        have hP : ¬ ltM h c.toNatClampNeg k = true := fun z => hpl (Bool.and_eq_true _ _ ▸ z).1
        exact tG_cut (zW_mono zTt G dp) (Or.inr ⟨rfl, rfl, _, k + 1, x + 1, _, rfl, zincL hx q340, by omega, sCn_n hy hP, lm_no hLM hP, rfl⟩)
  · try dsimp only [tvI_i, tvJ_j, tvR_r] at p339
    obtain rfl := e9.symm
    refine tw_if_ne rfl (fun z => absurd z (by decide)) (fun _ => ?_)
    refine tw_push rfl ?_
    exact tw_iret rfl (Or.inr ⟨by omega, rfl, rfl⟩)
theorem a_letters {xs : Nat → Int32} {τ : List Nat} {c : Int32} {h h2 h3 : zH} {w w2 : Option Value} (hB : zBs xs τ h) (hQ : R_calls h) (hC : R_cars h) (hS : R_sales h) (h1 : R_qkind h) (h4 : R_qfrom h) (h5 : R_qto h) (hmv : R_moved h) (hlt : R_lowt h) (hlo : R_lowo h) (hb : R_crb h) (hb0 : R_cr0 h) (hrc : R_crc h)
  (e1 : tF h2 111 83 = tF h 111 83) (e2 : tF h2 111 5 = tF h 111 5) (e3 : tF h2 111 1 = tF h 111 1) (e4 : tF h2 111 6 = tF h 111 6) (o1 : tA h2 173 = tA h 173) (o2 : tA h2 174 = tA h 174) (o3 : tA h2 175 = tA h 175) (o4 : tA h2 121 = tA h 121) (o5 : tA h2 122 = tA h 122) (o6 : tA h2 120 = tA h 120) (o7 : tA h2 177 = tA h 177) (o8 : tA h2 178 = tA h 178) (o9 : tA h2 119 = tA h 119) (u1 : tA h2 124 = tA h 124) (u2 : tA h2 128 = tA h 128) (u3 : tA h2 129 = tA h 129) (u4 : tA h2 130 = tA h 130) (u5 : tA h2 131 = tA h 131)
  (t1 : tF h3 36 4 = tF h2 36 4) (t2 : tO h3 39 = tO h2 39) (t4 : tF h2 36 4 = tF h 36 4) (t5 : tO h2 39 = tO h 39) (t3 : ∀ i r f : Nat, (i : Int) < (tvI (tF h2 36 4)).toInt → tO h2 39 i = some r → tF h3 r f = tF h2 r f) (t6 : tF h3 111 83 = tF h2 111 83) (t7 : tA h3 121 = tA h2 121) (t8 : tA h3 122 = tA h2 122) (t9 : tA h3 173 = tA h2 173) (v1 : tA h3 174 = tA h2 174) (v2 : tA h3 175 = tA h2 175)
  (k1 : ph_lec c h w h2) (k2 : ph_lem c h2 w2 h3) : w2 = w ∧ R_crb h3 ∧ R_cr0 h3 ∧ R_crc h3 := by
  have hQ0 := hQ
  have hC0 := hC
  unfold R_calls at hQ0
  unfold R_cars at hC0
  have hn5 := kb_111_5 hB
  have hn83 := kb_111_83 hB
  have hP : ∀ C i : Nat, (i : Int) < (tvI (tF h 36 4)).toInt → ltM h2 C i = ltC h C i := by
    intro C i hi
    unfold R_qkind at h1
    unfold R_qfrom at h4
    unfold R_qto at h5
    have hi5 : (i : Int) < (tvI (tF h 111 5)).toInt := by rw [← hC0]; exact hi
    have hown : sOw (tA h2 128) (tA h2 129) (tA h2 130) (tA h2 131) (Int32.ofNat i) (tvI (tF h2 111 1)) (tvI (tF h2 111 1)) (tA h2 124 i) (tvI (tF h2 111 6)).toNatClampNeg = tA h 125 i := by
      rw [u1, u2, u3, u4, u5, e3, e4, hlo i hi5]
      have hii : (Int32.ofNat i).toInt = i := yofN (by omega)
      rw [sOw_low (by omega) (fun j hj => by
        rw [zclE] at hj
        have hj2 : (j : Int) < (tvI (tF h 111 6)).toInt := by omega
        have hb6 := kb_111_6 hB
        exact ⟨(hlt j hj2).1, (hlt j hj2).2, ((ka_128 hB).2 j (by omega)).1⟩), zclE, hii]
      rfl
    show (lfM h2 C i && _) = (lfC h C i && _)
    rw [hown, o9, ← hmv _ (by rw [zclE]; have := ((ka_125 hB).2 i (by omega)).2; omega)]
    unfold lfM lfC
    rw [o1, o2, o3, o4, o5, o6, o7, ← h1, ← h4, ← h5]
  unfold ph_lem at k2
  rw [e1, e2, ← hQ0, ← hC0] at k2
  rcases k1 with ⟨c1, rfl, f1⟩ | ⟨c1, rfl, rfl⟩ <;> rcases k2 with ⟨c2, rfl, f2⟩ | ⟨c2, rfl, rfl⟩
  · have hcN : c.toNatClampNeg < 20 := by rw [zclE]; rw [← hQ0] at hn83; omega
    have hA : ∀ i c2 : Nat, i < 300 → c2 < 20 → tA h3 178 (300 * c2 + i) = if c2 = c.toNatClampNeg ∧ i < (tvI (tF h 36 4)).toNatClampNeg ∧ ltC h c.toNatClampNeg i = true then 1 else tA h 178 (300 * c2 + i) := by
      intro i c2 hi h2
      rw [f2.2 i c2 hi h2, o8]
      by_cases q : i < (tvI (tF h 36 4)).toNatClampNeg
      · rw [hP _ i (by rw [zclE] at q; omega)]
      · rw [if_neg (fun z => q z.2.1), if_neg (fun z => q z.2.1)]
    refine ⟨?_, ?_, ?_, ?_⟩
    · rw [sCn_congr (fun i hi => (hP _ i (by rw [zclE] at hi; omega)).symm)]
    · intro i r hi hr
      rw [t1, t4] at hi
      rw [t2, t5] at hr
      have e8 := t3 i r 8 (by rw [t4]; exact hi) (by rw [t5]; exact hr)
      have g8 := f1.2.2.2 i r hi hr
      rw [e8, g8]
      refine ⟨rfl, fun c2 hc2 => ?_⟩
      have hib : (i : Int) < 300 := by rw [hC0] at hi; omega
      rw [hA i c2 (by omega) hc2]
      have hold := (hb i r hi hr).2 c2 hc2
      show bI (if i < (tvI (tF h 36 4)).toNatClampNeg ∧ ltC h c.toNatClampNeg i = true then tvI (tF h r 8) ||| ((1 : Int32) <<< (c &&& 31)) else tvI (tF h r 8)) c2 ↔ _
      by_cases q : i < (tvI (tF h 36 4)).toNatClampNeg ∧ ltC h c.toNatClampNeg i = true
      · rw [if_pos q]
        have ec : c = Int32.ofNat c.toNatClampNeg := zof (by rw [zclE]; omega)
        have hor := bI_or (x := tvI (tF h r 8)) (n := c2) (m := c.toNatClampNeg) (by omega) (by omega)
        rw [← ec] at hor
        rw [hor]
        by_cases q2 : c2 = c.toNatClampNeg
        · rw [if_pos ⟨q2, q⟩]
          exact ⟨fun _ => by decide, fun _ => Or.inr q2⟩
        · rw [if_neg (fun z => q2 z.1), ← hold]
          exact ⟨fun z => z.resolve_right q2, Or.inl⟩
      · rw [if_neg q, if_neg (fun z => q z.2)]
        exact hold
    · intro i c2 hi h6 h7
      rw [t1, t4] at hi
      rw [hA i c2 h6 h7, if_neg (fun z => by have := z.2.1; rw [zclE] at this; omega)]
      exact hb0 i c2 hi h6 h7
    · intro i c2 h6 h7 hne
      rw [hA i c2 h6 h7] at hne
      rw [t6, t7, t8, t9, v1, v2, e1, o1, o2, o3, o4, o5]
      by_cases q : c2 = c.toNatClampNeg ∧ i < (tvI (tF h 36 4)).toNatClampNeg ∧ ltC h c.toNatClampNeg i = true
      · have hl : lfC h c.toNatClampNeg i = true := (Bool.and_eq_true _ _ ▸ q.2.2 : _ ∧ _).1
        unfold lfC lfB at hl
        have hl := (of_decide_eq_true hl).1
        unfold R_qkind at h1
        unfold R_qfrom at h4
        unfold R_qto at h5
        rw [q.1, ← hQ0, ← h1, ← h4, ← h5]
        exact ⟨by rw [zclE]; omega, hl.1, hl.2.1, hl.2.2⟩
      · rw [if_neg q] at hne
        exact hrc i c2 h6 h7 hne
  · exact absurd c1 c2
  · exact absurd c2 c1
  · refine ⟨rfl, ?_, ?_, ?_⟩
    · exact hb
    · exact hb0
    · exact hrc
theorem f_takePart {G : zG} (hG : G.1 = zProg) {h : zH} {r q : Nat} {c p m md : Int32} (h9 : tF h r 9 = .int md) (h10 : tF h r 10 = .ref q) : tC zTt G 4 [.ref r, .int c, .int p, .int m] h (fun w h2 => w = none ∧ tF h2 r 9 = .int (md ||| ((1 : Int32) <<< (c &&& 31))) ∧ (∀ a b, ¬ (a = r ∧ b = 9) → tF h2 a b = tF h a b) ∧ tO h2 = tO h ∧ (∀ a, a ≠ q → tA h2 a = tA h a) ∧ tA h2 q = fun j => if j = p.toNatClampNeg then (if m < tA h q p.toNatClampNeg then m else tA h q p.toNatClampNeg) else tA h q j) := by
  refine tC_in (by rw [hG]; rfl) (fun dp => ?_)
  refine tw_aload rfl rfl ?_
  refine tw_dup rfl ?_
  refine tw_getS rfl h9 ?_
  refine tw_push rfl ?_
  refine tw_iload rfl rfl ?_
  refine tw_ishl rfl ?_
  refine tw_ior rfl ?_
  refine tw_put rfl (fun f346 => ?_)
  refine tw_aload rfl rfl ?_
  refine tw_getS rfl (tF_ne (by omega) h10) ?_
  refine tw_iload rfl rfl ?_
  refine tw_aload rfl rfl ?_
  refine tw_getS rfl (tF_ne (by omega) h10) ?_
  refine tw_iload rfl rfl ?_
  refine tw_iald rfl (fun f347 => ?_)
  refine tw_iload rfl rfl ?_
  refine tw_imin rfl ?_
  refine tw_iast rfl (fun f348 => ?_)
  exact tw_vret rfl ⟨rfl, tF_a (tF_same f346), fun a b n => tF_a (tF_ne n rfl), by rw [tO_tSA, tO_tSF], fun a n => (tA_nz n).trans (congrFun (tA_tSF _ _ _ _) a), (tA_st f348 rfl).trans (by rw [tA_tSF]; rfl)⟩
theorem tSh_r9 {h h2 : zH} {r : Nat} (hr : 182 ≤ r) (k : tSh h) (e : ∀ a b, ¬ (a = r ∧ b = 9) → tF h2 a b = tF h a b) : tSh h2 := by
  have a1 : tSr.all (fun q => Nat.blt q.1 182) = true := by decide +kernel
  have a2 : tSi.all (fun q => Nat.blt q.1 182) = true := by decide +kernel
  refine ⟨fun q hq => ?_, fun q hq => ?_⟩
  · have := Nat.le_of_ble_eq_true (List.all_eq_true.mp a1 q hq)
    rw [e _ _ (by omega)]; exact k.1 q hq
  · have := Nat.le_of_ble_eq_true (List.all_eq_true.mp a2 q hq)
    rw [e _ _ (by omega)]; exact k.2 q hq
noncomputable def ph_mec (c x : Int32) (h : zH) (w : Option Value) (h2 : zH) : Prop := (((0 ≤ c.toInt ∧ c.toInt < (tvI (tF h 89 4)).toInt) ∧ (0 ≤ x.toInt ∧ x.toInt < (tvI (tF h 36 4)).toInt) ∧ ¬ tA h 178 (300 * c.toNatClampNeg + x.toNatClampNeg) = 0 ∧ (tA h 120 x.toNatClampNeg).toInt = 0 ∧ tA h 177 (300 * c.toNatClampNeg + x.toNatClampNeg) = 0) ∧ w = some (.int 1) ∧ ∃ r, tO h 39 x.toNatClampNeg = some r ∧ 182 ≤ r ∧ tF h2 r 9 = .int (tvI (tF h r 9) ||| ((1 : Int32) <<< (c &&& 31))) ∧ (∀ a b, ¬ (a = r ∧ b = 9) → tF h2 a b = tF h a b) ∧ tO h2 = tO h ∧ (∀ a, a ≠ r + 1 → tA h2 a = tA h a) ∧ tA h2 (r + 1) = fun j => if j = (tA h 93 c.toNatClampNeg).toNatClampNeg then (if tvI (tF h 0 14) < tA h (r + 1) (tA h 93 c.toNatClampNeg).toNatClampNeg then tvI (tF h 0 14) else tA h (r + 1) (tA h 93 c.toNatClampNeg).toNatClampNeg) else tA h (r + 1) j) ∨ (¬ ((0 ≤ c.toInt ∧ c.toInt < (tvI (tF h 89 4)).toInt) ∧ (0 ≤ x.toInt ∧ x.toInt < (tvI (tF h 36 4)).toInt) ∧ ¬ tA h 178 (300 * c.toNatClampNeg + x.toNatClampNeg) = 0 ∧ (tA h 120 x.toNatClampNeg).toInt = 0 ∧ tA h 177 (300 * c.toNatClampNeg + x.toNatClampNeg) = 0) ∧ w = some (.int 0) ∧ h2 = h)
theorem f_mend {G : zG} (hG : G.1 = zProg) {h : zH} {c x : Int32} (hs : tSh h) (hL : R_cl h) (hg : ∀ i r : Nat, (i : Int) < (tvI (tF h 36 4)).toInt → tO h 39 i = some r → 182 ≤ r) (hK : R_ckind h) (hM : R_cmade h) (hW : R_cwr h) (hB8 : R_crb h) (hB9 : R_cmb h) (hPP : R_cpp h) (hk20 : (tvI (tF h 89 4)).toInt ≤ 20) : tC zTt G 149 [.ref 0, .int c, .int x] h (ph_mec c x h) := by
  refine tC_in (by rw [hG]; rfl) (fun dp => ?_)
  refine tw_aload rfl rfl ?_
  refine tw_getS rfl (hs_0_1 hs) ?_
  refine tw_iload rfl rfl ?_
  refine tw_virt1 rfl (f_carAtR hG hs hL hg) (fun w9 h9 p349 => ?_)
  obtain ⟨⟨rp349, p349, p349r, p349g, rfl⟩ | ⟨p349, rfl⟩, e9⟩ := p349
  · obtain rfl := e9.symm
    refine tw_astore rfl ?_
    refine tw_aload rfl rfl ?_
    refine tw_getS rfl (hs_0_8 hs) ?_
    refine tw_iload rfl rfl ?_
    refine tw_virt1 rfl (f_hasCall hG hs) (fun w9 h9 p350 => ?_)
    obtain ⟨⟨p350, rfl⟩ | ⟨p350, rfl⟩, e9⟩ := p350
    · try dsimp only [tvI_i, tvJ_j, tvR_r] at p350
      obtain rfl := e9.symm
      refine tw_if_eq rfl (fun z => absurd z (by decide)) (fun _ => ?_)
      refine tw_aload rfl rfl ?_
      refine tw_ifnull rfl (fun z => by cases z) (fun _ _ => ?_)
      refine tw_aload rfl rfl ?_
      refine tw_iload rfl rfl ?_
      refine tw_virt1 rfl (f_wasReached hG (hB8 _ _ p349.2 p349r).1) (fun w9 h9 p353 => ?_)
      obtain ⟨⟨p353, rfl⟩ | ⟨p353, rfl⟩, e9⟩ := p353
      · try dsimp only [tvI_i, tvJ_j, tvR_r] at p353
        obtain rfl := e9.symm
        refine tw_if_eq rfl (fun z => absurd z (by decide)) (fun _ => ?_)
        refine tw_aload rfl rfl ?_
        refine tw_iload rfl rfl ?_
        refine tw_virt1 rfl (f_isLeftBy hG (hW _ _ p349.2 p349r) (hB9 _ _ p349.2 p349r).1) (fun w9 h9 p354 => ?_)
        obtain ⟨⟨p354, rfl⟩ | ⟨p354, rfl⟩, e9⟩ := p354
        · try dsimp only [tvI_i, tvJ_j, tvR_r] at p354
          obtain rfl := e9.symm
          refine tw_if_ne rfl (fun _ => ?_) (fun z => absurd z (by decide))
          refine tw_aload rfl rfl ?_
          refine tw_iload rfl rfl ?_
          refine tw_aload rfl rfl ?_
          refine tw_getS rfl (hs_0_8 hs) ?_
          refine tw_getS rfl (hs_89_3 hs) ?_
          refine tw_iload rfl rfl ?_
          refine tw_iald rfl (fun f355 => ?_)
          refine tw_aload rfl rfl ?_
          refine tw_getS rfl (hi_0_14 hs) ?_
          refine tw_virt3 rfl (f_takePart hG (hB9 _ _ p349.2 p349r).1 (hPP _ _ p349.2 p349r)) (fun wp356 hp356 p356 => ?_)
          obtain ⟨rfl, p356a, p356b, p356c, p356d, p356e⟩ := p356
          refine tw_push rfl ?_
          have hb8 := (hB8 _ _ p349.2 p349r).2 c.toNatClampNeg (by rw [zclE]; omega)
          unfold bI at hb8
          rw [← zof (x := c) (n := c.toNatClampNeg) (by rw [zclE]; omega)] at hb8
          have hb9 := (hB9 _ _ p349.2 p349r).2 c.toNatClampNeg (by rw [zclE]; omega)
          unfold bI at hb9
          rw [← zof (x := c) (n := c.toNatClampNeg) (by rw [zclE]; omega)] at hb9
          exact tw_iret rfl (Or.inl ⟨⟨p350, p349.1, hb8.mp p353, p354.1, Classical.byContradiction (fun z => p354.2 (hb9.mpr z))⟩, rfl, rp349, p349r, p349g, p356a, p356b, p356c, p356d, p356e⟩)
        · try dsimp only [tvI_i, tvJ_j, tvR_r] at p354
          obtain rfl := e9.symm
          refine tw_if_ne rfl (fun z => absurd z (by decide)) (fun _ => ?_)
          refine tw_push rfl ?_
          have hb8 := (hB8 _ _ p349.2 p349r).2 c.toNatClampNeg (by rw [zclE]; omega)
          unfold bI at hb8
          rw [← zof (x := c) (n := c.toNatClampNeg) (by rw [zclE]; omega)] at hb8
          have hb9 := (hB9 _ _ p349.2 p349r).2 c.toNatClampNeg (by rw [zclE]; omega)
          unfold bI at hb9
          rw [← zof (x := c) (n := c.toNatClampNeg) (by rw [zclE]; omega)] at hb9
          exact tw_iret rfl (Or.inr ⟨fun z => p354 ⟨z.2.2.2.1, fun y => hb9.mp y z.2.2.2.2⟩, rfl, rfl⟩)
      · try dsimp only [tvI_i, tvJ_j, tvR_r] at p353
        obtain rfl := e9.symm
        refine tw_if_eq rfl (fun _ => ?_) (fun z => absurd z (by decide))
        refine tw_push rfl ?_
        have hb8 := (hB8 _ _ p349.2 p349r).2 c.toNatClampNeg (by rw [zclE]; omega)
        unfold bI at hb8
        rw [← zof (x := c) (n := c.toNatClampNeg) (by rw [zclE]; omega)] at hb8
        exact tw_iret rfl (Or.inr ⟨fun z => p353 (hb8.mpr z.2.2.1), rfl, rfl⟩)
    · try dsimp only [tvI_i, tvJ_j, tvR_r] at p350
      obtain rfl := e9.symm
      refine tw_if_eq rfl (fun _ => ?_) (fun z => absurd z (by decide))
      refine tw_push rfl ?_
      exact tw_iret rfl (Or.inr ⟨fun z => p350 z.1, rfl, rfl⟩)
  · obtain rfl := e9.symm
    refine tw_astoreN rfl ?_
    refine tw_aload rfl rfl ?_
    refine tw_getS rfl (hs_0_8 hs) ?_
    refine tw_iload rfl rfl ?_
    refine tw_virt1 rfl (f_hasCall hG hs) (fun w9 h9 p357 => ?_)
    obtain ⟨⟨p357, rfl⟩ | ⟨p357, rfl⟩, e9⟩ := p357
    · try dsimp only [tvI_i, tvJ_j, tvR_r] at p357
      obtain rfl := e9.symm
      refine tw_if_eq rfl (fun z => absurd z (by decide)) (fun _ => ?_)
      refine tw_aload rfl rfl ?_
      refine tw_ifnull rfl (fun _ => ?_) (fun _ z => by cases z)
      refine tw_push rfl ?_
      exact tw_iret rfl (Or.inr ⟨fun z => p349 z.2.1, rfl, rfl⟩)
    · try dsimp only [tvI_i, tvJ_j, tvR_r] at p357
      obtain rfl := e9.symm
      refine tw_if_eq rfl (fun _ => ?_) (fun z => absurd z (by decide))
      refine tw_push rfl ?_
      exact tw_iret rfl (Or.inr ⟨fun z => p357 z.1, rfl, rfl⟩)
noncomputable def ph_mem (c x : Int32) (h : zH) (w : Option Value) (h2 : zH) : Prop := (((0 ≤ c.toInt ∧ c.toInt < (tvI (tF h 111 83)).toInt) ∧ (0 ≤ x.toInt ∧ x.toInt < (tvI (tF h 111 5)).toInt) ∧ lfM h c.toNatClampNeg x.toNatClampNeg = true ∧ ¬ tA h 178 (300 * c.toNatClampNeg + x.toNatClampNeg) = 0) ∧ w = some (.int 1) ∧ tA h2 177 = fun j => if j = (300 * c.toNatClampNeg + x.toNatClampNeg) then tvI (tF h 111 1) + 1 else tA h 177 j) ∨ (¬ ((0 ≤ c.toInt ∧ c.toInt < (tvI (tF h 111 83)).toInt) ∧ (0 ≤ x.toInt ∧ x.toInt < (tvI (tF h 111 5)).toInt) ∧ lfM h c.toNatClampNeg x.toNatClampNeg = true ∧ ¬ tA h 178 (300 * c.toNatClampNeg + x.toNatClampNeg) = 0) ∧ w = some (.int 0) ∧ h2 = h)
theorem g_mend {G : zG} (hG : G.1 = zProg) {h : zH} {c x : Int32} (hs : tSh h) (hn5 : (tvI (tF h 111 5)).toInt ≤ 300) (hk20 : (tvI (tF h 111 83)).toInt ≤ 20) (hk83 : 0 ≤ (tvI (tF h 111 83)).toInt) (hk5 : 0 ≤ (tvI (tF h 111 5)).toInt) : tC zTt G 271 [.ref 111, .int c, .int x] h (ph_mem c x h) := by
  refine tC_in (by rw [hG]; rfl) (fun dp => ?_)
  refine tw_aload rfl rfl ?_
  refine tw_iload rfl rfl ?_
  refine tw_virt1 rfl (g_isCall hG hs hk83) (fun w9 h9 p360 => ?_)
  obtain ⟨⟨p360, rfl⟩ | ⟨p360, rfl⟩, e9⟩ := p360
  · try dsimp only [tvI_i, tvJ_j, tvR_r] at p360
    obtain rfl := e9.symm
    refine tw_if_eq rfl (fun z => absurd z (by decide)) (fun _ => ?_)
    refine tw_aload rfl rfl ?_
    refine tw_iload rfl rfl ?_
    refine tw_virt1 rfl (g_isCar hG hs hk5) (fun w9 h9 p361 => ?_)
    obtain ⟨⟨p361, rfl⟩ | ⟨p361, rfl⟩, e9⟩ := p361
    · try dsimp only [tvI_i, tvJ_j, tvR_r] at p361
      obtain rfl := e9.symm
      refine tw_if_eq rfl (fun z => absurd z (by decide)) (fun _ => ?_)
      refine tw_aload rfl rfl ?_
      refine tw_iload rfl rfl ?_
      refine tw_iload rfl rfl ?_
      refine tw_virt2 rfl (g_isLeft hG hs (by omega) (by omega)) (fun w9 h9 p362 => ?_)
      obtain ⟨⟨p362, rfl⟩ | ⟨p362, rfl⟩, e9⟩ := p362
      · try dsimp only [tvI_i, tvJ_j, tvR_r] at p362
        obtain rfl := e9.symm
        refine tw_if_eq rfl (fun z => absurd z (by decide)) (fun _ => ?_)
        refine tw_aload rfl rfl ?_
        refine tw_getS rfl (hs_111_89 hs) ?_
        refine tw_push rfl ?_
        refine tw_iload rfl rfl ?_
        refine tw_imul rfl ?_
        refine tw_iload rfl rfl ?_
        refine tw_iadd rfl ?_
        refine tw_bald rfl (fun f363 => ?_)
        refine tw_if_ne rfl (fun q364 => ?_) (fun q364 => ?_)
        · try dsimp only [tvI_i, tvJ_j, tvR_r] at q364
          have q364i := zneq (Y := 0) (by decide) q364
          refine tw_aload rfl rfl ?_
          refine tw_getS rfl (hs_111_88 hs) ?_
          refine tw_push rfl ?_
          refine tw_iload rfl rfl ?_
          refine tw_imul rfl ?_
          refine tw_iload rfl rfl ?_
          refine tw_iadd rfl ?_
          refine tw_aload rfl rfl ?_
          refine tw_getS rfl (hi_111_1 hs) ?_
          refine tw_push rfl ?_
          refine tw_iadd rfl ?_
          refine tw_iast rfl (fun f365 => ?_)
          refine tw_push rfl ?_
          exact tw_iret rfl (Or.inl ⟨⟨p360, p361, p362, fun z => q364 ((congrArg (tA _ 178) (zmul3 (k := c) (p := x) (by omega) (by omega))).trans z)⟩, rfl, (tA_st f365 rfl).trans (by rw [show (tvI (Value.int (tvI (Value.int (tvI (Value.int 300) * tvI (Value.int c))) + tvI (Value.int x)))).toNatClampNeg = (300 * c.toNatClampNeg + x.toNatClampNeg) from (zmul3 (k := c) (p := x) (by omega) (by omega))]; rfl)⟩)
        · try dsimp only [tvI_i, tvJ_j, tvR_r] at q364
          have q364i := zeqi (Y := 0) (by decide) q364
          refine tw_push rfl ?_
          exact tw_iret rfl (Or.inr ⟨fun z => z.2.2.2 ((congrArg (tA _ 178) (zmul3 (k := c) (p := x) (by omega) (by omega))).symm.trans q364), rfl, rfl⟩)
      · try dsimp only [tvI_i, tvJ_j, tvR_r] at p362
        obtain rfl := e9.symm
        refine tw_if_eq rfl (fun _ => ?_) (fun z => absurd z (by decide))
        refine tw_push rfl ?_
        exact tw_iret rfl (Or.inr ⟨fun z => p362 z.2.2.1, rfl, rfl⟩)
    · try dsimp only [tvI_i, tvJ_j, tvR_r] at p361
      obtain rfl := e9.symm
      refine tw_if_eq rfl (fun _ => ?_) (fun z => absurd z (by decide))
      refine tw_push rfl ?_
      exact tw_iret rfl (Or.inr ⟨fun z => p361 z.2.1, rfl, rfl⟩)
  · try dsimp only [tvI_i, tvJ_j, tvR_r] at p360
    obtain rfl := e9.symm
    refine tw_if_eq rfl (fun _ => ?_) (fun z => absurd z (by decide))
    refine tw_push rfl ?_
    exact tw_iret rfl (Or.inr ⟨fun z => p360 z.1, rfl, rfl⟩)
theorem mend_c {h : zH} {c x : Int32} (hQ : R_calls h) (hC : R_cars h) (h1 : R_qkind h) (h4 : R_qfrom h) (h5 : R_qto h) (hrc : R_crc h) (hn5 : (tvI (tF h 111 5)).toInt ≤ 300) (hk20 : (tvI (tF h 111 83)).toInt ≤ 20) : ((0 ≤ c.toInt ∧ c.toInt < (tvI (tF h 89 4)).toInt) ∧ (0 ≤ x.toInt ∧ x.toInt < (tvI (tF h 36 4)).toInt) ∧ ¬ tA h 178 (300 * c.toNatClampNeg + x.toNatClampNeg) = 0 ∧ (tA h 120 x.toNatClampNeg).toInt = 0 ∧ tA h 177 (300 * c.toNatClampNeg + x.toNatClampNeg) = 0) ↔ ((0 ≤ c.toInt ∧ c.toInt < (tvI (tF h 111 83)).toInt) ∧ (0 ≤ x.toInt ∧ x.toInt < (tvI (tF h 111 5)).toInt) ∧ lfM h c.toNatClampNeg x.toNatClampNeg = true ∧ ¬ tA h 178 (300 * c.toNatClampNeg + x.toNatClampNeg) = 0) := by
  unfold R_calls at hQ
  unfold R_cars at hC
  unfold R_qkind at h1
  unfold R_qfrom at h4
  unfold R_qto at h5
  rw [hQ, hC]
  unfold lfM lfB
  rw [decide_eq_true_iff]
  constructor
  · rintro ⟨a1, a2, a3, a4, a5⟩
    have := hrc x.toNatClampNeg c.toNatClampNeg (by rw [zclE]; omega) (by rw [zclE]; omega) a3
    exact ⟨a1, a2, ⟨this.2, a4, a5⟩, a3⟩
  · rintro ⟨a1, a2, a3, a4⟩
    exact ⟨a1, a2, a4, a3.2.1, a3.2.2⟩
theorem a_mend {xs : Nat → Int32} {τ : List Nat} {c x : Int32} {h h2 h3 : zH} {w w2 : Option Value} (hB : zBs xs τ h) (hQ : R_calls h) (hC : R_cars h) (hL : R_cl h) (h1 : R_qkind h) (h4 : R_qfrom h) (h5 : R_qto h) (hrc : R_crc h) (hb : R_cmb h) (hb0 : R_cm0 h)
  (e1 : tF h2 111 83 = tF h 111 83) (e2 : tF h2 111 5 = tF h 111 5) (e3 : tF h2 111 1 = tF h 111 1) (o1 : tA h2 173 = tA h 173) (o2 : tA h2 174 = tA h 174) (o3 : tA h2 175 = tA h 175) (o4 : tA h2 121 = tA h 121) (o5 : tA h2 122 = tA h 122) (o6 : tA h2 120 = tA h 120) (o7 : tA h2 177 = tA h 177) (o8 : tA h2 178 = tA h 178)
  (t1 : tF h3 36 4 = tF h2 36 4) (t2 : tO h3 39 = tO h2 39) (t4 : tF h2 36 4 = tF h 36 4) (t5 : tO h2 39 = tO h 39) (t3 : ∀ i r f : Nat, (i : Int) < (tvI (tF h2 36 4)).toInt → tO h2 39 i = some r → tF h3 r f = tF h2 r f) (k1 : ph_mec c x h w h2) (k2 : ph_mem c x h2 w2 h3) : w2 = w ∧ R_cmb h3 ∧ R_cm0 h3 := by
  have hn5 := kb_111_5 hB
  have hn83 := kb_111_83 hB
  have hn1 := kb_111_1 hB
  have hc9 := mend_c (c := c) (x := x) hQ hC h1 h4 h5 hrc hn5.2 hn83.2
  unfold ph_mem at k2
  unfold lfM at k2 hc9
  rw [e1, e2, e3, o1, o2, o3, o4, o5, o6, o7, o8] at k2
  have hC0 := hC
  unfold R_cars at hC0
  rcases k1 with ⟨c1, rfl, r0, g1, g2, g3, g4, -⟩ | ⟨c1, rfl, rfl⟩ <;> rcases k2 with ⟨c2, rfl, f2⟩ | ⟨c2, rfl, rfl⟩
  · have hcN : c.toNatClampNeg < 20 := by rw [zclE]; omega
    have hxN : x.toNatClampNeg < 300 := by rw [zclE]; omega
    have hnow : ¬ tvI (tF h 111 1) + 1 = 0 := by
      intro z
      have := zincN (x := tvI (tF h 111 1)) (n := (tvI (tF h 111 1)).toInt.toNat) (by omega) (by omega)
      rw [z] at this
      have z0 : (0 : Int32).toInt = 0 := rfl
      omega
    have hx2 : ((x.toNatClampNeg : Nat) : Int) < (tvI (tF h 36 4)).toInt := by rw [zclE]; omega
    refine ⟨rfl, fun i r hi hr => ?_, fun i c2 hi h6 h7 => ?_⟩
    · rw [t1, t4] at hi
      rw [t2, t5] at hr
      have e9 := t3 i r 9 (by rw [t4]; exact hi) (by rw [t5]; exact hr)
      obtain ⟨b1, b2⟩ := hb i r hi hr
      have hib : i < 300 := by rw [hC0] at hi; omega
      rw [e9, f2]
      by_cases q : r = r0
      · subst q
        have hix : i = x.toNatClampNeg := hL.2 i _ hi hx2 (by rw [hr, g1])
        subst hix
        rw [g3]
        refine ⟨rfl, fun c2 h7 => ?_⟩
        show bI (tvI (tF h r 9) ||| ((1 : Int32) <<< (c &&& 31))) c2 ↔ ¬ (if 300 * c2 + x.toNatClampNeg = 300 * c.toNatClampNeg + x.toNatClampNeg then tvI (tF h 111 1) + 1 else tA h 177 (300 * c2 + x.toNatClampNeg)) = 0
        have ec : c = Int32.ofNat c.toNatClampNeg := zof (by rw [zclE]; omega)
        have hor := bI_or (x := tvI (tF h r 9)) (n := c2) (m := c.toNatClampNeg) (by omega) (by omega)
        rw [← ec] at hor
        rw [hor]
        by_cases q2 : c2 = c.toNatClampNeg
        · rw [if_pos (by omega)]
          exact ⟨fun _ => hnow, fun _ => Or.inr q2⟩
        · rw [if_neg (by omega), ← b2 c2 h7]
          exact ⟨fun z => z.resolve_right q2, Or.inl⟩
      · have hix : i ≠ x.toNatClampNeg := fun z => q (by rw [z, g1] at hr; exact (Option.some.inj hr).symm)
        rw [g4 r 9 (fun z => q z.1)]
        refine ⟨b1, fun c2 h7 => ?_⟩
        show _ ↔ ¬ (if 300 * c2 + i = 300 * c.toNatClampNeg + x.toNatClampNeg then _ else tA h 177 (300 * c2 + i)) = 0
        rw [if_neg (by omega)]
        exact b2 c2 h7
    · rw [t1, t4] at hi
      rw [f2]
      show (if 300 * c2 + i = 300 * c.toNatClampNeg + x.toNatClampNeg then _ else tA h 177 (300 * c2 + i)) = 0
      rw [if_neg (by omega)]
      exact hb0 i c2 hi h6 h7
  · exact absurd (hc9.mp c1) c2
  · exact absurd (hc9.mpr c2) c1
  · exact ⟨rfl, hb, hb0⟩
