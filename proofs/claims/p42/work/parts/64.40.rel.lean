/-! what is answered: small helpers -/
noncomputable def tBo (P : Prop) (w : Option Value) : Prop := (P ∧ w = some (.int 1)) ∨ (¬ P ∧ w = some (.int 0))
theorem tBo_i {P R : Prop} {w : Option Value} (e : P ↔ R) (k : tBo P w) : tBo R w := k.imp (fun z => ⟨e.mp z.1, z.2⟩) (fun z => ⟨fun y => z.1 (e.mpr y), z.2⟩)
theorem zpB_c {b : Int × Int} {r : List (Int × Int)} {xs : List Int32} (h : zpB (b :: r) xs) : ∃ x ys, xs = x :: ys ∧ (b.1 ≤ x.toInt ∧ x.toInt ≤ b.2) ∧ zpB r ys := by
  obtain ⟨lo, hi⟩ := b
  cases xs with
  | nil => exact h.elim
  | cons x ys => exact ⟨x, ys, rfl, h.1, h.2⟩
theorem zpB_n {xs : List Int32} (h : zpB [] xs) : xs = [] := by
  cases xs with
  | nil => rfl
  | cons x ys => exact h.elim
theorem zclx {x : Int32} (h : 0 ≤ x.toInt) : (x.toNatClampNeg : Int) = x.toInt := by
  show ((x.toInt.toNat : Nat) : Int) = _
  omega
theorem zclE {x : Int32} : x.toNatClampNeg = x.toInt.toNat := rfl
theorem zeqi {x y : Int32} {Y : Int} (hy : y.toInt = Y) (h : x = y) : x.toInt = Y := by rw [h]; exact hy
theorem zneq {x y : Int32} {Y : Int} (hy : y.toInt = Y) (h : ¬ x = y) : x.toInt ≠ Y := fun z => h (Int32.toInt_inj.mp (z.trans hy.symm))
theorem zsub1 {x : Int32} (h : 0 ≤ x.toInt) : (x - 1).toInt = x.toInt - 1 := by
  have := Int32.toInt_lt x
  rw [Int32.toInt_sub]
  exact Int.bmod_eq_of_le (by show (-2147483648 : Int) ≤ x.toInt - 1; omega) (by show x.toInt - 1 < (2147483648 : Int); omega)
noncomputable def tRwl : List (Nat × Nat) := [(4, 5), (14, 15), (27, 28), (97, 98)]
noncomputable def tRw (h : zH) : Prop := ∀ q ∈ tRwl, ∀ i, i < tN h q.1 → tO h q.1 i = some (q.2 + i)
theorem tRw_A {h : zH} {r i : Nat} {x : Int32} (k : tRw h) : tRw (tSA h r i x) := by unfold tRw; rw [tO_tSA, tN_tSA]; exact k
theorem tRw_J {h : zH} {r i : Nat} {x : Int64} (k : tRw h) : tRw (tSJ h r i x) := by unfold tRw; rw [tO_tSJ, tN_tSJ]; exact k
theorem tRw_F {h : zH} {r b : Nat} {w : Value} (k : tRw h) : tRw (tSF h r b w) := by unfold tRw; rw [tO_tSF, tN_tSF]; exact k
theorem tRw_at {h : zH} (k : tRw h) {p q : Nat} (hm : (p, q) ∈ tRwl) {i : Int32} (z : tInO h p i) : zrf (tO h p i.toNatClampNeg) = .ref (q + i.toNatClampNeg) := by
  rw [k (p, q) hm _ z.rg.2]
  rfl
theorem tfr_N {xs : Nat → Int32} {τ : List Nat} {h h2 : zH} {W : Nat → Nat → Bool} {p t : Nat} (hB : zBs xs τ h) (hf : yFr W τ h h2) (ht : zTG[p]? = some t) : tN h2 p = tN h p := by
  obtain ⟨ct, c, a1, a2, -⟩ := hB.1.2 _ _ (hB.2.1 _ _ ht)
  obtain ⟨c2, b1, b2⟩ := hf _ _ _ (hB.2.1 _ _ ht) a2
  unfold tN
  rw [a2, b1]
  match c, c2, b2 with
  | .inr (x, fs), .inr (y, gs), b2 => rfl
  | .inl (k, N, x), .inl (k2, N2, y), b2 => exact b2.2.1.symm
theorem tfr_Fs {xs : Nat → Int32} {τ : List Nat} {h h2 : zH} {W : Nat → Nat → Bool} {p t b : Nat} (hB : zBs xs τ h) (hf : yFr W τ h h2) (ht : τ[p]? = some t) (hW : W t b = false) : tF h2 p b = tF h p b := by
  obtain ⟨ct, c, a1, a2, -⟩ := hB.1.2 _ _ ht
  obtain ⟨c2, b1, b2⟩ := hf _ _ _ ht a2
  unfold tF
  rw [a2, b1]
  match c, c2, b2 with
  | .inr (x, fs), .inr (y, gs), b2 =>
    dsimp only
    rw [List.getD_eq_getElem?_getD, List.getD_eq_getElem?_getD, b2.2.2 b hW]
  | .inl (k, N, x), .inl (k2, N2, y), b2 => rfl
theorem car_tag {xs : Nat → Int32} {τ : List Nat} {h : zH} (hB : zBs xs τ h) {i r : Nat} (hi : (i : Int) < (tvI (tF h 36 4)).toInt) (hr : tO h 39 i = some r) : τ[r]? = some 150 := by
  have hn := (kb_36_4 hB).2
  obtain ⟨a, b, c⟩ := tkd_o hB (p := 39) (t := 15) rfl rfl
  obtain ⟨-, -, c3⟩ := c i (by omega)
  rw [hr] at c3
  rcases c3 with z | z | z
  · cases z
  · have : zoi (some r) = (r : Int) := rfl
    omega
  · exact z
theorem car_lt {xs : Nat → Int32} {τ : List Nat} {h : zH} (hB : zBs xs τ h) {i r : Nat} (hi : (i : Int) < (tvI (tF h 36 4)).toInt) (hr : tO h 39 i = some r) : r < h.length := by
  have z := car_tag hB hi hr
  rcases Nat.lt_or_ge r τ.length with q | q
  · have := hB.1.1; omega
  · rw [List.getElem?_eq_none q] at z; cases z
theorem car_ne {xs : Nat → Int32} {τ : List Nat} {h : zH} (hB : zBs xs τ h) {i r : Nat} (hi : (i : Int) < (tvI (tF h 36 4)).toInt) (hr : tO h 39 i = some r) {p t : Nat} (ht : zTG[p]? = some t) (hn : t ≠ 150) : r ≠ p := by
  intro e
  subst e
  have z := car_tag hB hi hr
  rw [hB.2.1 _ _ ht] at z
  cases z
  exact hn rfl
theorem zBs_len {xs : Nat → Int32} {τ : List Nat} {h : zH} (hB : zBs xs τ h) : 182 ≤ h.length := by
  have z := hB.2.1 181 149 rfl
  rcases Nat.lt_or_ge 181 τ.length with q | q
  · have := hB.1.1; omega
  · rw [List.getElem?_eq_none q] at z; cases z
/-- a count: what is told is the next of so many, or none -/
noncomputable def phN (p b : Nat) (C : Prop) (h : zH) (w : Option Value) (h2 : zH) : Prop := (C ∧ w = some (tF h p b) ∧ tF h2 p b = .int (tvI (tF h p b) + 1)) ∨ (¬ C ∧ w = some (.int (-1)) ∧ tF h2 p b = tF h p b)
theorem phN_a {p b q c : Nat} {C D : Prop} {h h2 h3 : zH} {w w2 : Option Value} (hR : tF h p b = tF h q c) (e1 : tF h2 q c = tF h q c) (e2 : tF h3 p b = tF h2 p b) (hCD : C ↔ D) (k1 : phN p b C h w h2) (k2 : phN q c D h2 w2 h3) : w2 = w ∧ tF h3 p b = tF h3 q c := by
  rcases k1 with ⟨c1, rfl, f1⟩ | ⟨c1, rfl, f1⟩ <;> rcases k2 with ⟨c2, rfl, f2⟩ | ⟨c2, rfl, f2⟩
  · rw [e2, f1, f2, e1, hR]
    exact ⟨rfl, rfl⟩
  · exact absurd (hCD.mp c1) c2
  · exact absurd (hCD.mpr c2) c1
  · rw [e2, f1, f2, e1, hR]
    exact ⟨rfl, rfl⟩
theorem zi1 {x : Int32} : x + 1 - 1 = x := Int32.add_sub_cancel x 1
/-- a count and what is told in arrays at its place -/
noncomputable def phA (p b : Nat) (C : Prop) (l : List (Nat × Int32)) (h : zH) (w : Option Value) (h2 : zH) : Prop := (C ∧ w = some (tF h p b) ∧ tF h2 p b = .int (tvI (tF h p b) + 1) ∧ ∀ q ∈ l, tA h2 q.1 = fun j => if j = (tvI (tF h p b)).toNatClampNeg then q.2 else tA h q.1 j) ∨ (¬ C ∧ w = some (.int (-1)) ∧ tF h2 p b = tF h p b ∧ ∀ q ∈ l, tA h2 q.1 = tA h q.1)
theorem phA_a {p b q c : Nat} {C D : Prop} {l m : List (Nat × Int32)} {h h2 h3 : zH} {w w2 : Option Value} (hR : tF h p b = tF h q c) (e1 : tF h2 q c = tF h q c) (e2 : tF h3 p b = tF h2 p b) (hCD : C ↔ D) (k1 : phA p b C l h w h2) (k2 : phA q c D m h2 w2 h3) : w2 = w ∧ tF h3 p b = tF h3 q c ∧ ∀ P Q v, (P, v) ∈ l → (Q, v) ∈ m → tA h P = tA h Q → tA h2 Q = tA h Q → tA h3 P = tA h2 P → tA h3 P = tA h3 Q := by
  rcases k1 with ⟨c1, rfl, f1, g1⟩ | ⟨c1, rfl, f1, g1⟩ <;> rcases k2 with ⟨c2, rfl, f2, g2⟩ | ⟨c2, rfl, f2, g2⟩
  · refine ⟨by rw [e1, hR], by rw [e2, f1, f2, e1, hR], fun P Q v hP hQ a1 a2 a3 => ?_⟩
    rw [a3, g1 _ hP, g2 _ hQ, e1, ← hR]
    dsimp only
    rw [a1, a2]
  · exact absurd (hCD.mp c1) c2
  · exact absurd (hCD.mpr c2) c1
  · refine ⟨rfl, by rw [e2, f1, f2, e1, hR], fun P Q v hP hQ a1 a2 a3 => ?_⟩
    have h1 := g1 _ hP
    have h2 := g2 _ hQ
    dsimp only at h1 h2
    rw [a3, h1, h2, a1, a2]
theorem tA_st {h : zH} {r i : Nat} {x : Int32} {kd : Nat} {z : Int32} (hf : tIn h r kd z) {f : Nat → Int32} (k : tA h r = f) : tA (tSA h r i x) r = fun j => if j = i then x else f j := by
  rw [tA_tSA hf.cell]
  funext j
  dsimp only
  rw [k]
  by_cases e : j = i
  · rw [if_pos ⟨rfl, e⟩, if_pos e]
  · rw [if_neg (fun z => e z.2), if_neg e]
theorem tA_n {h : zH} {r i p : Nat} {x : Int32} {f : Nat → Int32} (hn : p ≠ r) (k : tA h p = f) : tA (tSA h r i x) p = f := by rw [tA_nz hn]; exact k
theorem tA_ff {h : zH} {r b p : Nat} {w : Value} {f : Nat → Int32} (k : tA h p = f) : tA (tSF h r b w) p = f := by rw [tA_tSF]; exact k
theorem tA_jj {h : zH} {r i p : Nat} {x : Int64} {f : Nat → Int32} (k : tA h p = f) : tA (tSJ h r i x) p = f := by rw [tA_tSJ]; exact k
theorem tA_oo {h : zH} {r i p : Nat} {x : Option Nat} {f : Nat → Int32} (k : tA h p = f) : tA (tSO h r i x) p = f := by rw [tA_tSO]; exact k
theorem zof {x : Int32} {n : Nat} (h : x.toInt = n) : x = Int32.ofNat n := by
  have hx := Int32.toInt_lt x
  exact Int32.toInt_inj.mp (h.trans (yofN (by omega)).symm)
theorem zof_cl {x : Int32} {n : Nat} (h : x.toInt = n) : x.toNatClampNeg = n := by rw [zclE, h]; rfl
theorem zincN {x : Int32} {n : Nat} (h : x.toInt = n) (hn : n < 2147483647) : (x + 1).toInt = ((n + 1 : Nat) : Int) := by
  rw [Int32.toInt_add, h]
  exact Int.bmod_eq_of_le (by show (-2147483648 : Int) ≤ (n : Int) + 1; omega) (by show (n : Int) + 1 < (2147483648 : Int); omega)
theorem zen {x y : Int32} {n : Nat} (hx : x.toInt = n) (hn : (n : Int) ≤ y.toInt) (hq : y.toInt ≤ x.toInt) : n = y.toNatClampNeg := by
  rw [zclE]
  omega
theorem zincL {x y : Int32} {n : Nat} (h : x.toInt = n) (hy : x.toInt < y.toInt) : (x + 1).toInt = ((n + 1 : Nat) : Int) := zincN h (by have := Int32.toInt_lt y; omega)
/-- the begin of a step behind the first n -/
noncomputable def sBe (m : Int32) (e : Nat → Int32) : Nat → Int32
  | 0 => 0
  | n + 1 => if (m >>> (Int32.ofNat n &&& 31)) &&& 1 = 1 then (if sBe m e n < e n then e n else sBe m e n) else sBe m e n
theorem f_isBehind {G : zG} (hG : G.1 = zProg) {h : zH} {s k : Int32} (hs : tSh h) : tC zTt G 49 [.ref 81, .int s, .int k] h (fun w h2 => tBo ((tA h 84 s.toNatClampNeg >>> (k &&& 31)) &&& 1 = 1) w ∧ h2 = h) := by
  refine tC_in (by rw [hG]; rfl) (fun dp => ?_)
  refine tw_aload rfl rfl ?_
  refine tw_getS rfl (hs_81_2 hs) ?_
  refine tw_iload rfl rfl ?_
  refine tw_iald rfl (fun f1 => ?_)
  refine tw_iload rfl rfl ?_
  refine tw_ishr rfl ?_
  refine tw_push rfl ?_
  refine tw_iand rfl ?_
  refine tw_push rfl ?_
  refine tw_ic_ne rfl (fun q2 => ?_) (fun q2 => ?_)
  · try dsimp only [tvI_i, tvJ_j, tvR_r] at q2
    have q2i := zneq (Y := 1) (by decide) q2
    refine tw_push rfl ?_
    exact tw_iret rfl ⟨Or.inr ⟨q2, rfl⟩, rfl⟩
  · try dsimp only [tvI_i, tvJ_j, tvR_r] at q2
    have q2i := zeqi (Y := 1) (by decide) q2
    refine tw_push rfl ?_
    refine tw_goto rfl ?_
    exact tw_iret rfl ⟨Or.inl ⟨q2, rfl⟩, rfl⟩
theorem sBe_y {m : Int32} {e : Nat → Int32} {n : Nat} (h : (m >>> (Int32.ofNat n &&& 31)) &&& 1 = 1) (hn : (Int32.ofNat n).toNatClampNeg = n) : sBe m e (n + 1) = if sBe m e n < e (Int32.ofNat n).toNatClampNeg then e (Int32.ofNat n).toNatClampNeg else sBe m e n := by
  rw [hn]
  show (if _ then _ else _) = _
  rw [if_pos h]
theorem sBe_n {m : Int32} {e : Nat → Int32} {n : Nat} (h : ¬ (m >>> (Int32.ofNat n &&& 31)) &&& 1 = 1) : sBe m e (n + 1) = sBe m e n := by
  show (if _ then _ else _) = _
  rw [if_neg h]
theorem f_beginOf {G : zG} (hG : G.1 = zProg) {h : zH} {s : Int32} {P : Nat} (hs : tSh h) (h0 : 0 ≤ s.toInt) : tC zTt G 48 [.ref 81, .int s, .ref P] h (fun w h2 => w = some (.int (sBe (tA h 84 s.toNatClampNeg) (tA h P) s.toNatClampNeg)) ∧ h2 = h) := by
  refine tC_in (by rw [hG]; rfl) (fun dp => ?_)
  refine tw_push rfl ?_
  refine tw_istore rfl ?_
  refine tw_push rfl ?_
  refine tw_istore rfl ?_
  refine tG_loop (zW_mono zTt G dp) (zW_conj zTt G dp) (V := fun pc L st h9 _ _ => pc = 5 ∧ st = [] ∧ h = h9 ∧ ∃ (k : Nat) (x : Int32), x.toInt = k ∧ (k : Int) ≤ s.toInt ∧ L = [some (.ref 81), some (.int s), some (.ref P), some (.int (sBe (tA h 84 s.toNatClampNeg) (tA h P) k)), some (.int x)]) ?_ (⟨rfl, rfl, rfl, 0, 0, rfl, h0, rfl⟩)
  rintro _ _ _ _ _ _ ⟨rfl, rfl, rfl, k, x, hx, hk, rfl⟩
  refine tw_iload rfl rfl ?_
  refine tw_iload rfl rfl ?_
  refine tw_ic_ge rfl (fun q3 => ?_) (fun q3 => ?_)
  · try dsimp only [tvI_i, tvJ_j, tvR_r] at q3
    refine tw_iload rfl rfl ?_
    exact tw_iret rfl ⟨by rw [show k = s.toNatClampNeg from by rw [zclE]; omega]; rfl, rfl⟩
  · try dsimp only [tvI_i, tvJ_j, tvR_r] at q3
    refine tw_aload rfl rfl ?_
    refine tw_iload rfl rfl ?_
    refine tw_iload rfl rfl ?_
    refine tw_virt2 rfl (f_isBehind hG hs) (fun w9 h9 p4 => ?_)
    obtain ⟨⟨p4, rfl⟩ | ⟨p4, rfl⟩, rfl⟩ := p4
    · try dsimp only [tvI_i, tvJ_j, tvR_r] at p4
      refine tw_if_eq rfl (fun z => absurd z (by decide)) (fun _ => ?_)
      refine tw_iload rfl rfl ?_
      refine tw_aload rfl rfl ?_
      refine tw_iload rfl rfl ?_
      refine tw_iald rfl (fun f5 => ?_)
      refine tw_imax rfl ?_
      refine tw_istore rfl ?_
      refine tw_iinc rfl rfl ?_
      refine tw_goto rfl ?_
      have hk := zof hx
      subst hk
      exact tG_cut (zW_mono zTt G dp) (Or.inr ⟨rfl, rfl, rfl, k + 1, _, zincN hx (by have := Int32.toInt_lt s; omega), by omega, by rw [sBe_y p4 (zof_cl hx)]; rfl⟩)
    · try dsimp only [tvI_i, tvJ_j, tvR_r] at p4
      refine tw_if_eq rfl (fun _ => ?_) (fun z => absurd z (by decide))
      refine tw_iinc rfl rfl ?_
      refine tw_goto rfl ?_
      have hk := zof hx
      subst hk
      exact tG_cut (zW_mono zTt G dp) (Or.inr ⟨rfl, rfl, rfl, k + 1, _, zincN hx (by have := Int32.toInt_lt s; omega), by omega, by rw [sBe_n p4]; rfl⟩)
theorem tC.and {tt : zT} {G : zG} {j : Nat} {as : List Value} {h : zH} {P Q : zQ} (k1 : tC tt G j as h P) (k2 : tC tt G j as h Q) : tC tt G j as h (fun w h2 => P w h2 ∧ Q w h2) := fun d z => zW_conj tt G d _ _ _ _ _ (k1 d z) (k2 d z)
theorem sBe_u {m : Int32} {e : Nat → Int32} {n : Nat} : sBe m e (n + 1) = if (m >>> (Int32.ofNat n &&& 31)) &&& 1 = 1 then (if sBe m e n < e n then e n else sBe m e n) else sBe m e n := rfl
theorem sBe_congr {m : Int32} {e e2 : Nat → Int32} : ∀ {n : Nat}, (∀ i, i < n → e i = e2 i) → sBe m e n = sBe m e2 n
  | 0, _ => rfl
  | n + 1, hh => by
    have h1 := sBe_congr (m := m) (n := n) (fun i hi => hh i (by omega))
    rw [sBe_u, sBe_u, h1, hh n (by omega)]
theorem sBe_s1 {m X : Int32} {e : Nat → Int32} {n : Nat} (hb : (m >>> (Int32.ofNat n &&& 31)) &&& 1 = 1) (hX : X = sBe m e n) (hl : X.toInt < (e n).toInt) : e n = sBe m e (n + 1) := by
  rw [sBe_u, if_pos hb, ← hX, if_pos (Int32.lt_iff_toInt_lt.mpr hl)]
theorem sBe_s2 {m X : Int32} {e : Nat → Int32} {n : Nat} (hb : (m >>> (Int32.ofNat n &&& 31)) &&& 1 = 1) (hX : X = sBe m e n) (hl : (e n).toInt ≤ X.toInt) : X = sBe m e (n + 1) := by
  rw [sBe_u, if_pos hb, ← hX, if_neg (fun z => by have := Int32.lt_iff_toInt_lt.mp z; omega)]
theorem sBe_s3 {m X : Int32} {e : Nat → Int32} {n : Nat} (hb : ¬ (m >>> (Int32.ofNat n &&& 31)) &&& 1 = 1) (hX : X = sBe m e n) : X = sBe m e (n + 1) := by
  rw [sBe_u, if_neg hb, ← hX]
/-- two lists of ends that are found alike are alike -/
theorem sUniq {be : Nat → Int32} {l l2 E E2 : Nat → Int32} {n : Nat} (hl : ∀ j, j < n → l j = l2 j) (h1 : ∀ j, j < n → E j = sBe (be j) E j + l j) (h2 : ∀ j, j < n → E2 j = sBe (be j) E2 j + l2 j) : ∀ j, j < n → E j = E2 j := by
  have key : ∀ k, k ≤ n → ∀ j, j < k → E j = E2 j := by
    intro k
    induction k with
    | zero => intro _ j hj; omega
    | succ k ih =>
      intro hk j hj
      by_cases e : j = k
      · subst e
        rw [h1 j (by omega), h2 j (by omega), hl j (by omega), sBe_congr (ih (by omega))]
      · exact ih (by omega) j (by omega)
  exact key n (Nat.le_refl n)
noncomputable def gLen (fi mo : Nat → Int32) (w : Int32) (j : Nat) : Int32 := if fi j = w then 0 else mo j
theorem gLen_y {fi mo : Nat → Int32} {w : Int32} {j : Nat} (h : fi j = w) : (0 : Int32) = gLen fi mo w j := by unfold gLen; rw [if_pos h]
theorem gLen_n {fi mo : Nat → Int32} {w : Int32} {j : Nat} (h : ¬ fi j = w) : mo j = gLen fi mo w j := by unfold gLen; rw [if_neg h]
noncomputable def gEnd (B l : Nat → Int32) : Nat → Int32
  | 0 => 0
  | n + 1 => B n + l n
noncomputable def gP (be l B : Nat → Int32) (k : Nat) : Prop := ∀ j, j < k → B j = sBe (be j) (fun i => B i + l i) j
theorem gP_E {be l B : Nat → Int32} {k : Nat} (h : gP be l B k) : ∀ j, j < k → (fun i => B i + l i) j = sBe (be j) (fun i => B i + l i) j + l j := by
  intro j hj
  show B j + l j = _
  rw [← h j hj]
theorem gP_st {be l B : Nat → Int32} {k m : Nat} {X : Int32} (h : gP be l B k) (hm : m ≤ k) (hX : X = sBe (be k) (fun i => B i + l i) m) : gP be l (fun j => if j = k then X else B j) k ∧ (fun j => if j = k then X else B j) k = sBe (be k) (fun i => (fun j => if j = k then X else B j) i + l i) m := by
  refine ⟨fun j hj => ?_, ?_⟩
  · show (if j = k then X else B j) = sBe _ (fun i => (if i = k then X else B i) + l i) j
    rw [if_neg (by omega), h j hj]
    exact sBe_congr (fun i hi => by
      show _ = (if i = k then X else B i) + l i
      rw [if_neg (by omega)])
  · show (if k = k then X else B k) = sBe _ (fun i => (if i = k then X else B i) + l i) m
    rw [if_pos rfl, hX]
    exact sBe_congr (fun i hi => by
      show _ = (if i = k then _ else B i) + l i
      rw [if_neg (by omega)])
noncomputable def gFr (q : Nat) (h h1 : zH) : Prop := tF h1 = tF h ∧ ∀ p, p ≠ q → tA h1 p = tA h p
theorem gFr_A {q a : Nat} {h h1 : zH} {X : Int32} (k : gFr q h h1) : gFr q h (tSA h1 q a X) := ⟨(tF_tSA _ _ _ _).trans k.1, fun p hp => (tA_nz hp).trans (k.2 p hp)⟩
noncomputable def gIn (h h1 : zH) (w : Int32) (k i : Nat) : Prop := gFr 171 h h1 ∧ gP (tA h 169) (gLen (tA h 168) (tA h 167) w) (tA h1 171) k ∧ tA h1 171 k = sBe (tA h 169 k) (fun j => tA h1 171 j + gLen (tA h 168) (tA h 167) w j) i
noncomputable def gOut (h h1 : zH) (w : Int32) (k : Nat) (e : Int32) : Prop := gFr 171 h h1 ∧ gP (tA h 169) (gLen (tA h 168) (tA h 167) w) (tA h1 171) k ∧ e = gEnd (tA h1 171) (gLen (tA h 168) (tA h 167) w) k
section GG
variable {h h1 : zH} {w x y v X : Int32} {k i kd : Nat} {z : Int32}
theorem g_st (hF : gFr 171 h h1) (hP : gP (tA h 169) (gLen (tA h 168) (tA h 167) w) (tA h1 171) k) (hx : x.toInt = k) (hf : tIn h1 171 kd z) (hi : i ≤ k) (hX : X = sBe (tA h 169 k) (fun j => tA h1 171 j + gLen (tA h 168) (tA h 167) w j) i) : gIn h (tSA h1 171 x.toNatClampNeg X) w k i := by
  have e : tA (tSA h1 171 x.toNatClampNeg X) 171 = fun j => if j = k then X else tA h1 171 j := by
    rw [zof_cl hx]
    exact tA_st hf rfl
  refine ⟨gFr_A hF, ?_⟩
  rw [e]
  exact gP_st hP hi hX
theorem g_len1 (hF : gFr 171 h h1) (hx : x.toInt = k) (q : tA h1 168 x.toNatClampNeg = w) : (0 : Int32) = gLen (tA h 168) (tA h 167) w k := gLen_y (by rw [← hF.2 168 (by decide), ← zof_cl hx]; exact q)
theorem g_len2 (hF : gFr 171 h h1) (hx : x.toInt = k) (q : ¬ tA h1 168 x.toNatClampNeg = w) : tA h1 167 x.toNatClampNeg = gLen (tA h 168) (tA h 167) w k := by
  rw [hF.2 168 (by decide), zof_cl hx] at q
  rw [hF.2 167 (by decide), zof_cl hx]
  exact gLen_n q
theorem gX_a (hI : gIn h h1 w k i) (hx : x.toInt = k) (hy : y.toInt = i) (hv : v = gLen (tA h 168) (tA h 167) w i) (qb : (tA h1 169 x.toNatClampNeg >>> (y &&& 31)) &&& 1 = 1) (ql : (tA h1 171 x.toNatClampNeg).toInt < (tA h1 171 y.toNatClampNeg + v).toInt) : tA h1 171 y.toNatClampNeg + v = sBe (tA h 169 k) (fun j => tA h1 171 j + gLen (tA h 168) (tA h 167) w j) (i + 1) := by
  rw [hI.1.2 169 (by decide), zof_cl hx, zof hy] at qb
  rw [zof_cl hx, zof_cl hy, hv] at ql
  rw [zof_cl hy, hv]
  exact sBe_s1 (e := fun j => tA h1 171 j + gLen (tA h 168) (tA h 167) w j) (n := i) qb hI.2.2 ql
theorem gX_b (hI : gIn h h1 w k i) (hx : x.toInt = k) (hy : y.toInt = i) (hv : v = gLen (tA h 168) (tA h 167) w i) (qb : (tA h1 169 x.toNatClampNeg >>> (y &&& 31)) &&& 1 = 1) (ql : (tA h1 171 y.toNatClampNeg + v).toInt ≤ (tA h1 171 x.toNatClampNeg).toInt) : tA h1 171 x.toNatClampNeg = sBe (tA h 169 k) (fun j => tA h1 171 j + gLen (tA h 168) (tA h 167) w j) (i + 1) := by
  rw [hI.1.2 169 (by decide), zof_cl hx, zof hy] at qb
  rw [zof_cl hx, zof_cl hy, hv] at ql
  rw [zof_cl hx]
  exact sBe_s2 (e := fun j => tA h1 171 j + gLen (tA h 168) (tA h 167) w j) (n := i) qb hI.2.2 ql
theorem gX_c (hI : gIn h h1 w k i) (hx : x.toInt = k) (hy : y.toInt = i) (qb : ¬ (tA h1 169 x.toNatClampNeg >>> (y &&& 31)) &&& 1 = 1) : tA h1 171 x.toNatClampNeg = sBe (tA h 169 k) (fun j => tA h1 171 j + gLen (tA h 168) (tA h 167) w j) (i + 1) := by
  rw [hI.1.2 169 (by decide), zof_cl hx, zof hy] at qb
  rw [zof_cl hx]
  exact sBe_s3 (e := fun j => tA h1 171 j + gLen (tA h 168) (tA h 167) w j) (n := i) qb hI.2.2
theorem g_out (hI : gIn h h1 w k k) (hx : x.toInt = k) (hv : v = gLen (tA h 168) (tA h 167) w k) : gOut h h1 w (k + 1) (tA h1 171 x.toNatClampNeg + v) := by
  refine ⟨hI.1, fun j hj => ?_, ?_⟩
  · by_cases e : j = k
    · rw [e]; exact hI.2.2
    · exact hI.2.1 j (by omega)
  · rw [zof_cl hx, hv]
    rfl
end GG
noncomputable def dIn (h h1 : zH) (w : Int32) (k : Nat) : Prop := gFr 88 h h1 ∧ ∀ j, j < k → tA h1 88 j = sBe (tA h 84 j) (tA h1 88) j + gLen (tA h 83) (tA h 82) w j
theorem d_st {h h1 : zH} {w x v : Int32} {k kd : Nat} {z : Int32} (hD : dIn h h1 w k) (hx : x.toInt = k) (hf : tIn h1 88 kd z) (hv : v = gLen (tA h 83) (tA h 82) w k) : dIn h (tSA h1 88 x.toNatClampNeg (sBe (tA h1 84 x.toNatClampNeg) (tA h1 88) x.toNatClampNeg + v)) w (k + 1) := by
  have e : ∀ X, tA (tSA h1 88 x.toNatClampNeg X) 88 = fun j => if j = k then X else tA h1 88 j := by
    intro X
    rw [zof_cl hx]
    exact tA_st hf rfl
  refine ⟨gFr_A hD.1, fun j hj => ?_⟩
  rw [e, hD.1.2 84 (by decide), zof_cl hx, hv]
  have cg : ∀ m (X : Int32), sBe m (fun i => if i = k then X else tA h1 88 i) j = sBe m (tA h1 88) j := fun m X => sBe_congr (fun i hi => if_neg (by omega))
  rw [cg]
  by_cases q : j = k
  · subst q; exact if_pos rfl
  · show (if j = k then _ else _) = _
    rw [if_neg q]
    exact hD.2 j (by omega)
theorem d_len1 {h h1 : zH} {w x : Int32} {k : Nat} (hF : gFr 88 h h1) (hx : x.toInt = k) (q : tA h1 83 x.toNatClampNeg = w) : (0 : Int32) = gLen (tA h 83) (tA h 82) w k := gLen_y (by rw [← hF.2 83 (by decide), ← zof_cl hx]; exact q)
theorem d_len2 {h h1 : zH} {w x : Int32} {k : Nat} (hF : gFr 88 h h1) (hx : x.toInt = k) (q : ¬ tA h1 83 x.toNatClampNeg = w) : tA h1 82 x.toNatClampNeg = gLen (tA h 83) (tA h 82) w k := by
  rw [hF.2 83 (by decide), zof_cl hx] at q
  rw [hF.2 82 (by decide), zof_cl hx]
  exact gLen_n q
theorem zpredN {x : Int32} (h : 0 < x.toInt) : (x - 1).toNatClampNeg = x.toNatClampNeg - 1 := by
  rw [zclE, zclE, zsub1 (by omega)]
  omega
theorem sbe_add {h : zH} {n : Nat} {m f y c : Int32} {kd : Nat} {i : Int32} (h84 : tIn (tSA (tSA h 82 n m) 83 n f) 84 kd i) : sBe (tA (tSA (tSA (tSA (tSA h 82 n m) 83 n f) 84 n y) 85 n c) 84 n) (tA (tSA (tSA (tSA (tSA h 82 n m) 83 n f) 84 n y) 85 n c) 87) n = sBe y (tA h 87) n := by
  have e1 : tA (tSA (tSA (tSA (tSA h 82 n m) 83 n f) 84 n y) 85 n c) 84 n = y := by
    rw [tA_nz (by decide), tA_tSA h84.cell]
    exact if_pos ⟨rfl, rfl⟩
  have e2 : tA (tSA (tSA (tSA (tSA h 82 n m) 83 n f) 84 n y) 85 n c) 87 = tA h 87 := by
    rw [tA_nz (by decide), tA_nz (by decide), tA_nz (by decide), tA_nz (by decide)]
  rw [e1, e2]
/-- what a change costs -/
noncomputable def sCo (b e c m : Int32) : Int32 := if e.toInt ≤ m.toInt then 9 * c else if b.toInt ≤ m.toInt then 3 * c else c
theorem sCo_1 {b e c m : Int32} (h : e.toInt ≤ m.toInt) : 9 * c = sCo b e c m := by unfold sCo; rw [if_pos h]
theorem sCo_2 {b e c m : Int32} (h : m.toInt < e.toInt) (h2 : b.toInt ≤ m.toInt) : 3 * c = sCo b e c m := by unfold sCo; rw [if_neg (by omega), if_pos h2]
theorem sCo_3 {b e c m : Int32} (h : m.toInt < e.toInt) (h2 : m.toInt < b.toInt) : c = sCo b e c m := by unfold sCo; rw [if_neg (by omega), if_neg (by omega)]
/-- the last month of the first n that costs no more -/
noncomputable def sLm (f : Int32 → Int32) (p : Int32) : Nat → Int32
  | 0 => -1
  | n + 1 => if (f (Int32.ofNat n)).toInt ≤ p.toInt then Int32.ofNat n else sLm f p n
theorem sLm_at {f : Int32 → Int32} {p x : Int32} {k : Nat} (hx : x.toInt = (k : Int) - 1) (h0 : 0 ≤ x.toInt) : sLm f p k = if (f x).toInt ≤ p.toInt then x else sLm f p (k - 1) := by
  obtain ⟨j, rfl⟩ : ∃ j, k = j + 1 := ⟨k - 1, by omega⟩
  have e : x = Int32.ofNat j := zof (by omega)
  rw [e]
  rfl
theorem sLm_y {f : Int32 → Int32} {p x : Int32} {k m : Nat} (hx : x.toInt = (k : Int) - 1) (h0 : 0 ≤ x.toInt) (q : (f x).toInt ≤ p.toInt) (e : sLm f p k = sLm f p m) : x = sLm f p m := by
  rw [← e, sLm_at hx h0, if_pos q]
theorem sLm_n {f : Int32 → Int32} {p x : Int32} {k m : Nat} (hx : x.toInt = (k : Int) - 1) (h0 : 0 ≤ x.toInt) (q : p.toInt < (f x).toInt) (e : sLm f p k = sLm f p m) : sLm f p (k - 1) = sLm f p m := by
  rw [← e, sLm_at hx h0, if_neg (by omega)]
theorem sLm_z {f : Int32 → Int32} {p x : Int32} {k m : Nat} (hx : x.toInt = (k : Int) - 1) (h0 : x.toInt < 0) (e : sLm f p k = sLm f p m) : x = sLm f p m := by
  have hk : k = 0 := by omega
  subst hk
  rw [← e]
  exact Int32.toInt_inj.mp (by rw [hx]; rfl)
theorem zdecI {x : Int32} (h : 0 ≤ x.toInt) : (x + (-1)).toInt = x.toInt - 1 := by
  have := Int32.toInt_lt x
  rw [Int32.toInt_add, show (-1 : Int32).toInt = -1 from rfl]
  exact Int.bmod_eq_of_le (by show (-2147483648 : Int) ≤ x.toInt + -1; omega) (by show x.toInt + -1 < (2147483648 : Int); omega)
noncomputable def bI (x : Int32) (c : Nat) : Prop := (x >>> (Int32.ofNat c &&& 31)) &&& 1 = 1
theorem bI_k : ∀ n, n < 32 → ((Int32.ofNat n) &&& 31).toBitVec.smod 32 = BitVec.ofNat 32 n := by decide +kernel
theorem bI_g {x : Int32} {n : Nat} (h : n < 32) : bI x n ↔ x.toBitVec.getLsbD n = true := by
  have hk := bI_k n h
  have e : ((x >>> (Int32.ofNat n &&& 31)) &&& 1).toBitVec = (x.toBitVec.sshiftRight n) &&& 1#32 := by
    show (x.toBitVec.sshiftRight' ((Int32.ofNat n &&& 31).toBitVec.smod 32)) &&& 1#32 = _
    rw [hk]
    show (x.toBitVec.sshiftRight (BitVec.ofNat 32 n).toNat) &&& 1#32 = _
    rw [BitVec.toNat_ofNat, Nat.mod_eq_of_lt (by omega)]
  have e2 : (x.toBitVec.sshiftRight n).getLsbD 0 = x.toBitVec.getLsbD n := by
    rw [BitVec.getLsbD_sshiftRight]
    simp
    intro z
    omega
  unfold bI
  rw [← Int32.toBitVec_inj, e, BitVec.and_one_eq_setWidth_ofBool_getLsbD, e2]
  cases x.toBitVec.getLsbD n <;> decide
theorem bI_or {x : Int32} {n m : Nat} (hn : n < 32) (hm : m < 32) : bI (x ||| ((1 : Int32) <<< (Int32.ofNat m &&& 31))) n ↔ bI x n ∨ n = m := by
  have hk := bI_k m hm
  rw [bI_g hn, bI_g hn]
  have e : (x ||| ((1 : Int32) <<< (Int32.ofNat m &&& 31))).toBitVec = x.toBitVec ||| ((1#32) <<< m) := by
    show x.toBitVec ||| ((1#32) <<< ((Int32.ofNat m &&& 31).toBitVec.smod 32)) = _
    rw [hk]
    show x.toBitVec ||| ((1#32) <<< (BitVec.ofNat 32 m).toNat) = _
    rw [BitVec.toNat_ofNat, Nat.mod_eq_of_lt (by omega)]
  rw [e, BitVec.getLsbD_or, BitVec.getLsbD_shiftLeft, BitVec.getLsbD_one, Bool.or_eq_true]
  have e3 : (decide (n < 32) && !decide (n < m) && (decide (0 < 32) && decide (n - m = 0))) = true ↔ n = m := by
    constructor
    · intro z
      simp at z
      omega
    · rintro rfl
      simp
      omega
  rw [← e3]
theorem bI_0 {n : Nat} (hn : n < 32) : ¬ bI 0 n := by
  rw [bI_g hn]
  show ¬ (0#32).getLsbD _ = true
  simp
theorem zmul3 {k p : Int32} (hk : 0 ≤ k.toInt ∧ k.toInt ≤ 1000) (hp : 0 ≤ p.toInt ∧ p.toInt ≤ 1000) : (300 * k + p).toNatClampNeg = 300 * k.toNatClampNeg + p.toNatClampNeg := by
  have e1 : (300 * k).toInt = 300 * k.toInt := by
    rw [Int32.toInt_mul, show (300 : Int32).toInt = 300 from rfl]
    exact Int.bmod_eq_of_le (by show (-2147483648 : Int) ≤ _; omega) (by show _ < (2147483648 : Int); omega)
  have e2 : (300 * k + p).toInt = 300 * k.toInt + p.toInt := by
    rw [Int32.toInt_add, e1]
    exact Int.bmod_eq_of_le (by show (-2147483648 : Int) ≤ _; omega) (by show _ < (2147483648 : Int); omega)
  rw [zclE, zclE, zclE, e2]
  omega
/-- the owner that the first n sales leave, whenever they are told -/
noncomputable def sLo (ca to : Nat → Int32) (i : Nat) (d : Int32) : Nat → Int32
  | 0 => d
  | n + 1 => if (ca n).toNatClampNeg = i then to n else sLo ca to i d n
theorem sLo_congr {ca to ca2 to2 : Nat → Int32} {i : Nat} {d : Int32} : ∀ {n : Nat}, (∀ k, k < n → ca k = ca2 k ∧ to k = to2 k) → sLo ca to i d n = sLo ca2 to2 i d n
  | 0, _ => rfl
  | n + 1, hh => by
    show (if _ then _ else _) = if _ then _ else _
    rw [sLo_congr (n := n) (fun k hk => hh k (by omega)), (hh n (by omega)).1, (hh n (by omega)).2]
theorem sLo_none {ca to : Nat → Int32} {i : Nat} {d : Int32} : ∀ {n : Nat}, (∀ k, k < n → (ca k).toNatClampNeg ≠ i) → sLo ca to i d n = d
  | 0, _ => rfl
  | n + 1, hh => by
    show (if _ then _ else _) = _
    rw [if_neg (hh n (by omega)), sLo_none (n := n) (fun k hk => hh k (by omega))]
noncomputable def sOw (ca to mo ti : Nat → Int32) (c m k d : Int32) : Nat → Int32
  | 0 => d
  | n + 1 => if ca n = c ∧ (ti n).toInt ≤ k.toInt ∧ (mo n).toInt ≤ m.toInt then to n else sOw ca to mo ti c m k d n
theorem sOw_y {ca to mo ti : Nat → Int32} {c m k d x y : Int32} {n : Nat} (hx : x.toInt = n) (h1 : ca x.toNatClampNeg = c) (h2 : (ti x.toNatClampNeg).toInt ≤ k.toInt) (h3 : (mo x.toNatClampNeg).toInt ≤ m.toInt) : to x.toNatClampNeg = sOw ca to mo ti c m k d (n + 1) := by
  rw [zof_cl hx] at *
  show _ = if _ then _ else _
  rw [if_pos ⟨h1, h2, h3⟩]
theorem sOw_n {ca to mo ti : Nat → Int32} {c m k d x y : Int32} {n : Nat} (hx : x.toInt = n) (hy : y = sOw ca to mo ti c m k d n) (h : ¬ (ca x.toNatClampNeg = c ∧ (ti x.toNatClampNeg).toInt ≤ k.toInt ∧ (mo x.toNatClampNeg).toInt ≤ m.toInt)) : y = sOw ca to mo ti c m k d (n + 1) := by
  rw [zof_cl hx] at h
  rw [hy]
  show _ = if _ then _ else _
  rw [if_neg h]
theorem sOw_low {ca to mo ti : Nat → Int32} {c k d : Int32} (hc : 0 ≤ c.toInt) : ∀ {n : Nat}, (∀ j, j < n → (ti j).toInt ≤ k.toInt ∧ (mo j).toInt ≤ k.toInt ∧ 0 ≤ (ca j).toInt) → sOw ca to mo ti c k k d n = sLo ca to c.toNatClampNeg d n
  | 0, _ => rfl
  | n + 1, hh => by
    obtain ⟨a1, a2, a3⟩ := hh n (by omega)
    show (if _ then _ else _) = if _ then _ else _
    rw [sOw_low hc (n := n) (fun j hj => hh j (by omega))]
    by_cases e : ca n = c
    · rw [if_pos ⟨e, a1, a2⟩, if_pos (by rw [e])]
    · rw [if_neg (fun z => e z.1), if_neg]
      intro z
      rw [zclE, zclE] at z
      exact e (Int32.toInt_inj.mp (by omega))
/-- how many of the first n -/
noncomputable def sCn (P : Nat → Bool) : Nat → Int32
  | 0 => 0
  | n + 1 => if P n = true then sCn P n + 1 else sCn P n
theorem sCn_y {P : Nat → Bool} {n : Nat} {y : Int32} (hy : y = sCn P n) (h : P n = true) : y + 1 = sCn P (n + 1) := by
  rw [hy]
  show _ = if _ then _ else _
  rw [if_pos h]
theorem sCn_n {P : Nat → Bool} {n : Nat} {y : Int32} (hy : y = sCn P n) (h : ¬ P n = true) : y = sCn P (n + 1) := by
  rw [hy]
  show _ = if _ then _ else _
  rw [if_neg h]
theorem sCn_congr {P P2 : Nat → Bool} : ∀ {n : Nat}, (∀ i, i < n → P i = P2 i) → sCn P n = sCn P2 n
  | 0, _ => rfl
  | n + 1, hh => by
    show (if _ then _ else _) = if _ then _ else _
    rw [sCn_congr (n := n) (fun i hi => hh i (by omega)), hh n (by omega)]
theorem sCn_f {P : Nat → Bool} : ∀ {n : Nat}, n ≤ 1000 → 0 ≤ (sCn P n).toInt ∧ (sCn P n).toInt ≤ n
  | 0, _ => by show 0 ≤ (0 : Int32).toInt ∧ (0 : Int32).toInt ≤ _; decide
  | n + 1, hn => by
    have h1 := sCn_f (P := P) (n := n) (by omega)
    show 0 ≤ (if _ then _ else _ : Int32).toInt ∧ (if _ then _ else _ : Int32).toInt ≤ _
    by_cases e : P n = true
    · rw [if_pos e, zincN (n := (sCn P n).toInt.toNat) (by omega) (by omega)]; omega
    · rw [if_neg e]; omega
/-- the call's cars that wait for it -/
noncomputable def lfB (ka kf kl kd mk wr mm : Nat → Int32) (C i : Nat) : Bool := decide ((kd i = ka C ∧ (kf C).toInt ≤ (mk i).toInt ∧ (mk i).toInt ≤ (kl C).toInt) ∧ (wr i).toInt = 0 ∧ mm (300 * C + i) = 0)
noncomputable abbrev lfC (h : zH) (C i : Nat) : Bool := lfB (tA h 90) (tA h 91) (tA h 92) (tA h 121) (tA h 122) (tA h 120) (tA h 177) C i
noncomputable abbrev lfM (h : zH) (C i : Nat) : Bool := lfB (tA h 173) (tA h 174) (tA h 175) (tA h 121) (tA h 122) (tA h 120) (tA h 177) C i
noncomputable abbrev ltC (h : zH) (C i : Nat) : Bool := lfC h C i && decide ((tA h 38 (tA h 125 i).toNatClampNeg).toInt = 0)
noncomputable abbrev ltM (h : zH) (C i : Nat) : Bool := lfM h C i && decide ((tA h 119 (sOw (tA h 128) (tA h 129) (tA h 130) (tA h 131) (Int32.ofNat i) (tvI (tF h 111 1)) (tvI (tF h 111 1)) (tA h 124 i) (tvI (tF h 111 6)).toNatClampNeg).toNatClampNeg).toInt = 0)
noncomputable def R_now (h : zH) : Prop := tF h 0 14 = tF h 111 1
noncomputable def ph_clock (p b : Nat) (month : Int32) (h : zH) (w : Option Value) (h2 : zH) : Prop := (((tvI (tF h p b)).toInt ≤ month.toInt ∧ month.toInt ≤ 599) ∧ w = some (.int 1) ∧ tF h2 p b = .int month) ∨ (¬ ((tvI (tF h p b)).toInt ≤ month.toInt ∧ month.toInt ≤ 599) ∧ w = some (.int 0) ∧ tF h2 p b = tF h p b)
theorem f_isWithin {G : zG} (hG : G.1 = zProg) {h : zH} {n lo hi : Int32} {LO HI : Int} (hlo : lo.toInt = LO) (hhi : hi.toInt = HI) : tC zTt G 158 [.int n, .int lo, .int hi] h (fun w h2 => tBo (LO ≤ n.toInt ∧ n.toInt ≤ HI) w ∧ h2 = h) := by
  refine tC_in (by rw [hG]; rfl) (fun dp => ?_)
  refine tw_iload rfl rfl ?_
  refine tw_iload rfl rfl ?_
  refine tw_ic_lt rfl (fun q6 => ?_) (fun q6 => ?_)
  · try dsimp only [tvI_i, tvJ_j, tvR_r] at q6
    refine tw_push rfl ?_
    exact tw_iret rfl ⟨Or.inr ⟨by omega, rfl⟩, rfl⟩
  · try dsimp only [tvI_i, tvJ_j, tvR_r] at q6
    refine tw_iload rfl rfl ?_
    refine tw_iload rfl rfl ?_
    refine tw_ic_gt rfl (fun q7 => ?_) (fun q7 => ?_)
    · try dsimp only [tvI_i, tvJ_j, tvR_r] at q7
      refine tw_push rfl ?_
      exact tw_iret rfl ⟨Or.inr ⟨by omega, rfl⟩, rfl⟩
    · try dsimp only [tvI_i, tvJ_j, tvR_r] at q7
      refine tw_push rfl ?_
      refine tw_goto rfl ?_
      exact tw_iret rfl ⟨Or.inl ⟨by omega, rfl⟩, rfl⟩
theorem f_isMonth {G : zG} (hG : G.1 = zProg) {h : zH} {n : Int32} : tC zTt G 159 [.int n] h (fun w h2 => tBo (0 ≤ n.toInt ∧ n.toInt ≤ 599) w ∧ h2 = h) := by
  refine tC_in (by rw [hG]; rfl) (fun dp => ?_)
  refine tw_iload rfl rfl ?_
  refine tw_push rfl ?_
  refine tw_push rfl ?_
  refine tw_stat3 rfl (f_isWithin hG (LO := 0) (HI := 599) (by decide) (by decide)) (fun w9 h9 p8 => ?_)
  obtain ⟨⟨p8, rfl⟩ | ⟨p8, rfl⟩, rfl⟩ := p8
  · try dsimp only [tvI_i, tvJ_j, tvR_r] at p8
    exact tw_iret rfl ⟨Or.inl ⟨p8, rfl⟩, rfl⟩
  · try dsimp only [tvI_i, tvJ_j, tvR_r] at p8
    exact tw_iret rfl ⟨Or.inr ⟨p8, rfl⟩, rfl⟩
theorem f_clock {G : zG} (hG : G.1 = zProg) {h : zH} {month : Int32} (hs : tSh h) (hk : 0 ≤ (tvI (tF h 0 14)).toInt) : tC zTt G 110 [.ref 0, .int month] h (ph_clock 0 14 month h) := by
  refine tC_in (by rw [hG]; rfl) (fun dp => ?_)
  refine tw_iload rfl rfl ?_
  refine tw_stat1 rfl (f_isMonth hG) (fun w9 h9 p9 => ?_)
  obtain ⟨⟨p9, rfl⟩ | ⟨p9, rfl⟩, rfl⟩ := p9
  · try dsimp only [tvI_i, tvJ_j, tvR_r] at p9
    refine tw_if_eq rfl (fun z => absurd z (by decide)) (fun _ => ?_)
    refine tw_iload rfl rfl ?_
    refine tw_aload rfl rfl ?_
    refine tw_getS rfl (hi_0_14 hs) ?_
    refine tw_ic_ge rfl (fun q10 => ?_) (fun q10 => ?_)
    · try dsimp only [tvI_i, tvJ_j, tvR_r] at q10
      refine tw_aload rfl rfl ?_
      refine tw_iload rfl rfl ?_
      refine tw_put rfl (fun f11 => ?_)
      refine tw_push rfl ?_
      exact tw_iret rfl (Or.inl ⟨by omega, rfl, (tF_same f11)⟩)
    · try dsimp only [tvI_i, tvJ_j, tvR_r] at q10
      refine tw_push rfl ?_
      exact tw_iret rfl (Or.inr ⟨by omega, rfl, rfl⟩)
  · try dsimp only [tvI_i, tvJ_j, tvR_r] at p9
    refine tw_if_eq rfl (fun _ => ?_) (fun z => absurd z (by decide))
    refine tw_push rfl ?_
    exact tw_iret rfl (Or.inr ⟨by omega, rfl, rfl⟩)
theorem f_in {G : zG} (hG : G.1 = zProg) {h : zH} {x lo hi : Int64} {X LO HI : Int} (hx : x.toInt = X) (hlo : lo.toInt = LO) (hhi : hi.toInt = HI) : tC zTt G 171 [.long x, .long lo, .long hi] h (fun w h2 => tBo (LO ≤ X ∧ X ≤ HI) w ∧ h2 = h) := by
  refine tC_in (by rw [hG]; rfl) (fun dp => ?_)
  refine tw_lload rfl rfl ?_
  refine tw_lload rfl rfl ?_
  refine tw_lc_lt rfl rfl (fun q12 => ?_) (fun q12 => ?_)
  · try dsimp only [tvI_i, tvJ_j, tvR_r] at q12
    refine tw_push rfl ?_
    exact tw_iret rfl ⟨Or.inr ⟨by omega, rfl⟩, rfl⟩
  · try dsimp only [tvI_i, tvJ_j, tvR_r] at q12
    refine tw_lload rfl rfl ?_
    refine tw_lload rfl rfl ?_
    refine tw_lc_gt rfl rfl (fun q13 => ?_) (fun q13 => ?_)
    · try dsimp only [tvI_i, tvJ_j, tvR_r] at q13
      refine tw_push rfl ?_
      exact tw_iret rfl ⟨Or.inr ⟨by omega, rfl⟩, rfl⟩
    · try dsimp only [tvI_i, tvJ_j, tvR_r] at q13
      refine tw_push rfl ?_
      refine tw_goto rfl ?_
      exact tw_iret rfl ⟨Or.inl ⟨by omega, rfl⟩, rfl⟩
theorem g_clock {G : zG} (hG : G.1 = zProg) {h : zH} {month : Int32} (hs : tSh h) : tC zTt G 174 [.ref 111, .int month] h (ph_clock 111 1 month h) := by
  refine tC_in (by rw [hG]; rfl) (fun dp => ?_)
  refine tw_iload rfl rfl ?_
  refine tw_i2l rfl ?_
  refine tw_aload rfl rfl ?_
  refine tw_getS rfl (hi_111_1 hs) ?_
  refine tw_i2l rfl ?_
  refine tw_push rfl ?_
  refine tw_stat3 rfl (f_in hG   (HI := 599) (Int32.toInt_toInt64 _) (Int32.toInt_toInt64 _) (by decide)) (fun w9 h9 p14 => ?_)
  obtain ⟨⟨p14, rfl⟩ | ⟨p14, rfl⟩, rfl⟩ := p14
  · try dsimp only [tvI_i, tvJ_j, tvR_r] at p14
    refine tw_if_ne rfl (fun _ => ?_) (fun z => absurd z (by decide))
    refine tw_aload rfl rfl ?_
    refine tw_iload rfl rfl ?_
    refine tw_put rfl (fun f15 => ?_)
    refine tw_push rfl ?_
    exact tw_iret rfl (Or.inl ⟨by omega, rfl, (tF_same f15)⟩)
  · try dsimp only [tvI_i, tvJ_j, tvR_r] at p14
    refine tw_if_ne rfl (fun z => absurd z (by decide)) (fun _ => ?_)
    refine tw_push rfl ?_
    exact tw_iret rfl (Or.inr ⟨by omega, rfl, rfl⟩)
theorem a_clock {month : Int32} {h h2 h3 : zH} {w w2 : Option Value} (hR : R_now h) (e1 : tF h2 111 1 = tF h 111 1) (e2 : tF h3 0 14 = tF h2 0 14) (k1 : ph_clock 0 14 month h w h2) (k2 : ph_clock 111 1 month h2 w2 h3) : w2 = w ∧ R_now h3 := by
  unfold R_now at *
  unfold ph_clock at k1 k2
  rw [e1, ← hR] at k2
  rw [e2]
  rcases k1 with ⟨c1, rfl, f1⟩ | ⟨c1, rfl, f1⟩ <;> rcases k2 with ⟨c2, rfl, f2⟩ | ⟨c2, rfl, f2⟩
  · exact ⟨rfl, f1.trans f2.symm⟩
  · exact absurd c1 c2
  · exact absurd c2 c1
  · exact ⟨rfl, f1.trans f2.symm⟩
noncomputable def R_lowt (h : zH) : Prop := ∀ k : Nat, (k : Int) < (tvI (tF h 111 6)).toInt → (tA h 131 k).toInt ≤ (tvI (tF h 111 1)).toInt ∧ (tA h 130 k).toInt ≤ (tvI (tF h 111 1)).toInt
theorem low_clock {month : Int32} {h h2 h3 : zH} {w2 : Option Value} (hL : R_lowt h) (e1 : tF h2 111 1 = tF h 111 1) (a1 : tF h3 111 6 = tF h2 111 6) (a2 : tF h2 111 6 = tF h 111 6) (b1 : tA h3 131 = tA h2 131) (b2 : tA h2 131 = tA h 131) (c1 : tA h3 130 = tA h2 130) (c2 : tA h2 130 = tA h 130) (k2 : ph_clock 111 1 month h2 w2 h3) : R_lowt h3 := by
  unfold ph_clock at k2
  rw [e1] at k2
  intro k hk
  rw [a1, a2] at hk
  rw [b1, b2, c1, c2]
  have := hL k hk
  rcases k2 with ⟨d1, -, f1⟩ | ⟨d1, -, f1⟩
  · rw [f1]
    show _ ≤ month.toInt ∧ _ ≤ month.toInt
    omega
  · rw [f1]
    exact this
noncomputable def R_rw (h : zH) : Prop := tRw h
noncomputable def R_kinds (h : zH) : Prop := tF h 1 6 = tF h 111 3
theorem f_isFirm {G : zG} (hG : G.1 = zProg) {h : zH} {n : Int32} : tC zTt G 160 [.int n] h (fun w h2 => tBo (0 ≤ n.toInt ∧ n.toInt ≤ 3) w ∧ h2 = h) := by
  refine tC_in (by rw [hG]; rfl) (fun dp => ?_)
  refine tw_iload rfl rfl ?_
  refine tw_push rfl ?_
  refine tw_push rfl ?_
  refine tw_stat3 rfl (f_isWithin hG (LO := 0) (HI := 3) (by decide) (by decide)) (fun w9 h9 p16 => ?_)
  obtain ⟨⟨p16, rfl⟩ | ⟨p16, rfl⟩, rfl⟩ := p16
  · try dsimp only [tvI_i, tvJ_j, tvR_r] at p16
    exact tw_iret rfl ⟨Or.inl ⟨p16, rfl⟩, rfl⟩
  · try dsimp only [tvI_i, tvJ_j, tvR_r] at p16
    exact tw_iret rfl ⟨Or.inr ⟨p16, rfl⟩, rfl⟩
theorem f_fill {G : zG} (hG : G.1 = zProg) {h : zH} {r : Nat} {a b c : Int32} : tC zTt G 30 [.ref r, .int a, .int b, .int c] h (fun w h2 => w = none ∧ h2 = tSA (tSA (tSA h r 0 a) r 1 b) r 2 c ∧ tIn h r 0 0 ∧ tIn (tSA h r 0 a) r 0 1 ∧ tIn (tSA (tSA h r 0 a) r 1 b) r 0 2) := by
  refine tC_in (by rw [hG]; rfl) (fun dp => ?_)
  refine tw_aload rfl rfl ?_
  refine tw_push rfl ?_
  refine tw_iload rfl rfl ?_
  refine tw_iast rfl (fun f17 => ?_)
  refine tw_aload rfl rfl ?_
  refine tw_push rfl ?_
  refine tw_iload rfl rfl ?_
  refine tw_iast rfl (fun f18 => ?_)
  refine tw_aload rfl rfl ?_
  refine tw_push rfl ?_
  refine tw_iload rfl rfl ?_
  refine tw_iast rfl (fun f19 => ?_)
  exact tw_vret rfl ⟨rfl, rfl, f17, f18, f19⟩
theorem wret1 {h : zH} {p b : Nat} (k : tF h p b = .int (tvI (tF h p b))) : some (Value.int (tvI (tF h p b) + 1 - 1)) = some (tF h p b) := by rw [zi1]; exact congrArg some k.symm
theorem f_addKind {G : zG} (hG : G.1 = zProg) {h : zH} {firm : Int32} {a : Int32} {b : Int32} {c : Int32} (hs : tSh h) (hr : tRw h) : tC zTt G 28 [.ref 1, .int firm, .int a, .int b, .int c] h (phN 1 6 ((tvI (tF h 1 6)).toInt ≠ 8) h) := by
  refine tC_in (by rw [hG]; rfl) (fun dp => ?_)
  refine tw_aload rfl rfl ?_
  refine tw_getS rfl (hi_1_6 hs) ?_
  refine tw_push rfl ?_
  refine tw_ic_ne rfl (fun q20 => ?_) (fun q20 => ?_)
  · try dsimp only [tvI_i, tvJ_j, tvR_r] at q20
    have q20i := zneq (Y := 8) (by decide) q20
    refine tw_aload rfl rfl ?_
    refine tw_getS rfl (hs_1_1 hs) ?_
    refine tw_aload rfl rfl ?_
    refine tw_getS rfl (hi_1_6 hs) ?_
    refine tw_iload rfl rfl ?_
    refine tw_iast rfl (fun f21 => ?_)
    refine tw_aload rfl rfl ?_
    refine tw_getS rfl (hs_1_2 (tSh_SA hs)) ?_
    refine tw_aload rfl rfl ?_
    refine tw_getS rfl (tF_a (hi_1_6 hs)) ?_
    refine tw_aaldS rfl (fun z => tRw_at (tRw_A hr) (p := 4) (q := 5) (by decide) z) ?_
    refine tw_iload rfl rfl ?_
    refine tw_iload rfl rfl ?_
    refine tw_iload rfl rfl ?_
    refine tw_stat4 rfl (f_fill hG) (fun wp23 hp23 p23 => ?_)
    obtain ⟨rfl, rfl, p23a, p23b, p23c⟩ := p23
    refine tw_aload rfl rfl ?_
    refine tw_dup rfl ?_
    refine tw_getS rfl (tF_a (tF_a (tF_a (tF_a (hi_1_6 hs))))) ?_
    refine tw_dup_x1 rfl ?_
    refine tw_push rfl ?_
    refine tw_iadd rfl ?_
    refine tw_put rfl (fun f24 => ?_)
    exact tw_iret rfl (Or.inl ⟨by omega, congrArg some (hi_1_6 hs).symm, (tF_same f24)⟩)
  · try dsimp only [tvI_i, tvJ_j, tvR_r] at q20
    have q20i := zeqi (Y := 8) (by decide) q20
    refine tw_push rfl ?_
    exact tw_iret rfl (Or.inr ⟨by omega, rfl, rfl⟩)
theorem f_kind {G : zG} (hG : G.1 = zProg) {h : zH} {firm : Int32} {a : Int32} {b : Int32} {c : Int32} (hs : tSh h) (hr : tRw h) : tC zTt G 113 [.ref 0, .int firm, .int a, .int b, .int c] h (phN 1 6 (((0 ≤ firm.toInt ∧ firm.toInt ≤ 3) ∧ (0 ≤ a.toInt ∧ a.toInt ≤ 99999) ∧ (0 ≤ b.toInt ∧ b.toInt ≤ 99999) ∧ (0 ≤ c.toInt ∧ c.toInt ≤ 99999)) ∧ (tvI (tF h 1 6)).toInt ≠ 8) h) := by
  refine tC_in (by rw [hG]; rfl) (fun dp => ?_)
  refine tw_iload rfl rfl ?_
  refine tw_stat1 rfl (f_isFirm hG) (fun w9 h9 p25 => ?_)
  obtain ⟨⟨p25, rfl⟩ | ⟨p25, rfl⟩, rfl⟩ := p25
  · try dsimp only [tvI_i, tvJ_j, tvR_r] at p25
    refine tw_if_eq rfl (fun z => absurd z (by decide)) (fun _ => ?_)
    refine tw_iload rfl rfl ?_
    refine tw_push rfl ?_
    refine tw_push rfl ?_
    refine tw_stat3 rfl (f_isWithin hG (LO := 0) (HI := 99999) (by decide) (by decide)) (fun w9 h9 p26 => ?_)
    obtain ⟨⟨p26, rfl⟩ | ⟨p26, rfl⟩, rfl⟩ := p26
    · try dsimp only [tvI_i, tvJ_j, tvR_r] at p26
      refine tw_if_eq rfl (fun z => absurd z (by decide)) (fun _ => ?_)
      refine tw_iload rfl rfl ?_
      refine tw_push rfl ?_
      refine tw_push rfl ?_
      refine tw_stat3 rfl (f_isWithin hG (LO := 0) (HI := 99999) (by decide) (by decide)) (fun w9 h9 p27 => ?_)
      obtain ⟨⟨p27, rfl⟩ | ⟨p27, rfl⟩, rfl⟩ := p27
      · try dsimp only [tvI_i, tvJ_j, tvR_r] at p27
        refine tw_if_eq rfl (fun z => absurd z (by decide)) (fun _ => ?_)
        refine tw_iload rfl rfl ?_
        refine tw_push rfl ?_
        refine tw_push rfl ?_
        refine tw_stat3 rfl (f_isWithin hG (LO := 0) (HI := 99999) (by decide) (by decide)) (fun w9 h9 p28 => ?_)
        obtain ⟨⟨p28, rfl⟩ | ⟨p28, rfl⟩, rfl⟩ := p28
        · try dsimp only [tvI_i, tvJ_j, tvR_r] at p28
          refine tw_if_eq rfl (fun z => absurd z (by decide)) (fun _ => ?_)
          refine tw_push rfl ?_
          refine tw_goto rfl ?_
          refine tw_istore rfl ?_
          refine tw_iload rfl rfl ?_
          refine tw_if_eq rfl (fun z => absurd z (by decide)) (fun _ => ?_)
          refine tw_aload rfl rfl ?_
          refine tw_getS rfl (hs_0_0 hs) ?_
          refine tw_iload rfl rfl ?_
          refine tw_iload rfl rfl ?_
          refine tw_iload rfl rfl ?_
          refine tw_iload rfl rfl ?_
          refine tw_virt4 rfl (f_addKind hG  hs hr) (fun w9 h9 p29 => ?_)
          rcases p29 with ⟨p29, rfl, p29e⟩ | ⟨p29, rfl, p29e⟩
          · refine tw_goto rfl ?_
            exact tw_iret rfl (Or.inl ⟨by omega, congrArg some (hi_1_6 hs).symm, p29e⟩)
          · refine tw_goto rfl ?_
            exact tw_iret rfl (Or.inr ⟨by omega, rfl, p29e⟩)
        · try dsimp only [tvI_i, tvJ_j, tvR_r] at p28
          refine tw_if_eq rfl (fun _ => ?_) (fun z => absurd z (by decide))
          refine tw_push rfl ?_
          refine tw_istore rfl ?_
          refine tw_iload rfl rfl ?_
          refine tw_if_eq rfl (fun _ => ?_) (fun z => absurd z (by decide))
          refine tw_push rfl ?_
          exact tw_iret rfl (Or.inr ⟨by omega, rfl, rfl⟩)
      · try dsimp only [tvI_i, tvJ_j, tvR_r] at p27
        refine tw_if_eq rfl (fun _ => ?_) (fun z => absurd z (by decide))
        refine tw_push rfl ?_
        refine tw_istore rfl ?_
        refine tw_iload rfl rfl ?_
        refine tw_if_eq rfl (fun _ => ?_) (fun z => absurd z (by decide))
        refine tw_push rfl ?_
        exact tw_iret rfl (Or.inr ⟨by omega, rfl, rfl⟩)
    · try dsimp only [tvI_i, tvJ_j, tvR_r] at p26
      refine tw_if_eq rfl (fun _ => ?_) (fun z => absurd z (by decide))
      refine tw_push rfl ?_
      refine tw_istore rfl ?_
      refine tw_iload rfl rfl ?_
      refine tw_if_eq rfl (fun _ => ?_) (fun z => absurd z (by decide))
      refine tw_push rfl ?_
      exact tw_iret rfl (Or.inr ⟨by omega, rfl, rfl⟩)
  · try dsimp only [tvI_i, tvJ_j, tvR_r] at p25
    refine tw_if_eq rfl (fun _ => ?_) (fun z => absurd z (by decide))
    refine tw_push rfl ?_
    refine tw_istore rfl ?_
    refine tw_iload rfl rfl ?_
    refine tw_if_eq rfl (fun _ => ?_) (fun z => absurd z (by decide))
    refine tw_push rfl ?_
    exact tw_iret rfl (Or.inr ⟨by omega, rfl, rfl⟩)
theorem g_kind {G : zG} (hG : G.1 = zProg) {h : zH} {firm : Int32} {a : Int32} {b : Int32} {c : Int32} (hs : tSh h)  : tC zTt G 181 [.ref 111, .int firm, .int a, .int b, .int c] h (phN 111 3 (((0 ≤ firm.toInt ∧ firm.toInt ≤ 3) ∧ (0 ≤ a.toInt ∧ a.toInt ≤ 99999) ∧ (0 ≤ b.toInt ∧ b.toInt ≤ 99999) ∧ (0 ≤ c.toInt ∧ c.toInt ≤ 99999)) ∧ (tvI (tF h 111 3)).toInt ≠ 8) h) := by
  refine tC_in (by rw [hG]; rfl) (fun dp => ?_)
  refine tw_aload rfl rfl ?_
  refine tw_getS rfl (hi_111_3 hs) ?_
  refine tw_push rfl ?_
  refine tw_ic_eq rfl (fun q30 => ?_) (fun q30 => ?_)
  · try dsimp only [tvI_i, tvJ_j, tvR_r] at q30
    have q30i := zeqi (Y := 8) (by decide) q30
    refine tw_push rfl ?_
    exact tw_iret rfl (Or.inr ⟨by omega, rfl, rfl⟩)
  · try dsimp only [tvI_i, tvJ_j, tvR_r] at q30
    have q30i := zneq (Y := 8) (by decide) q30
    refine tw_iload rfl rfl ?_
    refine tw_i2l rfl ?_
    refine tw_push rfl ?_
    refine tw_push rfl ?_
    refine tw_stat3 rfl (f_in hG  (LO := 0) (HI := 3) (Int32.toInt_toInt64 _) (by decide) (by decide)) (fun w9 h9 p31 => ?_)
    obtain ⟨⟨p31, rfl⟩ | ⟨p31, rfl⟩, rfl⟩ := p31
    · try dsimp only [tvI_i, tvJ_j, tvR_r] at p31
      refine tw_if_eq rfl (fun z => absurd z (by decide)) (fun _ => ?_)
      refine tw_iload rfl rfl ?_
      refine tw_i2l rfl ?_
      refine tw_push rfl ?_
      refine tw_push rfl ?_
      refine tw_stat3 rfl (f_in hG  (LO := 0) (HI := 99999) (Int32.toInt_toInt64 _) (by decide) (by decide)) (fun w9 h9 p32 => ?_)
      obtain ⟨⟨p32, rfl⟩ | ⟨p32, rfl⟩, rfl⟩ := p32
      · try dsimp only [tvI_i, tvJ_j, tvR_r] at p32
        refine tw_if_eq rfl (fun z => absurd z (by decide)) (fun _ => ?_)
        refine tw_iload rfl rfl ?_
        refine tw_i2l rfl ?_
        refine tw_push rfl ?_
        refine tw_push rfl ?_
        refine tw_stat3 rfl (f_in hG  (LO := 0) (HI := 99999) (Int32.toInt_toInt64 _) (by decide) (by decide)) (fun w9 h9 p33 => ?_)
        obtain ⟨⟨p33, rfl⟩ | ⟨p33, rfl⟩, rfl⟩ := p33
        · try dsimp only [tvI_i, tvJ_j, tvR_r] at p33
          refine tw_if_eq rfl (fun z => absurd z (by decide)) (fun _ => ?_)
          refine tw_iload rfl rfl ?_
          refine tw_i2l rfl ?_
          refine tw_push rfl ?_
          refine tw_push rfl ?_
          refine tw_stat3 rfl (f_in hG  (LO := 0) (HI := 99999) (Int32.toInt_toInt64 _) (by decide) (by decide)) (fun w9 h9 p34 => ?_)
          obtain ⟨⟨p34, rfl⟩ | ⟨p34, rfl⟩, rfl⟩ := p34
          · try dsimp only [tvI_i, tvJ_j, tvR_r] at p34
            refine tw_if_ne rfl (fun _ => ?_) (fun z => absurd z (by decide))
            refine tw_aload rfl rfl ?_
            refine tw_getS rfl (hs_111_9 hs) ?_
            refine tw_aload rfl rfl ?_
            refine tw_getS rfl (hi_111_3 hs) ?_
            refine tw_iload rfl rfl ?_
            refine tw_iast rfl (fun f35 => ?_)
            refine tw_aload rfl rfl ?_
            refine tw_getS rfl (hs_111_10 (tSh_SA hs)) ?_
            refine tw_push rfl ?_
            refine tw_aload rfl rfl ?_
            refine tw_getS rfl (tF_a (hi_111_3 hs)) ?_
            refine tw_imul rfl ?_
            refine tw_iload rfl rfl ?_
            refine tw_iast rfl (fun f36 => ?_)
            refine tw_aload rfl rfl ?_
            refine tw_getS rfl (hs_111_10 (tSh_SA (tSh_SA hs))) ?_
            refine tw_push rfl ?_
            refine tw_aload rfl rfl ?_
            refine tw_getS rfl (tF_a (tF_a (hi_111_3 hs))) ?_
            refine tw_imul rfl ?_
            refine tw_push rfl ?_
            refine tw_iadd rfl ?_
            refine tw_iload rfl rfl ?_
            refine tw_iast rfl (fun f37 => ?_)
            refine tw_aload rfl rfl ?_
            refine tw_getS rfl (hs_111_10 (tSh_SA (tSh_SA (tSh_SA hs)))) ?_
            refine tw_push rfl ?_
            refine tw_aload rfl rfl ?_
            refine tw_getS rfl (tF_a (tF_a (tF_a (hi_111_3 hs)))) ?_
            refine tw_imul rfl ?_
            refine tw_push rfl ?_
            refine tw_iadd rfl ?_
            refine tw_iload rfl rfl ?_
            refine tw_iast rfl (fun f38 => ?_)
            refine tw_aload rfl rfl ?_
            refine tw_dup rfl ?_
            refine tw_getS rfl (tF_a (tF_a (tF_a (tF_a (hi_111_3 hs))))) ?_
            refine tw_push rfl ?_
            refine tw_iadd rfl ?_
            refine tw_put rfl (fun f39 => ?_)
            refine tw_aload rfl rfl ?_
            refine tw_getS rfl (tF_same f39) ?_
            refine tw_push rfl ?_
            refine tw_isub rfl ?_
            exact tw_iret rfl (Or.inl ⟨by omega, wret1 (hi_111_3 hs), (tF_same f39)⟩)
          · try dsimp only [tvI_i, tvJ_j, tvR_r] at p34
            refine tw_if_ne rfl (fun z => absurd z (by decide)) (fun _ => ?_)
            refine tw_push rfl ?_
            exact tw_iret rfl (Or.inr ⟨by omega, rfl, rfl⟩)
        · try dsimp only [tvI_i, tvJ_j, tvR_r] at p33
          refine tw_if_eq rfl (fun _ => ?_) (fun z => absurd z (by decide))
          refine tw_push rfl ?_
          exact tw_iret rfl (Or.inr ⟨by omega, rfl, rfl⟩)
      · try dsimp only [tvI_i, tvJ_j, tvR_r] at p32
        refine tw_if_eq rfl (fun _ => ?_) (fun z => absurd z (by decide))
        refine tw_push rfl ?_
        exact tw_iret rfl (Or.inr ⟨by omega, rfl, rfl⟩)
    · try dsimp only [tvI_i, tvJ_j, tvR_r] at p31
      refine tw_if_eq rfl (fun _ => ?_) (fun z => absurd z (by decide))
      refine tw_push rfl ?_
      exact tw_iret rfl (Or.inr ⟨by omega, rfl, rfl⟩)
theorem a_kind {firm : Int32} {a : Int32} {b : Int32} {c : Int32} {h h2 h3 : zH} {w w2 : Option Value}  (hR : R_kinds h) (e1 : tF h2 111 3 = tF h 111 3) (e2 : tF h3 1 6 = tF h2 1 6) (k1 : phN 1 6 (((0 ≤ firm.toInt ∧ firm.toInt ≤ 3) ∧ (0 ≤ a.toInt ∧ a.toInt ≤ 99999) ∧ (0 ≤ b.toInt ∧ b.toInt ≤ 99999) ∧ (0 ≤ c.toInt ∧ c.toInt ≤ 99999)) ∧ (tvI (tF h 1 6)).toInt ≠ 8) h w h2) (k2 : phN 111 3 (((0 ≤ firm.toInt ∧ firm.toInt ≤ 3) ∧ (0 ≤ a.toInt ∧ a.toInt ≤ 99999) ∧ (0 ≤ b.toInt ∧ b.toInt ≤ 99999) ∧ (0 ≤ c.toInt ∧ c.toInt ≤ 99999)) ∧ (tvI (tF h2 111 3)).toInt ≠ 8) h2 w2 h3) : w2 = w ∧ R_kinds h3 := by
  refine phN_a hR e1 e2 ?_ k1 k2
  have hR2 := hR
  unfold R_kinds at hR2
  rw [e1, ← hR2]
noncomputable def R_people (h : zH) : Prop := tF h 36 2 = tF h 111 2
theorem f_addPerson {G : zG} (hG : G.1 = zProg) {h : zH} {firm : Int32} (hs : tSh h) : tC zTt G 16 [.ref 36, .int firm] h (phN 36 2 ((tvI (tF h 36 2)).toInt ≠ 60) h) := by
  refine tC_in (by rw [hG]; rfl) (fun dp => ?_)
  refine tw_aload rfl rfl ?_
  refine tw_getS rfl (hi_36_2 hs) ?_
  refine tw_push rfl ?_
  refine tw_ic_ne rfl (fun q40 => ?_) (fun q40 => ?_)
  · try dsimp only [tvI_i, tvJ_j, tvR_r] at q40
    have q40i := zneq (Y := 60) (by decide) q40
    refine tw_aload rfl rfl ?_
    refine tw_getS rfl (hs_36_0 hs) ?_
    refine tw_aload rfl rfl ?_
    refine tw_getS rfl (hi_36_2 hs) ?_
    refine tw_iload rfl rfl ?_
    refine tw_iast rfl (fun f41 => ?_)
    refine tw_aload rfl rfl ?_
    refine tw_dup rfl ?_
    refine tw_getS rfl (tF_a (hi_36_2 hs)) ?_
    refine tw_dup_x1 rfl ?_
    refine tw_push rfl ?_
    refine tw_iadd rfl ?_
    refine tw_put rfl (fun f42 => ?_)
    exact tw_iret rfl (Or.inl ⟨by omega, congrArg some (hi_36_2 hs).symm, (tF_same f42)⟩)
  · try dsimp only [tvI_i, tvJ_j, tvR_r] at q40
    have q40i := zeqi (Y := 60) (by decide) q40
    refine tw_push rfl ?_
    exact tw_iret rfl (Or.inr ⟨by omega, rfl, rfl⟩)
theorem f_person {G : zG} (hG : G.1 = zProg) {h : zH} {firm : Int32} (hs : tSh h) : tC zTt G 111 [.ref 0, .int firm] h (phN 36 2 ((-1 ≤ firm.toInt ∧ firm.toInt ≤ 3) ∧ (tvI (tF h 36 2)).toInt ≠ 60) h) := by
  refine tC_in (by rw [hG]; rfl) (fun dp => ?_)
  refine tw_iload rfl rfl ?_
  refine tw_push rfl ?_
  refine tw_ic_eq rfl (fun q43 => ?_) (fun q43 => ?_)
  · try dsimp only [tvI_i, tvJ_j, tvR_r] at q43
    have q43i := zeqi (Y := (-1)) (by decide) q43
    refine tw_aload rfl rfl ?_
    refine tw_getS rfl (hs_0_1 hs) ?_
    refine tw_iload rfl rfl ?_
    refine tw_virt1 rfl (f_addPerson hG  hs) (fun w9 h9 p44 => ?_)
    rcases p44 with ⟨p44, rfl, p44e⟩ | ⟨p44, rfl, p44e⟩
    · refine tw_goto rfl ?_
      exact tw_iret rfl (Or.inl ⟨by omega, congrArg some (hi_36_2 hs).symm, p44e⟩)
    · refine tw_goto rfl ?_
      exact tw_iret rfl (Or.inr ⟨by omega, rfl, p44e⟩)
  · try dsimp only [tvI_i, tvJ_j, tvR_r] at q43
    have q43i := zneq (Y := (-1)) (by decide) q43
    refine tw_iload rfl rfl ?_
    refine tw_stat1 rfl (f_isFirm hG) (fun w9 h9 p45 => ?_)
    obtain ⟨⟨p45, rfl⟩ | ⟨p45, rfl⟩, rfl⟩ := p45
    · try dsimp only [tvI_i, tvJ_j, tvR_r] at p45
      refine tw_if_eq rfl (fun z => absurd z (by decide)) (fun _ => ?_)
      refine tw_aload rfl rfl ?_
      refine tw_getS rfl (hs_0_1 hs) ?_
      refine tw_iload rfl rfl ?_
      refine tw_virt1 rfl (f_addPerson hG  hs) (fun w9 h9 p46 => ?_)
      rcases p46 with ⟨p46, rfl, p46e⟩ | ⟨p46, rfl, p46e⟩
      · refine tw_goto rfl ?_
        exact tw_iret rfl (Or.inl ⟨by omega, congrArg some (hi_36_2 hs).symm, p46e⟩)
      · refine tw_goto rfl ?_
        exact tw_iret rfl (Or.inr ⟨by omega, rfl, p46e⟩)
    · try dsimp only [tvI_i, tvJ_j, tvR_r] at p45
      refine tw_if_eq rfl (fun _ => ?_) (fun z => absurd z (by decide))
      refine tw_push rfl ?_
      exact tw_iret rfl (Or.inr ⟨by omega, rfl, rfl⟩)
theorem g_person {G : zG} (hG : G.1 = zProg) {h : zH} {firm : Int32} (hs : tSh h)  : tC zTt G 179 [.ref 111, .int firm] h (phN 111 2 ((-1 ≤ firm.toInt ∧ firm.toInt ≤ 3) ∧ (tvI (tF h 111 2)).toInt ≠ 60) h) := by
  refine tC_in (by rw [hG]; rfl) (fun dp => ?_)
  refine tw_aload rfl rfl ?_
  refine tw_getS rfl (hi_111_2 hs) ?_
  refine tw_push rfl ?_
  refine tw_ic_eq rfl (fun q47 => ?_) (fun q47 => ?_)
  · try dsimp only [tvI_i, tvJ_j, tvR_r] at q47
    have q47i := zeqi (Y := 60) (by decide) q47
    refine tw_push rfl ?_
    exact tw_iret rfl (Or.inr ⟨by omega, rfl, rfl⟩)
  · try dsimp only [tvI_i, tvJ_j, tvR_r] at q47
    have q47i := zneq (Y := 60) (by decide) q47
    refine tw_iload rfl rfl ?_
    refine tw_i2l rfl ?_
    refine tw_push rfl ?_
    refine tw_push rfl ?_
    refine tw_stat3 rfl (f_in hG  (LO := (-1)) (HI := 3) (Int32.toInt_toInt64 _) (by decide) (by decide)) (fun w9 h9 p48 => ?_)
    obtain ⟨⟨p48, rfl⟩ | ⟨p48, rfl⟩, rfl⟩ := p48
    · try dsimp only [tvI_i, tvJ_j, tvR_r] at p48
      refine tw_if_ne rfl (fun _ => ?_) (fun z => absurd z (by decide))
      refine tw_aload rfl rfl ?_
      refine tw_getS rfl (hs_111_7 hs) ?_
      refine tw_aload rfl rfl ?_
      refine tw_getS rfl (hi_111_2 hs) ?_
      refine tw_iload rfl rfl ?_
      refine tw_iast rfl (fun f49 => ?_)
      refine tw_aload rfl rfl ?_
      refine tw_dup rfl ?_
      refine tw_getS rfl (tF_a (hi_111_2 hs)) ?_
      refine tw_push rfl ?_
      refine tw_iadd rfl ?_
      refine tw_put rfl (fun f50 => ?_)
      refine tw_aload rfl rfl ?_
      refine tw_getS rfl (tF_same f50) ?_
      refine tw_push rfl ?_
      refine tw_isub rfl ?_
      exact tw_iret rfl (Or.inl ⟨by omega, wret1 (hi_111_2 hs), (tF_same f50)⟩)
    · try dsimp only [tvI_i, tvJ_j, tvR_r] at p48
      refine tw_if_ne rfl (fun z => absurd z (by decide)) (fun _ => ?_)
      refine tw_push rfl ?_
      exact tw_iret rfl (Or.inr ⟨by omega, rfl, rfl⟩)
theorem a_person {firm : Int32} {h h2 h3 : zH} {w w2 : Option Value}  (hR : R_people h) (e1 : tF h2 111 2 = tF h 111 2) (e2 : tF h3 36 2 = tF h2 36 2) (k1 : phN 36 2 ((-1 ≤ firm.toInt ∧ firm.toInt ≤ 3) ∧ (tvI (tF h 36 2)).toInt ≠ 60) h w h2) (k2 : phN 111 2 ((-1 ≤ firm.toInt ∧ firm.toInt ≤ 3) ∧ (tvI (tF h2 111 2)).toInt ≠ 60) h2 w2 h3) : w2 = w ∧ R_people h3 := by
  refine phN_a hR e1 e2 ?_ k1 k2
  have hR2 := hR
  unfold R_people at hR2
  rw [e1, ← hR2]
noncomputable def R_parts (h : zH) : Prop := tF h 1 7 = tF h 111 4
theorem f_addPart {G : zG} (hG : G.1 = zProg) {h : zH} {price : Int32} {a : Int32} {b : Int32} {c : Int32} (hs : tSh h) (hr : tRw h) : tC zTt G 29 [.ref 1, .int price, .int a, .int b, .int c] h (phN 1 7 ((tvI (tF h 1 7)).toInt ≠ 12) h) := by
  refine tC_in (by rw [hG]; rfl) (fun dp => ?_)
  refine tw_aload rfl rfl ?_
  refine tw_getS rfl (hi_1_7 hs) ?_
  refine tw_push rfl ?_
  refine tw_ic_ne rfl (fun q51 => ?_) (fun q51 => ?_)
  · try dsimp only [tvI_i, tvJ_j, tvR_r] at q51
    have q51i := zneq (Y := 12) (by decide) q51
    refine tw_aload rfl rfl ?_
    refine tw_getS rfl (hs_1_3 hs) ?_
    refine tw_aload rfl rfl ?_
    refine tw_getS rfl (hi_1_7 hs) ?_
    refine tw_iload rfl rfl ?_
    refine tw_iast rfl (fun f52 => ?_)
    refine tw_aload rfl rfl ?_
    refine tw_getS rfl (hs_1_4 (tSh_SA hs)) ?_
    refine tw_aload rfl rfl ?_
    refine tw_getS rfl (tF_a (hi_1_7 hs)) ?_
    refine tw_aaldS rfl (fun z => tRw_at (tRw_A hr) (p := 14) (q := 15) (by decide) z) ?_
    refine tw_iload rfl rfl ?_
    refine tw_iload rfl rfl ?_
    refine tw_iload rfl rfl ?_
    refine tw_stat4 rfl (f_fill hG) (fun wp54 hp54 p54 => ?_)
    obtain ⟨rfl, rfl, p54a, p54b, p54c⟩ := p54
    refine tw_aload rfl rfl ?_
    refine tw_dup rfl ?_
    refine tw_getS rfl (tF_a (tF_a (tF_a (tF_a (hi_1_7 hs))))) ?_
    refine tw_dup_x1 rfl ?_
    refine tw_push rfl ?_
    refine tw_iadd rfl ?_
    refine tw_put rfl (fun f55 => ?_)
    exact tw_iret rfl (Or.inl ⟨by omega, congrArg some (hi_1_7 hs).symm, (tF_same f55)⟩)
  · try dsimp only [tvI_i, tvJ_j, tvR_r] at q51
    have q51i := zeqi (Y := 12) (by decide) q51
    refine tw_push rfl ?_
    exact tw_iret rfl (Or.inr ⟨by omega, rfl, rfl⟩)
theorem f_part {G : zG} (hG : G.1 = zProg) {h : zH} {price : Int32} {a : Int32} {b : Int32} {c : Int32} (hs : tSh h) (hr : tRw h) : tC zTt G 114 [.ref 0, .int price, .int a, .int b, .int c] h (phN 1 7 (((0 ≤ price.toInt ∧ price.toInt ≤ 9999) ∧ (0 ≤ a.toInt ∧ a.toInt ≤ 9999) ∧ (0 ≤ b.toInt ∧ b.toInt ≤ 9999) ∧ (0 ≤ c.toInt ∧ c.toInt ≤ 9999)) ∧ (tvI (tF h 1 7)).toInt ≠ 12) h) := by
  refine tC_in (by rw [hG]; rfl) (fun dp => ?_)
  refine tw_iload rfl rfl ?_
  refine tw_push rfl ?_
  refine tw_push rfl ?_
  refine tw_stat3 rfl (f_isWithin hG (LO := 0) (HI := 9999) (by decide) (by decide)) (fun w9 h9 p56 => ?_)
  obtain ⟨⟨p56, rfl⟩ | ⟨p56, rfl⟩, rfl⟩ := p56
  · try dsimp only [tvI_i, tvJ_j, tvR_r] at p56
    refine tw_if_eq rfl (fun z => absurd z (by decide)) (fun _ => ?_)
    refine tw_iload rfl rfl ?_
    refine tw_push rfl ?_
    refine tw_push rfl ?_
    refine tw_stat3 rfl (f_isWithin hG (LO := 0) (HI := 9999) (by decide) (by decide)) (fun w9 h9 p57 => ?_)
    obtain ⟨⟨p57, rfl⟩ | ⟨p57, rfl⟩, rfl⟩ := p57
    · try dsimp only [tvI_i, tvJ_j, tvR_r] at p57
      refine tw_if_eq rfl (fun z => absurd z (by decide)) (fun _ => ?_)
      refine tw_iload rfl rfl ?_
      refine tw_push rfl ?_
      refine tw_push rfl ?_
      refine tw_stat3 rfl (f_isWithin hG (LO := 0) (HI := 9999) (by decide) (by decide)) (fun w9 h9 p58 => ?_)
      obtain ⟨⟨p58, rfl⟩ | ⟨p58, rfl⟩, rfl⟩ := p58
      · try dsimp only [tvI_i, tvJ_j, tvR_r] at p58
        refine tw_if_eq rfl (fun z => absurd z (by decide)) (fun _ => ?_)
        refine tw_iload rfl rfl ?_
        refine tw_push rfl ?_
        refine tw_push rfl ?_
        refine tw_stat3 rfl (f_isWithin hG (LO := 0) (HI := 9999) (by decide) (by decide)) (fun w9 h9 p59 => ?_)
        obtain ⟨⟨p59, rfl⟩ | ⟨p59, rfl⟩, rfl⟩ := p59
        · try dsimp only [tvI_i, tvJ_j, tvR_r] at p59
          refine tw_if_eq rfl (fun z => absurd z (by decide)) (fun _ => ?_)
          refine tw_push rfl ?_
          refine tw_goto rfl ?_
          refine tw_istore rfl ?_
          refine tw_iload rfl rfl ?_
          refine tw_if_eq rfl (fun z => absurd z (by decide)) (fun _ => ?_)
          refine tw_aload rfl rfl ?_
          refine tw_getS rfl (hs_0_0 hs) ?_
          refine tw_iload rfl rfl ?_
          refine tw_iload rfl rfl ?_
          refine tw_iload rfl rfl ?_
          refine tw_iload rfl rfl ?_
          refine tw_virt4 rfl (f_addPart hG  hs hr) (fun w9 h9 p60 => ?_)
          rcases p60 with ⟨p60, rfl, p60e⟩ | ⟨p60, rfl, p60e⟩
          · refine tw_goto rfl ?_
            exact tw_iret rfl (Or.inl ⟨by omega, congrArg some (hi_1_7 hs).symm, p60e⟩)
          · refine tw_goto rfl ?_
            exact tw_iret rfl (Or.inr ⟨by omega, rfl, p60e⟩)
        · try dsimp only [tvI_i, tvJ_j, tvR_r] at p59
          refine tw_if_eq rfl (fun _ => ?_) (fun z => absurd z (by decide))
          refine tw_push rfl ?_
          refine tw_istore rfl ?_
          refine tw_iload rfl rfl ?_
          refine tw_if_eq rfl (fun _ => ?_) (fun z => absurd z (by decide))
          refine tw_push rfl ?_
          exact tw_iret rfl (Or.inr ⟨by omega, rfl, rfl⟩)
      · try dsimp only [tvI_i, tvJ_j, tvR_r] at p58
        refine tw_if_eq rfl (fun _ => ?_) (fun z => absurd z (by decide))
        refine tw_push rfl ?_
        refine tw_istore rfl ?_
        refine tw_iload rfl rfl ?_
        refine tw_if_eq rfl (fun _ => ?_) (fun z => absurd z (by decide))
        refine tw_push rfl ?_
        exact tw_iret rfl (Or.inr ⟨by omega, rfl, rfl⟩)
    · try dsimp only [tvI_i, tvJ_j, tvR_r] at p57
      refine tw_if_eq rfl (fun _ => ?_) (fun z => absurd z (by decide))
      refine tw_push rfl ?_
      refine tw_istore rfl ?_
      refine tw_iload rfl rfl ?_
      refine tw_if_eq rfl (fun _ => ?_) (fun z => absurd z (by decide))
      refine tw_push rfl ?_
      exact tw_iret rfl (Or.inr ⟨by omega, rfl, rfl⟩)
  · try dsimp only [tvI_i, tvJ_j, tvR_r] at p56
    refine tw_if_eq rfl (fun _ => ?_) (fun z => absurd z (by decide))
    refine tw_push rfl ?_
    refine tw_istore rfl ?_
    refine tw_iload rfl rfl ?_
    refine tw_if_eq rfl (fun _ => ?_) (fun z => absurd z (by decide))
    refine tw_push rfl ?_
    exact tw_iret rfl (Or.inr ⟨by omega, rfl, rfl⟩)
theorem g_part {G : zG} (hG : G.1 = zProg) {h : zH} {price : Int32} {a : Int32} {b : Int32} {c : Int32} (hs : tSh h)  : tC zTt G 182 [.ref 111, .int price, .int a, .int b, .int c] h (phN 111 4 (((0 ≤ price.toInt ∧ price.toInt ≤ 9999) ∧ (0 ≤ a.toInt ∧ a.toInt ≤ 9999) ∧ (0 ≤ b.toInt ∧ b.toInt ≤ 9999) ∧ (0 ≤ c.toInt ∧ c.toInt ≤ 9999)) ∧ (tvI (tF h 111 4)).toInt ≠ 12) h) := by
  refine tC_in (by rw [hG]; rfl) (fun dp => ?_)
  refine tw_aload rfl rfl ?_
  refine tw_getS rfl (hi_111_4 hs) ?_
  refine tw_push rfl ?_
  refine tw_ic_eq rfl (fun q61 => ?_) (fun q61 => ?_)
  · try dsimp only [tvI_i, tvJ_j, tvR_r] at q61
    have q61i := zeqi (Y := 12) (by decide) q61
    refine tw_push rfl ?_
    exact tw_iret rfl (Or.inr ⟨by omega, rfl, rfl⟩)
  · try dsimp only [tvI_i, tvJ_j, tvR_r] at q61
    have q61i := zneq (Y := 12) (by decide) q61
    refine tw_iload rfl rfl ?_
    refine tw_i2l rfl ?_
    refine tw_push rfl ?_
    refine tw_push rfl ?_
    refine tw_stat3 rfl (f_in hG  (LO := 0) (HI := 9999) (Int32.toInt_toInt64 _) (by decide) (by decide)) (fun w9 h9 p62 => ?_)
    obtain ⟨⟨p62, rfl⟩ | ⟨p62, rfl⟩, rfl⟩ := p62
    · try dsimp only [tvI_i, tvJ_j, tvR_r] at p62
      refine tw_if_eq rfl (fun z => absurd z (by decide)) (fun _ => ?_)
      refine tw_iload rfl rfl ?_
      refine tw_i2l rfl ?_
      refine tw_push rfl ?_
      refine tw_push rfl ?_
      refine tw_stat3 rfl (f_in hG  (LO := 0) (HI := 9999) (Int32.toInt_toInt64 _) (by decide) (by decide)) (fun w9 h9 p63 => ?_)
      obtain ⟨⟨p63, rfl⟩ | ⟨p63, rfl⟩, rfl⟩ := p63
      · try dsimp only [tvI_i, tvJ_j, tvR_r] at p63
        refine tw_if_eq rfl (fun z => absurd z (by decide)) (fun _ => ?_)
        refine tw_iload rfl rfl ?_
        refine tw_i2l rfl ?_
        refine tw_push rfl ?_
        refine tw_push rfl ?_
        refine tw_stat3 rfl (f_in hG  (LO := 0) (HI := 9999) (Int32.toInt_toInt64 _) (by decide) (by decide)) (fun w9 h9 p64 => ?_)
        obtain ⟨⟨p64, rfl⟩ | ⟨p64, rfl⟩, rfl⟩ := p64
        · try dsimp only [tvI_i, tvJ_j, tvR_r] at p64
          refine tw_if_eq rfl (fun z => absurd z (by decide)) (fun _ => ?_)
          refine tw_iload rfl rfl ?_
          refine tw_i2l rfl ?_
          refine tw_push rfl ?_
          refine tw_push rfl ?_
          refine tw_stat3 rfl (f_in hG  (LO := 0) (HI := 9999) (Int32.toInt_toInt64 _) (by decide) (by decide)) (fun w9 h9 p65 => ?_)
          obtain ⟨⟨p65, rfl⟩ | ⟨p65, rfl⟩, rfl⟩ := p65
          · try dsimp only [tvI_i, tvJ_j, tvR_r] at p65
            refine tw_if_ne rfl (fun _ => ?_) (fun z => absurd z (by decide))
            refine tw_aload rfl rfl ?_
            refine tw_getS rfl (hs_111_11 hs) ?_
            refine tw_aload rfl rfl ?_
            refine tw_getS rfl (hi_111_4 hs) ?_
            refine tw_iload rfl rfl ?_
            refine tw_iast rfl (fun f66 => ?_)
            refine tw_aload rfl rfl ?_
            refine tw_getS rfl (hs_111_12 (tSh_SA hs)) ?_
            refine tw_push rfl ?_
            refine tw_aload rfl rfl ?_
            refine tw_getS rfl (tF_a (hi_111_4 hs)) ?_
            refine tw_imul rfl ?_
            refine tw_iload rfl rfl ?_
            refine tw_iast rfl (fun f67 => ?_)
            refine tw_aload rfl rfl ?_
            refine tw_getS rfl (hs_111_12 (tSh_SA (tSh_SA hs))) ?_
            refine tw_push rfl ?_
            refine tw_aload rfl rfl ?_
            refine tw_getS rfl (tF_a (tF_a (hi_111_4 hs))) ?_
            refine tw_imul rfl ?_
            refine tw_push rfl ?_
            refine tw_iadd rfl ?_
            refine tw_iload rfl rfl ?_
            refine tw_iast rfl (fun f68 => ?_)
            refine tw_aload rfl rfl ?_
            refine tw_getS rfl (hs_111_12 (tSh_SA (tSh_SA (tSh_SA hs)))) ?_
            refine tw_push rfl ?_
            refine tw_aload rfl rfl ?_
            refine tw_getS rfl (tF_a (tF_a (tF_a (hi_111_4 hs)))) ?_
            refine tw_imul rfl ?_
            refine tw_push rfl ?_
            refine tw_iadd rfl ?_
            refine tw_iload rfl rfl ?_
            refine tw_iast rfl (fun f69 => ?_)
            refine tw_aload rfl rfl ?_
            refine tw_dup rfl ?_
            refine tw_getS rfl (tF_a (tF_a (tF_a (tF_a (hi_111_4 hs))))) ?_
            refine tw_push rfl ?_
            refine tw_iadd rfl ?_
            refine tw_put rfl (fun f70 => ?_)
            refine tw_aload rfl rfl ?_
            refine tw_getS rfl (tF_same f70) ?_
            refine tw_push rfl ?_
            refine tw_isub rfl ?_
            exact tw_iret rfl (Or.inl ⟨by omega, wret1 (hi_111_4 hs), (tF_same f70)⟩)
          · try dsimp only [tvI_i, tvJ_j, tvR_r] at p65
            refine tw_if_ne rfl (fun z => absurd z (by decide)) (fun _ => ?_)
            refine tw_push rfl ?_
            exact tw_iret rfl (Or.inr ⟨by omega, rfl, rfl⟩)
        · try dsimp only [tvI_i, tvJ_j, tvR_r] at p64
          refine tw_if_eq rfl (fun _ => ?_) (fun z => absurd z (by decide))
          refine tw_push rfl ?_
          exact tw_iret rfl (Or.inr ⟨by omega, rfl, rfl⟩)
      · try dsimp only [tvI_i, tvJ_j, tvR_r] at p63
        refine tw_if_eq rfl (fun _ => ?_) (fun z => absurd z (by decide))
        refine tw_push rfl ?_
        exact tw_iret rfl (Or.inr ⟨by omega, rfl, rfl⟩)
    · try dsimp only [tvI_i, tvJ_j, tvR_r] at p62
      refine tw_if_eq rfl (fun _ => ?_) (fun z => absurd z (by decide))
      refine tw_push rfl ?_
      exact tw_iret rfl (Or.inr ⟨by omega, rfl, rfl⟩)
theorem a_part {price : Int32} {a : Int32} {b : Int32} {c : Int32} {h h2 h3 : zH} {w w2 : Option Value}  (hR : R_parts h) (e1 : tF h2 111 4 = tF h 111 4) (e2 : tF h3 1 7 = tF h2 1 7) (k1 : phN 1 7 (((0 ≤ price.toInt ∧ price.toInt ≤ 9999) ∧ (0 ≤ a.toInt ∧ a.toInt ≤ 9999) ∧ (0 ≤ b.toInt ∧ b.toInt ≤ 9999) ∧ (0 ≤ c.toInt ∧ c.toInt ≤ 9999)) ∧ (tvI (tF h 1 7)).toInt ≠ 12) h w h2) (k2 : phN 111 4 (((0 ≤ price.toInt ∧ price.toInt ≤ 9999) ∧ (0 ≤ a.toInt ∧ a.toInt ≤ 9999) ∧ (0 ≤ b.toInt ∧ b.toInt ≤ 9999) ∧ (0 ≤ c.toInt ∧ c.toInt ≤ 9999)) ∧ (tvI (tF h2 111 4)).toInt ≠ 12) h2 w2 h3) : w2 = w ∧ R_parts h3 := by
  refine phN_a hR e1 e2 ?_ k1 k2
  have hR2 := hR
  unfold R_parts at hR2
  rw [e1, ← hR2]
noncomputable def R_cl (h : zH) : Prop := (∀ i : Nat, (i : Int) < (tvI (tF h 36 4)).toInt → ∃ r, tO h 39 i = some r) ∧ (∀ i j : Nat, (i : Int) < (tvI (tF h 36 4)).toInt → (j : Int) < (tvI (tF h 36 4)).toInt → tO h 39 i = tO h 39 j → i = j)
noncomputable def R_ckind (h : zH) : Prop := ∀ i r : Nat, (i : Int) < (tvI (tF h 36 4)).toInt → tO h 39 i = some r → tF h r 0 = .int (tA h 121 i)
noncomputable def R_cmade (h : zH) : Prop := ∀ i r : Nat, (i : Int) < (tvI (tF h 36 4)).toInt → tO h 39 i = some r → tF h r 1 = .int (tA h 122 i)
noncomputable def R_ctl (h : zH) : Prop := ∀ i r : Nat, (i : Int) < (tvI (tF h 36 4)).toInt → tO h 39 i = some r → tF h r 2 = .int (tA h 123 i)
noncomputable def R_cfo (h : zH) : Prop := ∀ i r : Nat, (i : Int) < (tvI (tF h 36 4)).toInt → tO h 39 i = some r → tF h r 3 = .int (tA h 124 i)
noncomputable def R_cown (h : zH) : Prop := ∀ i r : Nat, (i : Int) < (tvI (tF h 36 4)).toInt → tO h 39 i = some r → tF h r 4 = .int (tA h 125 i)
noncomputable def R_csold (h : zH) : Prop := ∀ i r : Nat, (i : Int) < (tvI (tF h 36 4)).toInt → tO h 39 i = some r → tF h r 5 = .int (tA h 126 i)
noncomputable def R_ccr (h : zH) : Prop := ∀ i r : Nat, (i : Int) < (tvI (tF h 36 4)).toInt → tO h 39 i = some r → tF h r 6 = .int (tA h 127 i)
noncomputable def R_cwr (h : zH) : Prop := ∀ i r : Nat, (i : Int) < (tvI (tF h 36 4)).toInt → tO h 39 i = some r → tF h r 7 = .int (tA h 120 i)
noncomputable def R_cw0 (h : zH) : Prop := ∀ i : Nat, (tvI (tF h 36 4)).toInt ≤ (i : Int) → tA h 120 i = 0
noncomputable def R_cars (h : zH) : Prop := tF h 36 4 = tF h 111 5
theorem tF_ap {h l : zH} {p b : Nat} {w : Value} (hl : p < h.length) (k : tF h p b = w) : tF (h ++ l) p b = w := by
  unfold tF at k ⊢
  rw [List.getElem?_append_left hl]
  exact k
theorem tA_ap {h l : zH} {p : Nat} (hl : p < h.length) : tA (h ++ l) p = tA h p := by
  funext i
  unfold tA
  rw [List.getElem?_append_left hl]
theorem tO_ap {h l : zH} {p : Nat} (hl : p < h.length) : tO (h ++ l) p = tO h p := by
  funext i
  unfold tO
  rw [List.getElem?_append_left hl]
theorem tF_nw {h : zH} {a : Nat} {fs : List Value} {x : zC} {b : Nat} : tF (h ++ [.inr (a, fs), x]) h.length b = fs.getD b .null := by
  unfold tF
  rw [List.getElem?_append_right (Nat.le_refl _), Nat.sub_self]
  rfl
theorem tSh_ap {h l : zH} (hl : 182 ≤ h.length) (k : tSh h) : tSh (h ++ l) := by
  have a1 : tSr.all (fun q => Nat.blt q.1 182) = true := by decide +kernel
  have a2 : tSi.all (fun q => Nat.blt q.1 182) = true := by decide +kernel
  refine ⟨fun q hq => tF_ap ?_ (k.1 q hq), fun q hq => ?_⟩
  · have := Nat.le_of_ble_eq_true (List.all_eq_true.mp a1 q hq)
    omega
  · have := Nat.le_of_ble_eq_true (List.all_eq_true.mp a2 q hq)
    have e : tF (h ++ l) q.1 q.2 = tF h q.1 q.2 := tF_ap (by omega) rfl
    rw [e]
    exact k.2 q hq
theorem f_carInit {G : zG} (hG : G.1 = zProg) {h : zH} {k m o t : Int32} : tC zTt G 0 [.ref h.length, .int k, .int m, .int o, .int t] (h ++ [.inr (0, zcls zTt 0)]) (fun w h2 => w = none ∧ ∃ g : Nat → Int32, (∀ i, i < 12 → g i = 600) ∧ h2 = h ++ [.inr (0, [.int k, .int m, .int t, .int o, .int o, .int m, .int m, .int 0, .int 0, .int 0, .ref (h.length + 1)]), .inl (0, 12, .inl g)]) :=
  tC_of (zcar_init (d := 0) hG (fun g hg => ⟨rfl, g, hg, rfl⟩))
theorem f_hasKind {G : zG} (hG : G.1 = zProg) {h : zH} {n : Int32} (hs : tSh h) : tC zTt G 25 [.ref 1, .int n] h (fun w h2 => tBo (0 ≤ n.toInt ∧ n.toInt < (tvI (tF h 1 6)).toInt) w ∧ h2 = h) := by
  refine tC_in (by rw [hG]; rfl) (fun dp => ?_)
  refine tw_iload rfl rfl ?_
  refine tw_if_lt rfl (fun q71 => ?_) (fun q71 => ?_)
  · try dsimp only [tvI_i, tvJ_j, tvR_r] at q71
    refine tw_push rfl ?_
    exact tw_iret rfl ⟨Or.inr ⟨by omega, rfl⟩, rfl⟩
  · try dsimp only [tvI_i, tvJ_j, tvR_r] at q71
    refine tw_iload rfl rfl ?_
    refine tw_aload rfl rfl ?_
    refine tw_getS rfl (hi_1_6 hs) ?_
    refine tw_ic_ge rfl (fun q72 => ?_) (fun q72 => ?_)
    · try dsimp only [tvI_i, tvJ_j, tvR_r] at q72
      refine tw_push rfl ?_
      exact tw_iret rfl ⟨Or.inr ⟨by omega, rfl⟩, rfl⟩
    · try dsimp only [tvI_i, tvJ_j, tvR_r] at q72
      refine tw_push rfl ?_
      refine tw_goto rfl ?_
      exact tw_iret rfl ⟨Or.inl ⟨by omega, rfl⟩, rfl⟩
theorem f_hasPerson {G : zG} (hG : G.1 = zProg) {h : zH} {n : Int32} (hs : tSh h) : tC zTt G 15 [.ref 36, .int n] h (fun w h2 => tBo (0 ≤ n.toInt ∧ n.toInt < (tvI (tF h 36 2)).toInt) w ∧ h2 = h) := by
  refine tC_in (by rw [hG]; rfl) (fun dp => ?_)
  refine tw_iload rfl rfl ?_
  refine tw_if_lt rfl (fun q73 => ?_) (fun q73 => ?_)
  · try dsimp only [tvI_i, tvJ_j, tvR_r] at q73
    refine tw_push rfl ?_
    exact tw_iret rfl ⟨Or.inr ⟨by omega, rfl⟩, rfl⟩
  · try dsimp only [tvI_i, tvJ_j, tvR_r] at q73
    refine tw_iload rfl rfl ?_
    refine tw_aload rfl rfl ?_
    refine tw_getS rfl (hi_36_2 hs) ?_
    refine tw_ic_ge rfl (fun q74 => ?_) (fun q74 => ?_)
    · try dsimp only [tvI_i, tvJ_j, tvR_r] at q74
      refine tw_push rfl ?_
      exact tw_iret rfl ⟨Or.inr ⟨by omega, rfl⟩, rfl⟩
    · try dsimp only [tvI_i, tvJ_j, tvR_r] at q74
      refine tw_push rfl ?_
      refine tw_goto rfl ?_
      exact tw_iret rfl ⟨Or.inl ⟨by omega, rfl⟩, rfl⟩
theorem f_addCar {G : zG} (hG : G.1 = zProg) {h : zH} {k m o t : Int32} (hs : tSh h) (hl : 182 ≤ h.length) : tC zTt G 20 [.ref 36, .int k, .int m, .int o, .int t] h (fun w h2 => ((tvI (tF h 36 4)).toInt ≠ 300 ∧ w = some (tF h 36 4) ∧ tF h2 36 4 = .int (tvI (tF h 36 4) + 1) ∧ tO h2 39 = (fun j => if j = (tvI (tF h 36 4)).toNatClampNeg then some h.length else tO h 39 j) ∧ (∀ p b, p < h.length → ¬ (p = 36 ∧ b = 4) → tF h2 p b = tF h p b) ∧ tF h2 h.length 0 = .int k ∧ tF h2 h.length 1 = .int m ∧ tF h2 h.length 2 = .int t ∧ tF h2 h.length 3 = .int o ∧ tF h2 h.length 4 = .int o ∧ tF h2 h.length 5 = .int m ∧ tF h2 h.length 6 = .int m ∧ tF h2 h.length 7 = .int 0) ∨ (¬ (tvI (tF h 36 4)).toInt ≠ 300 ∧ w = some (.int (-1)) ∧ h2 = h)) := by
  refine tC_in (by rw [hG]; rfl) (fun dp => ?_)
  refine tw_aload rfl rfl ?_
  refine tw_getS rfl (hi_36_4 hs) ?_
  refine tw_push rfl ?_
  refine tw_ic_ne rfl (fun q75 => ?_) (fun q75 => ?_)
  · try dsimp only [tvI_i, tvJ_j, tvR_r] at q75
    have q75i := zneq (Y := 300) (by decide) q75
    refine tw_aload rfl rfl ?_
    refine tw_getS rfl (hs_36_3 hs) ?_
    refine tw_aload rfl rfl ?_
    refine tw_getS rfl (hi_36_4 hs) ?_
    refine tw_new rfl rfl ?_
    refine tw_dup rfl ?_
    refine tw_iload rfl rfl ?_
    refine tw_iload rfl rfl ?_
    refine tw_iload rfl rfl ?_
    refine tw_iload rfl rfl ?_
    refine tw_spec4 rfl (f_carInit hG) (fun wp76 hp76 p76 => ?_)
    obtain ⟨rfl, p76g, p76h, rfl⟩ := p76
    refine tw_aast rfl (fun f77 => ?_)
    refine tw_aload rfl rfl ?_
    refine tw_dup rfl ?_
    refine tw_getS rfl (tF_o (tF_ap (by omega) (hi_36_4 hs))) ?_
    refine tw_dup_x1 rfl ?_
    refine tw_push rfl ?_
    refine tw_iadd rfl ?_
    refine tw_put rfl (fun f78 => ?_)
    refine tw_iret rfl (Or.inl ⟨by omega, congrArg some (hi_36_4 hs).symm, tF_same f78, ?_, fun p b hp hn => tF_ne hn (tF_o (tF_ap hp rfl)), (tF_ne (by omega) (tF_o tF_nw)), (tF_ne (by omega) (tF_o tF_nw)), (tF_ne (by omega) (tF_o tF_nw)), (tF_ne (by omega) (tF_o tF_nw)), (tF_ne (by omega) (tF_o tF_nw)), (tF_ne (by omega) (tF_o tF_nw)), (tF_ne (by omega) (tF_o tF_nw)), (tF_ne (by omega) (tF_o tF_nw))⟩)
    rw [tO_tSF, tO_tSO f77.cell]
    funext j
    dsimp only
    rw [tO_ap (by omega)]
    by_cases e : j = (tvI (tF h 36 4)).toNatClampNeg
    · rw [if_pos ⟨rfl, e⟩, if_pos e]
    · rw [if_neg (fun z => e z.2), if_neg e]
  · try dsimp only [tvI_i, tvJ_j, tvR_r] at q75
    have q75i := zeqi (Y := 300) (by decide) q75
    refine tw_push rfl ?_
    exact tw_iret rfl (Or.inr ⟨by omega, rfl, rfl⟩)
noncomputable def ph_carc (k m o : Int32) (h : zH) (w : Option Value) (h2 : zH) : Prop := ((((0 ≤ k.toInt ∧ k.toInt < (tvI (tF h 1 6)).toInt) ∧ (0 ≤ m.toInt ∧ m.toInt ≤ (tvI (tF h 0 14)).toInt) ∧ (0 ≤ o.toInt ∧ o.toInt < (tvI (tF h 36 2)).toInt)) ∧ (tvI (tF h 36 4)).toInt ≠ 300) ∧ w = some (tF h 36 4) ∧ tF h2 36 4 = .int (tvI (tF h 36 4) + 1) ∧ tO h2 39 = (fun j => if j = (tvI (tF h 36 4)).toNatClampNeg then some h.length else tO h 39 j) ∧ (∀ p b, p < h.length → ¬ (p = 36 ∧ b = 4) → tF h2 p b = tF h p b) ∧ tF h2 h.length 0 = .int k ∧ tF h2 h.length 1 = .int m ∧ tF h2 h.length 2 = .int (tvI (tF h 0 14)) ∧ tF h2 h.length 3 = .int o ∧ tF h2 h.length 4 = .int o ∧ tF h2 h.length 5 = .int m ∧ tF h2 h.length 6 = .int m ∧ tF h2 h.length 7 = .int 0) ∨ (¬ (((0 ≤ k.toInt ∧ k.toInt < (tvI (tF h 1 6)).toInt) ∧ (0 ≤ m.toInt ∧ m.toInt ≤ (tvI (tF h 0 14)).toInt) ∧ (0 ≤ o.toInt ∧ o.toInt < (tvI (tF h 36 2)).toInt)) ∧ (tvI (tF h 36 4)).toInt ≠ 300) ∧ w = some (.int (-1)) ∧ h2 = h)
theorem f_car {G : zG} (hG : G.1 = zProg) {h : zH} {k m o : Int32} (hs : tSh h) (hl : 182 ≤ h.length) : tC zTt G 116 [.ref 0, .int k, .int m, .int o] h (ph_carc k m o h) := by
  refine tC_in (by rw [hG]; rfl) (fun dp => ?_)
  refine tw_aload rfl rfl ?_
  refine tw_getS rfl (hs_0_0 hs) ?_
  refine tw_iload rfl rfl ?_
  refine tw_virt1 rfl (f_hasKind hG hs) (fun w9 h9 p79 => ?_)
  obtain ⟨⟨p79, rfl⟩ | ⟨p79, rfl⟩, rfl⟩ := p79
  · try dsimp only [tvI_i, tvJ_j, tvR_r] at p79
    refine tw_if_eq rfl (fun z => absurd z (by decide)) (fun _ => ?_)
    refine tw_iload rfl rfl ?_
    refine tw_push rfl ?_
    refine tw_aload rfl rfl ?_
    refine tw_getS rfl (hi_0_14 hs) ?_
    refine tw_stat3 rfl (f_isWithin hG (LO := 0)  (by decide) rfl) (fun w9 h9 p80 => ?_)
    obtain ⟨⟨p80, rfl⟩ | ⟨p80, rfl⟩, rfl⟩ := p80
    · try dsimp only [tvI_i, tvJ_j, tvR_r] at p80
      refine tw_if_eq rfl (fun z => absurd z (by decide)) (fun _ => ?_)
      refine tw_aload rfl rfl ?_
      refine tw_getS rfl (hs_0_1 hs) ?_
      refine tw_iload rfl rfl ?_
      refine tw_virt1 rfl (f_hasPerson hG hs) (fun w9 h9 p81 => ?_)
      obtain ⟨⟨p81, rfl⟩ | ⟨p81, rfl⟩, rfl⟩ := p81
      · try dsimp only [tvI_i, tvJ_j, tvR_r] at p81
        refine tw_if_eq rfl (fun z => absurd z (by decide)) (fun _ => ?_)
        refine tw_push rfl ?_
        refine tw_goto rfl ?_
        refine tw_istore rfl ?_
        refine tw_iload rfl rfl ?_
        refine tw_if_eq rfl (fun z => absurd z (by decide)) (fun _ => ?_)
        refine tw_aload rfl rfl ?_
        refine tw_getS rfl (hs_0_1 hs) ?_
        refine tw_iload rfl rfl ?_
        refine tw_iload rfl rfl ?_
        refine tw_iload rfl rfl ?_
        refine tw_aload rfl rfl ?_
        refine tw_getS rfl (hi_0_14 hs) ?_
        refine tw_virt4 rfl (f_addCar hG hs hl) (fun w9 h9 p82 => ?_)
        rcases p82 with ⟨p82, rfl, p82e⟩ | ⟨p82, rfl, rfl⟩
        · refine tw_goto rfl ?_
          exact tw_iret rfl (Or.inl ⟨by omega, congrArg some (hi_36_4 hs).symm, p82e⟩)
        · refine tw_goto rfl ?_
          exact tw_iret rfl (Or.inr ⟨by omega, rfl, rfl⟩)
      · try dsimp only [tvI_i, tvJ_j, tvR_r] at p81
        refine tw_if_eq rfl (fun _ => ?_) (fun z => absurd z (by decide))
        refine tw_push rfl ?_
        refine tw_istore rfl ?_
        refine tw_iload rfl rfl ?_
        refine tw_if_eq rfl (fun _ => ?_) (fun z => absurd z (by decide))
        refine tw_push rfl ?_
        exact tw_iret rfl (Or.inr ⟨by omega, rfl, rfl⟩)
    · try dsimp only [tvI_i, tvJ_j, tvR_r] at p80
      refine tw_if_eq rfl (fun _ => ?_) (fun z => absurd z (by decide))
      refine tw_push rfl ?_
      refine tw_istore rfl ?_
      refine tw_iload rfl rfl ?_
      refine tw_if_eq rfl (fun _ => ?_) (fun z => absurd z (by decide))
      refine tw_push rfl ?_
      exact tw_iret rfl (Or.inr ⟨by omega, rfl, rfl⟩)
  · try dsimp only [tvI_i, tvJ_j, tvR_r] at p79
    refine tw_if_eq rfl (fun _ => ?_) (fun z => absurd z (by decide))
    refine tw_push rfl ?_
    refine tw_istore rfl ?_
    refine tw_iload rfl rfl ?_
    refine tw_if_eq rfl (fun _ => ?_) (fun z => absurd z (by decide))
    refine tw_push rfl ?_
    exact tw_iret rfl (Or.inr ⟨by omega, rfl, rfl⟩)
theorem g_isKind {G : zG} (hG : G.1 = zProg) {h : zH} {n : Int32} (hs : tSh h) (hk : 0 ≤ (tvI (tF h 111 3)).toInt) : tC zTt G 176 [.ref 111, .int n] h (fun w h2 => tBo (0 ≤ n.toInt ∧ n.toInt < (tvI (tF h 111 3)).toInt) w ∧ h2 = h) := by
  refine tC_in (by rw [hG]; rfl) (fun dp => ?_)
  refine tw_iload rfl rfl ?_
  refine tw_i2l rfl ?_
  refine tw_push rfl ?_
  refine tw_aload rfl rfl ?_
  refine tw_getS rfl (hi_111_3 hs) ?_
  refine tw_push rfl ?_
  refine tw_isub rfl ?_
  refine tw_i2l rfl ?_
  refine tw_stat3 rfl (f_in hG  (LO := 0)  (Int32.toInt_toInt64 _) (by decide) (Int32.toInt_toInt64 _)) (fun w9 h9 p83 => ?_)
  obtain ⟨⟨p83, rfl⟩ | ⟨p83, rfl⟩, rfl⟩ := p83
  · try dsimp only [tvI_i, tvJ_j, tvR_r] at p83
    exact tw_iret rfl ⟨Or.inl ⟨by have e := zsub1 hk; have := p83; omega, rfl⟩, rfl⟩
  · try dsimp only [tvI_i, tvJ_j, tvR_r] at p83
    exact tw_iret rfl ⟨Or.inr ⟨by have e := zsub1 hk; have := p83; omega, rfl⟩, rfl⟩
theorem g_isPerson {G : zG} (hG : G.1 = zProg) {h : zH} {n : Int32} (hs : tSh h) (hk : 0 ≤ (tvI (tF h 111 2)).toInt) : tC zTt G 175 [.ref 111, .int n] h (fun w h2 => tBo (0 ≤ n.toInt ∧ n.toInt < (tvI (tF h 111 2)).toInt) w ∧ h2 = h) := by
  refine tC_in (by rw [hG]; rfl) (fun dp => ?_)
  refine tw_iload rfl rfl ?_
  refine tw_i2l rfl ?_
  refine tw_push rfl ?_
  refine tw_aload rfl rfl ?_
  refine tw_getS rfl (hi_111_2 hs) ?_
  refine tw_push rfl ?_
  refine tw_isub rfl ?_
  refine tw_i2l rfl ?_
  refine tw_stat3 rfl (f_in hG  (LO := 0)  (Int32.toInt_toInt64 _) (by decide) (Int32.toInt_toInt64 _)) (fun w9 h9 p84 => ?_)
  obtain ⟨⟨p84, rfl⟩ | ⟨p84, rfl⟩, rfl⟩ := p84
  · try dsimp only [tvI_i, tvJ_j, tvR_r] at p84
    exact tw_iret rfl ⟨Or.inl ⟨by have e := zsub1 hk; have := p84; omega, rfl⟩, rfl⟩
  · try dsimp only [tvI_i, tvJ_j, tvR_r] at p84
    exact tw_iret rfl ⟨Or.inr ⟨by have e := zsub1 hk; have := p84; omega, rfl⟩, rfl⟩
theorem g_car {G : zG} (hG : G.1 = zProg) {h : zH} {k m o : Int32} (hs : tSh h) (hk3 : 0 ≤ (tvI (tF h 111 3)).toInt) (hk2 : 0 ≤ (tvI (tF h 111 2)).toInt) : tC zTt G 184 [.ref 111, .int k, .int m, .int o] h (phA 111 5 (((0 ≤ k.toInt ∧ k.toInt < (tvI (tF h 111 3)).toInt) ∧ (0 ≤ m.toInt ∧ m.toInt ≤ (tvI (tF h 111 1)).toInt) ∧ (0 ≤ o.toInt ∧ o.toInt < (tvI (tF h 111 2)).toInt)) ∧ (tvI (tF h 111 5)).toInt ≠ 300) [(121, k), (122, m), (123, tvI (tF h 111 1)), (124, o), (125, o), (126, m), (127, m)] h) := by
  refine tC_in (by rw [hG]; rfl) (fun dp => ?_)
  refine tw_aload rfl rfl ?_
  refine tw_getS rfl (hi_111_5 hs) ?_
  refine tw_push rfl ?_
  refine tw_ic_eq rfl (fun q85 => ?_) (fun q85 => ?_)
  · try dsimp only [tvI_i, tvJ_j, tvR_r] at q85
    have q85i := zeqi (Y := 300) (by decide) q85
    refine tw_push rfl ?_
    exact tw_iret rfl (Or.inr ⟨by omega, rfl, rfl, fun _ _ => rfl⟩)
  · try dsimp only [tvI_i, tvJ_j, tvR_r] at q85
    have q85i := zneq (Y := 300) (by decide) q85
    refine tw_aload rfl rfl ?_
    refine tw_iload rfl rfl ?_
    refine tw_virt1 rfl (g_isKind hG hs hk3) (fun w9 h9 p86 => ?_)
    obtain ⟨⟨p86, rfl⟩ | ⟨p86, rfl⟩, rfl⟩ := p86
    · try dsimp only [tvI_i, tvJ_j, tvR_r] at p86
      refine tw_if_eq rfl (fun z => absurd z (by decide)) (fun _ => ?_)
      refine tw_iload rfl rfl ?_
      refine tw_i2l rfl ?_
      refine tw_push rfl ?_
      refine tw_aload rfl rfl ?_
      refine tw_getS rfl (hi_111_1 hs) ?_
      refine tw_i2l rfl ?_
      refine tw_stat3 rfl (f_in hG  (LO := 0)  (Int32.toInt_toInt64 _) (by decide) (Int32.toInt_toInt64 _)) (fun w9 h9 p87 => ?_)
      obtain ⟨⟨p87, rfl⟩ | ⟨p87, rfl⟩, rfl⟩ := p87
      · try dsimp only [tvI_i, tvJ_j, tvR_r] at p87
        refine tw_if_eq rfl (fun z => absurd z (by decide)) (fun _ => ?_)
        refine tw_aload rfl rfl ?_
        refine tw_iload rfl rfl ?_
        refine tw_virt1 rfl (g_isPerson hG hs hk2) (fun w9 h9 p88 => ?_)
        obtain ⟨⟨p88, rfl⟩ | ⟨p88, rfl⟩, rfl⟩ := p88
        · try dsimp only [tvI_i, tvJ_j, tvR_r] at p88
          refine tw_if_ne rfl (fun _ => ?_) (fun z => absurd z (by decide))
          refine tw_aload rfl rfl ?_
          refine tw_getS rfl (hs_111_16 hs) ?_
          refine tw_aload rfl rfl ?_
          refine tw_getS rfl (hi_111_5 hs) ?_
          refine tw_iload rfl rfl ?_
          refine tw_iast rfl (fun f89 => ?_)
          refine tw_aload rfl rfl ?_
          refine tw_getS rfl (hs_111_17 (tSh_SA hs)) ?_
          refine tw_aload rfl rfl ?_
          refine tw_getS rfl (tF_a (hi_111_5 hs)) ?_
          refine tw_iload rfl rfl ?_
          refine tw_iast rfl (fun f90 => ?_)
          refine tw_aload rfl rfl ?_
          refine tw_getS rfl (hs_111_18 (tSh_SA (tSh_SA hs))) ?_
          refine tw_aload rfl rfl ?_
          refine tw_getS rfl (tF_a (tF_a (hi_111_5 hs))) ?_
          refine tw_aload rfl rfl ?_
          refine tw_getS rfl (tF_a (tF_a (hi_111_1 hs))) ?_
          refine tw_iast rfl (fun f91 => ?_)
          refine tw_aload rfl rfl ?_
          refine tw_getS rfl (hs_111_19 (tSh_SA (tSh_SA (tSh_SA hs)))) ?_
          refine tw_aload rfl rfl ?_
          refine tw_getS rfl (tF_a (tF_a (tF_a (hi_111_5 hs)))) ?_
          refine tw_iload rfl rfl ?_
          refine tw_iast rfl (fun f92 => ?_)
          refine tw_aload rfl rfl ?_
          refine tw_getS rfl (hs_111_20 (tSh_SA (tSh_SA (tSh_SA (tSh_SA hs))))) ?_
          refine tw_aload rfl rfl ?_
          refine tw_getS rfl (tF_a (tF_a (tF_a (tF_a (hi_111_5 hs))))) ?_
          refine tw_iload rfl rfl ?_
          refine tw_iast rfl (fun f93 => ?_)
          refine tw_aload rfl rfl ?_
          refine tw_getS rfl (hs_111_21 (tSh_SA (tSh_SA (tSh_SA (tSh_SA (tSh_SA hs)))))) ?_
          refine tw_aload rfl rfl ?_
          refine tw_getS rfl (tF_a (tF_a (tF_a (tF_a (tF_a (hi_111_5 hs)))))) ?_
          refine tw_iload rfl rfl ?_
          refine tw_iast rfl (fun f94 => ?_)
          refine tw_aload rfl rfl ?_
          refine tw_getS rfl (hs_111_22 (tSh_SA (tSh_SA (tSh_SA (tSh_SA (tSh_SA (tSh_SA hs))))))) ?_
          refine tw_aload rfl rfl ?_
          refine tw_getS rfl (tF_a (tF_a (tF_a (tF_a (tF_a (tF_a (hi_111_5 hs))))))) ?_
          refine tw_iload rfl rfl ?_
          refine tw_iast rfl (fun f95 => ?_)
          refine tw_aload rfl rfl ?_
          refine tw_dup rfl ?_
          refine tw_getS rfl (tF_a (tF_a (tF_a (tF_a (tF_a (tF_a (tF_a (hi_111_5 hs)))))))) ?_
          refine tw_push rfl ?_
          refine tw_iadd rfl ?_
          refine tw_put rfl (fun f96 => ?_)
          refine tw_aload rfl rfl ?_
          refine tw_getS rfl (tF_same f96) ?_
          refine tw_push rfl ?_
          refine tw_isub rfl ?_
          exact tw_iret rfl (Or.inl ⟨by omega, wret1 (hi_111_5 hs), (tF_same f96), (fun q hq => by rcases List.mem_cons.mp hq with rfl | hq; (show tA _ 121 = _; exact (tA_ff (tA_n (by decide) (tA_n (by decide) (tA_n (by decide) (tA_n (by decide) (tA_n (by decide) (tA_n (by decide) (tA_st f89 rfl))))))))); rcases List.mem_cons.mp hq with rfl | hq; (show tA _ 122 = _; exact (tA_ff (tA_n (by decide) (tA_n (by decide) (tA_n (by decide) (tA_n (by decide) (tA_n (by decide) (tA_st f90 (tA_n (by decide) rfl))))))))); rcases List.mem_cons.mp hq with rfl | hq; (show tA _ 123 = _; exact (tA_ff (tA_n (by decide) (tA_n (by decide) (tA_n (by decide) (tA_n (by decide) (tA_st f91 (tA_n (by decide) (tA_n (by decide) rfl))))))))); rcases List.mem_cons.mp hq with rfl | hq; (show tA _ 124 = _; exact (tA_ff (tA_n (by decide) (tA_n (by decide) (tA_n (by decide) (tA_st f92 (tA_n (by decide) (tA_n (by decide) (tA_n (by decide) rfl))))))))); rcases List.mem_cons.mp hq with rfl | hq; (show tA _ 125 = _; exact (tA_ff (tA_n (by decide) (tA_n (by decide) (tA_st f93 (tA_n (by decide) (tA_n (by decide) (tA_n (by decide) (tA_n (by decide) rfl))))))))); rcases List.mem_cons.mp hq with rfl | hq; (show tA _ 126 = _; exact (tA_ff (tA_n (by decide) (tA_st f94 (tA_n (by decide) (tA_n (by decide) (tA_n (by decide) (tA_n (by decide) (tA_n (by decide) rfl))))))))); rcases List.mem_cons.mp hq with rfl | hq; (show tA _ 127 = _; exact (tA_ff (tA_st f95 (tA_n (by decide) (tA_n (by decide) (tA_n (by decide) (tA_n (by decide) (tA_n (by decide) (tA_n (by decide) rfl))))))))); cases hq)⟩)
        · try dsimp only [tvI_i, tvJ_j, tvR_r] at p88
          refine tw_if_ne rfl (fun z => absurd z (by decide)) (fun _ => ?_)
          refine tw_push rfl ?_
          exact tw_iret rfl (Or.inr ⟨by omega, rfl, rfl, fun _ _ => rfl⟩)
      · try dsimp only [tvI_i, tvJ_j, tvR_r] at p87
        refine tw_if_eq rfl (fun _ => ?_) (fun z => absurd z (by decide))
        refine tw_push rfl ?_
        exact tw_iret rfl (Or.inr ⟨by omega, rfl, rfl, fun _ _ => rfl⟩)
    · try dsimp only [tvI_i, tvJ_j, tvR_r] at p86
      refine tw_if_eq rfl (fun _ => ?_) (fun z => absurd z (by decide))
      refine tw_push rfl ?_
      exact tw_iret rfl (Or.inr ⟨by omega, rfl, rfl, fun _ _ => rfl⟩)
theorem a_car {xs : Nat → Int32} {τ τ2 : List Nat} {k m o : Int32} {h h2 h3 : zH} {w w2 : Option Value} (hB : zBs xs τ h) (hB2 : zBs xs τ2 h2) (hK : R_kinds h) (hW : R_now h) (hP : R_people h) (hR : R_cars h) (hL : R_cl h) (h_ckind : R_ckind h) (o_ckind : tA h2 121 = tA h 121) (h_cmade : R_cmade h) (o_cmade : tA h2 122 = tA h 122) (h_ctl : R_ctl h) (o_ctl : tA h2 123 = tA h 123) (h_cfo : R_cfo h) (o_cfo : tA h2 124 = tA h 124) (h_cown : R_cown h) (o_cown : tA h2 125 = tA h 125) (h_csold : R_csold h) (o_csold : tA h2 126 = tA h 126) (h_ccr : R_ccr h) (o_ccr : tA h2 127 = tA h 127) (h_cwr : R_cwr h) (o_cwr : tA h2 120 = tA h 120) (e1 : tF h2 111 5 = tF h 111 5) (e3 : tF h2 111 3 = tF h 111 3) (e4 : tF h2 111 1 = tF h 111 1) (e5 : tF h2 111 2 = tF h 111 2) (e2 : tF h3 36 4 = tF h2 36 4) (e6 : tO h3 39 = tO h2 39) (e7 : ∀ i r f : Nat, (i : Int) < (tvI (tF h2 36 4)).toInt → tO h2 39 i = some r → tF h3 r f = tF h2 r f) (hwr : R_cw0 h) (o9 : tA h3 120 = tA h2 120) (k1 : ph_carc k m o h w h2) (k2 : phA 111 5 (((0 ≤ k.toInt ∧ k.toInt < (tvI (tF h2 111 3)).toInt) ∧ (0 ≤ m.toInt ∧ m.toInt ≤ (tvI (tF h2 111 1)).toInt) ∧ (0 ≤ o.toInt ∧ o.toInt < (tvI (tF h2 111 2)).toInt)) ∧ (tvI (tF h2 111 5)).toInt ≠ 300) [(121, k), (122, m), (123, tvI (tF h2 111 1)), (124, o), (125, o), (126, m), (127, m)] h2 w2 h3) : w2 = w ∧ R_cars h3 ∧ R_cl h3 ∧ R_ckind h3 ∧ R_cmade h3 ∧ R_ctl h3 ∧ R_cfo h3 ∧ R_cown h3 ∧ R_csold h3 ∧ R_ccr h3 ∧ R_cwr h3 ∧ R_cw0 h3 := by
  unfold R_kinds at hK
  unfold R_now at hW
  unfold R_people at hP
  have hR0 := hR
  unfold R_cars at hR0
  rw [e1, e3, e4, e5, ← hK, ← hW, ← hP, ← hR0] at k2
  have n1 := (kb_36_4 hB).1
  have n2 := (kb_36_4 hB).2
  rcases k1 with ⟨c1, rfl, f1, g1, g2, f_ckind, f_cmade, f_ctl, f_cfo, f_cown, f_csold, f_ccr, f_cwr⟩ | ⟨c1, rfl, rfl⟩ <;> rcases k2 with ⟨c2, rfl, f2, q2⟩ | ⟨c2, rfl, f2, q2⟩
  · have hc : R_cars h3 := by
      unfold R_cars
      rw [e2, f1, f2, e1, ← hR0]
    have en : (tvI (tF h3 36 4)).toInt = (tvI (tF h 36 4)).toInt + 1 := by
      rw [e2, f1]
      show (tvI (tF h 36 4) + 1).toInt = _
      rw [Int32.toInt_add]
      exact Int.bmod_eq_of_le (by show (-2147483648 : Int) ≤ (tvI (tF h 36 4)).toInt + 1; omega) (by show (tvI (tF h 36 4)).toInt + 1 < (2147483648 : Int); omega)
    have en2 : (tvI (tF h2 36 4)).toInt = (tvI (tF h 36 4)).toInt + 1 := by rw [← e2]; exact en
    have eo : tO h3 39 = fun j => if j = (tvI (tF h 36 4)).toNatClampNeg then some h.length else tO h 39 j := by rw [e6, g1]
    have hnc : ((tvI (tF h 36 4)).toNatClampNeg : Int) = (tvI (tF h 36 4)).toInt := by rw [zclE]; omega
    have hL3 : R_cl h3 := by
      unfold R_cl
      rw [en, eo]
      refine ⟨fun i hi => ?_, fun i j hi hj e => ?_⟩
      · dsimp only
        by_cases z : i = (tvI (tF h 36 4)).toNatClampNeg
        · rw [if_pos z]; exact ⟨_, rfl⟩
        · rw [if_neg z]; exact hL.1 i (by omega)
      · dsimp only at e
        by_cases z : i = (tvI (tF h 36 4)).toNatClampNeg
        · by_cases z2 : j = (tvI (tF h 36 4)).toNatClampNeg
          · omega
          · rw [if_pos z, if_neg z2] at e
            have := car_lt hB (i := j) (r := h.length) (by omega) e.symm
            omega
        · by_cases z2 : j = (tvI (tF h 36 4)).toNatClampNeg
          · rw [if_neg z, if_pos z2] at e
            have := car_lt hB (i := i) (r := h.length) (by omega) e
            omega
          · rw [if_neg z, if_neg z2] at e
            exact hL.2 i j (by omega) (by omega) e
    have H_ckind : R_ckind h3 := by
      intro i r hi hr
      rw [en] at hi
      have hr2 := hr
      rw [e6] at hr2
      rw [e7 i r 0 (by omega) hr2, q2 (121, k) (by simp), e1, ← hR0]
      rw [eo] at hr
      dsimp only at hr ⊢
      by_cases z : i = (tvI (tF h 36 4)).toNatClampNeg
      · rw [if_pos z] at hr
        cases hr
        rw [if_pos z]
        exact f_ckind
      · rw [if_neg z] at hr
        have hi2 : (i : Int) < (tvI (tF h 36 4)).toInt := by omega
        rw [if_neg z, g2 r 0 (car_lt hB hi2 hr) (fun y => car_ne hB hi2 hr (p := 36) (t := 12) rfl (by decide) y.1), o_ckind]
        exact h_ckind i r hi2 hr
    have H_cmade : R_cmade h3 := by
      intro i r hi hr
      rw [en] at hi
      have hr2 := hr
      rw [e6] at hr2
      rw [e7 i r 1 (by omega) hr2, q2 (122, m) (by simp), e1, ← hR0]
      rw [eo] at hr
      dsimp only at hr ⊢
      by_cases z : i = (tvI (tF h 36 4)).toNatClampNeg
      · rw [if_pos z] at hr
        cases hr
        rw [if_pos z]
        exact f_cmade
      · rw [if_neg z] at hr
        have hi2 : (i : Int) < (tvI (tF h 36 4)).toInt := by omega
        rw [if_neg z, g2 r 1 (car_lt hB hi2 hr) (fun y => car_ne hB hi2 hr (p := 36) (t := 12) rfl (by decide) y.1), o_cmade]
        exact h_cmade i r hi2 hr
    have H_ctl : R_ctl h3 := by
      intro i r hi hr
      rw [en] at hi
      have hr2 := hr
      rw [e6] at hr2
      rw [e7 i r 2 (by omega) hr2, q2 (123, tvI (tF h 0 14)) (by simp), e1, ← hR0]
      rw [eo] at hr
      dsimp only at hr ⊢
      by_cases z : i = (tvI (tF h 36 4)).toNatClampNeg
      · rw [if_pos z] at hr
        cases hr
        rw [if_pos z]
        exact f_ctl
      · rw [if_neg z] at hr
        have hi2 : (i : Int) < (tvI (tF h 36 4)).toInt := by omega
        rw [if_neg z, g2 r 2 (car_lt hB hi2 hr) (fun y => car_ne hB hi2 hr (p := 36) (t := 12) rfl (by decide) y.1), o_ctl]
        exact h_ctl i r hi2 hr
    have H_cfo : R_cfo h3 := by
      intro i r hi hr
      rw [en] at hi
      have hr2 := hr
      rw [e6] at hr2
      rw [e7 i r 3 (by omega) hr2, q2 (124, o) (by simp), e1, ← hR0]
      rw [eo] at hr
      dsimp only at hr ⊢
      by_cases z : i = (tvI (tF h 36 4)).toNatClampNeg
      · rw [if_pos z] at hr
        cases hr
        rw [if_pos z]
        exact f_cfo
      · rw [if_neg z] at hr
        have hi2 : (i : Int) < (tvI (tF h 36 4)).toInt := by omega
        rw [if_neg z, g2 r 3 (car_lt hB hi2 hr) (fun y => car_ne hB hi2 hr (p := 36) (t := 12) rfl (by decide) y.1), o_cfo]
        exact h_cfo i r hi2 hr
    have H_cown : R_cown h3 := by
      intro i r hi hr
      rw [en] at hi
      have hr2 := hr
      rw [e6] at hr2
      rw [e7 i r 4 (by omega) hr2, q2 (125, o) (by simp), e1, ← hR0]
      rw [eo] at hr
      dsimp only at hr ⊢
      by_cases z : i = (tvI (tF h 36 4)).toNatClampNeg
      · rw [if_pos z] at hr
        cases hr
        rw [if_pos z]
        exact f_cown
      · rw [if_neg z] at hr
        have hi2 : (i : Int) < (tvI (tF h 36 4)).toInt := by omega
        rw [if_neg z, g2 r 4 (car_lt hB hi2 hr) (fun y => car_ne hB hi2 hr (p := 36) (t := 12) rfl (by decide) y.1), o_cown]
        exact h_cown i r hi2 hr
    have H_csold : R_csold h3 := by
      intro i r hi hr
      rw [en] at hi
      have hr2 := hr
      rw [e6] at hr2
      rw [e7 i r 5 (by omega) hr2, q2 (126, m) (by simp), e1, ← hR0]
      rw [eo] at hr
      dsimp only at hr ⊢
      by_cases z : i = (tvI (tF h 36 4)).toNatClampNeg
      · rw [if_pos z] at hr
        cases hr
        rw [if_pos z]
        exact f_csold
      · rw [if_neg z] at hr
        have hi2 : (i : Int) < (tvI (tF h 36 4)).toInt := by omega
        rw [if_neg z, g2 r 5 (car_lt hB hi2 hr) (fun y => car_ne hB hi2 hr (p := 36) (t := 12) rfl (by decide) y.1), o_csold]
        exact h_csold i r hi2 hr
    have H_ccr : R_ccr h3 := by
      intro i r hi hr
      rw [en] at hi
      have hr2 := hr
      rw [e6] at hr2
      rw [e7 i r 6 (by omega) hr2, q2 (127, m) (by simp), e1, ← hR0]
      rw [eo] at hr
      dsimp only at hr ⊢
      by_cases z : i = (tvI (tF h 36 4)).toNatClampNeg
      · rw [if_pos z] at hr
        cases hr
        rw [if_pos z]
        exact f_ccr
      · rw [if_neg z] at hr
        have hi2 : (i : Int) < (tvI (tF h 36 4)).toInt := by omega
        rw [if_neg z, g2 r 6 (car_lt hB hi2 hr) (fun y => car_ne hB hi2 hr (p := 36) (t := 12) rfl (by decide) y.1), o_ccr]
        exact h_ccr i r hi2 hr
    have H_cw0 : R_cw0 h3 := by
      intro i hi
      rw [en] at hi
      rw [o9, o_cwr]
      exact hwr i (by omega)
    have H_cwr : R_cwr h3 := by
      intro i r hi hr
      rw [en] at hi
      have hr2 := hr
      rw [e6] at hr2
      rw [e7 i r 7 (by omega) hr2, o9, o_cwr]
      rw [eo] at hr
      dsimp only at hr
      by_cases z : i = (tvI (tF h 36 4)).toNatClampNeg
      · rw [if_pos z] at hr
        cases hr
        rw [hwr i (by omega)]
        exact f_cwr
      · rw [if_neg z] at hr
        have hi2 : (i : Int) < (tvI (tF h 36 4)).toInt := by omega
        rw [g2 r 7 (car_lt hB hi2 hr) (fun y => car_ne hB hi2 hr (p := 36) (t := 12) rfl (by decide) y.1)]
        exact h_cwr i r hi2 hr
    exact ⟨by rw [e1, ← hR0], hc, hL3, H_ckind, H_cmade, H_ctl, H_cfo, H_cown, H_csold, H_ccr, H_cwr, H_cw0⟩
  · exact absurd c1 c2
  · exact absurd c2 c1
  · have hc : R_cars h3 := by
      unfold R_cars
      rw [e2, f2]
      exact hR0
    have hL3 : R_cl h3 := by unfold R_cl; rw [e2, e6]; exact hL
    have H_ckind : R_ckind h3 := by
      intro i r hi hr
      rw [e2] at hi
      rw [e6] at hr
      rw [e7 i r 0 hi hr, q2 (121, k) (by simp)]
      exact h_ckind i r hi hr
    have H_cmade : R_cmade h3 := by
      intro i r hi hr
      rw [e2] at hi
      rw [e6] at hr
      rw [e7 i r 1 hi hr, q2 (122, m) (by simp)]
      exact h_cmade i r hi hr
    have H_ctl : R_ctl h3 := by
      intro i r hi hr
      rw [e2] at hi
      rw [e6] at hr
      rw [e7 i r 2 hi hr, q2 (123, tvI (tF h2 0 14)) (by simp)]
      exact h_ctl i r hi hr
    have H_cfo : R_cfo h3 := by
      intro i r hi hr
      rw [e2] at hi
      rw [e6] at hr
      rw [e7 i r 3 hi hr, q2 (124, o) (by simp)]
      exact h_cfo i r hi hr
    have H_cown : R_cown h3 := by
      intro i r hi hr
      rw [e2] at hi
      rw [e6] at hr
      rw [e7 i r 4 hi hr, q2 (125, o) (by simp)]
      exact h_cown i r hi hr
    have H_csold : R_csold h3 := by
      intro i r hi hr
      rw [e2] at hi
      rw [e6] at hr
      rw [e7 i r 5 hi hr, q2 (126, m) (by simp)]
      exact h_csold i r hi hr
    have H_ccr : R_ccr h3 := by
      intro i r hi hr
      rw [e2] at hi
      rw [e6] at hr
      rw [e7 i r 6 hi hr, q2 (127, m) (by simp)]
      exact h_ccr i r hi hr
    have H_cw0 : R_cw0 h3 := by
      intro i hi
      rw [e2] at hi
      rw [o9]
      exact hwr i hi
    have H_cwr : R_cwr h3 := by
      intro i r hi hr
      rw [e2] at hi
      rw [e6] at hr
      rw [e7 i r 7 hi hr, o9]
      exact h_cwr i r hi hr
    exact ⟨rfl, hc, hL3, H_ckind, H_cmade, H_ctl, H_cfo, H_cown, H_csold, H_ccr, H_cwr, H_cw0⟩
noncomputable def R_crb (h : zH) : Prop := ∀ i r : Nat, (i : Int) < (tvI (tF h 36 4)).toInt → tO h 39 i = some r → tF h r 8 = .int (tvI (tF h r 8)) ∧ ∀ c, c < 20 → (bI (tvI (tF h r 8)) c ↔ ¬ tA h 178 (300 * c + i) = 0)
noncomputable def R_cr0 (h : zH) : Prop := ∀ i c : Nat, (tvI (tF h 36 4)).toInt ≤ (i : Int) → i < 300 → c < 20 → tA h 178 (300 * c + i) = 0
noncomputable def R_cmb (h : zH) : Prop := ∀ i r : Nat, (i : Int) < (tvI (tF h 36 4)).toInt → tO h 39 i = some r → tF h r 9 = .int (tvI (tF h r 9)) ∧ ∀ c, c < 20 → (bI (tvI (tF h r 9)) c ↔ ¬ tA h 177 (300 * c + i) = 0)
noncomputable def R_cm0 (h : zH) : Prop := ∀ i c : Nat, (tvI (tF h 36 4)).toInt ≤ (i : Int) → i < 300 → c < 20 → tA h 177 (300 * c + i) = 0
noncomputable def R_crc (h : zH) : Prop := ∀ i c : Nat, i < 300 → c < 20 → ¬ tA h 178 (300 * c + i) = 0 → (c : Int) < (tvI (tF h 111 83)).toInt ∧ tA h 121 i = tA h 173 c ∧ (tA h 174 c).toInt ≤ (tA h 122 i).toInt ∧ (tA h 122 i).toInt ≤ (tA h 175 c).toInt
noncomputable def R_cpp (h : zH) : Prop := ∀ i r : Nat, (i : Int) < (tvI (tF h 36 4)).toInt → tO h 39 i = some r → tF h r 10 = .ref (r + 1)
noncomputable def R_lowc (h : zH) : Prop := ∀ k : Nat, (k : Int) < (tvI (tF h 111 6)).toInt → ((tA h 128 k).toNatClampNeg : Int) < (tvI (tF h 111 5)).toInt
noncomputable def R_lowo (h : zH) : Prop := ∀ i : Nat, (i : Int) < (tvI (tF h 111 5)).toInt → tA h 125 i = sLo (tA h 128) (tA h 129) i (tA h 124 i) (tvI (tF h 111 6)).toNatClampNeg
theorem tA_nw {h : zH} {x : zC} {k N : Nat} {g : Nat → Int32} : tA (h ++ [x, .inl (k, N, .inl g)]) (h.length + 1) = g := by
  funext i
  unfold tA
  rw [List.getElem?_append_right (by omega), show h.length + 1 - h.length = 1 by omega]
  rfl
theorem f_addCarX {G : zG} (hG : G.1 = zProg) {h : zH} {k m o t : Int32} (hs : tSh h) (hl : 182 ≤ h.length) : tC zTt G 20 [.ref 36, .int k, .int m, .int o, .int t] h (fun w h2 => ((tvI (tF h 36 4)).toInt ≠ 300 ∧ (∃ x, w = some (.int x)) ∧ tF h2 h.length 8 = .int 0 ∧ tF h2 h.length 9 = .int 0 ∧ tF h2 h.length 10 = .ref (h.length + 1) ∧ ∀ i, i < 12 → tA h2 (h.length + 1) i = 600) ∨ (¬ (tvI (tF h 36 4)).toInt ≠ 300 ∧ (∃ x, w = some (.int x)))) := by
  refine tC_in (by rw [hG]; rfl) (fun dp => ?_)
  refine tw_aload rfl rfl ?_
  refine tw_getS rfl (hi_36_4 hs) ?_
  refine tw_push rfl ?_
  refine tw_ic_ne rfl (fun q97 => ?_) (fun q97 => ?_)
  · try dsimp only [tvI_i, tvJ_j, tvR_r] at q97
    have q97i := zneq (Y := 300) (by decide) q97
    refine tw_aload rfl rfl ?_
    refine tw_getS rfl (hs_36_3 hs) ?_
    refine tw_aload rfl rfl ?_
    refine tw_getS rfl (hi_36_4 hs) ?_
    refine tw_new rfl rfl ?_
    refine tw_dup rfl ?_
    refine tw_iload rfl rfl ?_
    refine tw_iload rfl rfl ?_
    refine tw_iload rfl rfl ?_
    refine tw_iload rfl rfl ?_
    refine tw_spec4 rfl (f_carInit hG) (fun wp98 hp98 p98 => ?_)
    obtain ⟨rfl, p98g, p98h, rfl⟩ := p98
    refine tw_aast rfl (fun f99 => ?_)
    refine tw_aload rfl rfl ?_
    refine tw_dup rfl ?_
    refine tw_getS rfl (tF_o (tF_ap (by omega) (hi_36_4 hs))) ?_
    refine tw_dup_x1 rfl ?_
    refine tw_push rfl ?_
    refine tw_iadd rfl ?_
    refine tw_put rfl (fun f100 => ?_)
    exact tw_iret rfl (Or.inl ⟨by omega, ⟨_, rfl⟩, (tF_ne (by omega) (tF_o tF_nw)), (tF_ne (by omega) (tF_o tF_nw)), (tF_ne (by omega) (tF_o tF_nw)), fun i hi => by rw [tA_tSF, tA_tSO, tA_nw]; exact p98h i hi⟩)
  · try dsimp only [tvI_i, tvJ_j, tvR_r] at q97
    have q97i := zeqi (Y := 300) (by decide) q97
    refine tw_push rfl ?_
    exact tw_iret rfl (Or.inr ⟨by omega, _, rfl⟩)
theorem f_carX {G : zG} (hG : G.1 = zProg) {h : zH} {k m o : Int32} (hs : tSh h) (hl : 182 ≤ h.length) : tC zTt G 116 [.ref 0, .int k, .int m, .int o] h (fun w h2 => ((((0 ≤ k.toInt ∧ k.toInt < (tvI (tF h 1 6)).toInt) ∧ (0 ≤ m.toInt ∧ m.toInt ≤ (tvI (tF h 0 14)).toInt) ∧ (0 ≤ o.toInt ∧ o.toInt < (tvI (tF h 36 2)).toInt)) ∧ (tvI (tF h 36 4)).toInt ≠ 300) ∧ tF h2 h.length 8 = .int 0 ∧ tF h2 h.length 9 = .int 0 ∧ tF h2 h.length 10 = .ref (h.length + 1) ∧ ∀ i, i < 12 → tA h2 (h.length + 1) i = 600) ∨ ¬ (((0 ≤ k.toInt ∧ k.toInt < (tvI (tF h 1 6)).toInt) ∧ (0 ≤ m.toInt ∧ m.toInt ≤ (tvI (tF h 0 14)).toInt) ∧ (0 ≤ o.toInt ∧ o.toInt < (tvI (tF h 36 2)).toInt)) ∧ (tvI (tF h 36 4)).toInt ≠ 300)) := by
  refine tC_in (by rw [hG]; rfl) (fun dp => ?_)
  refine tw_aload rfl rfl ?_
  refine tw_getS rfl (hs_0_0 hs) ?_
  refine tw_iload rfl rfl ?_
  refine tw_virt1 rfl (f_hasKind hG hs) (fun w9 h9 p101 => ?_)
  obtain ⟨⟨p101, rfl⟩ | ⟨p101, rfl⟩, rfl⟩ := p101
  · try dsimp only [tvI_i, tvJ_j, tvR_r] at p101
    refine tw_if_eq rfl (fun z => absurd z (by decide)) (fun _ => ?_)
    refine tw_iload rfl rfl ?_
    refine tw_push rfl ?_
    refine tw_aload rfl rfl ?_
    refine tw_getS rfl (hi_0_14 hs) ?_
    refine tw_stat3 rfl (f_isWithin hG (LO := 0)  (by decide) rfl) (fun w9 h9 p102 => ?_)
    obtain ⟨⟨p102, rfl⟩ | ⟨p102, rfl⟩, rfl⟩ := p102
    · try dsimp only [tvI_i, tvJ_j, tvR_r] at p102
      refine tw_if_eq rfl (fun z => absurd z (by decide)) (fun _ => ?_)
      refine tw_aload rfl rfl ?_
      refine tw_getS rfl (hs_0_1 hs) ?_
      refine tw_iload rfl rfl ?_
      refine tw_virt1 rfl (f_hasPerson hG hs) (fun w9 h9 p103 => ?_)
      obtain ⟨⟨p103, rfl⟩ | ⟨p103, rfl⟩, rfl⟩ := p103
      · try dsimp only [tvI_i, tvJ_j, tvR_r] at p103
        refine tw_if_eq rfl (fun z => absurd z (by decide)) (fun _ => ?_)
        refine tw_push rfl ?_
        refine tw_goto rfl ?_
        refine tw_istore rfl ?_
        refine tw_iload rfl rfl ?_
        refine tw_if_eq rfl (fun z => absurd z (by decide)) (fun _ => ?_)
        refine tw_aload rfl rfl ?_
        refine tw_getS rfl (hs_0_1 hs) ?_
        refine tw_iload rfl rfl ?_
        refine tw_iload rfl rfl ?_
        refine tw_iload rfl rfl ?_
        refine tw_aload rfl rfl ?_
        refine tw_getS rfl (hi_0_14 hs) ?_
        refine tw_virt4 rfl (f_addCarX hG hs hl) (fun w9 h9 p104 => ?_)
        rcases p104 with ⟨p104, ⟨_, rfl⟩, p104e⟩ | ⟨p104, ⟨_, rfl⟩⟩
        · refine tw_goto rfl ?_
          exact tw_iret rfl (Or.inl ⟨by omega, p104e⟩)
        · refine tw_goto rfl ?_
          exact tw_iret rfl (Or.inr (by omega))
      · try dsimp only [tvI_i, tvJ_j, tvR_r] at p103
        refine tw_if_eq rfl (fun _ => ?_) (fun z => absurd z (by decide))
        refine tw_push rfl ?_
        refine tw_istore rfl ?_
        refine tw_iload rfl rfl ?_
        refine tw_if_eq rfl (fun _ => ?_) (fun z => absurd z (by decide))
        refine tw_push rfl ?_
        exact tw_iret rfl (Or.inr (by omega))
    · try dsimp only [tvI_i, tvJ_j, tvR_r] at p102
      refine tw_if_eq rfl (fun _ => ?_) (fun z => absurd z (by decide))
      refine tw_push rfl ?_
      refine tw_istore rfl ?_
      refine tw_iload rfl rfl ?_
      refine tw_if_eq rfl (fun _ => ?_) (fun z => absurd z (by decide))
      refine tw_push rfl ?_
      exact tw_iret rfl (Or.inr (by omega))
  · try dsimp only [tvI_i, tvJ_j, tvR_r] at p101
    refine tw_if_eq rfl (fun _ => ?_) (fun z => absurd z (by decide))
    refine tw_push rfl ?_
    refine tw_istore rfl ?_
    refine tw_iload rfl rfl ?_
    refine tw_if_eq rfl (fun _ => ?_) (fun z => absurd z (by decide))
    refine tw_push rfl ?_
    exact tw_iret rfl (Or.inr (by omega))
noncomputable def ph_carX (k m o : Int32) (h : zH) (w : Option Value) (h2 : zH) : Prop := ph_carc k m o h w h2 ∧ (((((0 ≤ k.toInt ∧ k.toInt < (tvI (tF h 1 6)).toInt) ∧ (0 ≤ m.toInt ∧ m.toInt ≤ (tvI (tF h 0 14)).toInt) ∧ (0 ≤ o.toInt ∧ o.toInt < (tvI (tF h 36 2)).toInt)) ∧ (tvI (tF h 36 4)).toInt ≠ 300) ∧ tF h2 h.length 8 = .int 0 ∧ tF h2 h.length 9 = .int 0 ∧ tF h2 h.length 10 = .ref (h.length + 1) ∧ ∀ i, i < 12 → tA h2 (h.length + 1) i = 600) ∨ ¬ (((0 ≤ k.toInt ∧ k.toInt < (tvI (tF h 1 6)).toInt) ∧ (0 ≤ m.toInt ∧ m.toInt ≤ (tvI (tF h 0 14)).toInt) ∧ (0 ≤ o.toInt ∧ o.toInt < (tvI (tF h 36 2)).toInt)) ∧ (tvI (tF h 36 4)).toInt ≠ 300))
theorem car_cases {xs : Nat → Int32} {τ : List Nat} {k m o : Int32} {h h2 h3 : zH} {w : Option Value} (hB : zBs xs τ h) (e2 : tF h3 36 4 = tF h2 36 4) (e6 : tO h3 39 = tO h2 39) (e7 : ∀ i r f : Nat, (i : Int) < (tvI (tF h2 36 4)).toInt → tO h2 39 i = some r → tF h3 r f = tF h2 r f) (k1 : ph_carX k m o h w h2) :
    (tvI (tF h 36 4)).toInt ≤ (tvI (tF h3 36 4)).toInt ∧ (∀ i r : Nat, (i : Int) < (tvI (tF h3 36 4)).toInt → tO h3 39 i = some r → (((i : Int) < (tvI (tF h 36 4)).toInt ∧ tO h 39 i = some r ∧ ∀ f, tF h3 r f = tF h r f) ∨ ((i : Int) = (tvI (tF h 36 4)).toInt ∧ r = h.length ∧ (tvI (tF h3 36 4)).toInt = (tvI (tF h 36 4)).toInt + 1 ∧ tF h3 r 8 = .int 0 ∧ tF h3 r 9 = .int 0 ∧ tF h3 r 10 = .ref (r + 1) ∧ ∀ i, i < 12 → tA h2 (r + 1) i = 600))) := by
  have n1 := (kb_36_4 hB).1
  have n2 := (kb_36_4 hB).2
  obtain ⟨k1, k2⟩ := k1
  rcases k1 with ⟨c1, -, f1, g1, g2, -⟩ | ⟨c1, -, rfl⟩
  · rcases k2 with ⟨-, d8, d9, d10, dA⟩ | k2
    · have en : (tvI (tF h3 36 4)).toInt = (tvI (tF h 36 4)).toInt + 1 := by
        rw [e2, f1]
        exact (zincN (n := (tvI (tF h 36 4)).toInt.toNat) (by omega) (by omega)).trans (by omega)
      have en2 : (tvI (tF h2 36 4)).toInt = (tvI (tF h 36 4)).toInt + 1 := by rw [← e2]; exact en
      refine ⟨by omega, fun i r hi hr => ?_⟩
      have e8 : ∀ f, tF h3 r f = tF h2 r f := fun f => e7 i r f (by omega) (by rw [← e6]; exact hr)
      rw [e6, g1] at hr
      dsimp only at hr
      by_cases z : i = (tvI (tF h 36 4)).toNatClampNeg
      · rw [if_pos z] at hr
        cases hr
        exact Or.inr ⟨by rw [z, zclE]; omega, rfl, en, (e8 8).trans d8, (e8 9).trans d9, (e8 10).trans d10, dA⟩
      · rw [if_neg z] at hr
        rw [zclE] at z
        have hi2 : (i : Int) < (tvI (tF h 36 4)).toInt := by omega
        exact Or.inl ⟨hi2, hr, fun f => (e8 f).trans (g2 r f (car_lt hB hi2 hr) (fun y => car_ne hB hi2 hr (p := 36) (t := 12) rfl (by decide) y.1))⟩
    · exact absurd c1 k2
  · refine ⟨by rw [e2]; exact Int.le_refl _, fun i r hi hr => ?_⟩
    rw [e2] at hi
    rw [e6] at hr
    exact Or.inl ⟨hi, hr, fun f => e7 i r f hi hr⟩
/-- the arrays at other places than the next one
-/
noncomputable def carKp (h h3 : zH) : Prop := ∀ p, (p = 121 ∨ p = 122 ∨ p = 124 ∨ p = 125) → ∀ i : Nat, (i : Int) ≠ (tvI (tF h 111 5)).toInt → tA h3 p i = tA h p i
theorem keep_car {C : Prop} {k m o : Int32} {h h2 h3 : zH} {w2 : Option Value} (hn : 0 ≤ (tvI (tF h 111 5)).toInt ∧ (tvI (tF h 111 5)).toInt ≤ 300) (e1 : tF h2 111 5 = tF h 111 5) (u1 : tA h2 121 = tA h 121) (u2 : tA h2 122 = tA h 122) (u3 : tA h2 124 = tA h 124) (u4 : tA h2 125 = tA h 125) (k2 : phA 111 5 C [(121, k), (122, m), (123, tvI (tF h2 111 1)), (124, o), (125, o), (126, m), (127, m)] h2 w2 h3) : carKp h h3 ∧ ((tF h3 111 5 = .int (tvI (tF h 111 5) + 1) ∧ (tvI (tF h3 111 5)).toInt = (tvI (tF h 111 5)).toInt + 1 ∧ tA h3 124 (tvI (tF h 111 5)).toNatClampNeg = o ∧ tA h3 125 (tvI (tF h 111 5)).toNatClampNeg = o) ∨ (tF h3 111 5 = tF h 111 5 ∧ tA h3 121 = tA h 121 ∧ tA h3 122 = tA h 122 ∧ tA h3 124 = tA h 124 ∧ tA h3 125 = tA h 125)) := by
  rcases k2 with ⟨-, -, f1, g⟩ | ⟨-, -, f1, g⟩
  · rw [e1] at f1 g
    have g1 := g (121, k) (by simp)
    have g2 := g (122, m) (by simp)
    have g3 := g (124, o) (by simp)
    have g4 := g (125, o) (by simp)
    dsimp only at g1 g2 g3 g4
    refine ⟨?_, Or.inl ⟨f1, ?_, ?_, ?_⟩⟩
    · intro p hp i hi
      have hne : ¬ i = (tvI (tF h 111 5)).toNatClampNeg := by rw [zclE]; omega
      rcases hp with rfl | rfl | rfl | rfl
      · rw [g1, u1]; exact if_neg hne
      · rw [g2, u2]; exact if_neg hne
      · rw [g3, u3]; exact if_neg hne
      · rw [g4, u4]; exact if_neg hne
    · rw [f1]
      exact (zincN (n := (tvI (tF h 111 5)).toInt.toNat) (by omega) (by omega)).trans (by omega)
    · rw [g3]; exact if_pos rfl
    · rw [g4]; exact if_pos rfl
  · have g1 := g (121, k) (by simp)
    have g2 := g (122, m) (by simp)
    have g3 := g (124, o) (by simp)
    have g4 := g (125, o) (by simp)
    dsimp only at g1 g2 g3 g4
    refine ⟨?_, Or.inr ⟨f1.trans e1, g1.trans u1, g2.trans u2, g3.trans u3, g4.trans u4⟩⟩
    intro p hp i _
    rcases hp with rfl | rfl | rfl | rfl
    · rw [g1, u1]
    · rw [g2, u2]
    · rw [g3, u3]
    · rw [g4, u4]
theorem carX_b {f P : Nat} {h h3 : zH} (hC : (∀ i r : Nat, (i : Int) < (tvI (tF h3 36 4)).toInt → tO h3 39 i = some r → (((i : Int) < (tvI (tF h 36 4)).toInt ∧ tO h 39 i = some r ∧ ∀ f, tF h3 r f = tF h r f) ∨ ((i : Int) = (tvI (tF h 36 4)).toInt ∧ i < 300 ∧ tF h3 r f = .int 0)))) (hz : ∀ i c : Nat, (tvI (tF h 36 4)).toInt ≤ (i : Int) → i < 300 → c < 20 → tA h P (300 * c + i) = 0) (hP : tA h3 P = tA h P) (hR : ∀ i r : Nat, (i : Int) < (tvI (tF h 36 4)).toInt → tO h 39 i = some r → tF h r f = .int (tvI (tF h r f)) ∧ ∀ c, c < 20 → (bI (tvI (tF h r f)) c ↔ ¬ tA h P (300 * c + i) = 0)) : ∀ i r : Nat, (i : Int) < (tvI (tF h3 36 4)).toInt → tO h3 39 i = some r → tF h3 r f = .int (tvI (tF h3 r f)) ∧ ∀ c, c < 20 → (bI (tvI (tF h3 r f)) c ↔ ¬ tA h3 P (300 * c + i) = 0) := by
  intro i r hi hr
  rw [hP]
  rcases hC i r hi hr with ⟨a1, a2, a3⟩ | ⟨a1, a2, a3⟩
  · rw [a3 f]
    exact hR i r a1 a2
  · rw [a3]
    refine ⟨rfl, fun c hc => ?_⟩
    rw [hz i c (by omega) a2 hc]
    exact ⟨fun z => absurd z (bI_0 (by omega)), fun z => absurd rfl z⟩
theorem a_carX {xs xs2 : Nat → Int32} {τ τ3 : List Nat} {k m o : Int32} {h h2 h3 : zH} {w : Option Value} (hB : zBs xs τ h) (hB3 : zBs xs2 τ3 h3) (hCa : R_cars h) (h1 : R_crb h) (h4 : R_cr0 h) (h5 : R_cmb h) (h6 : R_cm0 h) (h7 : R_crc h) (h8 : R_cpp h) (h9 : R_lowc h) (h0 : R_lowo h)
  (e2 : tF h3 36 4 = tF h2 36 4) (e6 : tO h3 39 = tO h2 39) (e7 : ∀ i r f : Nat, (i : Int) < (tvI (tF h2 36 4)).toInt → tO h2 39 i = some r → tF h3 r f = tF h2 r f)
  (x1 : tA h3 178 = tA h 178) (x2 : tA h3 177 = tA h 177) (x3 : tF h3 111 83 = tF h 111 83) (x4 : tA h3 173 = tA h 173) (x5 : tA h3 174 = tA h 174) (x6 : tA h3 175 = tA h 175) (x7 : tF h3 111 6 = tF h 111 6) (x8 : tA h3 128 = tA h 128) (x9 : tA h3 129 = tA h 129) (hK : carKp h h3 ∧ ((tF h3 111 5 = .int (tvI (tF h 111 5) + 1) ∧ (tvI (tF h3 111 5)).toInt = (tvI (tF h 111 5)).toInt + 1 ∧ tA h3 124 (tvI (tF h 111 5)).toNatClampNeg = o ∧ tA h3 125 (tvI (tF h 111 5)).toNatClampNeg = o) ∨ (tF h3 111 5 = tF h 111 5 ∧ tA h3 121 = tA h 121 ∧ tA h3 122 = tA h 122 ∧ tA h3 124 = tA h 124 ∧ tA h3 125 = tA h 125))) (k1 : ph_carX k m o h w h2) : R_crb h3 ∧ R_cr0 h3 ∧ R_cmb h3 ∧ R_cm0 h3 ∧ R_crc h3 ∧ R_cpp h3 ∧ R_lowc h3 ∧ R_lowo h3 := by
  obtain ⟨hle, hC⟩ := car_cases hB e2 e6 e7 k1
  have hn3 := kb_36_4 hB3
  have hn5 := kb_111_5 hB
  have hn6 := kb_111_6 hB
  have hCa0 := hCa
  unfold R_cars at hCa0
  obtain ⟨hkp, hK⟩ := hK
  refine ⟨carX_b (f := 8) (P := 178) (fun i r hi hr => (hC i r hi hr).imp id (fun z => ⟨z.1, by omega, z.2.2.2.1⟩)) h4 x1 h1, fun i c hi a b => ?_, carX_b (f := 9) (P := 177) (fun i r hi hr => (hC i r hi hr).imp id (fun z => ⟨z.1, by omega, z.2.2.2.2.1⟩)) h6 x2 h5, fun i c hi a b => ?_, fun i c hi hc hne => ?_, fun i r hi hr => ?_, fun j hj => ?_, fun i hi => ?_⟩
  · rw [x1]; exact h4 i c (by omega) a b
  · rw [x2]; exact h6 i c (by omega) a b
  · rw [x1] at hne
    obtain ⟨b1, b2, b3, b4⟩ := h7 i c hi hc hne
    have hne5 : (i : Int) ≠ (tvI (tF h 111 5)).toInt := by
      intro z
      exact hne (h4 i c (by rw [hCa0]; omega) hi hc)
    rw [x3, x4, x5, x6, hkp 121 (by omega) i hne5, hkp 122 (by omega) i hne5]
    exact ⟨b1, b2, b3, b4⟩
  · rcases hC i r hi hr with ⟨a1, a2, a3⟩ | ⟨-, -, -, -, -, a3, -⟩
    · rw [a3 10]; exact h8 i r a1 a2
    · exact a3
  · rw [x7] at hj
    rw [x8]
    have := h9 j hj
    rcases hK with ⟨-, z, -⟩ | ⟨z, -⟩
    · rw [z]; omega
    · rw [z]; exact this
  · rw [x7, x8, x9]
    rcases hK with ⟨-, z, z1, z2⟩ | ⟨z, -, -, z1, z2⟩
    · rw [z] at hi
      by_cases e : (i : Int) = (tvI (tF h 111 5)).toInt
      · have ei : i = (tvI (tF h 111 5)).toNatClampNeg := by rw [zclE]; omega
        rw [ei, z1, z2]
        refine (sLo_none (fun q hq => ?_)).symm
        have := h9 q (by rw [zclE] at hq; omega)
        rw [zclE]
        rw [zclE] at this
        omega
      · rw [hkp 125 (by omega) i e, hkp 124 (by omega) i e]
        exact h0 i (by omega)
    · rw [z] at hi
      rw [z1, z2]
      exact h0 i hi
noncomputable def R_scar (h : zH) : Prop := tA h 40 = tA h 128
noncomputable def R_sto (h : zH) : Prop := tA h 41 = tA h 129
noncomputable def R_sin (h : zH) : Prop := tA h 42 = tA h 130
noncomputable def R_stold (h : zH) : Prop := tA h 43 = tA h 131
noncomputable def R_sales (h : zH) : Prop := tF h 36 9 = tF h 111 6
theorem f_carAt {G : zG} (hG : G.1 = zProg) {h : zH} {n : Int32} (hs : tSh h) : tC zTt G 19 [.ref 36, .int n] h (fun w h2 => (((0 ≤ n.toInt ∧ n.toInt < (tvI (tF h 36 4)).toInt) ∧ w = some (zrf (tO h 39 n.toNatClampNeg))) ∨ (¬ (0 ≤ n.toInt ∧ n.toInt < (tvI (tF h 36 4)).toInt) ∧ w = some .null)) ∧ h2 = h) := by
  refine tC_in (by rw [hG]; rfl) (fun dp => ?_)
  refine tw_iload rfl rfl ?_
  refine tw_if_lt rfl (fun q105 => ?_) (fun q105 => ?_)
  · try dsimp only [tvI_i, tvJ_j, tvR_r] at q105
    refine tw_push rfl ?_
    exact tw_aret rfl ⟨Or.inr ⟨by omega, rfl⟩, rfl⟩
  · try dsimp only [tvI_i, tvJ_j, tvR_r] at q105
    refine tw_iload rfl rfl ?_
    refine tw_aload rfl rfl ?_
    refine tw_getS rfl (hi_36_4 hs) ?_
    refine tw_ic_ge rfl (fun q106 => ?_) (fun q106 => ?_)
    · try dsimp only [tvI_i, tvJ_j, tvR_r] at q106
      refine tw_push rfl ?_
      exact tw_aret rfl ⟨Or.inr ⟨by omega, rfl⟩, rfl⟩
    · try dsimp only [tvI_i, tvJ_j, tvR_r] at q106
      refine tw_aload rfl rfl ?_
      refine tw_getS rfl (hs_36_3 hs) ?_
      refine tw_iload rfl rfl ?_
      refine tw_aald rfl (fun f107 => ?_)
      refine tw_goto rfl ?_
      exact tw_aret rfl ⟨Or.inl ⟨by omega, rfl⟩, rfl⟩
theorem car_ge {xs : Nat → Int32} {τ : List Nat} {h : zH} (hB : zBs xs τ h) : ∀ i r : Nat, (i : Int) < (tvI (tF h 36 4)).toInt → tO h 39 i = some r → 182 ≤ r := by
  intro i r hi hr
  have z := car_tag hB hi hr
  have a : (List.range 182).all (fun p => decide (zTG[p]? ≠ some 150) && decide (p < zTG.length)) = true := by decide +kernel
  rcases Nat.lt_or_ge r 182 with q | q
  · have b := List.all_eq_true.mp a r (List.mem_range.mpr q)
    rw [Bool.and_eq_true, decide_eq_true_eq, decide_eq_true_eq] at b
    have e := hB.2.1 r zTG[r] (List.getElem?_eq_getElem b.2)
    rw [z] at e
    exact absurd (by rw [List.getElem?_eq_getElem b.2]; exact e.symm) b.1
  · exact q
theorem tSh_SFr {h : zH} {r b : Nat} {w : Value} (hr : 182 ≤ r) (k : tSh h) : tSh (tSF h r b w) := by
  have a1 : tSr.all (fun q => Nat.blt q.1 182) = true := by decide +kernel
  have a2 : tSi.all (fun q => Nat.blt q.1 182) = true := by decide +kernel
  refine ⟨fun q hq => tF_ne ?_ (k.1 q hq), fun q hq => ?_⟩
  · have := Nat.le_of_ble_eq_true (List.all_eq_true.mp a1 q hq)
    omega
  · have := Nat.le_of_ble_eq_true (List.all_eq_true.mp a2 q hq)
    have e : tF (tSF h r b w) q.1 q.2 = tF h q.1 q.2 := tF_nz (by omega)
    rw [e]
    exact k.2 q hq
theorem f_carAtR {G : zG} (hG : G.1 = zProg) {h : zH} {n : Int32} (hs : tSh h) (hL : R_cl h) (hg : ∀ i r : Nat, (i : Int) < (tvI (tF h 36 4)).toInt → tO h 39 i = some r → 182 ≤ r) : tC zTt G 19 [.ref 36, .int n] h (fun w h2 => ((∃ r, ((0 ≤ n.toInt ∧ n.toInt < (tvI (tF h 36 4)).toInt) ∧ ((n.toNatClampNeg : Nat) : Int) < (tvI (tF h 36 4)).toInt) ∧ tO h 39 n.toNatClampNeg = some r ∧ 182 ≤ r ∧ w = some (.ref r)) ∨ (¬ (0 ≤ n.toInt ∧ n.toInt < (tvI (tF h 36 4)).toInt) ∧ w = some .null)) ∧ h2 = h) := by
  refine (f_carAt hG hs).mono ?_
  rintro w h2 ⟨⟨c, rfl⟩ | ⟨c, rfl⟩, rfl⟩
  · have hi : ((n.toNatClampNeg : Nat) : Int) < (tvI (tF h2 36 4)).toInt := by rw [zclE]; omega
    obtain ⟨r, hr⟩ := hL.1 _ hi
    exact ⟨Or.inl ⟨r, ⟨c, hi⟩, hr, hg _ r hi hr, by rw [hr]; rfl⟩, rfl⟩
  · exact ⟨Or.inr ⟨c, rfl⟩, rfl⟩
theorem f_addSale {G : zG} (hG : G.1 = zProg) {h : zH} {c o m t : Int32} (hs : tSh h) (hL : R_cl h) (hg : ∀ i r : Nat, (i : Int) < (tvI (tF h 36 4)).toInt → tO h 39 i = some r → 182 ≤ r) (hO : R_cown h) (hS : R_csold h) : tC zTt G 21 [.ref 36, .int c, .int o, .int m, .int t] h (fun w h2 => (((0 ≤ c.toInt ∧ c.toInt < (tvI (tF h 36 4)).toInt) ∧ (tvI (tF h 36 9)).toInt ≠ 400) ∧ w = some (.int 1) ∧ ∃ r, tO h 39 c.toNatClampNeg = some r ∧ tF h2 36 9 = .int (tvI (tF h 36 9) + 1) ∧ tF h2 r 4 = .int o ∧ tF h2 r 5 = .int m ∧ (∀ p b, ¬ (p = 36 ∧ b = 9) → ¬ (p = r ∧ (b = 4 ∨ b = 5)) → tF h2 p b = tF h p b) ∧ tA h2 40 = (fun j => if j = (tvI (tF h 36 9)).toNatClampNeg then c else tA h 40 j) ∧ tA h2 41 = (fun j => if j = (tvI (tF h 36 9)).toNatClampNeg then o else tA h 41 j) ∧ tA h2 42 = (fun j => if j = (tvI (tF h 36 9)).toNatClampNeg then m else tA h 42 j) ∧ tA h2 43 = (fun j => if j = (tvI (tF h 36 9)).toNatClampNeg then t else tA h 43 j)) ∨ (¬ ((0 ≤ c.toInt ∧ c.toInt < (tvI (tF h 36 4)).toInt) ∧ (tvI (tF h 36 9)).toInt ≠ 400) ∧ w = some (.int 0) ∧ h2 = h)) := by
  refine tC_in (by rw [hG]; rfl) (fun dp => ?_)
  refine tw_aload rfl rfl ?_
  refine tw_iload rfl rfl ?_
  refine tw_virt1 rfl (f_carAtR hG hs hL hg) (fun w9 h9 p108 => ?_)
  obtain ⟨⟨rp108, p108, p108r, p108g, rfl⟩ | ⟨p108, rfl⟩, rfl⟩ := p108
  · refine tw_astore rfl ?_
    refine tw_aload rfl rfl ?_
    refine tw_ifnull rfl (fun z => by cases z) (fun _ _ => ?_)
    refine tw_aload rfl rfl ?_
    refine tw_getS rfl (hi_36_9 hs) ?_
    refine tw_push rfl ?_
    refine tw_ic_ne rfl (fun q111 => ?_) (fun q111 => ?_)
    · try dsimp only [tvI_i, tvJ_j, tvR_r] at q111
      have q111i := zneq (Y := 400) (by decide) q111
      refine tw_aload rfl rfl ?_
      refine tw_getS rfl (hs_36_5 hs) ?_
      refine tw_aload rfl rfl ?_
      refine tw_getS rfl (hi_36_9 hs) ?_
      refine tw_iload rfl rfl ?_
      refine tw_iast rfl (fun f112 => ?_)
      refine tw_aload rfl rfl ?_
      refine tw_getS rfl (hs_36_6 (tSh_SA hs)) ?_
      refine tw_aload rfl rfl ?_
      refine tw_getS rfl (tF_a (hi_36_9 hs)) ?_
      refine tw_iload rfl rfl ?_
      refine tw_iast rfl (fun f113 => ?_)
      refine tw_aload rfl rfl ?_
      refine tw_getS rfl (hs_36_7 (tSh_SA (tSh_SA hs))) ?_
      refine tw_aload rfl rfl ?_
      refine tw_getS rfl (tF_a (tF_a (hi_36_9 hs))) ?_
      refine tw_iload rfl rfl ?_
      refine tw_iast rfl (fun f114 => ?_)
      refine tw_aload rfl rfl ?_
      refine tw_getS rfl (hs_36_8 (tSh_SA (tSh_SA (tSh_SA hs)))) ?_
      refine tw_aload rfl rfl ?_
      refine tw_getS rfl (tF_a (tF_a (tF_a (hi_36_9 hs)))) ?_
      refine tw_iload rfl rfl ?_
      refine tw_iast rfl (fun f115 => ?_)
      refine tw_aload rfl rfl ?_
      refine tw_dup rfl ?_
      refine tw_getS rfl (tF_a (tF_a (tF_a (tF_a (hi_36_9 hs))))) ?_
      refine tw_push rfl ?_
      refine tw_iadd rfl ?_
      refine tw_put rfl (fun f116 => ?_)
      refine tw_aload rfl rfl ?_
      refine tw_iload rfl rfl ?_
      refine tw_put rfl (fun f117 => ?_)
      refine tw_aload rfl rfl ?_
      refine tw_iload rfl rfl ?_
      refine tw_put rfl (fun f118 => ?_)
      refine tw_push rfl ?_
      exact tw_iret rfl (Or.inl ⟨by omega, rfl, rp108, p108r, (tF_ne (by omega) (tF_ne (by omega) (tF_same f116))), (tF_ne (by omega) (tF_same f117)), (tF_same f118), fun p b n1 n2 => (tF_ne (fun z => n2 ⟨z.1, Or.inr z.2⟩) (tF_ne (fun z => n2 ⟨z.1, Or.inl z.2⟩) (tF_ne n1 (tF_a (tF_a (tF_a (tF_a rfl))))))), (tA_ff (tA_ff (tA_ff (tA_n (by decide) (tA_n (by decide) (tA_n (by decide) (tA_st f112 rfl))))))), (tA_ff (tA_ff (tA_ff (tA_n (by decide) (tA_n (by decide) (tA_st f113 (tA_n (by decide) rfl))))))), (tA_ff (tA_ff (tA_ff (tA_n (by decide) (tA_st f114 (tA_n (by decide) (tA_n (by decide) rfl))))))), (tA_ff (tA_ff (tA_ff (tA_st f115 (tA_n (by decide) (tA_n (by decide) (tA_n (by decide) rfl)))))))⟩)
    · try dsimp only [tvI_i, tvJ_j, tvR_r] at q111
      have q111i := zeqi (Y := 400) (by decide) q111
      refine tw_push rfl ?_
      exact tw_iret rfl (Or.inr ⟨by omega, rfl, rfl⟩)
  · refine tw_astoreN rfl ?_
    refine tw_aload rfl rfl ?_
    refine tw_ifnull rfl (fun _ => ?_) (fun _ z => by cases z)
    refine tw_push rfl ?_
    exact tw_iret rfl (Or.inr ⟨by omega, rfl, rfl⟩)
noncomputable def ph_sec (c o m : Int32) (h : zH) (w : Option Value) (h2 : zH) : Prop := (((0 ≤ c.toInt ∧ c.toInt < (tvI (tF h 36 4)).toInt) ∧ (0 ≤ o.toInt ∧ o.toInt < (tvI (tF h 36 2)).toInt) ∧ o.toInt ≠ (tA h 125 c.toNatClampNeg).toInt ∧ ((tA h 126 c.toNatClampNeg).toInt ≤ m.toInt ∧ m.toInt ≤ (tvI (tF h 0 14)).toInt) ∧ (tvI (tF h 36 9)).toInt ≠ 400) ∧ w = some (.int 1) ∧ ∃ r, tO h 39 c.toNatClampNeg = some r ∧ tF h2 36 9 = .int (tvI (tF h 36 9) + 1) ∧ tF h2 r 4 = .int o ∧ tF h2 r 5 = .int m ∧ (∀ p b, ¬ (p = 36 ∧ b = 9) → ¬ (p = r ∧ (b = 4 ∨ b = 5)) → tF h2 p b = tF h p b) ∧ tA h2 40 = (fun j => if j = (tvI (tF h 36 9)).toNatClampNeg then c else tA h 40 j) ∧ tA h2 41 = (fun j => if j = (tvI (tF h 36 9)).toNatClampNeg then o else tA h 41 j) ∧ tA h2 42 = (fun j => if j = (tvI (tF h 36 9)).toNatClampNeg then m else tA h 42 j) ∧ tA h2 43 = (fun j => if j = (tvI (tF h 36 9)).toNatClampNeg then tvI (tF h 0 14) else tA h 43 j)) ∨ (¬ ((0 ≤ c.toInt ∧ c.toInt < (tvI (tF h 36 4)).toInt) ∧ (0 ≤ o.toInt ∧ o.toInt < (tvI (tF h 36 2)).toInt) ∧ o.toInt ≠ (tA h 125 c.toNatClampNeg).toInt ∧ ((tA h 126 c.toNatClampNeg).toInt ≤ m.toInt ∧ m.toInt ≤ (tvI (tF h 0 14)).toInt) ∧ (tvI (tF h 36 9)).toInt ≠ 400) ∧ w = some (.int 0) ∧ h2 = h)
theorem f_sell {G : zG} (hG : G.1 = zProg) {h : zH} {c o m : Int32} (hs : tSh h) (hL : R_cl h) (hg : ∀ i r : Nat, (i : Int) < (tvI (tF h 36 4)).toInt → tO h 39 i = some r → 182 ≤ r) (hO : R_cown h) (hS : R_csold h) : tC zTt G 117 [.ref 0, .int c, .int o, .int m] h (ph_sec c o m h) := by
  refine tC_in (by rw [hG]; rfl) (fun dp => ?_)
  refine tw_aload rfl rfl ?_
  refine tw_getS rfl (hs_0_1 hs) ?_
  refine tw_iload rfl rfl ?_
  refine tw_virt1 rfl (f_carAtR hG hs hL hg) (fun w9 h9 p121 => ?_)
  obtain ⟨⟨rp121, p121, p121r, p121g, rfl⟩ | ⟨p121, rfl⟩, rfl⟩ := p121
  · refine tw_astore rfl ?_
    refine tw_aload rfl rfl ?_
    refine tw_ifnull rfl (fun z => by cases z) (fun _ _ => ?_)
    refine tw_aload rfl rfl ?_
    refine tw_getS rfl (hs_0_1 hs) ?_
    refine tw_iload rfl rfl ?_
    refine tw_virt1 rfl (f_hasPerson hG hs) (fun w9 h9 p124 => ?_)
    obtain ⟨⟨p124, rfl⟩ | ⟨p124, rfl⟩, rfl⟩ := p124
    · try dsimp only [tvI_i, tvJ_j, tvR_r] at p124
      refine tw_if_eq rfl (fun z => absurd z (by decide)) (fun _ => ?_)
      refine tw_iload rfl rfl ?_
      refine tw_aload rfl rfl ?_
      refine tw_getS rfl (hO _ _ p121.2 p121r) ?_
      refine tw_ic_eq rfl (fun q125 => ?_) (fun q125 => ?_)
      · try dsimp only [tvI_i, tvJ_j, tvR_r] at q125
        have q125i := zeqi rfl q125
        refine tw_push rfl ?_
        exact tw_iret rfl (Or.inr ⟨by omega, rfl, rfl⟩)
      · try dsimp only [tvI_i, tvJ_j, tvR_r] at q125
        have q125i := zneq rfl q125
        refine tw_iload rfl rfl ?_
        refine tw_aload rfl rfl ?_
        refine tw_getS rfl (hS _ _ p121.2 p121r) ?_
        refine tw_aload rfl rfl ?_
        refine tw_getS rfl (hi_0_14 hs) ?_
        refine tw_stat3 rfl (f_isWithin hG   rfl rfl) (fun w9 h9 p126 => ?_)
        obtain ⟨⟨p126, rfl⟩ | ⟨p126, rfl⟩, rfl⟩ := p126
        · try dsimp only [tvI_i, tvJ_j, tvR_r] at p126
          refine tw_if_ne rfl (fun _ => ?_) (fun z => absurd z (by decide))
          refine tw_aload rfl rfl ?_
          refine tw_getS rfl (hs_0_1 hs) ?_
          refine tw_iload rfl rfl ?_
          refine tw_iload rfl rfl ?_
          refine tw_iload rfl rfl ?_
          refine tw_aload rfl rfl ?_
          refine tw_getS rfl (hi_0_14 hs) ?_
          refine tw_virt4 rfl (f_addSale hG hs hL hg hO hS) (fun w9 h9 p127 => ?_)
          rcases p127 with ⟨p127, rfl, p127e⟩ | ⟨p127, rfl, rfl⟩
          · exact tw_iret rfl (Or.inl ⟨by omega, rfl, p127e⟩)
          · exact tw_iret rfl (Or.inr ⟨by omega, rfl, rfl⟩)
        · try dsimp only [tvI_i, tvJ_j, tvR_r] at p126
          refine tw_if_ne rfl (fun z => absurd z (by decide)) (fun _ => ?_)
          refine tw_push rfl ?_
          exact tw_iret rfl (Or.inr ⟨by omega, rfl, rfl⟩)
    · try dsimp only [tvI_i, tvJ_j, tvR_r] at p124
      refine tw_if_eq rfl (fun _ => ?_) (fun z => absurd z (by decide))
      refine tw_push rfl ?_
      exact tw_iret rfl (Or.inr ⟨by omega, rfl, rfl⟩)
  · refine tw_astoreN rfl ?_
    refine tw_aload rfl rfl ?_
    refine tw_ifnull rfl (fun _ => ?_) (fun _ z => by cases z)
    refine tw_push rfl ?_
    exact tw_iret rfl (Or.inr ⟨by omega, rfl, rfl⟩)
theorem g_isCar {G : zG} (hG : G.1 = zProg) {h : zH} {n : Int32} (hs : tSh h) (hk : 0 ≤ (tvI (tF h 111 5)).toInt) : tC zTt G 178 [.ref 111, .int n] h (fun w h2 => tBo (0 ≤ n.toInt ∧ n.toInt < (tvI (tF h 111 5)).toInt) w ∧ h2 = h) := by
  refine tC_in (by rw [hG]; rfl) (fun dp => ?_)
  refine tw_iload rfl rfl ?_
  refine tw_i2l rfl ?_
  refine tw_push rfl ?_
  refine tw_aload rfl rfl ?_
  refine tw_getS rfl (hi_111_5 hs) ?_
  refine tw_push rfl ?_
  refine tw_isub rfl ?_
  refine tw_i2l rfl ?_
  refine tw_stat3 rfl (f_in hG  (LO := 0)  (Int32.toInt_toInt64 _) (by decide) (Int32.toInt_toInt64 _)) (fun w9 h9 p130 => ?_)
  obtain ⟨⟨p130, rfl⟩ | ⟨p130, rfl⟩, rfl⟩ := p130
  · try dsimp only [tvI_i, tvJ_j, tvR_r] at p130
    exact tw_iret rfl ⟨Or.inl ⟨by have e := zsub1 hk; have := p130; omega, rfl⟩, rfl⟩
  · try dsimp only [tvI_i, tvJ_j, tvR_r] at p130
    exact tw_iret rfl ⟨Or.inr ⟨by have e := zsub1 hk; have := p130; omega, rfl⟩, rfl⟩
noncomputable def ph_sem (c o m : Int32) (h : zH) (w : Option Value) (h2 : zH) : Prop := (((0 ≤ c.toInt ∧ c.toInt < (tvI (tF h 111 5)).toInt) ∧ (0 ≤ o.toInt ∧ o.toInt < (tvI (tF h 111 2)).toInt) ∧ o.toInt ≠ (tA h 125 c.toNatClampNeg).toInt ∧ ((tA h 126 c.toNatClampNeg).toInt ≤ m.toInt ∧ m.toInt ≤ (tvI (tF h 111 1)).toInt) ∧ (tvI (tF h 111 6)).toInt ≠ 400) ∧ w = some (.int 1) ∧ tF h2 111 6 = .int (tvI (tF h 111 6) + 1) ∧ tA h2 125 = (fun j => if j = c.toNatClampNeg then o else tA h 125 j) ∧ tA h2 126 = (fun j => if j = c.toNatClampNeg then m else tA h 126 j) ∧ tA h2 128 = (fun j => if j = (tvI (tF h 111 6)).toNatClampNeg then c else tA h 128 j) ∧ tA h2 129 = (fun j => if j = (tvI (tF h 111 6)).toNatClampNeg then o else tA h 129 j) ∧ tA h2 130 = (fun j => if j = (tvI (tF h 111 6)).toNatClampNeg then m else tA h 130 j) ∧ tA h2 131 = (fun j => if j = (tvI (tF h 111 6)).toNatClampNeg then tvI (tF h 111 1) else tA h 131 j)) ∨ (¬ ((0 ≤ c.toInt ∧ c.toInt < (tvI (tF h 111 5)).toInt) ∧ (0 ≤ o.toInt ∧ o.toInt < (tvI (tF h 111 2)).toInt) ∧ o.toInt ≠ (tA h 125 c.toNatClampNeg).toInt ∧ ((tA h 126 c.toNatClampNeg).toInt ≤ m.toInt ∧ m.toInt ≤ (tvI (tF h 111 1)).toInt) ∧ (tvI (tF h 111 6)).toInt ≠ 400) ∧ w = some (.int 0) ∧ h2 = h)
theorem g_sell {G : zG} (hG : G.1 = zProg) {h : zH} {c o m : Int32} (hs : tSh h) (hk5 : 0 ≤ (tvI (tF h 111 5)).toInt) (hk2 : 0 ≤ (tvI (tF h 111 2)).toInt) : tC zTt G 185 [.ref 111, .int c, .int o, .int m] h (ph_sem c o m h) := by
  refine tC_in (by rw [hG]; rfl) (fun dp => ?_)
  refine tw_aload rfl rfl ?_
  refine tw_getS rfl (hi_111_6 hs) ?_
  refine tw_push rfl ?_
  refine tw_ic_eq rfl (fun q131 => ?_) (fun q131 => ?_)
  · try dsimp only [tvI_i, tvJ_j, tvR_r] at q131
    have q131i := zeqi (Y := 400) (by decide) q131
    refine tw_push rfl ?_
    exact tw_iret rfl (Or.inr ⟨by omega, rfl, rfl⟩)
  · try dsimp only [tvI_i, tvJ_j, tvR_r] at q131
    have q131i := zneq (Y := 400) (by decide) q131
    refine tw_aload rfl rfl ?_
    refine tw_iload rfl rfl ?_
    refine tw_virt1 rfl (g_isCar hG hs hk5) (fun w9 h9 p132 => ?_)
    obtain ⟨⟨p132, rfl⟩ | ⟨p132, rfl⟩, rfl⟩ := p132
    · try dsimp only [tvI_i, tvJ_j, tvR_r] at p132
      refine tw_if_eq rfl (fun z => absurd z (by decide)) (fun _ => ?_)
      refine tw_aload rfl rfl ?_
      refine tw_iload rfl rfl ?_
      refine tw_virt1 rfl (g_isPerson hG hs hk2) (fun w9 h9 p133 => ?_)
      obtain ⟨⟨p133, rfl⟩ | ⟨p133, rfl⟩, rfl⟩ := p133
      · try dsimp only [tvI_i, tvJ_j, tvR_r] at p133
        refine tw_if_eq rfl (fun z => absurd z (by decide)) (fun _ => ?_)
        refine tw_aload rfl rfl ?_
        refine tw_getS rfl (hs_111_20 hs) ?_
        refine tw_iload rfl rfl ?_
        refine tw_iald rfl (fun f134 => ?_)
        refine tw_iload rfl rfl ?_
        refine tw_ic_eq rfl (fun q135 => ?_) (fun q135 => ?_)
        · try dsimp only [tvI_i, tvJ_j, tvR_r] at q135
          have q135i := zeqi rfl q135
          refine tw_push rfl ?_
          exact tw_iret rfl (Or.inr ⟨by omega, rfl, rfl⟩)
        · try dsimp only [tvI_i, tvJ_j, tvR_r] at q135
          have q135i := zneq rfl q135
          refine tw_iload rfl rfl ?_
          refine tw_i2l rfl ?_
          refine tw_aload rfl rfl ?_
          refine tw_getS rfl (hs_111_21 hs) ?_
          refine tw_iload rfl rfl ?_
          refine tw_iald rfl (fun f136 => ?_)
          refine tw_i2l rfl ?_
          refine tw_aload rfl rfl ?_
          refine tw_getS rfl (hi_111_1 hs) ?_
          refine tw_i2l rfl ?_
          refine tw_stat3 rfl (f_in hG    (Int32.toInt_toInt64 _) (Int32.toInt_toInt64 _) (Int32.toInt_toInt64 _)) (fun w9 h9 p137 => ?_)
          obtain ⟨⟨p137, rfl⟩ | ⟨p137, rfl⟩, rfl⟩ := p137
          · try dsimp only [tvI_i, tvJ_j, tvR_r] at p137
            refine tw_if_ne rfl (fun _ => ?_) (fun z => absurd z (by decide))
            refine tw_aload rfl rfl ?_
            refine tw_getS rfl (hs_111_23 hs) ?_
            refine tw_aload rfl rfl ?_
            refine tw_getS rfl (hi_111_6 hs) ?_
            refine tw_iload rfl rfl ?_
            refine tw_iast rfl (fun f138 => ?_)
            refine tw_aload rfl rfl ?_
            refine tw_getS rfl (hs_111_24 (tSh_SA hs)) ?_
            refine tw_aload rfl rfl ?_
            refine tw_getS rfl (tF_a (hi_111_6 hs)) ?_
            refine tw_iload rfl rfl ?_
            refine tw_iast rfl (fun f139 => ?_)
            refine tw_aload rfl rfl ?_
            refine tw_getS rfl (hs_111_25 (tSh_SA (tSh_SA hs))) ?_
            refine tw_aload rfl rfl ?_
            refine tw_getS rfl (tF_a (tF_a (hi_111_6 hs))) ?_
            refine tw_iload rfl rfl ?_
            refine tw_iast rfl (fun f140 => ?_)
            refine tw_aload rfl rfl ?_
            refine tw_getS rfl (hs_111_26 (tSh_SA (tSh_SA (tSh_SA hs)))) ?_
            refine tw_aload rfl rfl ?_
            refine tw_getS rfl (tF_a (tF_a (tF_a (hi_111_6 hs)))) ?_
            refine tw_aload rfl rfl ?_
            refine tw_getS rfl (tF_a (tF_a (tF_a (hi_111_1 hs)))) ?_
            refine tw_iast rfl (fun f141 => ?_)
            refine tw_aload rfl rfl ?_
            refine tw_dup rfl ?_
            refine tw_getS rfl (tF_a (tF_a (tF_a (tF_a (hi_111_6 hs))))) ?_
            refine tw_push rfl ?_
            refine tw_iadd rfl ?_
            refine tw_put rfl (fun f142 => ?_)
            refine tw_aload rfl rfl ?_
            refine tw_getS rfl (hs_111_20 (hw_111_6 f142 (tSh_SA (tSh_SA (tSh_SA (tSh_SA hs)))))) ?_
            refine tw_iload rfl rfl ?_
            refine tw_iload rfl rfl ?_
            refine tw_iast rfl (fun f143 => ?_)
            refine tw_aload rfl rfl ?_
            refine tw_getS rfl (hs_111_21 (tSh_SA (hw_111_6 f142 (tSh_SA (tSh_SA (tSh_SA (tSh_SA hs))))))) ?_
            refine tw_iload rfl rfl ?_
            refine tw_iload rfl rfl ?_
            refine tw_iast rfl (fun f144 => ?_)
            refine tw_push rfl ?_
            exact tw_iret rfl (Or.inl ⟨by omega, rfl, (tF_a (tF_a (tF_same f142))), (tA_n (by decide) (tA_st f143 (tA_ff (tA_n (by decide) (tA_n (by decide) (tA_n (by decide) (tA_n (by decide) rfl))))))), (tA_st f144 (tA_n (by decide) (tA_ff (tA_n (by decide) (tA_n (by decide) (tA_n (by decide) (tA_n (by decide) rfl))))))), (tA_n (by decide) (tA_n (by decide) (tA_ff (tA_n (by decide) (tA_n (by decide) (tA_n (by decide) (tA_st f138 rfl))))))), (tA_n (by decide) (tA_n (by decide) (tA_ff (tA_n (by decide) (tA_n (by decide) (tA_st f139 (tA_n (by decide) rfl))))))), (tA_n (by decide) (tA_n (by decide) (tA_ff (tA_n (by decide) (tA_st f140 (tA_n (by decide) (tA_n (by decide) rfl))))))), (tA_n (by decide) (tA_n (by decide) (tA_ff (tA_st f141 (tA_n (by decide) (tA_n (by decide) (tA_n (by decide) rfl)))))))⟩)
          · try dsimp only [tvI_i, tvJ_j, tvR_r] at p137
            refine tw_if_ne rfl (fun z => absurd z (by decide)) (fun _ => ?_)
            refine tw_push rfl ?_
            exact tw_iret rfl (Or.inr ⟨by omega, rfl, rfl⟩)
      · try dsimp only [tvI_i, tvJ_j, tvR_r] at p133
        refine tw_if_eq rfl (fun _ => ?_) (fun z => absurd z (by decide))
        refine tw_push rfl ?_
        exact tw_iret rfl (Or.inr ⟨by omega, rfl, rfl⟩)
    · try dsimp only [tvI_i, tvJ_j, tvR_r] at p132
      refine tw_if_eq rfl (fun _ => ?_) (fun z => absurd z (by decide))
      refine tw_push rfl ?_
      exact tw_iret rfl (Or.inr ⟨by omega, rfl, rfl⟩)
theorem a_sell {xs : Nat → Int32} {τ τ2 : List Nat} {c o m : Int32} {h h2 h3 : zH} {w w2 : Option Value} (hB : zBs xs τ h) (hB2 : zBs xs τ2 h2) (hC : R_cars h) (hP : R_people h) (hW : R_now h) (hA : R_sales h) (hL : R_cl h) (hO : R_cown h) (hS : R_csold h) (h_scar : R_scar h) (o_scar : tA h2 128 = tA h 128) (t_scar : tA h3 40 = tA h2 40) (h_sto : R_sto h) (o_sto : tA h2 129 = tA h 129) (t_sto : tA h3 41 = tA h2 41) (h_sin : R_sin h) (o_sin : tA h2 130 = tA h 130) (t_sin : tA h3 42 = tA h2 42) (h_stold : R_stold h) (o_stold : tA h2 131 = tA h 131) (t_stold : tA h3 43 = tA h2 43) (e1 : tF h2 111 5 = tF h 111 5) (e3 : tF h2 111 2 = tF h 111 2) (e4 : tF h2 111 1 = tF h 111 1) (e5 : tF h2 111 6 = tF h 111 6) (o1 : tA h2 125 = tA h 125) (o2 : tA h2 126 = tA h 126) (e2 : tF h3 36 9 = tF h2 36 9) (e6 : tO h3 39 = tO h2 39) (e8 : tO h2 39 = tO h 39) (e9 : tF h3 36 4 = tF h2 36 4) (e11 : tF h2 36 4 = tF h 36 4) (e7 : ∀ i r f : Nat, (i : Int) < (tvI (tF h2 36 4)).toInt → tO h2 39 i = some r → tF h3 r f = tF h2 r f) (k1 : ph_sec c o m h w h2) (k2 : ph_sem c o m h2 w2 h3) : w2 = w ∧ R_sales h3 ∧ R_cown h3 ∧ R_csold h3 ∧ R_scar h3 ∧ R_sto h3 ∧ R_sin h3 ∧ R_stold h3 := by
  have hC0 := hC
  have hA0 := hA
  unfold R_cars at hC0
  unfold R_people at hP
  unfold R_now at hW
  unfold R_sales at hA0
  unfold ph_sem at k2
  rw [e1, e3, e4, e5, o1, o2, o_scar, o_sto, o_sin, o_stold, ← hC0, ← hP, ← hW, ← hA0] at k2
  rw [e11, e8] at e7
  rcases k1 with ⟨c1, rfl, r, hr, f1, f2, f3, f4, f_scar, f_sto, f_sin, f_stold⟩ | ⟨c1, rfl, rfl⟩ <;> rcases k2 with ⟨c2, rfl, q1, q2, q3, q_scar, q_sto, q_sin, q_stold⟩ | ⟨c2, rfl, rfl⟩
  · have hi : ((c.toNatClampNeg : Nat) : Int) < (tvI (tF h 36 4)).toInt := by rw [zclE]; omega
    have key : ∀ f x P, (f = 4 ∨ f = 5) → tF h2 r f = .int x → tA h3 P = (fun j => if j = c.toNatClampNeg then x else tA h P j) → (∀ i r : Nat, (i : Int) < (tvI (tF h 36 4)).toInt → tO h 39 i = some r → tF h r f = .int (tA h P i)) → ∀ i r : Nat, (i : Int) < (tvI (tF h3 36 4)).toInt → tO h3 39 i = some r → tF h3 r f = .int (tA h3 P i) := by
      intro f x P hf hx hP3 hold i s hi2 hs
      rw [e9, e11] at hi2
      rw [e6, e8] at hs
      rw [e7 i s f hi2 hs, hP3]
      dsimp only
      by_cases z : i = c.toNatClampNeg
      · subst z
        rw [hr] at hs
        cases hs
        rw [if_pos rfl]
        exact hx
      · rw [if_neg z, f4 s f (fun y => car_ne hB hi2 hs (p := 36) (t := 12) rfl (by decide) y.1) (fun y => z (hL.2 _ _ hi2 hi (by rw [hs, hr, y.1])))]
        exact hold i s hi2 hs
    refine ⟨rfl, ?_, key 4 o 125 (Or.inl rfl) f2 q2 hO, key 5 m 126 (Or.inr rfl) f3 q3 hS, ?_, ?_, ?_, ?_⟩
    · unfold R_sales; rw [e2, f1, q1]
    · unfold R_scar at *; rw [t_scar, f_scar, q_scar, ← h_scar]
    · unfold R_sto at *; rw [t_sto, f_sto, q_sto, ← h_sto]
    · unfold R_sin at *; rw [t_sin, f_sin, q_sin, ← h_sin]
    · unfold R_stold at *; rw [t_stold, f_stold, q_stold, ← h_stold]
  · exact absurd c1 c2
  · exact absurd c2 c1
  · exact ⟨rfl, hA, hO, hS, h_scar, h_sto, h_sin, h_stold⟩
theorem low_sell {c o m : Int32} {h h2 h3 : zH} {w2 : Option Value} (hB6 : 0 ≤ (tvI (tF h 111 6)).toInt ∧ (tvI (tF h 111 6)).toInt ≤ 400) (hB1 : 0 ≤ (tvI (tF h 111 1)).toInt) (h1 : R_lowt h) (h4 : R_lowc h) (h5 : R_lowo h) (e5 : tF h2 111 5 = tF h 111 5) (e1 : tF h2 111 1 = tF h 111 1) (e6 : tF h2 111 6 = tF h 111 6) (u1 : tA h2 131 = tA h 131) (u2 : tA h2 130 = tA h 130) (u3 : tA h2 128 = tA h 128) (u4 : tA h2 125 = tA h 125) (u5 : tA h2 129 = tA h 129) (u6 : tA h2 124 = tA h 124) (t5 : tF h3 111 5 = tF h2 111 5) (t1 : tF h3 111 1 = tF h2 111 1) (t6 : tA h3 124 = tA h2 124) (v1 : tA h3 131 = tA h2 131 ∨ True) (k2 : ph_sem c o m h2 w2 h3) : R_lowt h3 ∧ R_lowc h3 ∧ R_lowo h3 := by
  unfold ph_sem at k2
  rw [e5, e1, e6, u1, u2, u3, u4, u5] at k2
  rcases k2 with ⟨c2, -, q1, q2, q3, q4, q5, q6, q7⟩ | ⟨c2, -, rfl⟩
  · have hS : (tvI (tF h3 111 6)).toInt = (tvI (tF h 111 6)).toInt + 1 := by
      rw [q1]
      show (tvI (tF h 111 6) + 1).toInt = _
      exact (zincN (n := (tvI (tF h 111 6)).toInt.toNat) (by omega) (by omega)).trans (by omega)
    have hSN : (tvI (tF h3 111 6)).toNatClampNeg = (tvI (tF h 111 6)).toNatClampNeg + 1 := by rw [zclE, zclE, hS]; omega
    refine ⟨fun k hk => ?_, fun k hk => ?_, fun i hi => ?_⟩
    · rw [hS] at hk
      rw [t1, e1, q7, q6]
      show (if k = _ then _ else _ : Int32).toInt ≤ _ ∧ (if k = _ then _ else _ : Int32).toInt ≤ _
      by_cases e : k = (tvI (tF h 111 6)).toNatClampNeg
      · rw [if_pos e, if_pos e]
        exact ⟨Int.le_refl _, c2.2.2.2.1.2⟩
      · rw [if_neg e, if_neg e]
        rw [zclE] at e
        exact h1 k (by omega)
    · rw [hS] at hk
      rw [t5, e5, q4]
      show ((if k = _ then _ else _ : Int32).toNatClampNeg : Int) < _
      by_cases e : k = (tvI (tF h 111 6)).toNatClampNeg
      · rw [if_pos e, zclE]; omega
      · rw [if_neg e]
        rw [zclE] at e
        exact h4 k (by omega)
    · rw [t5, e5] at hi
      rw [hSN, q2, q4, q5, t6, u6]
      show (if i = c.toNatClampNeg then o else tA h 125 i) = if _ then _ else _
      have hcg : sLo (fun j => if j = (tvI (tF h 111 6)).toNatClampNeg then c else tA h 128 j) (fun j => if j = (tvI (tF h 111 6)).toNatClampNeg then o else tA h 129 j) i (tA h 124 i) (tvI (tF h 111 6)).toNatClampNeg = sLo (tA h 128) (tA h 129) i (tA h 124 i) (tvI (tF h 111 6)).toNatClampNeg := sLo_congr (fun k hk => ⟨if_neg (by omega), if_neg (by omega)⟩)
      rw [hcg]
      show (if i = c.toNatClampNeg then o else tA h 125 i) = if (if (tvI (tF h 111 6)).toNatClampNeg = (tvI (tF h 111 6)).toNatClampNeg then c else tA h 128 (tvI (tF h 111 6)).toNatClampNeg).toNatClampNeg = i then (if (tvI (tF h 111 6)).toNatClampNeg = (tvI (tF h 111 6)).toNatClampNeg then o else tA h 129 (tvI (tF h 111 6)).toNatClampNeg) else _
      rw [if_pos rfl, if_pos rfl, ← h5 i hi]
      by_cases e : i = c.toNatClampNeg
      · rw [if_pos e, if_pos e.symm]
      · rw [if_neg e, if_neg (fun z => e z.symm)]
  · refine ⟨fun k hk => ?_, fun k hk => ?_, fun i hi => ?_⟩
    · rw [e6] at hk
      rw [u1, u2, e1]
      exact h1 k hk
    · rw [e6] at hk
      rw [u3, e5]
      exact h4 k hk
    · rw [e5] at hi
      rw [u4, u3, u5, u6, e6]
      exact h5 i hi
noncomputable def R_crashes (h : zH) : Prop := tF h 63 8 = tF h 111 59
theorem f_isSort {G : zG} (hG : G.1 = zProg) {h : zH} {n : Int32} : tC zTt G 161 [.int n] h (fun w h2 => tBo (0 ≤ n.toInt ∧ n.toInt ≤ 2) w ∧ h2 = h) := by
  refine tC_in (by rw [hG]; rfl) (fun dp => ?_)
  refine tw_iload rfl rfl ?_
  refine tw_push rfl ?_
  refine tw_push rfl ?_
  refine tw_stat3 rfl (f_isWithin hG (LO := 0) (HI := 2) (by decide) (by decide)) (fun w9 h9 p145 => ?_)
  obtain ⟨⟨p145, rfl⟩ | ⟨p145, rfl⟩, rfl⟩ := p145
  · try dsimp only [tvI_i, tvJ_j, tvR_r] at p145
    exact tw_iret rfl ⟨Or.inl ⟨p145, rfl⟩, rfl⟩
  · try dsimp only [tvI_i, tvJ_j, tvR_r] at p145
    exact tw_iret rfl ⟨Or.inr ⟨p145, rfl⟩, rfl⟩
theorem f_isSpeed {G : zG} (hG : G.1 = zProg) {h : zH} {n : Int32} : tC zTt G 162 [.int n] h (fun w h2 => tBo (0 ≤ n.toInt ∧ n.toInt ≤ 200) w ∧ h2 = h) := by
  refine tC_in (by rw [hG]; rfl) (fun dp => ?_)
  refine tw_iload rfl rfl ?_
  refine tw_push rfl ?_
  refine tw_push rfl ?_
  refine tw_stat3 rfl (f_isWithin hG (LO := 0) (HI := 200) (by decide) (by decide)) (fun w9 h9 p146 => ?_)
  obtain ⟨⟨p146, rfl⟩ | ⟨p146, rfl⟩, rfl⟩ := p146
  · try dsimp only [tvI_i, tvJ_j, tvR_r] at p146
    exact tw_iret rfl ⟨Or.inl ⟨p146, rfl⟩, rfl⟩
  · try dsimp only [tvI_i, tvJ_j, tvR_r] at p146
    exact tw_iret rfl ⟨Or.inr ⟨p146, rfl⟩, rfl⟩
theorem f_cfull {G : zG} (hG : G.1 = zProg) {h : zH} (hs : tSh h) {n : Int32} (hn : tF h 63 8 = .int n) : tC zTt G 7 [.ref 63] h (fun w h2 => tBo (n.toInt = 200) w ∧ h2 = h) := by
  refine tC_in (by rw [hG]; rfl) (fun dp => ?_)
  have hn0 := congrArg (fun z => (tvI z).toInt) hn
  have hn1 : (tvI (tF h 63 8)).toInt = n.toInt := hn0
  refine tw_aload rfl rfl ?_
  refine tw_getS rfl (hi_63_8 hs) ?_
  refine tw_push rfl ?_
  refine tw_ic_ne rfl (fun q147 => ?_) (fun q147 => ?_)
  · try dsimp only [tvI_i, tvJ_j, tvR_r] at q147
    have q147i := zneq (Y := 200) (by decide) q147
    refine tw_push rfl ?_
    exact tw_iret rfl ⟨Or.inr ⟨by omega, rfl⟩, rfl⟩
  · try dsimp only [tvI_i, tvJ_j, tvR_r] at q147
    have q147i := zeqi (Y := 200) (by decide) q147
    refine tw_push rfl ?_
    refine tw_goto rfl ?_
    exact tw_iret rfl ⟨Or.inl ⟨by omega, rfl⟩, rfl⟩
theorem tSh_ex {h h2 : zH} {p0 b0 : Nat} {x : Int32} (hn : tSr.all (fun q => !(Nat.beq q.1 p0 && Nat.beq q.2.1 b0)) = true) (k : tSh h) (e1 : tF h2 p0 b0 = .int x) (e2 : ∀ p b, ¬ (p = p0 ∧ b = b0) → tF h2 p b = tF h p b) : tSh h2 := by
  refine ⟨fun q hq => ?_, fun q hq => ?_⟩
  · rw [e2]
    · exact k.1 q hq
    · rintro ⟨z1, z2⟩
      have := List.all_eq_true.mp hn q hq
      rw [z1, z2] at this
      simp at this
  · by_cases e : q.1 = p0 ∧ q.2 = b0
    · rw [e.1, e.2, e1]; rfl
    · rw [e2 _ _ e]; exact k.2 q hq
theorem f_addCrash {G : zG} (hG : G.1 = zProg) {h : zH} {c k m t n : Int32} (hs : tSh h) (hn : tF h 63 8 = .int n) (hf : ¬ n.toInt = 200) : tC zTt G 8 [.ref 63, .int c, .int k, .int m, .int t] h (fun w h2 => w = some (.int n) ∧ tF h2 63 8 = .int (n + 1) ∧ (∀ p b, ¬ (p = 63 ∧ b = 8) → tF h2 p b = tF h p b) ∧ tO h2 = tO h) := by
  refine tC_in (by rw [hG]; rfl) (fun dp => ?_)
  have hnx : tvI (tF h 63 8) = n := by rw [hn]; rfl
  refine tw_aload rfl rfl ?_
  refine tw_virt0 rfl (f_cfull hG hs (hi_63_8 hs)) (fun w9 h9 p148 => ?_)
  obtain ⟨⟨p148, rfl⟩ | ⟨p148, rfl⟩, rfl⟩ := p148
  · try dsimp only [tvI_i, tvJ_j, tvR_r] at p148
    refine tw_if_eq rfl (fun z => absurd z (by decide)) (fun _ => ?_)
    refine tw_push rfl ?_
    rw [hnx] at p148
    exact absurd p148 hf
  · try dsimp only [tvI_i, tvJ_j, tvR_r] at p148
    refine tw_if_eq rfl (fun _ => ?_) (fun z => absurd z (by decide))
    refine tw_aload rfl rfl ?_
    refine tw_getS rfl (hs_63_0 hs) ?_
    refine tw_aload rfl rfl ?_
    refine tw_getS rfl (hi_63_8 hs) ?_
    refine tw_iload rfl rfl ?_
    refine tw_iast rfl (fun f149 => ?_)
    refine tw_aload rfl rfl ?_
    refine tw_getS rfl (hs_63_1 (tSh_SA hs)) ?_
    refine tw_aload rfl rfl ?_
    refine tw_getS rfl (tF_a (hi_63_8 hs)) ?_
    refine tw_iload rfl rfl ?_
    refine tw_iast rfl (fun f150 => ?_)
    refine tw_aload rfl rfl ?_
    refine tw_getS rfl (hs_63_2 (tSh_SA (tSh_SA hs))) ?_
    refine tw_aload rfl rfl ?_
    refine tw_getS rfl (tF_a (tF_a (hi_63_8 hs))) ?_
    refine tw_iload rfl rfl ?_
    refine tw_iast rfl (fun f151 => ?_)
    refine tw_aload rfl rfl ?_
    refine tw_getS rfl (hs_63_3 (tSh_SA (tSh_SA (tSh_SA hs)))) ?_
    refine tw_aload rfl rfl ?_
    refine tw_getS rfl (tF_a (tF_a (tF_a (hi_63_8 hs)))) ?_
    refine tw_iload rfl rfl ?_
    refine tw_iast rfl (fun f152 => ?_)
    refine tw_aload rfl rfl ?_
    refine tw_dup rfl ?_
    refine tw_getS rfl (tF_a (tF_a (tF_a (tF_a (hi_63_8 hs))))) ?_
    refine tw_dup_x1 rfl ?_
    refine tw_push rfl ?_
    refine tw_iadd rfl ?_
    refine tw_put rfl (fun f153 => ?_)
    exact tw_iret rfl ⟨congrArg some (congrArg Value.int hnx), (tF_same f153).trans (by rw [hnx] <;> rfl), fun p b n1 => (tF_ne n1 (tF_a (tF_a (tF_a (tF_a rfl))))), by rw [tO_tSF, tO_tSA, tO_tSA, tO_tSA, tO_tSA]⟩
theorem f_hasCrash {G : zG} (hG : G.1 = zProg) {h : zH} {n : Int32} (hs : tSh h) : tC zTt G 6 [.ref 63, .int n] h (fun w h2 => tBo (0 ≤ n.toInt ∧ n.toInt < (tvI (tF h 63 8)).toInt) w ∧ h2 = h) := by
  refine tC_in (by rw [hG]; rfl) (fun dp => ?_)
  refine tw_iload rfl rfl ?_
  refine tw_if_lt rfl (fun q154 => ?_) (fun q154 => ?_)
  · try dsimp only [tvI_i, tvJ_j, tvR_r] at q154
    refine tw_push rfl ?_
    exact tw_iret rfl ⟨Or.inr ⟨by omega, rfl⟩, rfl⟩
  · try dsimp only [tvI_i, tvJ_j, tvR_r] at q154
    refine tw_iload rfl rfl ?_
    refine tw_aload rfl rfl ?_
    refine tw_getS rfl (hi_63_8 hs) ?_
    refine tw_ic_ge rfl (fun q155 => ?_) (fun q155 => ?_)
    · try dsimp only [tvI_i, tvJ_j, tvR_r] at q155
      refine tw_push rfl ?_
      exact tw_iret rfl ⟨Or.inr ⟨by omega, rfl⟩, rfl⟩
    · try dsimp only [tvI_i, tvJ_j, tvR_r] at q155
      refine tw_push rfl ?_
      refine tw_goto rfl ?_
      exact tw_iret rfl ⟨Or.inl ⟨by omega, rfl⟩, rfl⟩
theorem f_tellOf {G : zG} (hG : G.1 = zProg) {h : zH} {x s v d u n : Int32} (bu : 0 ≤ u.toInt ∧ u.toInt ≤ 1) (hs : tSh h) (hn : tF h 63 8 = .int n) (h0 : 0 ≤ x.toInt ∧ x.toInt < n.toInt) : tC zTt G 9 [.ref 63, .int x, .int s, .int v, .int d, .int u] h (fun w h2 => w = none ∧ tF h2 = tF h ∧ tO h2 = tO h) := by
  refine tC_in (by rw [hG]; rfl) (fun dp => ?_)
  have hnx : (tvI (tF h 63 8)).toInt = n.toInt := by rw [hn]; rfl
  refine tw_aload rfl rfl ?_
  refine tw_iload rfl rfl ?_
  refine tw_virt1 rfl (f_hasCrash hG hs) (fun w9 h9 p156 => ?_)
  obtain ⟨⟨p156, rfl⟩ | ⟨p156, rfl⟩, rfl⟩ := p156
  · try dsimp only [tvI_i, tvJ_j, tvR_r] at p156
    refine tw_if_ne rfl (fun _ => ?_) (fun z => absurd z (by decide))
    refine tw_aload rfl rfl ?_
    refine tw_getS rfl (hs_63_4 hs) ?_
    refine tw_iload rfl rfl ?_
    refine tw_iload rfl rfl ?_
    refine tw_iast rfl (fun f157 => ?_)
    refine tw_aload rfl rfl ?_
    refine tw_getS rfl (hs_63_5 (tSh_SA hs)) ?_
    refine tw_iload rfl rfl ?_
    refine tw_iload rfl rfl ?_
    refine tw_iast rfl (fun f158 => ?_)
    refine tw_aload rfl rfl ?_
    refine tw_getS rfl (hs_63_6 (tSh_SA (tSh_SA hs))) ?_
    refine tw_iload rfl rfl ?_
    refine tw_iload rfl rfl ?_
    refine tw_iast rfl (fun f159 => ?_)
    refine tw_aload rfl rfl ?_
    refine tw_getS rfl (hs_63_7 (tSh_SA (tSh_SA (tSh_SA hs)))) ?_
    refine tw_iload rfl rfl ?_
    refine tw_iload rfl rfl ?_
    refine tw_bastZ bu rfl (fun kf160 f160 => ?_)
    exact tw_vret rfl ⟨rfl, by rw [tF_tSA, tF_tSA, tF_tSA, tF_tSA], by rw [tO_tSA, tO_tSA, tO_tSA, tO_tSA]⟩
  · try dsimp only [tvI_i, tvJ_j, tvR_r] at p156
    refine tw_if_ne rfl (fun z => absurd z (by decide)) (fun _ => ?_)
    exact (p156 ⟨by omega, by omega⟩).elim
noncomputable def ph_crc (c m s v d u y : Int32) (h : zH) (w : Option Value) (h2 : zH) : Prop := (((0 ≤ c.toInt ∧ c.toInt < (tvI (tF h 36 4)).toInt) ∧ (tA h 120 c.toNatClampNeg).toInt = 0 ∧ ((tA h 127 c.toNatClampNeg).toInt ≤ m.toInt ∧ m.toInt ≤ (tvI (tF h 0 14)).toInt) ∧ (0 ≤ s.toInt ∧ s.toInt ≤ 2) ∧ (0 ≤ v.toInt ∧ v.toInt ≤ 200) ∧ (0 ≤ d.toInt ∧ d.toInt ≤ 9) ∧ (tvI (tF h 63 8)).toInt ≠ 200) ∧ w = some (tF h 63 8) ∧ ∃ r, tO h 39 c.toNatClampNeg = some r ∧ tF h2 63 8 = .int (tvI (tF h 63 8) + 1) ∧ tF h2 r 6 = .int m ∧ tF h2 r 7 = .int y ∧ (∀ p b, ¬ (p = 63 ∧ b = 8) → ¬ (p = r ∧ (b = 6 ∨ b = 7)) → tF h2 p b = tF h p b) ∧ tO h2 = tO h) ∨ (¬ ((0 ≤ c.toInt ∧ c.toInt < (tvI (tF h 36 4)).toInt) ∧ (tA h 120 c.toNatClampNeg).toInt = 0 ∧ ((tA h 127 c.toNatClampNeg).toInt ≤ m.toInt ∧ m.toInt ≤ (tvI (tF h 0 14)).toInt) ∧ (0 ≤ s.toInt ∧ s.toInt ≤ 2) ∧ (0 ≤ v.toInt ∧ v.toInt ≤ 200) ∧ (0 ≤ d.toInt ∧ d.toInt ≤ 9) ∧ (tvI (tF h 63 8)).toInt ≠ 200) ∧ w = some (.int (-1)) ∧ h2 = h)
theorem zinc1 {x : Int32} (h : 0 ≤ x.toInt ∧ x.toInt ≤ 200) : (x + 1).toInt = x.toInt + 1 := by
  rw [Int32.toInt_add]
  exact Int.bmod_eq_of_le (by show (-2147483648 : Int) ≤ x.toInt + 1; omega) (by show x.toInt + 1 < (2147483648 : Int); omega)
theorem f_crash {G : zG} (hG : G.1 = zProg) {h : zH} {c m s v d u y : Int32} (bu : 0 ≤ u.toInt ∧ u.toInt ≤ 1) (bw : 0 ≤ y.toInt ∧ y.toInt ≤ 1) (hs : tSh h) (hL : R_cl h) (hg : ∀ i r : Nat, (i : Int) < (tvI (tF h 36 4)).toInt → tO h 39 i = some r → 182 ≤ r) (hR6 : R_ccr h) (hR7 : R_cwr h) (hR0 : R_ckind h) (hn0 : 0 ≤ (tvI (tF h 63 8)).toInt ∧ (tvI (tF h 63 8)).toInt ≤ 200) : tC zTt G 133 [.ref 0, .int c, .int m, .int s, .int v, .int d, .int u, .int y] h (ph_crc c m s v d u y h) := by
  refine tC_in (by rw [hG]; rfl) (fun dp => ?_)
  refine tw_aload rfl rfl ?_
  refine tw_getS rfl (hs_0_1 hs) ?_
  refine tw_iload rfl rfl ?_
  refine tw_virt1 rfl (f_carAtR hG hs hL hg) (fun w9 h9 p161 => ?_)
  obtain ⟨⟨rp161, p161, p161r, p161g, rfl⟩ | ⟨p161, rfl⟩, rfl⟩ := p161
  · refine tw_astore rfl ?_
    refine tw_aload rfl rfl ?_
    refine tw_ifnull rfl (fun z => by cases z) (fun _ _ => ?_)
    refine tw_aload rfl rfl ?_
    refine tw_getS rfl (hR7 _ _ p161.2 p161r) ?_
    refine tw_if_ne rfl (fun q164 => ?_) (fun q164 => ?_)
    · try dsimp only [tvI_i, tvJ_j, tvR_r] at q164
      have q164i := zneq (Y := 0) (by decide) q164
      refine tw_push rfl ?_
      exact tw_iret rfl (Or.inr ⟨by omega, rfl, rfl⟩)
    · try dsimp only [tvI_i, tvJ_j, tvR_r] at q164
      have q164i := zeqi (Y := 0) (by decide) q164
      refine tw_iload rfl rfl ?_
      refine tw_aload rfl rfl ?_
      refine tw_getS rfl (hR6 _ _ p161.2 p161r) ?_
      refine tw_aload rfl rfl ?_
      refine tw_getS rfl (hi_0_14 hs) ?_
      refine tw_stat3 rfl (f_isWithin hG   rfl rfl) (fun w9 h9 p165 => ?_)
      obtain ⟨⟨p165, rfl⟩ | ⟨p165, rfl⟩, rfl⟩ := p165
      · try dsimp only [tvI_i, tvJ_j, tvR_r] at p165
        refine tw_if_ne rfl (fun _ => ?_) (fun z => absurd z (by decide))
        refine tw_iload rfl rfl ?_
        refine tw_stat1 rfl (f_isSort hG) (fun w9 h9 p166 => ?_)
        obtain ⟨⟨p166, rfl⟩ | ⟨p166, rfl⟩, rfl⟩ := p166
        · try dsimp only [tvI_i, tvJ_j, tvR_r] at p166
          refine tw_if_eq rfl (fun z => absurd z (by decide)) (fun _ => ?_)
          refine tw_iload rfl rfl ?_
          refine tw_stat1 rfl (f_isSpeed hG) (fun w9 h9 p167 => ?_)
          obtain ⟨⟨p167, rfl⟩ | ⟨p167, rfl⟩, rfl⟩ := p167
          · try dsimp only [tvI_i, tvJ_j, tvR_r] at p167
            refine tw_if_eq rfl (fun z => absurd z (by decide)) (fun _ => ?_)
            refine tw_iload rfl rfl ?_
            refine tw_push rfl ?_
            refine tw_push rfl ?_
            refine tw_stat3 rfl (f_isWithin hG (LO := 0) (HI := 9) (by decide) (by decide)) (fun w9 h9 p168 => ?_)
            obtain ⟨⟨p168, rfl⟩ | ⟨p168, rfl⟩, rfl⟩ := p168
            · try dsimp only [tvI_i, tvJ_j, tvR_r] at p168
              refine tw_if_eq rfl (fun z => absurd z (by decide)) (fun _ => ?_)
              refine tw_aload rfl rfl ?_
              refine tw_getS rfl (hs_0_5 hs) ?_
              refine tw_virt0 rfl (f_cfull hG hs (hi_63_8 hs)) (fun w9 h9 p169 => ?_)
              obtain ⟨⟨p169, rfl⟩ | ⟨p169, rfl⟩, rfl⟩ := p169
              · try dsimp only [tvI_i, tvJ_j, tvR_r] at p169
                refine tw_if_eq rfl (fun z => absurd z (by decide)) (fun _ => ?_)
                refine tw_push rfl ?_
                exact tw_iret rfl (Or.inr ⟨by omega, rfl, rfl⟩)
              · try dsimp only [tvI_i, tvJ_j, tvR_r] at p169
                refine tw_if_eq rfl (fun _ => ?_) (fun z => absurd z (by decide))
                refine tw_aload rfl rfl ?_
                refine tw_iload rfl rfl ?_
                refine tw_put rfl (fun f170 => ?_)
                refine tw_aload rfl rfl ?_
                refine tw_iload rfl rfl ?_
                refine tw_put rfl (fun f171 => ?_)
                refine tw_aload rfl rfl ?_
                refine tw_getS rfl (hs_0_5 (tSh_SFr (by omega) (tSh_SFr (by omega) hs))) ?_
                refine tw_iload rfl rfl ?_
                refine tw_aload rfl rfl ?_
                refine tw_getS rfl (tF_ne (by omega) (tF_ne (by omega) (hR0 _ _ p161.2 p161r))) ?_
                refine tw_iload rfl rfl ?_
                refine tw_aload rfl rfl ?_
                refine tw_getS rfl (tF_ne (by omega) (tF_ne (by omega) (hi_0_14 hs))) ?_
                refine tw_virt4 rfl (f_addCrash hG (tSh_SFr (by omega) (tSh_SFr (by omega) hs)) (tF_ne (by omega) (tF_ne (by omega) (hi_63_8 hs))) (by omega)) (fun wp172 hp172 p172 => ?_)
                obtain ⟨rfl, p172e, p172f, p172o⟩ := p172
                refine tw_istore rfl ?_
                refine tw_aload rfl rfl ?_
                refine tw_getS rfl (hs_0_5 (tSh_ex (by decide +kernel) (tSh_SFr (by omega) (tSh_SFr (by omega) hs)) p172e p172f)) ?_
                refine tw_iload rfl rfl ?_
                refine tw_iload rfl rfl ?_
                refine tw_iload rfl rfl ?_
                refine tw_iload rfl rfl ?_
                refine tw_iload rfl rfl ?_
                refine tw_virt5 rfl (f_tellOf hG bu (tSh_ex (by decide +kernel) (tSh_SFr (by omega) (tSh_SFr (by omega) hs)) p172e p172f) p172e ⟨hn0.1, (by rw [zinc1 hn0]; exact Int.lt_succ _)⟩) (fun wp173 hp173 p173 => ?_)
                obtain ⟨rfl, p173e, p173o⟩ := p173
                refine tw_iload rfl rfl ?_
                have e63 := hi_63_8 hs
                refine tw_iret rfl (Or.inl ⟨by omega, congrArg some e63.symm, rp161, p161r, ?_, ?_, ?_, fun p b n1 n2 => ?_, ?_⟩)
                · rw [p173e, p172e]
                · rw [p173e, p172f _ _ (by omega)]; exact tF_ne (by omega) (tF_same f170)
                · rw [p173e, p172f _ _ (by omega)]; exact tF_same f171
                · rw [p173e, p172f _ _ n1]; exact (tF_ne (fun z => n2 ⟨z.1, Or.inr z.2⟩) (tF_ne (fun z => n2 ⟨z.1, Or.inl z.2⟩) rfl))
                · rw [p173o, p172o, tO_tSF, tO_tSF]
            · try dsimp only [tvI_i, tvJ_j, tvR_r] at p168
              refine tw_if_eq rfl (fun _ => ?_) (fun z => absurd z (by decide))
              refine tw_push rfl ?_
              exact tw_iret rfl (Or.inr ⟨by omega, rfl, rfl⟩)
          · try dsimp only [tvI_i, tvJ_j, tvR_r] at p167
            refine tw_if_eq rfl (fun _ => ?_) (fun z => absurd z (by decide))
            refine tw_push rfl ?_
            exact tw_iret rfl (Or.inr ⟨by omega, rfl, rfl⟩)
        · try dsimp only [tvI_i, tvJ_j, tvR_r] at p166
          refine tw_if_eq rfl (fun _ => ?_) (fun z => absurd z (by decide))
          refine tw_push rfl ?_
          exact tw_iret rfl (Or.inr ⟨by omega, rfl, rfl⟩)
      · try dsimp only [tvI_i, tvJ_j, tvR_r] at p165
        refine tw_if_ne rfl (fun z => absurd z (by decide)) (fun _ => ?_)
        refine tw_push rfl ?_
        exact tw_iret rfl (Or.inr ⟨by omega, rfl, rfl⟩)
  · refine tw_astoreN rfl ?_
    refine tw_aload rfl rfl ?_
    refine tw_ifnull rfl (fun _ => ?_) (fun _ z => by cases z)
    refine tw_push rfl ?_
    exact tw_iret rfl (Or.inr ⟨by omega, rfl, rfl⟩)
theorem g_isSort {G : zG} (hG : G.1 = zProg) {h : zH} {n : Int32} : tC zTt G 173 [.int n] h (fun w h2 => tBo (0 ≤ n.toInt ∧ n.toInt ≤ 2) w ∧ h2 = h) := by
  refine tC_in (by rw [hG]; rfl) (fun dp => ?_)
  refine tw_iload rfl rfl ?_
  refine tw_i2l rfl ?_
  refine tw_push rfl ?_
  refine tw_push rfl ?_
  refine tw_stat3 rfl (f_in hG  (LO := 0) (HI := 2) (Int32.toInt_toInt64 _) (by decide) (by decide)) (fun w9 h9 p176 => ?_)
  obtain ⟨⟨p176, rfl⟩ | ⟨p176, rfl⟩, rfl⟩ := p176
  · try dsimp only [tvI_i, tvJ_j, tvR_r] at p176
    exact tw_iret rfl ⟨Or.inl ⟨p176, rfl⟩, rfl⟩
  · try dsimp only [tvI_i, tvJ_j, tvR_r] at p176
    exact tw_iret rfl ⟨Or.inr ⟨p176, rfl⟩, rfl⟩
noncomputable def ph_crm (c m s v d u y : Int32) (h : zH) (w : Option Value) (h2 : zH) : Prop := (((0 ≤ c.toInt ∧ c.toInt < (tvI (tF h 111 5)).toInt) ∧ (tA h 120 c.toNatClampNeg).toInt = 0 ∧ ((tA h 127 c.toNatClampNeg).toInt ≤ m.toInt ∧ m.toInt ≤ (tvI (tF h 111 1)).toInt) ∧ (0 ≤ s.toInt ∧ s.toInt ≤ 2) ∧ (0 ≤ v.toInt ∧ v.toInt ≤ 200) ∧ (0 ≤ d.toInt ∧ d.toInt ≤ 9) ∧ (tvI (tF h 111 59)).toInt ≠ 200) ∧ w = some (tF h 111 59) ∧ tF h2 111 59 = .int (tvI (tF h 111 59) + 1) ∧ tA h2 127 = (fun j => if j = c.toNatClampNeg then m else tA h 127 j) ∧ tA h2 120 = (fun j => if j = c.toNatClampNeg then y else tA h 120 j)) ∨ (¬ ((0 ≤ c.toInt ∧ c.toInt < (tvI (tF h 111 5)).toInt) ∧ (tA h 120 c.toNatClampNeg).toInt = 0 ∧ ((tA h 127 c.toNatClampNeg).toInt ≤ m.toInt ∧ m.toInt ≤ (tvI (tF h 111 1)).toInt) ∧ (0 ≤ s.toInt ∧ s.toInt ≤ 2) ∧ (0 ≤ v.toInt ∧ v.toInt ≤ 200) ∧ (0 ≤ d.toInt ∧ d.toInt ≤ 9) ∧ (tvI (tF h 111 59)).toInt ≠ 200) ∧ w = some (.int (-1)) ∧ h2 = h)
theorem g_crash {G : zG} (hG : G.1 = zProg) {h : zH} {c m s v d u y : Int32} (bu : 0 ≤ u.toInt ∧ u.toInt ≤ 1) (bw : 0 ≤ y.toInt ∧ y.toInt ≤ 1) (hs : tSh h) (hk5 : 0 ≤ (tvI (tF h 111 5)).toInt) : tC zTt G 244 [.ref 111, .int c, .int m, .int s, .int v, .int d, .int u, .int y] h (ph_crm c m s v d u y h) := by
  refine tC_in (by rw [hG]; rfl) (fun dp => ?_)
  refine tw_aload rfl rfl ?_
  refine tw_getS rfl (hi_111_59 hs) ?_
  refine tw_push rfl ?_
  refine tw_ic_eq rfl (fun q177 => ?_) (fun q177 => ?_)
  · try dsimp only [tvI_i, tvJ_j, tvR_r] at q177
    have q177i := zeqi (Y := 200) (by decide) q177
    refine tw_push rfl ?_
    exact tw_iret rfl (Or.inr ⟨by omega, rfl, rfl⟩)
  · try dsimp only [tvI_i, tvJ_j, tvR_r] at q177
    have q177i := zneq (Y := 200) (by decide) q177
    refine tw_aload rfl rfl ?_
    refine tw_iload rfl rfl ?_
    refine tw_virt1 rfl (g_isCar hG hs hk5) (fun w9 h9 p178 => ?_)
    obtain ⟨⟨p178, rfl⟩ | ⟨p178, rfl⟩, rfl⟩ := p178
    · try dsimp only [tvI_i, tvJ_j, tvR_r] at p178
      refine tw_if_eq rfl (fun z => absurd z (by decide)) (fun _ => ?_)
      refine tw_aload rfl rfl ?_
      refine tw_getS rfl (hs_111_15 hs) ?_
      refine tw_iload rfl rfl ?_
      refine tw_bald rfl (fun f179 => ?_)
      refine tw_if_ne rfl (fun q180 => ?_) (fun q180 => ?_)
      · try dsimp only [tvI_i, tvJ_j, tvR_r] at q180
        have q180i := zneq (Y := 0) (by decide) q180
        refine tw_push rfl ?_
        exact tw_iret rfl (Or.inr ⟨by omega, rfl, rfl⟩)
      · try dsimp only [tvI_i, tvJ_j, tvR_r] at q180
        have q180i := zeqi (Y := 0) (by decide) q180
        refine tw_iload rfl rfl ?_
        refine tw_i2l rfl ?_
        refine tw_aload rfl rfl ?_
        refine tw_getS rfl (hs_111_22 hs) ?_
        refine tw_iload rfl rfl ?_
        refine tw_iald rfl (fun f181 => ?_)
        refine tw_i2l rfl ?_
        refine tw_aload rfl rfl ?_
        refine tw_getS rfl (hi_111_1 hs) ?_
        refine tw_i2l rfl ?_
        refine tw_stat3 rfl (f_in hG    (Int32.toInt_toInt64 _) (Int32.toInt_toInt64 _) (Int32.toInt_toInt64 _)) (fun w9 h9 p182 => ?_)
        obtain ⟨⟨p182, rfl⟩ | ⟨p182, rfl⟩, rfl⟩ := p182
        · try dsimp only [tvI_i, tvJ_j, tvR_r] at p182
          refine tw_if_eq rfl (fun z => absurd z (by decide)) (fun _ => ?_)
          refine tw_iload rfl rfl ?_
          refine tw_stat1 rfl (g_isSort hG) (fun w9 h9 p183 => ?_)
          obtain ⟨⟨p183, rfl⟩ | ⟨p183, rfl⟩, rfl⟩ := p183
          · try dsimp only [tvI_i, tvJ_j, tvR_r] at p183
            refine tw_if_eq rfl (fun z => absurd z (by decide)) (fun _ => ?_)
            refine tw_iload rfl rfl ?_
            refine tw_i2l rfl ?_
            refine tw_push rfl ?_
            refine tw_push rfl ?_
            refine tw_stat3 rfl (f_in hG  (LO := 0) (HI := 200) (Int32.toInt_toInt64 _) (by decide) (by decide)) (fun w9 h9 p184 => ?_)
            obtain ⟨⟨p184, rfl⟩ | ⟨p184, rfl⟩, rfl⟩ := p184
            · try dsimp only [tvI_i, tvJ_j, tvR_r] at p184
              refine tw_if_eq rfl (fun z => absurd z (by decide)) (fun _ => ?_)
              refine tw_iload rfl rfl ?_
              refine tw_i2l rfl ?_
              refine tw_push rfl ?_
              refine tw_push rfl ?_
              refine tw_stat3 rfl (f_in hG  (LO := 0) (HI := 9) (Int32.toInt_toInt64 _) (by decide) (by decide)) (fun w9 h9 p185 => ?_)
              obtain ⟨⟨p185, rfl⟩ | ⟨p185, rfl⟩, rfl⟩ := p185
              · try dsimp only [tvI_i, tvJ_j, tvR_r] at p185
                refine tw_if_ne rfl (fun _ => ?_) (fun z => absurd z (by decide))
                refine tw_aload rfl rfl ?_
                refine tw_getS rfl (hs_111_60 hs) ?_
                refine tw_aload rfl rfl ?_
                refine tw_getS rfl (hi_111_59 hs) ?_
                refine tw_iload rfl rfl ?_
                refine tw_iast rfl (fun f186 => ?_)
                refine tw_aload rfl rfl ?_
                refine tw_getS rfl (hs_111_61 (tSh_SA hs)) ?_
                refine tw_aload rfl rfl ?_
                refine tw_getS rfl (tF_a (hi_111_59 hs)) ?_
                refine tw_iload rfl rfl ?_
                refine tw_iast rfl (fun f187 => ?_)
                refine tw_aload rfl rfl ?_
                refine tw_getS rfl (hs_111_62 (tSh_SA (tSh_SA hs))) ?_
                refine tw_aload rfl rfl ?_
                refine tw_getS rfl (tF_a (tF_a (hi_111_59 hs))) ?_
                refine tw_iload rfl rfl ?_
                refine tw_iast rfl (fun f188 => ?_)
                refine tw_aload rfl rfl ?_
                refine tw_getS rfl (hs_111_63 (tSh_SA (tSh_SA (tSh_SA hs)))) ?_
                refine tw_aload rfl rfl ?_
                refine tw_getS rfl (tF_a (tF_a (tF_a (hi_111_59 hs)))) ?_
                refine tw_iload rfl rfl ?_
                refine tw_iast rfl (fun f189 => ?_)
                refine tw_aload rfl rfl ?_
                refine tw_getS rfl (hs_111_64 (tSh_SA (tSh_SA (tSh_SA (tSh_SA hs))))) ?_
                refine tw_aload rfl rfl ?_
                refine tw_getS rfl (tF_a (tF_a (tF_a (tF_a (hi_111_59 hs))))) ?_
                refine tw_iload rfl rfl ?_
                refine tw_iast rfl (fun f190 => ?_)
                refine tw_aload rfl rfl ?_
                refine tw_getS rfl (hs_111_65 (tSh_SA (tSh_SA (tSh_SA (tSh_SA (tSh_SA hs)))))) ?_
                refine tw_aload rfl rfl ?_
                refine tw_getS rfl (tF_a (tF_a (tF_a (tF_a (tF_a (hi_111_59 hs)))))) ?_
                refine tw_aload rfl rfl ?_
                refine tw_getS rfl (tF_a (tF_a (tF_a (tF_a (tF_a (hi_111_1 hs)))))) ?_
                refine tw_iast rfl (fun f191 => ?_)
                refine tw_aload rfl rfl ?_
                refine tw_getS rfl (hs_111_66 (tSh_SA (tSh_SA (tSh_SA (tSh_SA (tSh_SA (tSh_SA hs))))))) ?_
                refine tw_aload rfl rfl ?_
                refine tw_getS rfl (tF_a (tF_a (tF_a (tF_a (tF_a (tF_a (hi_111_59 hs))))))) ?_
                refine tw_iload rfl rfl ?_
                refine tw_bastZ bu rfl (fun kf192 f192 => ?_)
                refine tw_aload rfl rfl ?_
                refine tw_getS rfl (hs_111_22 (tSh_SA (tSh_SA (tSh_SA (tSh_SA (tSh_SA (tSh_SA (tSh_SA hs)))))))) ?_
                refine tw_iload rfl rfl ?_
                refine tw_iload rfl rfl ?_
                refine tw_iast rfl (fun f193 => ?_)
                refine tw_aload rfl rfl ?_
                refine tw_getS rfl (hs_111_15 (tSh_SA (tSh_SA (tSh_SA (tSh_SA (tSh_SA (tSh_SA (tSh_SA (tSh_SA hs))))))))) ?_
                refine tw_iload rfl rfl ?_
                refine tw_iload rfl rfl ?_
                refine tw_bastZ bw rfl (fun kf194 f194 => ?_)
                refine tw_aload rfl rfl ?_
                refine tw_dup rfl ?_
                refine tw_getS rfl (tF_a (tF_a (tF_a (tF_a (tF_a (tF_a (tF_a (tF_a (tF_a (hi_111_59 hs)))))))))) ?_
                refine tw_push rfl ?_
                refine tw_iadd rfl ?_
                refine tw_put rfl (fun f195 => ?_)
                refine tw_aload rfl rfl ?_
                refine tw_getS rfl (tF_same f195) ?_
                refine tw_push rfl ?_
                refine tw_isub rfl ?_
                exact tw_iret rfl (Or.inl ⟨by omega, wret1 (hi_111_59 hs), (tF_same f195), (tA_ff (tA_n (by decide) (tA_st f193 (tA_n (by decide) (tA_n (by decide) (tA_n (by decide) (tA_n (by decide) (tA_n (by decide) (tA_n (by decide) (tA_n (by decide) rfl)))))))))), (tA_ff (tA_st f194 (tA_n (by decide) (tA_n (by decide) (tA_n (by decide) (tA_n (by decide) (tA_n (by decide) (tA_n (by decide) (tA_n (by decide) (tA_n (by decide) rfl))))))))))⟩)
              · try dsimp only [tvI_i, tvJ_j, tvR_r] at p185
                refine tw_if_ne rfl (fun z => absurd z (by decide)) (fun _ => ?_)
                refine tw_push rfl ?_
                exact tw_iret rfl (Or.inr ⟨by omega, rfl, rfl⟩)
            · try dsimp only [tvI_i, tvJ_j, tvR_r] at p184
              refine tw_if_eq rfl (fun _ => ?_) (fun z => absurd z (by decide))
              refine tw_push rfl ?_
              exact tw_iret rfl (Or.inr ⟨by omega, rfl, rfl⟩)
          · try dsimp only [tvI_i, tvJ_j, tvR_r] at p183
            refine tw_if_eq rfl (fun _ => ?_) (fun z => absurd z (by decide))
            refine tw_push rfl ?_
            exact tw_iret rfl (Or.inr ⟨by omega, rfl, rfl⟩)
        · try dsimp only [tvI_i, tvJ_j, tvR_r] at p182
          refine tw_if_eq rfl (fun _ => ?_) (fun z => absurd z (by decide))
          refine tw_push rfl ?_
          exact tw_iret rfl (Or.inr ⟨by omega, rfl, rfl⟩)
    · try dsimp only [tvI_i, tvJ_j, tvR_r] at p178
      refine tw_if_eq rfl (fun _ => ?_) (fun z => absurd z (by decide))
      refine tw_push rfl ?_
      exact tw_iret rfl (Or.inr ⟨by omega, rfl, rfl⟩)
theorem a_crash {xs : Nat → Int32} {τ : List Nat} {c m s v d u y : Int32} {h h2 h3 : zH} {w w2 : Option Value} (hB : zBs xs τ h) (hC : R_cars h) (hW : R_now h) (hA : R_crashes h) (hL : R_cl h) (h6 : R_ccr h) (h7 : R_cwr h) (h0 : R_cw0 h) (e1 : tF h2 111 5 = tF h 111 5) (e4 : tF h2 111 1 = tF h 111 1) (e5 : tF h2 111 59 = tF h 111 59) (o1 : tA h2 127 = tA h 127) (o2 : tA h2 120 = tA h 120) (e2 : tF h3 63 8 = tF h2 63 8) (e6 : tO h3 39 = tO h2 39) (e8 : tO h2 39 = tO h 39) (e9 : tF h3 36 4 = tF h2 36 4) (e11 : tF h2 36 4 = tF h 36 4) (e7 : ∀ i r f : Nat, (i : Int) < (tvI (tF h2 36 4)).toInt → tO h2 39 i = some r → tF h3 r f = tF h2 r f) (k1 : ph_crc c m s v d u y h w h2) (k2 : ph_crm c m s v d u y h2 w2 h3) : w2 = w ∧ R_crashes h3 ∧ R_ccr h3 ∧ R_cwr h3 ∧ R_cw0 h3 := by
  have hC0 := hC
  have hA0 := hA
  unfold R_cars at hC0
  unfold R_now at hW
  unfold R_crashes at hA0
  unfold ph_crm at k2
  rw [e1, e4, e5, o1, o2, ← hC0, ← hW, ← hA0] at k2
  rw [e11, e8] at e7
  rcases k1 with ⟨c1, rfl, r, hr, f1, f2, f3, f4, f5⟩ | ⟨c1, rfl, rfl⟩ <;> rcases k2 with ⟨c2, rfl, q1, q2, q3⟩ | ⟨c2, rfl, rfl⟩
  · have hi : ((c.toNatClampNeg : Nat) : Int) < (tvI (tF h 36 4)).toInt := by rw [zclE]; omega
    have key : ∀ f x P, (f = 6 ∨ f = 7) → tF h2 r f = .int x → tA h3 P = (fun j => if j = c.toNatClampNeg then x else tA h P j) → (∀ i r : Nat, (i : Int) < (tvI (tF h 36 4)).toInt → tO h 39 i = some r → tF h r f = .int (tA h P i)) → ∀ i r : Nat, (i : Int) < (tvI (tF h3 36 4)).toInt → tO h3 39 i = some r → tF h3 r f = .int (tA h3 P i) := by
      intro f x P hf hx hP3 hold i s hi2 hs
      rw [e9, e11] at hi2
      rw [e6, e8] at hs
      rw [e7 i s f hi2 hs, hP3]
      dsimp only
      by_cases z : i = c.toNatClampNeg
      · subst z
        rw [hr] at hs
        cases hs
        rw [if_pos rfl]
        exact hx
      · rw [if_neg z, f4 s f (fun y => car_ne hB hi2 hs (p := 63) (t := 39) rfl (by decide) y.1) (fun y => z (hL.2 _ _ hi2 hi (by rw [hs, hr, y.1])))]
        exact hold i s hi2 hs
    refine ⟨rfl, ?_, key 6 m 127 (Or.inl rfl) f2 q2 h6, key 7 y 120 (Or.inr rfl) f3 q3 h7, ?_⟩
    · unfold R_crashes; rw [e2, f1, q1]
    · intro i hi2
      rw [e9, e11] at hi2
      rw [q3]
      dsimp only
      rw [if_neg (by omega)]
      exact h0 i hi2
  · exact absurd c1 c2
  · exact absurd c2 c1
  · exact ⟨rfl, hA, h6, h7, h0⟩
noncomputable def R_calls (h : zH) : Prop := tF h 89 4 = tF h 111 83
noncomputable def R_qkind (h : zH) : Prop := tA h 90 = tA h 173
noncomputable def R_qfrom (h : zH) : Prop := tA h 91 = tA h 174
noncomputable def R_qto (h : zH) : Prop := tA h 92 = tA h 175
noncomputable def R_qpart (h : zH) : Prop := tA h 93 = tA h 176
theorem f_hasPart {G : zG} (hG : G.1 = zProg) {h : zH} {n : Int32} (hs : tSh h) : tC zTt G 26 [.ref 1, .int n] h (fun w h2 => tBo (0 ≤ n.toInt ∧ n.toInt < (tvI (tF h 1 7)).toInt) w ∧ h2 = h) := by
  refine tC_in (by rw [hG]; rfl) (fun dp => ?_)
  refine tw_iload rfl rfl ?_
  refine tw_if_lt rfl (fun q196 => ?_) (fun q196 => ?_)
  · try dsimp only [tvI_i, tvJ_j, tvR_r] at q196
    refine tw_push rfl ?_
    exact tw_iret rfl ⟨Or.inr ⟨by omega, rfl⟩, rfl⟩
  · try dsimp only [tvI_i, tvJ_j, tvR_r] at q196
    refine tw_iload rfl rfl ?_
    refine tw_aload rfl rfl ?_
    refine tw_getS rfl (hi_1_7 hs) ?_
    refine tw_ic_ge rfl (fun q197 => ?_) (fun q197 => ?_)
    · try dsimp only [tvI_i, tvJ_j, tvR_r] at q197
      refine tw_push rfl ?_
      exact tw_iret rfl ⟨Or.inr ⟨by omega, rfl⟩, rfl⟩
    · try dsimp only [tvI_i, tvJ_j, tvR_r] at q197
      refine tw_push rfl ?_
      refine tw_goto rfl ?_
      exact tw_iret rfl ⟨Or.inl ⟨by omega, rfl⟩, rfl⟩
theorem f_addCall {G : zG} (hG : G.1 = zProg) {h : zH} {k : Int32} {a : Int32} {b : Int32} {p : Int32} (hs : tSh h) : tC zTt G 56 [.ref 89, .int k, .int a, .int b, .int p] h (phA 89 4 ((tvI (tF h 89 4)).toInt ≠ 20) [(90, k), (91, a), (92, b), (93, p)] h) := by
  refine tC_in (by rw [hG]; rfl) (fun dp => ?_)
  refine tw_aload rfl rfl ?_
  refine tw_getS rfl (hi_89_4 hs) ?_
  refine tw_push rfl ?_
  refine tw_ic_ne rfl (fun q198 => ?_) (fun q198 => ?_)
  · try dsimp only [tvI_i, tvJ_j, tvR_r] at q198
    have q198i := zneq (Y := 20) (by decide) q198
    refine tw_aload rfl rfl ?_
    refine tw_getS rfl (hs_89_0 hs) ?_
    refine tw_aload rfl rfl ?_
    refine tw_getS rfl (hi_89_4 hs) ?_
    refine tw_iload rfl rfl ?_
    refine tw_iast rfl (fun f199 => ?_)
    refine tw_aload rfl rfl ?_
    refine tw_getS rfl (hs_89_1 (tSh_SA hs)) ?_
    refine tw_aload rfl rfl ?_
    refine tw_getS rfl (tF_a (hi_89_4 hs)) ?_
    refine tw_iload rfl rfl ?_
    refine tw_iast rfl (fun f200 => ?_)
    refine tw_aload rfl rfl ?_
    refine tw_getS rfl (hs_89_2 (tSh_SA (tSh_SA hs))) ?_
    refine tw_aload rfl rfl ?_
    refine tw_getS rfl (tF_a (tF_a (hi_89_4 hs))) ?_
    refine tw_iload rfl rfl ?_
    refine tw_iast rfl (fun f201 => ?_)
    refine tw_aload rfl rfl ?_
    refine tw_getS rfl (hs_89_3 (tSh_SA (tSh_SA (tSh_SA hs)))) ?_
    refine tw_aload rfl rfl ?_
    refine tw_getS rfl (tF_a (tF_a (tF_a (hi_89_4 hs)))) ?_
    refine tw_iload rfl rfl ?_
    refine tw_iast rfl (fun f202 => ?_)
    refine tw_aload rfl rfl ?_
    refine tw_dup rfl ?_
    refine tw_getS rfl (tF_a (tF_a (tF_a (tF_a (hi_89_4 hs))))) ?_
    refine tw_dup_x1 rfl ?_
    refine tw_push rfl ?_
    refine tw_iadd rfl ?_
    refine tw_put rfl (fun f203 => ?_)
    exact tw_iret rfl (Or.inl ⟨by omega, congrArg some (hi_89_4 hs).symm, (tF_same f203), (fun q hq => by rcases List.mem_cons.mp hq with rfl | hq; (show tA _ 90 = _; exact (tA_ff (tA_n (by decide) (tA_n (by decide) (tA_n (by decide) (tA_st f199 rfl)))))); rcases List.mem_cons.mp hq with rfl | hq; (show tA _ 91 = _; exact (tA_ff (tA_n (by decide) (tA_n (by decide) (tA_st f200 (tA_n (by decide) rfl)))))); rcases List.mem_cons.mp hq with rfl | hq; (show tA _ 92 = _; exact (tA_ff (tA_n (by decide) (tA_st f201 (tA_n (by decide) (tA_n (by decide) rfl)))))); rcases List.mem_cons.mp hq with rfl | hq; (show tA _ 93 = _; exact (tA_ff (tA_st f202 (tA_n (by decide) (tA_n (by decide) (tA_n (by decide) rfl)))))); cases hq)⟩)
  · try dsimp only [tvI_i, tvJ_j, tvR_r] at q198
    have q198i := zeqi (Y := 20) (by decide) q198
    refine tw_push rfl ?_
    exact tw_iret rfl (Or.inr ⟨by omega, rfl, rfl, fun _ _ => rfl⟩)
theorem f_call {G : zG} (hG : G.1 = zProg) {h : zH} {k : Int32} {a : Int32} {b : Int32} {p : Int32} (hs : tSh h) : tC zTt G 146 [.ref 0, .int k, .int a, .int b, .int p] h (phA 89 4 (((0 ≤ k.toInt ∧ k.toInt < (tvI (tF h 1 6)).toInt) ∧ (0 ≤ a.toInt ∧ a.toInt ≤ 599) ∧ (a.toInt ≤ b.toInt ∧ b.toInt ≤ 599) ∧ (0 ≤ p.toInt ∧ p.toInt < (tvI (tF h 1 7)).toInt)) ∧ (tvI (tF h 89 4)).toInt ≠ 20) [(90, k), (91, a), (92, b), (93, p)] h) := by
  refine tC_in (by rw [hG]; rfl) (fun dp => ?_)
  refine tw_aload rfl rfl ?_
  refine tw_getS rfl (hs_0_0 hs) ?_
  refine tw_iload rfl rfl ?_
  refine tw_virt1 rfl (f_hasKind hG hs) (fun w9 h9 p204 => ?_)
  obtain ⟨⟨p204, rfl⟩ | ⟨p204, rfl⟩, rfl⟩ := p204
  · try dsimp only [tvI_i, tvJ_j, tvR_r] at p204
    refine tw_if_eq rfl (fun z => absurd z (by decide)) (fun _ => ?_)
    refine tw_iload rfl rfl ?_
    refine tw_stat1 rfl (f_isMonth hG) (fun w9 h9 p205 => ?_)
    obtain ⟨⟨p205, rfl⟩ | ⟨p205, rfl⟩, rfl⟩ := p205
    · try dsimp only [tvI_i, tvJ_j, tvR_r] at p205
      refine tw_if_eq rfl (fun z => absurd z (by decide)) (fun _ => ?_)
      refine tw_iload rfl rfl ?_
      refine tw_stat1 rfl (f_isMonth hG) (fun w9 h9 p206 => ?_)
      obtain ⟨⟨p206, rfl⟩ | ⟨p206, rfl⟩, rfl⟩ := p206
      · try dsimp only [tvI_i, tvJ_j, tvR_r] at p206
        refine tw_if_eq rfl (fun z => absurd z (by decide)) (fun _ => ?_)
        refine tw_iload rfl rfl ?_
        refine tw_iload rfl rfl ?_
        refine tw_ic_gt rfl (fun q207 => ?_) (fun q207 => ?_)
        · try dsimp only [tvI_i, tvJ_j, tvR_r] at q207
          refine tw_push rfl ?_
          refine tw_istore rfl ?_
          refine tw_iload rfl rfl ?_
          refine tw_if_eq rfl (fun _ => ?_) (fun z => absurd z (by decide))
          refine tw_push rfl ?_
          exact tw_iret rfl (Or.inr ⟨by omega, rfl, rfl, fun _ _ => rfl⟩)
        · try dsimp only [tvI_i, tvJ_j, tvR_r] at q207
          refine tw_aload rfl rfl ?_
          refine tw_getS rfl (hs_0_0 hs) ?_
          refine tw_iload rfl rfl ?_
          refine tw_virt1 rfl (f_hasPart hG hs) (fun w9 h9 p208 => ?_)
          obtain ⟨⟨p208, rfl⟩ | ⟨p208, rfl⟩, rfl⟩ := p208
          · try dsimp only [tvI_i, tvJ_j, tvR_r] at p208
            refine tw_if_eq rfl (fun z => absurd z (by decide)) (fun _ => ?_)
            refine tw_push rfl ?_
            refine tw_goto rfl ?_
            refine tw_istore rfl ?_
            refine tw_iload rfl rfl ?_
            refine tw_if_eq rfl (fun z => absurd z (by decide)) (fun _ => ?_)
            refine tw_aload rfl rfl ?_
            refine tw_getS rfl (hs_0_8 hs) ?_
            refine tw_iload rfl rfl ?_
            refine tw_iload rfl rfl ?_
            refine tw_iload rfl rfl ?_
            refine tw_iload rfl rfl ?_
            refine tw_virt4 rfl (f_addCall hG  hs) (fun w9 h9 p209 => ?_)
            rcases p209 with ⟨p209, rfl, p209e, p209g⟩ | ⟨p209, rfl, p209e, p209g⟩
            · refine tw_goto rfl ?_
              exact tw_iret rfl (Or.inl ⟨by omega, congrArg some (hi_89_4 hs).symm, p209e, p209g⟩)
            · refine tw_goto rfl ?_
              exact tw_iret rfl (Or.inr ⟨by omega, rfl, p209e, p209g⟩)
          · try dsimp only [tvI_i, tvJ_j, tvR_r] at p208
            refine tw_if_eq rfl (fun _ => ?_) (fun z => absurd z (by decide))
            refine tw_push rfl ?_
            refine tw_istore rfl ?_
            refine tw_iload rfl rfl ?_
            refine tw_if_eq rfl (fun _ => ?_) (fun z => absurd z (by decide))
            refine tw_push rfl ?_
            exact tw_iret rfl (Or.inr ⟨by omega, rfl, rfl, fun _ _ => rfl⟩)
      · try dsimp only [tvI_i, tvJ_j, tvR_r] at p206
        refine tw_if_eq rfl (fun _ => ?_) (fun z => absurd z (by decide))
        refine tw_push rfl ?_
        refine tw_istore rfl ?_
        refine tw_iload rfl rfl ?_
        refine tw_if_eq rfl (fun _ => ?_) (fun z => absurd z (by decide))
        refine tw_push rfl ?_
        exact tw_iret rfl (Or.inr ⟨by omega, rfl, rfl, fun _ _ => rfl⟩)
    · try dsimp only [tvI_i, tvJ_j, tvR_r] at p205
      refine tw_if_eq rfl (fun _ => ?_) (fun z => absurd z (by decide))
      refine tw_push rfl ?_
      refine tw_istore rfl ?_
      refine tw_iload rfl rfl ?_
      refine tw_if_eq rfl (fun _ => ?_) (fun z => absurd z (by decide))
      refine tw_push rfl ?_
      exact tw_iret rfl (Or.inr ⟨by omega, rfl, rfl, fun _ _ => rfl⟩)
  · try dsimp only [tvI_i, tvJ_j, tvR_r] at p204
    refine tw_if_eq rfl (fun _ => ?_) (fun z => absurd z (by decide))
    refine tw_push rfl ?_
    refine tw_istore rfl ?_
    refine tw_iload rfl rfl ?_
    refine tw_if_eq rfl (fun _ => ?_) (fun z => absurd z (by decide))
    refine tw_push rfl ?_
    exact tw_iret rfl (Or.inr ⟨by omega, rfl, rfl, fun _ _ => rfl⟩)
theorem g_isMonth {G : zG} (hG : G.1 = zProg) {h : zH} {n : Int32} : tC zTt G 172 [.int n] h (fun w h2 => tBo (0 ≤ n.toInt ∧ n.toInt ≤ 599) w ∧ h2 = h) := by
  refine tC_in (by rw [hG]; rfl) (fun dp => ?_)
  refine tw_iload rfl rfl ?_
  refine tw_i2l rfl ?_
  refine tw_push rfl ?_
  refine tw_push rfl ?_
  refine tw_stat3 rfl (f_in hG  (LO := 0) (HI := 599) (Int32.toInt_toInt64 _) (by decide) (by decide)) (fun w9 h9 p210 => ?_)
  obtain ⟨⟨p210, rfl⟩ | ⟨p210, rfl⟩, rfl⟩ := p210
  · try dsimp only [tvI_i, tvJ_j, tvR_r] at p210
    exact tw_iret rfl ⟨Or.inl ⟨p210, rfl⟩, rfl⟩
  · try dsimp only [tvI_i, tvJ_j, tvR_r] at p210
    exact tw_iret rfl ⟨Or.inr ⟨p210, rfl⟩, rfl⟩
theorem g_isPart {G : zG} (hG : G.1 = zProg) {h : zH} {n : Int32} (hs : tSh h) (hk : 0 ≤ (tvI (tF h 111 4)).toInt) : tC zTt G 177 [.ref 111, .int n] h (fun w h2 => tBo (0 ≤ n.toInt ∧ n.toInt < (tvI (tF h 111 4)).toInt) w ∧ h2 = h) := by
  refine tC_in (by rw [hG]; rfl) (fun dp => ?_)
  refine tw_iload rfl rfl ?_
  refine tw_i2l rfl ?_
  refine tw_push rfl ?_
  refine tw_aload rfl rfl ?_
  refine tw_getS rfl (hi_111_4 hs) ?_
  refine tw_push rfl ?_
  refine tw_isub rfl ?_
  refine tw_i2l rfl ?_
  refine tw_stat3 rfl (f_in hG  (LO := 0)  (Int32.toInt_toInt64 _) (by decide) (Int32.toInt_toInt64 _)) (fun w9 h9 p211 => ?_)
  obtain ⟨⟨p211, rfl⟩ | ⟨p211, rfl⟩, rfl⟩ := p211
  · try dsimp only [tvI_i, tvJ_j, tvR_r] at p211
    exact tw_iret rfl ⟨Or.inl ⟨by have e := zsub1 hk; have := p211; omega, rfl⟩, rfl⟩
  · try dsimp only [tvI_i, tvJ_j, tvR_r] at p211
    exact tw_iret rfl ⟨Or.inr ⟨by have e := zsub1 hk; have := p211; omega, rfl⟩, rfl⟩
theorem g_call {G : zG} (hG : G.1 = zProg) {h : zH} {k : Int32} {a : Int32} {b : Int32} {p : Int32} (hs : tSh h) (hk3 : 0 ≤ (tvI (tF h 111 3)).toInt) (hk4 : 0 ≤ (tvI (tF h 111 4)).toInt) : tC zTt G 265 [.ref 111, .int k, .int a, .int b, .int p] h (phA 111 83 (((0 ≤ k.toInt ∧ k.toInt < (tvI (tF h 111 3)).toInt) ∧ (0 ≤ a.toInt ∧ a.toInt ≤ 599) ∧ (a.toInt ≤ b.toInt ∧ b.toInt ≤ 599) ∧ (0 ≤ p.toInt ∧ p.toInt < (tvI (tF h 111 4)).toInt)) ∧ (tvI (tF h 111 83)).toInt ≠ 20) [(173, k), (174, a), (175, b), (176, p)] h) := by
  refine tC_in (by rw [hG]; rfl) (fun dp => ?_)
  refine tw_aload rfl rfl ?_
  refine tw_getS rfl (hi_111_83 hs) ?_
  refine tw_push rfl ?_
  refine tw_ic_eq rfl (fun q212 => ?_) (fun q212 => ?_)
  · try dsimp only [tvI_i, tvJ_j, tvR_r] at q212
    have q212i := zeqi (Y := 20) (by decide) q212
    refine tw_push rfl ?_
    exact tw_iret rfl (Or.inr ⟨by omega, rfl, rfl, fun _ _ => rfl⟩)
  · try dsimp only [tvI_i, tvJ_j, tvR_r] at q212
    have q212i := zneq (Y := 20) (by decide) q212
    refine tw_aload rfl rfl ?_
    refine tw_iload rfl rfl ?_
    refine tw_virt1 rfl (g_isKind hG hs hk3) (fun w9 h9 p213 => ?_)
    obtain ⟨⟨p213, rfl⟩ | ⟨p213, rfl⟩, rfl⟩ := p213
    · try dsimp only [tvI_i, tvJ_j, tvR_r] at p213
      refine tw_if_eq rfl (fun z => absurd z (by decide)) (fun _ => ?_)
      refine tw_iload rfl rfl ?_
      refine tw_stat1 rfl (g_isMonth hG) (fun w9 h9 p214 => ?_)
      obtain ⟨⟨p214, rfl⟩ | ⟨p214, rfl⟩, rfl⟩ := p214
      · try dsimp only [tvI_i, tvJ_j, tvR_r] at p214
        refine tw_if_eq rfl (fun z => absurd z (by decide)) (fun _ => ?_)
        refine tw_iload rfl rfl ?_
        refine tw_i2l rfl ?_
        refine tw_iload rfl rfl ?_
        refine tw_i2l rfl ?_
        refine tw_push rfl ?_
        refine tw_stat3 rfl (f_in hG   (HI := 599) (Int32.toInt_toInt64 _) (Int32.toInt_toInt64 _) (by decide)) (fun w9 h9 p215 => ?_)
        obtain ⟨⟨p215, rfl⟩ | ⟨p215, rfl⟩, rfl⟩ := p215
        · try dsimp only [tvI_i, tvJ_j, tvR_r] at p215
          refine tw_if_eq rfl (fun z => absurd z (by decide)) (fun _ => ?_)
          refine tw_aload rfl rfl ?_
          refine tw_iload rfl rfl ?_
          refine tw_virt1 rfl (g_isPart hG hs hk4) (fun w9 h9 p216 => ?_)
          obtain ⟨⟨p216, rfl⟩ | ⟨p216, rfl⟩, rfl⟩ := p216
          · try dsimp only [tvI_i, tvJ_j, tvR_r] at p216
            refine tw_if_ne rfl (fun _ => ?_) (fun z => absurd z (by decide))
            refine tw_aload rfl rfl ?_
            refine tw_getS rfl (hs_111_84 hs) ?_
            refine tw_aload rfl rfl ?_
            refine tw_getS rfl (hi_111_83 hs) ?_
            refine tw_iload rfl rfl ?_
            refine tw_iast rfl (fun f217 => ?_)
            refine tw_aload rfl rfl ?_
            refine tw_getS rfl (hs_111_85 (tSh_SA hs)) ?_
            refine tw_aload rfl rfl ?_
            refine tw_getS rfl (tF_a (hi_111_83 hs)) ?_
            refine tw_iload rfl rfl ?_
            refine tw_iast rfl (fun f218 => ?_)
            refine tw_aload rfl rfl ?_
            refine tw_getS rfl (hs_111_86 (tSh_SA (tSh_SA hs))) ?_
            refine tw_aload rfl rfl ?_
            refine tw_getS rfl (tF_a (tF_a (hi_111_83 hs))) ?_
            refine tw_iload rfl rfl ?_
            refine tw_iast rfl (fun f219 => ?_)
            refine tw_aload rfl rfl ?_
            refine tw_getS rfl (hs_111_87 (tSh_SA (tSh_SA (tSh_SA hs)))) ?_
            refine tw_aload rfl rfl ?_
            refine tw_getS rfl (tF_a (tF_a (tF_a (hi_111_83 hs)))) ?_
            refine tw_iload rfl rfl ?_
            refine tw_iast rfl (fun f220 => ?_)
            refine tw_aload rfl rfl ?_
            refine tw_dup rfl ?_
            refine tw_getS rfl (tF_a (tF_a (tF_a (tF_a (hi_111_83 hs))))) ?_
            refine tw_push rfl ?_
            refine tw_iadd rfl ?_
            refine tw_put rfl (fun f221 => ?_)
            refine tw_aload rfl rfl ?_
            refine tw_getS rfl (tF_same f221) ?_
            refine tw_push rfl ?_
            refine tw_isub rfl ?_
            exact tw_iret rfl (Or.inl ⟨by omega, wret1 (hi_111_83 hs), (tF_same f221), (fun q hq => by rcases List.mem_cons.mp hq with rfl | hq; (show tA _ 173 = _; exact (tA_ff (tA_n (by decide) (tA_n (by decide) (tA_n (by decide) (tA_st f217 rfl)))))); rcases List.mem_cons.mp hq with rfl | hq; (show tA _ 174 = _; exact (tA_ff (tA_n (by decide) (tA_n (by decide) (tA_st f218 (tA_n (by decide) rfl)))))); rcases List.mem_cons.mp hq with rfl | hq; (show tA _ 175 = _; exact (tA_ff (tA_n (by decide) (tA_st f219 (tA_n (by decide) (tA_n (by decide) rfl)))))); rcases List.mem_cons.mp hq with rfl | hq; (show tA _ 176 = _; exact (tA_ff (tA_st f220 (tA_n (by decide) (tA_n (by decide) (tA_n (by decide) rfl)))))); cases hq)⟩)
          · try dsimp only [tvI_i, tvJ_j, tvR_r] at p216
            refine tw_if_ne rfl (fun z => absurd z (by decide)) (fun _ => ?_)
            refine tw_push rfl ?_
            exact tw_iret rfl (Or.inr ⟨by omega, rfl, rfl, fun _ _ => rfl⟩)
        · try dsimp only [tvI_i, tvJ_j, tvR_r] at p215
          refine tw_if_eq rfl (fun _ => ?_) (fun z => absurd z (by decide))
          refine tw_push rfl ?_
          exact tw_iret rfl (Or.inr ⟨by omega, rfl, rfl, fun _ _ => rfl⟩)
      · try dsimp only [tvI_i, tvJ_j, tvR_r] at p214
        refine tw_if_eq rfl (fun _ => ?_) (fun z => absurd z (by decide))
        refine tw_push rfl ?_
        exact tw_iret rfl (Or.inr ⟨by omega, rfl, rfl, fun _ _ => rfl⟩)
    · try dsimp only [tvI_i, tvJ_j, tvR_r] at p213
      refine tw_if_eq rfl (fun _ => ?_) (fun z => absurd z (by decide))
      refine tw_push rfl ?_
      exact tw_iret rfl (Or.inr ⟨by omega, rfl, rfl, fun _ _ => rfl⟩)
theorem a_call {k : Int32} {a : Int32} {b : Int32} {p : Int32} {h h2 h3 : zH} {w w2 : Option Value} (h_kinds : R_kinds h) (h_parts : R_parts h) (hR : R_calls h) (e1 : tF h2 111 83 = tF h 111 83) (e2 : tF h3 89 4 = tF h2 89 4) (o_kinds : tF h2 111 3 = tF h 111 3) (o_parts : tF h2 111 4 = tF h 111 4) (h_qkind : R_qkind h) (o_qkind : tA h2 173 = tA h 173) (t_qkind : tA h3 90 = tA h2 90) (h_qfrom : R_qfrom h) (o_qfrom : tA h2 174 = tA h 174) (t_qfrom : tA h3 91 = tA h2 91) (h_qto : R_qto h) (o_qto : tA h2 175 = tA h 175) (t_qto : tA h3 92 = tA h2 92) (h_qpart : R_qpart h) (o_qpart : tA h2 176 = tA h 176) (t_qpart : tA h3 93 = tA h2 93) (k1 : phA 89 4 (((0 ≤ k.toInt ∧ k.toInt < (tvI (tF h 1 6)).toInt) ∧ (0 ≤ a.toInt ∧ a.toInt ≤ 599) ∧ (a.toInt ≤ b.toInt ∧ b.toInt ≤ 599) ∧ (0 ≤ p.toInt ∧ p.toInt < (tvI (tF h 1 7)).toInt)) ∧ (tvI (tF h 89 4)).toInt ≠ 20) [(90, k), (91, a), (92, b), (93, p)] h w h2) (k2 : phA 111 83 (((0 ≤ k.toInt ∧ k.toInt < (tvI (tF h2 111 3)).toInt) ∧ (0 ≤ a.toInt ∧ a.toInt ≤ 599) ∧ (a.toInt ≤ b.toInt ∧ b.toInt ≤ 599) ∧ (0 ≤ p.toInt ∧ p.toInt < (tvI (tF h2 111 4)).toInt)) ∧ (tvI (tF h2 111 83)).toInt ≠ 20) [(173, k), (174, a), (175, b), (176, p)] h2 w2 h3) : w2 = w ∧ R_calls h3 ∧ R_qkind h3 ∧ R_qfrom h3 ∧ R_qto h3 ∧ R_qpart h3 := by
  have hC : (((0 ≤ k.toInt ∧ k.toInt < (tvI (tF h 1 6)).toInt) ∧ (0 ≤ a.toInt ∧ a.toInt ≤ 599) ∧ (a.toInt ≤ b.toInt ∧ b.toInt ≤ 599) ∧ (0 ≤ p.toInt ∧ p.toInt < (tvI (tF h 1 7)).toInt)) ∧ (tvI (tF h 89 4)).toInt ≠ 20) ↔ (((0 ≤ k.toInt ∧ k.toInt < (tvI (tF h2 111 3)).toInt) ∧ (0 ≤ a.toInt ∧ a.toInt ≤ 599) ∧ (a.toInt ≤ b.toInt ∧ b.toInt ≤ 599) ∧ (0 ≤ p.toInt ∧ p.toInt < (tvI (tF h2 111 4)).toInt)) ∧ (tvI (tF h2 111 83)).toInt ≠ 20) := by
    have hR2 := hR
    unfold R_calls at hR2
    unfold R_kinds at h_kinds
    rw [o_kinds, ← h_kinds]
    unfold R_parts at h_parts
    rw [o_parts, ← h_parts]
    rw [e1, ← hR2]
  obtain ⟨r1, r2, r3⟩ := phA_a hR e1 e2 hC k1 k2
  exact ⟨r1, r2, r3 90 173 k (by simp) (by simp) h_qkind o_qkind t_qkind, r3 91 174 a (by simp) (by simp) h_qfrom o_qfrom t_qfrom, r3 92 175 b (by simp) (by simp) h_qto o_qto t_qto, r3 93 176 p (by simp) (by simp) h_qpart o_qpart t_qpart⟩
theorem crc_call {C : Prop} {k a b p : Int32} {h h2 h3 : zH} {w2 : Option Value} (hn : 0 ≤ (tvI (tF h 111 83)).toInt ∧ (tvI (tF h 111 83)).toInt ≤ 20) (hR : R_crc h) (e1 : tF h2 111 83 = tF h 111 83) (u1 : tA h2 178 = tA h 178) (u2 : tA h2 121 = tA h 121) (u3 : tA h2 122 = tA h 122) (u4 : tA h2 173 = tA h 173) (u5 : tA h2 174 = tA h 174) (u6 : tA h2 175 = tA h 175) (t1 : tA h3 178 = tA h2 178) (t2 : tA h3 121 = tA h2 121) (t3 : tA h3 122 = tA h2 122) (k2 : phA 111 83 C [(173, k), (174, a), (175, b), (176, p)] h2 w2 h3) : R_crc h3 := by
  intro i c hi hc hne
  rw [t1, u1] at hne
  obtain ⟨a1, a2, a3, a4⟩ := hR i c hi hc hne
  rw [t2, t3, u2, u3]
  rcases k2 with ⟨-, -, f1, g⟩ | ⟨-, -, f1, g⟩
  · rw [g (173, k) (by simp), g (174, a) (by simp), g (175, b) (by simp), f1, e1, u4, u5, u6]
    have hS : (tvI (Value.int (tvI (tF h 111 83) + 1))).toInt = (tvI (tF h 111 83)).toInt + 1 := (zincN (n := (tvI (tF h 111 83)).toInt.toNat) (by omega) (by omega)).trans (by omega)
    rw [hS]
    have hc9 : ¬ c = (tvI (tF h 111 83)).toNatClampNeg := by rw [zclE]; omega
    dsimp only
    rw [if_neg hc9, if_neg hc9, if_neg hc9]
    exact ⟨by omega, a2, a3, a4⟩
  · rw [g (173, k) (by simp), g (174, a) (by simp), g (175, b) (by simp), f1, e1]
    dsimp only
    rw [u4, u5, u6]
    exact ⟨a1, a2, a3, a4⟩
noncomputable def R_moved (h : zH) : Prop := ∀ i, i < 60 → tA h 38 i = tA h 119 i
theorem f_wasReached {G : zG} (hG : G.1 = zProg) {h : zH} {r : Nat} {c z : Int32} (h8 : tF h r 8 = .int z) : tC zTt G 2 [.ref r, .int c] h (fun w h2 => tBo ((z >>> (c &&& 31)) &&& 1 = 1) w ∧ h2 = h) := by
  refine tC_in (by rw [hG]; rfl) (fun dp => ?_)
  refine tw_aload rfl rfl ?_
  refine tw_getS rfl h8 ?_
  refine tw_iload rfl rfl ?_
  refine tw_ishr rfl ?_
  refine tw_push rfl ?_
  refine tw_iand rfl ?_
  refine tw_push rfl ?_
  refine tw_ic_ne rfl (fun q222 => ?_) (fun q222 => ?_)
  · try dsimp only [tvI_i, tvJ_j, tvR_r] at q222
    have q222i := zneq (Y := 1) (by decide) q222
    refine tw_push rfl ?_
    exact tw_iret rfl ⟨Or.inr ⟨q222, rfl⟩, rfl⟩
  · try dsimp only [tvI_i, tvJ_j, tvR_r] at q222
    have q222i := zeqi (Y := 1) (by decide) q222
    refine tw_push rfl ?_
    refine tw_goto rfl ?_
    exact tw_iret rfl ⟨Or.inl ⟨q222, rfl⟩, rfl⟩
theorem zand1 (y : Int32) : y &&& 1 = 0 ∨ y &&& 1 = 1 := by
  rw [← Int32.toBitVec_inj, ← Int32.toBitVec_inj]
  show y.toBitVec &&& 1#32 = 0#32 ∨ y.toBitVec &&& 1#32 = 1#32
  rw [BitVec.and_one_eq_setWidth_ofBool_getLsbD]
  cases y.toBitVec.getLsbD 0
  · exact Or.inl (by decide)
  · exact Or.inr (by decide)
theorem f_isLeftBy {G : zG} (hG : G.1 = zProg) {h : zH} {r : Nat} {c wr md : Int32} (h7 : tF h r 7 = .int wr) (h9 : tF h r 9 = .int md) : tC zTt G 3 [.ref r, .int c] h (fun w h2 => tBo (wr.toInt = 0 ∧ ¬ (md >>> (c &&& 31)) &&& 1 = 1) w ∧ h2 = h) := by
  refine tC_in (by rw [hG]; rfl) (fun dp => ?_)
  refine tw_aload rfl rfl ?_
  refine tw_getS rfl h7 ?_
  refine tw_if_ne rfl (fun q223 => ?_) (fun q223 => ?_)
  · try dsimp only [tvI_i, tvJ_j, tvR_r] at q223
    have q223i := zneq (Y := 0) (by decide) q223
    refine tw_push rfl ?_
    exact tw_iret rfl ⟨Or.inr ⟨fun z => q223i z.1, rfl⟩, rfl⟩
  · try dsimp only [tvI_i, tvJ_j, tvR_r] at q223
    have q223i := zeqi (Y := 0) (by decide) q223
    refine tw_aload rfl rfl ?_
    refine tw_getS rfl h9 ?_
    refine tw_iload rfl rfl ?_
    refine tw_ishr rfl ?_
    refine tw_push rfl ?_
    refine tw_iand rfl ?_
    refine tw_if_ne rfl (fun q224 => ?_) (fun q224 => ?_)
    · try dsimp only [tvI_i, tvJ_j, tvR_r] at q224
      have q224i := zneq (Y := 0) (by decide) q224
      refine tw_push rfl ?_
      exact tw_iret rfl ⟨Or.inr ⟨fun z => (zand1 _).elim q224 z.2, rfl⟩, rfl⟩
    · try dsimp only [tvI_i, tvJ_j, tvR_r] at q224
      have q224i := zeqi (Y := 0) (by decide) q224
      refine tw_push rfl ?_
      refine tw_goto rfl ?_
      exact tw_iret rfl ⟨Or.inl ⟨⟨q223i, (by rw [q224]; decide)⟩, rfl⟩, rfl⟩
theorem f_isCalled {G : zG} (hG : G.1 = zProg) {h : zH} {r : Nat} {c k m : Int32} (hs : tSh h) (h0 : tF h r 0 = .int k) (h1 : tF h r 1 = .int m) : tC zTt G 57 [.ref 89, .int c, .ref r] h (fun w h2 => tBo (k = tA h 90 c.toNatClampNeg ∧ (tA h 91 c.toNatClampNeg).toInt ≤ m.toInt ∧ m.toInt ≤ (tA h 92 c.toNatClampNeg).toInt) w ∧ h2 = h) := by
  refine tC_in (by rw [hG]; rfl) (fun dp => ?_)
  refine tw_aload rfl rfl ?_
  refine tw_getS rfl h0 ?_
  refine tw_aload rfl rfl ?_
  refine tw_getS rfl (hs_89_0 hs) ?_
  refine tw_iload rfl rfl ?_
  refine tw_iald rfl (fun f225 => ?_)
  refine tw_ic_ne rfl (fun q226 => ?_) (fun q226 => ?_)
  · try dsimp only [tvI_i, tvJ_j, tvR_r] at q226
    have q226i := zneq rfl q226
    refine tw_push rfl ?_
    exact tw_iret rfl ⟨Or.inr ⟨fun z => q226 z.1, rfl⟩, rfl⟩
  · try dsimp only [tvI_i, tvJ_j, tvR_r] at q226
    have q226i := zeqi rfl q226
    refine tw_aload rfl rfl ?_
    refine tw_getS rfl h1 ?_
    refine tw_aload rfl rfl ?_
    refine tw_getS rfl (hs_89_1 hs) ?_
    refine tw_iload rfl rfl ?_
    refine tw_iald rfl (fun f227 => ?_)
    refine tw_ic_lt rfl (fun q228 => ?_) (fun q228 => ?_)
    · try dsimp only [tvI_i, tvJ_j, tvR_r] at q228
      refine tw_push rfl ?_
      exact tw_iret rfl ⟨Or.inr ⟨fun z => absurd z.2.1 (by omega), rfl⟩, rfl⟩
    · try dsimp only [tvI_i, tvJ_j, tvR_r] at q228
      refine tw_aload rfl rfl ?_
      refine tw_getS rfl h1 ?_
      refine tw_aload rfl rfl ?_
      refine tw_getS rfl (hs_89_2 hs) ?_
      refine tw_iload rfl rfl ?_
      refine tw_iald rfl (fun f229 => ?_)
      refine tw_ic_gt rfl (fun q230 => ?_) (fun q230 => ?_)
      · try dsimp only [tvI_i, tvJ_j, tvR_r] at q230
        refine tw_push rfl ?_
        exact tw_iret rfl ⟨Or.inr ⟨fun z => absurd z.2.2 (by omega), rfl⟩, rfl⟩
      · try dsimp only [tvI_i, tvJ_j, tvR_r] at q230
        refine tw_push rfl ?_
        refine tw_goto rfl ?_
        exact tw_iret rfl ⟨Or.inl ⟨⟨q226, q228, q230⟩, rfl⟩, rfl⟩
theorem f_isLeft {G : zG} (hG : G.1 = zProg) {h : zH} {r : Nat} {c k m wr md : Int32} (hs : tSh h) (h0 : tF h r 0 = .int k) (h1 : tF h r 1 = .int m) (h7 : tF h r 7 = .int wr) (h9 : tF h r 9 = .int md) : tC zTt G 58 [.ref 89, .int c, .ref r] h (fun w h2 => tBo ((k = tA h 90 c.toNatClampNeg ∧ (tA h 91 c.toNatClampNeg).toInt ≤ m.toInt ∧ m.toInt ≤ (tA h 92 c.toNatClampNeg).toInt) ∧ (wr.toInt = 0 ∧ ¬ (md >>> (c &&& 31)) &&& 1 = 1)) w ∧ h2 = h) := by
  refine tC_in (by rw [hG]; rfl) (fun dp => ?_)
  refine tw_aload rfl rfl ?_
  refine tw_ifnull rfl (fun z => by cases z) (fun _ _ => ?_)
  refine tw_aload rfl rfl ?_
  refine tw_iload rfl rfl ?_
  refine tw_aload rfl rfl ?_
  refine tw_virt2 rfl (f_isCalled hG hs h0 h1) (fun w9 h9 p233 => ?_)
  obtain ⟨⟨p233, rfl⟩ | ⟨p233, rfl⟩, e9⟩ := p233
  · try dsimp only [tvI_i, tvJ_j, tvR_r] at p233
    obtain rfl := e9.symm
    refine tw_if_eq rfl (fun z => absurd z (by decide)) (fun _ => ?_)
    refine tw_aload rfl rfl ?_
    refine tw_iload rfl rfl ?_
    refine tw_virt1 rfl (f_isLeftBy hG h7 h9) (fun w9 h9 p234 => ?_)
    obtain ⟨⟨p234, rfl⟩ | ⟨p234, rfl⟩, e9⟩ := p234
    · try dsimp only [tvI_i, tvJ_j, tvR_r] at p234
      obtain rfl := e9.symm
      refine tw_if_eq rfl (fun z => absurd z (by decide)) (fun _ => ?_)
      refine tw_push rfl ?_
      refine tw_goto rfl ?_
      exact tw_iret rfl ⟨Or.inl ⟨⟨p233, p234⟩, rfl⟩, rfl⟩
    · try dsimp only [tvI_i, tvJ_j, tvR_r] at p234
      obtain rfl := e9.symm
      refine tw_if_eq rfl (fun _ => ?_) (fun z => absurd z (by decide))
      refine tw_push rfl ?_
      exact tw_iret rfl ⟨Or.inr ⟨fun z => p234 z.2, rfl⟩, rfl⟩
  · try dsimp only [tvI_i, tvJ_j, tvR_r] at p233
    obtain rfl := e9.symm
    refine tw_if_eq rfl (fun _ => ?_) (fun z => absurd z (by decide))
    refine tw_push rfl ?_
    exact tw_iret rfl ⟨Or.inr ⟨fun z => p233 z.1, rfl⟩, rfl⟩
theorem g_isCall {G : zG} (hG : G.1 = zProg) {h : zH} {n : Int32} (hs : tSh h) (hk : 0 ≤ (tvI (tF h 111 83)).toInt) : tC zTt G 266 [.ref 111, .int n] h (fun w h2 => tBo (0 ≤ n.toInt ∧ n.toInt < (tvI (tF h 111 83)).toInt) w ∧ h2 = h) := by
  refine tC_in (by rw [hG]; rfl) (fun dp => ?_)
  refine tw_iload rfl rfl ?_
  refine tw_i2l rfl ?_
  refine tw_push rfl ?_
  refine tw_aload rfl rfl ?_
  refine tw_getS rfl (hi_111_83 hs) ?_
  refine tw_push rfl ?_
  refine tw_isub rfl ?_
  refine tw_i2l rfl ?_
  refine tw_stat3 rfl (f_in hG  (LO := 0)  (Int32.toInt_toInt64 _) (by decide) (Int32.toInt_toInt64 _)) (fun w9 h9 p235 => ?_)
  obtain ⟨⟨p235, rfl⟩ | ⟨p235, rfl⟩, rfl⟩ := p235
  · try dsimp only [tvI_i, tvJ_j, tvR_r] at p235
    exact tw_iret rfl ⟨Or.inl ⟨by have e := zsub1 hk; have := p235; omega, rfl⟩, rfl⟩
  · try dsimp only [tvI_i, tvJ_j, tvR_r] at p235
    exact tw_iret rfl ⟨Or.inr ⟨by have e := zsub1 hk; have := p235; omega, rfl⟩, rfl⟩
theorem g_isOf {G : zG} (hG : G.1 = zProg) {h : zH} {c x : Int32} (hs : tSh h) : tC zTt G 267 [.ref 111, .int c, .int x] h (fun w h2 => tBo (tA h 121 x.toNatClampNeg = tA h 173 c.toNatClampNeg ∧ ((tA h 174 c.toNatClampNeg).toInt ≤ (tA h 122 x.toNatClampNeg).toInt ∧ (tA h 122 x.toNatClampNeg).toInt ≤ (tA h 175 c.toNatClampNeg).toInt)) w ∧ h2 = h) := by
  refine tC_in (by rw [hG]; rfl) (fun dp => ?_)
  refine tw_aload rfl rfl ?_
  refine tw_getS rfl (hs_111_16 hs) ?_
  refine tw_iload rfl rfl ?_
  refine tw_iald rfl (fun f236 => ?_)
  refine tw_aload rfl rfl ?_
  refine tw_getS rfl (hs_111_84 hs) ?_
  refine tw_iload rfl rfl ?_
  refine tw_iald rfl (fun f237 => ?_)
  refine tw_ic_ne rfl (fun q238 => ?_) (fun q238 => ?_)
  · try dsimp only [tvI_i, tvJ_j, tvR_r] at q238
    have q238i := zneq rfl q238
    refine tw_push rfl ?_
    exact tw_iret rfl ⟨Or.inr ⟨fun z => q238 z.1, rfl⟩, rfl⟩
  · try dsimp only [tvI_i, tvJ_j, tvR_r] at q238
    have q238i := zeqi rfl q238
    refine tw_aload rfl rfl ?_
    refine tw_getS rfl (hs_111_17 hs) ?_
    refine tw_iload rfl rfl ?_
    refine tw_iald rfl (fun f239 => ?_)
    refine tw_i2l rfl ?_
    refine tw_aload rfl rfl ?_
    refine tw_getS rfl (hs_111_85 hs) ?_
    refine tw_iload rfl rfl ?_
    refine tw_iald rfl (fun f240 => ?_)
    refine tw_i2l rfl ?_
    refine tw_aload rfl rfl ?_
    refine tw_getS rfl (hs_111_86 hs) ?_
    refine tw_iload rfl rfl ?_
    refine tw_iald rfl (fun f241 => ?_)
    refine tw_i2l rfl ?_
    refine tw_stat3 rfl (f_in hG    (Int32.toInt_toInt64 _) (Int32.toInt_toInt64 _) (Int32.toInt_toInt64 _)) (fun w9 h9 p242 => ?_)
    obtain ⟨⟨p242, rfl⟩ | ⟨p242, rfl⟩, e9⟩ := p242
    · try dsimp only [tvI_i, tvJ_j, tvR_r] at p242
      obtain rfl := e9.symm
      refine tw_if_eq rfl (fun z => absurd z (by decide)) (fun _ => ?_)
      refine tw_push rfl ?_
      refine tw_goto rfl ?_
      exact tw_iret rfl ⟨Or.inl ⟨⟨q238, p242⟩, rfl⟩, rfl⟩
    · try dsimp only [tvI_i, tvJ_j, tvR_r] at p242
      obtain rfl := e9.symm
      refine tw_if_eq rfl (fun _ => ?_) (fun z => absurd z (by decide))
      refine tw_push rfl ?_
      exact tw_iret rfl ⟨Or.inr ⟨fun z => p242 z.2, rfl⟩, rfl⟩
theorem g_isLeft {G : zG} (hG : G.1 = zProg) {h : zH} {c x : Int32} (hs : tSh h) (hc : 0 ≤ c.toInt ∧ c.toInt ≤ 20) (hx : 0 ≤ x.toInt ∧ x.toInt ≤ 300) : tC zTt G 268 [.ref 111, .int c, .int x] h (fun w h2 => tBo (lfM h c.toNatClampNeg x.toNatClampNeg = true) w ∧ h2 = h) := by
  refine tC_in (by rw [hG]; rfl) (fun dp => ?_)
  refine tw_aload rfl rfl ?_
  refine tw_iload rfl rfl ?_
  refine tw_iload rfl rfl ?_
  refine tw_virt2 rfl (g_isOf hG hs) (fun w9 h9 p243 => ?_)
  obtain ⟨⟨p243, rfl⟩ | ⟨p243, rfl⟩, e9⟩ := p243
  · try dsimp only [tvI_i, tvJ_j, tvR_r] at p243
    obtain rfl := e9.symm
    refine tw_if_eq rfl (fun z => absurd z (by decide)) (fun _ => ?_)
    refine tw_aload rfl rfl ?_
    refine tw_getS rfl (hs_111_88 hs) ?_
    refine tw_push rfl ?_
    refine tw_iload rfl rfl ?_
    refine tw_imul rfl ?_
    refine tw_iload rfl rfl ?_
    refine tw_iadd rfl ?_
    refine tw_iald rfl (fun f244 => ?_)
    refine tw_if_ne rfl (fun q245 => ?_) (fun q245 => ?_)
    · try dsimp only [tvI_i, tvJ_j, tvR_r] at q245
      have q245i := zneq (Y := 0) (by decide) q245
      refine tw_push rfl ?_
      exact tw_iret rfl ⟨Or.inr ⟨fun z => by unfold lfM lfB at z; have z := of_decide_eq_true z; exact q245 ((congrArg (tA _ 177) (zmul3 (k := c) (p := x) (by omega) (by omega))).trans z.2.2), rfl⟩, rfl⟩
    · try dsimp only [tvI_i, tvJ_j, tvR_r] at q245
      have q245i := zeqi (Y := 0) (by decide) q245
      refine tw_aload rfl rfl ?_
      refine tw_getS rfl (hs_111_15 hs) ?_
      refine tw_iload rfl rfl ?_
      refine tw_bald rfl (fun f246 => ?_)
      refine tw_if_ne rfl (fun q247 => ?_) (fun q247 => ?_)
      · try dsimp only [tvI_i, tvJ_j, tvR_r] at q247
        have q247i := zneq (Y := 0) (by decide) q247
        refine tw_push rfl ?_
        exact tw_iret rfl ⟨Or.inr ⟨fun z => by unfold lfM lfB at z; have z := of_decide_eq_true z; exact q247i z.2.1, rfl⟩, rfl⟩
      · try dsimp only [tvI_i, tvJ_j, tvR_r] at q247
        have q247i := zeqi (Y := 0) (by decide) q247
        refine tw_push rfl ?_
        refine tw_goto rfl ?_
        exact tw_iret rfl ⟨Or.inl ⟨by unfold lfM lfB; exact decide_eq_true ⟨p243, q247i, by rw [← (zmul3 (by omega) (by omega))]; exact q245⟩, rfl⟩, rfl⟩
  · try dsimp only [tvI_i, tvJ_j, tvR_r] at p243
    obtain rfl := e9.symm
    refine tw_if_eq rfl (fun _ => ?_) (fun z => absurd z (by decide))
    refine tw_push rfl ?_
    exact tw_iret rfl ⟨Or.inr ⟨fun z => by unfold lfM lfB at z; have z := of_decide_eq_true z; exact p243 z.1, rfl⟩, rfl⟩
theorem lfC_of {h : zH} {c k m wr md : Int32} {C i : Nat} (hc : c.toInt = C) (hC : C < 20) (h0 : k = tA h 121 i) (h1 : m = tA h 122 i) (h7 : wr = tA h 120 i) (h9 : ∀ c, c < 20 → (bI md c ↔ ¬ tA h 177 (300 * c + i) = 0)) : ((k = tA h 90 c.toNatClampNeg ∧ (tA h 91 c.toNatClampNeg).toInt ≤ m.toInt ∧ m.toInt ≤ (tA h 92 c.toNatClampNeg).toInt) ∧ (wr.toInt = 0 ∧ ¬ (md >>> (c &&& 31)) &&& 1 = 1)) ↔ lfC h C i = true := by
  have e9 : ((md >>> (c &&& 31)) &&& 1 = 1) ↔ ¬ tA h 177 (300 * C + i) = 0 := by
    rw [zof hc]; exact h9 C hC
  rw [zof_cl hc, e9, h0, h1, h7]
  unfold lfC lfB
  rw [decide_eq_true_iff, Classical.not_not]
theorem g_ownerIn5 {G : zG} (hG : G.1 = zProg) {h : zH} {c m k : Int32} (hs : tSh h) (h0 : 0 ≤ (tvI (tF h 111 6)).toInt) : tC zTt G 186 [.ref 111, .int c, .int m, .int k] h (fun w h2 => w = some (.int (sOw (tA h 128) (tA h 129) (tA h 130) (tA h 131) c m k (tA h 124 c.toNatClampNeg) (tvI (tF h 111 6)).toNatClampNeg)) ∧ h2 = h) := by
  refine tC_in (by rw [hG]; rfl) (fun dp => ?_)
  refine tw_aload rfl rfl ?_
  refine tw_getS rfl (hs_111_19 hs) ?_
  refine tw_iload rfl rfl ?_
  refine tw_iald rfl (fun f248 => ?_)
  refine tw_istore rfl ?_
  refine tw_push rfl ?_
  refine tw_istore rfl ?_
  refine tG_loop (zW_mono zTt G dp) (zW_conj zTt G dp) (V := fun pc L st h9 _ _ => pc = 11 ∧ st = [] ∧ h = h9 ∧ ∃ (n : Nat) (x y : Int32), x.toInt = n ∧ (n : Int) ≤ (tvI (tF h 111 6)).toInt ∧ y = sOw (tA h 128) (tA h 129) (tA h 130) (tA h 131) c m k (tA h 124 c.toNatClampNeg) n ∧ L = [some (.ref 111), some (.int c), some (.int m), some (.int k), some (.int y), some (.int x)]) ?_ (⟨rfl, rfl, rfl, 0, 0, _, rfl, h0, rfl, rfl⟩)
  rintro _ _ _ _ _ _ ⟨rfl, rfl, rfl, n, x, y, hx, hn, hy, rfl⟩
  refine tw_iload rfl rfl ?_
  refine tw_aload rfl rfl ?_
  refine tw_getS rfl (hi_111_6 hs) ?_
  refine tw_ic_ge rfl (fun q249 => ?_) (fun q249 => ?_)
  · try dsimp only [tvI_i, tvJ_j, tvR_r] at q249
    refine tw_iload rfl rfl ?_
    rw [show n = (tvI (tF h 111 6)).toNatClampNeg from by rw [zclE]; omega] at hy
    exact tw_iret rfl ⟨congrArg (fun z => some (Value.int z)) hy, rfl⟩
  · try dsimp only [tvI_i, tvJ_j, tvR_r] at q249
    refine tw_aload rfl rfl ?_
    refine tw_getS rfl (hs_111_23 hs) ?_
    refine tw_iload rfl rfl ?_
    refine tw_iald rfl (fun f250 => ?_)
    refine tw_iload rfl rfl ?_
    refine tw_ic_ne rfl (fun q251 => ?_) (fun q251 => ?_)
    · try dsimp only [tvI_i, tvJ_j, tvR_r] at q251
      have q251i := zneq rfl q251
      refine tw_iload rfl rfl ?_
      refine tw_istore rfl ?_
      refine tw_iinc rfl rfl ?_
      refine tw_goto rfl ?_
      exact tG_cut (zW_mono zTt G dp) (Or.inr ⟨rfl, rfl, rfl, n + 1, x + 1, _, zincL hx q249, by omega, sOw_n hx hy (fun z => q251 z.1), rfl⟩)
    · try dsimp only [tvI_i, tvJ_j, tvR_r] at q251
      have q251i := zeqi rfl q251
      refine tw_aload rfl rfl ?_
      refine tw_getS rfl (hs_111_26 hs) ?_
      refine tw_iload rfl rfl ?_
      refine tw_iald rfl (fun f252 => ?_)
      refine tw_iload rfl rfl ?_
      refine tw_ic_gt rfl (fun q253 => ?_) (fun q253 => ?_)
      · try dsimp only [tvI_i, tvJ_j, tvR_r] at q253
        refine tw_iload rfl rfl ?_
        refine tw_istore rfl ?_
        refine tw_iinc rfl rfl ?_
        refine tw_goto rfl ?_
        exact tG_cut (zW_mono zTt G dp) (Or.inr ⟨rfl, rfl, rfl, n + 1, x + 1, _, zincL hx q249, by omega, sOw_n hx hy (fun z => absurd z.2.1 (Int.not_le.mpr q253)), rfl⟩)
      · try dsimp only [tvI_i, tvJ_j, tvR_r] at q253
        refine tw_aload rfl rfl ?_
        refine tw_getS rfl (hs_111_25 hs) ?_
        refine tw_iload rfl rfl ?_
        refine tw_iald rfl (fun f254 => ?_)
        refine tw_iload rfl rfl ?_
        refine tw_ic_gt rfl (fun q255 => ?_) (fun q255 => ?_)
        · try dsimp only [tvI_i, tvJ_j, tvR_r] at q255
          refine tw_iload rfl rfl ?_
          refine tw_istore rfl ?_
          refine tw_iinc rfl rfl ?_
          refine tw_goto rfl ?_
          exact tG_cut (zW_mono zTt G dp) (Or.inr ⟨rfl, rfl, rfl, n + 1, x + 1, _, zincL hx q249, by omega, sOw_n hx hy (fun z => absurd z.2.2 (Int.not_le.mpr q255)), rfl⟩)
        · try dsimp only [tvI_i, tvJ_j, tvR_r] at q255
          refine tw_aload rfl rfl ?_
          refine tw_getS rfl (hs_111_24 hs) ?_
          refine tw_iload rfl rfl ?_
          refine tw_iald rfl (fun f256 => ?_)
          refine tw_goto rfl ?_
          refine tw_istore rfl ?_
          refine tw_iinc rfl rfl ?_
          refine tw_goto rfl ?_
          exact tG_cut (zW_mono zTt G dp) (Or.inr ⟨rfl, rfl, rfl, n + 1, x + 1, _, zincL hx q249, by omega, sOw_y (y := y) hx q251 q253 q255, rfl⟩)
theorem f_hasCall {G : zG} (hG : G.1 = zProg) {h : zH} {n : Int32} (hs : tSh h) : tC zTt G 55 [.ref 89, .int n] h (fun w h2 => tBo (0 ≤ n.toInt ∧ n.toInt < (tvI (tF h 89 4)).toInt) w ∧ h2 = h) := by
  refine tC_in (by rw [hG]; rfl) (fun dp => ?_)
  refine tw_iload rfl rfl ?_
  refine tw_if_lt rfl (fun q257 => ?_) (fun q257 => ?_)
  · try dsimp only [tvI_i, tvJ_j, tvR_r] at q257
    refine tw_push rfl ?_
    exact tw_iret rfl ⟨Or.inr ⟨by omega, rfl⟩, rfl⟩
  · try dsimp only [tvI_i, tvJ_j, tvR_r] at q257
    refine tw_iload rfl rfl ?_
    refine tw_aload rfl rfl ?_
    refine tw_getS rfl (hi_89_4 hs) ?_
    refine tw_ic_ge rfl (fun q258 => ?_) (fun q258 => ?_)
    · try dsimp only [tvI_i, tvJ_j, tvR_r] at q258
      refine tw_push rfl ?_
      exact tw_iret rfl ⟨Or.inr ⟨by omega, rfl⟩, rfl⟩
    · try dsimp only [tvI_i, tvJ_j, tvR_r] at q258
      refine tw_push rfl ?_
      refine tw_goto rfl ?_
      exact tw_iret rfl ⟨Or.inl ⟨by omega, rfl⟩, rfl⟩
/-- letters sent to the first k cars -/
noncomputable def lsF (h h1 : zH) (c : Int32) (k : Nat) : Prop := (∀ p b, ¬ (182 ≤ p ∧ b = 8) → tF h1 p b = tF h p b) ∧ tA h1 = tA h ∧ tO h1 = tO h ∧ ∀ i r : Nat, (i : Int) < (tvI (tF h 36 4)).toInt → tO h 39 i = some r → tF h1 r 8 = .int (if i < k ∧ ltC h c.toNatClampNeg i = true then tvI (tF h r 8) ||| ((1 : Int32) <<< (c &&& 31)) else tvI (tF h r 8))
section LS
variable {h h1 : zH} {c : Int32} {k : Nat}
theorem ls_sh (k1 : lsF h h1 c k) (hs : tSh h) : tSh h1 := by
  have a1 : tSr.all (fun q => Nat.blt q.1 182) = true := by decide +kernel
  have a2 : tSi.all (fun q => Nat.blt q.1 182) = true := by decide +kernel
  refine ⟨fun q hq => ?_, fun q hq => ?_⟩
  · have := Nat.le_of_ble_eq_true (List.all_eq_true.mp a1 q hq)
    rw [k1.1 _ _ (by omega)]; exact hs.1 q hq
  · have := Nat.le_of_ble_eq_true (List.all_eq_true.mp a2 q hq)
    rw [k1.1 _ _ (by omega)]; exact hs.2 q hq
theorem ls_n (k1 : lsF h h1 c k) : tF h1 36 4 = tF h 36 4 := k1.1 36 4 (by omega)
theorem ls_cl (k1 : lsF h h1 c k) (hL : R_cl h) : R_cl h1 := by unfold R_cl; rw [ls_n k1, k1.2.2.1]; exact hL
theorem ls_g (k1 : lsF h h1 c k) (hg : ∀ i r : Nat, (i : Int) < (tvI (tF h 36 4)).toInt → tO h 39 i = some r → 182 ≤ r) : ∀ i r : Nat, (i : Int) < (tvI (tF h1 36 4)).toInt → tO h1 39 i = some r → 182 ≤ r := by rw [ls_n k1, k1.2.2.1]; exact hg
theorem ls_R (k1 : lsF h h1 c k) {f P : Nat} (hf : f ≠ 8) (hR : ∀ i r : Nat, (i : Int) < (tvI (tF h 36 4)).toInt → tO h 39 i = some r → tF h r f = .int (tA h P i)) : ∀ i r : Nat, (i : Int) < (tvI (tF h1 36 4)).toInt → tO h1 39 i = some r → tF h1 r f = .int (tA h P i) := by
  intro i r hi hr
  rw [ls_n k1] at hi
  rw [k1.2.2.1] at hr
  rw [k1.1 r f (by omega)]
  exact hR i r hi hr
theorem ls_9 (k1 : lsF h h1 c k) (hR : R_cmb h) : ∀ i r : Nat, (i : Int) < (tvI (tF h1 36 4)).toInt → tO h1 39 i = some r → tF h1 r 9 = .int (tvI (tF h r 9)) ∧ ∀ c, c < 20 → (bI (tvI (tF h r 9)) c ↔ ¬ tA h 177 (300 * c + i) = 0) := by
  intro i r hi hr
  rw [ls_n k1] at hi
  rw [k1.2.2.1] at hr
  rw [k1.1 r 9 (by omega)]
  exact hR i r hi hr
theorem ls_8 (k1 : lsF h h1 c k) {i r : Nat} (hi : (i : Int) < (tvI (tF h1 36 4)).toInt) (hr : tO h1 39 i = some r) (hk : k ≤ i) : tF h1 r 8 = .int (tvI (tF h r 8)) := by
  rw [ls_n k1] at hi
  rw [k1.2.2.1] at hr
  rw [k1.2.2.2 i r hi hr, if_neg (fun z => by omega)]
theorem ls_st (k1 : lsF h h1 c k) (hL : R_cl h) {r : Nat} {X : Int32} (hi : (k : Int) < (tvI (tF h1 36 4)).toInt) (hr : tO h1 39 k = some r) (h182 : 182 ≤ r) (hf : tFd h1 r 8) (hP : ltC h c.toNatClampNeg k = true) (hX : X = tvI (tF h r 8) ||| ((1 : Int32) <<< (c &&& 31))) : lsF h (tSF h1 r 8 (.int X)) c (k + 1) := by
  rw [ls_n k1] at hi
  have hr2 := hr
  rw [k1.2.2.1] at hr2
  refine ⟨fun p b n => (tF_nz (fun z => n ⟨by omega, z.2⟩)).trans (k1.1 p b n), (tA_tSF _ _ _ _).trans k1.2.1, (tO_tSF _ _ _ _).trans k1.2.2.1, fun i s hi2 hs => ?_⟩
  by_cases e : i = k
  · subst e
    rw [hr2] at hs
    cases hs
    rw [tF_same hf, if_pos ⟨by omega, hP⟩, hX]
  · rw [tF_nz (fun z => e (hL.2 i k hi2 hi (by rw [hs, hr2, z.1]))), k1.2.2.2 i s hi2 hs]
    by_cases q : i < k ∧ ltC h c.toNatClampNeg i = true
    · rw [if_pos q, if_pos ⟨by omega, q.2⟩]
    · rw [if_neg q, if_neg (fun z => q ⟨by omega, z.2⟩)]
theorem ls_no (k1 : lsF h h1 c k) (hP : ¬ ltC h c.toNatClampNeg k = true) : lsF h h1 c (k + 1) := by
  refine ⟨k1.1, k1.2.1, k1.2.2.1, fun i s hi2 hs => ?_⟩
  rw [k1.2.2.2 i s hi2 hs]
  by_cases q : i < k ∧ ltC h c.toNatClampNeg i = true
  · rw [if_pos q, if_pos ⟨by omega, q.2⟩]
  · rw [if_neg q, if_neg]
    rintro ⟨z1, z2⟩
    by_cases e : i = k
    · subst e; exact hP z2
    · exact q ⟨by omega, z2⟩
end LS
theorem f_send {G : zG} (hG : G.1 = zProg) {h : zH} {c : Int32} (hs : tSh h) (hL : R_cl h) (hg : ∀ i r : Nat, (i : Int) < (tvI (tF h 36 4)).toInt → tO h 39 i = some r → 182 ≤ r) (hK : R_ckind h) (hM : R_cmade h) (hO : R_cown h) (hW : R_cwr h) (hB9 : R_cmb h) (hB8 : R_crb h) (hC : 0 ≤ c.toInt ∧ c.toInt < 20) (hn : 0 ≤ (tvI (tF h 36 4)).toInt) : tC zTt G 59 [.ref 89, .int c, .ref 36] h (fun w h2 => w = some (.int (sCn (ltC h c.toNatClampNeg) (tvI (tF h 36 4)).toNatClampNeg)) ∧ lsF h h2 c (tvI (tF h 36 4)).toNatClampNeg) := by
  refine tC_in (by rw [hG]; rfl) (fun dp => ?_)
  refine tw_push rfl ?_
  refine tw_istore rfl ?_
  refine tw_push rfl ?_
  refine tw_istore rfl ?_
  refine tG_loop (zW_mono zTt G dp) (zW_conj zTt G dp) (V := fun pc L st h9 _ _ => pc = 5 ∧ st = [] ∧ ∃ (h1 : zH) (k : Nat) (x y : Int32) (l5 : Option Value), h1 = h9 ∧ x.toInt = k ∧ (k : Int) ≤ (tvI (tF h 36 4)).toInt ∧ y = sCn (ltC h c.toNatClampNeg) k ∧ lsF h h1 c k ∧ L = [some (.ref 89), some (.int c), some (.ref 36), some (.int y), some (.int x), l5]) ?_ (⟨rfl, rfl, h, 0, 0, 0, _, rfl, rfl, hn, rfl, ⟨fun _ _ _ => rfl, rfl, rfl, fun i r hi hr => (hB8 i r hi hr).1.trans (by rw [if_neg (fun z => by omega)])⟩, rfl⟩)
  rintro _ _ _ _ _ _ ⟨rfl, rfl, h1, k, x, y, l5, rfl, hx, hk, hy, hLS, rfl⟩
  have hs1 := ls_sh hLS hs
  have hL1 := ls_cl hLS hL
  have hg1 := ls_g hLS hg
  have hK1 := ls_R hLS (f := 0) (P := 121) (by decide) hK
  have hM1 := ls_R hLS (f := 1) (P := 122) (by decide) hM
  have hO1 := ls_R hLS (f := 4) (P := 125) (by decide) hO
  have hW1 := ls_R hLS (f := 7) (P := 120) (by decide) hW
  have hB1 := ls_9 hLS hB9
  refine tw_iload rfl rfl ?_
  refine tw_aload rfl rfl ?_
  refine tw_getS rfl ((hLS.1 36 4 (by omega)).trans (hi_36_4 hs)) ?_
  refine tw_ic_ge rfl (fun q259 => ?_) (fun q259 => ?_)
  · try dsimp only [tvI_i, tvJ_j, tvR_r] at q259
    refine tw_iload rfl rfl ?_
    have hk9 : k = (tvI (tF h 36 4)).toNatClampNeg := by rw [zclE]; omega
    rw [hk9] at hy hLS
    exact tw_iret rfl ⟨congrArg (fun z => some (Value.int z)) hy, hLS⟩
  · try dsimp only [tvI_i, tvJ_j, tvR_r] at q259
    refine tw_aload rfl rfl ?_
    refine tw_iload rfl rfl ?_
    refine tw_virt1 rfl (f_carAtR hG hs1 hL1 hg1) (fun w9 h9 p260 => ?_)
    obtain ⟨⟨rp260, p260, p260r, p260g, rfl⟩ | ⟨p260, rfl⟩, e9⟩ := p260
    · obtain rfl := e9.symm
      refine tw_astore rfl ?_
      refine tw_aload rfl rfl ?_
      refine tw_iload rfl rfl ?_
      refine tw_aload rfl rfl ?_
      refine tw_virt2 rfl (f_isLeft hG hs1 (hK1 _ _ p260.2 p260r) (hM1 _ _ p260.2 p260r) (hW1 _ _ p260.2 p260r) (hB1 _ _ p260.2 p260r).1) (fun w9 h9 p261 => ?_)
      obtain ⟨⟨p261, rfl⟩ | ⟨p261, rfl⟩, e9⟩ := p261
      · try dsimp only [tvI_i, tvJ_j, tvR_r] at p261
        obtain rfl := e9.symm
        refine tw_if_eq rfl (fun z => absurd z (by decide)) (fun _ => ?_)
        refine tw_aload rfl rfl ?_
        refine tw_getS rfl (hs_36_1 hs1) ?_
        refine tw_aload rfl rfl ?_
        refine tw_getS rfl (hO1 _ _ p260.2 p260r) ?_
        refine tw_bald rfl (fun f262 => ?_)
        refine tw_if_ne rfl (fun q263 => ?_) (fun q263 => ?_)
        · try dsimp only [tvI_i, tvJ_j, tvR_r] at q263
          have q263i := zneq (Y := 0) (by decide) q263
          refine tw_iinc rfl rfl ?_
          refine tw_goto rfl ?_
          have eA := hLS.2.1
          have hB19 := (hB1 _ _ p260.2 p260r).2
          rw [zof_cl hx] at hB19
          have hpl := p261
          rw [eA] at hpl
          have hlf := lfC_of (h := h) (C := c.toNatClampNeg) (i := k) (c := c) (by rw [zclE]; omega) (by rw [zclE]; omega) (congrArg (tA h 121) (zof_cl hx)) (congrArg (tA h 122) (zof_cl hx)) (congrArg (tA h 120) (zof_cl hx)) hB19
          have hmv := q263
          rw [eA] at hmv
          rw [zof_cl hx] at hmv
          have hP : ¬ ltC h c.toNatClampNeg k = true := fun z => hmv (Int32.toInt_inj.mp (of_decide_eq_true (Bool.and_eq_true _ _ ▸ z).2))
          exact tG_cut (zW_mono zTt G dp) (Or.inr ⟨rfl, rfl, _, k + 1, x + 1, _, _, rfl, zincL hx q259, by omega, sCn_n hy hP, ls_no hLS hP, rfl⟩)
        · try dsimp only [tvI_i, tvJ_j, tvR_r] at q263
          have q263i := zeqi (Y := 0) (by decide) q263
          refine tw_aload rfl rfl ?_
          refine tw_dup rfl ?_
          refine tw_getS rfl (ls_8 hLS p260.2 p260r (by rw [zof_cl hx]; exact Nat.le_refl _)) ?_
          refine tw_push rfl ?_
          refine tw_iload rfl rfl ?_
          refine tw_ishl rfl ?_
          refine tw_ior rfl ?_
          refine tw_put rfl (fun f264 => ?_)
          refine tw_iinc rfl rfl ?_
          refine tw_iinc rfl rfl ?_
          refine tw_goto rfl ?_
          have eA := hLS.2.1
          have hB19 := (hB1 _ _ p260.2 p260r).2
          rw [zof_cl hx] at hB19
          have hpl := p261
          rw [eA] at hpl
          have hlf := lfC_of (h := h) (C := c.toNatClampNeg) (i := k) (c := c) (by rw [zclE]; omega) (by rw [zclE]; omega) (congrArg (tA h 121) (zof_cl hx)) (congrArg (tA h 122) (zof_cl hx)) (congrArg (tA h 120) (zof_cl hx)) hB19
          have hmv := q263
          rw [eA] at hmv
          rw [zof_cl hx] at hmv
          have hP : ltC h c.toNatClampNeg k = true := by rw [Bool.and_eq_true]; exact ⟨hlf.mp hpl, decide_eq_true (by rw [hmv]; rfl)⟩
          have hr9 := p260r
          rw [zof_cl hx] at hr9
          have hi9 := p260.2
          rw [zof_cl hx] at hi9
          exact tG_cut (zW_mono zTt G dp) (Or.inr ⟨rfl, rfl, _, k + 1, x + 1, _, _, rfl, zincL hx q259, by omega, sCn_y hy hP, ls_st hLS hL hi9 hr9 p260g f264 hP rfl, rfl⟩)
      · try dsimp only [tvI_i, tvJ_j, tvR_r] at p261
        obtain rfl := e9.symm
        refine tw_if_eq rfl (fun _ => ?_) (fun z => absurd z (by decide))
        refine tw_iinc rfl rfl ?_
        refine tw_goto rfl ?_
        have eA := hLS.2.1
        have hB19 := (hB1 _ _ p260.2 p260r).2
        rw [zof_cl hx] at hB19
        have hpl := p261
        rw [eA] at hpl
        have hlf := lfC_of (h := h) (C := c.toNatClampNeg) (i := k) (c := c) (by rw [zclE]; omega) (by rw [zclE]; omega) (congrArg (tA h 121) (zof_cl hx)) (congrArg (tA h 122) (zof_cl hx)) (congrArg (tA h 120) (zof_cl hx)) hB19
        have hP : ¬ ltC h c.toNatClampNeg k = true := fun z => hpl (hlf.mpr (Bool.and_eq_true _ _ ▸ z).1)
        exact tG_cut (zW_mono zTt G dp) (Or.inr ⟨rfl, rfl, _, k + 1, x + 1, _, _, rfl, zincL hx q259, by omega, sCn_n hy hP, ls_no hLS hP, rfl⟩)
    · obtain rfl := e9.symm
      exact absurd ⟨by omega, by rw [ls_n hLS]; omega⟩ p260
noncomputable def ph_lec (c : Int32) (h : zH) (w : Option Value) (h2 : zH) : Prop := ((0 ≤ c.toInt ∧ c.toInt < (tvI (tF h 89 4)).toInt) ∧ w = some (.int (sCn (ltC h c.toNatClampNeg) (tvI (tF h 36 4)).toNatClampNeg)) ∧ lsF h h2 c (tvI (tF h 36 4)).toNatClampNeg) ∨ (¬ (0 ≤ c.toInt ∧ c.toInt < (tvI (tF h 89 4)).toInt) ∧ w = some (.int (-1)) ∧ h2 = h)
theorem f_letters {G : zG} (hG : G.1 = zProg) {h : zH} {c : Int32} (hs : tSh h) (hL : R_cl h) (hg : ∀ i r : Nat, (i : Int) < (tvI (tF h 36 4)).toInt → tO h 39 i = some r → 182 ≤ r) (hK : R_ckind h) (hM : R_cmade h) (hO : R_cown h) (hW : R_cwr h) (hB9 : R_cmb h) (hB8 : R_crb h) (hk20 : (tvI (tF h 89 4)).toInt ≤ 20) (hn : 0 ≤ (tvI (tF h 36 4)).toInt) : tC zTt G 147 [.ref 0, .int c] h (ph_lec c h) := by
  refine tC_in (by rw [hG]; rfl) (fun dp => ?_)
  refine tw_aload rfl rfl ?_
  refine tw_getS rfl (hs_0_8 hs) ?_
  refine tw_iload rfl rfl ?_
  refine tw_virt1 rfl (f_hasCall hG hs) (fun w9 h9 p265 => ?_)
  obtain ⟨⟨p265, rfl⟩ | ⟨p265, rfl⟩, e9⟩ := p265
  · try dsimp only [tvI_i, tvJ_j, tvR_r] at p265
    obtain rfl := e9.symm
    refine tw_if_eq rfl (fun z => absurd z (by decide)) (fun _ => ?_)
    refine tw_aload rfl rfl ?_
    refine tw_getS rfl (hs_0_8 hs) ?_
    refine tw_iload rfl rfl ?_
    refine tw_aload rfl rfl ?_
    refine tw_getS rfl (hs_0_1 hs) ?_
    refine tw_virt2 rfl (f_send hG hs hL hg hK hM hO hW hB9 hB8 (by omega) hn) (fun wp266 hp266 p266 => ?_)
    obtain ⟨rfl, lp266⟩ := p266
    refine tw_goto rfl ?_
    exact tw_iret rfl (Or.inl ⟨by omega, rfl, lp266⟩)
  · try dsimp only [tvI_i, tvJ_j, tvR_r] at p265
    obtain rfl := e9.symm
    refine tw_if_eq rfl (fun _ => ?_) (fun z => absurd z (by decide))
    refine tw_push rfl ?_
    exact tw_iret rfl (Or.inr ⟨by omega, rfl, rfl⟩)
noncomputable def lmF (h h2 : zH) (c : Int32) (k : Nat) : Prop := gFr 178 h h2 ∧ (∀ i c2 : Nat, i < 300 → c2 < 20 → tA h2 178 (300 * c2 + i) = if c2 = c.toNatClampNeg ∧ i < k ∧ ltM h c.toNatClampNeg i = true then 1 else tA h 178 (300 * c2 + i))
theorem lm_st {h h1 : zH} {c x : Int32} {k kd : Nat} {z : Int32} (k1 : lmF h h1 c k) (hc : 0 ≤ c.toInt ∧ c.toInt < 20) (hx : x.toInt = k) (hk : k < 300) (hf : tIn h1 178 kd z) (hP : ltM h c.toNatClampNeg k = true) : lmF h (tSA h1 178 (300 * c + x).toNatClampNeg 1) c (k + 1) := by
  refine ⟨gFr_A k1.1, fun i c2 hi h2 => ?_⟩
  rw [zmul3 (k := c) (p := x) (by omega) (by omega), zof_cl hx, tA_tSA hf.cell]
  have hcN : c.toNatClampNeg < 20 := by rw [zclE]; omega
  show (if 178 = 178 ∧ 300 * c2 + i = 300 * c.toNatClampNeg + k then (1 : Int32) else tA h1 178 (300 * c2 + i)) = _
  by_cases e : c2 = c.toNatClampNeg ∧ i = k
  · rw [if_pos ⟨rfl, by omega⟩, if_pos ⟨e.1, by omega, by rw [e.2]; exact hP⟩]
  · rw [if_neg (fun z => e ⟨by omega, by omega⟩), k1.2 i c2 hi h2]
    by_cases q : c2 = c.toNatClampNeg ∧ i < k ∧ ltM h c.toNatClampNeg i = true
    · rw [if_pos q, if_pos ⟨q.1, by omega, q.2.2⟩]
    · rw [if_neg q, if_neg (fun z => q ⟨z.1, by have := z.2.1; have : i ≠ k := (fun w => e ⟨z.1, w⟩); omega, z.2.2⟩)]
theorem lm_no {h h1 : zH} {c : Int32} {k : Nat} (k1 : lmF h h1 c k) (hP : ¬ ltM h c.toNatClampNeg k = true) : lmF h h1 c (k + 1) := by
  refine ⟨k1.1, fun i c2 hi h2 => ?_⟩
  rw [k1.2 i c2 hi h2]
  by_cases q : c2 = c.toNatClampNeg ∧ i < k ∧ ltM h c.toNatClampNeg i = true
  · rw [if_pos q, if_pos ⟨q.1, by omega, q.2.2⟩]
  · rw [if_neg q, if_neg]
    rintro ⟨z1, z2, z3⟩
    by_cases e : i = k
    · subst e; exact hP z3
    · exact q ⟨z1, by omega, z3⟩
theorem lm_P {h h1 : zH} {c : Int32} {k : Nat} (k1 : gFr 178 h h1) {C i : Nat} : lfM h1 C i = lfM h C i := by
  unfold lfM
  rw [k1.2 173 (by decide), k1.2 174 (by decide), k1.2 175 (by decide), k1.2 121 (by decide), k1.2 122 (by decide), k1.2 120 (by decide), k1.2 177 (by decide)]
noncomputable def ph_lem (c : Int32) (h : zH) (w : Option Value) (h2 : zH) : Prop := ((0 ≤ c.toInt ∧ c.toInt < (tvI (tF h 111 83)).toInt) ∧ w = some (.int (sCn (ltM h c.toNatClampNeg) (tvI (tF h 111 5)).toNatClampNeg)) ∧ lmF h h2 c (tvI (tF h 111 5)).toNatClampNeg) ∨ (¬ (0 ≤ c.toInt ∧ c.toInt < (tvI (tF h 111 83)).toInt) ∧ w = some (.int (-1)) ∧ h2 = h)
theorem g_letters {G : zG} (hG : G.1 = zProg) {h : zH} {c : Int32} (hs : tSh h) (hn5 : 0 ≤ (tvI (tF h 111 5)).toInt ∧ (tvI (tF h 111 5)).toInt ≤ 300) (hk20 : (tvI (tF h 111 83)).toInt ≤ 20) (h06 : 0 ≤ (tvI (tF h 111 6)).toInt) (hk83 : 0 ≤ (tvI (tF h 111 83)).toInt) : tC zTt G 269 [.ref 111, .int c] h (ph_lem c h) := by
  refine tC_in (by rw [hG]; rfl) (fun dp => ?_)
  refine tw_aload rfl rfl ?_
  refine tw_iload rfl rfl ?_
  refine tw_virt1 rfl (g_isCall hG hs hk83) (fun w9 h9 p267 => ?_)
  obtain ⟨⟨p267, rfl⟩ | ⟨p267, rfl⟩, e9⟩ := p267
  · try dsimp only [tvI_i, tvJ_j, tvR_r] at p267
    obtain rfl := e9.symm
    refine tw_if_ne rfl (fun _ => ?_) (fun z => absurd z (by decide))
    refine tw_push rfl ?_
    refine tw_istore rfl ?_
    refine tw_push rfl ?_
    refine tw_istore rfl ?_
    refine tG_loop (zW_mono zTt G dp) (zW_conj zTt G dp) (V := fun pc L st h9 _ _ => pc = 14 ∧ st = [] ∧ ∃ (h1 : zH) (k : Nat) (x y : Int32), h1 = h9 ∧ x.toInt = k ∧ (k : Int) ≤ (tvI (tF h 111 5)).toInt ∧ y = sCn (ltM h c.toNatClampNeg) k ∧ lmF h h1 c k ∧ L = [some (.ref 111), some (.int c), some (.int y), some (.int x)]) ?_ (⟨rfl, rfl, h, 0, 0, 0, rfl, rfl, hn5.1, rfl, ⟨⟨rfl, fun _ _ => rfl⟩, fun i c2 _ _ => by rw [if_neg (fun z => by omega)]⟩, rfl⟩)
    rintro _ _ _ _ _ _ ⟨rfl, rfl, h1, k, x, y, rfl, hx, hk, hy, hLM, rfl⟩
    have hs1 := tSh_F hLM.1.1 hs
    refine tw_iload rfl rfl ?_
    refine tw_aload rfl rfl ?_
    refine tw_getS rfl ((congrFun (congrFun hLM.1.1 111) 5).trans (hi_111_5 hs)) ?_
    refine tw_ic_ge rfl (fun q268 => ?_) (fun q268 => ?_)
    · try dsimp only [tvI_i, tvJ_j, tvR_r] at q268
      refine tw_iload rfl rfl ?_
      have hk9 : k = (tvI (tF h 111 5)).toNatClampNeg := by rw [zclE]; omega
      rw [hk9] at hy hLM
      exact tw_iret rfl (Or.inl ⟨by omega, congrArg (fun z => some (Value.int z)) hy, hLM⟩)
    · try dsimp only [tvI_i, tvJ_j, tvR_r] at q268
      refine tw_aload rfl rfl ?_
      refine tw_iload rfl rfl ?_
      refine tw_iload rfl rfl ?_
      refine tw_virt2 rfl (g_isLeft hG hs1 (by omega) (by omega)) (fun w9 h9 p269 => ?_)
      obtain ⟨⟨p269, rfl⟩ | ⟨p269, rfl⟩, e9⟩ := p269
      · try dsimp only [tvI_i, tvJ_j, tvR_r] at p269
        obtain rfl := e9.symm
        refine tw_if_eq rfl (fun z => absurd z (by decide)) (fun _ => ?_)
        refine tw_aload rfl rfl ?_
        refine tw_getS rfl (hs_111_14 hs1) ?_
        refine tw_aload rfl rfl ?_
        refine tw_iload rfl rfl ?_
        refine tw_aload rfl rfl ?_
        refine tw_getS rfl ((congrFun (congrFun hLM.1.1 111) 1).trans (hi_111_1 hs)) ?_
        refine tw_aload rfl rfl ?_
        refine tw_getS rfl ((congrFun (congrFun hLM.1.1 111) 1).trans (hi_111_1 hs)) ?_
        refine tw_virt3 rfl (g_ownerIn5 hG hs1 (by rw [hLM.1.1]; exact h06)) (fun w9 h9 p270 => ?_)
        obtain ⟨rfl, e9⟩ := p270
        obtain rfl := e9.symm
        refine tw_bald rfl (fun f271 => ?_)
        refine tw_if_ne rfl (fun q272 => ?_) (fun q272 => ?_)
        · try dsimp only [tvI_i, tvJ_j, tvR_r] at q272
          have q272i := zneq (Y := 0) (by decide) q272
          refine tw_iinc rfl rfl ?_
          refine tw_goto rfl ?_
          have hpl := p269
          rw [lm_P (c := c) (k := k) hLM.1, zof_cl hx] at hpl
          have hmv := q272
          have E1 := hLM.1.1
          have E2 := hLM.1.2
          rw [E1, E2 119 (by decide), E2 128 (by decide), E2 129 (by decide), E2 130 (by decide), E2 131 (by decide), E2 124 (by decide)] at hmv
          have hmv2 : tA h 119 (sOw (tA h 128) (tA h 129) (tA h 130) (tA h 131) (Int32.ofNat k) (tvI (tF h 111 1)) (tvI (tF h 111 1)) (tA h 124 k) (tvI (tF h 111 6)).toNatClampNeg).toNatClampNeg ≠ 0 := by rw [← zof hx, ← zof_cl hx]; exact hmv
          have hP : ¬ ltM h c.toNatClampNeg k = true := fun z => hmv2 (Int32.toInt_inj.mp (of_decide_eq_true (Bool.and_eq_true _ _ ▸ z).2))
          exact tG_cut (zW_mono zTt G dp) (Or.inr ⟨rfl, rfl, _, k + 1, x + 1, _, rfl, zincL hx q268, by omega, sCn_n hy hP, lm_no hLM hP, rfl⟩)
        · try dsimp only [tvI_i, tvJ_j, tvR_r] at q272
          have q272i := zeqi (Y := 0) (by decide) q272
          refine tw_aload rfl rfl ?_
          refine tw_getS rfl (hs_111_89 hs1) ?_
          refine tw_push rfl ?_
          refine tw_iload rfl rfl ?_
          refine tw_imul rfl ?_
          refine tw_iload rfl rfl ?_
          refine tw_iadd rfl ?_
          refine tw_push rfl ?_
          refine tw_bastZ (by decide) rfl (fun kf273 f273 => ?_)
          refine tw_iinc rfl rfl ?_
          refine tw_iinc rfl rfl ?_
          refine tw_goto rfl ?_
          have hpl := p269
          rw [lm_P (c := c) (k := k) hLM.1, zof_cl hx] at hpl
          have hmv := q272
          have E1 := hLM.1.1
          have E2 := hLM.1.2
          rw [E1, E2 119 (by decide), E2 128 (by decide), E2 129 (by decide), E2 130 (by decide), E2 131 (by decide), E2 124 (by decide)] at hmv
          have hmv2 : tA h 119 (sOw (tA h 128) (tA h 129) (tA h 130) (tA h 131) (Int32.ofNat k) (tvI (tF h 111 1)) (tvI (tF h 111 1)) (tA h 124 k) (tvI (tF h 111 6)).toNatClampNeg).toNatClampNeg = 0 := by rw [← zof hx, ← zof_cl hx]; exact hmv
          have hP : ltM h c.toNatClampNeg k = true := by rw [Bool.and_eq_true]; exact ⟨hpl, decide_eq_true (by rw [hmv2]; rfl)⟩
          exact tG_cut (zW_mono zTt G dp) (Or.inr ⟨rfl, rfl, _, k + 1, x + 1, _, rfl, zincL hx q268, by omega, sCn_y hy hP, lm_st (c := c) hLM (by omega) hx (by omega) f273 hP, rfl⟩)
      · try dsimp only [tvI_i, tvJ_j, tvR_r] at p269
        obtain rfl := e9.symm
        refine tw_if_eq rfl (fun _ => ?_) (fun z => absurd z (by decide))
        refine tw_iinc rfl rfl ?_
        refine tw_goto rfl ?_
        have hpl := p269
        rw [lm_P (c := c) (k := k) hLM.1, zof_cl hx] at hpl
        have hP : ¬ ltM h c.toNatClampNeg k = true := fun z => hpl (Bool.and_eq_true _ _ ▸ z).1
        exact tG_cut (zW_mono zTt G dp) (Or.inr ⟨rfl, rfl, _, k + 1, x + 1, _, rfl, zincL hx q268, by omega, sCn_n hy hP, lm_no hLM hP, rfl⟩)
  · try dsimp only [tvI_i, tvJ_j, tvR_r] at p267
    obtain rfl := e9.symm
    refine tw_if_ne rfl (fun z => absurd z (by decide)) (fun _ => ?_)
    refine tw_push rfl ?_
    exact tw_iret rfl (Or.inr ⟨by omega, rfl, rfl⟩)
theorem a_letters {xs : Nat → Int32} {τ : List Nat} {c : Int32} {h h2 h3 : zH} {w w2 : Option Value} (hB : zBs xs τ h) (hQ : R_calls h) (hC : R_cars h) (hS : R_sales h) (h1 : R_qkind h) (h4 : R_qfrom h) (h5 : R_qto h) (hmv : R_moved h) (hlt : R_lowt h) (hlo : R_lowo h) (hb : R_crb h) (hb0 : R_cr0 h) (hrc : R_crc h)
  (e1 : tF h2 111 83 = tF h 111 83) (e2 : tF h2 111 5 = tF h 111 5) (e3 : tF h2 111 1 = tF h 111 1) (e4 : tF h2 111 6 = tF h 111 6) (o1 : tA h2 173 = tA h 173) (o2 : tA h2 174 = tA h 174) (o3 : tA h2 175 = tA h 175) (o4 : tA h2 121 = tA h 121) (o5 : tA h2 122 = tA h 122) (o6 : tA h2 120 = tA h 120) (o7 : tA h2 177 = tA h 177) (o8 : tA h2 178 = tA h 178) (o9 : tA h2 119 = tA h 119) (u1 : tA h2 124 = tA h 124) (u2 : tA h2 128 = tA h 128) (u3 : tA h2 129 = tA h 129) (u4 : tA h2 130 = tA h 130) (u5 : tA h2 131 = tA h 131)
  (t1 : tF h3 36 4 = tF h2 36 4) (t2 : tO h3 39 = tO h2 39) (t4 : tF h2 36 4 = tF h 36 4) (t5 : tO h2 39 = tO h 39) (t3 : ∀ i r f : Nat, (i : Int) < (tvI (tF h2 36 4)).toInt → tO h2 39 i = some r → tF h3 r f = tF h2 r f) (t6 : tF h3 111 83 = tF h2 111 83) (t7 : tA h3 121 = tA h2 121) (t8 : tA h3 122 = tA h2 122) (t9 : tA h3 173 = tA h2 173) (v1 : tA h3 174 = tA h2 174) (v2 : tA h3 175 = tA h2 175)
  (k1 : ph_lec c h w h2) (k2 : ph_lem c h2 w2 h3) : w2 = w ∧ R_crb h3 ∧ R_cr0 h3 ∧ R_crc h3 := by
  have hQ0 := hQ
  have hC0 := hC
  unfold R_calls at hQ0
  unfold R_cars at hC0
  have hn5 := kb_111_5 hB
  have hn83 := kb_111_83 hB
  have hP : ∀ C i : Nat, (i : Int) < (tvI (tF h 36 4)).toInt → ltM h2 C i = ltC h C i := by
    intro C i hi
    unfold R_qkind at h1
    unfold R_qfrom at h4
    unfold R_qto at h5
    have hi5 : (i : Int) < (tvI (tF h 111 5)).toInt := by rw [← hC0]; exact hi
    have hown : sOw (tA h2 128) (tA h2 129) (tA h2 130) (tA h2 131) (Int32.ofNat i) (tvI (tF h2 111 1)) (tvI (tF h2 111 1)) (tA h2 124 i) (tvI (tF h2 111 6)).toNatClampNeg = tA h 125 i := by
      rw [u1, u2, u3, u4, u5, e3, e4, hlo i hi5]
      have hii : (Int32.ofNat i).toInt = i := yofN (by omega)
      rw [sOw_low (by omega) (fun j hj => by
        rw [zclE] at hj
        have hj2 : (j : Int) < (tvI (tF h 111 6)).toInt := by omega
        have hb6 := kb_111_6 hB
        exact ⟨(hlt j hj2).1, (hlt j hj2).2, ((ka_128 hB).2 j (by omega)).1⟩), zclE, hii]
      rfl
    show (lfM h2 C i && _) = (lfC h C i && _)
    rw [hown, o9, ← hmv _ (by rw [zclE]; have := ((ka_125 hB).2 i (by omega)).2; omega)]
    unfold lfM lfC
    rw [o1, o2, o3, o4, o5, o6, o7, ← h1, ← h4, ← h5]
  unfold ph_lem at k2
  rw [e1, e2, ← hQ0, ← hC0] at k2
  rcases k1 with ⟨c1, rfl, f1⟩ | ⟨c1, rfl, rfl⟩ <;> rcases k2 with ⟨c2, rfl, f2⟩ | ⟨c2, rfl, rfl⟩
  · have hcN : c.toNatClampNeg < 20 := by rw [zclE]; rw [← hQ0] at hn83; omega
    have hA : ∀ i c2 : Nat, i < 300 → c2 < 20 → tA h3 178 (300 * c2 + i) = if c2 = c.toNatClampNeg ∧ i < (tvI (tF h 36 4)).toNatClampNeg ∧ ltC h c.toNatClampNeg i = true then 1 else tA h 178 (300 * c2 + i) := by
      intro i c2 hi h2
      rw [f2.2 i c2 hi h2, o8]
      by_cases q : i < (tvI (tF h 36 4)).toNatClampNeg
      · rw [hP _ i (by rw [zclE] at q; omega)]
      · rw [if_neg (fun z => q z.2.1), if_neg (fun z => q z.2.1)]
    refine ⟨?_, ?_, ?_, ?_⟩
    · rw [sCn_congr (fun i hi => (hP _ i (by rw [zclE] at hi; omega)).symm)]
    · intro i r hi hr
      rw [t1, t4] at hi
      rw [t2, t5] at hr
      have e8 := t3 i r 8 (by rw [t4]; exact hi) (by rw [t5]; exact hr)
      have g8 := f1.2.2.2 i r hi hr
      rw [e8, g8]
      refine ⟨rfl, fun c2 hc2 => ?_⟩
      have hib : (i : Int) < 300 := by rw [hC0] at hi; omega
      rw [hA i c2 (by omega) hc2]
      have hold := (hb i r hi hr).2 c2 hc2
      show bI (if i < (tvI (tF h 36 4)).toNatClampNeg ∧ ltC h c.toNatClampNeg i = true then tvI (tF h r 8) ||| ((1 : Int32) <<< (c &&& 31)) else tvI (tF h r 8)) c2 ↔ _
      by_cases q : i < (tvI (tF h 36 4)).toNatClampNeg ∧ ltC h c.toNatClampNeg i = true
      · rw [if_pos q]
        have ec : c = Int32.ofNat c.toNatClampNeg := zof (by rw [zclE]; omega)
        have hor := bI_or (x := tvI (tF h r 8)) (n := c2) (m := c.toNatClampNeg) (by omega) (by omega)
        rw [← ec] at hor
        rw [hor]
        by_cases q2 : c2 = c.toNatClampNeg
        · rw [if_pos ⟨q2, q⟩]
          exact ⟨fun _ => by decide, fun _ => Or.inr q2⟩
        · rw [if_neg (fun z => q2 z.1), ← hold]
          exact ⟨fun z => z.resolve_right q2, Or.inl⟩
      · rw [if_neg q, if_neg (fun z => q z.2)]
        exact hold
    · intro i c2 hi h6 h7
      rw [t1, t4] at hi
      rw [hA i c2 h6 h7, if_neg (fun z => by have := z.2.1; rw [zclE] at this; omega)]
      exact hb0 i c2 hi h6 h7
    · intro i c2 h6 h7 hne
      rw [hA i c2 h6 h7] at hne
      rw [t6, t7, t8, t9, v1, v2, e1, o1, o2, o3, o4, o5]
      by_cases q : c2 = c.toNatClampNeg ∧ i < (tvI (tF h 36 4)).toNatClampNeg ∧ ltC h c.toNatClampNeg i = true
      · have hl : lfC h c.toNatClampNeg i = true := (Bool.and_eq_true _ _ ▸ q.2.2 : _ ∧ _).1
        unfold lfC lfB at hl
        have hl := (of_decide_eq_true hl).1
        unfold R_qkind at h1
        unfold R_qfrom at h4
        unfold R_qto at h5
        rw [q.1, ← hQ0, ← h1, ← h4, ← h5]
        exact ⟨by rw [zclE]; omega, hl.1, hl.2.1, hl.2.2⟩
      · rw [if_neg q] at hne
        exact hrc i c2 h6 h7 hne
  · exact absurd c1 c2
  · exact absurd c2 c1
  · refine ⟨rfl, ?_, ?_, ?_⟩
    · exact hb
    · exact hb0
    · exact hrc
theorem f_takePart {G : zG} (hG : G.1 = zProg) {h : zH} {r q : Nat} {c p m md : Int32} (h9 : tF h r 9 = .int md) (h10 : tF h r 10 = .ref q) : tC zTt G 4 [.ref r, .int c, .int p, .int m] h (fun w h2 => w = none ∧ tF h2 r 9 = .int (md ||| ((1 : Int32) <<< (c &&& 31))) ∧ (∀ a b, ¬ (a = r ∧ b = 9) → tF h2 a b = tF h a b) ∧ tO h2 = tO h ∧ (∀ a, a ≠ q → tA h2 a = tA h a) ∧ tA h2 q = fun j => if j = p.toNatClampNeg then (if m < tA h q p.toNatClampNeg then m else tA h q p.toNatClampNeg) else tA h q j) := by
  refine tC_in (by rw [hG]; rfl) (fun dp => ?_)
  refine tw_aload rfl rfl ?_
  refine tw_dup rfl ?_
  refine tw_getS rfl h9 ?_
  refine tw_push rfl ?_
  refine tw_iload rfl rfl ?_
  refine tw_ishl rfl ?_
  refine tw_ior rfl ?_
  refine tw_put rfl (fun f274 => ?_)
  refine tw_aload rfl rfl ?_
  refine tw_getS rfl (tF_ne (by omega) h10) ?_
  refine tw_iload rfl rfl ?_
  refine tw_aload rfl rfl ?_
  refine tw_getS rfl (tF_ne (by omega) h10) ?_
  refine tw_iload rfl rfl ?_
  refine tw_iald rfl (fun f275 => ?_)
  refine tw_iload rfl rfl ?_
  refine tw_imin rfl ?_
  refine tw_iast rfl (fun f276 => ?_)
  exact tw_vret rfl ⟨rfl, tF_a (tF_same f274), fun a b n => tF_a (tF_ne n rfl), by rw [tO_tSA, tO_tSF], fun a n => (tA_nz n).trans (congrFun (tA_tSF _ _ _ _) a), (tA_st f276 rfl).trans (by rw [tA_tSF]; rfl)⟩
theorem tSh_r9 {h h2 : zH} {r : Nat} (hr : 182 ≤ r) (k : tSh h) (e : ∀ a b, ¬ (a = r ∧ b = 9) → tF h2 a b = tF h a b) : tSh h2 := by
  have a1 : tSr.all (fun q => Nat.blt q.1 182) = true := by decide +kernel
  have a2 : tSi.all (fun q => Nat.blt q.1 182) = true := by decide +kernel
  refine ⟨fun q hq => ?_, fun q hq => ?_⟩
  · have := Nat.le_of_ble_eq_true (List.all_eq_true.mp a1 q hq)
    rw [e _ _ (by omega)]; exact k.1 q hq
  · have := Nat.le_of_ble_eq_true (List.all_eq_true.mp a2 q hq)
    rw [e _ _ (by omega)]; exact k.2 q hq
noncomputable def ph_mec (c x : Int32) (h : zH) (w : Option Value) (h2 : zH) : Prop := (((0 ≤ c.toInt ∧ c.toInt < (tvI (tF h 89 4)).toInt) ∧ (0 ≤ x.toInt ∧ x.toInt < (tvI (tF h 36 4)).toInt) ∧ ¬ tA h 178 (300 * c.toNatClampNeg + x.toNatClampNeg) = 0 ∧ (tA h 120 x.toNatClampNeg).toInt = 0 ∧ tA h 177 (300 * c.toNatClampNeg + x.toNatClampNeg) = 0) ∧ w = some (.int 1) ∧ ∃ r, tO h 39 x.toNatClampNeg = some r ∧ 182 ≤ r ∧ tF h2 r 9 = .int (tvI (tF h r 9) ||| ((1 : Int32) <<< (c &&& 31))) ∧ (∀ a b, ¬ (a = r ∧ b = 9) → tF h2 a b = tF h a b) ∧ tO h2 = tO h ∧ (∀ a, a ≠ r + 1 → tA h2 a = tA h a) ∧ tA h2 (r + 1) = fun j => if j = (tA h 93 c.toNatClampNeg).toNatClampNeg then (if tvI (tF h 0 14) < tA h (r + 1) (tA h 93 c.toNatClampNeg).toNatClampNeg then tvI (tF h 0 14) else tA h (r + 1) (tA h 93 c.toNatClampNeg).toNatClampNeg) else tA h (r + 1) j) ∨ (¬ ((0 ≤ c.toInt ∧ c.toInt < (tvI (tF h 89 4)).toInt) ∧ (0 ≤ x.toInt ∧ x.toInt < (tvI (tF h 36 4)).toInt) ∧ ¬ tA h 178 (300 * c.toNatClampNeg + x.toNatClampNeg) = 0 ∧ (tA h 120 x.toNatClampNeg).toInt = 0 ∧ tA h 177 (300 * c.toNatClampNeg + x.toNatClampNeg) = 0) ∧ w = some (.int 0) ∧ h2 = h)
theorem f_mend {G : zG} (hG : G.1 = zProg) {h : zH} {c x : Int32} (hs : tSh h) (hL : R_cl h) (hg : ∀ i r : Nat, (i : Int) < (tvI (tF h 36 4)).toInt → tO h 39 i = some r → 182 ≤ r) (hK : R_ckind h) (hM : R_cmade h) (hW : R_cwr h) (hB8 : R_crb h) (hB9 : R_cmb h) (hPP : R_cpp h) (hk20 : (tvI (tF h 89 4)).toInt ≤ 20) : tC zTt G 149 [.ref 0, .int c, .int x] h (ph_mec c x h) := by
  refine tC_in (by rw [hG]; rfl) (fun dp => ?_)
  refine tw_aload rfl rfl ?_
  refine tw_getS rfl (hs_0_1 hs) ?_
  refine tw_iload rfl rfl ?_
  refine tw_virt1 rfl (f_carAtR hG hs hL hg) (fun w9 h9 p277 => ?_)
  obtain ⟨⟨rp277, p277, p277r, p277g, rfl⟩ | ⟨p277, rfl⟩, e9⟩ := p277
  · obtain rfl := e9.symm
    refine tw_astore rfl ?_
    refine tw_aload rfl rfl ?_
    refine tw_getS rfl (hs_0_8 hs) ?_
    refine tw_iload rfl rfl ?_
    refine tw_virt1 rfl (f_hasCall hG hs) (fun w9 h9 p278 => ?_)
    obtain ⟨⟨p278, rfl⟩ | ⟨p278, rfl⟩, e9⟩ := p278
    · try dsimp only [tvI_i, tvJ_j, tvR_r] at p278
      obtain rfl := e9.symm
      refine tw_if_eq rfl (fun z => absurd z (by decide)) (fun _ => ?_)
      refine tw_aload rfl rfl ?_
      refine tw_ifnull rfl (fun z => by cases z) (fun _ _ => ?_)
      refine tw_aload rfl rfl ?_
      refine tw_iload rfl rfl ?_
      refine tw_virt1 rfl (f_wasReached hG (hB8 _ _ p277.2 p277r).1) (fun w9 h9 p281 => ?_)
      obtain ⟨⟨p281, rfl⟩ | ⟨p281, rfl⟩, e9⟩ := p281
      · try dsimp only [tvI_i, tvJ_j, tvR_r] at p281
        obtain rfl := e9.symm
        refine tw_if_eq rfl (fun z => absurd z (by decide)) (fun _ => ?_)
        refine tw_aload rfl rfl ?_
        refine tw_iload rfl rfl ?_
        refine tw_virt1 rfl (f_isLeftBy hG (hW _ _ p277.2 p277r) (hB9 _ _ p277.2 p277r).1) (fun w9 h9 p282 => ?_)
        obtain ⟨⟨p282, rfl⟩ | ⟨p282, rfl⟩, e9⟩ := p282
        · try dsimp only [tvI_i, tvJ_j, tvR_r] at p282
          obtain rfl := e9.symm
          refine tw_if_ne rfl (fun _ => ?_) (fun z => absurd z (by decide))
          refine tw_aload rfl rfl ?_
          refine tw_iload rfl rfl ?_
          refine tw_aload rfl rfl ?_
          refine tw_getS rfl (hs_0_8 hs) ?_
          refine tw_getS rfl (hs_89_3 hs) ?_
          refine tw_iload rfl rfl ?_
          refine tw_iald rfl (fun f283 => ?_)
          refine tw_aload rfl rfl ?_
          refine tw_getS rfl (hi_0_14 hs) ?_
          refine tw_virt3 rfl (f_takePart hG (hB9 _ _ p277.2 p277r).1 (hPP _ _ p277.2 p277r)) (fun wp284 hp284 p284 => ?_)
          obtain ⟨rfl, p284a, p284b, p284c, p284d, p284e⟩ := p284
          refine tw_push rfl ?_
          have hb8 := (hB8 _ _ p277.2 p277r).2 c.toNatClampNeg (by rw [zclE]; omega)
          unfold bI at hb8
          rw [← zof (x := c) (n := c.toNatClampNeg) (by rw [zclE]; omega)] at hb8
          have hb9 := (hB9 _ _ p277.2 p277r).2 c.toNatClampNeg (by rw [zclE]; omega)
          unfold bI at hb9
          rw [← zof (x := c) (n := c.toNatClampNeg) (by rw [zclE]; omega)] at hb9
          exact tw_iret rfl (Or.inl ⟨⟨p278, p277.1, hb8.mp p281, p282.1, Classical.byContradiction (fun z => p282.2 (hb9.mpr z))⟩, rfl, rp277, p277r, p277g, p284a, p284b, p284c, p284d, p284e⟩)
        · try dsimp only [tvI_i, tvJ_j, tvR_r] at p282
          obtain rfl := e9.symm
          refine tw_if_ne rfl (fun z => absurd z (by decide)) (fun _ => ?_)
          refine tw_push rfl ?_
          have hb8 := (hB8 _ _ p277.2 p277r).2 c.toNatClampNeg (by rw [zclE]; omega)
          unfold bI at hb8
          rw [← zof (x := c) (n := c.toNatClampNeg) (by rw [zclE]; omega)] at hb8
          have hb9 := (hB9 _ _ p277.2 p277r).2 c.toNatClampNeg (by rw [zclE]; omega)
          unfold bI at hb9
          rw [← zof (x := c) (n := c.toNatClampNeg) (by rw [zclE]; omega)] at hb9
          exact tw_iret rfl (Or.inr ⟨fun z => p282 ⟨z.2.2.2.1, fun y => hb9.mp y z.2.2.2.2⟩, rfl, rfl⟩)
      · try dsimp only [tvI_i, tvJ_j, tvR_r] at p281
        obtain rfl := e9.symm
        refine tw_if_eq rfl (fun _ => ?_) (fun z => absurd z (by decide))
        refine tw_push rfl ?_
        have hb8 := (hB8 _ _ p277.2 p277r).2 c.toNatClampNeg (by rw [zclE]; omega)
        unfold bI at hb8
        rw [← zof (x := c) (n := c.toNatClampNeg) (by rw [zclE]; omega)] at hb8
        exact tw_iret rfl (Or.inr ⟨fun z => p281 (hb8.mpr z.2.2.1), rfl, rfl⟩)
    · try dsimp only [tvI_i, tvJ_j, tvR_r] at p278
      obtain rfl := e9.symm
      refine tw_if_eq rfl (fun _ => ?_) (fun z => absurd z (by decide))
      refine tw_push rfl ?_
      exact tw_iret rfl (Or.inr ⟨fun z => p278 z.1, rfl, rfl⟩)
  · obtain rfl := e9.symm
    refine tw_astoreN rfl ?_
    refine tw_aload rfl rfl ?_
    refine tw_getS rfl (hs_0_8 hs) ?_
    refine tw_iload rfl rfl ?_
    refine tw_virt1 rfl (f_hasCall hG hs) (fun w9 h9 p285 => ?_)
    obtain ⟨⟨p285, rfl⟩ | ⟨p285, rfl⟩, e9⟩ := p285
    · try dsimp only [tvI_i, tvJ_j, tvR_r] at p285
      obtain rfl := e9.symm
      refine tw_if_eq rfl (fun z => absurd z (by decide)) (fun _ => ?_)
      refine tw_aload rfl rfl ?_
      refine tw_ifnull rfl (fun _ => ?_) (fun _ z => by cases z)
      refine tw_push rfl ?_
      exact tw_iret rfl (Or.inr ⟨fun z => p277 z.2.1, rfl, rfl⟩)
    · try dsimp only [tvI_i, tvJ_j, tvR_r] at p285
      obtain rfl := e9.symm
      refine tw_if_eq rfl (fun _ => ?_) (fun z => absurd z (by decide))
      refine tw_push rfl ?_
      exact tw_iret rfl (Or.inr ⟨fun z => p285 z.1, rfl, rfl⟩)
noncomputable def ph_mem (c x : Int32) (h : zH) (w : Option Value) (h2 : zH) : Prop := (((0 ≤ c.toInt ∧ c.toInt < (tvI (tF h 111 83)).toInt) ∧ (0 ≤ x.toInt ∧ x.toInt < (tvI (tF h 111 5)).toInt) ∧ lfM h c.toNatClampNeg x.toNatClampNeg = true ∧ ¬ tA h 178 (300 * c.toNatClampNeg + x.toNatClampNeg) = 0) ∧ w = some (.int 1) ∧ tA h2 177 = fun j => if j = (300 * c.toNatClampNeg + x.toNatClampNeg) then tvI (tF h 111 1) + 1 else tA h 177 j) ∨ (¬ ((0 ≤ c.toInt ∧ c.toInt < (tvI (tF h 111 83)).toInt) ∧ (0 ≤ x.toInt ∧ x.toInt < (tvI (tF h 111 5)).toInt) ∧ lfM h c.toNatClampNeg x.toNatClampNeg = true ∧ ¬ tA h 178 (300 * c.toNatClampNeg + x.toNatClampNeg) = 0) ∧ w = some (.int 0) ∧ h2 = h)
theorem g_mend {G : zG} (hG : G.1 = zProg) {h : zH} {c x : Int32} (hs : tSh h) (hn5 : (tvI (tF h 111 5)).toInt ≤ 300) (hk20 : (tvI (tF h 111 83)).toInt ≤ 20) (hk83 : 0 ≤ (tvI (tF h 111 83)).toInt) (hk5 : 0 ≤ (tvI (tF h 111 5)).toInt) : tC zTt G 271 [.ref 111, .int c, .int x] h (ph_mem c x h) := by
  refine tC_in (by rw [hG]; rfl) (fun dp => ?_)
  refine tw_aload rfl rfl ?_
  refine tw_iload rfl rfl ?_
  refine tw_virt1 rfl (g_isCall hG hs hk83) (fun w9 h9 p288 => ?_)
  obtain ⟨⟨p288, rfl⟩ | ⟨p288, rfl⟩, e9⟩ := p288
  · try dsimp only [tvI_i, tvJ_j, tvR_r] at p288
    obtain rfl := e9.symm
    refine tw_if_eq rfl (fun z => absurd z (by decide)) (fun _ => ?_)
    refine tw_aload rfl rfl ?_
    refine tw_iload rfl rfl ?_
    refine tw_virt1 rfl (g_isCar hG hs hk5) (fun w9 h9 p289 => ?_)
    obtain ⟨⟨p289, rfl⟩ | ⟨p289, rfl⟩, e9⟩ := p289
    · try dsimp only [tvI_i, tvJ_j, tvR_r] at p289
      obtain rfl := e9.symm
      refine tw_if_eq rfl (fun z => absurd z (by decide)) (fun _ => ?_)
      refine tw_aload rfl rfl ?_
      refine tw_iload rfl rfl ?_
      refine tw_iload rfl rfl ?_
      refine tw_virt2 rfl (g_isLeft hG hs (by omega) (by omega)) (fun w9 h9 p290 => ?_)
      obtain ⟨⟨p290, rfl⟩ | ⟨p290, rfl⟩, e9⟩ := p290
      · try dsimp only [tvI_i, tvJ_j, tvR_r] at p290
        obtain rfl := e9.symm
        refine tw_if_eq rfl (fun z => absurd z (by decide)) (fun _ => ?_)
        refine tw_aload rfl rfl ?_
        refine tw_getS rfl (hs_111_89 hs) ?_
        refine tw_push rfl ?_
        refine tw_iload rfl rfl ?_
        refine tw_imul rfl ?_
        refine tw_iload rfl rfl ?_
        refine tw_iadd rfl ?_
        refine tw_bald rfl (fun f291 => ?_)
        refine tw_if_ne rfl (fun q292 => ?_) (fun q292 => ?_)
        · try dsimp only [tvI_i, tvJ_j, tvR_r] at q292
          have q292i := zneq (Y := 0) (by decide) q292
          refine tw_aload rfl rfl ?_
          refine tw_getS rfl (hs_111_88 hs) ?_
          refine tw_push rfl ?_
          refine tw_iload rfl rfl ?_
          refine tw_imul rfl ?_
          refine tw_iload rfl rfl ?_
          refine tw_iadd rfl ?_
          refine tw_aload rfl rfl ?_
          refine tw_getS rfl (hi_111_1 hs) ?_
          refine tw_push rfl ?_
          refine tw_iadd rfl ?_
          refine tw_iast rfl (fun f293 => ?_)
          refine tw_push rfl ?_
          exact tw_iret rfl (Or.inl ⟨⟨p288, p289, p290, fun z => q292 ((congrArg (tA _ 178) (zmul3 (k := c) (p := x) (by omega) (by omega))).trans z)⟩, rfl, (tA_st f293 rfl).trans (by rw [show (tvI (Value.int (tvI (Value.int (tvI (Value.int 300) * tvI (Value.int c))) + tvI (Value.int x)))).toNatClampNeg = (300 * c.toNatClampNeg + x.toNatClampNeg) from (zmul3 (k := c) (p := x) (by omega) (by omega))]; rfl)⟩)
        · try dsimp only [tvI_i, tvJ_j, tvR_r] at q292
          have q292i := zeqi (Y := 0) (by decide) q292
          refine tw_push rfl ?_
          exact tw_iret rfl (Or.inr ⟨fun z => z.2.2.2 ((congrArg (tA _ 178) (zmul3 (k := c) (p := x) (by omega) (by omega))).symm.trans q292), rfl, rfl⟩)
      · try dsimp only [tvI_i, tvJ_j, tvR_r] at p290
        obtain rfl := e9.symm
        refine tw_if_eq rfl (fun _ => ?_) (fun z => absurd z (by decide))
        refine tw_push rfl ?_
        exact tw_iret rfl (Or.inr ⟨fun z => p290 z.2.2.1, rfl, rfl⟩)
    · try dsimp only [tvI_i, tvJ_j, tvR_r] at p289
      obtain rfl := e9.symm
      refine tw_if_eq rfl (fun _ => ?_) (fun z => absurd z (by decide))
      refine tw_push rfl ?_
      exact tw_iret rfl (Or.inr ⟨fun z => p289 z.2.1, rfl, rfl⟩)
  · try dsimp only [tvI_i, tvJ_j, tvR_r] at p288
    obtain rfl := e9.symm
    refine tw_if_eq rfl (fun _ => ?_) (fun z => absurd z (by decide))
    refine tw_push rfl ?_
    exact tw_iret rfl (Or.inr ⟨fun z => p288 z.1, rfl, rfl⟩)
theorem mend_c {h : zH} {c x : Int32} (hQ : R_calls h) (hC : R_cars h) (h1 : R_qkind h) (h4 : R_qfrom h) (h5 : R_qto h) (hrc : R_crc h) (hn5 : (tvI (tF h 111 5)).toInt ≤ 300) (hk20 : (tvI (tF h 111 83)).toInt ≤ 20) : ((0 ≤ c.toInt ∧ c.toInt < (tvI (tF h 89 4)).toInt) ∧ (0 ≤ x.toInt ∧ x.toInt < (tvI (tF h 36 4)).toInt) ∧ ¬ tA h 178 (300 * c.toNatClampNeg + x.toNatClampNeg) = 0 ∧ (tA h 120 x.toNatClampNeg).toInt = 0 ∧ tA h 177 (300 * c.toNatClampNeg + x.toNatClampNeg) = 0) ↔ ((0 ≤ c.toInt ∧ c.toInt < (tvI (tF h 111 83)).toInt) ∧ (0 ≤ x.toInt ∧ x.toInt < (tvI (tF h 111 5)).toInt) ∧ lfM h c.toNatClampNeg x.toNatClampNeg = true ∧ ¬ tA h 178 (300 * c.toNatClampNeg + x.toNatClampNeg) = 0) := by
  unfold R_calls at hQ
  unfold R_cars at hC
  unfold R_qkind at h1
  unfold R_qfrom at h4
  unfold R_qto at h5
  rw [hQ, hC]
  unfold lfM lfB
  rw [decide_eq_true_iff]
  constructor
  · rintro ⟨a1, a2, a3, a4, a5⟩
    have := hrc x.toNatClampNeg c.toNatClampNeg (by rw [zclE]; omega) (by rw [zclE]; omega) a3
    exact ⟨a1, a2, ⟨this.2, a4, a5⟩, a3⟩
  · rintro ⟨a1, a2, a3, a4⟩
    exact ⟨a1, a2, a4, a3.2.1, a3.2.2⟩
theorem a_mend {xs : Nat → Int32} {τ : List Nat} {c x : Int32} {h h2 h3 : zH} {w w2 : Option Value} (hB : zBs xs τ h) (hQ : R_calls h) (hC : R_cars h) (hL : R_cl h) (h1 : R_qkind h) (h4 : R_qfrom h) (h5 : R_qto h) (hrc : R_crc h) (hb : R_cmb h) (hb0 : R_cm0 h)
  (e1 : tF h2 111 83 = tF h 111 83) (e2 : tF h2 111 5 = tF h 111 5) (e3 : tF h2 111 1 = tF h 111 1) (o1 : tA h2 173 = tA h 173) (o2 : tA h2 174 = tA h 174) (o3 : tA h2 175 = tA h 175) (o4 : tA h2 121 = tA h 121) (o5 : tA h2 122 = tA h 122) (o6 : tA h2 120 = tA h 120) (o7 : tA h2 177 = tA h 177) (o8 : tA h2 178 = tA h 178)
  (t1 : tF h3 36 4 = tF h2 36 4) (t2 : tO h3 39 = tO h2 39) (t4 : tF h2 36 4 = tF h 36 4) (t5 : tO h2 39 = tO h 39) (t3 : ∀ i r f : Nat, (i : Int) < (tvI (tF h2 36 4)).toInt → tO h2 39 i = some r → tF h3 r f = tF h2 r f) (k1 : ph_mec c x h w h2) (k2 : ph_mem c x h2 w2 h3) : w2 = w ∧ R_cmb h3 ∧ R_cm0 h3 := by
  have hn5 := kb_111_5 hB
  have hn83 := kb_111_83 hB
  have hn1 := kb_111_1 hB
  have hc9 := mend_c (c := c) (x := x) hQ hC h1 h4 h5 hrc hn5.2 hn83.2
  unfold ph_mem at k2
  unfold lfM at k2 hc9
  rw [e1, e2, e3, o1, o2, o3, o4, o5, o6, o7, o8] at k2
  have hC0 := hC
  unfold R_cars at hC0
  rcases k1 with ⟨c1, rfl, r0, g1, g2, g3, g4, -⟩ | ⟨c1, rfl, rfl⟩ <;> rcases k2 with ⟨c2, rfl, f2⟩ | ⟨c2, rfl, rfl⟩
  · have hcN : c.toNatClampNeg < 20 := by rw [zclE]; omega
    have hxN : x.toNatClampNeg < 300 := by rw [zclE]; omega
    have hnow : ¬ tvI (tF h 111 1) + 1 = 0 := by
      intro z
      have := zincN (x := tvI (tF h 111 1)) (n := (tvI (tF h 111 1)).toInt.toNat) (by omega) (by omega)
      rw [z] at this
      have z0 : (0 : Int32).toInt = 0 := rfl
      omega
    have hx2 : ((x.toNatClampNeg : Nat) : Int) < (tvI (tF h 36 4)).toInt := by rw [zclE]; omega
    refine ⟨rfl, fun i r hi hr => ?_, fun i c2 hi h6 h7 => ?_⟩
    · rw [t1, t4] at hi
      rw [t2, t5] at hr
      have e9 := t3 i r 9 (by rw [t4]; exact hi) (by rw [t5]; exact hr)
      obtain ⟨b1, b2⟩ := hb i r hi hr
      have hib : i < 300 := by rw [hC0] at hi; omega
      rw [e9, f2]
      by_cases q : r = r0
      · subst q
        have hix : i = x.toNatClampNeg := hL.2 i _ hi hx2 (by rw [hr, g1])
        subst hix
        rw [g3]
        refine ⟨rfl, fun c2 h7 => ?_⟩
        show bI (tvI (tF h r 9) ||| ((1 : Int32) <<< (c &&& 31))) c2 ↔ ¬ (if 300 * c2 + x.toNatClampNeg = 300 * c.toNatClampNeg + x.toNatClampNeg then tvI (tF h 111 1) + 1 else tA h 177 (300 * c2 + x.toNatClampNeg)) = 0
        have ec : c = Int32.ofNat c.toNatClampNeg := zof (by rw [zclE]; omega)
        have hor := bI_or (x := tvI (tF h r 9)) (n := c2) (m := c.toNatClampNeg) (by omega) (by omega)
        rw [← ec] at hor
        rw [hor]
        by_cases q2 : c2 = c.toNatClampNeg
        · rw [if_pos (by omega)]
          exact ⟨fun _ => hnow, fun _ => Or.inr q2⟩
        · rw [if_neg (by omega), ← b2 c2 h7]
          exact ⟨fun z => z.resolve_right q2, Or.inl⟩
      · have hix : i ≠ x.toNatClampNeg := fun z => q (by rw [z, g1] at hr; exact (Option.some.inj hr).symm)
        rw [g4 r 9 (fun z => q z.1)]
        refine ⟨b1, fun c2 h7 => ?_⟩
        show _ ↔ ¬ (if 300 * c2 + i = 300 * c.toNatClampNeg + x.toNatClampNeg then _ else tA h 177 (300 * c2 + i)) = 0
        rw [if_neg (by omega)]
        exact b2 c2 h7
    · rw [t1, t4] at hi
      rw [f2]
      show (if 300 * c2 + i = 300 * c.toNatClampNeg + x.toNatClampNeg then _ else tA h 177 (300 * c2 + i)) = 0
      rw [if_neg (by omega)]
      exact hb0 i c2 hi h6 h7
  · exact absurd (hc9.mp c1) c2
  · exact absurd (hc9.mpr c2) c1
  · exact ⟨rfl, hb, hb0⟩
noncomputable def ph_moves (a b q : Nat) (p z : Int32) (h : zH) (w : Option Value) (h2 : zH) : Prop := (((0 ≤ p.toInt ∧ p.toInt < (tvI (tF h a b)).toInt) ∧ ¬ tA h q p.toNatClampNeg = z) ∧ w = some (.int 1) ∧ h2 = tSA h q p.toNatClampNeg z ∧ (∃ kd, tIn h q kd p)) ∨ (¬ ((0 ≤ p.toInt ∧ p.toInt < (tvI (tF h a b)).toInt) ∧ ¬ tA h q p.toNatClampNeg = z) ∧ w = some (.int 0) ∧ h2 = h)
theorem f_setMoved {G : zG} (hG : G.1 = zProg) {h : zH} {p z : Int32} (bz : 0 ≤ z.toInt ∧ z.toInt ≤ 1) (hs : tSh h) : tC zTt G 17 [.ref 36, .int p, .int z] h (fun w h2 => ((¬ tA h 38 p.toNatClampNeg = z) ∧ w = some (.int 1) ∧ h2 = tSA h 38 p.toNatClampNeg z ∧ (∃ kd, tIn h 38 kd p)) ∨ (¬ (¬ tA h 38 p.toNatClampNeg = z) ∧ w = some (.int 0) ∧ h2 = h)) := by
  refine tC_in (by rw [hG]; rfl) (fun dp => ?_)
  refine tw_aload rfl rfl ?_
  refine tw_getS rfl (hs_36_1 hs) ?_
  refine tw_iload rfl rfl ?_
  refine tw_bald rfl (fun f294 => ?_)
  refine tw_iload rfl rfl ?_
  refine tw_ic_ne rfl (fun q295 => ?_) (fun q295 => ?_)
  · try dsimp only [tvI_i, tvJ_j, tvR_r] at q295
    have q295i := zneq rfl q295
    refine tw_aload rfl rfl ?_
    refine tw_getS rfl (hs_36_1 hs) ?_
    refine tw_iload rfl rfl ?_
    refine tw_iload rfl rfl ?_
    refine tw_bastZ bz rfl (fun kf296 f296 => ?_)
    refine tw_push rfl ?_
    exact tw_iret rfl (Or.inl ⟨q295, rfl, rfl, ⟨_, f296⟩⟩)
  · try dsimp only [tvI_i, tvJ_j, tvR_r] at q295
    have q295i := zeqi rfl q295
    refine tw_push rfl ?_
    exact tw_iret rfl (Or.inr ⟨fun z => z q295, rfl, rfl⟩)
theorem f_moves {G : zG} (hG : G.1 = zProg) {h : zH} {p z : Int32} (bz : 0 ≤ z.toInt ∧ z.toInt ≤ 1) (hs : tSh h) : tC zTt G 151 [.ref 0, .int p, .int z] h (ph_moves 36 2 38 p z h) := by
  refine tC_in (by rw [hG]; rfl) (fun dp => ?_)
  refine tw_aload rfl rfl ?_
  refine tw_getS rfl (hs_0_1 hs) ?_
  refine tw_iload rfl rfl ?_
  refine tw_virt1 rfl (f_hasPerson hG hs) (fun w9 h9 p297 => ?_)
  obtain ⟨⟨p297, rfl⟩ | ⟨p297, rfl⟩, rfl⟩ := p297
  · try dsimp only [tvI_i, tvJ_j, tvR_r] at p297
    refine tw_if_eq rfl (fun z => absurd z (by decide)) (fun _ => ?_)
    refine tw_aload rfl rfl ?_
    refine tw_getS rfl (hs_0_1 hs) ?_
    refine tw_iload rfl rfl ?_
    refine tw_iload rfl rfl ?_
    refine tw_virt2 rfl (f_setMoved hG bz hs) (fun w9 h9 p298 => ?_)
    rcases p298 with ⟨p298, rfl, rfl, p298f⟩ | ⟨p298, rfl, rfl⟩
    · refine tw_if_eq rfl (fun z => absurd z (by decide)) (fun _ => ?_)
      refine tw_push rfl ?_
      refine tw_goto rfl ?_
      exact tw_iret rfl (Or.inl ⟨⟨p297, p298⟩, rfl, rfl, p298f⟩)
    · refine tw_if_eq rfl (fun _ => ?_) (fun z => absurd z (by decide))
      refine tw_push rfl ?_
      exact tw_iret rfl (Or.inr ⟨fun z => p298 z.2, rfl, rfl⟩)
  · try dsimp only [tvI_i, tvJ_j, tvR_r] at p297
    refine tw_if_eq rfl (fun _ => ?_) (fun z => absurd z (by decide))
    refine tw_push rfl ?_
    exact tw_iret rfl (Or.inr ⟨fun z => p297 z.1, rfl, rfl⟩)
theorem g_moves {G : zG} (hG : G.1 = zProg) {h : zH} {p z : Int32} (bz : 0 ≤ z.toInt ∧ z.toInt ≤ 1) (hs : tSh h) (hk2 : 0 ≤ (tvI (tF h 111 2)).toInt) : tC zTt G 273 [.ref 111, .int p, .int z] h (ph_moves 111 2 119 p z h) := by
  refine tC_in (by rw [hG]; rfl) (fun dp => ?_)
  refine tw_aload rfl rfl ?_
  refine tw_iload rfl rfl ?_
  refine tw_virt1 rfl (g_isPerson hG hs hk2) (fun w9 h9 p299 => ?_)
  obtain ⟨⟨p299, rfl⟩ | ⟨p299, rfl⟩, rfl⟩ := p299
  · try dsimp only [tvI_i, tvJ_j, tvR_r] at p299
    refine tw_if_eq rfl (fun z => absurd z (by decide)) (fun _ => ?_)
    refine tw_aload rfl rfl ?_
    refine tw_getS rfl (hs_111_14 hs) ?_
    refine tw_iload rfl rfl ?_
    refine tw_bald rfl (fun f300 => ?_)
    refine tw_iload rfl rfl ?_
    refine tw_ic_ne rfl (fun q301 => ?_) (fun q301 => ?_)
    · try dsimp only [tvI_i, tvJ_j, tvR_r] at q301
      have q301i := zneq rfl q301
      refine tw_aload rfl rfl ?_
      refine tw_getS rfl (hs_111_14 hs) ?_
      refine tw_iload rfl rfl ?_
      refine tw_iload rfl rfl ?_
      refine tw_bastZ bz rfl (fun kf302 f302 => ?_)
      refine tw_push rfl ?_
      exact tw_iret rfl (Or.inl ⟨⟨p299, q301⟩, rfl, rfl, ⟨_, f302⟩⟩)
    · try dsimp only [tvI_i, tvJ_j, tvR_r] at q301
      have q301i := zeqi rfl q301
      refine tw_push rfl ?_
      exact tw_iret rfl (Or.inr ⟨fun z => z.2 q301, rfl, rfl⟩)
  · try dsimp only [tvI_i, tvJ_j, tvR_r] at p299
    refine tw_if_eq rfl (fun _ => ?_) (fun z => absurd z (by decide))
    refine tw_push rfl ?_
    exact tw_iret rfl (Or.inr ⟨fun z => p299 z.1, rfl, rfl⟩)
theorem a_moves {p z : Int32} {h h2 h3 : zH} {w w2 : Option Value} (hP : R_people h) (hn : (tvI (tF h 36 2)).toInt ≤ 60) (hR : R_moved h) (k1 : ph_moves 36 2 38 p z h w h2) (k2 : ph_moves 111 2 119 p z h2 w2 h3) : w2 = w ∧ R_moved h3 := by
  unfold R_people at hP
  rcases k1 with ⟨c1, rfl, rfl, ⟨d1, f1⟩⟩ | ⟨c1, rfl, rfl⟩ <;> rcases k2 with ⟨c2, rfl, rfl, ⟨d2, f2⟩⟩ | ⟨c2, rfl, rfl⟩
  · refine ⟨rfl, fun i hi => ?_⟩
    rw [tA_tSA f2.cell, tA_tSA f1.cell]
    dsimp only
    by_cases e : i = p.toNatClampNeg
    · rw [if_neg (by omega), if_pos ⟨rfl, e⟩, if_pos ⟨rfl, e⟩]
    · rw [if_neg (by omega), if_neg (by omega), if_neg (by omega), if_neg (by omega)]
      exact hR i hi
  · refine absurd ?_ c2
    have hp : p.toNatClampNeg < 60 := by rw [zclE]; omega
    rw [tF_tSA, ← hP, tA_nz (by decide), ← hR _ hp]
    exact c1
  · refine absurd ?_ c1
    have hp : p.toNatClampNeg < 60 := by rw [zclE]; rw [← hP] at c2; omega
    rw [← hP, ← hR _ hp] at c2
    exact c2
  · exact ⟨rfl, hR⟩
theorem f_countLeft {G : zG} (hG : G.1 = zProg) {h : zH} {c : Int32} (hs : tSh h) (hL : R_cl h) (hg : ∀ i r : Nat, (i : Int) < (tvI (tF h 36 4)).toInt → tO h 39 i = some r → 182 ≤ r) (hK : R_ckind h) (hM : R_cmade h) (hW : R_cwr h) (hB9 : R_cmb h) (hC : 0 ≤ c.toInt ∧ c.toInt < 20) (hn : 0 ≤ (tvI (tF h 36 4)).toInt) : tC zTt G 60 [.ref 89, .int c, .ref 36] h (fun w h2 => w = some (.int (sCn (lfC h c.toNatClampNeg) (tvI (tF h 36 4)).toNatClampNeg)) ∧ h2 = h) := by
  refine tC_in (by rw [hG]; rfl) (fun dp => ?_)
  refine tw_push rfl ?_
  refine tw_istore rfl ?_
  refine tw_push rfl ?_
  refine tw_istore rfl ?_
  refine tG_loop (zW_mono zTt G dp) (zW_conj zTt G dp) (V := fun pc L st h9 _ _ => pc = 5 ∧ st = [] ∧ h = h9 ∧ ∃ (k : Nat) (x y : Int32), x.toInt = k ∧ (k : Int) ≤ (tvI (tF h 36 4)).toInt ∧ y = sCn (lfC h c.toNatClampNeg) k ∧ L = [some (.ref 89), some (.int c), some (.ref 36), some (.int y), some (.int x)]) ?_ (⟨rfl, rfl, rfl, 0, 0, 0, rfl, hn, rfl, rfl⟩)
  rintro _ _ _ _ _ _ ⟨rfl, rfl, rfl, k, x, y, hx, hk, hy, rfl⟩
  refine tw_iload rfl rfl ?_
  refine tw_aload rfl rfl ?_
  refine tw_getS rfl (hi_36_4 hs) ?_
  refine tw_ic_ge rfl (fun q303 => ?_) (fun q303 => ?_)
  · try dsimp only [tvI_i, tvJ_j, tvR_r] at q303
    refine tw_iload rfl rfl ?_
    exact tw_iret rfl ⟨(by rw [show k = (tvI (tF h 36 4)).toNatClampNeg from by rw [zclE]; omega] at hy; exact congrArg (fun z => some (Value.int z)) hy), rfl⟩
  · try dsimp only [tvI_i, tvJ_j, tvR_r] at q303
    refine tw_aload rfl rfl ?_
    refine tw_iload rfl rfl ?_
    refine tw_aload rfl rfl ?_
    refine tw_iload rfl rfl ?_
    refine tw_virt1 rfl (f_carAtR hG hs hL hg) (fun w9 h9 p304 => ?_)
    obtain ⟨⟨rp304, p304, p304r, p304g, rfl⟩ | ⟨p304, rfl⟩, e9⟩ := p304
    · obtain rfl := e9.symm
      refine tw_virt2 rfl (f_isLeft hG hs (hK _ _ p304.2 p304r) (hM _ _ p304.2 p304r) (hW _ _ p304.2 p304r) (hB9 _ _ p304.2 p304r).1) (fun w9 h9 p305 => ?_)
      obtain ⟨⟨p305, rfl⟩ | ⟨p305, rfl⟩, e9⟩ := p305
      · try dsimp only [tvI_i, tvJ_j, tvR_r] at p305
        obtain rfl := e9.symm
        refine tw_if_eq rfl (fun z => absurd z (by decide)) (fun _ => ?_)
        refine tw_iinc rfl rfl ?_
        refine tw_iinc rfl rfl ?_
        refine tw_goto rfl ?_
        exact tG_cut (zW_mono zTt G dp) (Or.inr ⟨rfl, rfl, rfl, k + 1, x + 1, _, zincL hx q303, by omega, sCn_y hy (by rw [← zof_cl hx]; exact (lfC_of (C := c.toNatClampNeg) (i := x.toNatClampNeg) (c := c) (by rw [zclE]; omega) (by rw [zclE]; omega) rfl rfl rfl (hB9 _ _ p304.2 p304r).2).mp p305), rfl⟩)
      · try dsimp only [tvI_i, tvJ_j, tvR_r] at p305
        obtain rfl := e9.symm
        refine tw_if_eq rfl (fun _ => ?_) (fun z => absurd z (by decide))
        refine tw_iinc rfl rfl ?_
        refine tw_goto rfl ?_
        exact tG_cut (zW_mono zTt G dp) (Or.inr ⟨rfl, rfl, rfl, k + 1, x + 1, _, zincL hx q303, by omega, sCn_n hy (by rw [← zof_cl hx]; exact fun z => p305 ((lfC_of (C := c.toNatClampNeg) (i := x.toNatClampNeg) (c := c) (by rw [zclE]; omega) (by rw [zclE]; omega) rfl rfl rfl (hB9 _ _ p304.2 p304r).2).mpr z)), rfl⟩)
    · obtain rfl := e9.symm
      exact absurd ⟨by omega, by omega⟩ p304
/-- the first place, in order, with so many before it -/
noncomputable def lfR (P : Nat → Bool) (k : Int32) (N : Nat) (w : Int32) : Prop := (∃ i, i < N ∧ P i = true ∧ sCn P i = k ∧ (∀ j, j < i → P j = true → sCn P j ≠ k) ∧ w = Int32.ofNat i) ∨ ((∀ j, j < N → P j = true → sCn P j ≠ k) ∧ w = -1)
theorem lfR_u {P P2 : Nat → Bool} {k w w2 : Int32} {N : Nat} (hP : ∀ i, i < N → P i = P2 i) (h1 : lfR P k N w) (h2 : lfR P2 k N w2) : w2 = w := by
  have hc : ∀ i, i ≤ N → sCn P i = sCn P2 i := fun i hi => sCn_congr (fun j hj => hP j (by omega))
  rcases h1 with ⟨i, a1, a2, a3, a4, rfl⟩ | ⟨a1, rfl⟩ <;> rcases h2 with ⟨j, b1, b2, b3, b4, rfl⟩ | ⟨b1, rfl⟩
  · rcases Nat.lt_trichotomy i j with q | q | q
    · exact absurd ((hc i (by omega)).symm.trans a3) (b4 i q (by rw [← hP i a1]; exact a2))
    · rw [q]
    · exact absurd ((hc j (by omega)).trans b3) (a4 j q (by rw [hP j b1]; exact b2))
  · exact absurd ((hc i (by omega)).symm.trans a3) (b1 i a1 (by rw [← hP i a1]; exact a2))
  · exact absurd ((hc j (by omega)).trans b3) (a1 j b1 (by rw [hP j b1]; exact b2))
  · rfl
theorem lf_nx {P : Nat → Bool} {k y : Int32} {i : Nat} (h : ∀ j, j < i → P j = true → sCn P j ≠ k) (hy : y = sCn P i) (hn : P i = true → ¬ y = k) : ∀ j, j < i + 1 → P j = true → sCn P j ≠ k := by
  intro j hj h1
  by_cases e : j = i
  · subst e
    rw [← hy]
    exact hn h1
  · exact h j (by omega) h1
theorem f_leftAt {G : zG} (hG : G.1 = zProg) {h : zH} {c n : Int32} (hs : tSh h) (hL : R_cl h) (hg : ∀ i r : Nat, (i : Int) < (tvI (tF h 36 4)).toInt → tO h 39 i = some r → 182 ≤ r) (hK : R_ckind h) (hM : R_cmade h) (hW : R_cwr h) (hB9 : R_cmb h) (hC : 0 ≤ c.toInt ∧ c.toInt < 20) (hn : 0 ≤ (tvI (tF h 36 4)).toInt) : tC zTt G 61 [.ref 89, .int c, .int n, .ref 36] h (fun w h2 => ∃ v, w = some (.int v) ∧ lfR (lfC h c.toNatClampNeg) n (tvI (tF h 36 4)).toNatClampNeg v ∧ h2 = h) := by
  refine tC_in (by rw [hG]; rfl) (fun dp => ?_)
  refine tw_push rfl ?_
  refine tw_istore rfl ?_
  refine tw_push rfl ?_
  refine tw_istore rfl ?_
  refine tG_loop (zW_mono zTt G dp) (zW_conj zTt G dp) (V := fun pc L st h9 _ _ => pc = 6 ∧ st = [] ∧ h = h9 ∧ ∃ (k : Nat) (x y : Int32), x.toInt = k ∧ (k : Int) ≤ (tvI (tF h 36 4)).toInt ∧ y = sCn (lfC h c.toNatClampNeg) k ∧ (∀ j, j < k → (lfC h c.toNatClampNeg) j = true → sCn (lfC h c.toNatClampNeg) j ≠ n) ∧ L = [some (.ref 89), some (.int c), some (.int n), some (.ref 36), some (.int y), some (.int x)]) ?_ (⟨rfl, rfl, rfl, 0, 0, 0, rfl, hn, rfl, fun j hj => by omega, rfl⟩)
  rintro _ _ _ _ _ _ ⟨rfl, rfl, rfl, k, x, y, hx, hk, hy, hv, rfl⟩
  refine tw_iload rfl rfl ?_
  refine tw_aload rfl rfl ?_
  refine tw_getS rfl (hi_36_4 hs) ?_
  refine tw_ic_ge rfl (fun q306 => ?_) (fun q306 => ?_)
  · try dsimp only [tvI_i, tvJ_j, tvR_r] at q306
    refine tw_push rfl ?_
    exact tw_iret rfl ⟨_, rfl, Or.inr ⟨fun j hj => hv j (by rw [zclE] at hj; omega), rfl⟩, rfl⟩
  · try dsimp only [tvI_i, tvJ_j, tvR_r] at q306
    refine tw_aload rfl rfl ?_
    refine tw_iload rfl rfl ?_
    refine tw_aload rfl rfl ?_
    refine tw_iload rfl rfl ?_
    refine tw_virt1 rfl (f_carAtR hG hs hL hg) (fun w9 h9 p307 => ?_)
    obtain ⟨⟨rp307, p307, p307r, p307g, rfl⟩ | ⟨p307, rfl⟩, e9⟩ := p307
    · obtain rfl := e9.symm
      refine tw_virt2 rfl (f_isLeft hG hs (hK _ _ p307.2 p307r) (hM _ _ p307.2 p307r) (hW _ _ p307.2 p307r) (hB9 _ _ p307.2 p307r).1) (fun w9 h9 p308 => ?_)
      obtain ⟨⟨p308, rfl⟩ | ⟨p308, rfl⟩, e9⟩ := p308
      · try dsimp only [tvI_i, tvJ_j, tvR_r] at p308
        obtain rfl := e9.symm
        refine tw_if_eq rfl (fun z => absurd z (by decide)) (fun _ => ?_)
        refine tw_iload rfl rfl ?_
        refine tw_iload rfl rfl ?_
        refine tw_ic_ne rfl (fun q309 => ?_) (fun q309 => ?_)
        · try dsimp only [tvI_i, tvJ_j, tvR_r] at q309
          have q309i := zneq rfl q309
          refine tw_iinc rfl rfl ?_
          refine tw_iinc rfl rfl ?_
          refine tw_goto rfl ?_
          exact tG_cut (zW_mono zTt G dp) (Or.inr ⟨rfl, rfl, rfl, k + 1, x + 1, _, zincL hx q306, by omega, sCn_y hy (by rw [← zof_cl hx]; exact (lfC_of (C := c.toNatClampNeg) (i := x.toNatClampNeg) (c := c) (by rw [zclE]; omega) (by rw [zclE]; omega) rfl rfl rfl (hB9 _ _ p307.2 p307r).2).mp p308), lf_nx hv hy (fun _ => q309), rfl⟩)
        · try dsimp only [tvI_i, tvJ_j, tvR_r] at q309
          have q309i := zeqi rfl q309
          refine tw_iload rfl rfl ?_
          exact tw_iret rfl ⟨_, rfl, Or.inl ⟨k, by rw [zclE]; omega, (by rw [← zof_cl hx]; exact (lfC_of (C := c.toNatClampNeg) (i := x.toNatClampNeg) (c := c) (by rw [zclE]; omega) (by rw [zclE]; omega) rfl rfl rfl (hB9 _ _ p307.2 p307r).2).mp p308), by rw [← hy]; exact q309, hv, zof hx⟩, rfl⟩
      · try dsimp only [tvI_i, tvJ_j, tvR_r] at p308
        obtain rfl := e9.symm
        refine tw_if_eq rfl (fun _ => ?_) (fun z => absurd z (by decide))
        refine tw_iinc rfl rfl ?_
        refine tw_goto rfl ?_
        exact tG_cut (zW_mono zTt G dp) (Or.inr ⟨rfl, rfl, rfl, k + 1, x + 1, _, zincL hx q306, by omega, sCn_n hy (by rw [← zof_cl hx]; exact fun z => p308 ((lfC_of (C := c.toNatClampNeg) (i := x.toNatClampNeg) (c := c) (by rw [zclE]; omega) (by rw [zclE]; omega) rfl rfl rfl (hB9 _ _ p307.2 p307r).2).mpr z)), lf_nx hv hy (fun z => absurd z (by rw [← zof_cl hx]; exact fun z => p308 ((lfC_of (C := c.toNatClampNeg) (i := x.toNatClampNeg) (c := c) (by rw [zclE]; omega) (by rw [zclE]; omega) rfl rfl rfl (hB9 _ _ p307.2 p307r).2).mpr z))), rfl⟩)
    · obtain rfl := e9.symm
      exact absurd ⟨by omega, by omega⟩ p307
noncomputable def ph_lfc (c n : Int32) (h : zH) (w : Option Value) (_ : zH) : Prop := ((0 ≤ c.toInt ∧ c.toInt < (tvI (tF h 89 4)).toInt) ∧ ((n = -1 ∧ w = some (.int (sCn (lfC h c.toNatClampNeg) (tvI (tF h 36 4)).toNatClampNeg))) ∨ (¬ n = -1 ∧ ∃ v, w = some (.int v) ∧ lfR (lfC h c.toNatClampNeg) n (tvI (tF h 36 4)).toNatClampNeg v))) ∨ (¬ (0 ≤ c.toInt ∧ c.toInt < (tvI (tF h 89 4)).toInt) ∧ w = some (.int (-1)))
noncomputable def ph_lfm (c n : Int32) (h : zH) (w : Option Value) (_ : zH) : Prop := ((0 ≤ c.toInt ∧ c.toInt < (tvI (tF h 111 83)).toInt) ∧ ((n = -1 ∧ w = some (.int (sCn (lfM h c.toNatClampNeg) (tvI (tF h 111 5)).toNatClampNeg))) ∨ (¬ n = -1 ∧ ∃ v, w = some (.int v) ∧ lfR (lfM h c.toNatClampNeg) n (tvI (tF h 111 5)).toNatClampNeg v))) ∨ (¬ (0 ≤ c.toInt ∧ c.toInt < (tvI (tF h 111 83)).toInt) ∧ w = some (.int (-1)))
theorem f_left {G : zG} (hG : G.1 = zProg) {h : zH} {c n : Int32} (hs : tSh h) (hL : R_cl h) (hg : ∀ i r : Nat, (i : Int) < (tvI (tF h 36 4)).toInt → tO h 39 i = some r → 182 ≤ r) (hK : R_ckind h) (hM : R_cmade h) (hW : R_cwr h) (hB9 : R_cmb h) (hk20 : (tvI (tF h 89 4)).toInt ≤ 20) (hn : 0 ≤ (tvI (tF h 36 4)).toInt) : tC zTt G 150 [.ref 0, .int c, .int n] h (ph_lfc c n h) := by
  refine tC_in (by rw [hG]; rfl) (fun dp => ?_)
  refine tw_aload rfl rfl ?_
  refine tw_getS rfl (hs_0_8 hs) ?_
  refine tw_iload rfl rfl ?_
  refine tw_virt1 rfl (f_hasCall hG hs) (fun w9 h9 p310 => ?_)
  obtain ⟨⟨p310, rfl⟩ | ⟨p310, rfl⟩, e9⟩ := p310
  · try dsimp only [tvI_i, tvJ_j, tvR_r] at p310
    obtain rfl := e9.symm
    refine tw_if_ne rfl (fun _ => ?_) (fun z => absurd z (by decide))
    refine tw_iload rfl rfl ?_
    refine tw_push rfl ?_
    refine tw_ic_ne rfl (fun q311 => ?_) (fun q311 => ?_)
    · try dsimp only [tvI_i, tvJ_j, tvR_r] at q311
      have q311i := zneq (Y := (-1)) (by decide) q311
      refine tw_aload rfl rfl ?_
      refine tw_getS rfl (hs_0_8 hs) ?_
      refine tw_iload rfl rfl ?_
      refine tw_iload rfl rfl ?_
      refine tw_aload rfl rfl ?_
      refine tw_getS rfl (hs_0_1 hs) ?_
      refine tw_virt3 rfl (f_leftAt hG hs hL hg hK hM hW hB9 (by omega) hn) (fun wp312 hp312 p312 => ?_)
      obtain ⟨vp312, rfl, lp312, e9⟩ := p312
      obtain rfl := e9.symm
      exact tw_iret rfl (Or.inl ⟨by omega, Or.inr ⟨q311, _, rfl, lp312⟩⟩)
    · try dsimp only [tvI_i, tvJ_j, tvR_r] at q311
      have q311i := zeqi (Y := (-1)) (by decide) q311
      refine tw_aload rfl rfl ?_
      refine tw_getS rfl (hs_0_8 hs) ?_
      refine tw_iload rfl rfl ?_
      refine tw_aload rfl rfl ?_
      refine tw_getS rfl (hs_0_1 hs) ?_
      refine tw_virt2 rfl (f_countLeft hG hs hL hg hK hM hW hB9 (by omega) hn) (fun w9 h9 p313 => ?_)
      obtain ⟨rfl, e9⟩ := p313
      obtain rfl := e9.symm
      refine tw_goto rfl ?_
      exact tw_iret rfl (Or.inl ⟨by omega, Or.inl ⟨q311, rfl⟩⟩)
  · try dsimp only [tvI_i, tvJ_j, tvR_r] at p310
    obtain rfl := e9.symm
    refine tw_if_ne rfl (fun z => absurd z (by decide)) (fun _ => ?_)
    refine tw_push rfl ?_
    exact tw_iret rfl (Or.inr ⟨by omega, rfl⟩)
theorem g_left {G : zG} (hG : G.1 = zProg) {h : zH} {c n : Int32} (hs : tSh h) (hn5 : 0 ≤ (tvI (tF h 111 5)).toInt ∧ (tvI (tF h 111 5)).toInt ≤ 300) (hk20 : (tvI (tF h 111 83)).toInt ≤ 20) (hk83 : 0 ≤ (tvI (tF h 111 83)).toInt) : tC zTt G 272 [.ref 111, .int c, .int n] h (ph_lfm c n h) := by
  refine tC_in (by rw [hG]; rfl) (fun dp => ?_)
  refine tw_aload rfl rfl ?_
  refine tw_iload rfl rfl ?_
  refine tw_virt1 rfl (g_isCall hG hs hk83) (fun w9 h9 p314 => ?_)
  obtain ⟨⟨p314, rfl⟩ | ⟨p314, rfl⟩, e9⟩ := p314
  · try dsimp only [tvI_i, tvJ_j, tvR_r] at p314
    obtain rfl := e9.symm
    refine tw_if_ne rfl (fun _ => ?_) (fun z => absurd z (by decide))
    refine tw_push rfl ?_
    refine tw_istore rfl ?_
    refine tw_push rfl ?_
    refine tw_istore rfl ?_
    refine tG_loop (zW_mono zTt G dp) (zW_conj zTt G dp) (V := fun pc L st h9 _ _ => pc = 15 ∧ st = [] ∧ h = h9 ∧ ∃ (k : Nat) (x y : Int32), x.toInt = k ∧ (k : Int) ≤ (tvI (tF h 111 5)).toInt ∧ y = sCn (lfM h c.toNatClampNeg) k ∧ (∀ j, j < k → lfM h c.toNatClampNeg j = true → sCn (lfM h c.toNatClampNeg) j ≠ n) ∧ L = [some (.ref 111), some (.int c), some (.int n), some (.int y), some (.int x)]) ?_ (⟨rfl, rfl, rfl, 0, 0, 0, rfl, hn5.1, rfl, fun j hj => by omega, rfl⟩)
    rintro _ _ _ _ _ _ ⟨rfl, rfl, rfl, k, x, y, hx, hk, hy, hv, rfl⟩
    refine tw_iload rfl rfl ?_
    refine tw_aload rfl rfl ?_
    refine tw_getS rfl (hi_111_5 hs) ?_
    refine tw_ic_ge rfl (fun q315 => ?_) (fun q315 => ?_)
    · try dsimp only [tvI_i, tvJ_j, tvR_r] at q315
      refine tw_iload rfl rfl ?_
      refine tw_push rfl ?_
      refine tw_ic_ne rfl (fun q316 => ?_) (fun q316 => ?_)
      · try dsimp only [tvI_i, tvJ_j, tvR_r] at q316
        have q316i := zneq (Y := (-1)) (by decide) q316
        refine tw_push rfl ?_
        have hk9 : k = (tvI (tF h 111 5)).toNatClampNeg := by rw [zclE]; omega
        rw [hk9] at hv
        exact tw_iret rfl (Or.inl ⟨by omega, Or.inr ⟨q316, _, rfl, Or.inr ⟨hv, rfl⟩⟩⟩)
      · try dsimp only [tvI_i, tvJ_j, tvR_r] at q316
        have q316i := zeqi (Y := (-1)) (by decide) q316
        refine tw_iload rfl rfl ?_
        refine tw_goto rfl ?_
        have hk9 : k = (tvI (tF h 111 5)).toNatClampNeg := by rw [zclE]; omega
        rw [hk9] at hy
        exact tw_iret rfl (Or.inl ⟨by omega, Or.inl ⟨q316, congrArg (fun z => some (Value.int z)) hy⟩⟩)
    · try dsimp only [tvI_i, tvJ_j, tvR_r] at q315
      refine tw_aload rfl rfl ?_
      refine tw_iload rfl rfl ?_
      refine tw_iload rfl rfl ?_
      refine tw_virt2 rfl (g_isLeft hG hs (by omega) (by omega)) (fun w9 h9 p317 => ?_)
      obtain ⟨⟨p317, rfl⟩ | ⟨p317, rfl⟩, e9⟩ := p317
      · try dsimp only [tvI_i, tvJ_j, tvR_r] at p317
        obtain rfl := e9.symm
        refine tw_if_eq rfl (fun z => absurd z (by decide)) (fun _ => ?_)
        refine tw_iload rfl rfl ?_
        refine tw_iload rfl rfl ?_
        refine tw_ic_ne rfl (fun q318 => ?_) (fun q318 => ?_)
        · try dsimp only [tvI_i, tvJ_j, tvR_r] at q318
          have q318i := zneq rfl q318
          refine tw_iinc rfl rfl ?_
          refine tw_iinc rfl rfl ?_
          refine tw_goto rfl ?_
          exact tG_cut (zW_mono zTt G dp) (Or.inr ⟨rfl, rfl, rfl, k + 1, x + 1, _, zincL hx q315, by omega, sCn_y hy (by rw [← zof_cl hx]; exact p317), lf_nx hv hy (fun _ => q318), rfl⟩)
        · try dsimp only [tvI_i, tvJ_j, tvR_r] at q318
          have q318i := zeqi rfl q318
          refine tw_iload rfl rfl ?_
          exact tw_iret rfl (Or.inl ⟨by omega, Or.inr ⟨(fun z => absurd (show (sCn (lfM h c.toNatClampNeg) k).toInt = -1 by rw [← hy, show y = n from q318, z]; rfl) (by have := sCn_f (P := lfM h c.toNatClampNeg) (n := k) (by omega); omega)), _, rfl, Or.inl ⟨k, by rw [zclE]; omega, (by rw [← zof_cl hx]; exact p317), by rw [← hy]; exact q318, hv, zof hx⟩⟩⟩)
      · try dsimp only [tvI_i, tvJ_j, tvR_r] at p317
        obtain rfl := e9.symm
        refine tw_if_eq rfl (fun _ => ?_) (fun z => absurd z (by decide))
        refine tw_iinc rfl rfl ?_
        refine tw_goto rfl ?_
        exact tG_cut (zW_mono zTt G dp) (Or.inr ⟨rfl, rfl, rfl, k + 1, x + 1, _, zincL hx q315, by omega, sCn_n hy (by rw [← zof_cl hx]; exact p317), lf_nx hv hy (fun z => absurd z (by rw [← zof_cl hx]; exact p317)), rfl⟩)
  · try dsimp only [tvI_i, tvJ_j, tvR_r] at p314
    obtain rfl := e9.symm
    refine tw_if_ne rfl (fun z => absurd z (by decide)) (fun _ => ?_)
    refine tw_push rfl ?_
    exact tw_iret rfl (Or.inr ⟨by omega, rfl⟩)
theorem a_left {c n : Int32} {h h2 h3 : zH} {w w2 : Option Value} (hQ : R_calls h) (hC : R_cars h) (h1 : R_qkind h) (h4 : R_qfrom h) (h5 : R_qto h) (e1 : tF h2 111 83 = tF h 111 83) (e2 : tF h2 111 5 = tF h 111 5) (o1 : tA h2 173 = tA h 173) (o2 : tA h2 174 = tA h 174) (o3 : tA h2 175 = tA h 175) (o4 : tA h2 121 = tA h 121) (o5 : tA h2 122 = tA h 122) (o6 : tA h2 120 = tA h 120) (o7 : tA h2 177 = tA h 177) (k1 : ph_lfc c n h w h2) (k2 : ph_lfm c n h2 w2 h3) : w2 = w := by
  unfold R_calls at hQ
  unfold R_cars at hC
  unfold R_qkind at h1
  unfold R_qfrom at h4
  unfold R_qto at h5
  unfold ph_lfm lfM at k2
  rw [e1, e2, o1, o2, o3, o4, o5, o6, o7, ← hQ, ← hC, ← h1, ← h4, ← h5] at k2
  rcases k1 with ⟨c1, k1⟩ | ⟨c1, rfl⟩ <;> rcases k2 with ⟨c2, k2⟩ | ⟨c2, rfl⟩
  · rcases k1 with ⟨d1, rfl⟩ | ⟨d1, v, rfl, f1⟩ <;> rcases k2 with ⟨d2, rfl⟩ | ⟨d2, v2, rfl, f2⟩
    · rfl
    · exact absurd d1 d2
    · exact absurd d2 d1
    · rw [lfR_u (fun _ _ => rfl) f1 f2]
  · exact absurd c1 c2
  · exact absurd c2 c1
  · rfl
