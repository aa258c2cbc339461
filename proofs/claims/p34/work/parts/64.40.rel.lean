/-! what is answered: small helpers -/
noncomputable def tBo (P : Prop) (w : Option Value) : Prop := (P ∧ w = some (.int 1)) ∨ (¬ P ∧ w = some (.int 0))
theorem tBo_i {P R : Prop} {w : Option Value} (e : P ↔ R) (k : tBo P w) : tBo R w := k.imp (fun z => ⟨e.mp z.1, z.2⟩) (fun z => ⟨fun y => z.1 (e.mpr y), z.2⟩)
theorem zpB_c {b : Int × Int} {r : List (Int × Int)} {xs : List Int32} (h : zpB (b :: r) xs) : ∃ x ys, xs = x :: ys ∧ (b.1 ≤ x.toInt ∧ x.toInt ≤ b.2) ∧ zpB r ys := by
  obtain ⟨lo, hi⟩ := b
  cases xs with
  | nil => exact h.elim
  | cons x ys => exact ⟨x, ys, rfl, h.1, h.2⟩
theorem zpB_n {xs : List Int32} (h : zpB [] xs) : xs = [] := by
  cases xs with
  | nil => rfl
  | cons x ys => exact h.elim
theorem zclx {x : Int32} (h : 0 ≤ x.toInt) : (x.toNatClampNeg : Int) = x.toInt := by
  show ((x.toInt.toNat : Nat) : Int) = _
  omega
theorem zclE {x : Int32} : x.toNatClampNeg = x.toInt.toNat := rfl
theorem zeqi {x y : Int32} {Y : Int} (hy : y.toInt = Y) (h : x = y) : x.toInt = Y := by rw [h]; exact hy
theorem zneq {x y : Int32} {Y : Int} (hy : y.toInt = Y) (h : ¬ x = y) : x.toInt ≠ Y := fun z => h (Int32.toInt_inj.mp (z.trans hy.symm))
theorem zsub1 {x : Int32} (h : 0 ≤ x.toInt) : (x - 1).toInt = x.toInt - 1 := by
  have := Int32.toInt_lt x
  rw [Int32.toInt_sub]
  exact Int.bmod_eq_of_le (by show (-2147483648 : Int) ≤ x.toInt - 1; omega) (by show x.toInt - 1 < (2147483648 : Int); omega)
noncomputable def tRwl : List (Nat × Nat) := [(4, 5), (14, 15), (27, 28), (97, 98)]
noncomputable def tRw (h : zH) : Prop := ∀ q ∈ tRwl, ∀ i, i < tN h q.1 → tO h q.1 i = some (q.2 + i)
theorem tRw_A {h : zH} {r i : Nat} {x : Int32} (k : tRw h) : tRw (tSA h r i x) := by unfold tRw; rw [tO_tSA, tN_tSA]; exact k
theorem tRw_J {h : zH} {r i : Nat} {x : Int64} (k : tRw h) : tRw (tSJ h r i x) := by unfold tRw; rw [tO_tSJ, tN_tSJ]; exact k
theorem tRw_F {h : zH} {r b : Nat} {w : Value} (k : tRw h) : tRw (tSF h r b w) := by unfold tRw; rw [tO_tSF, tN_tSF]; exact k
theorem tRw_at {h : zH} (k : tRw h) {p q : Nat} (hm : (p, q) ∈ tRwl) {i : Int32} (z : tInO h p i) : zrf (tO h p i.toNatClampNeg) = .ref (q + i.toNatClampNeg) := by
  rw [k (p, q) hm _ z.rg.2]
  rfl
theorem tfr_N {xs : Nat → Int32} {τ : List Nat} {h h2 : zH} {W : Nat → Nat → Bool} {p t : Nat} (hB : zBs xs τ h) (hf : yFr W τ h h2) (ht : zTG[p]? = some t) : tN h2 p = tN h p := by
  obtain ⟨ct, c, a1, a2, -⟩ := hB.1.2 _ _ (hB.2.1 _ _ ht)
  obtain ⟨c2, b1, b2⟩ := hf _ _ _ (hB.2.1 _ _ ht) a2
  unfold tN
  rw [a2, b1]
  match c, c2, b2 with
  | .inr (x, fs), .inr (y, gs), b2 => rfl
  | .inl (k, N, x), .inl (k2, N2, y), b2 => exact b2.2.1.symm
theorem tfr_Fs {xs : Nat → Int32} {τ : List Nat} {h h2 : zH} {W : Nat → Nat → Bool} {p t b : Nat} (hB : zBs xs τ h) (hf : yFr W τ h h2) (ht : τ[p]? = some t) (hW : W t b = false) : tF h2 p b = tF h p b := by
  obtain ⟨ct, c, a1, a2, -⟩ := hB.1.2 _ _ ht
  obtain ⟨c2, b1, b2⟩ := hf _ _ _ ht a2
  unfold tF
  rw [a2, b1]
  match c, c2, b2 with
  | .inr (x, fs), .inr (y, gs), b2 =>
    dsimp only
    rw [List.getD_eq_getElem?_getD, List.getD_eq_getElem?_getD, b2.2.2 b hW]
  | .inl (k, N, x), .inl (k2, N2, y), b2 => rfl
theorem car_tag {xs : Nat → Int32} {τ : List Nat} {h : zH} (hB : zBs xs τ h) {i r : Nat} (hi : (i : Int) < (tvI (tF h 36 4)).toInt) (hr : tO h 39 i = some r) : τ[r]? = some 150 := by
  have hn := (kb_36_4 hB).2
  obtain ⟨a, b, c⟩ := tkd_o hB (p := 39) (t := 15) rfl rfl
  obtain ⟨-, -, c3⟩ := c i (by omega)
  rw [hr] at c3
  rcases c3 with z | z | z
  · cases z
  · have : zoi (some r) = (r : Int) := rfl
    omega
  · exact z
theorem car_lt {xs : Nat → Int32} {τ : List Nat} {h : zH} (hB : zBs xs τ h) {i r : Nat} (hi : (i : Int) < (tvI (tF h 36 4)).toInt) (hr : tO h 39 i = some r) : r < h.length := by
  have z := car_tag hB hi hr
  rcases Nat.lt_or_ge r τ.length with q | q
  · have := hB.1.1; omega
  · rw [List.getElem?_eq_none q] at z; cases z
theorem car_ne {xs : Nat → Int32} {τ : List Nat} {h : zH} (hB : zBs xs τ h) {i r : Nat} (hi : (i : Int) < (tvI (tF h 36 4)).toInt) (hr : tO h 39 i = some r) {p t : Nat} (ht : zTG[p]? = some t) (hn : t ≠ 150) : r ≠ p := by
  intro e
  subst e
  have z := car_tag hB hi hr
  rw [hB.2.1 _ _ ht] at z
  cases z
  exact hn rfl
theorem zBs_len {xs : Nat → Int32} {τ : List Nat} {h : zH} (hB : zBs xs τ h) : 182 ≤ h.length := by
  have z := hB.2.1 181 149 rfl
  rcases Nat.lt_or_ge 181 τ.length with q | q
  · have := hB.1.1; omega
  · rw [List.getElem?_eq_none q] at z; cases z
/-- a count: what is told is the next of so many, or none -/
noncomputable def phN (p b : Nat) (C : Prop) (h : zH) (w : Option Value) (h2 : zH) : Prop := (C ∧ w = some (tF h p b) ∧ tF h2 p b = .int (tvI (tF h p b) + 1)) ∨ (¬ C ∧ w = some (.int (-1)) ∧ tF h2 p b = tF h p b)
theorem phN_a {p b q c : Nat} {C D : Prop} {h h2 h3 : zH} {w w2 : Option Value} (hR : tF h p b = tF h q c) (e1 : tF h2 q c = tF h q c) (e2 : tF h3 p b = tF h2 p b) (hCD : C ↔ D) (k1 : phN p b C h w h2) (k2 : phN q c D h2 w2 h3) : w2 = w ∧ tF h3 p b = tF h3 q c := by
  rcases k1 with ⟨c1, rfl, f1⟩ | ⟨c1, rfl, f1⟩ <;> rcases k2 with ⟨c2, rfl, f2⟩ | ⟨c2, rfl, f2⟩
  · rw [e2, f1, f2, e1, hR]
    exact ⟨rfl, rfl⟩
  · exact absurd (hCD.mp c1) c2
  · exact absurd (hCD.mpr c2) c1
  · rw [e2, f1, f2, e1, hR]
    exact ⟨rfl, rfl⟩
theorem zi1 {x : Int32} : x + 1 - 1 = x := Int32.add_sub_cancel x 1
/-- a count and what is told in arrays at its place -/
noncomputable def phA (p b : Nat) (C : Prop) (l : List (Nat × Int32)) (h : zH) (w : Option Value) (h2 : zH) : Prop := (C ∧ w = some (tF h p b) ∧ tF h2 p b = .int (tvI (tF h p b) + 1) ∧ ∀ q ∈ l, tA h2 q.1 = fun j => if j = (tvI (tF h p b)).toNatClampNeg then q.2 else tA h q.1 j) ∨ (¬ C ∧ w = some (.int (-1)) ∧ tF h2 p b = tF h p b ∧ ∀ q ∈ l, tA h2 q.1 = tA h q.1)
theorem phA_a {p b q c : Nat} {C D : Prop} {l m : List (Nat × Int32)} {h h2 h3 : zH} {w w2 : Option Value} (hR : tF h p b = tF h q c) (e1 : tF h2 q c = tF h q c) (e2 : tF h3 p b = tF h2 p b) (hCD : C ↔ D) (k1 : phA p b C l h w h2) (k2 : phA q c D m h2 w2 h3) : w2 = w ∧ tF h3 p b = tF h3 q c ∧ ∀ P Q v, (P, v) ∈ l → (Q, v) ∈ m → tA h P = tA h Q → tA h2 Q = tA h Q → tA h3 P = tA h2 P → tA h3 P = tA h3 Q := by
  rcases k1 with ⟨c1, rfl, f1, g1⟩ | ⟨c1, rfl, f1, g1⟩ <;> rcases k2 with ⟨c2, rfl, f2, g2⟩ | ⟨c2, rfl, f2, g2⟩
  · refine ⟨by rw [e1, hR], by rw [e2, f1, f2, e1, hR], fun P Q v hP hQ a1 a2 a3 => ?_⟩
    rw [a3, g1 _ hP, g2 _ hQ, e1, ← hR]
    dsimp only
    rw [a1, a2]
  · exact absurd (hCD.mp c1) c2
  · exact absurd (hCD.mpr c2) c1
  · refine ⟨rfl, by rw [e2, f1, f2, e1, hR], fun P Q v hP hQ a1 a2 a3 => ?_⟩
    have h1 := g1 _ hP
    have h2 := g2 _ hQ
    dsimp only at h1 h2
    rw [a3, h1, h2, a1, a2]
theorem tA_st {h : zH} {r i : Nat} {x : Int32} {kd : Nat} {z : Int32} (hf : tIn h r kd z) {f : Nat → Int32} (k : tA h r = f) : tA (tSA h r i x) r = fun j => if j = i then x else f j := by
  rw [tA_tSA hf.cell]
  funext j
  dsimp only
  rw [k]
  by_cases e : j = i
  · rw [if_pos ⟨rfl, e⟩, if_pos e]
  · rw [if_neg (fun z => e z.2), if_neg e]
theorem tA_n {h : zH} {r i p : Nat} {x : Int32} {f : Nat → Int32} (hn : p ≠ r) (k : tA h p = f) : tA (tSA h r i x) p = f := by rw [tA_nz hn]; exact k
theorem tA_ff {h : zH} {r b p : Nat} {w : Value} {f : Nat → Int32} (k : tA h p = f) : tA (tSF h r b w) p = f := by rw [tA_tSF]; exact k
theorem tA_jj {h : zH} {r i p : Nat} {x : Int64} {f : Nat → Int32} (k : tA h p = f) : tA (tSJ h r i x) p = f := by rw [tA_tSJ]; exact k
theorem tA_oo {h : zH} {r i p : Nat} {x : Option Nat} {f : Nat → Int32} (k : tA h p = f) : tA (tSO h r i x) p = f := by rw [tA_tSO]; exact k
/-- the begin of a step behind the first n -/
noncomputable def sBe (m : Int32) (e : Nat → Int32) : Nat → Int32
  | 0 => 0
  | n + 1 => if (m >>> (Int32.ofNat n &&& 31)) &&& 1 = 1 then (if sBe m e n < e n then e n else sBe m e n) else sBe m e n
theorem zof {x : Int32} {n : Nat} (h : x.toInt = n) : x = Int32.ofNat n := by
  have hx := Int32.toInt_lt x
  exact Int32.toInt_inj.mp (h.trans (yofN (by omega)).symm)
theorem zof_cl {x : Int32} {n : Nat} (h : x.toInt = n) : x.toNatClampNeg = n := by rw [zclE, h]; rfl
theorem zincN {x : Int32} {n : Nat} (h : x.toInt = n) (hn : n < 2147483647) : (x + 1).toInt = ((n + 1 : Nat) : Int) := by
  rw [Int32.toInt_add, h]
  exact Int.bmod_eq_of_le (by show (-2147483648 : Int) ≤ (n : Int) + 1; omega) (by show (n : Int) + 1 < (2147483648 : Int); omega)
theorem zen {x y : Int32} {n : Nat} (hx : x.toInt = n) (hn : (n : Int) ≤ y.toInt) (hq : y.toInt ≤ x.toInt) : n = y.toNatClampNeg := by
  rw [zclE]
  omega
theorem zincL {x y : Int32} {n : Nat} (h : x.toInt = n) (hy : x.toInt < y.toInt) : (x + 1).toInt = ((n + 1 : Nat) : Int) := zincN h (by have := Int32.toInt_lt y; omega)
theorem f_isBehind {G : zG} (hG : G.1 = zProg) {h : zH} {s k : Int32} (hs : tSh h) : tC zTt G 49 [.ref 81, .int s, .int k] h (fun w h2 => tBo ((tA h 84 s.toNatClampNeg >>> (k &&& 31)) &&& 1 = 1) w ∧ h2 = h) := by
  refine tC_in (by rw [hG]; rfl) (fun dp => ?_)
  refine tw_aload rfl rfl ?_
  refine tw_getS rfl (hs_81_2 hs) ?_
  refine tw_iload rfl rfl ?_
  refine tw_iald rfl (fun f1 => ?_)
  refine tw_iload rfl rfl ?_
  refine tw_ishr rfl ?_
  refine tw_push rfl ?_
  refine tw_iand rfl ?_
  refine tw_push rfl ?_
  refine tw_ic_ne rfl (fun q2 => ?_) (fun q2 => ?_)
  · try dsimp only [tvI_i, tvJ_j, tvR_r] at q2
    have q2i := zneq (Y := 1) (by decide) q2
    refine tw_push rfl ?_
    exact tw_iret rfl ⟨Or.inr ⟨q2, rfl⟩, rfl⟩
  · try dsimp only [tvI_i, tvJ_j, tvR_r] at q2
    have q2i := zeqi (Y := 1) (by decide) q2
    refine tw_push rfl ?_
    refine tw_goto rfl ?_
    exact tw_iret rfl ⟨Or.inl ⟨q2, rfl⟩, rfl⟩
theorem sBe_y {m : Int32} {e : Nat → Int32} {n : Nat} (h : (m >>> (Int32.ofNat n &&& 31)) &&& 1 = 1) (hn : (Int32.ofNat n).toNatClampNeg = n) : sBe m e (n + 1) = if sBe m e n < e (Int32.ofNat n).toNatClampNeg then e (Int32.ofNat n).toNatClampNeg else sBe m e n := by
  rw [hn]
  show (if _ then _ else _) = _
  rw [if_pos h]
theorem sBe_n {m : Int32} {e : Nat → Int32} {n : Nat} (h : ¬ (m >>> (Int32.ofNat n &&& 31)) &&& 1 = 1) : sBe m e (n + 1) = sBe m e n := by
  show (if _ then _ else _) = _
  rw [if_neg h]
theorem f_beginOf {G : zG} (hG : G.1 = zProg) {h : zH} {s : Int32} {P : Nat} (hs : tSh h) (h0 : 0 ≤ s.toInt) : tC zTt G 48 [.ref 81, .int s, .ref P] h (fun w h2 => w = some (.int (sBe (tA h 84 s.toNatClampNeg) (tA h P) s.toNatClampNeg)) ∧ h2 = h) := by
  refine tC_in (by rw [hG]; rfl) (fun dp => ?_)
  refine tw_push rfl ?_
  refine tw_istore rfl ?_
  refine tw_push rfl ?_
  refine tw_istore rfl ?_
  refine tG_loop (zW_mono zTt G dp) (zW_conj zTt G dp) (V := fun pc L st h9 _ _ => pc = 5 ∧ st = [] ∧ h = h9 ∧ ∃ (k : Nat) (x : Int32), x.toInt = k ∧ (k : Int) ≤ s.toInt ∧ L = [some (.ref 81), some (.int s), some (.ref P), some (.int (sBe (tA h 84 s.toNatClampNeg) (tA h P) k)), some (.int x)]) ?_ (⟨rfl, rfl, rfl, 0, 0, rfl, h0, rfl⟩)
  rintro _ _ _ _ _ _ ⟨rfl, rfl, rfl, k, x, hx, hk, rfl⟩
  refine tw_iload rfl rfl ?_
  refine tw_iload rfl rfl ?_
  refine tw_ic_ge rfl (fun q3 => ?_) (fun q3 => ?_)
  · try dsimp only [tvI_i, tvJ_j, tvR_r] at q3
    refine tw_iload rfl rfl ?_
    exact tw_iret rfl ⟨by rw [show k = s.toNatClampNeg from by rw [zclE]; omega]; rfl, rfl⟩
  · try dsimp only [tvI_i, tvJ_j, tvR_r] at q3
    refine tw_aload rfl rfl ?_
    refine tw_iload rfl rfl ?_
    refine tw_iload rfl rfl ?_
    refine tw_virt2 rfl (f_isBehind hG hs) (fun w9 h9 p4 => ?_)
    obtain ⟨⟨p4, rfl⟩ | ⟨p4, rfl⟩, rfl⟩ := p4
    · try dsimp only [tvI_i, tvJ_j, tvR_r] at p4
      refine tw_if_eq rfl (fun z => absurd z (by decide)) (fun _ => ?_)
      refine tw_iload rfl rfl ?_
      refine tw_aload rfl rfl ?_
      refine tw_iload rfl rfl ?_
      refine tw_iald rfl (fun f5 => ?_)
      refine tw_imax rfl ?_
      refine tw_istore rfl ?_
      refine tw_iinc rfl rfl ?_
      refine tw_goto rfl ?_
      have hk := zof hx
      subst hk
      exact tG_cut (zW_mono zTt G dp) (Or.inr ⟨rfl, rfl, rfl, k + 1, _, zincN hx (by have := Int32.toInt_lt s; omega), by omega, by rw [sBe_y p4 (zof_cl hx)]; rfl⟩)
    · try dsimp only [tvI_i, tvJ_j, tvR_r] at p4
      refine tw_if_eq rfl (fun _ => ?_) (fun z => absurd z (by decide))
      refine tw_iinc rfl rfl ?_
      refine tw_goto rfl ?_
      have hk := zof hx
      subst hk
      exact tG_cut (zW_mono zTt G dp) (Or.inr ⟨rfl, rfl, rfl, k + 1, _, zincN hx (by have := Int32.toInt_lt s; omega), by omega, by rw [sBe_n p4]; rfl⟩)
theorem zshr_neg {x k : Int32} (h : x.toInt < 0) : (x >>> k).toInt < 0 := by
  have e : (x >>> k).toInt = (x.toBitVec.sshiftRight' (k.toBitVec.smod 32)).toInt := rfl
  have h2 : x.toBitVec.toInt < 0 := h
  rw [e, BitVec.toInt_sshiftRight', Int.shiftRight_eq_div_pow]
  exact Int.ediv_neg_of_neg_of_pos h2 (Int.natCast_pos.mpr (Nat.two_pow_pos _))
theorem f_hasSteps {G : zG} (hG : G.1 = zProg) {h : zH} {n : Int32} (hs : tSh h) : tC zTt G 46 [.ref 81, .int n] h (fun w h2 => tBo ((n >>> (tvI (tF h 81 7) &&& 31)).toInt = 0) w ∧ h2 = h) := by
  refine tC_in (by rw [hG]; rfl) (fun dp => ?_)
  refine tw_iload rfl rfl ?_
  refine tw_if_lt rfl (fun q6 => ?_) (fun q6 => ?_)
  · try dsimp only [tvI_i, tvJ_j, tvR_r] at q6
    refine tw_push rfl ?_
    have hz := fun z => zshr_neg (x := n) (k := tvI (tF h 81 7) &&& 31) z
    exact tw_iret rfl ⟨Or.inr ⟨by omega, rfl⟩, rfl⟩
  · try dsimp only [tvI_i, tvJ_j, tvR_r] at q6
    refine tw_iload rfl rfl ?_
    refine tw_aload rfl rfl ?_
    refine tw_getS rfl (hi_81_7 hs) ?_
    refine tw_ishr rfl ?_
    refine tw_if_ne rfl (fun q7 => ?_) (fun q7 => ?_)
    · try dsimp only [tvI_i, tvJ_j, tvR_r] at q7
      have q7i := zneq (Y := 0) (by decide) q7
      refine tw_push rfl ?_
      have hz := fun z => zshr_neg (x := n) (k := tvI (tF h 81 7) &&& 31) z
      exact tw_iret rfl ⟨Or.inr ⟨by omega, rfl⟩, rfl⟩
    · try dsimp only [tvI_i, tvJ_j, tvR_r] at q7
      have q7i := zeqi (Y := 0) (by decide) q7
      refine tw_push rfl ?_
      refine tw_goto rfl ?_
      exact tw_iret rfl ⟨Or.inl ⟨by omega, rfl⟩, rfl⟩
noncomputable def R_steps (h : zH) : Prop := tF h 81 7 = tF h 111 76
noncomputable def R_smonths (h : zH) : Prop := tA h 82 = tA h 167
noncomputable def R_sfirm (h : zH) : Prop := tA h 83 = tA h 168
noncomputable def R_sbehind (h : zH) : Prop := tA h 84 = tA h 169
noncomputable def R_scoins (h : zH) : Prop := tA h 85 = tA h 170
theorem f_isWithin {G : zG} (hG : G.1 = zProg) {h : zH} {n lo hi : Int32} {LO HI : Int} (hlo : lo.toInt = LO) (hhi : hi.toInt = HI) : tC zTt G 158 [.int n, .int lo, .int hi] h (fun w h2 => tBo (LO ≤ n.toInt ∧ n.toInt ≤ HI) w ∧ h2 = h) := by
  refine tC_in (by rw [hG]; rfl) (fun dp => ?_)
  refine tw_iload rfl rfl ?_
  refine tw_iload rfl rfl ?_
  refine tw_ic_lt rfl (fun q8 => ?_) (fun q8 => ?_)
  · try dsimp only [tvI_i, tvJ_j, tvR_r] at q8
    refine tw_push rfl ?_
    exact tw_iret rfl ⟨Or.inr ⟨by omega, rfl⟩, rfl⟩
  · try dsimp only [tvI_i, tvJ_j, tvR_r] at q8
    refine tw_iload rfl rfl ?_
    refine tw_iload rfl rfl ?_
    refine tw_ic_gt rfl (fun q9 => ?_) (fun q9 => ?_)
    · try dsimp only [tvI_i, tvJ_j, tvR_r] at q9
      refine tw_push rfl ?_
      exact tw_iret rfl ⟨Or.inr ⟨by omega, rfl⟩, rfl⟩
    · try dsimp only [tvI_i, tvJ_j, tvR_r] at q9
      refine tw_push rfl ?_
      refine tw_goto rfl ?_
      exact tw_iret rfl ⟨Or.inl ⟨by omega, rfl⟩, rfl⟩
theorem f_isFirm {G : zG} (hG : G.1 = zProg) {h : zH} {n : Int32} : tC zTt G 160 [.int n] h (fun w h2 => tBo (0 ≤ n.toInt ∧ n.toInt ≤ 3) w ∧ h2 = h) := by
  refine tC_in (by rw [hG]; rfl) (fun dp => ?_)
  refine tw_iload rfl rfl ?_
  refine tw_push rfl ?_
  refine tw_push rfl ?_
  refine tw_stat3 rfl (f_isWithin hG (LO := 0) (HI := 3) (by decide) (by decide)) (fun w9 h9 p10 => ?_)
  obtain ⟨⟨p10, rfl⟩ | ⟨p10, rfl⟩, rfl⟩ := p10
  · try dsimp only [tvI_i, tvJ_j, tvR_r] at p10
    exact tw_iret rfl ⟨Or.inl ⟨p10, rfl⟩, rfl⟩
  · try dsimp only [tvI_i, tvJ_j, tvR_r] at p10
    exact tw_iret rfl ⟨Or.inr ⟨p10, rfl⟩, rfl⟩
theorem wret1 {h : zH} {p b : Nat} (k : tF h p b = .int (tvI (tF h p b))) : some (Value.int (tvI (tF h p b) + 1 - 1)) = some (tF h p b) := by rw [zi1]; exact congrArg some k.symm
theorem f_addStep {G : zG} (hG : G.1 = zProg) {h : zH} {m : Int32} {f : Int32} {y : Int32} {c : Int32} (hs : tSh h) (hk0 : 0 ≤ (tvI (tF h 81 7)).toInt) : tC zTt G 47 [.ref 81, .int m, .int f, .int y, .int c] h (phA 81 7 ((tvI (tF h 81 7)).toInt ≠ 24) [(82, m), (83, f), (84, y), (85, c)] h) := by
  refine tC_in (by rw [hG]; rfl) (fun dp => ?_)
  refine tw_aload rfl rfl ?_
  refine tw_getS rfl (hi_81_7 hs) ?_
  refine tw_push rfl ?_
  refine tw_ic_ne rfl (fun q11 => ?_) (fun q11 => ?_)
  · try dsimp only [tvI_i, tvJ_j, tvR_r] at q11
    have q11i := zneq (Y := 24) (by decide) q11
    refine tw_aload rfl rfl ?_
    refine tw_getS rfl (hs_81_0 hs) ?_
    refine tw_aload rfl rfl ?_
    refine tw_getS rfl (hi_81_7 hs) ?_
    refine tw_iload rfl rfl ?_
    refine tw_iast rfl (fun f12 => ?_)
    refine tw_aload rfl rfl ?_
    refine tw_getS rfl (hs_81_1 (tSh_SA hs)) ?_
    refine tw_aload rfl rfl ?_
    refine tw_getS rfl (tF_a (hi_81_7 hs)) ?_
    refine tw_iload rfl rfl ?_
    refine tw_iast rfl (fun f13 => ?_)
    refine tw_aload rfl rfl ?_
    refine tw_getS rfl (hs_81_2 (tSh_SA (tSh_SA hs))) ?_
    refine tw_aload rfl rfl ?_
    refine tw_getS rfl (tF_a (tF_a (hi_81_7 hs))) ?_
    refine tw_iload rfl rfl ?_
    refine tw_iast rfl (fun f14 => ?_)
    refine tw_aload rfl rfl ?_
    refine tw_getS rfl (hs_81_3 (tSh_SA (tSh_SA (tSh_SA hs)))) ?_
    refine tw_aload rfl rfl ?_
    refine tw_getS rfl (tF_a (tF_a (tF_a (hi_81_7 hs)))) ?_
    refine tw_iload rfl rfl ?_
    refine tw_iast rfl (fun f15 => ?_)
    refine tw_aload rfl rfl ?_
    refine tw_getS rfl (hs_81_4 (tSh_SA (tSh_SA (tSh_SA (tSh_SA hs))))) ?_
    refine tw_aload rfl rfl ?_
    refine tw_getS rfl (tF_a (tF_a (tF_a (tF_a (hi_81_7 hs))))) ?_
    refine tw_aload rfl rfl ?_
    refine tw_aload rfl rfl ?_
    refine tw_getS rfl (tF_a (tF_a (tF_a (tF_a (hi_81_7 hs))))) ?_
    refine tw_aload rfl rfl ?_
    refine tw_getS rfl (hs_81_5 (tSh_SA (tSh_SA (tSh_SA (tSh_SA hs))))) ?_
    refine tw_virt2 rfl (f_beginOf hG (tSh_SA (tSh_SA (tSh_SA (tSh_SA hs)))) hk0) (fun w9 h9 p16 => ?_)
    obtain ⟨rfl, rfl⟩ := p16
    refine tw_iast rfl (fun f17 => ?_)
    refine tw_aload rfl rfl ?_
    refine tw_getS rfl (hs_81_5 (tSh_SA (tSh_SA (tSh_SA (tSh_SA (tSh_SA hs)))))) ?_
    refine tw_aload rfl rfl ?_
    refine tw_getS rfl (tF_a (tF_a (tF_a (tF_a (tF_a (hi_81_7 hs)))))) ?_
    refine tw_aload rfl rfl ?_
    refine tw_getS rfl (hs_81_4 (tSh_SA (tSh_SA (tSh_SA (tSh_SA (tSh_SA hs)))))) ?_
    refine tw_aload rfl rfl ?_
    refine tw_getS rfl (tF_a (tF_a (tF_a (tF_a (tF_a (hi_81_7 hs)))))) ?_
    refine tw_iald rfl (fun f18 => ?_)
    refine tw_iload rfl rfl ?_
    refine tw_iadd rfl ?_
    refine tw_iast rfl (fun f19 => ?_)
    refine tw_aload rfl rfl ?_
    refine tw_dup rfl ?_
    refine tw_getS rfl (tF_a (tF_a (tF_a (tF_a (tF_a (tF_a (hi_81_7 hs))))))) ?_
    refine tw_dup_x1 rfl ?_
    refine tw_push rfl ?_
    refine tw_iadd rfl ?_
    refine tw_put rfl (fun f20 => ?_)
    exact tw_iret rfl (Or.inl ⟨by omega, congrArg some (hi_81_7 hs).symm, (tF_same f20), (fun q hq => by rcases List.mem_cons.mp hq with rfl | hq; (show tA _ 82 = _; exact (tA_ff (tA_n (by decide) (tA_n (by decide) (tA_n (by decide) (tA_n (by decide) (tA_n (by decide) (tA_st f12 rfl)))))))); rcases List.mem_cons.mp hq with rfl | hq; (show tA _ 83 = _; exact (tA_ff (tA_n (by decide) (tA_n (by decide) (tA_n (by decide) (tA_n (by decide) (tA_st f13 (tA_n (by decide) rfl)))))))); rcases List.mem_cons.mp hq with rfl | hq; (show tA _ 84 = _; exact (tA_ff (tA_n (by decide) (tA_n (by decide) (tA_n (by decide) (tA_st f14 (tA_n (by decide) (tA_n (by decide) rfl)))))))); rcases List.mem_cons.mp hq with rfl | hq; (show tA _ 85 = _; exact (tA_ff (tA_n (by decide) (tA_n (by decide) (tA_st f15 (tA_n (by decide) (tA_n (by decide) (tA_n (by decide) rfl)))))))); cases hq)⟩)
  · try dsimp only [tvI_i, tvJ_j, tvR_r] at q11
    have q11i := zeqi (Y := 24) (by decide) q11
    refine tw_push rfl ?_
    exact tw_iret rfl (Or.inr ⟨by omega, rfl, rfl, fun _ _ => rfl⟩)
theorem f_step {G : zG} (hG : G.1 = zProg) {h : zH} {m : Int32} {f : Int32} {y : Int32} {c : Int32} (hs : tSh h) (hk0 : 0 ≤ (tvI (tF h 81 7)).toInt) : tC zTt G 141 [.ref 0, .int m, .int f, .int y, .int c] h (phA 81 7 (((0 ≤ m.toInt ∧ m.toInt ≤ 99) ∧ (-1 ≤ f.toInt ∧ f.toInt ≤ 3) ∧ (y >>> (tvI (tF h 81 7) &&& 31)).toInt = 0 ∧ (0 ≤ c.toInt ∧ c.toInt ≤ 9999)) ∧ (tvI (tF h 81 7)).toInt ≠ 24) [(82, m), (83, f), (84, y), (85, c)] h) := by
  refine tC_in (by rw [hG]; rfl) (fun dp => ?_)
  refine tw_iload rfl rfl ?_
  refine tw_push rfl ?_
  refine tw_push rfl ?_
  refine tw_stat3 rfl (f_isWithin hG (LO := 0) (HI := 99) (by decide) (by decide)) (fun w9 h9 p21 => ?_)
  obtain ⟨⟨p21, rfl⟩ | ⟨p21, rfl⟩, rfl⟩ := p21
  · try dsimp only [tvI_i, tvJ_j, tvR_r] at p21
    refine tw_if_eq rfl (fun z => absurd z (by decide)) (fun _ => ?_)
    refine tw_iload rfl rfl ?_
    refine tw_push rfl ?_
    refine tw_ic_eq rfl (fun q22 => ?_) (fun q22 => ?_)
    · try dsimp only [tvI_i, tvJ_j, tvR_r] at q22
      have q22i := zeqi (Y := (-1)) (by decide) q22
      refine tw_aload rfl rfl ?_
      refine tw_getS rfl (hs_0_7 hs) ?_
      refine tw_iload rfl rfl ?_
      refine tw_virt1 rfl (f_hasSteps hG hs) (fun w9 h9 p23 => ?_)
      obtain ⟨⟨p23, rfl⟩ | ⟨p23, rfl⟩, rfl⟩ := p23
      · try dsimp only [tvI_i, tvJ_j, tvR_r] at p23
        refine tw_if_eq rfl (fun z => absurd z (by decide)) (fun _ => ?_)
        refine tw_iload rfl rfl ?_
        refine tw_push rfl ?_
        refine tw_push rfl ?_
        refine tw_stat3 rfl (f_isWithin hG (LO := 0) (HI := 9999) (by decide) (by decide)) (fun w9 h9 p24 => ?_)
        obtain ⟨⟨p24, rfl⟩ | ⟨p24, rfl⟩, rfl⟩ := p24
        · try dsimp only [tvI_i, tvJ_j, tvR_r] at p24
          refine tw_if_eq rfl (fun z => absurd z (by decide)) (fun _ => ?_)
          refine tw_push rfl ?_
          refine tw_goto rfl ?_
          refine tw_istore rfl ?_
          refine tw_iload rfl rfl ?_
          refine tw_if_eq rfl (fun z => absurd z (by decide)) (fun _ => ?_)
          refine tw_aload rfl rfl ?_
          refine tw_getS rfl (hs_0_7 hs) ?_
          refine tw_iload rfl rfl ?_
          refine tw_iload rfl rfl ?_
          refine tw_iload rfl rfl ?_
          refine tw_iload rfl rfl ?_
          refine tw_virt4 rfl (f_addStep hG  hs hk0) (fun w9 h9 p25 => ?_)
          rcases p25 with ⟨p25, rfl, p25e, p25g⟩ | ⟨p25, rfl, p25e, p25g⟩
          · refine tw_goto rfl ?_
            exact tw_iret rfl (Or.inl ⟨by omega, congrArg some (hi_81_7 hs).symm, p25e, p25g⟩)
          · refine tw_goto rfl ?_
            exact tw_iret rfl (Or.inr ⟨by omega, rfl, p25e, p25g⟩)
        · try dsimp only [tvI_i, tvJ_j, tvR_r] at p24
          refine tw_if_eq rfl (fun _ => ?_) (fun z => absurd z (by decide))
          refine tw_push rfl ?_
          refine tw_istore rfl ?_
          refine tw_iload rfl rfl ?_
          refine tw_if_eq rfl (fun _ => ?_) (fun z => absurd z (by decide))
          refine tw_push rfl ?_
          exact tw_iret rfl (Or.inr ⟨by omega, rfl, rfl, fun _ _ => rfl⟩)
      · try dsimp only [tvI_i, tvJ_j, tvR_r] at p23
        refine tw_if_eq rfl (fun _ => ?_) (fun z => absurd z (by decide))
        refine tw_push rfl ?_
        refine tw_istore rfl ?_
        refine tw_iload rfl rfl ?_
        refine tw_if_eq rfl (fun _ => ?_) (fun z => absurd z (by decide))
        refine tw_push rfl ?_
        exact tw_iret rfl (Or.inr ⟨by omega, rfl, rfl, fun _ _ => rfl⟩)
    · try dsimp only [tvI_i, tvJ_j, tvR_r] at q22
      have q22i := zneq (Y := (-1)) (by decide) q22
      refine tw_iload rfl rfl ?_
      refine tw_stat1 rfl (f_isFirm hG) (fun w9 h9 p26 => ?_)
      obtain ⟨⟨p26, rfl⟩ | ⟨p26, rfl⟩, rfl⟩ := p26
      · try dsimp only [tvI_i, tvJ_j, tvR_r] at p26
        refine tw_if_eq rfl (fun z => absurd z (by decide)) (fun _ => ?_)
        refine tw_aload rfl rfl ?_
        refine tw_getS rfl (hs_0_7 hs) ?_
        refine tw_iload rfl rfl ?_
        refine tw_virt1 rfl (f_hasSteps hG hs) (fun w9 h9 p27 => ?_)
        obtain ⟨⟨p27, rfl⟩ | ⟨p27, rfl⟩, rfl⟩ := p27
        · try dsimp only [tvI_i, tvJ_j, tvR_r] at p27
          refine tw_if_eq rfl (fun z => absurd z (by decide)) (fun _ => ?_)
          refine tw_iload rfl rfl ?_
          refine tw_push rfl ?_
          refine tw_push rfl ?_
          refine tw_stat3 rfl (f_isWithin hG (LO := 0) (HI := 9999) (by decide) (by decide)) (fun w9 h9 p28 => ?_)
          obtain ⟨⟨p28, rfl⟩ | ⟨p28, rfl⟩, rfl⟩ := p28
          · try dsimp only [tvI_i, tvJ_j, tvR_r] at p28
            refine tw_if_eq rfl (fun z => absurd z (by decide)) (fun _ => ?_)
            refine tw_push rfl ?_
            refine tw_goto rfl ?_
            refine tw_istore rfl ?_
            refine tw_iload rfl rfl ?_
            refine tw_if_eq rfl (fun z => absurd z (by decide)) (fun _ => ?_)
            refine tw_aload rfl rfl ?_
            refine tw_getS rfl (hs_0_7 hs) ?_
            refine tw_iload rfl rfl ?_
            refine tw_iload rfl rfl ?_
            refine tw_iload rfl rfl ?_
            refine tw_iload rfl rfl ?_
            refine tw_virt4 rfl (f_addStep hG  hs hk0) (fun w9 h9 p29 => ?_)
            rcases p29 with ⟨p29, rfl, p29e, p29g⟩ | ⟨p29, rfl, p29e, p29g⟩
            · refine tw_goto rfl ?_
              exact tw_iret rfl (Or.inl ⟨by omega, congrArg some (hi_81_7 hs).symm, p29e, p29g⟩)
            · refine tw_goto rfl ?_
              exact tw_iret rfl (Or.inr ⟨by omega, rfl, p29e, p29g⟩)
          · try dsimp only [tvI_i, tvJ_j, tvR_r] at p28
            refine tw_if_eq rfl (fun _ => ?_) (fun z => absurd z (by decide))
            refine tw_push rfl ?_
            refine tw_istore rfl ?_
            refine tw_iload rfl rfl ?_
            refine tw_if_eq rfl (fun _ => ?_) (fun z => absurd z (by decide))
            refine tw_push rfl ?_
            exact tw_iret rfl (Or.inr ⟨by omega, rfl, rfl, fun _ _ => rfl⟩)
        · try dsimp only [tvI_i, tvJ_j, tvR_r] at p27
          refine tw_if_eq rfl (fun _ => ?_) (fun z => absurd z (by decide))
          refine tw_push rfl ?_
          refine tw_istore rfl ?_
          refine tw_iload rfl rfl ?_
          refine tw_if_eq rfl (fun _ => ?_) (fun z => absurd z (by decide))
          refine tw_push rfl ?_
          exact tw_iret rfl (Or.inr ⟨by omega, rfl, rfl, fun _ _ => rfl⟩)
      · try dsimp only [tvI_i, tvJ_j, tvR_r] at p26
        refine tw_if_eq rfl (fun _ => ?_) (fun z => absurd z (by decide))
        refine tw_push rfl ?_
        refine tw_istore rfl ?_
        refine tw_iload rfl rfl ?_
        refine tw_if_eq rfl (fun _ => ?_) (fun z => absurd z (by decide))
        refine tw_push rfl ?_
        exact tw_iret rfl (Or.inr ⟨by omega, rfl, rfl, fun _ _ => rfl⟩)
  · try dsimp only [tvI_i, tvJ_j, tvR_r] at p21
    refine tw_if_eq rfl (fun _ => ?_) (fun z => absurd z (by decide))
    refine tw_push rfl ?_
    refine tw_istore rfl ?_
    refine tw_iload rfl rfl ?_
    refine tw_if_eq rfl (fun _ => ?_) (fun z => absurd z (by decide))
    refine tw_push rfl ?_
    exact tw_iret rfl (Or.inr ⟨by omega, rfl, rfl, fun _ _ => rfl⟩)
theorem f_in {G : zG} (hG : G.1 = zProg) {h : zH} {x lo hi : Int64} {X LO HI : Int} (hx : x.toInt = X) (hlo : lo.toInt = LO) (hhi : hi.toInt = HI) : tC zTt G 171 [.long x, .long lo, .long hi] h (fun w h2 => tBo (LO ≤ X ∧ X ≤ HI) w ∧ h2 = h) := by
  refine tC_in (by rw [hG]; rfl) (fun dp => ?_)
  refine tw_lload rfl rfl ?_
  refine tw_lload rfl rfl ?_
  refine tw_lc_lt rfl rfl (fun q30 => ?_) (fun q30 => ?_)
  · try dsimp only [tvI_i, tvJ_j, tvR_r] at q30
    refine tw_push rfl ?_
    exact tw_iret rfl ⟨Or.inr ⟨by omega, rfl⟩, rfl⟩
  · try dsimp only [tvI_i, tvJ_j, tvR_r] at q30
    refine tw_lload rfl rfl ?_
    refine tw_lload rfl rfl ?_
    refine tw_lc_gt rfl rfl (fun q31 => ?_) (fun q31 => ?_)
    · try dsimp only [tvI_i, tvJ_j, tvR_r] at q31
      refine tw_push rfl ?_
      exact tw_iret rfl ⟨Or.inr ⟨by omega, rfl⟩, rfl⟩
    · try dsimp only [tvI_i, tvJ_j, tvR_r] at q31
      refine tw_push rfl ?_
      refine tw_goto rfl ?_
      exact tw_iret rfl ⟨Or.inl ⟨by omega, rfl⟩, rfl⟩
theorem g_step {G : zG} (hG : G.1 = zProg) {h : zH} {m : Int32} {f : Int32} {y : Int32} {c : Int32} (hs : tSh h)  : tC zTt G 257 [.ref 111, .int m, .int f, .int y, .int c] h (phA 111 76 (((0 ≤ m.toInt ∧ m.toInt ≤ 99) ∧ (-1 ≤ f.toInt ∧ f.toInt ≤ 3) ∧ (y >>> (tvI (tF h 111 76) &&& 31)).toInt = 0 ∧ (0 ≤ c.toInt ∧ c.toInt ≤ 9999)) ∧ (tvI (tF h 111 76)).toInt ≠ 24) [(167, m), (168, f), (169, y), (170, c)] h) := by
  refine tC_in (by rw [hG]; rfl) (fun dp => ?_)
  refine tw_aload rfl rfl ?_
  refine tw_getS rfl (hi_111_76 hs) ?_
  refine tw_push rfl ?_
  refine tw_ic_eq rfl (fun q32 => ?_) (fun q32 => ?_)
  · try dsimp only [tvI_i, tvJ_j, tvR_r] at q32
    have q32i := zeqi (Y := 24) (by decide) q32
    refine tw_push rfl ?_
    exact tw_iret rfl (Or.inr ⟨by omega, rfl, rfl, fun _ _ => rfl⟩)
  · try dsimp only [tvI_i, tvJ_j, tvR_r] at q32
    have q32i := zneq (Y := 24) (by decide) q32
    refine tw_iload rfl rfl ?_
    refine tw_i2l rfl ?_
    refine tw_push rfl ?_
    refine tw_push rfl ?_
    refine tw_stat3 rfl (f_in hG  (LO := 0) (HI := 99) (Int32.toInt_toInt64 _) (by decide) (by decide)) (fun w9 h9 p33 => ?_)
    obtain ⟨⟨p33, rfl⟩ | ⟨p33, rfl⟩, rfl⟩ := p33
    · try dsimp only [tvI_i, tvJ_j, tvR_r] at p33
      refine tw_if_eq rfl (fun z => absurd z (by decide)) (fun _ => ?_)
      refine tw_iload rfl rfl ?_
      refine tw_i2l rfl ?_
      refine tw_push rfl ?_
      refine tw_push rfl ?_
      refine tw_stat3 rfl (f_in hG  (LO := (-1)) (HI := 3) (Int32.toInt_toInt64 _) (by decide) (by decide)) (fun w9 h9 p34 => ?_)
      obtain ⟨⟨p34, rfl⟩ | ⟨p34, rfl⟩, rfl⟩ := p34
      · try dsimp only [tvI_i, tvJ_j, tvR_r] at p34
        refine tw_if_eq rfl (fun z => absurd z (by decide)) (fun _ => ?_)
        refine tw_iload rfl rfl ?_
        refine tw_aload rfl rfl ?_
        refine tw_getS rfl (hi_111_76 hs) ?_
        refine tw_ishr rfl ?_
        refine tw_if_ne rfl (fun q35 => ?_) (fun q35 => ?_)
        · try dsimp only [tvI_i, tvJ_j, tvR_r] at q35
          have q35i := zneq (Y := 0) (by decide) q35
          refine tw_push rfl ?_
          exact tw_iret rfl (Or.inr ⟨by omega, rfl, rfl, fun _ _ => rfl⟩)
        · try dsimp only [tvI_i, tvJ_j, tvR_r] at q35
          have q35i := zeqi (Y := 0) (by decide) q35
          refine tw_iload rfl rfl ?_
          refine tw_i2l rfl ?_
          refine tw_push rfl ?_
          refine tw_push rfl ?_
          refine tw_stat3 rfl (f_in hG  (LO := 0) (HI := 9999) (Int32.toInt_toInt64 _) (by decide) (by decide)) (fun w9 h9 p36 => ?_)
          obtain ⟨⟨p36, rfl⟩ | ⟨p36, rfl⟩, rfl⟩ := p36
          · try dsimp only [tvI_i, tvJ_j, tvR_r] at p36
            refine tw_if_ne rfl (fun _ => ?_) (fun z => absurd z (by decide))
            refine tw_aload rfl rfl ?_
            refine tw_getS rfl (hs_111_77 hs) ?_
            refine tw_aload rfl rfl ?_
            refine tw_getS rfl (hi_111_76 hs) ?_
            refine tw_iload rfl rfl ?_
            refine tw_iast rfl (fun f37 => ?_)
            refine tw_aload rfl rfl ?_
            refine tw_getS rfl (hs_111_78 (tSh_SA hs)) ?_
            refine tw_aload rfl rfl ?_
            refine tw_getS rfl (tF_a (hi_111_76 hs)) ?_
            refine tw_iload rfl rfl ?_
            refine tw_iast rfl (fun f38 => ?_)
            refine tw_aload rfl rfl ?_
            refine tw_getS rfl (hs_111_79 (tSh_SA (tSh_SA hs))) ?_
            refine tw_aload rfl rfl ?_
            refine tw_getS rfl (tF_a (tF_a (hi_111_76 hs))) ?_
            refine tw_iload rfl rfl ?_
            refine tw_iast rfl (fun f39 => ?_)
            refine tw_aload rfl rfl ?_
            refine tw_getS rfl (hs_111_80 (tSh_SA (tSh_SA (tSh_SA hs)))) ?_
            refine tw_aload rfl rfl ?_
            refine tw_getS rfl (tF_a (tF_a (tF_a (hi_111_76 hs)))) ?_
            refine tw_iload rfl rfl ?_
            refine tw_iast rfl (fun f40 => ?_)
            refine tw_aload rfl rfl ?_
            refine tw_dup rfl ?_
            refine tw_getS rfl (tF_a (tF_a (tF_a (tF_a (hi_111_76 hs))))) ?_
            refine tw_push rfl ?_
            refine tw_iadd rfl ?_
            refine tw_put rfl (fun f41 => ?_)
            refine tw_aload rfl rfl ?_
            refine tw_getS rfl (tF_same f41) ?_
            refine tw_push rfl ?_
            refine tw_isub rfl ?_
            exact tw_iret rfl (Or.inl ⟨by omega, wret1 (hi_111_76 hs), (tF_same f41), (fun q hq => by rcases List.mem_cons.mp hq with rfl | hq; (show tA _ 167 = _; exact (tA_ff (tA_n (by decide) (tA_n (by decide) (tA_n (by decide) (tA_st f37 rfl)))))); rcases List.mem_cons.mp hq with rfl | hq; (show tA _ 168 = _; exact (tA_ff (tA_n (by decide) (tA_n (by decide) (tA_st f38 (tA_n (by decide) rfl)))))); rcases List.mem_cons.mp hq with rfl | hq; (show tA _ 169 = _; exact (tA_ff (tA_n (by decide) (tA_st f39 (tA_n (by decide) (tA_n (by decide) rfl)))))); rcases List.mem_cons.mp hq with rfl | hq; (show tA _ 170 = _; exact (tA_ff (tA_st f40 (tA_n (by decide) (tA_n (by decide) (tA_n (by decide) rfl)))))); cases hq)⟩)
          · try dsimp only [tvI_i, tvJ_j, tvR_r] at p36
            refine tw_if_ne rfl (fun z => absurd z (by decide)) (fun _ => ?_)
            refine tw_push rfl ?_
            exact tw_iret rfl (Or.inr ⟨by omega, rfl, rfl, fun _ _ => rfl⟩)
      · try dsimp only [tvI_i, tvJ_j, tvR_r] at p34
        refine tw_if_eq rfl (fun _ => ?_) (fun z => absurd z (by decide))
        refine tw_push rfl ?_
        exact tw_iret rfl (Or.inr ⟨by omega, rfl, rfl, fun _ _ => rfl⟩)
    · try dsimp only [tvI_i, tvJ_j, tvR_r] at p33
      refine tw_if_eq rfl (fun _ => ?_) (fun z => absurd z (by decide))
      refine tw_push rfl ?_
      exact tw_iret rfl (Or.inr ⟨by omega, rfl, rfl, fun _ _ => rfl⟩)
theorem a_step {m : Int32} {f : Int32} {y : Int32} {c : Int32} {h h2 h3 : zH} {w w2 : Option Value}  (hR : R_steps h) (e1 : tF h2 111 76 = tF h 111 76) (e2 : tF h3 81 7 = tF h2 81 7) (h_smonths : R_smonths h) (o_smonths : tA h2 167 = tA h 167) (t_smonths : tA h3 82 = tA h2 82) (h_sfirm : R_sfirm h) (o_sfirm : tA h2 168 = tA h 168) (t_sfirm : tA h3 83 = tA h2 83) (h_sbehind : R_sbehind h) (o_sbehind : tA h2 169 = tA h 169) (t_sbehind : tA h3 84 = tA h2 84) (h_scoins : R_scoins h) (o_scoins : tA h2 170 = tA h 170) (t_scoins : tA h3 85 = tA h2 85) (k1 : phA 81 7 (((0 ≤ m.toInt ∧ m.toInt ≤ 99) ∧ (-1 ≤ f.toInt ∧ f.toInt ≤ 3) ∧ (y >>> (tvI (tF h 81 7) &&& 31)).toInt = 0 ∧ (0 ≤ c.toInt ∧ c.toInt ≤ 9999)) ∧ (tvI (tF h 81 7)).toInt ≠ 24) [(82, m), (83, f), (84, y), (85, c)] h w h2) (k2 : phA 111 76 (((0 ≤ m.toInt ∧ m.toInt ≤ 99) ∧ (-1 ≤ f.toInt ∧ f.toInt ≤ 3) ∧ (y >>> (tvI (tF h2 111 76) &&& 31)).toInt = 0 ∧ (0 ≤ c.toInt ∧ c.toInt ≤ 9999)) ∧ (tvI (tF h2 111 76)).toInt ≠ 24) [(167, m), (168, f), (169, y), (170, c)] h2 w2 h3) : w2 = w ∧ R_steps h3 ∧ R_smonths h3 ∧ R_sfirm h3 ∧ R_sbehind h3 ∧ R_scoins h3 := by
  have hC : (((0 ≤ m.toInt ∧ m.toInt ≤ 99) ∧ (-1 ≤ f.toInt ∧ f.toInt ≤ 3) ∧ (y >>> (tvI (tF h 81 7) &&& 31)).toInt = 0 ∧ (0 ≤ c.toInt ∧ c.toInt ≤ 9999)) ∧ (tvI (tF h 81 7)).toInt ≠ 24) ↔ (((0 ≤ m.toInt ∧ m.toInt ≤ 99) ∧ (-1 ≤ f.toInt ∧ f.toInt ≤ 3) ∧ (y >>> (tvI (tF h2 111 76) &&& 31)).toInt = 0 ∧ (0 ≤ c.toInt ∧ c.toInt ≤ 9999)) ∧ (tvI (tF h2 111 76)).toInt ≠ 24) := by
    have hR2 := hR
    unfold R_steps at hR2
    rw [e1, ← hR2]
  obtain ⟨r1, r2, r3⟩ := phA_a hR e1 e2 hC k1 k2
  exact ⟨r1, r2, r3 82 167 m (by simp) (by simp) h_smonths o_smonths t_smonths, r3 83 168 f (by simp) (by simp) h_sfirm o_sfirm t_sfirm, r3 84 169 y (by simp) (by simp) h_sbehind o_sbehind t_sbehind, r3 85 170 c (by simp) (by simp) h_scoins o_scoins t_scoins⟩
theorem tC.and {tt : zT} {G : zG} {j : Nat} {as : List Value} {h : zH} {P Q : zQ} (k1 : tC tt G j as h P) (k2 : tC tt G j as h Q) : tC tt G j as h (fun w h2 => P w h2 ∧ Q w h2) := fun d z => zW_conj tt G d _ _ _ _ _ (k1 d z) (k2 d z)
theorem sBe_u {m : Int32} {e : Nat → Int32} {n : Nat} : sBe m e (n + 1) = if (m >>> (Int32.ofNat n &&& 31)) &&& 1 = 1 then (if sBe m e n < e n then e n else sBe m e n) else sBe m e n := rfl
theorem sBe_congr {m : Int32} {e e2 : Nat → Int32} : ∀ {n : Nat}, (∀ i, i < n → e i = e2 i) → sBe m e n = sBe m e2 n
  | 0, _ => rfl
  | n + 1, hh => by
    have h1 := sBe_congr (m := m) (n := n) (fun i hi => hh i (by omega))
    rw [sBe_u, sBe_u, h1, hh n (by omega)]
theorem sBe_s1 {m X : Int32} {e : Nat → Int32} {n : Nat} (hb : (m >>> (Int32.ofNat n &&& 31)) &&& 1 = 1) (hX : X = sBe m e n) (hl : X.toInt < (e n).toInt) : e n = sBe m e (n + 1) := by
  rw [sBe_u, if_pos hb, ← hX, if_pos (Int32.lt_iff_toInt_lt.mpr hl)]
theorem sBe_s2 {m X : Int32} {e : Nat → Int32} {n : Nat} (hb : (m >>> (Int32.ofNat n &&& 31)) &&& 1 = 1) (hX : X = sBe m e n) (hl : (e n).toInt ≤ X.toInt) : X = sBe m e (n + 1) := by
  rw [sBe_u, if_pos hb, ← hX, if_neg (fun z => by have := Int32.lt_iff_toInt_lt.mp z; omega)]
theorem sBe_s3 {m X : Int32} {e : Nat → Int32} {n : Nat} (hb : ¬ (m >>> (Int32.ofNat n &&& 31)) &&& 1 = 1) (hX : X = sBe m e n) : X = sBe m e (n + 1) := by
  rw [sBe_u, if_neg hb, ← hX]
/-- two lists of ends that are found alike are alike -/
theorem sUniq {be : Nat → Int32} {l l2 E E2 : Nat → Int32} {n : Nat} (hl : ∀ j, j < n → l j = l2 j) (h1 : ∀ j, j < n → E j = sBe (be j) E j + l j) (h2 : ∀ j, j < n → E2 j = sBe (be j) E2 j + l2 j) : ∀ j, j < n → E j = E2 j := by
  have key : ∀ k, k ≤ n → ∀ j, j < k → E j = E2 j := by
    intro k
    induction k with
    | zero => intro _ j hj; omega
    | succ k ih =>
      intro hk j hj
      by_cases e : j = k
      · subst e
        rw [h1 j (by omega), h2 j (by omega), hl j (by omega), sBe_congr (ih (by omega))]
      · exact ih (by omega) j (by omega)
  exact key n (Nat.le_refl n)
noncomputable def gLen (fi mo : Nat → Int32) (w : Int32) (j : Nat) : Int32 := if fi j = w then 0 else mo j
theorem gLen_y {fi mo : Nat → Int32} {w : Int32} {j : Nat} (h : fi j = w) : (0 : Int32) = gLen fi mo w j := by unfold gLen; rw [if_pos h]
theorem gLen_n {fi mo : Nat → Int32} {w : Int32} {j : Nat} (h : ¬ fi j = w) : mo j = gLen fi mo w j := by unfold gLen; rw [if_neg h]
noncomputable def gEnd (B l : Nat → Int32) : Nat → Int32
  | 0 => 0
  | n + 1 => B n + l n
noncomputable def gP (be l B : Nat → Int32) (k : Nat) : Prop := ∀ j, j < k → B j = sBe (be j) (fun i => B i + l i) j
theorem gP_E {be l B : Nat → Int32} {k : Nat} (h : gP be l B k) : ∀ j, j < k → (fun i => B i + l i) j = sBe (be j) (fun i => B i + l i) j + l j := by
  intro j hj
  show B j + l j = _
  rw [← h j hj]
theorem gP_st {be l B : Nat → Int32} {k m : Nat} {X : Int32} (h : gP be l B k) (hm : m ≤ k) (hX : X = sBe (be k) (fun i => B i + l i) m) : gP be l (fun j => if j = k then X else B j) k ∧ (fun j => if j = k then X else B j) k = sBe (be k) (fun i => (fun j => if j = k then X else B j) i + l i) m := by
  refine ⟨fun j hj => ?_, ?_⟩
  · show (if j = k then X else B j) = sBe _ (fun i => (if i = k then X else B i) + l i) j
    rw [if_neg (by omega), h j hj]
    exact sBe_congr (fun i hi => by
      show _ = (if i = k then X else B i) + l i
      rw [if_neg (by omega)])
  · show (if k = k then X else B k) = sBe _ (fun i => (if i = k then X else B i) + l i) m
    rw [if_pos rfl, hX]
    exact sBe_congr (fun i hi => by
      show _ = (if i = k then _ else B i) + l i
      rw [if_neg (by omega)])
noncomputable def gFr (q : Nat) (h h1 : zH) : Prop := tF h1 = tF h ∧ ∀ p, p ≠ q → tA h1 p = tA h p
theorem gFr_A {q a : Nat} {h h1 : zH} {X : Int32} (k : gFr q h h1) : gFr q h (tSA h1 q a X) := ⟨(tF_tSA _ _ _ _).trans k.1, fun p hp => (tA_nz hp).trans (k.2 p hp)⟩
noncomputable def gIn (h h1 : zH) (w : Int32) (k i : Nat) : Prop := gFr 171 h h1 ∧ gP (tA h 169) (gLen (tA h 168) (tA h 167) w) (tA h1 171) k ∧ tA h1 171 k = sBe (tA h 169 k) (fun j => tA h1 171 j + gLen (tA h 168) (tA h 167) w j) i
noncomputable def gOut (h h1 : zH) (w : Int32) (k : Nat) (e : Int32) : Prop := gFr 171 h h1 ∧ gP (tA h 169) (gLen (tA h 168) (tA h 167) w) (tA h1 171) k ∧ e = gEnd (tA h1 171) (gLen (tA h 168) (tA h 167) w) k
section GG
variable {h h1 : zH} {w x y v X : Int32} {k i kd : Nat} {z : Int32}
theorem g_st (hF : gFr 171 h h1) (hP : gP (tA h 169) (gLen (tA h 168) (tA h 167) w) (tA h1 171) k) (hx : x.toInt = k) (hf : tIn h1 171 kd z) (hi : i ≤ k) (hX : X = sBe (tA h 169 k) (fun j => tA h1 171 j + gLen (tA h 168) (tA h 167) w j) i) : gIn h (tSA h1 171 x.toNatClampNeg X) w k i := by
  have e : tA (tSA h1 171 x.toNatClampNeg X) 171 = fun j => if j = k then X else tA h1 171 j := by
    rw [zof_cl hx]
    exact tA_st hf rfl
  refine ⟨gFr_A hF, ?_⟩
  rw [e]
  exact gP_st hP hi hX
theorem g_len1 (hF : gFr 171 h h1) (hx : x.toInt = k) (q : tA h1 168 x.toNatClampNeg = w) : (0 : Int32) = gLen (tA h 168) (tA h 167) w k := gLen_y (by rw [← hF.2 168 (by decide), ← zof_cl hx]; exact q)
theorem g_len2 (hF : gFr 171 h h1) (hx : x.toInt = k) (q : ¬ tA h1 168 x.toNatClampNeg = w) : tA h1 167 x.toNatClampNeg = gLen (tA h 168) (tA h 167) w k := by
  rw [hF.2 168 (by decide), zof_cl hx] at q
  rw [hF.2 167 (by decide), zof_cl hx]
  exact gLen_n q
theorem gX_a (hI : gIn h h1 w k i) (hx : x.toInt = k) (hy : y.toInt = i) (hv : v = gLen (tA h 168) (tA h 167) w i) (qb : (tA h1 169 x.toNatClampNeg >>> (y &&& 31)) &&& 1 = 1) (ql : (tA h1 171 x.toNatClampNeg).toInt < (tA h1 171 y.toNatClampNeg + v).toInt) : tA h1 171 y.toNatClampNeg + v = sBe (tA h 169 k) (fun j => tA h1 171 j + gLen (tA h 168) (tA h 167) w j) (i + 1) := by
  rw [hI.1.2 169 (by decide), zof_cl hx, zof hy] at qb
  rw [zof_cl hx, zof_cl hy, hv] at ql
  rw [zof_cl hy, hv]
  exact sBe_s1 (e := fun j => tA h1 171 j + gLen (tA h 168) (tA h 167) w j) (n := i) qb hI.2.2 ql
theorem gX_b (hI : gIn h h1 w k i) (hx : x.toInt = k) (hy : y.toInt = i) (hv : v = gLen (tA h 168) (tA h 167) w i) (qb : (tA h1 169 x.toNatClampNeg >>> (y &&& 31)) &&& 1 = 1) (ql : (tA h1 171 y.toNatClampNeg + v).toInt ≤ (tA h1 171 x.toNatClampNeg).toInt) : tA h1 171 x.toNatClampNeg = sBe (tA h 169 k) (fun j => tA h1 171 j + gLen (tA h 168) (tA h 167) w j) (i + 1) := by
  rw [hI.1.2 169 (by decide), zof_cl hx, zof hy] at qb
  rw [zof_cl hx, zof_cl hy, hv] at ql
  rw [zof_cl hx]
  exact sBe_s2 (e := fun j => tA h1 171 j + gLen (tA h 168) (tA h 167) w j) (n := i) qb hI.2.2 ql
theorem gX_c (hI : gIn h h1 w k i) (hx : x.toInt = k) (hy : y.toInt = i) (qb : ¬ (tA h1 169 x.toNatClampNeg >>> (y &&& 31)) &&& 1 = 1) : tA h1 171 x.toNatClampNeg = sBe (tA h 169 k) (fun j => tA h1 171 j + gLen (tA h 168) (tA h 167) w j) (i + 1) := by
  rw [hI.1.2 169 (by decide), zof_cl hx, zof hy] at qb
  rw [zof_cl hx]
  exact sBe_s3 (e := fun j => tA h1 171 j + gLen (tA h 168) (tA h 167) w j) (n := i) qb hI.2.2
theorem g_out (hI : gIn h h1 w k k) (hx : x.toInt = k) (hv : v = gLen (tA h 168) (tA h 167) w k) : gOut h h1 w (k + 1) (tA h1 171 x.toNatClampNeg + v) := by
  refine ⟨hI.1, fun j hj => ?_, ?_⟩
  · by_cases e : j = k
    · rw [e]; exact hI.2.2
    · exact hI.2.1 j (by omega)
  · rw [zof_cl hx, hv]
    rfl
end GG
noncomputable def dIn (h h1 : zH) (w : Int32) (k : Nat) : Prop := gFr 88 h h1 ∧ ∀ j, j < k → tA h1 88 j = sBe (tA h 84 j) (tA h1 88) j + gLen (tA h 83) (tA h 82) w j
theorem d_st {h h1 : zH} {w x v : Int32} {k kd : Nat} {z : Int32} (hD : dIn h h1 w k) (hx : x.toInt = k) (hf : tIn h1 88 kd z) (hv : v = gLen (tA h 83) (tA h 82) w k) : dIn h (tSA h1 88 x.toNatClampNeg (sBe (tA h1 84 x.toNatClampNeg) (tA h1 88) x.toNatClampNeg + v)) w (k + 1) := by
  have e : ∀ X, tA (tSA h1 88 x.toNatClampNeg X) 88 = fun j => if j = k then X else tA h1 88 j := by
    intro X
    rw [zof_cl hx]
    exact tA_st hf rfl
  refine ⟨gFr_A hD.1, fun j hj => ?_⟩
  rw [e, hD.1.2 84 (by decide), zof_cl hx, hv]
  have cg : ∀ m (X : Int32), sBe m (fun i => if i = k then X else tA h1 88 i) j = sBe m (tA h1 88) j := fun m X => sBe_congr (fun i hi => if_neg (by omega))
  rw [cg]
  by_cases q : j = k
  · subst q; exact if_pos rfl
  · show (if j = k then _ else _) = _
    rw [if_neg q]
    exact hD.2 j (by omega)
theorem d_len1 {h h1 : zH} {w x : Int32} {k : Nat} (hF : gFr 88 h h1) (hx : x.toInt = k) (q : tA h1 83 x.toNatClampNeg = w) : (0 : Int32) = gLen (tA h 83) (tA h 82) w k := gLen_y (by rw [← hF.2 83 (by decide), ← zof_cl hx]; exact q)
theorem d_len2 {h h1 : zH} {w x : Int32} {k : Nat} (hF : gFr 88 h h1) (hx : x.toInt = k) (q : ¬ tA h1 83 x.toNatClampNeg = w) : tA h1 82 x.toNatClampNeg = gLen (tA h 83) (tA h 82) w k := by
  rw [hF.2 83 (by decide), zof_cl hx] at q
  rw [hF.2 82 (by decide), zof_cl hx]
  exact gLen_n q
theorem zpredN {x : Int32} (h : 0 < x.toInt) : (x - 1).toNatClampNeg = x.toNatClampNeg - 1 := by
  rw [zclE, zclE, zsub1 (by omega)]
  omega
theorem sbe_add {h : zH} {n : Nat} {m f y c : Int32} {kd : Nat} {i : Int32} (h84 : tIn (tSA (tSA h 82 n m) 83 n f) 84 kd i) : sBe (tA (tSA (tSA (tSA (tSA h 82 n m) 83 n f) 84 n y) 85 n c) 84 n) (tA (tSA (tSA (tSA (tSA h 82 n m) 83 n f) 84 n y) 85 n c) 87) n = sBe y (tA h 87) n := by
  have e1 : tA (tSA (tSA (tSA (tSA h 82 n m) 83 n f) 84 n y) 85 n c) 84 n = y := by
    rw [tA_nz (by decide), tA_tSA h84.cell]
    exact if_pos ⟨rfl, rfl⟩
  have e2 : tA (tSA (tSA (tSA (tSA h 82 n m) 83 n f) 84 n y) 85 n c) 87 = tA h 87 := by
    rw [tA_nz (by decide), tA_nz (by decide), tA_nz (by decide), tA_nz (by decide)]
  rw [e1, e2]
/-- what a change costs -/
noncomputable def sCo (b e c m : Int32) : Int32 := if e.toInt ≤ m.toInt then 9 * c else if b.toInt ≤ m.toInt then 3 * c else c
theorem sCo_1 {b e c m : Int32} (h : e.toInt ≤ m.toInt) : 9 * c = sCo b e c m := by unfold sCo; rw [if_pos h]
theorem sCo_2 {b e c m : Int32} (h : m.toInt < e.toInt) (h2 : b.toInt ≤ m.toInt) : 3 * c = sCo b e c m := by unfold sCo; rw [if_neg (by omega), if_pos h2]
theorem sCo_3 {b e c m : Int32} (h : m.toInt < e.toInt) (h2 : m.toInt < b.toInt) : c = sCo b e c m := by unfold sCo; rw [if_neg (by omega), if_neg (by omega)]
/-- the last month of the first n that costs no more -/
noncomputable def sLm (f : Int32 → Int32) (p : Int32) : Nat → Int32
  | 0 => -1
  | n + 1 => if (f (Int32.ofNat n)).toInt ≤ p.toInt then Int32.ofNat n else sLm f p n
theorem sLm_at {f : Int32 → Int32} {p x : Int32} {k : Nat} (hx : x.toInt = (k : Int) - 1) (h0 : 0 ≤ x.toInt) : sLm f p k = if (f x).toInt ≤ p.toInt then x else sLm f p (k - 1) := by
  obtain ⟨j, rfl⟩ : ∃ j, k = j + 1 := ⟨k - 1, by omega⟩
  have e : x = Int32.ofNat j := zof (by omega)
  rw [e]
  rfl
theorem sLm_y {f : Int32 → Int32} {p x : Int32} {k m : Nat} (hx : x.toInt = (k : Int) - 1) (h0 : 0 ≤ x.toInt) (q : (f x).toInt ≤ p.toInt) (e : sLm f p k = sLm f p m) : x = sLm f p m := by
  rw [← e, sLm_at hx h0, if_pos q]
theorem sLm_n {f : Int32 → Int32} {p x : Int32} {k m : Nat} (hx : x.toInt = (k : Int) - 1) (h0 : 0 ≤ x.toInt) (q : p.toInt < (f x).toInt) (e : sLm f p k = sLm f p m) : sLm f p (k - 1) = sLm f p m := by
  rw [← e, sLm_at hx h0, if_neg (by omega)]
theorem sLm_z {f : Int32 → Int32} {p x : Int32} {k m : Nat} (hx : x.toInt = (k : Int) - 1) (h0 : x.toInt < 0) (e : sLm f p k = sLm f p m) : x = sLm f p m := by
  have hk : k = 0 := by omega
  subst hk
  rw [← e]
  exact Int32.toInt_inj.mp (by rw [hx]; rfl)
theorem zdecI {x : Int32} (h : 0 ≤ x.toInt) : (x + (-1)).toInt = x.toInt - 1 := by
  have := Int32.toInt_lt x
  rw [Int32.toInt_add, show (-1 : Int32).toInt = -1 from rfl]
  exact Int.bmod_eq_of_le (by show (-2147483648 : Int) ≤ x.toInt + -1; omega) (by show x.toInt + -1 < (2147483648 : Int); omega)
noncomputable def R_rend (h : zH) : Prop := ∀ k : Nat, (k : Int) < (tvI (tF h 81 7)).toInt → tA h 86 k = sBe (tA h 84 k) (tA h 87) k ∧ tA h 87 k = tA h 86 k + tA h 82 k
theorem f_addStepR {G : zG} (hG : G.1 = zProg) {h : zH} {m f y c : Int32} (hs : tSh h) (hk0 : 0 ≤ (tvI (tF h 81 7)).toInt) : tC zTt G 47 [.ref 81, .int m, .int f, .int y, .int c] h (fun w h2 => ((tvI (tF h 81 7)).toInt ≠ 24 ∧ (∃ x, w = some (.int x)) ∧ tA h2 86 = (fun j => if j = (tvI (tF h 81 7)).toNatClampNeg then sBe y (tA h 87) (tvI (tF h 81 7)).toNatClampNeg else tA h 86 j) ∧ tA h2 87 = (fun j => if j = (tvI (tF h 81 7)).toNatClampNeg then sBe y (tA h 87) (tvI (tF h 81 7)).toNatClampNeg + m else tA h 87 j)) ∨ (¬ (tvI (tF h 81 7)).toInt ≠ 24 ∧ (∃ x, w = some (.int x)) ∧ tA h2 86 = tA h 86 ∧ tA h2 87 = tA h 87)) := by
  refine tC_in (by rw [hG]; rfl) (fun dp => ?_)
  refine tw_aload rfl rfl ?_
  refine tw_getS rfl (hi_81_7 hs) ?_
  refine tw_push rfl ?_
  refine tw_ic_ne rfl (fun q42 => ?_) (fun q42 => ?_)
  · try dsimp only [tvI_i, tvJ_j, tvR_r] at q42
    have q42i := zneq (Y := 24) (by decide) q42
    refine tw_aload rfl rfl ?_
    refine tw_getS rfl (hs_81_0 hs) ?_
    refine tw_aload rfl rfl ?_
    refine tw_getS rfl (hi_81_7 hs) ?_
    refine tw_iload rfl rfl ?_
    refine tw_iast rfl (fun f43 => ?_)
    refine tw_aload rfl rfl ?_
    refine tw_getS rfl (hs_81_1 (tSh_SA hs)) ?_
    refine tw_aload rfl rfl ?_
    refine tw_getS rfl (tF_a (hi_81_7 hs)) ?_
    refine tw_iload rfl rfl ?_
    refine tw_iast rfl (fun f44 => ?_)
    refine tw_aload rfl rfl ?_
    refine tw_getS rfl (hs_81_2 (tSh_SA (tSh_SA hs))) ?_
    refine tw_aload rfl rfl ?_
    refine tw_getS rfl (tF_a (tF_a (hi_81_7 hs))) ?_
    refine tw_iload rfl rfl ?_
    refine tw_iast rfl (fun f45 => ?_)
    refine tw_aload rfl rfl ?_
    refine tw_getS rfl (hs_81_3 (tSh_SA (tSh_SA (tSh_SA hs)))) ?_
    refine tw_aload rfl rfl ?_
    refine tw_getS rfl (tF_a (tF_a (tF_a (hi_81_7 hs)))) ?_
    refine tw_iload rfl rfl ?_
    refine tw_iast rfl (fun f46 => ?_)
    refine tw_aload rfl rfl ?_
    refine tw_getS rfl (hs_81_4 (tSh_SA (tSh_SA (tSh_SA (tSh_SA hs))))) ?_
    refine tw_aload rfl rfl ?_
    refine tw_getS rfl (tF_a (tF_a (tF_a (tF_a (hi_81_7 hs))))) ?_
    refine tw_aload rfl rfl ?_
    refine tw_aload rfl rfl ?_
    refine tw_getS rfl (tF_a (tF_a (tF_a (tF_a (hi_81_7 hs))))) ?_
    refine tw_aload rfl rfl ?_
    refine tw_getS rfl (hs_81_5 (tSh_SA (tSh_SA (tSh_SA (tSh_SA hs))))) ?_
    refine tw_virt2 rfl (f_beginOf hG (tSh_SA (tSh_SA (tSh_SA (tSh_SA hs)))) hk0) (fun w9 h9 p47 => ?_)
    obtain ⟨rfl, e9⟩ := p47
    obtain rfl := e9.symm
    refine tw_iast rfl (fun f48 => ?_)
    refine tw_aload rfl rfl ?_
    refine tw_getS rfl (hs_81_5 (tSh_SA (tSh_SA (tSh_SA (tSh_SA (tSh_SA hs)))))) ?_
    refine tw_aload rfl rfl ?_
    refine tw_getS rfl (tF_a (tF_a (tF_a (tF_a (tF_a (hi_81_7 hs)))))) ?_
    refine tw_aload rfl rfl ?_
    refine tw_getS rfl (hs_81_4 (tSh_SA (tSh_SA (tSh_SA (tSh_SA (tSh_SA hs)))))) ?_
    refine tw_aload rfl rfl ?_
    refine tw_getS rfl (tF_a (tF_a (tF_a (tF_a (tF_a (hi_81_7 hs)))))) ?_
    refine tw_iald rfl (fun f49 => ?_)
    refine tw_iload rfl rfl ?_
    refine tw_iadd rfl ?_
    refine tw_iast rfl (fun f50 => ?_)
    refine tw_aload rfl rfl ?_
    refine tw_dup rfl ?_
    refine tw_getS rfl (tF_a (tF_a (tF_a (tF_a (tF_a (tF_a (hi_81_7 hs))))))) ?_
    refine tw_dup_x1 rfl ?_
    refine tw_push rfl ?_
    refine tw_iadd rfl ?_
    refine tw_put rfl (fun f51 => ?_)
    exact tw_iret rfl (Or.inl ⟨by omega, ⟨_, rfl⟩, (tA_ff (tA_n (by decide) (tA_st f48 (tA_n (by decide) (tA_n (by decide) (tA_n (by decide) (tA_n (by decide) rfl))))))).trans (congrArg (fun (X : Int32) (j : Nat) => if j = (tvI (tF h 81 7)).toNatClampNeg then X else tA h 86 j) (sbe_add f45)), (tA_ff (tA_st f50 (tA_n (by decide) (tA_n (by decide) (tA_n (by decide) (tA_n (by decide) (tA_n (by decide) rfl))))))).trans (congrArg (fun (X : Int32) (j : Nat) => if j = (tvI (tF h 81 7)).toNatClampNeg then X else tA h 87 j) (congrArg (fun X : Int32 => X + m) (((congrFun (tA_st f48 rfl) _).trans (if_pos rfl)).trans (sbe_add f45))))⟩)
  · try dsimp only [tvI_i, tvJ_j, tvR_r] at q42
    have q42i := zeqi (Y := 24) (by decide) q42
    refine tw_push rfl ?_
    exact tw_iret rfl (Or.inr ⟨by omega, ⟨_, rfl⟩, rfl, rfl⟩)
theorem f_stepR {G : zG} (hG : G.1 = zProg) {h : zH} {m f y c : Int32} (hs : tSh h) (hk0 : 0 ≤ (tvI (tF h 81 7)).toInt) : tC zTt G 141 [.ref 0, .int m, .int f, .int y, .int c] h (fun w h2 => ((((0 ≤ m.toInt ∧ m.toInt ≤ 99) ∧ (-1 ≤ f.toInt ∧ f.toInt ≤ 3) ∧ (y >>> (tvI (tF h 81 7) &&& 31)).toInt = 0 ∧ (0 ≤ c.toInt ∧ c.toInt ≤ 9999)) ∧ (tvI (tF h 81 7)).toInt ≠ 24) ∧ tA h2 86 = (fun j => if j = (tvI (tF h 81 7)).toNatClampNeg then sBe y (tA h 87) (tvI (tF h 81 7)).toNatClampNeg else tA h 86 j) ∧ tA h2 87 = (fun j => if j = (tvI (tF h 81 7)).toNatClampNeg then sBe y (tA h 87) (tvI (tF h 81 7)).toNatClampNeg + m else tA h 87 j)) ∨ (¬ (((0 ≤ m.toInt ∧ m.toInt ≤ 99) ∧ (-1 ≤ f.toInt ∧ f.toInt ≤ 3) ∧ (y >>> (tvI (tF h 81 7) &&& 31)).toInt = 0 ∧ (0 ≤ c.toInt ∧ c.toInt ≤ 9999)) ∧ (tvI (tF h 81 7)).toInt ≠ 24) ∧ tA h2 86 = tA h 86 ∧ tA h2 87 = tA h 87)) := by
  refine tC_in (by rw [hG]; rfl) (fun dp => ?_)
  refine tw_iload rfl rfl ?_
  refine tw_push rfl ?_
  refine tw_push rfl ?_
  refine tw_stat3 rfl (f_isWithin hG (LO := 0) (HI := 99) (by decide) (by decide)) (fun w9 h9 p52 => ?_)
  obtain ⟨⟨p52, rfl⟩ | ⟨p52, rfl⟩, e9⟩ := p52
  · try dsimp only [tvI_i, tvJ_j, tvR_r] at p52
    obtain rfl := e9.symm
    refine tw_if_eq rfl (fun z => absurd z (by decide)) (fun _ => ?_)
    refine tw_iload rfl rfl ?_
    refine tw_push rfl ?_
    refine tw_ic_eq rfl (fun q53 => ?_) (fun q53 => ?_)
    · try dsimp only [tvI_i, tvJ_j, tvR_r] at q53
      have q53i := zeqi (Y := (-1)) (by decide) q53
      refine tw_aload rfl rfl ?_
      refine tw_getS rfl (hs_0_7 hs) ?_
      refine tw_iload rfl rfl ?_
      refine tw_virt1 rfl (f_hasSteps hG hs) (fun w9 h9 p54 => ?_)
      obtain ⟨⟨p54, rfl⟩ | ⟨p54, rfl⟩, e9⟩ := p54
      · try dsimp only [tvI_i, tvJ_j, tvR_r] at p54
        obtain rfl := e9.symm
        refine tw_if_eq rfl (fun z => absurd z (by decide)) (fun _ => ?_)
        refine tw_iload rfl rfl ?_
        refine tw_push rfl ?_
        refine tw_push rfl ?_
        refine tw_stat3 rfl (f_isWithin hG (LO := 0) (HI := 9999) (by decide) (by decide)) (fun w9 h9 p55 => ?_)
        obtain ⟨⟨p55, rfl⟩ | ⟨p55, rfl⟩, e9⟩ := p55
        · try dsimp only [tvI_i, tvJ_j, tvR_r] at p55
          obtain rfl := e9.symm
          refine tw_if_eq rfl (fun z => absurd z (by decide)) (fun _ => ?_)
          refine tw_push rfl ?_
          refine tw_goto rfl ?_
          refine tw_istore rfl ?_
          refine tw_iload rfl rfl ?_
          refine tw_if_eq rfl (fun z => absurd z (by decide)) (fun _ => ?_)
          refine tw_aload rfl rfl ?_
          refine tw_getS rfl (hs_0_7 hs) ?_
          refine tw_iload rfl rfl ?_
          refine tw_iload rfl rfl ?_
          refine tw_iload rfl rfl ?_
          refine tw_iload rfl rfl ?_
          refine tw_virt4 rfl (f_addStepR hG hs hk0) (fun w9 h9 p56 => ?_)
          rcases p56 with ⟨p56, ⟨_, rfl⟩, p56e⟩ | ⟨p56, ⟨_, rfl⟩, p56e⟩
          · refine tw_goto rfl ?_
            exact tw_iret rfl (Or.inl ⟨⟨by omega, p56⟩, p56e⟩)
          · refine tw_goto rfl ?_
            exact tw_iret rfl (Or.inr ⟨fun z => p56 z.2, p56e⟩)
        · try dsimp only [tvI_i, tvJ_j, tvR_r] at p55
          obtain rfl := e9.symm
          refine tw_if_eq rfl (fun _ => ?_) (fun z => absurd z (by decide))
          refine tw_push rfl ?_
          refine tw_istore rfl ?_
          refine tw_iload rfl rfl ?_
          refine tw_if_eq rfl (fun _ => ?_) (fun z => absurd z (by decide))
          refine tw_push rfl ?_
          exact tw_iret rfl (Or.inr ⟨fun z => by omega, rfl, rfl⟩)
      · try dsimp only [tvI_i, tvJ_j, tvR_r] at p54
        obtain rfl := e9.symm
        refine tw_if_eq rfl (fun _ => ?_) (fun z => absurd z (by decide))
        refine tw_push rfl ?_
        refine tw_istore rfl ?_
        refine tw_iload rfl rfl ?_
        refine tw_if_eq rfl (fun _ => ?_) (fun z => absurd z (by decide))
        refine tw_push rfl ?_
        exact tw_iret rfl (Or.inr ⟨fun z => by omega, rfl, rfl⟩)
    · try dsimp only [tvI_i, tvJ_j, tvR_r] at q53
      have q53i := zneq (Y := (-1)) (by decide) q53
      refine tw_iload rfl rfl ?_
      refine tw_stat1 rfl (f_isFirm hG) (fun w9 h9 p57 => ?_)
      obtain ⟨⟨p57, rfl⟩ | ⟨p57, rfl⟩, e9⟩ := p57
      · try dsimp only [tvI_i, tvJ_j, tvR_r] at p57
        obtain rfl := e9.symm
        refine tw_if_eq rfl (fun z => absurd z (by decide)) (fun _ => ?_)
        refine tw_aload rfl rfl ?_
        refine tw_getS rfl (hs_0_7 hs) ?_
        refine tw_iload rfl rfl ?_
        refine tw_virt1 rfl (f_hasSteps hG hs) (fun w9 h9 p58 => ?_)
        obtain ⟨⟨p58, rfl⟩ | ⟨p58, rfl⟩, e9⟩ := p58
        · try dsimp only [tvI_i, tvJ_j, tvR_r] at p58
          obtain rfl := e9.symm
          refine tw_if_eq rfl (fun z => absurd z (by decide)) (fun _ => ?_)
          refine tw_iload rfl rfl ?_
          refine tw_push rfl ?_
          refine tw_push rfl ?_
          refine tw_stat3 rfl (f_isWithin hG (LO := 0) (HI := 9999) (by decide) (by decide)) (fun w9 h9 p59 => ?_)
          obtain ⟨⟨p59, rfl⟩ | ⟨p59, rfl⟩, e9⟩ := p59
          · try dsimp only [tvI_i, tvJ_j, tvR_r] at p59
            obtain rfl := e9.symm
            refine tw_if_eq rfl (fun z => absurd z (by decide)) (fun _ => ?_)
            refine tw_push rfl ?_
            refine tw_goto rfl ?_
            refine tw_istore rfl ?_
            refine tw_iload rfl rfl ?_
            refine tw_if_eq rfl (fun z => absurd z (by decide)) (fun _ => ?_)
            refine tw_aload rfl rfl ?_
            refine tw_getS rfl (hs_0_7 hs) ?_
            refine tw_iload rfl rfl ?_
            refine tw_iload rfl rfl ?_
            refine tw_iload rfl rfl ?_
            refine tw_iload rfl rfl ?_
            refine tw_virt4 rfl (f_addStepR hG hs hk0) (fun w9 h9 p60 => ?_)
            rcases p60 with ⟨p60, ⟨_, rfl⟩, p60e⟩ | ⟨p60, ⟨_, rfl⟩, p60e⟩
            · refine tw_goto rfl ?_
              exact tw_iret rfl (Or.inl ⟨⟨by omega, p60⟩, p60e⟩)
            · refine tw_goto rfl ?_
              exact tw_iret rfl (Or.inr ⟨fun z => p60 z.2, p60e⟩)
          · try dsimp only [tvI_i, tvJ_j, tvR_r] at p59
            obtain rfl := e9.symm
            refine tw_if_eq rfl (fun _ => ?_) (fun z => absurd z (by decide))
            refine tw_push rfl ?_
            refine tw_istore rfl ?_
            refine tw_iload rfl rfl ?_
            refine tw_if_eq rfl (fun _ => ?_) (fun z => absurd z (by decide))
            refine tw_push rfl ?_
            exact tw_iret rfl (Or.inr ⟨fun z => by omega, rfl, rfl⟩)
        · try dsimp only [tvI_i, tvJ_j, tvR_r] at p58
          obtain rfl := e9.symm
          refine tw_if_eq rfl (fun _ => ?_) (fun z => absurd z (by decide))
          refine tw_push rfl ?_
          refine tw_istore rfl ?_
          refine tw_iload rfl rfl ?_
          refine tw_if_eq rfl (fun _ => ?_) (fun z => absurd z (by decide))
          refine tw_push rfl ?_
          exact tw_iret rfl (Or.inr ⟨fun z => by omega, rfl, rfl⟩)
      · try dsimp only [tvI_i, tvJ_j, tvR_r] at p57
        obtain rfl := e9.symm
        refine tw_if_eq rfl (fun _ => ?_) (fun z => absurd z (by decide))
        refine tw_push rfl ?_
        refine tw_istore rfl ?_
        refine tw_iload rfl rfl ?_
        refine tw_if_eq rfl (fun _ => ?_) (fun z => absurd z (by decide))
        refine tw_push rfl ?_
        exact tw_iret rfl (Or.inr ⟨fun z => by omega, rfl, rfl⟩)
  · try dsimp only [tvI_i, tvJ_j, tvR_r] at p52
    obtain rfl := e9.symm
    refine tw_if_eq rfl (fun _ => ?_) (fun z => absurd z (by decide))
    refine tw_push rfl ?_
    refine tw_istore rfl ?_
    refine tw_iload rfl rfl ?_
    refine tw_if_eq rfl (fun _ => ?_) (fun z => absurd z (by decide))
    refine tw_push rfl ?_
    exact tw_iret rfl (Or.inr ⟨fun z => by omega, rfl, rfl⟩)
noncomputable def ph_stR (m f y c : Int32) (h : zH) (w : Option Value) (h2 : zH) : Prop := (fun m f y c h => phA 81 7 (((0 ≤ m.toInt ∧ m.toInt ≤ 99) ∧ (-1 ≤ f.toInt ∧ f.toInt ≤ 3) ∧ (y >>> (tvI (tF h 81 7) &&& 31)).toInt = 0 ∧ (0 ≤ c.toInt ∧ c.toInt ≤ 9999)) ∧ (tvI (tF h 81 7)).toInt ≠ 24) [(82, m), (83, f), (84, y), (85, c)] h) m f y c h w h2 ∧ (((((0 ≤ m.toInt ∧ m.toInt ≤ 99) ∧ (-1 ≤ f.toInt ∧ f.toInt ≤ 3) ∧ (y >>> (tvI (tF h 81 7) &&& 31)).toInt = 0 ∧ (0 ≤ c.toInt ∧ c.toInt ≤ 9999)) ∧ (tvI (tF h 81 7)).toInt ≠ 24) ∧ tA h2 86 = (fun j => if j = (tvI (tF h 81 7)).toNatClampNeg then sBe y (tA h 87) (tvI (tF h 81 7)).toNatClampNeg else tA h 86 j) ∧ tA h2 87 = (fun j => if j = (tvI (tF h 81 7)).toNatClampNeg then sBe y (tA h 87) (tvI (tF h 81 7)).toNatClampNeg + m else tA h 87 j)) ∨ (¬ (((0 ≤ m.toInt ∧ m.toInt ≤ 99) ∧ (-1 ≤ f.toInt ∧ f.toInt ≤ 3) ∧ (y >>> (tvI (tF h 81 7) &&& 31)).toInt = 0 ∧ (0 ≤ c.toInt ∧ c.toInt ≤ 9999)) ∧ (tvI (tF h 81 7)).toInt ≠ 24) ∧ tA h2 86 = tA h 86 ∧ tA h2 87 = tA h 87))
theorem rend_up {n : Nat} {be eb ee mo be2 eb2 ee2 mo2 : Nat → Int32} {y m : Int32} (old : ∀ k, k < n → eb k = sBe (be k) ee k ∧ ee k = eb k + mo k) (h1 : be2 = fun j => if j = n then y else be j) (h2 : mo2 = fun j => if j = n then m else mo j) (h3 : eb2 = fun j => if j = n then sBe y ee n else eb j) (h4 : ee2 = fun j => if j = n then sBe y ee n + m else ee j) : ∀ k, k < n + 1 → eb2 k = sBe (be2 k) ee2 k ∧ ee2 k = eb2 k + mo2 k := by
  intro k hk
  have cg : ∀ z, sBe z ee2 k = sBe z ee k := fun z => sBe_congr (fun i hi => by rw [h4]; exact if_neg (by omega))
  rw [cg, h1, h2, h3, h4]
  dsimp only
  by_cases e : k = n
  · subst e
    rw [if_pos rfl, if_pos rfl, if_pos rfl, if_pos rfl]
    exact ⟨rfl, rfl⟩
  · rw [if_neg e, if_neg e, if_neg e, if_neg e]
    exact old k (by omega)
theorem R_rend_of {h h2 h3 : zH} (hR : R_rend h) (a1 : tF h2 81 7 = tF h 81 7) (a2 : tF h3 81 7 = tF h2 81 7) (b1 : tA h2 86 = tA h 86) (b2 : tA h3 86 = tA h2 86) (c1 : tA h2 84 = tA h 84) (c2 : tA h3 84 = tA h2 84) (d1 : tA h2 87 = tA h 87) (d2 : tA h3 87 = tA h2 87) (e1 : tA h2 82 = tA h 82) (e2 : tA h3 82 = tA h2 82) : R_rend h3 := by
  unfold R_rend
  rw [a2, a1, b2, b1, c2, c1, d2, d1, e2, e1]
  exact hR
theorem a_rend {m f y c : Int32} {h h2 h3 : zH} {w : Option Value} (hR : R_rend h) (hn : 0 ≤ (tvI (tF h 81 7)).toInt ∧ (tvI (tF h 81 7)).toInt ≤ 24) (a2 : tF h3 81 7 = tF h2 81 7) (t1 : tA h3 82 = tA h2 82) (t2 : tA h3 84 = tA h2 84) (t3 : tA h3 86 = tA h2 86) (t4 : tA h3 87 = tA h2 87) (k1 : ph_stR m f y c h w h2) : R_rend h3 := by
  obtain ⟨k1, k2⟩ := k1
  rcases k1 with ⟨c1, -, f1, g1⟩ | ⟨c1, -, f1, g1⟩ <;> rcases k2 with ⟨c2, f2, g2⟩ | ⟨c2, f2, g2⟩
  · intro k hk
    rw [a2, f1] at hk
    have hn1 : (tvI (Value.int (tvI (tF h 81 7) + 1))).toInt = (tvI (tF h 81 7)).toInt + 1 := zincN (n := (tvI (tF h 81 7)).toNatClampNeg) (by rw [zclE]; omega) (by rw [zclE]; omega) |>.trans (by rw [zclE]; omega)
    rw [hn1] at hk
    rw [t1, t2, t3, t4]
    refine rend_up (n := (tvI (tF h 81 7)).toNatClampNeg) (fun i hi => hR i (by rw [zclE] at hi; omega)) (g1 (84, y) (by simp)) (g1 (82, m) (by simp)) f2 g2 k (by rw [zclE]; omega)
  · exact absurd c1 c2
  · exact absurd c2 c1
  · intro k hk
    rw [a2, f1] at hk
    rw [t1, t2, t3, t4, g1 (84, y) (by simp), g1 (82, m) (by simp), f2, g2]
    exact hR k hk
theorem g_goes {G : zG} (hG : G.1 = zProg) {h : zH} {w : Int32} (hs : tSh h) (hn : 0 ≤ (tvI (tF h 111 76)).toInt) : tC zTt G 258 [.ref 111, .int w] h (fun v h2 => ∃ e, v = some (.int e) ∧ gOut h h2 w (tvI (tF h 111 76)).toNatClampNeg e) := by
  refine tC_in (by rw [hG]; rfl) (fun dp => ?_)
  refine tw_push rfl ?_
  refine tw_istore rfl ?_
  refine tw_push rfl ?_
  refine tw_istore rfl ?_
  refine tG_loop (zW_mono zTt G dp) (zW_conj zTt G dp) (V := fun pc L st h9 _ _ => pc = 4 ∧ st = [] ∧ ∃ (h1 : zH) (k : Nat) (x e : Int32) (l4 l5 : Option Value), h1 = h9 ∧ x.toInt = k ∧ (k : Int) ≤ (tvI (tF h 111 76)).toInt ∧ gOut h h1 w k e ∧ L = [some (.ref 111), some (.int w), some (.int e), some (.int x), l4, l5]) ?_ (⟨rfl, rfl, h, 0, 0, 0, _, _, rfl, rfl, hn, ⟨⟨rfl, fun _ _ => rfl⟩, fun j hj => by omega, rfl⟩, rfl⟩)
  rintro _ _ _ _ _ _ ⟨rfl, rfl, h1, k, x, e, l4, l5, rfl, hx, hk, hO, rfl⟩
  have hs1 := tSh_F hO.1.1 hs
  refine tw_iload rfl rfl ?_
  refine tw_aload rfl rfl ?_
  refine tw_getS rfl ((congrFun (congrFun hO.1.1 111) 76).trans (hi_111_76 hs)) ?_
  refine tw_ic_ge rfl (fun q61 => ?_) (fun q61 => ?_)
  · try dsimp only [tvI_i, tvJ_j, tvR_r] at q61
    refine tw_iload rfl rfl ?_
    have hk9 : k = (tvI (tF h 111 76)).toNatClampNeg := by rw [zclE]; omega
    rw [hk9] at hO
    exact tw_iret rfl ⟨_, rfl, hO⟩
  · try dsimp only [tvI_i, tvJ_j, tvR_r] at q61
    refine tw_aload rfl rfl ?_
    refine tw_getS rfl (hs_111_81 hs1) ?_
    refine tw_iload rfl rfl ?_
    refine tw_push rfl ?_
    refine tw_iast rfl (fun f62 => ?_)
    refine tw_push rfl ?_
    refine tw_istore rfl ?_
    refine tG_loop (zW_mono zTt G dp) (zW_conj zTt G dp) (V := fun pc L st h9 _ _ => pc = 22 ∧ st = [] ∧ ∃ (h2 : zH) (i : Nat) (y : Int32) (l5 : Option Value), h2 = h9 ∧ y.toInt = i ∧ i ≤ k ∧ gIn h h2 w k i ∧ L = [some (.ref 111), some (.int w), some (.int e), some (.int x), some (.int y), l5]) ?_ (⟨rfl, rfl, _, 0, 0, _, rfl, rfl, by omega, g_st hO.1 hO.2.1 hx f62 (by omega) rfl, rfl⟩)
    rintro _ _ _ _ _ _ ⟨rfl, rfl, h2, i, y, l6, rfl, hy, hi, hI, rfl⟩
    have hs2 := tSh_F hI.1.1 hs
    refine tw_iload rfl rfl ?_
    refine tw_iload rfl rfl ?_
    refine tw_ic_ge rfl (fun q63 => ?_) (fun q63 => ?_)
    · try dsimp only [tvI_i, tvJ_j, tvR_r] at q63
      refine tw_aload rfl rfl ?_
      refine tw_getS rfl (hs_111_81 hs2) ?_
      refine tw_iload rfl rfl ?_
      refine tw_iald rfl (fun f64 => ?_)
      refine tw_aload rfl rfl ?_
      refine tw_getS rfl (hs_111_78 hs2) ?_
      refine tw_iload rfl rfl ?_
      refine tw_iald rfl (fun f65 => ?_)
      refine tw_iload rfl rfl ?_
      refine tw_ic_ne rfl (fun q66 => ?_) (fun q66 => ?_)
      · try dsimp only [tvI_i, tvJ_j, tvR_r] at q66
        have q66i := zneq rfl q66
        refine tw_aload rfl rfl ?_
        refine tw_getS rfl (hs_111_77 hs2) ?_
        refine tw_iload rfl rfl ?_
        refine tw_iald rfl (fun f67 => ?_)
        refine tw_iadd rfl ?_
        refine tw_istore rfl ?_
        refine tw_iinc rfl rfl ?_
        refine tw_goto rfl ?_
        have hI9 := hI
        rw [show i = k from by omega] at hI9
        exact tG_cut (zW_mono zTt G dp) (Or.inl (Or.inr ⟨rfl, rfl, _, k + 1, x + 1, _, _, _, rfl, zincL hx q61, by omega, g_out hI9 hx (g_len2 hI.1 hx q66), rfl⟩))
      · try dsimp only [tvI_i, tvJ_j, tvR_r] at q66
        have q66i := zeqi rfl q66
        refine tw_push rfl ?_
        refine tw_goto rfl ?_
        refine tw_iadd rfl ?_
        refine tw_istore rfl ?_
        refine tw_iinc rfl rfl ?_
        refine tw_goto rfl ?_
        have hI9 := hI
        rw [show i = k from by omega] at hI9
        exact tG_cut (zW_mono zTt G dp) (Or.inl (Or.inr ⟨rfl, rfl, _, k + 1, x + 1, _, _, _, rfl, zincL hx q61, by omega, g_out hI9 hx (g_len1 hI.1 hx q66), rfl⟩))
    · try dsimp only [tvI_i, tvJ_j, tvR_r] at q63
      refine tw_aload rfl rfl ?_
      refine tw_getS rfl (hs_111_81 hs2) ?_
      refine tw_iload rfl rfl ?_
      refine tw_iald rfl (fun f68 => ?_)
      refine tw_aload rfl rfl ?_
      refine tw_getS rfl (hs_111_78 hs2) ?_
      refine tw_iload rfl rfl ?_
      refine tw_iald rfl (fun f69 => ?_)
      refine tw_iload rfl rfl ?_
      refine tw_ic_ne rfl (fun q70 => ?_) (fun q70 => ?_)
      · try dsimp only [tvI_i, tvJ_j, tvR_r] at q70
        have q70i := zneq rfl q70
        refine tw_aload rfl rfl ?_
        refine tw_getS rfl (hs_111_77 hs2) ?_
        refine tw_iload rfl rfl ?_
        refine tw_iald rfl (fun f71 => ?_)
        refine tw_iadd rfl ?_
        refine tw_istore rfl ?_
        refine tw_aload rfl rfl ?_
        refine tw_getS rfl (hs_111_81 hs2) ?_
        refine tw_iload rfl rfl ?_
        refine tw_aload rfl rfl ?_
        refine tw_getS rfl (hs_111_79 hs2) ?_
        refine tw_iload rfl rfl ?_
        refine tw_iald rfl (fun f72 => ?_)
        refine tw_iload rfl rfl ?_
        refine tw_ishr rfl ?_
        refine tw_push rfl ?_
        refine tw_iand rfl ?_
        refine tw_push rfl ?_
        refine tw_ic_ne rfl (fun q73 => ?_) (fun q73 => ?_)
        · try dsimp only [tvI_i, tvJ_j, tvR_r] at q73
          have q73i := zneq (Y := 1) (by decide) q73
          refine tw_aload rfl rfl ?_
          refine tw_getS rfl (hs_111_81 hs2) ?_
          refine tw_iload rfl rfl ?_
          refine tw_iald rfl (fun f74 => ?_)
          refine tw_iast rfl (fun f75 => ?_)
          refine tw_iinc rfl rfl ?_
          refine tw_goto rfl ?_
          exact tG_cut (zW_mono zTt G dp) (Or.inr ⟨rfl, rfl, _, i + 1, y + 1, _, rfl, zincL hy q63, by omega, g_st hI.1 hI.2.1 hx f75 (by omega) (gX_c hI hx hy q73), rfl⟩)
        · try dsimp only [tvI_i, tvJ_j, tvR_r] at q73
          have q73i := zeqi (Y := 1) (by decide) q73
          refine tw_iload rfl rfl ?_
          refine tw_aload rfl rfl ?_
          refine tw_getS rfl (hs_111_81 hs2) ?_
          refine tw_iload rfl rfl ?_
          refine tw_iald rfl (fun f76 => ?_)
          refine tw_ic_le rfl (fun q77 => ?_) (fun q77 => ?_)
          · try dsimp only [tvI_i, tvJ_j, tvR_r] at q77
            refine tw_aload rfl rfl ?_
            refine tw_getS rfl (hs_111_81 hs2) ?_
            refine tw_iload rfl rfl ?_
            refine tw_iald rfl (fun f78 => ?_)
            refine tw_iast rfl (fun f79 => ?_)
            refine tw_iinc rfl rfl ?_
            refine tw_goto rfl ?_
            exact tG_cut (zW_mono zTt G dp) (Or.inr ⟨rfl, rfl, _, i + 1, y + 1, _, rfl, zincL hy q63, by omega, g_st hI.1 hI.2.1 hx f79 (by omega) (gX_b hI hx hy (g_len2 hI.1 hy q70) q73 q77), rfl⟩)
          · try dsimp only [tvI_i, tvJ_j, tvR_r] at q77
            refine tw_iload rfl rfl ?_
            refine tw_goto rfl ?_
            refine tw_iast rfl (fun f80 => ?_)
            refine tw_iinc rfl rfl ?_
            refine tw_goto rfl ?_
            exact tG_cut (zW_mono zTt G dp) (Or.inr ⟨rfl, rfl, _, i + 1, y + 1, _, rfl, zincL hy q63, by omega, g_st hI.1 hI.2.1 hx f80 (by omega) (gX_a hI hx hy (g_len2 hI.1 hy q70) q73 q77), rfl⟩)
      · try dsimp only [tvI_i, tvJ_j, tvR_r] at q70
        have q70i := zeqi rfl q70
        refine tw_push rfl ?_
        refine tw_goto rfl ?_
        refine tw_iadd rfl ?_
        refine tw_istore rfl ?_
        refine tw_aload rfl rfl ?_
        refine tw_getS rfl (hs_111_81 hs2) ?_
        refine tw_iload rfl rfl ?_
        refine tw_aload rfl rfl ?_
        refine tw_getS rfl (hs_111_79 hs2) ?_
        refine tw_iload rfl rfl ?_
        refine tw_iald rfl (fun f81 => ?_)
        refine tw_iload rfl rfl ?_
        refine tw_ishr rfl ?_
        refine tw_push rfl ?_
        refine tw_iand rfl ?_
        refine tw_push rfl ?_
        refine tw_ic_ne rfl (fun q82 => ?_) (fun q82 => ?_)
        · try dsimp only [tvI_i, tvJ_j, tvR_r] at q82
          have q82i := zneq (Y := 1) (by decide) q82
          refine tw_aload rfl rfl ?_
          refine tw_getS rfl (hs_111_81 hs2) ?_
          refine tw_iload rfl rfl ?_
          refine tw_iald rfl (fun f83 => ?_)
          refine tw_iast rfl (fun f84 => ?_)
          refine tw_iinc rfl rfl ?_
          refine tw_goto rfl ?_
          exact tG_cut (zW_mono zTt G dp) (Or.inr ⟨rfl, rfl, _, i + 1, y + 1, _, rfl, zincL hy q63, by omega, g_st hI.1 hI.2.1 hx f84 (by omega) (gX_c hI hx hy q82), rfl⟩)
        · try dsimp only [tvI_i, tvJ_j, tvR_r] at q82
          have q82i := zeqi (Y := 1) (by decide) q82
          refine tw_iload rfl rfl ?_
          refine tw_aload rfl rfl ?_
          refine tw_getS rfl (hs_111_81 hs2) ?_
          refine tw_iload rfl rfl ?_
          refine tw_iald rfl (fun f85 => ?_)
          refine tw_ic_le rfl (fun q86 => ?_) (fun q86 => ?_)
          · try dsimp only [tvI_i, tvJ_j, tvR_r] at q86
            refine tw_aload rfl rfl ?_
            refine tw_getS rfl (hs_111_81 hs2) ?_
            refine tw_iload rfl rfl ?_
            refine tw_iald rfl (fun f87 => ?_)
            refine tw_iast rfl (fun f88 => ?_)
            refine tw_iinc rfl rfl ?_
            refine tw_goto rfl ?_
            exact tG_cut (zW_mono zTt G dp) (Or.inr ⟨rfl, rfl, _, i + 1, y + 1, _, rfl, zincL hy q63, by omega, g_st hI.1 hI.2.1 hx f88 (by omega) (gX_b hI hx hy (g_len1 hI.1 hy q70) q82 q86), rfl⟩)
          · try dsimp only [tvI_i, tvJ_j, tvR_r] at q86
            refine tw_iload rfl rfl ?_
            refine tw_goto rfl ?_
            refine tw_iast rfl (fun f89 => ?_)
            refine tw_iinc rfl rfl ?_
            refine tw_goto rfl ?_
            exact tG_cut (zW_mono zTt G dp) (Or.inr ⟨rfl, rfl, _, i + 1, y + 1, _, rfl, zincL hy q63, by omega, g_st hI.1 hI.2.1 hx f89 (by omega) (gX_a hI hx hy (g_len1 hI.1 hy q70) q82 q86), rfl⟩)
theorem f_costOf {G : zG} (hG : G.1 = zProg) {h : zH} {s m : Int32} (hs : tSh h) : tC zTt G 52 [.ref 81, .int s, .int m] h (fun w h2 => w = some (.int (sCo (tA h 86 s.toNatClampNeg) (tA h 87 s.toNatClampNeg) (tA h 85 s.toNatClampNeg) m)) ∧ h2 = h) := by
  refine tC_in (by rw [hG]; rfl) (fun dp => ?_)
  refine tw_iload rfl rfl ?_
  refine tw_aload rfl rfl ?_
  refine tw_getS rfl (hs_81_5 hs) ?_
  refine tw_iload rfl rfl ?_
  refine tw_iald rfl (fun f90 => ?_)
  refine tw_ic_lt rfl (fun q91 => ?_) (fun q91 => ?_)
  · try dsimp only [tvI_i, tvJ_j, tvR_r] at q91
    refine tw_iload rfl rfl ?_
    refine tw_aload rfl rfl ?_
    refine tw_getS rfl (hs_81_4 hs) ?_
    refine tw_iload rfl rfl ?_
    refine tw_iald rfl (fun f92 => ?_)
    refine tw_ic_lt rfl (fun q93 => ?_) (fun q93 => ?_)
    · try dsimp only [tvI_i, tvJ_j, tvR_r] at q93
      refine tw_aload rfl rfl ?_
      refine tw_getS rfl (hs_81_3 hs) ?_
      refine tw_iload rfl rfl ?_
      refine tw_iald rfl (fun f94 => ?_)
      exact tw_iret rfl ⟨congrArg (fun z => some (Value.int z)) (sCo_3 q91 q93), rfl⟩
    · try dsimp only [tvI_i, tvJ_j, tvR_r] at q93
      refine tw_push rfl ?_
      refine tw_aload rfl rfl ?_
      refine tw_getS rfl (hs_81_3 hs) ?_
      refine tw_iload rfl rfl ?_
      refine tw_iald rfl (fun f95 => ?_)
      refine tw_imul rfl ?_
      refine tw_goto rfl ?_
      exact tw_iret rfl ⟨congrArg (fun z => some (Value.int z)) (sCo_2 q91 q93), rfl⟩
  · try dsimp only [tvI_i, tvJ_j, tvR_r] at q91
    refine tw_push rfl ?_
    refine tw_aload rfl rfl ?_
    refine tw_getS rfl (hs_81_3 hs) ?_
    refine tw_iload rfl rfl ?_
    refine tw_iald rfl (fun f96 => ?_)
    refine tw_imul rfl ?_
    exact tw_iret rfl ⟨congrArg (fun z => some (Value.int z)) (sCo_1 q91), rfl⟩
theorem g_costs {G : zG} (hG : G.1 = zProg) {h : zH} {s m : Int32} (hs : tSh h) : tC zTt G 262 [.ref 111, .int s, .int m] h (fun w h2 => w = some (.int (sCo (tA h 171 s.toNatClampNeg) (tA h 171 s.toNatClampNeg + tA h 167 s.toNatClampNeg) (tA h 170 s.toNatClampNeg) m)) ∧ h2 = h) := by
  refine tC_in (by rw [hG]; rfl) (fun dp => ?_)
  refine tw_iload rfl rfl ?_
  refine tw_aload rfl rfl ?_
  refine tw_getS rfl (hs_111_81 hs) ?_
  refine tw_iload rfl rfl ?_
  refine tw_iald rfl (fun f97 => ?_)
  refine tw_aload rfl rfl ?_
  refine tw_getS rfl (hs_111_77 hs) ?_
  refine tw_iload rfl rfl ?_
  refine tw_iald rfl (fun f98 => ?_)
  refine tw_iadd rfl ?_
  refine tw_ic_lt rfl (fun q99 => ?_) (fun q99 => ?_)
  · try dsimp only [tvI_i, tvJ_j, tvR_r] at q99
    refine tw_iload rfl rfl ?_
    refine tw_aload rfl rfl ?_
    refine tw_getS rfl (hs_111_81 hs) ?_
    refine tw_iload rfl rfl ?_
    refine tw_iald rfl (fun f100 => ?_)
    refine tw_ic_lt rfl (fun q101 => ?_) (fun q101 => ?_)
    · try dsimp only [tvI_i, tvJ_j, tvR_r] at q101
      refine tw_aload rfl rfl ?_
      refine tw_getS rfl (hs_111_80 hs) ?_
      refine tw_iload rfl rfl ?_
      refine tw_iald rfl (fun f102 => ?_)
      exact tw_iret rfl ⟨congrArg (fun z => some (Value.int z)) (sCo_3 q99 q101), rfl⟩
    · try dsimp only [tvI_i, tvJ_j, tvR_r] at q101
      refine tw_push rfl ?_
      refine tw_aload rfl rfl ?_
      refine tw_getS rfl (hs_111_80 hs) ?_
      refine tw_iload rfl rfl ?_
      refine tw_iald rfl (fun f103 => ?_)
      refine tw_imul rfl ?_
      refine tw_goto rfl ?_
      exact tw_iret rfl ⟨congrArg (fun z => some (Value.int z)) (sCo_2 q99 q101), rfl⟩
  · try dsimp only [tvI_i, tvJ_j, tvR_r] at q99
    refine tw_push rfl ?_
    refine tw_aload rfl rfl ?_
    refine tw_getS rfl (hs_111_80 hs) ?_
    refine tw_iload rfl rfl ?_
    refine tw_iald rfl (fun f104 => ?_)
    refine tw_imul rfl ?_
    refine tw_goto rfl ?_
    exact tw_iret rfl ⟨congrArg (fun z => some (Value.int z)) (sCo_1 q99), rfl⟩
theorem plan_E {h : zH} {n : Nat} {B : Nat → Int32} (hR : R_rend h) (hS : R_steps h) (hM : R_smonths h) (hF : R_sfirm h) (hB : R_sbehind h) (hk : ∀ i, i < 24 → -1 ≤ (tA h 83 i).toInt) (hn : n = (tvI (tF h 81 7)).toNatClampNeg) (hn2 : 0 ≤ (tvI (tF h 81 7)).toInt ∧ (tvI (tF h 81 7)).toInt ≤ 24) (hP : gP (tA h 169) (gLen (tA h 168) (tA h 167) (-2)) B n) : ∀ j, j < n → tA h 86 j = B j ∧ tA h 87 j = B j + tA h 167 j ∧ gLen (tA h 168) (tA h 167) (-2) j = tA h 167 j := by
  unfold R_sfirm at hF
  unfold R_smonths at hM
  unfold R_sbehind at hB
  rw [← hF, ← hM, ← hB] at hP
  have hl : ∀ j, j < n → gLen (tA h 83) (tA h 82) (-2) j = tA h 82 j := by
    intro j hj
    have h1 := hk j (by rw [hn, zclE] at hj; omega)
    refine (gLen_n (fun z => ?_)).symm
    rw [z] at h1
    revert h1
    decide
  have hE : ∀ j, j < n → tA h 87 j = (fun i => B i + gLen (tA h 83) (tA h 82) (-2) i) j := sUniq (be := tA h 84) (l := tA h 82) (l2 := gLen (tA h 83) (tA h 82) (-2)) (fun j hj => (hl j hj).symm) (fun j hj => by
    have := hR j (by rw [hn, zclE] at hj; omega)
    rw [← this.1]
    exact this.2) (gP_E hP)
  intro j hj
  rw [← hM, ← hF]
  have h1 := hR j (by rw [hn, zclE] at hj; omega)
  have e86 : tA h 86 j = B j := by
    rw [h1.1, hP j hj]
    exact sBe_congr (fun i hi => hE i (by omega))
  exact ⟨e86, by rw [h1.2, e86], hl j hj⟩
theorem zaddI {x y : Int32} (h1 : -100000 ≤ x.toInt ∧ x.toInt ≤ 100000) (h2 : -100000 ≤ y.toInt ∧ y.toInt ≤ 100000) : (x + y).toInt = x.toInt + y.toInt := by
  rw [Int32.toInt_add]
  exact Int.bmod_eq_of_le (by show (-2147483648 : Int) ≤ _; omega) (by show _ < (2147483648 : Int); omega)
theorem zsubI {x y : Int32} (h1 : -100000 ≤ x.toInt ∧ x.toInt ≤ 100000) (h2 : -100000 ≤ y.toInt ∧ y.toInt ≤ 100000) : (x - y).toInt = x.toInt - y.toInt := by
  rw [Int32.toInt_sub]
  exact Int.bmod_eq_of_le (by show (-2147483648 : Int) ≤ _; omega) (by show _ < (2147483648 : Int); omega)
theorem zm1 {x : Int32} : x = -1 ↔ x.toInt = -1 := ⟨fun h => by rw [h]; rfl, fun h => Int32.toInt_inj.mp (h.trans rfl)⟩
noncomputable abbrev sBit (m : Int32) (j : Nat) : Prop := (m >>> (Int32.ofNat j &&& 31)) &&& 1 = 1
noncomputable def sUp (b t : Int32) : Int32 := if t = -1 then b else if b < t then b else t
noncomputable def sIn (m b : Int32) (T : Nat → Int32) (i : Nat) : Nat → Int32 := fun j => if j < i ∧ sBit m j then sUp b (T j) else T j
noncomputable def sOut (be mo T0 : Nat → Int32) (last : Nat) : Nat → Nat → Int32
  | 0 => T0
  | d + 1 => if sOut be mo T0 last d (last - d) = -1 then sOut be mo T0 last d else sIn (be (last - d)) (sOut be mo T0 last d (last - d) - mo (last - d)) (sOut be mo T0 last d) (last - d)
noncomputable def sRs (D e : Int32) : Int32 := if D = -1 then -1 else D - e
noncomputable def sMx (be mo A : Nat → Int32) (n i : Nat) : Nat → Int32
  | 0 => if i + 1 = n then 0 else -1
  | k + 1 => if (sBit (be (i + 1 + k)) i ∧ ¬ A (i + 1 + k) = -1) ∧ (sMx be mo A n i k).toInt < (mo (i + 1 + k) + A (i + 1 + k)).toInt then mo (i + 1 + k) + A (i + 1 + k) else sMx be mo A n i k
theorem sIn_0 {m b : Int32} {T : Nat → Int32} : sIn m b T 0 = T := by
  funext j
  exact if_neg (fun z => absurd z.1 (Nat.not_lt_zero _))
theorem sIn_n {m b : Int32} {T : Nat → Int32} {i : Nat} (h : ¬ sBit m i) : sIn m b T (i + 1) = sIn m b T i := by
  funext j
  show (if _ then _ else _) = if _ then _ else _
  by_cases e : j < i ∧ sBit m j
  · rw [if_pos e, if_pos ⟨by omega, e.2⟩]
  · rw [if_neg e, if_neg]
    rintro ⟨z1, z2⟩
    by_cases e2 : j = i
    · subst e2; exact h z2
    · exact e ⟨by omega, z2⟩
theorem sIn_y {m b : Int32} {T : Nat → Int32} {i : Nat} (h : sBit m i) : sIn m b T (i + 1) = fun j => if j = i then sUp b (sIn m b T i i) else sIn m b T i j := by
  funext j
  have e0 : sIn m b T i i = T i := if_neg (fun z => absurd z.1 (Nat.lt_irrefl _))
  rw [e0]
  show (if j < i + 1 ∧ sBit m j then _ else _) = _
  by_cases e : j = i
  · subst e
    rw [if_pos ⟨by omega, h⟩, if_pos rfl]
  · rw [if_neg e]
    show _ = if j < i ∧ sBit m j then _ else _
    by_cases e2 : j < i ∧ sBit m j
    · rw [if_pos e2, if_pos ⟨by omega, e2.2⟩]
    · rw [if_neg e2, if_neg (fun z => e2 ⟨by omega, z.2⟩)]
theorem sIn_ge {m b : Int32} {T : Nat → Int32} {i j : Nat} (h : i ≤ j) : sIn m b T i j = T j := if_neg (fun z => by omega)
/-- what the reference's greatest says -/
theorem sMx_f {be mo A : Nat → Int32} {n i : Nat} (hn : n ≤ 24) (hm : ∀ j, j < n → 0 ≤ (mo j).toInt ∧ (mo j).toInt ≤ 99) (H : ∀ j, i < j → j < n → -1 ≤ (A j).toInt ∧ (A j).toInt ≤ 99 * ((n : Int) - 1 - j)) (hi : i < n) : ∀ k, i + k < n →
    (-1 ≤ (sMx be mo A n i k).toInt ∧ (sMx be mo A n i k).toInt ≤ 99 * ((n : Int) - 1 - i)) ∧ (∀ j, i < j → j < i + 1 + k → sBit (be j) i → (A j).toInt ≠ -1 → (mo j).toInt + (A j).toInt ≤ (sMx be mo A n i k).toInt) ∧ ((sMx be mo A n i k).toInt ≠ -1 → (i + 1 = n ∧ (sMx be mo A n i k).toInt = 0) ∨ ∃ j, i < j ∧ j < i + 1 + k ∧ sBit (be j) i ∧ (A j).toInt ≠ -1 ∧ (sMx be mo A n i k).toInt = (mo j).toInt + (A j).toInt)
  | 0, _ => by
    show (-1 ≤ (if i + 1 = n then (0 : Int32) else -1).toInt ∧ (if i + 1 = n then (0 : Int32) else -1).toInt ≤ _) ∧ _ ∧ ((if i + 1 = n then (0 : Int32) else -1).toInt ≠ -1 → (_ ∧ (if i + 1 = n then (0 : Int32) else -1).toInt = 0) ∨ _)
    have z0 : (0 : Int32).toInt = 0 := rfl
    have z1 : (-1 : Int32).toInt = -1 := rfl
    by_cases e : i + 1 = n
    · rw [if_pos e, z0]
      exact ⟨by omega, fun j _ _ => by omega, fun _ => Or.inl ⟨e, rfl⟩⟩
    · rw [if_neg e, z1]
      exact ⟨by omega, fun j _ _ => by omega, fun z => absurd rfl z⟩
  | k + 1, hk => by
    obtain ⟨a1, a2, a3⟩ := sMx_f (k := k) (be := be) hn hm H hi (by omega)
    have hj := H (i + 1 + k) (by omega) (by omega)
    have hm1 := hm (i + 1 + k) (by omega)
    have ha : (mo (i + 1 + k) + A (i + 1 + k)).toInt = (mo (i + 1 + k)).toInt + (A (i + 1 + k)).toInt := zaddI (by omega) (by omega)
    have hu : sMx be mo A n i (k + 1) = if (sBit (be (i + 1 + k)) i ∧ ¬ A (i + 1 + k) = -1) ∧ (sMx be mo A n i k).toInt < (mo (i + 1 + k) + A (i + 1 + k)).toInt then mo (i + 1 + k) + A (i + 1 + k) else sMx be mo A n i k := rfl
    rw [hu]
    by_cases e : (sBit (be (i + 1 + k)) i ∧ ¬ A (i + 1 + k) = -1) ∧ (sMx be mo A n i k).toInt < (mo (i + 1 + k) + A (i + 1 + k)).toInt
    · rw [if_pos e, ha]
      rw [ha, zm1] at e
      refine ⟨by omega, fun j h1 h2 h3 h4 => ?_, fun _ => Or.inr ⟨i + 1 + k, by omega, by omega, e.1.1, e.1.2, rfl⟩⟩
      by_cases q : j = i + 1 + k
      · subst q; omega
      · have := a2 j h1 (by omega) h3 h4
        omega
    · rw [if_neg e]
      rw [ha, zm1] at e
      refine ⟨a1, fun j h1 h2 h3 h4 => ?_, fun z => (a3 z).imp id (fun ⟨j, b1, b2, b3⟩ => ⟨j, b1, by omega, b3⟩)⟩
      by_cases q : j = i + 1 + k
      · subst q
        rcases Int.lt_or_le (sMx be mo A n i k).toInt ((mo (i + 1 + k)).toInt + (A (i + 1 + k)).toInt) with w | w
        · exact absurd ⟨⟨h3, h4⟩, w⟩ e
        · exact w
      · exact a2 j h1 (by omega) h3 h4
/-- the longest ways from each step to the last one's end -/
noncomputable def sLw (be : Nat → Int32) (mo a : Nat → Int) (n : Nat) : Prop := ∀ i, i < n → (-1 ≤ a i ∧ a i ≤ 99 * ((n : Int) - 1 - i)) ∧ (∀ j, i < j → j < n → sBit (be j) i → a j ≠ -1 → mo j + a j ≤ a i) ∧ (a i ≠ -1 → (i + 1 = n ∧ a i = 0) ∨ ∃ j, i < j ∧ j < n ∧ sBit (be j) i ∧ a j ≠ -1 ∧ a i = mo j + a j) ∧ (i + 1 = n → a i = 0)
theorem sLw_of {be mo A : Nat → Int32} {n : Nat} (hn : n ≤ 24) (hm : ∀ j, j < n → 0 ≤ (mo j).toInt ∧ (mo j).toInt ≤ 99) (hA : ∀ i, i < n → A i = sMx be mo A n i (n - 1 - i)) : sLw be (fun j => (mo j).toInt) (fun j => (A j).toInt) n := by
  have key : ∀ d i, i < n → n - 1 - i ≤ d → (-1 ≤ (A i).toInt ∧ (A i).toInt ≤ 99 * ((n : Int) - 1 - i)) := by
    intro d
    induction d with
    | zero =>
      intro i hi hd
      have := sMx_f (be := be) hn hm (i := i) (A := A) (fun j h1 h2 => by omega) hi (n - 1 - i) (by omega)
      rw [← hA i hi] at this
      exact this.1
    | succ d ih =>
      intro i hi hd
      have := sMx_f (be := be) hn hm (i := i) (A := A) (fun j h1 h2 => ih j h2 (by omega)) hi (n - 1 - i) (by omega)
      rw [← hA i hi] at this
      exact this.1
  intro i hi
  obtain ⟨b1, b2, b3⟩ := sMx_f (be := be) hn hm (i := i) (A := A) (fun j _ h2 => key n j h2 (by omega)) hi (n - 1 - i) (by omega)
  rw [← hA i hi] at b1 b2 b3
  refine ⟨b1, fun j h1 h2 => b2 j h1 (by omega), fun z => (b3 z).imp id (fun ⟨j, c1, c2, c3⟩ => ⟨j, c1, by omega, c3⟩), fun e => ?_⟩
  show (A i).toInt = 0
  rw [hA i hi, show n - 1 - i = 0 by omega]
  show (if i + 1 = n then (0 : Int32) else -1).toInt = 0
  rw [if_pos e]
  rfl
/-- a plan: begins, ends, and what each waits for -/
noncomputable def sPl (be : Nat → Int32) (bg mo en : Nat → Int) (n : Nat) : Prop := ∀ j, j < n → (0 ≤ bg j ∧ 0 ≤ mo j ∧ mo j ≤ 99 ∧ en j = bg j + mo j ∧ en j ≤ 99 * (j + 1)) ∧ ∀ i, i < j → sBit (be j) i → en i ≤ bg j
theorem sLw_en {be : Nat → Int32} {bg mo en a : Nat → Int} {n : Nat} (hP : sPl be bg mo en n) (hL : sLw be mo a n) : ∀ d j, j < n → n - 1 - j ≤ d → a j ≠ -1 → en j + a j ≤ en (n - 1)
  | 0, j, hj, hd, ha => by
    have e : j = n - 1 := by omega
    have := (hL j hj).2.2.2 (by omega)
    rw [← e]
    omega
  | d + 1, j, hj, hd, ha => by
    rcases (hL j hj).2.2.1 ha with ⟨e1, e2⟩ | ⟨k, k1, k2, k3, k4, k5⟩
    · rw [show n - 1 = j by omega]; omega
    · have h1 := sLw_en hP hL d k k2 (by omega) k4
      have h2 := (hP k k2).2 j k1 k3
      have h3 := (hP k k2).1
      omega
/-- what is found behind the steps above the last d -/
noncomputable def sCl (be : Nat → Int32) (mo a t : Nat → Int) (E : Int) (last d : Nat) : Prop := ∀ i, i ≤ last → (i = last → t i = E) ∧ (t i ≠ -1 → i ≠ last → ∃ j, last < j + d ∧ j ≤ last ∧ i < j ∧ sBit (be j) i ∧ a j ≠ -1 ∧ t i = E - (mo j + a j)) ∧ (∀ j, last < j + d → j ≤ last → i < j → sBit (be j) i → a j ≠ -1 → t i ≠ -1 ∧ t i ≤ E - (mo j + a j))
theorem sCl_at {be : Nat → Int32} {bg mo en a t : Nat → Int} {last d i : Nat} (hP : sPl be bg mo en (last + 1)) (hL : sLw be mo a (last + 1)) (hC : sCl be mo a t (en last) last d) (hi : i ≤ last) (hd : last ≤ i + d) : (t i = -1 ↔ a i = -1) ∧ (t i ≠ -1 → t i = en last - a i) := by
  obtain ⟨l1, l2, l3, l4⟩ := hL i (by omega)
  obtain ⟨c1, c2, c3⟩ := hC i hi
  have hE : 0 ≤ en last := by have := (hP last (by omega)).1; omega
  by_cases e : i = last
  · have h1 := c1 e
    have h2 := l4 (by omega)
    exact ⟨⟨fun z => by omega, fun z => by omega⟩, fun _ => by omega⟩
  · have h1 : a i ≠ -1 → t i ≠ -1 ∧ t i ≤ en last - a i := by
      intro z
      rcases l3 z with ⟨e1, -⟩ | ⟨j, j1, j2, j3, j4, j5⟩
      · omega
      · have := c3 j (by omega) (by omega) j1 j3 j4
        exact ⟨this.1, by omega⟩
    have h2 : t i ≠ -1 → a i ≠ -1 ∧ en last - a i ≤ t i := by
      intro z
      obtain ⟨j, j1, j2, j3, j4, j5, j6⟩ := c2 z e
      have := l2 j j3 (by omega) j4 j5
      have h3 := (hP j (by omega)).1
      have h4 := (hL j (by omega)).1
      exact ⟨by omega, by omega⟩
    refine ⟨⟨fun z => ?_, fun z => ?_⟩, fun z => ?_⟩
    · exact Classical.byContradiction (fun w => (h1 w).1 z)
    · exact Classical.byContradiction (fun w => (h2 w).1 z)
    · have := h2 z
      have := h1 this.1
      omega
theorem sCl_of {be mo : Nat → Int32} {bg en a : Nat → Int} {T0 : Nat → Int32} {last : Nat} (hl : last < 24) (hP : sPl be bg (fun j => (mo j).toInt) en (last + 1)) (hL : sLw be (fun j => (mo j).toInt) a (last + 1)) (h0 : ∀ j, j < 24 → (T0 j).toInt = if j = last then en last else -1) : ∀ d, d ≤ last → sCl be (fun j => (mo j).toInt) a (fun j => (sOut be mo T0 last d j).toInt) (en last) last d
  | 0, _ => by
    intro i hi
    show (_ → (T0 i).toInt = _) ∧ ((T0 i).toInt ≠ -1 → _) ∧ _
    rw [h0 i (by omega)]
    refine ⟨fun e => if_pos e, fun z1 z2 => absurd (if_neg z2) z1, fun j _ _ => by omega⟩
  | d + 1, hd => by
    have hC := sCl_of hl hP hL h0 d (by omega)
    have hs := sCl_at hP hL hC (i := last - d) (by omega) (by omega)
    try dsimp only at hs
    have hu : sOut be mo T0 last (d + 1) = if sOut be mo T0 last d (last - d) = -1 then sOut be mo T0 last d else sIn (be (last - d)) (sOut be mo T0 last d (last - d) - mo (last - d)) (sOut be mo T0 last d) (last - d) := rfl
    intro i hi
    obtain ⟨c1, c2, c3⟩ := hC i hi
    dsimp only at c1 c2 c3 ⊢
    rw [hu]
    by_cases e : sOut be mo T0 last d (last - d) = -1
    · rw [if_pos e]
      rw [zm1] at e
      refine ⟨c1, fun z1 z2 => ?_, fun j j1 j2 j3 j4 j5 => ?_⟩
      · obtain ⟨j, k1, k2⟩ := c2 z1 z2
        exact ⟨j, by omega, k2⟩
      · by_cases q : j = last - d
        · subst q
          exact absurd (hs.1.mp e) j5
        · exact c3 j (by omega) j2 j3 j4 j5
    · rw [if_neg e]
      rw [zm1] at e
      have h1 := hs.2 e
      have h2 : a (last - d) ≠ -1 := fun z => e (hs.1.mpr z)
      have h3 := sLw_en hP hL (last + 1) (last - d) (by omega) (by omega) h2
      have hp := (hP (last - d) (by omega)).1
      have hpl := (hP last (by omega)).1
      have hla := (hL (last - d) (by omega)).1
      dsimp only at hp hpl
      rw [show last + 1 - 1 = last by omega] at h3
      have hb : (sOut be mo T0 last d (last - d) - mo (last - d)).toInt = en last - a (last - d) - (mo (last - d)).toInt := by
        rw [zsubI (by omega) (by omega), h1]
      by_cases w : i < last - d ∧ sBit (be (last - d)) i
      · have eU : sIn (be (last - d)) (sOut be mo T0 last d (last - d) - mo (last - d)) (sOut be mo T0 last d) (last - d) i = sUp (sOut be mo T0 last d (last - d) - mo (last - d)) (sOut be mo T0 last d i) := if_pos w
        rw [eU]
        -- what stood there: nothing, or not below 0
        have ht : (sOut be mo T0 last d i).toInt ≠ -1 → 0 ≤ (sOut be mo T0 last d i).toInt := by
          intro z
          obtain ⟨j, j1, j2, j3, j4, j5, j6⟩ := c2 z (by omega)
          have g1 := sLw_en hP hL (last + 1) j (by omega) (by omega) j5
          have g2 := (hP j (by omega)).1
          dsimp only at g2
          rw [show last + 1 - 1 = last by omega] at g1
          omega
        have hv : (sUp (sOut be mo T0 last d (last - d) - mo (last - d)) (sOut be mo T0 last d i)).toInt = if (sOut be mo T0 last d i).toInt = -1 then en last - a (last - d) - (mo (last - d)).toInt else if en last - a (last - d) - (mo (last - d)).toInt < (sOut be mo T0 last d i).toInt then en last - a (last - d) - (mo (last - d)).toInt else (sOut be mo T0 last d i).toInt := by
          unfold sUp
          by_cases y : sOut be mo T0 last d i = -1
          · rw [if_pos y, if_pos (zm1.mp y), hb]
          · rw [if_neg y, if_neg (fun z => y (zm1.mpr z))]
            by_cases y2 : sOut be mo T0 last d (last - d) - mo (last - d) < sOut be mo T0 last d i
            · rw [if_pos y2, hb, if_pos]
              have := Int32.lt_iff_toInt_lt.mp y2
              rw [hb] at this
              exact this
            · rw [if_neg y2, if_neg]
              intro z
              exact y2 (Int32.lt_iff_toInt_lt.mpr (by rw [hb]; exact z))
        rw [hv]
        refine ⟨fun z => by omega, fun z1 z2 => ?_, fun j j1 j2 j3 j4 j5 => ?_⟩
        · by_cases y : (sOut be mo T0 last d i).toInt = -1
          · rw [if_pos y]
            exact ⟨last - d, by omega, by omega, w.1, w.2, h2, by omega⟩
          · rw [if_neg y]
            by_cases y2 : en last - a (last - d) - (mo (last - d)).toInt < (sOut be mo T0 last d i).toInt
            · rw [if_pos y2]
              exact ⟨last - d, by omega, by omega, w.1, w.2, h2, by omega⟩
            · rw [if_neg y2]
              obtain ⟨j, k1, k2⟩ := c2 y z2
              exact ⟨j, by omega, k2⟩
        · by_cases q : j = last - d
          · subst q
            by_cases y : (sOut be mo T0 last d i).toInt = -1
            · rw [if_pos y]; omega
            · rw [if_neg y]
              have := ht y
              by_cases y2 : en last - a (last - d) - (mo (last - d)).toInt < (sOut be mo T0 last d i).toInt
              · rw [if_pos y2]; omega
              · rw [if_neg y2]; omega
          · have g := c3 j (by omega) j2 j3 j4 j5
            rw [if_neg g.1]
            by_cases y2 : en last - a (last - d) - (mo (last - d)).toInt < (sOut be mo T0 last d i).toInt
            · rw [if_pos y2]; omega
            · rw [if_neg y2]; exact g
      · have eU : sIn (be (last - d)) (sOut be mo T0 last d (last - d) - mo (last - d)) (sOut be mo T0 last d) (last - d) i = sOut be mo T0 last d i := if_neg w
        rw [eU]
        refine ⟨c1, fun z1 z2 => ?_, fun j j1 j2 j3 j4 j5 => ?_⟩
        · obtain ⟨j, k1, k2⟩ := c2 z1 z2
          exact ⟨j, by omega, k2⟩
        · by_cases q : j = last - d
          · subst q
            exact absurd ⟨j3, j4⟩ w
          · exact c3 j (by omega) j2 j3 j4 j5
theorem sBe_f {m : Int32} {e : Nat → Int32} {M : Int} (h0 : 0 ≤ M) : ∀ {n : Nat}, (∀ i, i < n → (e i).toInt ≤ M) → (0 ≤ (sBe m e n).toInt ∧ (sBe m e n).toInt ≤ M) ∧ ∀ i, i < n → sBit m i → (e i).toInt ≤ (sBe m e n).toInt
  | 0, _ => ⟨⟨by show (0 : Int) ≤ (0 : Int32).toInt; decide, h0⟩, fun i hi => by omega⟩
  | n + 1, hh => by
    obtain ⟨⟨a1, a2⟩, a3⟩ := sBe_f (m := m) (n := n) h0 (fun i hi => hh i (by omega))
    rw [sBe_u]
    by_cases b : (m >>> (Int32.ofNat n &&& 31)) &&& 1 = 1
    · rw [if_pos b]
      by_cases l : sBe m e n < e n
      · rw [if_pos l]
        have := Int32.lt_iff_toInt_lt.mp l
        refine ⟨⟨by omega, hh n (by omega)⟩, fun i hi hb => ?_⟩
        by_cases q : i = n
        · subst q; omega
        · have := a3 i (by omega) hb; omega
      · rw [if_neg l]
        refine ⟨⟨a1, a2⟩, fun i hi hb => ?_⟩
        by_cases q : i = n
        · subst q
          rcases Int.lt_or_le (sBe m e i).toInt (e i).toInt with z | z
          · exact absurd (Int32.lt_iff_toInt_lt.mpr z) l
          · exact z
        · exact a3 i (by omega) hb
    · rw [if_neg b]
      refine ⟨⟨a1, a2⟩, fun i hi hb => ?_⟩
      by_cases q : i = n
      · subst q; exact absurd hb b
      · exact a3 i (by omega) hb
theorem sPl_of {be eb ee mo : Nat → Int32} {n : Nat} (hn : n ≤ 24) (hm : ∀ j, j < n → 0 ≤ (mo j).toInt ∧ (mo j).toInt ≤ 99) (hR : ∀ k, k < n → eb k = sBe (be k) ee k ∧ ee k = eb k + mo k) : sPl be (fun j => (eb j).toInt) (fun j => (mo j).toInt) (fun j => (ee j).toInt) n := by
  have key : ∀ d j, j < d → j < n → (0 ≤ (eb j).toInt ∧ (ee j).toInt = (eb j).toInt + (mo j).toInt ∧ (ee j).toInt ≤ 99 * (j + 1)) ∧ ∀ i, i < j → sBit (be j) i → (ee i).toInt ≤ (eb j).toInt := by
    intro d
    induction d with
    | zero => intro j h; omega
    | succ d ih =>
      intro j hj hn2
      have hb := sBe_f (m := be j) (e := ee) (n := j) (M := 99 * j) (by omega) (fun i hi => by have := (ih i (by omega) (by omega)).1.2.2; omega)
      obtain ⟨r1, r2⟩ := hR j hn2
      rw [← r1] at hb
      have hmj := hm j hn2
      have e : (ee j).toInt = (eb j).toInt + (mo j).toInt := by rw [r2, zaddI (by omega) (by omega)]
      exact ⟨⟨hb.1.1, e, by omega⟩, hb.2⟩
  intro j hj
  obtain ⟨⟨k1, k2, k3⟩, k4⟩ := key (j + 1) j (by omega) hj
  have := hm j hj
  exact ⟨⟨k1, this.1, this.2, k2, k3⟩, k4⟩
theorem f_hasStep {G : zG} (hG : G.1 = zProg) {h : zH} {n : Int32} (hs : tSh h) : tC zTt G 45 [.ref 81, .int n] h (fun w h2 => tBo (0 ≤ n.toInt ∧ n.toInt < (tvI (tF h 81 7)).toInt) w ∧ h2 = h) := by
  refine tC_in (by rw [hG]; rfl) (fun dp => ?_)
  refine tw_iload rfl rfl ?_
  refine tw_if_lt rfl (fun q105 => ?_) (fun q105 => ?_)
  · try dsimp only [tvI_i, tvJ_j, tvR_r] at q105
    refine tw_push rfl ?_
    exact tw_iret rfl ⟨Or.inr ⟨by omega, rfl⟩, rfl⟩
  · try dsimp only [tvI_i, tvJ_j, tvR_r] at q105
    refine tw_iload rfl rfl ?_
    refine tw_aload rfl rfl ?_
    refine tw_getS rfl (hi_81_7 hs) ?_
    refine tw_ic_ge rfl (fun q106 => ?_) (fun q106 => ?_)
    · try dsimp only [tvI_i, tvJ_j, tvR_r] at q106
      refine tw_push rfl ?_
      exact tw_iret rfl ⟨Or.inr ⟨by omega, rfl⟩, rfl⟩
    · try dsimp only [tvI_i, tvJ_j, tvR_r] at q106
      refine tw_push rfl ?_
      refine tw_goto rfl ?_
      exact tw_iret rfl ⟨Or.inl ⟨by omega, rfl⟩, rfl⟩
theorem rend_88 {h h2 h3 : zH} (hR : R_rend h) (k : gFr 88 h h2) (a2 : tF h3 81 7 = tF h2 81 7) (b2 : tA h3 86 = tA h2 86) (c2 : tA h3 84 = tA h2 84) (d2 : tA h3 87 = tA h2 87) (e2 : tA h3 82 = tA h2 82) : R_rend h3 :=
  R_rend_of hR (by rw [k.1]) a2 (k.2 86 (by decide)) b2 (k.2 84 (by decide)) c2 (k.2 87 (by decide)) d2 (k.2 82 (by decide)) e2
theorem fill_st {h1 : zH} {r k kd : Nat} {x v z : Int32} (hv : ∀ j, j < k → tA h1 r j = v) (hx : x.toInt = k) (hf : tIn h1 r kd z) : ∀ j, j < k + 1 → tA (tSA h1 r x.toNatClampNeg v) r j = v := by
  intro j hj
  rw [tA_tSA hf.cell, zof_cl hx]
  show (if r = r ∧ j = k then v else tA h1 r j) = v
  by_cases e : j = k
  · exact if_pos ⟨rfl, e⟩
  · rw [if_neg (fun z => e z.2)]; exact hv j (by omega)
theorem f_fillA {G : zG} (hG : G.1 = zProg) {h : zH} {r : Nat} {v : Int32} (hN : tN h r < 2147483648) : tC zTt G 282 [.ref r, .int v] h (fun w h2 => w = none ∧ gFr r h h2 ∧ ∀ j, j < tN h r → tA h2 r j = v) := by
  refine tC_in (by rw [hG]; rfl) (fun dp => ?_)
  have hNn : (Int32.ofNat (tN h r)).toInt = tN h r := yofN hN
  refine tw_push rfl ?_
  refine tw_istore rfl ?_
  refine tw_aload rfl rfl ?_
  refine tw_alen rfl ?_
  refine tw_istore rfl ?_
  refine tG_loop (zW_mono zTt G dp) (zW_conj zTt G dp) (V := fun pc L st h9 _ _ => pc = 5 ∧ st = [] ∧ ∃ (h1 : zH) (k : Nat) (x : Int32), h1 = h9 ∧ x.toInt = k ∧ k ≤ tN h r ∧ gFr r h h1 ∧ (∀ j, j < k → tA h1 r j = v) ∧ L = [some (.ref r), some (.int v), some (.int x), some (.int (Int32.ofNat (tN h r)))]) ?_ (⟨rfl, rfl, h, 0, 0, rfl, rfl, by omega, ⟨rfl, fun _ _ => rfl⟩, fun j hj => by omega, rfl⟩)
  rintro _ _ _ _ _ _ ⟨rfl, rfl, h1, k, x, rfl, hx, hk, hF, hv, rfl⟩
  refine tw_iload rfl rfl ?_
  refine tw_iload rfl rfl ?_
  refine tw_ic_ge rfl (fun q107 => ?_) (fun q107 => ?_)
  · try dsimp only [tvI_i, tvJ_j, tvR_r] at q107
    exact tw_vret rfl ⟨rfl, hF, fun j hj => hv j (by omega)⟩
  · try dsimp only [tvI_i, tvJ_j, tvR_r] at q107
    refine tw_aload rfl rfl ?_
    refine tw_iload rfl rfl ?_
    refine tw_iload rfl rfl ?_
    refine tw_iast rfl (fun f108 => ?_)
    refine tw_iinc rfl rfl ?_
    refine tw_goto rfl ?_
    exact tG_cut (zW_mono zTt G dp) (Or.inr ⟨rfl, rfl, _, k + 1, x + 1, rfl, zincL hx q107, by omega, gFr_A hF, fill_st hv hx f108, rfl⟩)
theorem so_a {be mo T0 T : Nat → Int32} {last d s : Nat} {b : Int32} (hT : T = sOut be mo T0 last d) (hs : s = last - d) (hn : ¬ T s = -1) (hb : b = T s - mo s) : sIn (be s) b T s = sOut be mo T0 last (d + 1) := by
  subst hT hs hb
  show _ = if _ then _ else _
  rw [if_neg hn]
theorem so_b {be mo T0 T : Nat → Int32} {last d s : Nat} (hT : T = sOut be mo T0 last d) (hs : s = last - d) (hn : T s = -1) : T = sOut be mo T0 last (d + 1) := by
  subst hT hs
  show _ = if _ then _ else _
  rw [if_pos hn]
theorem sIn_st {h2 : zH} {m b V : Int32} {T : Nat → Int32} {y z : Int32} {i kd : Nat} (hA : tA h2 88 = sIn m b T i) (hy : y.toInt = i) (hf : tIn h2 88 kd z) (hb : sBit m i) (hV : V = sUp b (tA h2 88 y.toNatClampNeg)) : tA (tSA h2 88 y.toNatClampNeg V) 88 = sIn m b T (i + 1) := by
  rw [sIn_y hb, hV, zof_cl hy, ← hA]
  exact tA_st hf rfl
theorem sUp_1 {b t : Int32} (h : t = -1) : b = sUp b t := by unfold sUp; rw [if_pos h]
theorem sUp_2 {b t : Int32} (h : ¬ t = -1) : (if b < t then b else t) = sUp b t := by unfold sUp; rw [if_neg h]
theorem fill_T0 {hq : zH} {x z X : Int32} {L kd : Nat} (e : ∀ j, j < 24 → tA hq 88 j = -1) (hf : tIn hq 88 kd z) (hx : x.toNatClampNeg = L) : ∀ j, j < 24 → tA (tSA hq 88 x.toNatClampNeg X) 88 j = if j = L then X else -1 := by
  intro j hj
  rw [tA_tSA hf.cell, hx]
  show (if 88 = 88 ∧ j = L then X else tA hq 88 j) = _
  by_cases q : j = L
  · rw [if_pos ⟨rfl, q⟩, if_pos q]
  · rw [if_neg (fun z => q z.2), if_neg q]; exact e j hj
theorem zdecN {x : Int32} {d L : Nat} (h : 0 ≤ x.toInt) (hx : x.toInt + d = L) : (x + (-1)).toInt + ((d + 1 : Nat) : Int) = L := by
  rw [zdecI h]
  omega
theorem f_slackOf {G : zG} (hG : G.1 = zProg) {h : zH} {a : Int32} (hs : tSh h) (hN : tN h 88 = 24) (ha : 0 ≤ a.toInt ∧ a.toInt < (tvI (tF h 81 7)).toInt) (hn : (tvI (tF h 81 7)).toInt ≤ 24) : tC zTt G 51 [.ref 81, .int a] h (fun w h2 => gFr 88 h h2 ∧ ∃ T0 : Nat → Int32, (∀ j, j < 24 → T0 j = if j = ((tvI (tF h 81 7)).toNatClampNeg - 1) then tA h 87 ((tvI (tF h 81 7)).toNatClampNeg - 1) else -1) ∧ w = some (.int (sRs (sOut (tA h 84) (tA h 82) T0 ((tvI (tF h 81 7)).toNatClampNeg - 1) (((tvI (tF h 81 7)).toNatClampNeg - 1) - a.toNatClampNeg) a.toNatClampNeg) (tA h 87 a.toNatClampNeg)))) := by
  refine tC_in (by rw [hG]; rfl) (fun dp => ?_)
  have hd7 := zsub1 (x := tvI (tF h 81 7)) (by omega)
  have hLx : (tvI (tF h 81 7) - 1).toNatClampNeg = ((tvI (tF h 81 7)).toNatClampNeg - 1) := zpredN (by omega)
  refine tw_aload rfl rfl ?_
  refine tw_getS rfl (hi_81_7 hs) ?_
  refine tw_push rfl ?_
  refine tw_isub rfl ?_
  refine tw_istore rfl ?_
  refine tw_aload rfl rfl ?_
  refine tw_getS rfl (hs_81_6 hs) ?_
  refine tw_astore rfl ?_
  refine tw_aload rfl rfl ?_
  refine tw_push rfl ?_
  refine tw_stat2 rfl (f_fillA hG (r := 88) (by omega)) (fun wp109 hp109 p109 => ?_)
  obtain ⟨rfl, gp109, ep109⟩ := p109
  refine tw_iload rfl rfl ?_
  refine tw_if_lt rfl (fun q110 => ?_) (fun q110 => ?_)
  · try dsimp only [tvI_i, tvJ_j, tvR_r] at q110
    exact absurd q110 (by omega)
  · try dsimp only [tvI_i, tvJ_j, tvR_r] at q110
    refine tw_aload rfl rfl ?_
    refine tw_iload rfl rfl ?_
    refine tw_aload rfl rfl ?_
    refine tw_getS rfl (hs_81_5 (tSh_F gp109.1 hs)) ?_
    refine tw_iload rfl rfl ?_
    refine tw_iald rfl (fun f111 => ?_)
    refine tw_iast rfl (fun f112 => ?_)
    refine tw_iload rfl rfl ?_
    refine tw_istore rfl ?_
    refine tG_loop (zW_mono zTt G dp) (zW_conj zTt G dp) (V := fun pc L st h9 _ _ => pc = 33 ∧ st = [] ∧ ∃ (h1 : zH) (d : Nat) (x : Int32) (T0 : Nat → Int32) (l5 l6 : Option Value), h1 = h9 ∧ x.toInt + d = (((tvI (tF h 81 7)).toNatClampNeg - 1) : Nat) ∧ a.toInt ≤ x.toInt ∧ gFr 88 h h1 ∧ tA h1 88 = sOut (tA h 84) (tA h 82) T0 ((tvI (tF h 81 7)).toNatClampNeg - 1) d ∧ (∀ j, j < 24 → T0 j = if j = ((tvI (tF h 81 7)).toNatClampNeg - 1) then tA h 87 ((tvI (tF h 81 7)).toNatClampNeg - 1) else -1) ∧ L = [some (.ref 81), some (.int a), some (.int (tvI (tF h 81 7) - 1)), some (.ref 88), some (.int x), l5, l6]) ?_ (⟨rfl, rfl, _, 0, tvI (tF h 81 7) - 1, _, _, _, rfl, by rw [hd7, zclE]; omega, by omega, gFr_A gp109, rfl, (by rw [← hLx]; exact (gp109.2 87 (by decide)) ▸ fill_T0 (fun j hj => ep109 j (by omega)) f112 rfl), rfl⟩)
    rintro _ _ _ _ _ _ ⟨rfl, rfl, h1, d, x, T0, l5, l6, rfl, hx, hax, hF, hA, hT, rfl⟩
    have hs1 := tSh_F hF.1 hs
    refine tw_iload rfl rfl ?_
    refine tw_iload rfl rfl ?_
    refine tw_ic_le rfl (fun q113 => ?_) (fun q113 => ?_)
    · try dsimp only [tvI_i, tvJ_j, tvR_r] at q113
      refine tw_aload rfl rfl ?_
      refine tw_iload rfl rfl ?_
      refine tw_iald rfl (fun f114 => ?_)
      refine tw_push rfl ?_
      refine tw_ic_ne rfl (fun q115 => ?_) (fun q115 => ?_)
      · try dsimp only [tvI_i, tvJ_j, tvR_r] at q115
        have q115i := zneq (Y := (-1)) (by decide) q115
        refine tw_aload rfl rfl ?_
        refine tw_iload rfl rfl ?_
        refine tw_iald rfl (fun f116 => ?_)
        refine tw_aload rfl rfl ?_
        refine tw_getS rfl (hs_81_5 hs1) ?_
        refine tw_iload rfl rfl ?_
        refine tw_iald rfl (fun f117 => ?_)
        refine tw_isub rfl ?_
        have hN9 := zclE (x := tvI (tF h 81 7))
        have ha9 := zclE (x := a)
        have hd9 : d = ((tvI (tF h 81 7)).toNatClampNeg - 1) - a.toNatClampNeg := by omega
        rw [hd9] at hA
        exact tw_iret rfl ⟨hF, T0, hT, congrArg (fun z => some (Value.int z)) (show tA h1 88 a.toNatClampNeg - tA h1 87 a.toNatClampNeg = _ by unfold sRs; rw [← hA, if_neg q115, hF.2 87 (by decide)])⟩
      · try dsimp only [tvI_i, tvJ_j, tvR_r] at q115
        have q115i := zeqi (Y := (-1)) (by decide) q115
        refine tw_push rfl ?_
        refine tw_goto rfl ?_
        have hN9 := zclE (x := tvI (tF h 81 7))
        have ha9 := zclE (x := a)
        have hd9 : d = ((tvI (tF h 81 7)).toNatClampNeg - 1) - a.toNatClampNeg := by omega
        rw [hd9] at hA
        exact tw_iret rfl ⟨hF, T0, hT, congrArg (fun z => some (Value.int z)) (show (-1 : Int32) = _ by unfold sRs; rw [← hA, if_pos]; exact q115)⟩
    · try dsimp only [tvI_i, tvJ_j, tvR_r] at q113
      refine tw_aload rfl rfl ?_
      refine tw_iload rfl rfl ?_
      refine tw_iald rfl (fun f118 => ?_)
      refine tw_aload rfl rfl ?_
      refine tw_getS rfl (hs_81_0 hs1) ?_
      refine tw_iload rfl rfl ?_
      refine tw_iald rfl (fun f119 => ?_)
      refine tw_isub rfl ?_
      refine tw_istore rfl ?_
      refine tw_push rfl ?_
      refine tw_istore rfl ?_
      refine tG_loop (zW_mono zTt G dp) (zW_conj zTt G dp) (V := fun pc L st h9 _ _ => pc = 56 ∧ st = [] ∧ ∃ (h2 : zH) (i : Nat) (y : Int32), h2 = h9 ∧ y.toInt = i ∧ (i : Int) ≤ x.toInt ∧ gFr 88 h h2 ∧ (i = 0 ∨ ¬ tA h1 88 x.toNatClampNeg = -1) ∧ tA h2 88 = sIn (tA h 84 x.toNatClampNeg) (tA h1 88 x.toNatClampNeg - tA h1 82 x.toNatClampNeg) (tA h1 88) i ∧ L = [some (.ref 81), some (.int a), some (.int (tvI (tF h 81 7) - 1)), some (.ref 88), some (.int x), some (.int (tA h1 88 x.toNatClampNeg - tA h1 82 x.toNatClampNeg)), some (.int y)]) ?_ (⟨rfl, rfl, _, 0, 0, rfl, rfl, by omega, hF, Or.inl rfl, sIn_0.symm, rfl⟩)
      rintro _ _ _ _ _ _ ⟨rfl, rfl, h2, i, y, rfl, hy, hi, hF2, hi0, hA2, rfl⟩
      have hs2 := tSh_F hF2.1 hs
      refine tw_iload rfl rfl ?_
      refine tw_iload rfl rfl ?_
      refine tw_ic_ge rfl (fun q120 => ?_) (fun q120 => ?_)
      · try dsimp only [tvI_i, tvJ_j, tvR_r] at q120
        refine tw_iinc rfl rfl ?_
        refine tw_goto rfl ?_
        have hne : ¬ tA h1 88 x.toNatClampNeg = -1 := hi0.resolve_left (by omega)
        rw [show i = x.toNatClampNeg from by rw [zclE]; omega] at hA2
        exact tG_cut (zW_mono zTt G dp) (Or.inl (Or.inr ⟨rfl, rfl, _, d + 1, _, T0, _, _, rfl, zdecN (by omega) hx, by rw [zdecI (by omega)]; omega, hF2, hA2.trans (so_a hA (by rw [zclE]; omega : x.toNatClampNeg = ((tvI (tF h 81 7)).toNatClampNeg - 1) - d) hne (by rw [hF.2 82 (by decide)])), hT, rfl⟩))
      · try dsimp only [tvI_i, tvJ_j, tvR_r] at q120
        refine tw_aload rfl rfl ?_
        refine tw_iload rfl rfl ?_
        refine tw_iald rfl (fun f121 => ?_)
        refine tw_push rfl ?_
        refine tw_ic_eq rfl (fun q122 => ?_) (fun q122 => ?_)
        · try dsimp only [tvI_i, tvJ_j, tvR_r] at q122
          have q122i := zeqi (Y := (-1)) (by decide) q122
          refine tw_iinc rfl rfl ?_
          refine tw_goto rfl ?_
          have hm1 : tA h1 88 x.toNatClampNeg = -1 := by rw [← sIn_ge (m := tA h 84 x.toNatClampNeg) (b := (tA h1 88 x.toNatClampNeg - tA h1 82 x.toNatClampNeg)) (T := tA h1 88) (i := i) (j := x.toNatClampNeg) (by rw [zclE]; omega), ← hA2]; exact q122
          have hi9 : i = 0 := hi0.resolve_right (fun z => z hm1)
          rw [hi9, sIn_0] at hA2
          exact tG_cut (zW_mono zTt G dp) (Or.inl (Or.inr ⟨rfl, rfl, _, d + 1, _, T0, _, _, rfl, zdecN (by omega) hx, by rw [zdecI (by omega)]; omega, hF2, hA2.trans (so_b hA (by rw [zclE]; omega : x.toNatClampNeg = ((tvI (tF h 81 7)).toNatClampNeg - 1) - d) hm1), hT, rfl⟩))
        · try dsimp only [tvI_i, tvJ_j, tvR_r] at q122
          have q122i := zneq (Y := (-1)) (by decide) q122
          refine tw_aload rfl rfl ?_
          refine tw_iload rfl rfl ?_
          refine tw_iload rfl rfl ?_
          refine tw_virt2 rfl (f_isBehind hG hs2) (fun w9 h9 p123 => ?_)
          obtain ⟨⟨p123, rfl⟩ | ⟨p123, rfl⟩, e9⟩ := p123
          · try dsimp only [tvI_i, tvJ_j, tvR_r] at p123
            obtain rfl := e9.symm
            refine tw_if_eq rfl (fun z => absurd z (by decide)) (fun _ => ?_)
            refine tw_aload rfl rfl ?_
            refine tw_iload rfl rfl ?_
            refine tw_aload rfl rfl ?_
            refine tw_iload rfl rfl ?_
            refine tw_iald rfl (fun f124 => ?_)
            refine tw_push rfl ?_
            refine tw_ic_ne rfl (fun q125 => ?_) (fun q125 => ?_)
            · try dsimp only [tvI_i, tvJ_j, tvR_r] at q125
              have q125i := zneq (Y := (-1)) (by decide) q125
              refine tw_aload rfl rfl ?_
              refine tw_iload rfl rfl ?_
              refine tw_iald rfl (fun f126 => ?_)
              refine tw_iload rfl rfl ?_
              refine tw_imin rfl ?_
              refine tw_iast rfl (fun f127 => ?_)
              refine tw_iinc rfl rfl ?_
              refine tw_goto rfl ?_
              exact tG_cut (zW_mono zTt G dp) (Or.inr ⟨rfl, rfl, _, i + 1, y + 1, rfl, zincL hy q120, by omega, gFr_A hF2, (Or.inr (by rw [← sIn_ge (m := tA h 84 x.toNatClampNeg) (b := (tA h1 88 x.toNatClampNeg - tA h1 82 x.toNatClampNeg)) (T := tA h1 88) (i := i) (j := x.toNatClampNeg) (by rw [zclE]; omega), ← hA2]; exact q122)), sIn_st hA2 hy f127 (by unfold sBit; rw [← zof hy, ← hF2.2 84 (by decide)]; exact p123) (sUp_2 q125), rfl⟩)
            · try dsimp only [tvI_i, tvJ_j, tvR_r] at q125
              have q125i := zeqi (Y := (-1)) (by decide) q125
              refine tw_iload rfl rfl ?_
              refine tw_goto rfl ?_
              refine tw_iast rfl (fun f128 => ?_)
              refine tw_iinc rfl rfl ?_
              refine tw_goto rfl ?_
              exact tG_cut (zW_mono zTt G dp) (Or.inr ⟨rfl, rfl, _, i + 1, y + 1, rfl, zincL hy q120, by omega, gFr_A hF2, (Or.inr (by rw [← sIn_ge (m := tA h 84 x.toNatClampNeg) (b := (tA h1 88 x.toNatClampNeg - tA h1 82 x.toNatClampNeg)) (T := tA h1 88) (i := i) (j := x.toNatClampNeg) (by rw [zclE]; omega), ← hA2]; exact q122)), sIn_st hA2 hy f128 (by unfold sBit; rw [← zof hy, ← hF2.2 84 (by decide)]; exact p123) (sUp_1 q125), rfl⟩)
          · try dsimp only [tvI_i, tvJ_j, tvR_r] at p123
            obtain rfl := e9.symm
            refine tw_if_eq rfl (fun _ => ?_) (fun z => absurd z (by decide))
            refine tw_iinc rfl rfl ?_
            refine tw_goto rfl ?_
            exact tG_cut (zW_mono zTt G dp) (Or.inr ⟨rfl, rfl, _, i + 1, y + 1, rfl, zincL hy q120, by omega, hF2, (Or.inr (by rw [← sIn_ge (m := tA h 84 x.toNatClampNeg) (b := (tA h1 88 x.toNatClampNeg - tA h1 82 x.toNatClampNeg)) (T := tA h1 88) (i := i) (j := x.toNatClampNeg) (by rw [zclE]; omega), ← hA2]; exact q122)), hA2.trans (sIn_n (by unfold sBit; rw [← zof hy, ← hF2.2 84 (by decide)]; exact p123)).symm, rfl⟩)
noncomputable def ph_tc (k x : Int32) (h : zH) (w : Option Value) (h2 : zH) : Prop := gFr 88 h h2 ∧ (((0 ≤ k.toInt ∧ k.toInt < (tvI (tF h 81 7)).toInt) ∧ ((x.toInt = 0 ∧ w = some (.int (tA h 86 k.toNatClampNeg))) ∨ (x.toInt = 1 ∧ w = some (.int (tA h 87 k.toNatClampNeg))) ∨ (x.toInt = 2 ∧ ∃ T0 : Nat → Int32, (∀ j, j < 24 → T0 j = if j = ((tvI (tF h 81 7)).toNatClampNeg - 1) then tA h 87 ((tvI (tF h 81 7)).toNatClampNeg - 1) else -1) ∧ w = some (.int (sRs (sOut (tA h 84) (tA h 82) T0 ((tvI (tF h 81 7)).toNatClampNeg - 1) (((tvI (tF h 81 7)).toNatClampNeg - 1) - k.toNatClampNeg) k.toNatClampNeg) (tA h 87 k.toNatClampNeg)))))) ∨ (¬ ((0 ≤ k.toInt ∧ k.toInt < (tvI (tF h 81 7)).toInt) ∧ (0 ≤ x.toInt ∧ x.toInt ≤ 2)) ∧ w = some (.int (-2))))
theorem f_steps {G : zG} (hG : G.1 = zProg) {h : zH} {k x : Int32} (hs : tSh h) (hN : tN h 88 = 24) (hn : (tvI (tF h 81 7)).toInt ≤ 24) : tC zTt G 142 [.ref 0, .int k, .int x] h (ph_tc k x h) := by
  refine tC_in (by rw [hG]; rfl) (fun dp => ?_)
  refine tw_aload rfl rfl ?_
  refine tw_getS rfl (hs_0_7 hs) ?_
  refine tw_iload rfl rfl ?_
  refine tw_virt1 rfl (f_hasStep hG hs) (fun w9 h9 p129 => ?_)
  obtain ⟨⟨p129, rfl⟩ | ⟨p129, rfl⟩, e9⟩ := p129
  · try dsimp only [tvI_i, tvJ_j, tvR_r] at p129
    obtain rfl := e9.symm
    refine tw_if_ne rfl (fun _ => ?_) (fun z => absurd z (by decide))
    refine tw_iload rfl rfl ?_
    refine tw_table rfl (fun q130 => ?_) (fun t9 q130a q130b q130c => ?_)
    · try dsimp only [tvI_i, tvJ_j, tvR_r] at q130
      refine tw_push rfl ?_
      exact tw_iret rfl ⟨⟨rfl, fun _ _ => rfl⟩, Or.inr ⟨by omega, rfl⟩⟩
    · have q130d : (tvI (.int x)).toInt = 0 ∨ (tvI (.int x)).toInt = 1 ∨ (tvI (.int x)).toInt = 2 := by omega
      rcases q130d with q130 | q130 | q130
      · obtain rfl : t9 = 40 := by rw [q130] at q130c; exact Option.some.inj (q130c.symm.trans rfl)
        try dsimp only [tvI_i, tvJ_j, tvR_r] at q130
        refine tw_aload rfl rfl ?_
        refine tw_getS rfl (hs_0_7 hs) ?_
        refine tw_getS rfl (hs_81_4 hs) ?_
        refine tw_iload rfl rfl ?_
        refine tw_iald rfl (fun f131 => ?_)
        exact tw_iret rfl ⟨⟨rfl, fun _ _ => rfl⟩, Or.inl ⟨by omega, Or.inl ⟨by omega, rfl⟩⟩⟩
      · obtain rfl : t9 = 50 := by rw [q130] at q130c; exact Option.some.inj (q130c.symm.trans rfl)
        try dsimp only [tvI_i, tvJ_j, tvR_r] at q130
        refine tw_aload rfl rfl ?_
        refine tw_getS rfl (hs_0_7 hs) ?_
        refine tw_getS rfl (hs_81_5 hs) ?_
        refine tw_iload rfl rfl ?_
        refine tw_iald rfl (fun f132 => ?_)
        exact tw_iret rfl ⟨⟨rfl, fun _ _ => rfl⟩, Or.inl ⟨by omega, Or.inr (Or.inl ⟨by omega, rfl⟩)⟩⟩
      · obtain rfl : t9 = 60 := by rw [q130] at q130c; exact Option.some.inj (q130c.symm.trans rfl)
        try dsimp only [tvI_i, tvJ_j, tvR_r] at q130
        refine tw_aload rfl rfl ?_
        refine tw_getS rfl (hs_0_7 hs) ?_
        refine tw_iload rfl rfl ?_
        refine tw_virt1 rfl (f_slackOf hG hs hN (by omega) hn) (fun wp133 hp133 p133 => ?_)
        obtain ⟨gp133, Tp133, tp133, rfl⟩ := p133
        exact tw_iret rfl ⟨gp133, Or.inl ⟨by omega, Or.inr (Or.inr ⟨by omega, _, tp133, rfl⟩)⟩⟩
  · try dsimp only [tvI_i, tvJ_j, tvR_r] at p129
    obtain rfl := e9.symm
    refine tw_if_ne rfl (fun z => absurd z (by decide)) (fun _ => ?_)
    refine tw_push rfl ?_
    exact tw_iret rfl ⟨⟨rfl, fun _ _ => rfl⟩, Or.inr ⟨by omega, rfl⟩⟩
theorem sMx_congr {be mo A A2 : Nat → Int32} {n i : Nat} (h : ∀ j, i < j → A j = A2 j) : ∀ k, sMx be mo A n i k = sMx be mo A2 n i k
  | 0 => rfl
  | k + 1 => by
    show (if _ then _ else _) = if _ then _ else _
    rw [sMx_congr h k, h (i + 1 + k) (by omega)]
theorem mx_st {h2 : zH} {be mo : Nat → Int32} {x X z : Int32} {N s k kd : Nat} (hx : x.toInt = s) (hf : tIn h2 172 kd z) (ab : ∀ j, s < j → j < N → tA h2 172 j = sMx be mo (tA h2 172) N j (N - 1 - j)) (hX : X = sMx be mo (tA h2 172) N s k) : (∀ j, s < j → j < N → tA (tSA h2 172 x.toNatClampNeg X) 172 j = sMx be mo (tA (tSA h2 172 x.toNatClampNeg X) 172) N j (N - 1 - j)) ∧ tA (tSA h2 172 x.toNatClampNeg X) 172 s = sMx be mo (tA (tSA h2 172 x.toNatClampNeg X) 172) N s k := by
  have e : tA (tSA h2 172 x.toNatClampNeg X) 172 = fun j => if j = s then X else tA h2 172 j := by
    rw [zof_cl hx]
    exact tA_st hf rfl
  rw [e]
  refine ⟨fun j h1 h3 => ?_, ?_⟩
  · show (if j = s then X else tA h2 172 j) = _
    rw [if_neg (by omega), ab j h1 h3]
    exact sMx_congr (fun i hi => by
      show _ = if i = s then X else tA h2 172 i
      rw [if_neg (by omega)]) _
  · show (if s = s then X else _) = _
    rw [if_pos rfl, hX]
    exact sMx_congr (fun i hi => by
      show _ = if i = s then _ else tA h2 172 i
      rw [if_neg (by omega)]) _
theorem mx_y {be mo A : Nat → Int32} {n i k : Nat} {X : Int32} (hX : X = sMx be mo A n i k) (hb : sBit (be (i + 1 + k)) i) (hn : ¬ A (i + 1 + k) = -1) (hl : X.toInt < (mo (i + 1 + k) + A (i + 1 + k)).toInt) : mo (i + 1 + k) + A (i + 1 + k) = sMx be mo A n i (k + 1) := by
  subst hX
  show _ = if _ then _ else _
  rw [if_pos ⟨⟨hb, hn⟩, hl⟩]
theorem mx_n {be mo A : Nat → Int32} {n i k : Nat} {X : Int32} (hX : X = sMx be mo A n i k) (hn : ¬ ((sBit (be (i + 1 + k)) i ∧ ¬ A (i + 1 + k) = -1) ∧ X.toInt < (mo (i + 1 + k) + A (i + 1 + k)).toInt)) : X = sMx be mo A n i (k + 1) := by
  subst hX
  show _ = if _ then _ else _
  rw [if_neg hn]
noncomputable def gF2 (h h1 : zH) : Prop := tF h1 = tF h ∧ ∀ p, p ≠ 171 → p ≠ 172 → tA h1 p = tA h p
theorem gF2_A {h h1 : zH} {a : Nat} {X : Int32} (k : gF2 h h1) : gF2 h (tSA h1 172 a X) := ⟨(tF_tSA _ _ _ _).trans k.1, fun p hp hp2 => (tA_nz hp2).trans (k.2 p hp hp2)⟩
noncomputable def sRm (A e B m : Int32) : Int32 := if A = -1 then -1 else e - A - B - m
theorem g_slack {G : zG} (hG : G.1 = zProg) {h : zH} {k : Int32} (hs : tSh h) (hk76 : 0 ≤ (tvI (tF h 111 76)).toInt) : tC zTt G 259 [.ref 111, .int k] h (fun w _ => ∃ (e : Int32) (A Bg : Nat → Int32), gP (tA h 169) (gLen (tA h 168) (tA h 167) (-2)) Bg (tvI (tF h 111 76)).toNatClampNeg ∧ e = gEnd Bg (gLen (tA h 168) (tA h 167) (-2)) (tvI (tF h 111 76)).toNatClampNeg ∧ (∀ j, j < (tvI (tF h 111 76)).toNatClampNeg → A j = sMx (tA h 169) (tA h 167) A (tvI (tF h 111 76)).toNatClampNeg j ((tvI (tF h 111 76)).toNatClampNeg - 1 - j)) ∧ w = some (.int (sRm (A k.toNatClampNeg) e (Bg k.toNatClampNeg) (tA h 167 k.toNatClampNeg)))) := by
  refine tC_in (by rw [hG]; rfl) (fun dp => ?_)
  have hd76 := zsub1 hk76
  refine tw_aload rfl rfl ?_
  refine tw_push rfl ?_
  refine tw_virt1 rfl (g_goes hG hs hk76) (fun wp134 hp134 p134 => ?_)
  obtain ⟨ep134, rfl, gp134⟩ := p134
  refine tw_istore rfl ?_
  refine tw_aload rfl rfl ?_
  refine tw_getS rfl ((congrFun (congrFun gp134.1.1 111) 76).trans (hi_111_76 hs)) ?_
  refine tw_push rfl ?_
  refine tw_isub rfl ?_
  refine tw_istore rfl ?_
  refine tG_loop (zW_mono zTt G dp) (zW_conj zTt G dp) (V := fun pc L st h9 _ _ => pc = 14 ∧ st = [] ∧ ∃ (h1 : zH) (x e : Int32) (l4 l5 : Option Value), h1 = h9 ∧ -1 ≤ x.toInt ∧ x.toInt < (tvI (tF h 111 76)).toInt ∧ gF2 h h1 ∧ (gP (tA h 169) (gLen (tA h 168) (tA h 167) (-2)) (tA h1 171) (tvI (tF h 111 76)).toNatClampNeg ∧ e = gEnd (tA h1 171) (gLen (tA h 168) (tA h 167) (-2)) (tvI (tF h 111 76)).toNatClampNeg) ∧ (∀ j : Nat, x.toInt < (j : Int) → j < (tvI (tF h 111 76)).toNatClampNeg → tA h1 172 j = sMx (tA h 169) (tA h 167) (tA h1 172) (tvI (tF h 111 76)).toNatClampNeg j ((tvI (tF h 111 76)).toNatClampNeg - 1 - j)) ∧ L = [some (.ref 111), some (.int k), some (.int e), some (.int x), l4, l5]) ?_ (⟨rfl, rfl, _, tvI (tF h 111 76) - 1, _, _, _, rfl, by rw [hd76]; omega, by rw [hd76]; omega, ⟨gp134.1.1, fun p h1 _ => gp134.1.2 p h1⟩, gp134.2, (fun j h1 h2 => by rw [hd76] at h1; rw [zclE] at h2; omega), rfl⟩)
  rintro _ _ _ _ _ _ ⟨rfl, rfl, h1, x, e, l4, l5, rfl, hx0, hxl, hF, hG1, hab, rfl⟩
  have hs1 := tSh_F hF.1 hs
  refine tw_iload rfl rfl ?_
  refine tw_if_lt rfl (fun q135 => ?_) (fun q135 => ?_)
  · try dsimp only [tvI_i, tvJ_j, tvR_r] at q135
    refine tw_aload rfl rfl ?_
    refine tw_getS rfl (hs_111_82 hs1) ?_
    refine tw_iload rfl rfl ?_
    refine tw_iald rfl (fun f136 => ?_)
    refine tw_push rfl ?_
    refine tw_ic_ne rfl (fun q137 => ?_) (fun q137 => ?_)
    · try dsimp only [tvI_i, tvJ_j, tvR_r] at q137
      have q137i := zneq (Y := (-1)) (by decide) q137
      refine tw_iload rfl rfl ?_
      refine tw_aload rfl rfl ?_
      refine tw_getS rfl (hs_111_82 hs1) ?_
      refine tw_iload rfl rfl ?_
      refine tw_iald rfl (fun f138 => ?_)
      refine tw_isub rfl ?_
      refine tw_aload rfl rfl ?_
      refine tw_getS rfl (hs_111_81 hs1) ?_
      refine tw_iload rfl rfl ?_
      refine tw_iald rfl (fun f139 => ?_)
      refine tw_isub rfl ?_
      refine tw_aload rfl rfl ?_
      refine tw_getS rfl (hs_111_77 hs1) ?_
      refine tw_iload rfl rfl ?_
      refine tw_iald rfl (fun f140 => ?_)
      refine tw_isub rfl ?_
      have hab9 : ∀ j, j < (tvI (tF h 111 76)).toNatClampNeg → tA h1 172 j = sMx (tA h 169) (tA h 167) (tA h1 172) (tvI (tF h 111 76)).toNatClampNeg j ((tvI (tF h 111 76)).toNatClampNeg - 1 - j) := fun j hj => hab j (by omega) hj
      exact tw_iret rfl ⟨e, tA h1 172, tA h1 171, hG1.1, hG1.2, hab9, congrArg (fun z => some (Value.int z)) (show e - tA h1 172 k.toNatClampNeg - tA h1 171 k.toNatClampNeg - tA h1 167 k.toNatClampNeg = sRm (tA h1 172 k.toNatClampNeg) e (tA h1 171 k.toNatClampNeg) (tA h 167 k.toNatClampNeg) by unfold sRm; rw [if_neg q137, hF.2 167 (by decide) (by decide)])⟩
    · try dsimp only [tvI_i, tvJ_j, tvR_r] at q137
      have q137i := zeqi (Y := (-1)) (by decide) q137
      refine tw_push rfl ?_
      refine tw_goto rfl ?_
      have hab9 : ∀ j, j < (tvI (tF h 111 76)).toNatClampNeg → tA h1 172 j = sMx (tA h 169) (tA h 167) (tA h1 172) (tvI (tF h 111 76)).toNatClampNeg j ((tvI (tF h 111 76)).toNatClampNeg - 1 - j) := fun j hj => hab j (by omega) hj
      exact tw_iret rfl ⟨e, tA h1 172, tA h1 171, hG1.1, hG1.2, hab9, congrArg (fun z => some (Value.int z)) (show (-1 : Int32) = sRm (tA h1 172 k.toNatClampNeg) e (tA h1 171 k.toNatClampNeg) (tA h 167 k.toNatClampNeg) by unfold sRm; rw [if_pos]; exact q137)⟩
  · try dsimp only [tvI_i, tvJ_j, tvR_r] at q135
    refine tw_aload rfl rfl ?_
    refine tw_getS rfl (hs_111_82 hs1) ?_
    refine tw_iload rfl rfl ?_
    refine tw_iload rfl rfl ?_
    refine tw_aload rfl rfl ?_
    refine tw_getS rfl ((congrFun (congrFun hF.1 111) 76).trans (hi_111_76 hs)) ?_
    refine tw_push rfl ?_
    refine tw_isub rfl ?_
    refine tw_ic_ne rfl (fun q141 => ?_) (fun q141 => ?_)
    · try dsimp only [tvI_i, tvJ_j, tvR_r] at q141
      have q141i := zneq rfl q141
      refine tw_push rfl ?_
      refine tw_iast rfl (fun f142 => ?_)
      refine tw_iload rfl rfl ?_
      refine tw_push rfl ?_
      refine tw_iadd rfl ?_
      refine tw_istore rfl ?_
      refine tG_loop (zW_mono zTt G dp) (zW_conj zTt G dp) (V := fun pc L st h9 _ _ => pc = 44 ∧ st = [] ∧ ∃ (h2 : zH) (c : Nat) (y : Int32) (l5 : Option Value), h2 = h9 ∧ y.toInt = ((x.toNatClampNeg + 1 + c : Nat) : Int) ∧ y.toInt ≤ (tvI (tF h 111 76)).toInt ∧ gF2 h h2 ∧ (gP (tA h 169) (gLen (tA h 168) (tA h 167) (-2)) (tA h2 171) (tvI (tF h 111 76)).toNatClampNeg ∧ e = gEnd (tA h2 171) (gLen (tA h 168) (tA h 167) (-2)) (tvI (tF h 111 76)).toNatClampNeg) ∧ (∀ j : Nat, x.toNatClampNeg < j → j < (tvI (tF h 111 76)).toNatClampNeg → tA h2 172 j = sMx (tA h 169) (tA h 167) (tA h2 172) (tvI (tF h 111 76)).toNatClampNeg j ((tvI (tF h 111 76)).toNatClampNeg - 1 - j)) ∧ tA h2 172 x.toNatClampNeg = sMx (tA h 169) (tA h 167) (tA h2 172) (tvI (tF h 111 76)).toNatClampNeg x.toNatClampNeg c ∧ L = [some (.ref 111), some (.int k), some (.int e), some (.int x), some (.int y), l5]) ?_ (⟨rfl, rfl, _, 0, x + 1, _, rfl, (zincL (n := x.toNatClampNeg) (by rw [zclE]; omega) hxl).trans (by omega), by rw [zincL (n := x.toNatClampNeg) (by rw [zclE]; omega) hxl]; rw [zclE]; omega, gF2_A hF, (by rw [tA_nz (by decide)]; exact hG1), (mx_st (x := x) (s := x.toNatClampNeg) (k := 0) (by rw [zclE]; omega) f142 (fun j h1 h2 => hab j (by rw [zclE] at h1; omega) h2) ((if_neg (by rw [zclE, zclE]; omega) : (if x.toNatClampNeg + 1 = (tvI (tF h 111 76)).toNatClampNeg then (0 : Int32) else -1) = -1).symm)).1, (mx_st (x := x) (s := x.toNatClampNeg) (k := 0) (by rw [zclE]; omega) f142 (fun j h1 h2 => hab j (by rw [zclE] at h1; omega) h2) ((if_neg (by rw [zclE, zclE]; omega) : (if x.toNatClampNeg + 1 = (tvI (tF h 111 76)).toNatClampNeg then (0 : Int32) else -1) = -1).symm)).2, rfl⟩)
      rintro _ _ _ _ _ _ ⟨rfl, rfl, h2, c, y, l5, rfl, hy, hyl, hF2, hG2, hab2, hM, rfl⟩
      have hs2 := tSh_F hF2.1 hs
      refine tw_iload rfl rfl ?_
      refine tw_aload rfl rfl ?_
      refine tw_getS rfl ((congrFun (congrFun hF2.1 111) 76).trans (hi_111_76 hs)) ?_
      refine tw_ic_ge rfl (fun q143 => ?_) (fun q143 => ?_)
      · try dsimp only [tvI_i, tvJ_j, tvR_r] at q143
        refine tw_iinc rfl rfl ?_
        refine tw_goto rfl ?_
        have hxn : x.toInt = (x.toNatClampNeg : Nat) := by rw [zclE]; omega
        refine tG_cut (zW_mono zTt G dp) (Or.inl (Or.inr ⟨rfl, rfl, _, x + (-1), e, _, _, rfl, by rw [zdecI (x := x) (by omega)]; omega, by rw [zdecI (x := x) (by omega)]; omega, hF2, hG2, (fun j hj hj2 => ?_), rfl⟩))
        rw [zdecI (x := x) (by omega)] at hj
        by_cases e9 : j = x.toNatClampNeg
        · rw [e9, show (tvI (tF h 111 76)).toNatClampNeg - 1 - x.toNatClampNeg = c from by have y9 := zclx hk76; omega]; exact hM
        · exact hab2 j (by omega) hj2
      · try dsimp only [tvI_i, tvJ_j, tvR_r] at q143
        refine tw_aload rfl rfl ?_
        refine tw_getS rfl (hs_111_79 hs2) ?_
        refine tw_iload rfl rfl ?_
        refine tw_iald rfl (fun f144 => ?_)
        refine tw_iload rfl rfl ?_
        refine tw_ishr rfl ?_
        refine tw_push rfl ?_
        refine tw_iand rfl ?_
        refine tw_push rfl ?_
        refine tw_ic_ne rfl (fun q145 => ?_) (fun q145 => ?_)
        · try dsimp only [tvI_i, tvJ_j, tvR_r] at q145
          have q145i := zneq (Y := 1) (by decide) q145
          refine tw_push rfl ?_
          refine tw_istore rfl ?_
          refine tw_aload rfl rfl ?_
          refine tw_getS rfl (hs_111_82 hs2) ?_
          refine tw_iload rfl rfl ?_
          refine tw_iload rfl rfl ?_
          refine tw_if_eq rfl (fun _ => ?_) (fun z => absurd z (by decide))
          refine tw_aload rfl rfl ?_
          refine tw_getS rfl (hs_111_82 hs2) ?_
          refine tw_iload rfl rfl ?_
          refine tw_iald rfl (fun f146 => ?_)
          refine tw_iast rfl (fun f147 => ?_)
          refine tw_iinc rfl rfl ?_
          refine tw_goto rfl ?_
          have E169 := hF2.2 169 (by decide) (by decide)
          have E167 := hF2.2 167 (by decide) (by decide)
          have hxn : x.toInt = (x.toNatClampNeg : Nat) := by rw [zclE]; omega
          have hX : tA h2 172 x.toNatClampNeg = sMx (tA h 169) (tA h 167) (tA h2 172) (tvI (tF h 111 76)).toNatClampNeg x.toNatClampNeg (c + 1) := (mx_n hM (fun z => q145 (by have hb9 := z.1.1; unfold sBit at hb9; rw [← zof hxn] at hb9; rw [E169, zof_cl hy]; exact hb9)))
          have hst := mx_st hxn f147 hab2 hX
          exact tG_cut (zW_mono zTt G dp) (Or.inr ⟨rfl, rfl, _, c + 1, y + 1, _, rfl, (zincL hy q143).trans (by omega), by rw [zincL hy q143]; omega, gF2_A hF2, (by rw [tA_nz (by decide)]; exact hG2), hst.1, hst.2, rfl⟩)
        · try dsimp only [tvI_i, tvJ_j, tvR_r] at q145
          have q145i := zeqi (Y := 1) (by decide) q145
          refine tw_aload rfl rfl ?_
          refine tw_getS rfl (hs_111_82 hs2) ?_
          refine tw_iload rfl rfl ?_
          refine tw_iald rfl (fun f148 => ?_)
          refine tw_push rfl ?_
          refine tw_ic_eq rfl (fun q149 => ?_) (fun q149 => ?_)
          · try dsimp only [tvI_i, tvJ_j, tvR_r] at q149
            have q149i := zeqi (Y := (-1)) (by decide) q149
            refine tw_push rfl ?_
            refine tw_istore rfl ?_
            refine tw_aload rfl rfl ?_
            refine tw_getS rfl (hs_111_82 hs2) ?_
            refine tw_iload rfl rfl ?_
            refine tw_iload rfl rfl ?_
            refine tw_if_eq rfl (fun _ => ?_) (fun z => absurd z (by decide))
            refine tw_aload rfl rfl ?_
            refine tw_getS rfl (hs_111_82 hs2) ?_
            refine tw_iload rfl rfl ?_
            refine tw_iald rfl (fun f150 => ?_)
            refine tw_iast rfl (fun f151 => ?_)
            refine tw_iinc rfl rfl ?_
            refine tw_goto rfl ?_
            have E169 := hF2.2 169 (by decide) (by decide)
            have E167 := hF2.2 167 (by decide) (by decide)
            have hxn : x.toInt = (x.toNatClampNeg : Nat) := by rw [zclE]; omega
            have hX : tA h2 172 x.toNatClampNeg = sMx (tA h 169) (tA h 167) (tA h2 172) (tvI (tF h 111 76)).toNatClampNeg x.toNatClampNeg (c + 1) := (mx_n hM (fun z => z.1.2 (by rw [← zof_cl hy]; exact q149)))
            have hst := mx_st hxn f151 hab2 hX
            exact tG_cut (zW_mono zTt G dp) (Or.inr ⟨rfl, rfl, _, c + 1, y + 1, _, rfl, (zincL hy q143).trans (by omega), by rw [zincL hy q143]; omega, gF2_A hF2, (by rw [tA_nz (by decide)]; exact hG2), hst.1, hst.2, rfl⟩)
          · try dsimp only [tvI_i, tvJ_j, tvR_r] at q149
            have q149i := zneq (Y := (-1)) (by decide) q149
            refine tw_push rfl ?_
            refine tw_goto rfl ?_
            refine tw_istore rfl ?_
            refine tw_aload rfl rfl ?_
            refine tw_getS rfl (hs_111_82 hs2) ?_
            refine tw_iload rfl rfl ?_
            refine tw_iload rfl rfl ?_
            refine tw_if_eq rfl (fun z => absurd z (by decide)) (fun _ => ?_)
            refine tw_aload rfl rfl ?_
            refine tw_getS rfl (hs_111_77 hs2) ?_
            refine tw_iload rfl rfl ?_
            refine tw_iald rfl (fun f152 => ?_)
            refine tw_aload rfl rfl ?_
            refine tw_getS rfl (hs_111_82 hs2) ?_
            refine tw_iload rfl rfl ?_
            refine tw_iald rfl (fun f153 => ?_)
            refine tw_iadd rfl ?_
            refine tw_aload rfl rfl ?_
            refine tw_getS rfl (hs_111_82 hs2) ?_
            refine tw_iload rfl rfl ?_
            refine tw_iald rfl (fun f154 => ?_)
            refine tw_ic_le rfl (fun q155 => ?_) (fun q155 => ?_)
            · try dsimp only [tvI_i, tvJ_j, tvR_r] at q155
              refine tw_aload rfl rfl ?_
              refine tw_getS rfl (hs_111_82 hs2) ?_
              refine tw_iload rfl rfl ?_
              refine tw_iald rfl (fun f156 => ?_)
              refine tw_iast rfl (fun f157 => ?_)
              refine tw_iinc rfl rfl ?_
              refine tw_goto rfl ?_
              have E169 := hF2.2 169 (by decide) (by decide)
              have E167 := hF2.2 167 (by decide) (by decide)
              have hxn : x.toInt = (x.toNatClampNeg : Nat) := by rw [zclE]; omega
              have hX : tA h2 172 x.toNatClampNeg = sMx (tA h 169) (tA h 167) (tA h2 172) (tvI (tF h 111 76)).toNatClampNeg x.toNatClampNeg (c + 1) := (mx_n hM (fun z => absurd z.2 (by rw [← zof_cl hy, ← E167]; exact Int.not_lt.mpr q155)))
              have hst := mx_st hxn f157 hab2 hX
              exact tG_cut (zW_mono zTt G dp) (Or.inr ⟨rfl, rfl, _, c + 1, y + 1, _, rfl, (zincL hy q143).trans (by omega), by rw [zincL hy q143]; omega, gF2_A hF2, (by rw [tA_nz (by decide)]; exact hG2), hst.1, hst.2, rfl⟩)
            · try dsimp only [tvI_i, tvJ_j, tvR_r] at q155
              refine tw_aload rfl rfl ?_
              refine tw_getS rfl (hs_111_77 hs2) ?_
              refine tw_iload rfl rfl ?_
              refine tw_iald rfl (fun f158 => ?_)
              refine tw_aload rfl rfl ?_
              refine tw_getS rfl (hs_111_82 hs2) ?_
              refine tw_iload rfl rfl ?_
              refine tw_iald rfl (fun f159 => ?_)
              refine tw_iadd rfl ?_
              refine tw_goto rfl ?_
              refine tw_iast rfl (fun f160 => ?_)
              refine tw_iinc rfl rfl ?_
              refine tw_goto rfl ?_
              have E169 := hF2.2 169 (by decide) (by decide)
              have E167 := hF2.2 167 (by decide) (by decide)
              have hxn : x.toInt = (x.toNatClampNeg : Nat) := by rw [zclE]; omega
              have hX : tA h2 167 y.toNatClampNeg + tA h2 172 y.toNatClampNeg = sMx (tA h 169) (tA h 167) (tA h2 172) (tvI (tF h 111 76)).toNatClampNeg x.toNatClampNeg (c + 1) := (by rw [E167, zof_cl hy]; exact mx_y (X := tA h2 172 x.toNatClampNeg) hM (by unfold sBit; rw [← zof hxn, ← zof_cl hy, ← E169]; exact q145) (by rw [← zof_cl hy]; exact q149) (by rw [← zof_cl hy, ← E167]; exact q155))
              have hst := mx_st hxn f160 hab2 hX
              exact tG_cut (zW_mono zTt G dp) (Or.inr ⟨rfl, rfl, _, c + 1, y + 1, _, rfl, (zincL hy q143).trans (by omega), by rw [zincL hy q143]; omega, gF2_A hF2, (by rw [tA_nz (by decide)]; exact hG2), hst.1, hst.2, rfl⟩)
    · try dsimp only [tvI_i, tvJ_j, tvR_r] at q141
      have q141i := zeqi rfl q141
      refine tw_push rfl ?_
      refine tw_goto rfl ?_
      refine tw_iast rfl (fun f161 => ?_)
      refine tw_iload rfl rfl ?_
      refine tw_push rfl ?_
      refine tw_iadd rfl ?_
      refine tw_istore rfl ?_
      refine tG_loop (zW_mono zTt G dp) (zW_conj zTt G dp) (V := fun pc L st h9 _ _ => pc = 44 ∧ st = [] ∧ ∃ (h2 : zH) (c : Nat) (y : Int32) (l5 : Option Value), h2 = h9 ∧ y.toInt = ((x.toNatClampNeg + 1 + c : Nat) : Int) ∧ y.toInt ≤ (tvI (tF h 111 76)).toInt ∧ gF2 h h2 ∧ (gP (tA h 169) (gLen (tA h 168) (tA h 167) (-2)) (tA h2 171) (tvI (tF h 111 76)).toNatClampNeg ∧ e = gEnd (tA h2 171) (gLen (tA h 168) (tA h 167) (-2)) (tvI (tF h 111 76)).toNatClampNeg) ∧ (∀ j : Nat, x.toNatClampNeg < j → j < (tvI (tF h 111 76)).toNatClampNeg → tA h2 172 j = sMx (tA h 169) (tA h 167) (tA h2 172) (tvI (tF h 111 76)).toNatClampNeg j ((tvI (tF h 111 76)).toNatClampNeg - 1 - j)) ∧ tA h2 172 x.toNatClampNeg = sMx (tA h 169) (tA h 167) (tA h2 172) (tvI (tF h 111 76)).toNatClampNeg x.toNatClampNeg c ∧ L = [some (.ref 111), some (.int k), some (.int e), some (.int x), some (.int y), l5]) ?_ (⟨rfl, rfl, _, 0, x + 1, _, rfl, (zincL (n := x.toNatClampNeg) (by rw [zclE]; omega) hxl).trans (by omega), by rw [zincL (n := x.toNatClampNeg) (by rw [zclE]; omega) hxl]; rw [zclE]; omega, gF2_A hF, (by rw [tA_nz (by decide)]; exact hG1), (mx_st (x := x) (s := x.toNatClampNeg) (k := 0) (by rw [zclE]; omega) f161 (fun j h1 h2 => hab j (by rw [zclE] at h1; omega) h2) ((if_pos (by rw [zclE, zclE]; omega) : (if x.toNatClampNeg + 1 = (tvI (tF h 111 76)).toNatClampNeg then (0 : Int32) else -1) = 0).symm)).1, (mx_st (x := x) (s := x.toNatClampNeg) (k := 0) (by rw [zclE]; omega) f161 (fun j h1 h2 => hab j (by rw [zclE] at h1; omega) h2) ((if_pos (by rw [zclE, zclE]; omega) : (if x.toNatClampNeg + 1 = (tvI (tF h 111 76)).toNatClampNeg then (0 : Int32) else -1) = 0).symm)).2, rfl⟩)
      rintro _ _ _ _ _ _ ⟨rfl, rfl, h2, c, y, l5, rfl, hy, hyl, hF2, hG2, hab2, hM, rfl⟩
      have hs2 := tSh_F hF2.1 hs
      refine tw_iload rfl rfl ?_
      refine tw_aload rfl rfl ?_
      refine tw_getS rfl ((congrFun (congrFun hF2.1 111) 76).trans (hi_111_76 hs)) ?_
      refine tw_ic_ge rfl (fun q162 => ?_) (fun q162 => ?_)
      · try dsimp only [tvI_i, tvJ_j, tvR_r] at q162
        refine tw_iinc rfl rfl ?_
        refine tw_goto rfl ?_
        have hxn : x.toInt = (x.toNatClampNeg : Nat) := by rw [zclE]; omega
        refine tG_cut (zW_mono zTt G dp) (Or.inl (Or.inr ⟨rfl, rfl, _, x + (-1), e, _, _, rfl, by rw [zdecI (x := x) (by omega)]; omega, by rw [zdecI (x := x) (by omega)]; omega, hF2, hG2, (fun j hj hj2 => ?_), rfl⟩))
        rw [zdecI (x := x) (by omega)] at hj
        by_cases e9 : j = x.toNatClampNeg
        · rw [e9, show (tvI (tF h 111 76)).toNatClampNeg - 1 - x.toNatClampNeg = c from by have y9 := zclx hk76; omega]; exact hM
        · exact hab2 j (by omega) hj2
      · try dsimp only [tvI_i, tvJ_j, tvR_r] at q162
        refine tw_aload rfl rfl ?_
        refine tw_getS rfl (hs_111_79 hs2) ?_
        refine tw_iload rfl rfl ?_
        refine tw_iald rfl (fun f163 => ?_)
        refine tw_iload rfl rfl ?_
        refine tw_ishr rfl ?_
        refine tw_push rfl ?_
        refine tw_iand rfl ?_
        refine tw_push rfl ?_
        refine tw_ic_ne rfl (fun q164 => ?_) (fun q164 => ?_)
        · try dsimp only [tvI_i, tvJ_j, tvR_r] at q164
          have q164i := zneq (Y := 1) (by decide) q164
          refine tw_push rfl ?_
          refine tw_istore rfl ?_
          refine tw_aload rfl rfl ?_
          refine tw_getS rfl (hs_111_82 hs2) ?_
          refine tw_iload rfl rfl ?_
          refine tw_iload rfl rfl ?_
          refine tw_if_eq rfl (fun _ => ?_) (fun z => absurd z (by decide))
          refine tw_aload rfl rfl ?_
          refine tw_getS rfl (hs_111_82 hs2) ?_
          refine tw_iload rfl rfl ?_
          refine tw_iald rfl (fun f165 => ?_)
          refine tw_iast rfl (fun f166 => ?_)
          refine tw_iinc rfl rfl ?_
          refine tw_goto rfl ?_
          have E169 := hF2.2 169 (by decide) (by decide)
          have E167 := hF2.2 167 (by decide) (by decide)
          have hxn : x.toInt = (x.toNatClampNeg : Nat) := by rw [zclE]; omega
          have hX : tA h2 172 x.toNatClampNeg = sMx (tA h 169) (tA h 167) (tA h2 172) (tvI (tF h 111 76)).toNatClampNeg x.toNatClampNeg (c + 1) := (mx_n hM (fun z => q164 (by have hb9 := z.1.1; unfold sBit at hb9; rw [← zof hxn] at hb9; rw [E169, zof_cl hy]; exact hb9)))
          have hst := mx_st hxn f166 hab2 hX
          exact tG_cut (zW_mono zTt G dp) (Or.inr ⟨rfl, rfl, _, c + 1, y + 1, _, rfl, (zincL hy q162).trans (by omega), by rw [zincL hy q162]; omega, gF2_A hF2, (by rw [tA_nz (by decide)]; exact hG2), hst.1, hst.2, rfl⟩)
        · try dsimp only [tvI_i, tvJ_j, tvR_r] at q164
          have q164i := zeqi (Y := 1) (by decide) q164
          refine tw_aload rfl rfl ?_
          refine tw_getS rfl (hs_111_82 hs2) ?_
          refine tw_iload rfl rfl ?_
          refine tw_iald rfl (fun f167 => ?_)
          refine tw_push rfl ?_
          refine tw_ic_eq rfl (fun q168 => ?_) (fun q168 => ?_)
          · try dsimp only [tvI_i, tvJ_j, tvR_r] at q168
            have q168i := zeqi (Y := (-1)) (by decide) q168
            refine tw_push rfl ?_
            refine tw_istore rfl ?_
            refine tw_aload rfl rfl ?_
            refine tw_getS rfl (hs_111_82 hs2) ?_
            refine tw_iload rfl rfl ?_
            refine tw_iload rfl rfl ?_
            refine tw_if_eq rfl (fun _ => ?_) (fun z => absurd z (by decide))
            refine tw_aload rfl rfl ?_
            refine tw_getS rfl (hs_111_82 hs2) ?_
            refine tw_iload rfl rfl ?_
            refine tw_iald rfl (fun f169 => ?_)
            refine tw_iast rfl (fun f170 => ?_)
            refine tw_iinc rfl rfl ?_
            refine tw_goto rfl ?_
            have E169 := hF2.2 169 (by decide) (by decide)
            have E167 := hF2.2 167 (by decide) (by decide)
            have hxn : x.toInt = (x.toNatClampNeg : Nat) := by rw [zclE]; omega
            have hX : tA h2 172 x.toNatClampNeg = sMx (tA h 169) (tA h 167) (tA h2 172) (tvI (tF h 111 76)).toNatClampNeg x.toNatClampNeg (c + 1) := (mx_n hM (fun z => z.1.2 (by rw [← zof_cl hy]; exact q168)))
            have hst := mx_st hxn f170 hab2 hX
            exact tG_cut (zW_mono zTt G dp) (Or.inr ⟨rfl, rfl, _, c + 1, y + 1, _, rfl, (zincL hy q162).trans (by omega), by rw [zincL hy q162]; omega, gF2_A hF2, (by rw [tA_nz (by decide)]; exact hG2), hst.1, hst.2, rfl⟩)
          · try dsimp only [tvI_i, tvJ_j, tvR_r] at q168
            have q168i := zneq (Y := (-1)) (by decide) q168
            refine tw_push rfl ?_
            refine tw_goto rfl ?_
            refine tw_istore rfl ?_
            refine tw_aload rfl rfl ?_
            refine tw_getS rfl (hs_111_82 hs2) ?_
            refine tw_iload rfl rfl ?_
            refine tw_iload rfl rfl ?_
            refine tw_if_eq rfl (fun z => absurd z (by decide)) (fun _ => ?_)
            refine tw_aload rfl rfl ?_
            refine tw_getS rfl (hs_111_77 hs2) ?_
            refine tw_iload rfl rfl ?_
            refine tw_iald rfl (fun f171 => ?_)
            refine tw_aload rfl rfl ?_
            refine tw_getS rfl (hs_111_82 hs2) ?_
            refine tw_iload rfl rfl ?_
            refine tw_iald rfl (fun f172 => ?_)
            refine tw_iadd rfl ?_
            refine tw_aload rfl rfl ?_
            refine tw_getS rfl (hs_111_82 hs2) ?_
            refine tw_iload rfl rfl ?_
            refine tw_iald rfl (fun f173 => ?_)
            refine tw_ic_le rfl (fun q174 => ?_) (fun q174 => ?_)
            · try dsimp only [tvI_i, tvJ_j, tvR_r] at q174
              refine tw_aload rfl rfl ?_
              refine tw_getS rfl (hs_111_82 hs2) ?_
              refine tw_iload rfl rfl ?_
              refine tw_iald rfl (fun f175 => ?_)
              refine tw_iast rfl (fun f176 => ?_)
              refine tw_iinc rfl rfl ?_
              refine tw_goto rfl ?_
              have E169 := hF2.2 169 (by decide) (by decide)
              have E167 := hF2.2 167 (by decide) (by decide)
              have hxn : x.toInt = (x.toNatClampNeg : Nat) := by rw [zclE]; omega
              have hX : tA h2 172 x.toNatClampNeg = sMx (tA h 169) (tA h 167) (tA h2 172) (tvI (tF h 111 76)).toNatClampNeg x.toNatClampNeg (c + 1) := (mx_n hM (fun z => absurd z.2 (by rw [← zof_cl hy, ← E167]; exact Int.not_lt.mpr q174)))
              have hst := mx_st hxn f176 hab2 hX
              exact tG_cut (zW_mono zTt G dp) (Or.inr ⟨rfl, rfl, _, c + 1, y + 1, _, rfl, (zincL hy q162).trans (by omega), by rw [zincL hy q162]; omega, gF2_A hF2, (by rw [tA_nz (by decide)]; exact hG2), hst.1, hst.2, rfl⟩)
            · try dsimp only [tvI_i, tvJ_j, tvR_r] at q174
              refine tw_aload rfl rfl ?_
              refine tw_getS rfl (hs_111_77 hs2) ?_
              refine tw_iload rfl rfl ?_
              refine tw_iald rfl (fun f177 => ?_)
              refine tw_aload rfl rfl ?_
              refine tw_getS rfl (hs_111_82 hs2) ?_
              refine tw_iload rfl rfl ?_
              refine tw_iald rfl (fun f178 => ?_)
              refine tw_iadd rfl ?_
              refine tw_goto rfl ?_
              refine tw_iast rfl (fun f179 => ?_)
              refine tw_iinc rfl rfl ?_
              refine tw_goto rfl ?_
              have E169 := hF2.2 169 (by decide) (by decide)
              have E167 := hF2.2 167 (by decide) (by decide)
              have hxn : x.toInt = (x.toNatClampNeg : Nat) := by rw [zclE]; omega
              have hX : tA h2 167 y.toNatClampNeg + tA h2 172 y.toNatClampNeg = sMx (tA h 169) (tA h 167) (tA h2 172) (tvI (tF h 111 76)).toNatClampNeg x.toNatClampNeg (c + 1) := (by rw [E167, zof_cl hy]; exact mx_y (X := tA h2 172 x.toNatClampNeg) hM (by unfold sBit; rw [← zof hxn, ← zof_cl hy, ← E169]; exact q164) (by rw [← zof_cl hy]; exact q168) (by rw [← zof_cl hy, ← E167]; exact q174))
              have hst := mx_st hxn f179 hab2 hX
              exact tG_cut (zW_mono zTt G dp) (Or.inr ⟨rfl, rfl, _, c + 1, y + 1, _, rfl, (zincL hy q162).trans (by omega), by rw [zincL hy q162]; omega, gF2_A hF2, (by rw [tA_nz (by decide)]; exact hG2), hst.1, hst.2, rfl⟩)
noncomputable def ph_tm (k x : Int32) (h : zH) (w : Option Value) (_ : zH) : Prop := ((0 ≤ k.toInt ∧ k.toInt < (tvI (tF h 111 76)).toInt) ∧ ((x.toInt = 0 ∧ ∃ B, gP (tA h 169) (gLen (tA h 168) (tA h 167) (-2)) B (tvI (tF h 111 76)).toNatClampNeg ∧ w = some (.int (B k.toNatClampNeg))) ∨ (x.toInt = 1 ∧ ∃ B, gP (tA h 169) (gLen (tA h 168) (tA h 167) (-2)) B (tvI (tF h 111 76)).toNatClampNeg ∧ w = some (.int (B k.toNatClampNeg + tA h 167 k.toNatClampNeg))) ∨ (x.toInt = 2 ∧ ∃ (e : Int32) (A Bg : Nat → Int32), gP (tA h 169) (gLen (tA h 168) (tA h 167) (-2)) Bg (tvI (tF h 111 76)).toNatClampNeg ∧ e = gEnd Bg (gLen (tA h 168) (tA h 167) (-2)) (tvI (tF h 111 76)).toNatClampNeg ∧ (∀ j, j < (tvI (tF h 111 76)).toNatClampNeg → A j = sMx (tA h 169) (tA h 167) A (tvI (tF h 111 76)).toNatClampNeg j ((tvI (tF h 111 76)).toNatClampNeg - 1 - j)) ∧ w = some (.int (sRm (A k.toNatClampNeg) e (Bg k.toNatClampNeg) (tA h 167 k.toNatClampNeg)))))) ∨ (¬ ((0 ≤ k.toInt ∧ k.toInt < (tvI (tF h 111 76)).toInt) ∧ (0 ≤ x.toInt ∧ x.toInt ≤ 2)) ∧ w = some (.int (-2)))
theorem g_steps {G : zG} (hG : G.1 = zProg) {h : zH} {k x : Int32} (hs : tSh h) (hk76 : 0 ≤ (tvI (tF h 111 76)).toInt) : tC zTt G 260 [.ref 111, .int k, .int x] h (ph_tm k x h) := by
  refine tC_in (by rw [hG]; rfl) (fun dp => ?_)
  have hd76 := zsub1 hk76
  refine tw_iload rfl rfl ?_
  refine tw_i2l rfl ?_
  refine tw_push rfl ?_
  refine tw_aload rfl rfl ?_
  refine tw_getS rfl (hi_111_76 hs) ?_
  refine tw_push rfl ?_
  refine tw_isub rfl ?_
  refine tw_i2l rfl ?_
  refine tw_stat3 rfl (f_in hG  (LO := 0)  (Int32.toInt_toInt64 _) (by decide) (Int32.toInt_toInt64 _)) (fun w9 h9 p180 => ?_)
  obtain ⟨⟨p180, rfl⟩ | ⟨p180, rfl⟩, e9⟩ := p180
  · try dsimp only [tvI_i, tvJ_j, tvR_r] at p180
    obtain rfl := e9.symm
    refine tw_if_eq rfl (fun z => absurd z (by decide)) (fun _ => ?_)
    refine tw_iload rfl rfl ?_
    refine tw_i2l rfl ?_
    refine tw_push rfl ?_
    refine tw_push rfl ?_
    refine tw_stat3 rfl (f_in hG  (LO := 0) (HI := 2) (Int32.toInt_toInt64 _) (by decide) (by decide)) (fun w9 h9 p181 => ?_)
    obtain ⟨⟨p181, rfl⟩ | ⟨p181, rfl⟩, e9⟩ := p181
    · try dsimp only [tvI_i, tvJ_j, tvR_r] at p181
      obtain rfl := e9.symm
      refine tw_if_ne rfl (fun _ => ?_) (fun z => absurd z (by decide))
      refine tw_aload rfl rfl ?_
      refine tw_push rfl ?_
      refine tw_virt1 rfl (g_goes hG hs hk76) (fun wp182 hp182 p182 => ?_)
      obtain ⟨ep182, rfl, gp182⟩ := p182
      refine tw_istore rfl ?_
      refine tw_iload rfl rfl ?_
      refine tw_if_ne rfl (fun q183 => ?_) (fun q183 => ?_)
      · try dsimp only [tvI_i, tvJ_j, tvR_r] at q183
        have q183i := zneq (Y := 0) (by decide) q183
        refine tw_iload rfl rfl ?_
        refine tw_push rfl ?_
        refine tw_ic_ne rfl (fun q184 => ?_) (fun q184 => ?_)
        · try dsimp only [tvI_i, tvJ_j, tvR_r] at q184
          have q184i := zneq (Y := 1) (by decide) q184
          refine tw_aload rfl rfl ?_
          refine tw_iload rfl rfl ?_
          refine tw_virt1 rfl (g_slack hG (tSh_F gp182.1.1 hs) (by rw [gp182.1.1]; exact hk76)) (fun wp185 hp185 p185 => ?_)
          obtain ⟨ep185, Ap185, Bp185, xp185, yp185, zp185, rfl⟩ := p185
          have E167 := gp182.1.2 167 (by decide)
          have E168 := gp182.1.2 168 (by decide)
          have E169 := gp182.1.2 169 (by decide)
          have EN := congrFun (congrFun gp182.1.1 111) 76
          rw [E167, E168, E169, EN] at xp185
          rw [E167, E168, EN] at yp185
          rw [E167, E169, EN] at zp185
          exact tw_iret rfl (Or.inl ⟨by omega, Or.inr (Or.inr ⟨by omega, _, _, _, xp185, yp185, zp185, by rw [← E167]; rfl⟩)⟩)
        · try dsimp only [tvI_i, tvJ_j, tvR_r] at q184
          have q184i := zeqi (Y := 1) (by decide) q184
          refine tw_aload rfl rfl ?_
          refine tw_getS rfl (hs_111_81 (tSh_F gp182.1.1 hs)) ?_
          refine tw_iload rfl rfl ?_
          refine tw_iald rfl (fun f186 => ?_)
          refine tw_aload rfl rfl ?_
          refine tw_getS rfl (hs_111_77 (tSh_F gp182.1.1 hs)) ?_
          refine tw_iload rfl rfl ?_
          refine tw_iald rfl (fun f187 => ?_)
          refine tw_iadd rfl ?_
          refine tw_goto rfl ?_
          have E167 := gp182.1.2 167 (by decide)
          exact tw_iret rfl (Or.inl ⟨by omega, Or.inr (Or.inl ⟨by omega, _, gp182.2.1, by rw [← E167]; rfl⟩)⟩)
      · try dsimp only [tvI_i, tvJ_j, tvR_r] at q183
        have q183i := zeqi (Y := 0) (by decide) q183
        refine tw_aload rfl rfl ?_
        refine tw_getS rfl (hs_111_81 (tSh_F gp182.1.1 hs)) ?_
        refine tw_iload rfl rfl ?_
        refine tw_iald rfl (fun f188 => ?_)
        refine tw_goto rfl ?_
        exact tw_iret rfl (Or.inl ⟨by omega, Or.inl ⟨by omega, _, gp182.2.1, rfl⟩⟩)
    · try dsimp only [tvI_i, tvJ_j, tvR_r] at p181
      obtain rfl := e9.symm
      refine tw_if_ne rfl (fun z => absurd z (by decide)) (fun _ => ?_)
      refine tw_push rfl ?_
      exact tw_iret rfl (Or.inr ⟨by omega, rfl⟩)
  · try dsimp only [tvI_i, tvJ_j, tvR_r] at p180
    obtain rfl := e9.symm
    refine tw_if_eq rfl (fun _ => ?_) (fun z => absurd z (by decide))
    refine tw_push rfl ?_
    exact tw_iret rfl (Or.inr ⟨by omega, rfl⟩)
theorem a_steps {k x : Int32} {h h2 h3 : zH} {w w2 : Option Value} (hR : R_rend h) (hS : R_steps h) (hM : R_smonths h) (hF : R_sfirm h) (hB : R_sbehind h) (hC : R_scoins h) (hk : ∀ i, i < 24 → -1 ≤ (tA h 83 i).toInt) (hn2 : 0 ≤ (tvI (tF h 81 7)).toInt ∧ (tvI (tF h 81 7)).toInt ≤ 24) (hm : ∀ i, i < 24 → 0 ≤ (tA h 82 i).toInt ∧ (tA h 82 i).toInt ≤ 99) (e1 : tF h2 111 76 = tF h 111 76) (o167 : tA h2 167 = tA h 167) (o168 : tA h2 168 = tA h 168) (o169 : tA h2 169 = tA h 169) (o170 : tA h2 170 = tA h 170) (k1 : ph_tc k x h w h2) (k2 : ph_tm k x h2 w2 h3) : w2 = w := by
  have hS0 := hS
  have hM0 := hM
  have hF0 := hF
  have hB0 := hB
  unfold R_steps at hS0
  unfold R_smonths at hM0
  unfold R_sfirm at hF0
  unfold R_sbehind at hB0
  unfold ph_tm at k2
  rw [e1, o167, o168, o169, ← hS0] at k2
  rcases k1 with ⟨-, ⟨c1, k1⟩ | ⟨c1, rfl⟩⟩ <;> rcases k2 with ⟨c2, k2⟩ | ⟨c2, rfl⟩
  · have hK : k.toNatClampNeg < (tvI (tF h 81 7)).toNatClampNeg := by rw [zclE, zclE]; omega
    rcases k1 with ⟨d1, rfl⟩ | ⟨d1, rfl⟩ | ⟨d1, T0, hT, rfl⟩ <;> rcases k2 with ⟨d2, B, hP, rfl⟩ | ⟨d2, B, hP, rfl⟩ | ⟨d2, e, A, B, hP, he, hA, rfl⟩ <;> first
      | omega
      | skip
    · obtain ⟨e2, e3, -⟩ := plan_E hR hS hM hF hB hk rfl hn2 hP k.toNatClampNeg hK
      rw [e2]
    · obtain ⟨e2, e3, -⟩ := plan_E hR hS hM hF hB hk rfl hn2 hP k.toNatClampNeg hK
      rw [e3]
    · obtain ⟨last, hl⟩ : ∃ last, (tvI (tF h 81 7)).toNatClampNeg = last + 1 := ⟨(tvI (tF h 81 7)).toNatClampNeg - 1, by omega⟩
      have hl24 : last < 24 := by rw [zclE] at hl; omega
      obtain ⟨e2, e3, -⟩ := plan_E hR hS hM hF hB hk rfl hn2 hP k.toNatClampNeg hK
      obtain ⟨u2, u3, u4⟩ := plan_E hR hS hM hF hB hk rfl hn2 hP last (by omega)
      rw [hl] at hT hA he hK ⊢
      rw [← hM0, ← hB0] at hA
      have hPl := sPl_of (be := tA h 84) (eb := tA h 86) (ee := tA h 87) (mo := tA h 82) (n := last + 1) (by omega) (fun j hj => hm j (by omega)) (fun j hj => hR j (by rw [zclE] at hl; omega))
      have hLw := sLw_of (be := tA h 84) (by omega) (fun j hj => hm j (by omega)) hA
      have hCl := sCl_of (T0 := T0) hl24 hPl hLw (fun j hj => by rw [hT j hj]; by_cases z : j = last <;> simp [z]) (last - k.toNatClampNeg) (by omega)
      have hat := sCl_at hPl hLw hCl (i := k.toNatClampNeg) (by omega) (by omega)
      try dsimp only at hat
      have he2 : e = tA h 87 last := by
        rw [he]
        show B last + gLen (tA h 168) (tA h 167) (-2) last = _
        rw [u4, u3]
      have hpk := (hPl k.toNatClampNeg (by omega)).1
      have hpl := (hPl last (by omega)).1
      have hak := (hLw k.toNatClampNeg (by omega)).1
      try dsimp only at hpk hpl hak
      show some (Value.int (sRm (A k.toNatClampNeg) e (B k.toNatClampNeg) (tA h 167 k.toNatClampNeg))) = some (Value.int (sRs (sOut (tA h 84) (tA h 82) T0 last (last - k.toNatClampNeg) k.toNatClampNeg) (tA h 87 k.toNatClampNeg)))
      unfold sRm sRs
      by_cases z : A k.toNatClampNeg = -1
      · rw [if_pos z, if_pos (zm1.mpr (hat.1.mpr (zm1.mp z)))]
      · have z2 := fun y => z (zm1.mpr (hat.1.mp (zm1.mp y)))
        rw [if_neg z, if_neg z2]
        have h5 := hat.2 (fun y => z2 (zm1.mpr y))
        have b2 := hm k.toNatClampNeg (by omega)
        rw [← e2, he2, ← hM0]
        congr 2
        refine Int32.toInt_inj.mp ?_
        have s1 := zsubI (x := tA h 87 last) (y := A k.toNatClampNeg) (by omega) (by omega)
        have s2 := zsubI (x := tA h 87 last - A k.toNatClampNeg) (y := tA h 86 k.toNatClampNeg) (by omega) (by omega)
        have s3 := zsubI (x := tA h 87 last - A k.toNatClampNeg - tA h 86 k.toNatClampNeg) (y := tA h 82 k.toNatClampNeg) (by omega) (by omega)
        have s4 := zsubI (x := sOut (tA h 84) (tA h 82) T0 last (last - k.toNatClampNeg) k.toNatClampNeg) (y := tA h 87 k.toNatClampNeg) (by omega) (by omega)
        omega
  · exact absurd ⟨c1, by omega⟩ c2
  · exact absurd ⟨c2, by omega⟩ c1
  · rfl
theorem f_delayBy {G : zG} (hG : G.1 = zProg) {h : zH} {w : Int32} (hs : tSh h) (hn : 0 ≤ (tvI (tF h 81 7)).toInt) : tC zTt G 50 [.ref 81, .int w] h (fun v h2 => ∃ x, v = some (.int x) ∧ dIn h h2 w (tvI (tF h 81 7)).toNatClampNeg ∧ (0 < (tvI (tF h 81 7)).toInt → x = tA h 87 ((tvI (tF h 81 7)).toNatClampNeg - 1) - tA h2 88 ((tvI (tF h 81 7)).toNatClampNeg - 1))) := by
  refine tC_in (by rw [hG]; rfl) (fun dp => ?_)
  refine tw_push rfl ?_
  refine tw_istore rfl ?_
  refine tG_loop (zW_mono zTt G dp) (zW_conj zTt G dp) (V := fun pc L st h9 _ _ => pc = 2 ∧ st = [] ∧ ∃ (h1 : zH) (k : Nat) (x : Int32), h1 = h9 ∧ x.toInt = k ∧ (k : Int) ≤ (tvI (tF h 81 7)).toInt ∧ dIn h h1 w k ∧ L = [some (.ref 81), some (.int w), some (.int x)]) ?_ (⟨rfl, rfl, h, 0, 0, rfl, rfl, hn, ⟨⟨rfl, fun _ _ => rfl⟩, fun j hj => by omega⟩, rfl⟩)
  rintro _ _ _ _ _ _ ⟨rfl, rfl, h1, k, x, rfl, hx, hk, hD, rfl⟩
  have hs1 := tSh_F hD.1.1 hs
  refine tw_iload rfl rfl ?_
  refine tw_aload rfl rfl ?_
  refine tw_getS rfl ((congrFun (congrFun hD.1.1 81) 7).trans (hi_81_7 hs)) ?_
  refine tw_ic_ge rfl (fun q189 => ?_) (fun q189 => ?_)
  · try dsimp only [tvI_i, tvJ_j, tvR_r] at q189
    refine tw_aload rfl rfl ?_
    refine tw_getS rfl ((congrFun (congrFun hD.1.1 81) 7).trans (hi_81_7 hs)) ?_
    refine tw_if_ne rfl (fun q190 => ?_) (fun q190 => ?_)
    · try dsimp only [tvI_i, tvJ_j, tvR_r] at q190
      have q190i := zneq (Y := 0) (by decide) q190
      refine tw_aload rfl rfl ?_
      refine tw_getS rfl (hs_81_5 hs1) ?_
      refine tw_aload rfl rfl ?_
      refine tw_getS rfl ((congrFun (congrFun hD.1.1 81) 7).trans (hi_81_7 hs)) ?_
      refine tw_push rfl ?_
      refine tw_isub rfl ?_
      refine tw_iald rfl (fun f191 => ?_)
      refine tw_aload rfl rfl ?_
      refine tw_getS rfl (hs_81_6 hs1) ?_
      refine tw_aload rfl rfl ?_
      refine tw_getS rfl ((congrFun (congrFun hD.1.1 81) 7).trans (hi_81_7 hs)) ?_
      refine tw_push rfl ?_
      refine tw_isub rfl ?_
      refine tw_iald rfl (fun f192 => ?_)
      refine tw_isub rfl ?_
      have hk9 : k = (tvI (tF h 81 7)).toNatClampNeg := by rw [zclE]; omega
      rw [hk9] at hD
      exact tw_iret rfl ⟨_, rfl, hD, fun z => by rw [← zpredN z, ← hD.1.2 87 (by decide)]; rfl⟩
    · try dsimp only [tvI_i, tvJ_j, tvR_r] at q190
      have q190i := zeqi (Y := 0) (by decide) q190
      refine tw_push rfl ?_
      refine tw_goto rfl ?_
      have hk9 : k = (tvI (tF h 81 7)).toNatClampNeg := by rw [zclE]; omega
      rw [hk9] at hD
      exact tw_iret rfl ⟨_, rfl, hD, fun z => absurd q190i (by omega)⟩
  · try dsimp only [tvI_i, tvJ_j, tvR_r] at q189
    refine tw_aload rfl rfl ?_
    refine tw_getS rfl (hs_81_6 hs1) ?_
    refine tw_iload rfl rfl ?_
    refine tw_aload rfl rfl ?_
    refine tw_iload rfl rfl ?_
    refine tw_aload rfl rfl ?_
    refine tw_getS rfl (hs_81_6 hs1) ?_
    refine tw_virt2 rfl (f_beginOf hG hs1 (by omega)) (fun w9 h9 p193 => ?_)
    obtain ⟨rfl, e9⟩ := p193
    obtain rfl := e9.symm
    refine tw_aload rfl rfl ?_
    refine tw_getS rfl (hs_81_1 hs1) ?_
    refine tw_iload rfl rfl ?_
    refine tw_iald rfl (fun f194 => ?_)
    refine tw_iload rfl rfl ?_
    refine tw_ic_ne rfl (fun q195 => ?_) (fun q195 => ?_)
    · try dsimp only [tvI_i, tvJ_j, tvR_r] at q195
      have q195i := zneq rfl q195
      refine tw_aload rfl rfl ?_
      refine tw_getS rfl (hs_81_0 hs1) ?_
      refine tw_iload rfl rfl ?_
      refine tw_iald rfl (fun f196 => ?_)
      refine tw_iadd rfl ?_
      refine tw_iast rfl (fun f197 => ?_)
      refine tw_iinc rfl rfl ?_
      refine tw_goto rfl ?_
      exact tG_cut (zW_mono zTt G dp) (Or.inr ⟨rfl, rfl, _, k + 1, x + 1, rfl, zincL hx q189, by omega, d_st hD hx f197 (d_len2 hD.1 hx q195), rfl⟩)
    · try dsimp only [tvI_i, tvJ_j, tvR_r] at q195
      have q195i := zeqi rfl q195
      refine tw_push rfl ?_
      refine tw_goto rfl ?_
      refine tw_iadd rfl ?_
      refine tw_iast rfl (fun f198 => ?_)
      refine tw_iinc rfl rfl ?_
      refine tw_goto rfl ?_
      exact tG_cut (zW_mono zTt G dp) (Or.inr ⟨rfl, rfl, _, k + 1, x + 1, rfl, zincL hx q189, by omega, d_st hD hx f198 (d_len1 hD.1 hx q195), rfl⟩)
noncomputable def ph_poc (w : Int32) (h : zH) (v : Option Value) (h2 : zH) : Prop := gFr 88 h h2 ∧ ((((0 ≤ w.toInt ∧ w.toInt ≤ 3) ∧ 0 < (tvI (tF h 81 7)).toInt) ∧ ∃ D : Nat → Int32, (∀ j, j < (tvI (tF h 81 7)).toNatClampNeg → D j = sBe (tA h 84 j) D j + gLen (tA h 83) (tA h 82) w j) ∧ v = some (.int (tA h 87 ((tvI (tF h 81 7)).toNatClampNeg - 1) - D ((tvI (tF h 81 7)).toNatClampNeg - 1)))) ∨ (¬ ((0 ≤ w.toInt ∧ w.toInt ≤ 3) ∧ 0 < (tvI (tF h 81 7)).toInt) ∧ v = some (.int (-1))))
noncomputable def ph_pom (w : Int32) (h : zH) (v : Option Value) (_ : zH) : Prop := (((0 ≤ w.toInt ∧ w.toInt ≤ 3) ∧ 0 < (tvI (tF h 111 76)).toInt) ∧ ∃ B D : Nat → Int32, gP (tA h 169) (gLen (tA h 168) (tA h 167) (-2)) B (tvI (tF h 111 76)).toNatClampNeg ∧ gP (tA h 169) (gLen (tA h 168) (tA h 167) w) D (tvI (tF h 111 76)).toNatClampNeg ∧ v = some (.int (gEnd B (gLen (tA h 168) (tA h 167) (-2)) (tvI (tF h 111 76)).toNatClampNeg - gEnd D (gLen (tA h 168) (tA h 167) w) (tvI (tF h 111 76)).toNatClampNeg))) ∨ (¬ ((0 ≤ w.toInt ∧ w.toInt ≤ 3) ∧ 0 < (tvI (tF h 111 76)).toInt) ∧ v = some (.int (-1)))
theorem f_putOff {G : zG} (hG : G.1 = zProg) {h : zH} {w : Int32} (hs : tSh h) (hk0 : 0 ≤ (tvI (tF h 81 7)).toInt) : tC zTt G 143 [.ref 0, .int w] h (ph_poc w h) := by
  refine tC_in (by rw [hG]; rfl) (fun dp => ?_)
  refine tw_iload rfl rfl ?_
  refine tw_stat1 rfl (f_isFirm hG) (fun w9 h9 p199 => ?_)
  obtain ⟨⟨p199, rfl⟩ | ⟨p199, rfl⟩, e9⟩ := p199
  · try dsimp only [tvI_i, tvJ_j, tvR_r] at p199
    obtain rfl := e9.symm
    refine tw_if_eq rfl (fun z => absurd z (by decide)) (fun _ => ?_)
    refine tw_aload rfl rfl ?_
    refine tw_getS rfl (hs_0_7 hs) ?_
    refine tw_getS rfl (hi_81_7 hs) ?_
    refine tw_if_le rfl (fun q200 => ?_) (fun q200 => ?_)
    · try dsimp only [tvI_i, tvJ_j, tvR_r] at q200
      refine tw_push rfl ?_
      exact tw_iret rfl ⟨⟨rfl, fun _ _ => rfl⟩, Or.inr ⟨by omega, rfl⟩⟩
    · try dsimp only [tvI_i, tvJ_j, tvR_r] at q200
      refine tw_aload rfl rfl ?_
      refine tw_getS rfl (hs_0_7 hs) ?_
      refine tw_iload rfl rfl ?_
      refine tw_virt1 rfl (f_delayBy hG hs hk0) (fun wp201 hp201 p201 => ?_)
      obtain ⟨xp201, rfl, gp201, ep201⟩ := p201
      refine tw_goto rfl ?_
      exact tw_iret rfl ⟨gp201.1, Or.inl ⟨⟨by omega, by omega⟩, _, gp201.2, by rw [ep201 (by omega)]; rfl⟩⟩
  · try dsimp only [tvI_i, tvJ_j, tvR_r] at p199
    obtain rfl := e9.symm
    refine tw_if_eq rfl (fun _ => ?_) (fun z => absurd z (by decide))
    refine tw_push rfl ?_
    exact tw_iret rfl ⟨⟨rfl, fun _ _ => rfl⟩, Or.inr ⟨by omega, rfl⟩⟩
theorem g_putOff {G : zG} (hG : G.1 = zProg) {h : zH} {w : Int32} (hs : tSh h) (hk76 : 0 ≤ (tvI (tF h 111 76)).toInt) : tC zTt G 261 [.ref 111, .int w] h (ph_pom w h) := by
  refine tC_in (by rw [hG]; rfl) (fun dp => ?_)
  refine tw_iload rfl rfl ?_
  refine tw_i2l rfl ?_
  refine tw_push rfl ?_
  refine tw_push rfl ?_
  refine tw_stat3 rfl (f_in hG  (LO := 0) (HI := 3) (Int32.toInt_toInt64 _) (by decide) (by decide)) (fun w9 h9 p202 => ?_)
  obtain ⟨⟨p202, rfl⟩ | ⟨p202, rfl⟩, e9⟩ := p202
  · try dsimp only [tvI_i, tvJ_j, tvR_r] at p202
    obtain rfl := e9.symm
    refine tw_if_eq rfl (fun z => absurd z (by decide)) (fun _ => ?_)
    refine tw_aload rfl rfl ?_
    refine tw_getS rfl (hi_111_76 hs) ?_
    refine tw_if_le rfl (fun q203 => ?_) (fun q203 => ?_)
    · try dsimp only [tvI_i, tvJ_j, tvR_r] at q203
      refine tw_push rfl ?_
      exact tw_iret rfl (Or.inr ⟨by omega, rfl⟩)
    · try dsimp only [tvI_i, tvJ_j, tvR_r] at q203
      refine tw_aload rfl rfl ?_
      refine tw_push rfl ?_
      refine tw_virt1 rfl (g_goes hG hs hk76) (fun wp204 hp204 p204 => ?_)
      obtain ⟨ep204, rfl, gp204⟩ := p204
      refine tw_aload rfl rfl ?_
      refine tw_iload rfl rfl ?_
      refine tw_virt1 rfl (g_goes hG (tSh_F gp204.1.1 hs) (by rw [gp204.1.1]; exact hk76)) (fun wp205 hp205 p205 => ?_)
      obtain ⟨ep205, rfl, gp205⟩ := p205
      refine tw_isub rfl ?_
      refine tw_goto rfl ?_
      have E167 := gp204.1.2 167 (by decide)
      have E168 := gp204.1.2 168 (by decide)
      have E169 := gp204.1.2 169 (by decide)
      have EN := congrFun (congrFun gp204.1.1 111) 76
      have G2 := gp205
      unfold gOut at G2
      rw [E167, E168, E169, EN] at G2
      exact tw_iret rfl (Or.inl ⟨⟨by omega, by omega⟩, _, _, gp204.2.1, G2.2.1, by rw [← gp204.2.2, ← G2.2.2]; rfl⟩)
  · try dsimp only [tvI_i, tvJ_j, tvR_r] at p202
    obtain rfl := e9.symm
    refine tw_if_eq rfl (fun _ => ?_) (fun z => absurd z (by decide))
    refine tw_push rfl ?_
    exact tw_iret rfl (Or.inr ⟨by omega, rfl⟩)
theorem a_putOff {w : Int32} {h h2 h3 : zH} {v v2 : Option Value} (hR : R_rend h) (hS : R_steps h) (hM : R_smonths h) (hF : R_sfirm h) (hB : R_sbehind h) (hC : R_scoins h) (hk : ∀ i, i < 24 → -1 ≤ (tA h 83 i).toInt) (hn2 : 0 ≤ (tvI (tF h 81 7)).toInt ∧ (tvI (tF h 81 7)).toInt ≤ 24) (e1 : tF h2 111 76 = tF h 111 76) (o167 : tA h2 167 = tA h 167) (o168 : tA h2 168 = tA h 168) (o169 : tA h2 169 = tA h 169) (o170 : tA h2 170 = tA h 170) (k1 : ph_poc w h v h2) (k2 : ph_pom w h2 v2 h3) : v2 = v := by
  have hS0 := hS
  have hM0 := hM
  have hF0 := hF
  have hB0 := hB
  unfold R_steps at hS0
  unfold R_smonths at hM0
  unfold R_sfirm at hF0
  unfold R_sbehind at hB0
  unfold ph_pom at k2
  rw [e1, o167, o168, o169, ← hS0] at k2
  rcases k1 with ⟨-, ⟨c1, D1, hD1, rfl⟩ | ⟨c1, rfl⟩⟩ <;> rcases k2 with ⟨c2, B, D, hP, hD, rfl⟩ | ⟨c2, rfl⟩
  · obtain ⟨n, hn⟩ : ∃ n, (tvI (tF h 81 7)).toNatClampNeg = n + 1 := ⟨(tvI (tF h 81 7)).toNatClampNeg - 1, by rw [zclE]; omega⟩
    obtain ⟨e2, e3, e4⟩ := plan_E hR hS hM hF hB hk rfl hn2 hP n (by omega)
    have e5 := sUniq (be := tA h 84) (fun _ _ => rfl) hD1 (gP_E (be := tA h 84) (l := gLen (tA h 83) (tA h 82) w) (by rw [hB0, hF0, hM0]; exact hD)) n (by omega)
    rw [hn]
    show some (Value.int ((B n + _) - (D n + _))) = some (Value.int (tA h 87 n - D1 n))
    rw [e4, e3, e5, hF0, hM0]
  · exact absurd c1 c2
  · exact absurd c2 c1
  · rfl
theorem f_isMonth {G : zG} (hG : G.1 = zProg) {h : zH} {n : Int32} : tC zTt G 159 [.int n] h (fun w h2 => tBo (0 ≤ n.toInt ∧ n.toInt ≤ 599) w ∧ h2 = h) := by
  refine tC_in (by rw [hG]; rfl) (fun dp => ?_)
  refine tw_iload rfl rfl ?_
  refine tw_push rfl ?_
  refine tw_push rfl ?_
  refine tw_stat3 rfl (f_isWithin hG (LO := 0) (HI := 599) (by decide) (by decide)) (fun w9 h9 p206 => ?_)
  obtain ⟨⟨p206, rfl⟩ | ⟨p206, rfl⟩, rfl⟩ := p206
  · try dsimp only [tvI_i, tvJ_j, tvR_r] at p206
    exact tw_iret rfl ⟨Or.inl ⟨p206, rfl⟩, rfl⟩
  · try dsimp only [tvI_i, tvJ_j, tvR_r] at p206
    exact tw_iret rfl ⟨Or.inr ⟨p206, rfl⟩, rfl⟩
theorem g_isMonth {G : zG} (hG : G.1 = zProg) {h : zH} {n : Int32} : tC zTt G 172 [.int n] h (fun w h2 => tBo (0 ≤ n.toInt ∧ n.toInt ≤ 599) w ∧ h2 = h) := by
  refine tC_in (by rw [hG]; rfl) (fun dp => ?_)
  refine tw_iload rfl rfl ?_
  refine tw_i2l rfl ?_
  refine tw_push rfl ?_
  refine tw_push rfl ?_
  refine tw_stat3 rfl (f_in hG  (LO := 0) (HI := 599) (Int32.toInt_toInt64 _) (by decide) (by decide)) (fun w9 h9 p207 => ?_)
  obtain ⟨⟨p207, rfl⟩ | ⟨p207, rfl⟩, rfl⟩ := p207
  · try dsimp only [tvI_i, tvJ_j, tvR_r] at p207
    exact tw_iret rfl ⟨Or.inl ⟨p207, rfl⟩, rfl⟩
  · try dsimp only [tvI_i, tvJ_j, tvR_r] at p207
    exact tw_iret rfl ⟨Or.inr ⟨p207, rfl⟩, rfl⟩
noncomputable def ph_chc (s m : Int32) (h : zH) (w : Option Value) (_ : zH) : Prop := (((0 ≤ s.toInt ∧ s.toInt < (tvI (tF h 81 7)).toInt) ∧ (0 ≤ m.toInt ∧ m.toInt ≤ 599)) ∧ w = some (.int (sCo (tA h 86 s.toNatClampNeg) (tA h 87 s.toNatClampNeg) (tA h 85 s.toNatClampNeg) m))) ∨ (¬ ((0 ≤ s.toInt ∧ s.toInt < (tvI (tF h 81 7)).toInt) ∧ (0 ≤ m.toInt ∧ m.toInt ≤ 599)) ∧ w = some (.int (-1)))
noncomputable def ph_chm (s m : Int32) (h : zH) (w : Option Value) (_ : zH) : Prop := (((0 ≤ s.toInt ∧ s.toInt < (tvI (tF h 111 76)).toInt) ∧ (0 ≤ m.toInt ∧ m.toInt ≤ 599)) ∧ ∃ B, gP (tA h 169) (gLen (tA h 168) (tA h 167) (-2)) B (tvI (tF h 111 76)).toNatClampNeg ∧ w = some (.int (sCo (B s.toNatClampNeg) (B s.toNatClampNeg + tA h 167 s.toNatClampNeg) (tA h 170 s.toNatClampNeg) m))) ∨ (¬ ((0 ≤ s.toInt ∧ s.toInt < (tvI (tF h 111 76)).toInt) ∧ (0 ≤ m.toInt ∧ m.toInt ≤ 599)) ∧ w = some (.int (-1)))
theorem f_change {G : zG} (hG : G.1 = zProg) {h : zH} {s m : Int32} (hs : tSh h) : tC zTt G 144 [.ref 0, .int s, .int m] h (ph_chc s m h) := by
  refine tC_in (by rw [hG]; rfl) (fun dp => ?_)
  refine tw_aload rfl rfl ?_
  refine tw_getS rfl (hs_0_7 hs) ?_
  refine tw_iload rfl rfl ?_
  refine tw_virt1 rfl (f_hasStep hG hs) (fun w9 h9 p208 => ?_)
  obtain ⟨⟨p208, rfl⟩ | ⟨p208, rfl⟩, e9⟩ := p208
  · try dsimp only [tvI_i, tvJ_j, tvR_r] at p208
    obtain rfl := e9.symm
    refine tw_if_eq rfl (fun z => absurd z (by decide)) (fun _ => ?_)
    refine tw_iload rfl rfl ?_
    refine tw_stat1 rfl (f_isMonth hG) (fun w9 h9 p209 => ?_)
    obtain ⟨⟨p209, rfl⟩ | ⟨p209, rfl⟩, e9⟩ := p209
    · try dsimp only [tvI_i, tvJ_j, tvR_r] at p209
      obtain rfl := e9.symm
      refine tw_if_eq rfl (fun z => absurd z (by decide)) (fun _ => ?_)
      refine tw_aload rfl rfl ?_
      refine tw_getS rfl (hs_0_7 hs) ?_
      refine tw_iload rfl rfl ?_
      refine tw_iload rfl rfl ?_
      refine tw_virt2 rfl (f_costOf hG hs) (fun w9 h9 p210 => ?_)
      obtain ⟨rfl, e9⟩ := p210
      obtain rfl := e9.symm
      refine tw_goto rfl ?_
      exact tw_iret rfl (Or.inl ⟨by omega, rfl⟩)
    · try dsimp only [tvI_i, tvJ_j, tvR_r] at p209
      obtain rfl := e9.symm
      refine tw_if_eq rfl (fun _ => ?_) (fun z => absurd z (by decide))
      refine tw_push rfl ?_
      exact tw_iret rfl (Or.inr ⟨by omega, rfl⟩)
  · try dsimp only [tvI_i, tvJ_j, tvR_r] at p208
    obtain rfl := e9.symm
    refine tw_if_eq rfl (fun _ => ?_) (fun z => absurd z (by decide))
    refine tw_push rfl ?_
    exact tw_iret rfl (Or.inr ⟨by omega, rfl⟩)
theorem g_change {G : zG} (hG : G.1 = zProg) {h : zH} {s m : Int32} (hs : tSh h) (hk76 : 0 ≤ (tvI (tF h 111 76)).toInt) : tC zTt G 263 [.ref 111, .int s, .int m] h (ph_chm s m h) := by
  refine tC_in (by rw [hG]; rfl) (fun dp => ?_)
  have hd76 := zsub1 hk76
  refine tw_iload rfl rfl ?_
  refine tw_i2l rfl ?_
  refine tw_push rfl ?_
  refine tw_aload rfl rfl ?_
  refine tw_getS rfl (hi_111_76 hs) ?_
  refine tw_push rfl ?_
  refine tw_isub rfl ?_
  refine tw_i2l rfl ?_
  refine tw_stat3 rfl (f_in hG  (LO := 0)  (Int32.toInt_toInt64 _) (by decide) (Int32.toInt_toInt64 _)) (fun w9 h9 p211 => ?_)
  obtain ⟨⟨p211, rfl⟩ | ⟨p211, rfl⟩, e9⟩ := p211
  · try dsimp only [tvI_i, tvJ_j, tvR_r] at p211
    obtain rfl := e9.symm
    refine tw_if_eq rfl (fun z => absurd z (by decide)) (fun _ => ?_)
    refine tw_iload rfl rfl ?_
    refine tw_stat1 rfl (g_isMonth hG) (fun w9 h9 p212 => ?_)
    obtain ⟨⟨p212, rfl⟩ | ⟨p212, rfl⟩, e9⟩ := p212
    · try dsimp only [tvI_i, tvJ_j, tvR_r] at p212
      obtain rfl := e9.symm
      refine tw_if_ne rfl (fun _ => ?_) (fun z => absurd z (by decide))
      refine tw_aload rfl rfl ?_
      refine tw_push rfl ?_
      refine tw_virt1 rfl (g_goes hG hs hk76) (fun wp213 hp213 p213 => ?_)
      obtain ⟨ep213, rfl, gp213⟩ := p213
      refine tw_istore rfl ?_
      refine tw_aload rfl rfl ?_
      refine tw_iload rfl rfl ?_
      refine tw_iload rfl rfl ?_
      refine tw_virt2 rfl (g_costs hG (tSh_F gp213.1.1 hs)) (fun w9 h9 p214 => ?_)
      obtain ⟨rfl, e9⟩ := p214
      obtain rfl := e9.symm
      have e167 := gp213.1.2 167 (by decide)
      have e170 := gp213.1.2 170 (by decide)
      exact tw_iret rfl (Or.inl ⟨by omega, _, gp213.2.1, by rw [← e167, ← e170]; rfl⟩)
    · try dsimp only [tvI_i, tvJ_j, tvR_r] at p212
      obtain rfl := e9.symm
      refine tw_if_ne rfl (fun z => absurd z (by decide)) (fun _ => ?_)
      refine tw_push rfl ?_
      exact tw_iret rfl (Or.inr ⟨by omega, rfl⟩)
  · try dsimp only [tvI_i, tvJ_j, tvR_r] at p211
    obtain rfl := e9.symm
    refine tw_if_eq rfl (fun _ => ?_) (fun z => absurd z (by decide))
    refine tw_push rfl ?_
    exact tw_iret rfl (Or.inr ⟨by omega, rfl⟩)
theorem a_change {s m : Int32} {h h2 h3 : zH} {w w2 : Option Value} (hR : R_rend h) (hS : R_steps h) (hM : R_smonths h) (hF : R_sfirm h) (hB : R_sbehind h) (hC : R_scoins h) (hk : ∀ i, i < 24 → -1 ≤ (tA h 83 i).toInt) (hn2 : 0 ≤ (tvI (tF h 81 7)).toInt ∧ (tvI (tF h 81 7)).toInt ≤ 24) (e1 : tF h2 111 76 = tF h 111 76) (o167 : tA h2 167 = tA h 167) (o168 : tA h2 168 = tA h 168) (o169 : tA h2 169 = tA h 169) (o170 : tA h2 170 = tA h 170) (k1 : ph_chc s m h w h2) (k2 : ph_chm s m h2 w2 h3) : w2 = w := by
  have hS0 := hS
  have hC0 := hC
  unfold R_steps at hS0
  unfold R_scoins at hC0
  unfold ph_chm at k2
  rw [e1, o167, o168, o169, o170, ← hS0] at k2
  rcases k1 with ⟨c1, rfl⟩ | ⟨c1, rfl⟩ <;> rcases k2 with ⟨c2, B, hP, rfl⟩ | ⟨c2, rfl⟩
  · obtain ⟨e2, e3, -⟩ := plan_E hR hS hM hF hB hk rfl hn2 hP s.toNatClampNeg (by rw [zclE, zclE]; omega)
    rw [e2, e3, hC0]
  · exact absurd c1 c2
  · exact absurd c2 c1
  · rfl
theorem f_lastMonth {G : zG} (hG : G.1 = zProg) {h : zH} {s p : Int32} (hs : tSh h) : tC zTt G 53 [.ref 81, .int s, .int p] h (fun w h2 => w = some (.int (sLm (fun m => sCo (tA h 86 s.toNatClampNeg) (tA h 87 s.toNatClampNeg) (tA h 85 s.toNatClampNeg) m) p 600)) ∧ h2 = h) := by
  refine tC_in (by rw [hG]; rfl) (fun dp => ?_)
  refine tw_push rfl ?_
  refine tw_istore rfl ?_
  refine tG_loop (zW_mono zTt G dp) (zW_conj zTt G dp) (V := fun pc L st h9 _ _ => pc = 4 ∧ st = [] ∧ h = h9 ∧ ∃ (k : Nat) (x : Int32), x.toInt = (k : Int) - 1 ∧ k ≤ 600 ∧ sLm (fun m => sCo (tA h 86 s.toNatClampNeg) (tA h 87 s.toNatClampNeg) (tA h 85 s.toNatClampNeg) m) p k = sLm (fun m => sCo (tA h 86 s.toNatClampNeg) (tA h 87 s.toNatClampNeg) (tA h 85 s.toNatClampNeg) m) p 600 ∧ L = [some (.ref 81), some (.int s), some (.int p), some (.int x)]) ?_ (⟨rfl, rfl, rfl, 600, 599, rfl, by omega, rfl, rfl⟩)
  rintro _ _ _ _ _ _ ⟨rfl, rfl, rfl, k, x, hx, hk, hm, rfl⟩
  refine tw_iload rfl rfl ?_
  refine tw_if_lt rfl (fun q215 => ?_) (fun q215 => ?_)
  · try dsimp only [tvI_i, tvJ_j, tvR_r] at q215
    refine tw_push rfl ?_
    exact tw_iret rfl ⟨congrArg (fun z => some (Value.int z)) ((Int32.toInt_inj.mp (show (-1 : Int32).toInt = x.toInt by rw [hx]; show (-1 : Int) = _; omega)).trans (sLm_z hx q215 hm)), rfl⟩
  · try dsimp only [tvI_i, tvJ_j, tvR_r] at q215
    refine tw_aload rfl rfl ?_
    refine tw_iload rfl rfl ?_
    refine tw_iload rfl rfl ?_
    refine tw_virt2 rfl (f_costOf hG hs) (fun w9 h9 p216 => ?_)
    obtain ⟨rfl, e9⟩ := p216
    obtain rfl := e9.symm
    refine tw_iload rfl rfl ?_
    refine tw_ic_gt rfl (fun q217 => ?_) (fun q217 => ?_)
    · try dsimp only [tvI_i, tvJ_j, tvR_r] at q217
      refine tw_iinc rfl rfl ?_
      refine tw_goto rfl ?_
      exact tG_cut (zW_mono zTt G dp) (Or.inr ⟨rfl, rfl, rfl, k - 1, _, (zdecI q215).trans (by omega), by omega, sLm_n hx q215 q217 hm, rfl⟩)
    · try dsimp only [tvI_i, tvJ_j, tvR_r] at q217
      refine tw_iload rfl rfl ?_
      exact tw_iret rfl ⟨congrArg (fun z => some (Value.int z)) (sLm_y hx q215 q217 hm), rfl⟩
noncomputable def ph_cec (s p : Int32) (h : zH) (w : Option Value) (_ : zH) : Prop := (((0 ≤ s.toInt ∧ s.toInt < (tvI (tF h 81 7)).toInt) ∧ 0 ≤ p.toInt) ∧ w = some (.int (sLm (fun m => sCo (tA h 86 s.toNatClampNeg) (tA h 87 s.toNatClampNeg) (tA h 85 s.toNatClampNeg) m) p 600))) ∨ (¬ ((0 ≤ s.toInt ∧ s.toInt < (tvI (tF h 81 7)).toInt) ∧ 0 ≤ p.toInt) ∧ w = some (.int (-2)))
noncomputable def ph_cem (s p : Int32) (h : zH) (w : Option Value) (_ : zH) : Prop := (((0 ≤ s.toInt ∧ s.toInt < (tvI (tF h 111 76)).toInt) ∧ 0 ≤ p.toInt) ∧ ∃ B, gP (tA h 169) (gLen (tA h 168) (tA h 167) (-2)) B (tvI (tF h 111 76)).toNatClampNeg ∧ w = some (.int (sLm (fun m => sCo (B s.toNatClampNeg) (B s.toNatClampNeg + tA h 167 s.toNatClampNeg) (tA h 170 s.toNatClampNeg) m) p 600))) ∨ (¬ ((0 ≤ s.toInt ∧ s.toInt < (tvI (tF h 111 76)).toInt) ∧ 0 ≤ p.toInt) ∧ w = some (.int (-2)))
theorem f_cheap {G : zG} (hG : G.1 = zProg) {h : zH} {s p : Int32} (hs : tSh h) : tC zTt G 145 [.ref 0, .int s, .int p] h (ph_cec s p h) := by
  refine tC_in (by rw [hG]; rfl) (fun dp => ?_)
  refine tw_aload rfl rfl ?_
  refine tw_getS rfl (hs_0_7 hs) ?_
  refine tw_iload rfl rfl ?_
  refine tw_virt1 rfl (f_hasStep hG hs) (fun w9 h9 p218 => ?_)
  obtain ⟨⟨p218, rfl⟩ | ⟨p218, rfl⟩, e9⟩ := p218
  · try dsimp only [tvI_i, tvJ_j, tvR_r] at p218
    obtain rfl := e9.symm
    refine tw_if_eq rfl (fun z => absurd z (by decide)) (fun _ => ?_)
    refine tw_iload rfl rfl ?_
    refine tw_if_lt rfl (fun q219 => ?_) (fun q219 => ?_)
    · try dsimp only [tvI_i, tvJ_j, tvR_r] at q219
      refine tw_push rfl ?_
      exact tw_iret rfl (Or.inr ⟨by omega, rfl⟩)
    · try dsimp only [tvI_i, tvJ_j, tvR_r] at q219
      refine tw_aload rfl rfl ?_
      refine tw_getS rfl (hs_0_7 hs) ?_
      refine tw_iload rfl rfl ?_
      refine tw_iload rfl rfl ?_
      refine tw_virt2 rfl (f_lastMonth hG hs) (fun w9 h9 p220 => ?_)
      obtain ⟨rfl, e9⟩ := p220
      obtain rfl := e9.symm
      refine tw_goto rfl ?_
      exact tw_iret rfl (Or.inl ⟨by omega, rfl⟩)
  · try dsimp only [tvI_i, tvJ_j, tvR_r] at p218
    obtain rfl := e9.symm
    refine tw_if_eq rfl (fun _ => ?_) (fun z => absurd z (by decide))
    refine tw_push rfl ?_
    exact tw_iret rfl (Or.inr ⟨by omega, rfl⟩)
theorem g_cheap {G : zG} (hG : G.1 = zProg) {h : zH} {s p : Int32} (hs : tSh h) (hk76 : 0 ≤ (tvI (tF h 111 76)).toInt) : tC zTt G 264 [.ref 111, .int s, .int p] h (ph_cem s p h) := by
  refine tC_in (by rw [hG]; rfl) (fun dp => ?_)
  have hd76 := zsub1 hk76
  refine tw_iload rfl rfl ?_
  refine tw_i2l rfl ?_
  refine tw_push rfl ?_
  refine tw_aload rfl rfl ?_
  refine tw_getS rfl (hi_111_76 hs) ?_
  refine tw_push rfl ?_
  refine tw_isub rfl ?_
  refine tw_i2l rfl ?_
  refine tw_stat3 rfl (f_in hG  (LO := 0)  (Int32.toInt_toInt64 _) (by decide) (Int32.toInt_toInt64 _)) (fun w9 h9 p221 => ?_)
  obtain ⟨⟨p221, rfl⟩ | ⟨p221, rfl⟩, e9⟩ := p221
  · try dsimp only [tvI_i, tvJ_j, tvR_r] at p221
    obtain rfl := e9.symm
    refine tw_if_eq rfl (fun z => absurd z (by decide)) (fun _ => ?_)
    refine tw_iload rfl rfl ?_
    refine tw_if_ge rfl (fun q222 => ?_) (fun q222 => ?_)
    · try dsimp only [tvI_i, tvJ_j, tvR_r] at q222
      refine tw_aload rfl rfl ?_
      refine tw_push rfl ?_
      refine tw_virt1 rfl (g_goes hG hs hk76) (fun wp223 hp223 p223 => ?_)
      obtain ⟨ep223, rfl, gp223⟩ := p223
      refine tw_istore rfl ?_
      refine tw_push rfl ?_
      refine tw_istore rfl ?_
      refine tG_loop (zW_mono zTt G dp) (zW_conj zTt G dp) (V := fun pc L st h9 _ _ => pc = 35 ∧ st = [] ∧ ∃ (h1 : zH) (e : Int32) (k : Nat) (x : Int32), h1 = h9 ∧ gOut h h1 (-2) (tvI (tF h 111 76)).toNatClampNeg e ∧ x.toInt = (k : Int) - 1 ∧ k ≤ 600 ∧ sLm (fun m => sCo (tA h1 171 s.toNatClampNeg) (tA h1 171 s.toNatClampNeg + tA h1 167 s.toNatClampNeg) (tA h1 170 s.toNatClampNeg) m) p k = sLm (fun m => sCo (tA h1 171 s.toNatClampNeg) (tA h1 171 s.toNatClampNeg + tA h1 167 s.toNatClampNeg) (tA h1 170 s.toNatClampNeg) m) p 600 ∧ L = [some (.ref 111), some (.int s), some (.int p), some (.int e), some (.int x)]) ?_ (⟨rfl, rfl, _, _, 600, 599, rfl, gp223, rfl, by omega, rfl, rfl⟩)
      rintro _ _ _ _ _ _ ⟨rfl, rfl, h1, e, k, x, rfl, hO, hx, hk, hm, rfl⟩
      have hs1 := tSh_F hO.1.1 hs
      refine tw_iload rfl rfl ?_
      refine tw_if_lt rfl (fun q224 => ?_) (fun q224 => ?_)
      · try dsimp only [tvI_i, tvJ_j, tvR_r] at q224
        refine tw_iload rfl rfl ?_
        have e167 := hO.1.2 167 (by decide)
        have e170 := hO.1.2 170 (by decide)
        rw [e167, e170] at hm
        exact tw_iret rfl (Or.inl ⟨by omega, _, hO.2.1, congrArg (fun z => some (Value.int z)) (sLm_z hx q224 hm)⟩)
      · try dsimp only [tvI_i, tvJ_j, tvR_r] at q224
        refine tw_aload rfl rfl ?_
        refine tw_iload rfl rfl ?_
        refine tw_iload rfl rfl ?_
        refine tw_virt2 rfl (g_costs hG hs1) (fun w9 h9 p225 => ?_)
        obtain ⟨rfl, e9⟩ := p225
        obtain rfl := e9.symm
        refine tw_iload rfl rfl ?_
        refine tw_ic_le rfl (fun q226 => ?_) (fun q226 => ?_)
        · try dsimp only [tvI_i, tvJ_j, tvR_r] at q226
          refine tw_iload rfl rfl ?_
          have e167 := hO.1.2 167 (by decide)
          have e170 := hO.1.2 170 (by decide)
          rw [e167, e170] at hm
          rw [e167, e170] at q226
          exact tw_iret rfl (Or.inl ⟨by omega, _, hO.2.1, congrArg (fun z => some (Value.int z)) (sLm_y hx q224 q226 hm)⟩)
        · try dsimp only [tvI_i, tvJ_j, tvR_r] at q226
          refine tw_iinc rfl rfl ?_
          refine tw_goto rfl ?_
          exact tG_cut (zW_mono zTt G dp) (Or.inr ⟨rfl, rfl, _, _, k - 1, _, rfl, hO, (zdecI q224).trans (by omega), by omega, sLm_n hx q224 q226 hm, rfl⟩)
    · try dsimp only [tvI_i, tvJ_j, tvR_r] at q222
      refine tw_push rfl ?_
      exact tw_iret rfl (Or.inr ⟨by omega, rfl⟩)
  · try dsimp only [tvI_i, tvJ_j, tvR_r] at p221
    obtain rfl := e9.symm
    refine tw_if_eq rfl (fun _ => ?_) (fun z => absurd z (by decide))
    refine tw_push rfl ?_
    exact tw_iret rfl (Or.inr ⟨by omega, rfl⟩)
theorem a_cheap {s p : Int32} {h h2 h3 : zH} {w w2 : Option Value} (hR : R_rend h) (hS : R_steps h) (hM : R_smonths h) (hF : R_sfirm h) (hB : R_sbehind h) (hC : R_scoins h) (hk : ∀ i, i < 24 → -1 ≤ (tA h 83 i).toInt) (hn2 : 0 ≤ (tvI (tF h 81 7)).toInt ∧ (tvI (tF h 81 7)).toInt ≤ 24) (e1 : tF h2 111 76 = tF h 111 76) (o167 : tA h2 167 = tA h 167) (o168 : tA h2 168 = tA h 168) (o169 : tA h2 169 = tA h 169) (o170 : tA h2 170 = tA h 170) (k1 : ph_cec s p h w h2) (k2 : ph_cem s p h2 w2 h3) : w2 = w := by
  have hS0 := hS
  have hC0 := hC
  unfold R_steps at hS0
  unfold R_scoins at hC0
  unfold ph_cem at k2
  rw [e1, o167, o168, o169, o170, ← hS0] at k2
  rcases k1 with ⟨c1, rfl⟩ | ⟨c1, rfl⟩ <;> rcases k2 with ⟨c2, B, hP, rfl⟩ | ⟨c2, rfl⟩
  · obtain ⟨e2, e3, -⟩ := plan_E hR hS hM hF hB hk rfl hn2 hP s.toNatClampNeg (by rw [zclE, zclE]; omega)
    rw [e2, e3, hC0]
  · exact absurd c1 c2
  · exact absurd c2 c1
  · rfl
