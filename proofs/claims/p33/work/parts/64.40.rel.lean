/-! what is answered: small helpers -/
def tBo (P : Prop) (w : Option Value) : Prop := (P ∧ w = some (.int 1)) ∨ (¬ P ∧ w = some (.int 0))
theorem tBo_i {P R : Prop} {w : Option Value} (e : P ↔ R) (k : tBo P w) : tBo R w := k.imp (fun z => ⟨e.mp z.1, z.2⟩) (fun z => ⟨fun y => z.1 (e.mpr y), z.2⟩)
theorem zpB_c {b : Int × Int} {r : List (Int × Int)} {xs : List Int32} (h : zpB (b :: r) xs) : ∃ x ys, xs = x :: ys ∧ (b.1 ≤ x.toInt ∧ x.toInt ≤ b.2) ∧ zpB r ys := by
  obtain ⟨lo, hi⟩ := b
  cases xs with
  | nil => exact h.elim
  | cons x ys => exact ⟨x, ys, rfl, h.1, h.2⟩
theorem zpB_n {xs : List Int32} (h : zpB [] xs) : xs = [] := by
  cases xs with
  | nil => rfl
  | cons x ys => exact h.elim
theorem zclx {x : Int32} (h : 0 ≤ x.toInt) : (x.toNatClampNeg : Int) = x.toInt := by
  show ((x.toInt.toNat : Nat) : Int) = _
  omega
theorem zclE {x : Int32} : x.toNatClampNeg = x.toInt.toNat := rfl
theorem zeqi {x y : Int32} {Y : Int} (hy : y.toInt = Y) (h : x = y) : x.toInt = Y := by rw [h]; exact hy
theorem zneq {x y : Int32} {Y : Int} (hy : y.toInt = Y) (h : ¬ x = y) : x.toInt ≠ Y := fun z => h (Int32.toInt_inj.mp (z.trans hy.symm))
theorem zsub1 {x : Int32} (h : 0 ≤ x.toInt) : (x - 1).toInt = x.toInt - 1 := by
  have := Int32.toInt_lt x
  rw [Int32.toInt_sub]
  exact Int.bmod_eq_of_le (by show (-2147483648 : Int) ≤ x.toInt - 1; omega) (by show x.toInt - 1 < (2147483648 : Int); omega)
def tRwl : List (Nat × Nat) := [(4, 5), (14, 15), (27, 28), (97, 98)]
def tRw (h : zH) : Prop := ∀ q ∈ tRwl, ∀ i, i < tN h q.1 → tO h q.1 i = some (q.2 + i)
theorem tRw_A {h : zH} {r i : Nat} {x : Int32} (k : tRw h) : tRw (tSA h r i x) := by unfold tRw; rw [tO_tSA, tN_tSA]; exact k
theorem tRw_J {h : zH} {r i : Nat} {x : Int64} (k : tRw h) : tRw (tSJ h r i x) := by unfold tRw; rw [tO_tSJ, tN_tSJ]; exact k
theorem tRw_F {h : zH} {r b : Nat} {w : Value} (k : tRw h) : tRw (tSF h r b w) := by unfold tRw; rw [tO_tSF, tN_tSF]; exact k
theorem tRw_at {h : zH} (k : tRw h) {p q : Nat} (hm : (p, q) ∈ tRwl) {i : Int32} (z : tInO h p i) : zrf (tO h p i.toNatClampNeg) = .ref (q + i.toNatClampNeg) := by
  rw [k (p, q) hm _ z.rg.2]
  rfl
theorem tfr_N {xs : Nat → Int32} {τ : List Nat} {h h2 : zH} {W : Nat → Nat → Bool} {p t : Nat} (hB : zBs xs τ h) (hf : yFr W τ h h2) (ht : zTG[p]? = some t) : tN h2 p = tN h p := by
  obtain ⟨ct, c, a1, a2, -⟩ := hB.1.2 _ _ (hB.2.1 _ _ ht)
  obtain ⟨c2, b1, b2⟩ := hf _ _ _ (hB.2.1 _ _ ht) a2
  unfold tN
  rw [a2, b1]
  match c, c2, b2 with
  | .inr (x, fs), .inr (y, gs), b2 => rfl
  | .inl (k, N, x), .inl (k2, N2, y), b2 => exact b2.2.1.symm
theorem tfr_Fs {xs : Nat → Int32} {τ : List Nat} {h h2 : zH} {W : Nat → Nat → Bool} {p t b : Nat} (hB : zBs xs τ h) (hf : yFr W τ h h2) (ht : τ[p]? = some t) (hW : W t b = false) : tF h2 p b = tF h p b := by
  obtain ⟨ct, c, a1, a2, -⟩ := hB.1.2 _ _ ht
  obtain ⟨c2, b1, b2⟩ := hf _ _ _ ht a2
  unfold tF
  rw [a2, b1]
  match c, c2, b2 with
  | .inr (x, fs), .inr (y, gs), b2 =>
    dsimp only
    rw [List.getD_eq_getElem?_getD, List.getD_eq_getElem?_getD, b2.2.2 b hW]
  | .inl (k, N, x), .inl (k2, N2, y), b2 => rfl
theorem car_tag {xs : Nat → Int32} {τ : List Nat} {h : zH} (hB : zBs xs τ h) {i r : Nat} (hi : (i : Int) < (tvI (tF h 36 4)).toInt) (hr : tO h 39 i = some r) : τ[r]? = some 150 := by
  have hn := (kb_36_4 hB).2
  obtain ⟨a, b, c⟩ := tkd_o hB (p := 39) (t := 15) rfl rfl
  obtain ⟨-, -, c3⟩ := c i (by omega)
  rw [hr] at c3
  rcases c3 with z | z | z
  · cases z
  · have : zoi (some r) = (r : Int) := rfl
    omega
  · exact z
theorem car_lt {xs : Nat → Int32} {τ : List Nat} {h : zH} (hB : zBs xs τ h) {i r : Nat} (hi : (i : Int) < (tvI (tF h 36 4)).toInt) (hr : tO h 39 i = some r) : r < h.length := by
  have z := car_tag hB hi hr
  rcases Nat.lt_or_ge r τ.length with q | q
  · have := hB.1.1; omega
  · rw [List.getElem?_eq_none q] at z; cases z
theorem car_ne {xs : Nat → Int32} {τ : List Nat} {h : zH} (hB : zBs xs τ h) {i r : Nat} (hi : (i : Int) < (tvI (tF h 36 4)).toInt) (hr : tO h 39 i = some r) {p t : Nat} (ht : zTG[p]? = some t) (hn : t ≠ 150) : r ≠ p := by
  intro e
  subst e
  have z := car_tag hB hi hr
  rw [hB.2.1 _ _ ht] at z
  cases z
  exact hn rfl
theorem zBs_len {xs : Nat → Int32} {τ : List Nat} {h : zH} (hB : zBs xs τ h) : 182 ≤ h.length := by
  have z := hB.2.1 181 149 rfl
  rcases Nat.lt_or_ge 181 τ.length with q | q
  · have := hB.1.1; omega
  · rw [List.getElem?_eq_none q] at z; cases z
/-- a count: what is told is the next of so many, or none -/
def phN (p b : Nat) (C : Prop) (h : zH) (w : Option Value) (h2 : zH) : Prop := (C ∧ w = some (tF h p b) ∧ tF h2 p b = .int (tvI (tF h p b) + 1)) ∨ (¬ C ∧ w = some (.int (-1)) ∧ tF h2 p b = tF h p b)
theorem phN_a {p b q c : Nat} {C D : Prop} {h h2 h3 : zH} {w w2 : Option Value} (hR : tF h p b = tF h q c) (e1 : tF h2 q c = tF h q c) (e2 : tF h3 p b = tF h2 p b) (hCD : C ↔ D) (k1 : phN p b C h w h2) (k2 : phN q c D h2 w2 h3) : w2 = w ∧ tF h3 p b = tF h3 q c := by
  rcases k1 with ⟨c1, rfl, f1⟩ | ⟨c1, rfl, f1⟩ <;> rcases k2 with ⟨c2, rfl, f2⟩ | ⟨c2, rfl, f2⟩
  · rw [e2, f1, f2, e1, hR]
    exact ⟨rfl, rfl⟩
  · exact absurd (hCD.mp c1) c2
  · exact absurd (hCD.mpr c2) c1
  · rw [e2, f1, f2, e1, hR]
    exact ⟨rfl, rfl⟩
theorem zi1 {x : Int32} : x + 1 - 1 = x := Int32.add_sub_cancel x 1
/-- a count and what is told in arrays at its place -/
def phA (p b : Nat) (C : Prop) (l : List (Nat × Int32)) (h : zH) (w : Option Value) (h2 : zH) : Prop := (C ∧ w = some (tF h p b) ∧ tF h2 p b = .int (tvI (tF h p b) + 1) ∧ ∀ q ∈ l, tA h2 q.1 = fun j => if j = (tvI (tF h p b)).toNatClampNeg then q.2 else tA h q.1 j) ∨ (¬ C ∧ w = some (.int (-1)) ∧ tF h2 p b = tF h p b ∧ ∀ q ∈ l, tA h2 q.1 = tA h q.1)
theorem phA_a {p b q c : Nat} {C D : Prop} {l m : List (Nat × Int32)} {h h2 h3 : zH} {w w2 : Option Value} (hR : tF h p b = tF h q c) (e1 : tF h2 q c = tF h q c) (e2 : tF h3 p b = tF h2 p b) (hCD : C ↔ D) (k1 : phA p b C l h w h2) (k2 : phA q c D m h2 w2 h3) : w2 = w ∧ tF h3 p b = tF h3 q c ∧ ∀ P Q v, (P, v) ∈ l → (Q, v) ∈ m → tA h P = tA h Q → tA h2 Q = tA h Q → tA h3 P = tA h2 P → tA h3 P = tA h3 Q := by
  rcases k1 with ⟨c1, rfl, f1, g1⟩ | ⟨c1, rfl, f1, g1⟩ <;> rcases k2 with ⟨c2, rfl, f2, g2⟩ | ⟨c2, rfl, f2, g2⟩
  · refine ⟨by rw [e1, hR], by rw [e2, f1, f2, e1, hR], fun P Q v hP hQ a1 a2 a3 => ?_⟩
    rw [a3, g1 _ hP, g2 _ hQ, e1, ← hR]
    dsimp only
    rw [a1, a2]
  · exact absurd (hCD.mp c1) c2
  · exact absurd (hCD.mpr c2) c1
  · refine ⟨rfl, by rw [e2, f1, f2, e1, hR], fun P Q v hP hQ a1 a2 a3 => ?_⟩
    have h1 := g1 _ hP
    have h2 := g2 _ hQ
    dsimp only at h1 h2
    rw [a3, h1, h2, a1, a2]
theorem tA_st {h : zH} {r i : Nat} {x : Int32} {kd : Nat} {z : Int32} (hf : tIn h r kd z) {f : Nat → Int32} (k : tA h r = f) : tA (tSA h r i x) r = fun j => if j = i then x else f j := by
  rw [tA_tSA hf.cell]
  funext j
  dsimp only
  rw [k]
  by_cases e : j = i
  · rw [if_pos ⟨rfl, e⟩, if_pos e]
  · rw [if_neg (fun z => e z.2), if_neg e]
theorem tA_n {h : zH} {r i p : Nat} {x : Int32} {f : Nat → Int32} (hn : p ≠ r) (k : tA h p = f) : tA (tSA h r i x) p = f := by rw [tA_nz hn]; exact k
theorem tA_ff {h : zH} {r b p : Nat} {w : Value} {f : Nat → Int32} (k : tA h p = f) : tA (tSF h r b w) p = f := by rw [tA_tSF]; exact k
theorem tA_jj {h : zH} {r i p : Nat} {x : Int64} {f : Nat → Int32} (k : tA h p = f) : tA (tSJ h r i x) p = f := by rw [tA_tSJ]; exact k
theorem tA_oo {h : zH} {r i p : Nat} {x : Option Nat} {f : Nat → Int32} (k : tA h p = f) : tA (tSO h r i x) p = f := by rw [tA_tSO]; exact k
/-- the begin of a step behind the first n -/
def sBe (m : Int32) (e : Nat → Int32) : Nat → Int32
  | 0 => 0
  | n + 1 => if (m >>> (Int32.ofNat n &&& 31)) &&& 1 = 1 then (if sBe m e n < e n then e n else sBe m e n) else sBe m e n
theorem zof {x : Int32} {n : Nat} (h : x.toInt = n) : x = Int32.ofNat n := by
  have hx := Int32.toInt_lt x
  exact Int32.toInt_inj.mp (h.trans (yofN (by omega)).symm)
theorem zof_cl {x : Int32} {n : Nat} (h : x.toInt = n) : x.toNatClampNeg = n := by rw [zclE, h]; rfl
theorem zincN {x : Int32} {n : Nat} (h : x.toInt = n) (hn : n < 2147483647) : (x + 1).toInt = ((n + 1 : Nat) : Int) := by
  rw [Int32.toInt_add, h]
  exact Int.bmod_eq_of_le (by show (-2147483648 : Int) ≤ (n : Int) + 1; omega) (by show (n : Int) + 1 < (2147483648 : Int); omega)
theorem zen {x y : Int32} {n : Nat} (hx : x.toInt = n) (hn : (n : Int) ≤ y.toInt) (hq : y.toInt ≤ x.toInt) : n = y.toNatClampNeg := by
  rw [zclE]
  omega
theorem zincL {x y : Int32} {n : Nat} (h : x.toInt = n) (hy : x.toInt < y.toInt) : (x + 1).toInt = ((n + 1 : Nat) : Int) := zincN h (by have := Int32.toInt_lt y; omega)
theorem f_isBehind {G : zG} (hG : G.1 = zProg) {h : zH} {s k : Int32} (hs : tSh h) : tC zTt G 49 [.ref 81, .int s, .int k] h (fun w h2 => tBo ((tA h 84 s.toNatClampNeg >>> (k &&& 31)) &&& 1 = 1) w ∧ h2 = h) := by
  refine tC_in (by rw [hG]; rfl) (fun dp => ?_)
  refine tw_aload rfl rfl ?_
  refine tw_getS rfl (hs_81_2 hs) ?_
  refine tw_iload rfl rfl ?_
  refine tw_iald rfl (fun f1 => ?_)
  refine tw_iload rfl rfl ?_
  refine tw_ishr rfl ?_
  refine tw_push rfl ?_
  refine tw_iand rfl ?_
  refine tw_push rfl ?_
  refine tw_ic_ne rfl (fun q2 => ?_) (fun q2 => ?_)
  · try dsimp only [tvI_i, tvJ_j, tvR_r] at q2
    have q2i := zneq (Y := 1) (by decide) q2
    refine tw_push rfl ?_
    exact tw_iret rfl ⟨Or.inr ⟨q2, rfl⟩, rfl⟩
  · try dsimp only [tvI_i, tvJ_j, tvR_r] at q2
    have q2i := zeqi (Y := 1) (by decide) q2
    refine tw_push rfl ?_
    refine tw_goto rfl ?_
    exact tw_iret rfl ⟨Or.inl ⟨q2, rfl⟩, rfl⟩
theorem sBe_y {m : Int32} {e : Nat → Int32} {n : Nat} (h : (m >>> (Int32.ofNat n &&& 31)) &&& 1 = 1) (hn : (Int32.ofNat n).toNatClampNeg = n) : sBe m e (n + 1) = if sBe m e n < e (Int32.ofNat n).toNatClampNeg then e (Int32.ofNat n).toNatClampNeg else sBe m e n := by
  rw [hn]
  show (if _ then _ else _) = _
  rw [if_pos h]
theorem sBe_n {m : Int32} {e : Nat → Int32} {n : Nat} (h : ¬ (m >>> (Int32.ofNat n &&& 31)) &&& 1 = 1) : sBe m e (n + 1) = sBe m e n := by
  show (if _ then _ else _) = _
  rw [if_neg h]
theorem f_beginOf {G : zG} (hG : G.1 = zProg) {h : zH} {s : Int32} {P : Nat} (hs : tSh h) (h0 : 0 ≤ s.toInt) : tC zTt G 48 [.ref 81, .int s, .ref P] h (fun w h2 => w = some (.int (sBe (tA h 84 s.toNatClampNeg) (tA h P) s.toNatClampNeg)) ∧ h2 = h) := by
  refine tC_in (by rw [hG]; rfl) (fun dp => ?_)
  refine tw_push rfl ?_
  refine tw_istore rfl ?_
  refine tw_push rfl ?_
  refine tw_istore rfl ?_
  refine tG_loop (zW_mono zTt G dp) (zW_conj zTt G dp) (V := fun pc L st h9 _ _ => pc = 5 ∧ st = [] ∧ h = h9 ∧ ∃ (k : Nat) (x : Int32), x.toInt = k ∧ (k : Int) ≤ s.toInt ∧ L = [some (.ref 81), some (.int s), some (.ref P), some (.int (sBe (tA h 84 s.toNatClampNeg) (tA h P) k)), some (.int x)]) ?_ (⟨rfl, rfl, rfl, 0, 0, rfl, h0, rfl⟩)
  rintro _ _ _ _ _ _ ⟨rfl, rfl, rfl, k, x, hx, hk, rfl⟩
  refine tw_iload rfl rfl ?_
  refine tw_iload rfl rfl ?_
  refine tw_ic_ge rfl (fun q3 => ?_) (fun q3 => ?_)
  · try dsimp only [tvI_i, tvJ_j, tvR_r] at q3
    refine tw_iload rfl rfl ?_
    exact tw_iret rfl ⟨by rw [show k = s.toNatClampNeg from by rw [zclE]; omega]; rfl, rfl⟩
  · try dsimp only [tvI_i, tvJ_j, tvR_r] at q3
    refine tw_aload rfl rfl ?_
    refine tw_iload rfl rfl ?_
    refine tw_iload rfl rfl ?_
    refine tw_virt2 rfl (f_isBehind hG hs) (fun w9 h9 p4 => ?_)
    obtain ⟨⟨p4, rfl⟩ | ⟨p4, rfl⟩, rfl⟩ := p4
    · try dsimp only [tvI_i, tvJ_j, tvR_r] at p4
      refine tw_if_eq rfl (fun z => absurd z (by decide)) (fun _ => ?_)
      refine tw_iload rfl rfl ?_
      refine tw_aload rfl rfl ?_
      refine tw_iload rfl rfl ?_
      refine tw_iald rfl (fun f5 => ?_)
      refine tw_imax rfl ?_
      refine tw_istore rfl ?_
      refine tw_iinc rfl rfl ?_
      refine tw_goto rfl ?_
      have hk := zof hx
      subst hk
      exact tG_cut (zW_mono zTt G dp) (Or.inr ⟨rfl, rfl, rfl, k + 1, _, zincN hx (by have := Int32.toInt_lt s; omega), by omega, by rw [sBe_y p4 (zof_cl hx)]; rfl⟩)
    · try dsimp only [tvI_i, tvJ_j, tvR_r] at p4
      refine tw_if_eq rfl (fun _ => ?_) (fun z => absurd z (by decide))
      refine tw_iinc rfl rfl ?_
      refine tw_goto rfl ?_
      have hk := zof hx
      subst hk
      exact tG_cut (zW_mono zTt G dp) (Or.inr ⟨rfl, rfl, rfl, k + 1, _, zincN hx (by have := Int32.toInt_lt s; omega), by omega, by rw [sBe_n p4]; rfl⟩)
theorem zshr_neg {x k : Int32} (h : x.toInt < 0) : (x >>> k).toInt < 0 := by
  have e : (x >>> k).toInt = (x.toBitVec.sshiftRight' (k.toBitVec.smod 32)).toInt := rfl
  have h2 : x.toBitVec.toInt < 0 := h
  rw [e, BitVec.toInt_sshiftRight', Int.shiftRight_eq_div_pow]
  exact Int.ediv_neg_of_neg_of_pos h2 (Int.natCast_pos.mpr (Nat.two_pow_pos _))
theorem f_hasSteps {G : zG} (hG : G.1 = zProg) {h : zH} {n : Int32} (hs : tSh h) : tC zTt G 46 [.ref 81, .int n] h (fun w h2 => tBo ((n >>> (tvI (tF h 81 7) &&& 31)).toInt = 0) w ∧ h2 = h) := by
  refine tC_in (by rw [hG]; rfl) (fun dp => ?_)
  refine tw_iload rfl rfl ?_
  refine tw_if_lt rfl (fun q6 => ?_) (fun q6 => ?_)
  · try dsimp only [tvI_i, tvJ_j, tvR_r] at q6
    refine tw_push rfl ?_
    have hz := fun z => zshr_neg (x := n) (k := tvI (tF h 81 7) &&& 31) z
    exact tw_iret rfl ⟨Or.inr ⟨by omega, rfl⟩, rfl⟩
  · try dsimp only [tvI_i, tvJ_j, tvR_r] at q6
    refine tw_iload rfl rfl ?_
    refine tw_aload rfl rfl ?_
    refine tw_getS rfl (hi_81_7 hs) ?_
    refine tw_ishr rfl ?_
    refine tw_if_ne rfl (fun q7 => ?_) (fun q7 => ?_)
    · try dsimp only [tvI_i, tvJ_j, tvR_r] at q7
      have q7i := zneq (Y := 0) (by decide) q7
      refine tw_push rfl ?_
      have hz := fun z => zshr_neg (x := n) (k := tvI (tF h 81 7) &&& 31) z
      exact tw_iret rfl ⟨Or.inr ⟨by omega, rfl⟩, rfl⟩
    · try dsimp only [tvI_i, tvJ_j, tvR_r] at q7
      have q7i := zeqi (Y := 0) (by decide) q7
      refine tw_push rfl ?_
      refine tw_goto rfl ?_
      exact tw_iret rfl ⟨Or.inl ⟨by omega, rfl⟩, rfl⟩
def R_steps (h : zH) : Prop := tF h 81 7 = tF h 111 76
theorem f_isWithin {G : zG} (hG : G.1 = zProg) {h : zH} {n lo hi : Int32} {LO HI : Int} (hlo : lo.toInt = LO) (hhi : hi.toInt = HI) : tC zTt G 158 [.int n, .int lo, .int hi] h (fun w h2 => tBo (LO ≤ n.toInt ∧ n.toInt ≤ HI) w ∧ h2 = h) := by
  refine tC_in (by rw [hG]; rfl) (fun dp => ?_)
  refine tw_iload rfl rfl ?_
  refine tw_iload rfl rfl ?_
  refine tw_ic_lt rfl (fun q8 => ?_) (fun q8 => ?_)
  · try dsimp only [tvI_i, tvJ_j, tvR_r] at q8
    refine tw_push rfl ?_
    exact tw_iret rfl ⟨Or.inr ⟨by omega, rfl⟩, rfl⟩
  · try dsimp only [tvI_i, tvJ_j, tvR_r] at q8
    refine tw_iload rfl rfl ?_
    refine tw_iload rfl rfl ?_
    refine tw_ic_gt rfl (fun q9 => ?_) (fun q9 => ?_)
    · try dsimp only [tvI_i, tvJ_j, tvR_r] at q9
      refine tw_push rfl ?_
      exact tw_iret rfl ⟨Or.inr ⟨by omega, rfl⟩, rfl⟩
    · try dsimp only [tvI_i, tvJ_j, tvR_r] at q9
      refine tw_push rfl ?_
      refine tw_goto rfl ?_
      exact tw_iret rfl ⟨Or.inl ⟨by omega, rfl⟩, rfl⟩
theorem f_isFirm {G : zG} (hG : G.1 = zProg) {h : zH} {n : Int32} : tC zTt G 160 [.int n] h (fun w h2 => tBo (0 ≤ n.toInt ∧ n.toInt ≤ 3) w ∧ h2 = h) := by
  refine tC_in (by rw [hG]; rfl) (fun dp => ?_)
  refine tw_iload rfl rfl ?_
  refine tw_push rfl ?_
  refine tw_push rfl ?_
  refine tw_stat3 rfl (f_isWithin hG (LO := 0) (HI := 3) (by decide) (by decide)) (fun w9 h9 p10 => ?_)
  obtain ⟨⟨p10, rfl⟩ | ⟨p10, rfl⟩, rfl⟩ := p10
  · try dsimp only [tvI_i, tvJ_j, tvR_r] at p10
    exact tw_iret rfl ⟨Or.inl ⟨p10, rfl⟩, rfl⟩
  · try dsimp only [tvI_i, tvJ_j, tvR_r] at p10
    exact tw_iret rfl ⟨Or.inr ⟨p10, rfl⟩, rfl⟩
theorem wret1 {h : zH} {p b : Nat} (k : tF h p b = .int (tvI (tF h p b))) : some (Value.int (tvI (tF h p b) + 1 - 1)) = some (tF h p b) := by rw [zi1]; exact congrArg some k.symm
theorem f_addStep {G : zG} (hG : G.1 = zProg) {h : zH} {m : Int32} {f : Int32} {y : Int32} {c : Int32} (hs : tSh h) (hk0 : 0 ≤ (tvI (tF h 81 7)).toInt) : tC zTt G 47 [.ref 81, .int m, .int f, .int y, .int c] h (phA 81 7 ((tvI (tF h 81 7)).toInt ≠ 24) [] h) := by
  refine tC_in (by rw [hG]; rfl) (fun dp => ?_)
  refine tw_aload rfl rfl ?_
  refine tw_getS rfl (hi_81_7 hs) ?_
  refine tw_push rfl ?_
  refine tw_ic_ne rfl (fun q11 => ?_) (fun q11 => ?_)
  · try dsimp only [tvI_i, tvJ_j, tvR_r] at q11
    have q11i := zneq (Y := 24) (by decide) q11
    refine tw_aload rfl rfl ?_
    refine tw_getS rfl (hs_81_0 hs) ?_
    refine tw_aload rfl rfl ?_
    refine tw_getS rfl (hi_81_7 hs) ?_
    refine tw_iload rfl rfl ?_
    refine tw_iast rfl (fun f12 => ?_)
    refine tw_aload rfl rfl ?_
    refine tw_getS rfl (hs_81_1 (tSh_SA hs)) ?_
    refine tw_aload rfl rfl ?_
    refine tw_getS rfl (tF_a (hi_81_7 hs)) ?_
    refine tw_iload rfl rfl ?_
    refine tw_iast rfl (fun f13 => ?_)
    refine tw_aload rfl rfl ?_
    refine tw_getS rfl (hs_81_2 (tSh_SA (tSh_SA hs))) ?_
    refine tw_aload rfl rfl ?_
    refine tw_getS rfl (tF_a (tF_a (hi_81_7 hs))) ?_
    refine tw_iload rfl rfl ?_
    refine tw_iast rfl (fun f14 => ?_)
    refine tw_aload rfl rfl ?_
    refine tw_getS rfl (hs_81_3 (tSh_SA (tSh_SA (tSh_SA hs)))) ?_
    refine tw_aload rfl rfl ?_
    refine tw_getS rfl (tF_a (tF_a (tF_a (hi_81_7 hs)))) ?_
    refine tw_iload rfl rfl ?_
    refine tw_iast rfl (fun f15 => ?_)
    refine tw_aload rfl rfl ?_
    refine tw_getS rfl (hs_81_4 (tSh_SA (tSh_SA (tSh_SA (tSh_SA hs))))) ?_
    refine tw_aload rfl rfl ?_
    refine tw_getS rfl (tF_a (tF_a (tF_a (tF_a (hi_81_7 hs))))) ?_
    refine tw_aload rfl rfl ?_
    refine tw_aload rfl rfl ?_
    refine tw_getS rfl (tF_a (tF_a (tF_a (tF_a (hi_81_7 hs))))) ?_
    refine tw_aload rfl rfl ?_
    refine tw_getS rfl (hs_81_5 (tSh_SA (tSh_SA (tSh_SA (tSh_SA hs))))) ?_
    refine tw_virt2 rfl (f_beginOf hG (tSh_SA (tSh_SA (tSh_SA (tSh_SA hs)))) hk0) (fun w9 h9 p16 => ?_)
    obtain ⟨rfl, rfl⟩ := p16
    refine tw_iast rfl (fun f17 => ?_)
    refine tw_aload rfl rfl ?_
    refine tw_getS rfl (hs_81_5 (tSh_SA (tSh_SA (tSh_SA (tSh_SA (tSh_SA hs)))))) ?_
    refine tw_aload rfl rfl ?_
    refine tw_getS rfl (tF_a (tF_a (tF_a (tF_a (tF_a (hi_81_7 hs)))))) ?_
    refine tw_aload rfl rfl ?_
    refine tw_getS rfl (hs_81_4 (tSh_SA (tSh_SA (tSh_SA (tSh_SA (tSh_SA hs)))))) ?_
    refine tw_aload rfl rfl ?_
    refine tw_getS rfl (tF_a (tF_a (tF_a (tF_a (tF_a (hi_81_7 hs)))))) ?_
    refine tw_iald rfl (fun f18 => ?_)
    refine tw_iload rfl rfl ?_
    refine tw_iadd rfl ?_
    refine tw_iast rfl (fun f19 => ?_)
    refine tw_aload rfl rfl ?_
    refine tw_dup rfl ?_
    refine tw_getS rfl (tF_a (tF_a (tF_a (tF_a (tF_a (tF_a (hi_81_7 hs))))))) ?_
    refine tw_dup_x1 rfl ?_
    refine tw_push rfl ?_
    refine tw_iadd rfl ?_
    refine tw_put rfl (fun f20 => ?_)
    exact tw_iret rfl (Or.inl ⟨by omega, congrArg some (hi_81_7 hs).symm, (tF_same f20), (fun q hq => by cases hq)⟩)
  · try dsimp only [tvI_i, tvJ_j, tvR_r] at q11
    have q11i := zeqi (Y := 24) (by decide) q11
    refine tw_push rfl ?_
    exact tw_iret rfl (Or.inr ⟨by omega, rfl, rfl, fun _ _ => rfl⟩)
theorem f_step {G : zG} (hG : G.1 = zProg) {h : zH} {m : Int32} {f : Int32} {y : Int32} {c : Int32} (hs : tSh h) (hk0 : 0 ≤ (tvI (tF h 81 7)).toInt) : tC zTt G 141 [.ref 0, .int m, .int f, .int y, .int c] h (phA 81 7 (((0 ≤ m.toInt ∧ m.toInt ≤ 99) ∧ (-1 ≤ f.toInt ∧ f.toInt ≤ 3) ∧ (y >>> (tvI (tF h 81 7) &&& 31)).toInt = 0 ∧ (0 ≤ c.toInt ∧ c.toInt ≤ 9999)) ∧ (tvI (tF h 81 7)).toInt ≠ 24) [] h) := by
  refine tC_in (by rw [hG]; rfl) (fun dp => ?_)
  refine tw_iload rfl rfl ?_
  refine tw_push rfl ?_
  refine tw_push rfl ?_
  refine tw_stat3 rfl (f_isWithin hG (LO := 0) (HI := 99) (by decide) (by decide)) (fun w9 h9 p21 => ?_)
  obtain ⟨⟨p21, rfl⟩ | ⟨p21, rfl⟩, rfl⟩ := p21
  · try dsimp only [tvI_i, tvJ_j, tvR_r] at p21
    refine tw_if_eq rfl (fun z => absurd z (by decide)) (fun _ => ?_)
    refine tw_iload rfl rfl ?_
    refine tw_push rfl ?_
    refine tw_ic_eq rfl (fun q22 => ?_) (fun q22 => ?_)
    · try dsimp only [tvI_i, tvJ_j, tvR_r] at q22
      have q22i := zeqi (Y := (-1)) (by decide) q22
      refine tw_aload rfl rfl ?_
      refine tw_getS rfl (hs_0_7 hs) ?_
      refine tw_iload rfl rfl ?_
      refine tw_virt1 rfl (f_hasSteps hG hs) (fun w9 h9 p23 => ?_)
      obtain ⟨⟨p23, rfl⟩ | ⟨p23, rfl⟩, rfl⟩ := p23
      · try dsimp only [tvI_i, tvJ_j, tvR_r] at p23
        refine tw_if_eq rfl (fun z => absurd z (by decide)) (fun _ => ?_)
        refine tw_iload rfl rfl ?_
        refine tw_push rfl ?_
        refine tw_push rfl ?_
        refine tw_stat3 rfl (f_isWithin hG (LO := 0) (HI := 9999) (by decide) (by decide)) (fun w9 h9 p24 => ?_)
        obtain ⟨⟨p24, rfl⟩ | ⟨p24, rfl⟩, rfl⟩ := p24
        · try dsimp only [tvI_i, tvJ_j, tvR_r] at p24
          refine tw_if_eq rfl (fun z => absurd z (by decide)) (fun _ => ?_)
          refine tw_push rfl ?_
          refine tw_goto rfl ?_
          refine tw_istore rfl ?_
          refine tw_iload rfl rfl ?_
          refine tw_if_eq rfl (fun z => absurd z (by decide)) (fun _ => ?_)
          refine tw_aload rfl rfl ?_
          refine tw_getS rfl (hs_0_7 hs) ?_
          refine tw_iload rfl rfl ?_
          refine tw_iload rfl rfl ?_
          refine tw_iload rfl rfl ?_
          refine tw_iload rfl rfl ?_
          refine tw_virt4 rfl (f_addStep hG  hs hk0) (fun w9 h9 p25 => ?_)
          rcases p25 with ⟨p25, rfl, p25e, p25g⟩ | ⟨p25, rfl, p25e, p25g⟩
          · refine tw_goto rfl ?_
            exact tw_iret rfl (Or.inl ⟨by omega, congrArg some (hi_81_7 hs).symm, p25e, p25g⟩)
          · refine tw_goto rfl ?_
            exact tw_iret rfl (Or.inr ⟨by omega, rfl, p25e, p25g⟩)
        · try dsimp only [tvI_i, tvJ_j, tvR_r] at p24
          refine tw_if_eq rfl (fun _ => ?_) (fun z => absurd z (by decide))
          refine tw_push rfl ?_
          refine tw_istore rfl ?_
          refine tw_iload rfl rfl ?_
          refine tw_if_eq rfl (fun _ => ?_) (fun z => absurd z (by decide))
          refine tw_push rfl ?_
          exact tw_iret rfl (Or.inr ⟨by omega, rfl, rfl, fun _ _ => rfl⟩)
      · try dsimp only [tvI_i, tvJ_j, tvR_r] at p23
        refine tw_if_eq rfl (fun _ => ?_) (fun z => absurd z (by decide))
        refine tw_push rfl ?_
        refine tw_istore rfl ?_
        refine tw_iload rfl rfl ?_
        refine tw_if_eq rfl (fun _ => ?_) (fun z => absurd z (by decide))
        refine tw_push rfl ?_
        exact tw_iret rfl (Or.inr ⟨by omega, rfl, rfl, fun _ _ => rfl⟩)
    · try dsimp only [tvI_i, tvJ_j, tvR_r] at q22
      have q22i := zneq (Y := (-1)) (by decide) q22
      refine tw_iload rfl rfl ?_
      refine tw_stat1 rfl (f_isFirm hG) (fun w9 h9 p26 => ?_)
      obtain ⟨⟨p26, rfl⟩ | ⟨p26, rfl⟩, rfl⟩ := p26
      · try dsimp only [tvI_i, tvJ_j, tvR_r] at p26
        refine tw_if_eq rfl (fun z => absurd z (by decide)) (fun _ => ?_)
        refine tw_aload rfl rfl ?_
        refine tw_getS rfl (hs_0_7 hs) ?_
        refine tw_iload rfl rfl ?_
        refine tw_virt1 rfl (f_hasSteps hG hs) (fun w9 h9 p27 => ?_)
        obtain ⟨⟨p27, rfl⟩ | ⟨p27, rfl⟩, rfl⟩ := p27
        · try dsimp only [tvI_i, tvJ_j, tvR_r] at p27
          refine tw_if_eq rfl (fun z => absurd z (by decide)) (fun _ => ?_)
          refine tw_iload rfl rfl ?_
          refine tw_push rfl ?_
          refine tw_push rfl ?_
          refine tw_stat3 rfl (f_isWithin hG (LO := 0) (HI := 9999) (by decide) (by decide)) (fun w9 h9 p28 => ?_)
          obtain ⟨⟨p28, rfl⟩ | ⟨p28, rfl⟩, rfl⟩ := p28
          · try dsimp only [tvI_i, tvJ_j, tvR_r] at p28
            refine tw_if_eq rfl (fun z => absurd z (by decide)) (fun _ => ?_)
            refine tw_push rfl ?_
            refine tw_goto rfl ?_
            refine tw_istore rfl ?_
            refine tw_iload rfl rfl ?_
            refine tw_if_eq rfl (fun z => absurd z (by decide)) (fun _ => ?_)
            refine tw_aload rfl rfl ?_
            refine tw_getS rfl (hs_0_7 hs) ?_
            refine tw_iload rfl rfl ?_
            refine tw_iload rfl rfl ?_
            refine tw_iload rfl rfl ?_
            refine tw_iload rfl rfl ?_
            refine tw_virt4 rfl (f_addStep hG  hs hk0) (fun w9 h9 p29 => ?_)
            rcases p29 with ⟨p29, rfl, p29e, p29g⟩ | ⟨p29, rfl, p29e, p29g⟩
            · refine tw_goto rfl ?_
              exact tw_iret rfl (Or.inl ⟨by omega, congrArg some (hi_81_7 hs).symm, p29e, p29g⟩)
            · refine tw_goto rfl ?_
              exact tw_iret rfl (Or.inr ⟨by omega, rfl, p29e, p29g⟩)
          · try dsimp only [tvI_i, tvJ_j, tvR_r] at p28
            refine tw_if_eq rfl (fun _ => ?_) (fun z => absurd z (by decide))
            refine tw_push rfl ?_
            refine tw_istore rfl ?_
            refine tw_iload rfl rfl ?_
            refine tw_if_eq rfl (fun _ => ?_) (fun z => absurd z (by decide))
            refine tw_push rfl ?_
            exact tw_iret rfl (Or.inr ⟨by omega, rfl, rfl, fun _ _ => rfl⟩)
        · try dsimp only [tvI_i, tvJ_j, tvR_r] at p27
          refine tw_if_eq rfl (fun _ => ?_) (fun z => absurd z (by decide))
          refine tw_push rfl ?_
          refine tw_istore rfl ?_
          refine tw_iload rfl rfl ?_
          refine tw_if_eq rfl (fun _ => ?_) (fun z => absurd z (by decide))
          refine tw_push rfl ?_
          exact tw_iret rfl (Or.inr ⟨by omega, rfl, rfl, fun _ _ => rfl⟩)
      · try dsimp only [tvI_i, tvJ_j, tvR_r] at p26
        refine tw_if_eq rfl (fun _ => ?_) (fun z => absurd z (by decide))
        refine tw_push rfl ?_
        refine tw_istore rfl ?_
        refine tw_iload rfl rfl ?_
        refine tw_if_eq rfl (fun _ => ?_) (fun z => absurd z (by decide))
        refine tw_push rfl ?_
        exact tw_iret rfl (Or.inr ⟨by omega, rfl, rfl, fun _ _ => rfl⟩)
  · try dsimp only [tvI_i, tvJ_j, tvR_r] at p21
    refine tw_if_eq rfl (fun _ => ?_) (fun z => absurd z (by decide))
    refine tw_push rfl ?_
    refine tw_istore rfl ?_
    refine tw_iload rfl rfl ?_
    refine tw_if_eq rfl (fun _ => ?_) (fun z => absurd z (by decide))
    refine tw_push rfl ?_
    exact tw_iret rfl (Or.inr ⟨by omega, rfl, rfl, fun _ _ => rfl⟩)
theorem f_in {G : zG} (hG : G.1 = zProg) {h : zH} {x lo hi : Int64} {X LO HI : Int} (hx : x.toInt = X) (hlo : lo.toInt = LO) (hhi : hi.toInt = HI) : tC zTt G 171 [.long x, .long lo, .long hi] h (fun w h2 => tBo (LO ≤ X ∧ X ≤ HI) w ∧ h2 = h) := by
  refine tC_in (by rw [hG]; rfl) (fun dp => ?_)
  refine tw_lload rfl rfl ?_
  refine tw_lload rfl rfl ?_
  refine tw_lc_lt rfl rfl (fun q30 => ?_) (fun q30 => ?_)
  · try dsimp only [tvI_i, tvJ_j, tvR_r] at q30
    refine tw_push rfl ?_
    exact tw_iret rfl ⟨Or.inr ⟨by omega, rfl⟩, rfl⟩
  · try dsimp only [tvI_i, tvJ_j, tvR_r] at q30
    refine tw_lload rfl rfl ?_
    refine tw_lload rfl rfl ?_
    refine tw_lc_gt rfl rfl (fun q31 => ?_) (fun q31 => ?_)
    · try dsimp only [tvI_i, tvJ_j, tvR_r] at q31
      refine tw_push rfl ?_
      exact tw_iret rfl ⟨Or.inr ⟨by omega, rfl⟩, rfl⟩
    · try dsimp only [tvI_i, tvJ_j, tvR_r] at q31
      refine tw_push rfl ?_
      refine tw_goto rfl ?_
      exact tw_iret rfl ⟨Or.inl ⟨by omega, rfl⟩, rfl⟩
theorem g_step {G : zG} (hG : G.1 = zProg) {h : zH} {m : Int32} {f : Int32} {y : Int32} {c : Int32} (hs : tSh h)  : tC zTt G 257 [.ref 111, .int m, .int f, .int y, .int c] h (phA 111 76 (((0 ≤ m.toInt ∧ m.toInt ≤ 99) ∧ (-1 ≤ f.toInt ∧ f.toInt ≤ 3) ∧ (y >>> (tvI (tF h 111 76) &&& 31)).toInt = 0 ∧ (0 ≤ c.toInt ∧ c.toInt ≤ 9999)) ∧ (tvI (tF h 111 76)).toInt ≠ 24) [] h) := by
  refine tC_in (by rw [hG]; rfl) (fun dp => ?_)
  refine tw_aload rfl rfl ?_
  refine tw_getS rfl (hi_111_76 hs) ?_
  refine tw_push rfl ?_
  refine tw_ic_eq rfl (fun q32 => ?_) (fun q32 => ?_)
  · try dsimp only [tvI_i, tvJ_j, tvR_r] at q32
    have q32i := zeqi (Y := 24) (by decide) q32
    refine tw_push rfl ?_
    exact tw_iret rfl (Or.inr ⟨by omega, rfl, rfl, fun _ _ => rfl⟩)
  · try dsimp only [tvI_i, tvJ_j, tvR_r] at q32
    have q32i := zneq (Y := 24) (by decide) q32
    refine tw_iload rfl rfl ?_
    refine tw_i2l rfl ?_
    refine tw_push rfl ?_
    refine tw_push rfl ?_
    refine tw_stat3 rfl (f_in hG  (LO := 0) (HI := 99) (Int32.toInt_toInt64 _) (by decide) (by decide)) (fun w9 h9 p33 => ?_)
    obtain ⟨⟨p33, rfl⟩ | ⟨p33, rfl⟩, rfl⟩ := p33
    · try dsimp only [tvI_i, tvJ_j, tvR_r] at p33
      refine tw_if_eq rfl (fun z => absurd z (by decide)) (fun _ => ?_)
      refine tw_iload rfl rfl ?_
      refine tw_i2l rfl ?_
      refine tw_push rfl ?_
      refine tw_push rfl ?_
      refine tw_stat3 rfl (f_in hG  (LO := (-1)) (HI := 3) (Int32.toInt_toInt64 _) (by decide) (by decide)) (fun w9 h9 p34 => ?_)
      obtain ⟨⟨p34, rfl⟩ | ⟨p34, rfl⟩, rfl⟩ := p34
      · try dsimp only [tvI_i, tvJ_j, tvR_r] at p34
        refine tw_if_eq rfl (fun z => absurd z (by decide)) (fun _ => ?_)
        refine tw_iload rfl rfl ?_
        refine tw_aload rfl rfl ?_
        refine tw_getS rfl (hi_111_76 hs) ?_
        refine tw_ishr rfl ?_
        refine tw_if_ne rfl (fun q35 => ?_) (fun q35 => ?_)
        · try dsimp only [tvI_i, tvJ_j, tvR_r] at q35
          have q35i := zneq (Y := 0) (by decide) q35
          refine tw_push rfl ?_
          exact tw_iret rfl (Or.inr ⟨by omega, rfl, rfl, fun _ _ => rfl⟩)
        · try dsimp only [tvI_i, tvJ_j, tvR_r] at q35
          have q35i := zeqi (Y := 0) (by decide) q35
          refine tw_iload rfl rfl ?_
          refine tw_i2l rfl ?_
          refine tw_push rfl ?_
          refine tw_push rfl ?_
          refine tw_stat3 rfl (f_in hG  (LO := 0) (HI := 9999) (Int32.toInt_toInt64 _) (by decide) (by decide)) (fun w9 h9 p36 => ?_)
          obtain ⟨⟨p36, rfl⟩ | ⟨p36, rfl⟩, rfl⟩ := p36
          · try dsimp only [tvI_i, tvJ_j, tvR_r] at p36
            refine tw_if_ne rfl (fun _ => ?_) (fun z => absurd z (by decide))
            refine tw_aload rfl rfl ?_
            refine tw_getS rfl (hs_111_77 hs) ?_
            refine tw_aload rfl rfl ?_
            refine tw_getS rfl (hi_111_76 hs) ?_
            refine tw_iload rfl rfl ?_
            refine tw_iast rfl (fun f37 => ?_)
            refine tw_aload rfl rfl ?_
            refine tw_getS rfl (hs_111_78 (tSh_SA hs)) ?_
            refine tw_aload rfl rfl ?_
            refine tw_getS rfl (tF_a (hi_111_76 hs)) ?_
            refine tw_iload rfl rfl ?_
            refine tw_iast rfl (fun f38 => ?_)
            refine tw_aload rfl rfl ?_
            refine tw_getS rfl (hs_111_79 (tSh_SA (tSh_SA hs))) ?_
            refine tw_aload rfl rfl ?_
            refine tw_getS rfl (tF_a (tF_a (hi_111_76 hs))) ?_
            refine tw_iload rfl rfl ?_
            refine tw_iast rfl (fun f39 => ?_)
            refine tw_aload rfl rfl ?_
            refine tw_getS rfl (hs_111_80 (tSh_SA (tSh_SA (tSh_SA hs)))) ?_
            refine tw_aload rfl rfl ?_
            refine tw_getS rfl (tF_a (tF_a (tF_a (hi_111_76 hs)))) ?_
            refine tw_iload rfl rfl ?_
            refine tw_iast rfl (fun f40 => ?_)
            refine tw_aload rfl rfl ?_
            refine tw_dup rfl ?_
            refine tw_getS rfl (tF_a (tF_a (tF_a (tF_a (hi_111_76 hs))))) ?_
            refine tw_push rfl ?_
            refine tw_iadd rfl ?_
            refine tw_put rfl (fun f41 => ?_)
            refine tw_aload rfl rfl ?_
            refine tw_getS rfl (tF_same f41) ?_
            refine tw_push rfl ?_
            refine tw_isub rfl ?_
            exact tw_iret rfl (Or.inl ⟨by omega, wret1 (hi_111_76 hs), (tF_same f41), (fun q hq => by cases hq)⟩)
          · try dsimp only [tvI_i, tvJ_j, tvR_r] at p36
            refine tw_if_ne rfl (fun z => absurd z (by decide)) (fun _ => ?_)
            refine tw_push rfl ?_
            exact tw_iret rfl (Or.inr ⟨by omega, rfl, rfl, fun _ _ => rfl⟩)
      · try dsimp only [tvI_i, tvJ_j, tvR_r] at p34
        refine tw_if_eq rfl (fun _ => ?_) (fun z => absurd z (by decide))
        refine tw_push rfl ?_
        exact tw_iret rfl (Or.inr ⟨by omega, rfl, rfl, fun _ _ => rfl⟩)
    · try dsimp only [tvI_i, tvJ_j, tvR_r] at p33
      refine tw_if_eq rfl (fun _ => ?_) (fun z => absurd z (by decide))
      refine tw_push rfl ?_
      exact tw_iret rfl (Or.inr ⟨by omega, rfl, rfl, fun _ _ => rfl⟩)
theorem a_step {m : Int32} {f : Int32} {y : Int32} {c : Int32} {h h2 h3 : zH} {w w2 : Option Value}  (hR : R_steps h) (e1 : tF h2 111 76 = tF h 111 76) (e2 : tF h3 81 7 = tF h2 81 7) (k1 : phA 81 7 (((0 ≤ m.toInt ∧ m.toInt ≤ 99) ∧ (-1 ≤ f.toInt ∧ f.toInt ≤ 3) ∧ (y >>> (tvI (tF h 81 7) &&& 31)).toInt = 0 ∧ (0 ≤ c.toInt ∧ c.toInt ≤ 9999)) ∧ (tvI (tF h 81 7)).toInt ≠ 24) [] h w h2) (k2 : phA 111 76 (((0 ≤ m.toInt ∧ m.toInt ≤ 99) ∧ (-1 ≤ f.toInt ∧ f.toInt ≤ 3) ∧ (y >>> (tvI (tF h2 111 76) &&& 31)).toInt = 0 ∧ (0 ≤ c.toInt ∧ c.toInt ≤ 9999)) ∧ (tvI (tF h2 111 76)).toInt ≠ 24) [] h2 w2 h3) : w2 = w ∧ R_steps h3 := by
  have hC : (((0 ≤ m.toInt ∧ m.toInt ≤ 99) ∧ (-1 ≤ f.toInt ∧ f.toInt ≤ 3) ∧ (y >>> (tvI (tF h 81 7) &&& 31)).toInt = 0 ∧ (0 ≤ c.toInt ∧ c.toInt ≤ 9999)) ∧ (tvI (tF h 81 7)).toInt ≠ 24) ↔ (((0 ≤ m.toInt ∧ m.toInt ≤ 99) ∧ (-1 ≤ f.toInt ∧ f.toInt ≤ 3) ∧ (y >>> (tvI (tF h2 111 76) &&& 31)).toInt = 0 ∧ (0 ≤ c.toInt ∧ c.toInt ≤ 9999)) ∧ (tvI (tF h2 111 76)).toInt ≠ 24) := by
    have hR2 := hR
    unfold R_steps at hR2
    rw [e1, ← hR2]
  obtain ⟨r1, r2, r3⟩ := phA_a hR e1 e2 hC k1 k2
  exact ⟨r1, r2⟩
