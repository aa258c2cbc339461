theorem tC_rec {G : zG} (hG : G.1 = zProg) (hX : G.2.1 = ztx) {m j : Nat} (hm : (m, j) ∈ cML) {h : zH} {T : Nat → Int32} {n d : Nat} {x : Int32} (hs : tSh h) (hp : cP h) (hT : tA h 45 = T) (hN : cn h = n) (hx : x.toInt = d) (hd : d ≤ 10) : tC zTt G j [.ref 44, .int x] h (cR T n m d h) := fun dp => f_rec hG hX dp m j hm h T n d x hs hp hT hN hx hd
/-! clauses, and a whole rule -/
noncomputable abbrev rCt : Type := Nat × Nat × Nat × Nat
noncomputable def rCl3 (T : Nat → Int32) (n k th f0 : Nat) (s2 : rS) (r : Nat ⊕ (rS × rCt)) : Prop :=
  (rW T n (rB T n s2.1) (rWd 16) = true ∧ ((∃ e, pE T n 9 0 (rA (rB T n s2.1 + 2) s2) (.inl e) ∧ r = .inl e) ∨ ∃ s3, pE T n 9 0 (rA (rB T n s2.1 + 2) s2) (.inr s3) ∧ r = .inr (s3, th, f0, s2.2.2.length, s3.2.2.length)))
  ∨ (¬ rW T n (rB T n s2.1) (rWd 16) = true ∧ k = 15 ∧ r = .inl (1 + 8 * rB T n s2.1 + 0))
  ∨ (¬ rW T n (rB T n s2.1) (rWd 16) = true ∧ k ≠ 15 ∧ r = .inr (rA (rB T n s2.1) s2, th, f0, s2.2.2.length, s2.2.2.length))
noncomputable def rCl2 (T : Nat → Int32) (n k th : Nat) (s1 : rS) (r : Nat ⊕ (rS × rCt)) : Prop :=
  (k = 15 ∧ rCl3 T n k th s1.2.2.length s1 r) ∨ (k ≠ 15 ∧ ((∃ e, pE T n 3 0 s1 (.inl e) ∧ r = .inl e) ∨ ∃ s2, pE T n 3 0 s1 (.inr s2) ∧ rCl3 T n k th s1.2.2.length s2 r))
noncomputable def rCl1 (T : Nat → Int32) (n k : Nat) (s0 : rS) (r : Nat ⊕ (rS × rCt)) : Prop :=
  (k = 12 ∧ ((∃ e, rM T n 2 s0.1 = .inl e ∧ r = .inl e) ∨ ∃ q, rM T n 2 s0.1 = .inr q ∧ rCl2 T n k q.2 (rA q.1 s0) r)) ∨ (k ≠ 12 ∧ rCl2 T n k k s0 r)
noncomputable def rCl (T : Nat → Int32) (n c : Nat) (s : rS) (r : Nat ⊕ (rS × rCt)) : Prop :=
  ((∀ k, 12 ≤ k → k ≤ 15 → ¬ rW T n (rB T n s.1) (rWd k) = true) ∧ r = .inl (1 + 8 * rB T n s.1 + 0))
  ∨ (∃ k, 12 ≤ k ∧ k ≤ 15 ∧ rW T n (rB T n s.1) (rWd k) = true ∧ ((c = 12 ∧ r = .inl (1 + 8 * rB T n s.1 + 4)) ∨ (c ≠ 12 ∧ rCl1 T n k (rA (rE T n (rB T n s.1)) s) r)))
noncomputable def rRu (T : Nat → Int32) (n : Nat) : Nat → rS → List rCt → Nat ⊕ (rS × List rCt) → Prop
  | 0, _, _, _ => False
  | f + 1, s, cl, r => (∃ e, rCl T n cl.length s (.inl e) ∧ r = .inl e) ∨ ∃ s1 c, rCl T n cl.length s (.inr (s1, c)) ∧ ((¬ rB T n s1.1 < n ∧ r = .inr (rA (rB T n s1.1) s1, cl ++ [c])) ∨ ((rB T n s1.1 < n ∧ T (rB T n s1.1) = 59) ∧ rRu T n f (rA (rB T n s1.1 + 1) s1) (cl ++ [c]) r) ∨ ((rB T n s1.1 < n ∧ ¬ T (rB T n s1.1) = 59) ∧ r = .inl (1 + 8 * rB T n s1.1 + 0)))
noncomputable def cCl (h : zH) : List rCt := (List.range (tvI (tF h 44 7)).toNatClampNeg).map (fun i => ((tA h 47 (4 * i)).toNatClampNeg, (tA h 47 (4 * i + 1)).toNatClampNeg, (tA h 47 (4 * i + 2)).toNatClampNeg, (tA h 47 (4 * i + 3)).toNatClampNeg))
noncomputable def cFq (h h2 : zH) : Prop := tSh h2 ∧ (∀ p b, ¬ (p = 44 ∧ (b = 2 ∨ b = 3 ∨ b = 5 ∨ b = 7 ∨ b = 8 ∨ b = 9)) → tF h2 p b = tF h p b) ∧ (∀ p, p ≠ 46 → p ≠ 47 → tA h2 p = tA h p) ∧ tN h2 = tN h
noncomputable def cQ (h : zH) : Prop := 0 ≤ (tvI (tF h 44 7)).toInt ∧ (tvI (tF h 44 7)).toInt ≤ 12 ∧ tN h 47 = 48
section RQ
variable {h h1 h2 : zH}
theorem cFq_f (k : cFr h h2) : cFq h h2 := ⟨k.1, fun p b z => k.2.1 p b (fun w => z ⟨w.1, by omega⟩), fun p z _ => k.2.2.1 p z, k.2.2.2⟩
theorem cFq_t (a : cFq h h1) (k : cFq h1 h2) : cFq h h2 := ⟨k.1, fun p q z => (k.2.1 p q z).trans (a.2.1 p q z), fun p z w => (k.2.2.1 p z w).trans (a.2.2.1 p z w), k.2.2.2.trans a.2.2.2⟩
theorem cFr_7 (k : cFr h h2) : tF h2 44 7 = tF h 44 7 := k.2.1 44 7 (by decide)
theorem cCl_f (k : cFr h h2) : cCl h2 = cCl h := by
  unfold cCl
  rw [cFr_7 k, k.2.2.1 47 (by decide)]
theorem cQ_f (k : cFr h h2) (q : cQ h) : cQ h2 := by
  unfold cQ
  rw [cFr_7 k, k.2.2.2]
  exact q
theorem cCl_len : (cCl h).length = (tvI (tF h 44 7)).toNatClampNeg := by unfold cCl; rw [List.length_map, List.length_range]
theorem cFq_T (a : cFq h h1) : tA h1 45 = tA h 45 := a.2.2.1 45 (by decide) (by decide)
theorem cFq_n (a : cFq h h1) : cn h1 = cn h := by
  unfold cn
  rw [a.2.1 44 1 (by decide)]
/-- a clause is kept -/
theorem cKp_of {a b c : Int32} {k1 k2 k3 k4 : Nat} (hs : tSh h) (q : cQ h) (h12 : (tvI (tF h 44 7)).toInt < 12) {i0 i1 i2 i3 : Int32} (e0 : i0.toInt = 4 * (tvI (tF h 44 7)).toInt) (e1 : i1.toInt = 4 * (tvI (tF h 44 7)).toInt + 1) (e2 : i2.toInt = 4 * (tvI (tF h 44 7)).toInt + 2) (e3 : i3.toInt = 4 * (tvI (tF h 44 7)).toInt + 3)
  {g1 g2 g3 g4 : zH} (d1 : g1 = tSA h 47 i0.toNatClampNeg a) (f1 : tIn h 47 k1 i0) (d2 : g2 = tSA g1 47 i1.toNatClampNeg b) (f2 : tIn g1 47 k2 i1) (d3 : g3 = tSA g2 47 i2.toNatClampNeg c) (f3 : tIn g2 47 k3 i2) {x5 : Int32} (h5 : x5 = tvI (tF h 44 5)) (d4 : g4 = tSA g3 47 i3.toNatClampNeg x5) (f4 : tIn g3 47 k4 i3) {x7 : Int32} (h7 : x7 = tvI (tF h 44 7) + 1) (f5 : tFd g4 44 7) :
  cFq h (tSF g4 44 7 (.int x7)) ∧ cCl (tSF g4 44 7 (.int x7)) = cCl h ++ [(a.toNatClampNeg, b.toNatClampNeg, c.toNatClampNeg, (tvI (tF h 44 5)).toNatClampNeg)] ∧ cQ (tSF g4 44 7 (.int x7)) ∧ cs (tSF g4 44 7 (.int x7)) = cs h ∧ (∀ b, b ≠ 7 → tF (tSF g4 44 7 (.int x7)) 44 b = tF h 44 b) ∧ tA (tSF g4 44 7 (.int x7)) 45 = tA h 45 := by
  subst h5 h7
  have F4 : tF g4 = tF h := by rw [d4, tF_tSA, d3, tF_tSA, d2, tF_tSA, d1, tF_tSA]
  have N4 : tN g4 = tN h := by rw [d4, tN_tSA, d3, tN_tSA, d2, tN_tSA, d1, tN_tSA]
  have A4 : ∀ p, p ≠ 47 → tA g4 p = tA h p := fun p hp => by rw [d4, tA_nz hp, d3, tA_nz hp, d2, tA_nz hp, d1, tA_nz hp]
  have hs4 := tSh_F F4 hs
  have e := cSet_of f5 (hw_44_7 (x := tvI (tF h 44 7) + 1) f5 hs4)
  have n0 : i0.toNatClampNeg = 4 * (tvI (tF h 44 7)).toNatClampNeg := by rw [zclE, zclE]; have := q.1; omega
  have n1 : i1.toNatClampNeg = 4 * (tvI (tF h 44 7)).toNatClampNeg + 1 := by rw [zclE, zclE]; have := q.1; omega
  have n2 : i2.toNatClampNeg = 4 * (tvI (tF h 44 7)).toNatClampNeg + 2 := by rw [zclE, zclE]; have := q.1; omega
  have n3 : i3.toNatClampNeg = 4 * (tvI (tF h 44 7)).toNatClampNeg + 3 := by rw [zclE, zclE]; have := q.1; omega
  have A47 : ∀ i, tA g4 47 i = if i = i3.toNatClampNeg then tvI (tF h 44 5) else if i = i2.toNatClampNeg then c else if i = i1.toNatClampNeg then b else if i = i0.toNatClampNeg then a else tA h 47 i := by
    intro i
    rw [d4, tA_tSA f4.cell, d3, tA_tSA f3.cell, d2, tA_tSA f2.cell, d1, tA_tSA f1.cell]
    simp only [true_and]
  generalize tSF g4 44 7 (.int (tvI (tF h 44 7) + 1)) = h3 at e
  have hF : ∀ b, b ≠ 7 → tF h3 44 b = tF h 44 b := fun b hb => (e.2.2.1 44 b (fun z => hb z.2)).trans (by rw [F4])
  have i7 : (tvI (tF h 44 7) + 1).toInt = (tvI (tF h 44 7)).toInt + 1 := zj1 (y := 12) q.1 h12
  have i7n : (tvI (tF h 44 7) + 1).toNatClampNeg = (tvI (tF h 44 7)).toNatClampNeg + 1 := zj1n (y := 12) q.1 h12
  refine ⟨⟨e.1, fun p b z => (e.2.2.1 p b (fun w => z ⟨w.1, by omega⟩)).trans (by rw [F4]), fun p _ z => (congrFun e.2.2.2.1 p).trans (A4 p z), e.2.2.2.2.trans N4⟩, ?_, ⟨?_, ?_, ?_⟩, ?_, hF, (congrFun e.2.2.2.1 45).trans (A4 45 (by decide))⟩
  · unfold cCl
    rw [cI_x e, i7n, List.range_succ, List.map_append, e.2.2.2.1]
    refine congr (congrArg HAppend.hAppend (List.map_congr_left (fun i hi => ?_))) ?_
    · have hi := List.mem_range.mp hi
      rw [A47, A47, A47, A47, n0, n1, n2, n3]
      rw [if_neg (by omega), if_neg (by omega), if_neg (by omega), if_neg (by omega), if_neg (by omega), if_neg (by omega), if_neg (by omega), if_neg (by omega), if_neg (by omega), if_neg (by omega), if_neg (by omega), if_neg (by omega), if_neg (by omega), if_neg (by omega), if_neg (by omega), if_neg (by omega)]
    · show [((tA g4 47 (4 * (tvI (tF h 44 7)).toNatClampNeg)).toNatClampNeg, (tA g4 47 (4 * (tvI (tF h 44 7)).toNatClampNeg + 1)).toNatClampNeg, (tA g4 47 (4 * (tvI (tF h 44 7)).toNatClampNeg + 2)).toNatClampNeg, (tA g4 47 (4 * (tvI (tF h 44 7)).toNatClampNeg + 3)).toNatClampNeg)] = _
      rw [A47, A47, A47, A47, n0, n1, n2, n3]
      rw [if_neg (by omega), if_neg (by omega), if_neg (by omega), if_pos rfl, if_neg (by omega), if_neg (by omega), if_pos rfl, if_neg (by omega), if_pos rfl, if_pos rfl]
  · rw [cI_x e, i7]; have := q.1; omega
  · rw [cI_x e, i7]; omega
  · rw [e.2.2.2.2, N4]; exact q.2.2
  · unfold cs cCo
    rw [hF 2 (by decide), hF 8 (by decide), hF 5 (by decide), e.2.2.2.1, A4 46 (by decide)]
theorem cP_q (p : cP h) (hF : ∀ b, b ≠ 7 → tF h2 44 b = tF h 44 b) (hT : tA h2 45 = tA h 45) (hN : tN h2 = tN h) : cP h2 := by
  unfold cP
  rw [hF 2 (by decide), hF 1 (by decide), hF 8 (by decide), hF 5 (by decide), hF 9 (by decide), hT, hN]
  exact p
theorem zm4 {x : Int32} (h0 : 0 ≤ x.toInt) (h1 : x.toInt ≤ 12) : (x * 4).toInt = 4 * x.toInt := by
  rw [Int32.toInt_mul, show (4 : Int32).toInt = 4 from rfl]
  exact (Int.bmod_eq_of_le (by show (-2147483648 : Int) ≤ x.toInt * 4; omega) (by show x.toInt * 4 < (2147483648 : Int); omega)).trans (by omega)
theorem zm4a {x y : Int32} {Y : Int} (h0 : 0 ≤ x.toInt) (h1 : x.toInt ≤ 12) (hy : y.toInt = Y) (hY : 0 ≤ Y ∧ Y ≤ 10) : (x * 4 + y).toInt = 4 * x.toInt + Y := by
  rw [Int32.toInt_add, zm4 h0 h1, hy]
  exact Int.bmod_eq_of_le (by show (-2147483648 : Int) ≤ 4 * x.toInt + Y; omega) (by show 4 * x.toInt + Y < (2147483648 : Int); omega)
theorem c12 (q : cQ h) : (cCl h).length = 12 ↔ tvI (tF h 44 7) = 12 := by
  rw [cCl_len, zclE]
  have := q.1
  constructor
  · intro z
    refine Int32.toInt_inj.mp ?_
    show _ = (12 : Int)
    omega
  · intro z
    rw [z]; rfl
end RQ
theorem f_keepClause {G : zG} (hG : G.1 = zProg) (hX : G.2.1 = ztx) {h : zH} {T : Nat → Int32} {n : Nat} (hs : tSh h) (hp : cP h) (hT : tA h 45 = T) (hN : cn h = n) {a b c : Int32} (hq : cQ h) (h12 : (tvI (tF h 44 7)).toInt < 12) : tC zTt G 77 [.ref 44, .int a, .int b, .int c] h (fun w h2 => w = none ∧ cFq h h2 ∧ cCl h2 = cCl h ++ [(a.toNatClampNeg, b.toNatClampNeg, c.toNatClampNeg, (tvI (tF h 44 5)).toNatClampNeg)] ∧ cQ h2 ∧ cs h2 = cs h ∧ cP h2) := by
  refine tC_in (by rw [hG]; rfl) (fun dp => ?_)
  have g0 := cFr_r hs
  have hpn : (cs h).1 ≤ n := by rw [← hN]; exact cP_le hp
  refine tw_aload rfl rfl ?_
  refine tw_getS rfl (hi_44_7 hs) ?_
  refine tw_push rfl ?_
  refine tw_imul rfl ?_
  refine tw_istore rfl ?_
  refine tw_iload rfl rfl ?_
  refine tw_push rfl ?_
  refine tw_iadd rfl ?_
  refine tw_aload rfl rfl ?_
  refine tw_getS rfl (hs_44_6 hs) ?_
  refine tw_alen rfl ?_
  refine tw_ic_le rfl (fun q611 => ?_) (fun q611 => ?_)
  · try dsimp only [tvI_i, tvJ_j, tvR_r] at q611
    refine tw_aload rfl rfl ?_
    refine tw_getS rfl (hs_44_6 hs) ?_
    refine tw_iload rfl rfl ?_
    refine tw_iload rfl rfl ?_
    refine tw_iast rfl (fun f612 => ?_)
    refine tw_aload rfl rfl ?_
    refine tw_getS rfl (hs_44_6 (tSh_SA hs)) ?_
    refine tw_iload rfl rfl ?_
    refine tw_push rfl ?_
    refine tw_iadd rfl ?_
    refine tw_iload rfl rfl ?_
    refine tw_iast rfl (fun f613 => ?_)
    refine tw_aload rfl rfl ?_
    refine tw_getS rfl (hs_44_6 (tSh_SA (tSh_SA hs))) ?_
    refine tw_iload rfl rfl ?_
    refine tw_push rfl ?_
    refine tw_iadd rfl ?_
    refine tw_iload rfl rfl ?_
    refine tw_iast rfl (fun f614 => ?_)
    refine tw_aload rfl rfl ?_
    refine tw_getS rfl (hs_44_6 (tSh_SA (tSh_SA (tSh_SA hs)))) ?_
    refine tw_iload rfl rfl ?_
    refine tw_push rfl ?_
    refine tw_iadd rfl ?_
    refine tw_aload rfl rfl ?_
    refine tw_getS rfl (tF_a (tF_a (tF_a (hi_44_5 hs)))) ?_
    refine tw_iast rfl (fun f615 => ?_)
    refine tw_aload rfl rfl ?_
    refine tw_dup rfl ?_
    refine tw_getS rfl (tF_a (tF_a (tF_a (tF_a (hi_44_7 hs))))) ?_
    refine tw_push rfl ?_
    refine tw_iadd rfl ?_
    refine tw_put rfl (fun f616 => ?_)
    refine tw_vret rfl ?_
    refine (fun K => ⟨rfl, K.1, K.2.1, K.2.2.1, K.2.2.2.1, cP_q hp K.2.2.2.2.1 K.2.2.2.2.2 K.1.2.2.2⟩ : _ → _) (cKp_of hs hq h12 (zm4 hq.1 hq.2.1) (zm4a hq.1 hq.2.1 rfl (by decide)) (zm4a hq.1 hq.2.1 rfl (by decide)) (zm4a hq.1 hq.2.1 rfl (by decide)) rfl f612 rfl f613 rfl f614 rfl rfl f615 rfl f616)
  · try dsimp only [tvI_i, tvJ_j, tvR_r] at q611
    have e9 : (Int32.ofNat (tN h 47)).toInt = 48 := by rw [hq.2.2]; rfl
    have e8 := zm4a (y := 4) (Y := 4) hq.1 hq.2.1 rfl (by decide)
    have z := q611
    exfalso
    have e7 : (tvI (tF h 44 7) * 4 + 4).toInt ≤ 48 := by omega
    first | omega | exact absurd z (by omega) | (rw [e9] at z; omega)
theorem f_readClause {G : zG} (hG : G.1 = zProg) (hX : G.2.1 = ztx) {h : zH} {T : Nat → Int32} {n : Nat} (hs : tSh h) (hp : cP h) (hT : tA h 45 = T) (hN : cn h = n) (hq : cQ h) : tC zTt G 76 [.ref 44] h (fun w h2 => cFq h h2 ∧ cQ h2 ∧ ((w = some (.int 1) ∧ ∃ c, rCl T n (cCl h).length (cs h) (.inr (cs h2, c)) ∧ cCl h2 = cCl h ++ [c] ∧ cP h2) ∨ (w = some (.int 0) ∧ ∃ e, rCl T n (cCl h).length (cs h) (.inl e) ∧ cFt h2 e))) := by
  refine tC_in (by rw [hG]; rfl) (fun dp => ?_)
  have g0 := cFr_r hs
  have hpn : (cs h).1 ≤ n := by rw [← hN]; exact cP_le hp
  have c129 : (12 : Int32).toInt = 12 := rfl
  have c159 : (15 : Int32).toInt = 15 := rfl
  refine tw_aload rfl rfl ?_
  refine tw_virt0 rfl (f_wordHere hG hX (g0).1 hp ((cFr_T g0).trans hT) ((cFr_n g0).trans hN)) (fun wp617 hp617 p617 => ?_)
  obtain ⟨gp617, ppp617, ssp617, eep617, ip617, rfl, kwp617⟩ := p617
  have ggp617 := cFr_t g0 gp617
  refine tw_istore rfl ?_
  refine tw_iload rfl rfl ?_
  refine tw_push rfl ?_
  refine tw_ic_lt rfl (fun q618 => ?_) (fun q618 => ?_)
  · try dsimp only [tvI_i, tvJ_j, tvR_r] at q618
    refine tw_aload rfl rfl ?_
    refine tw_aload rfl rfl ?_
    refine tw_getS rfl (hi_44_2 ggp617.1) ?_
    refine tw_push rfl ?_
    refine tw_virt2 rfl (f_refuse hG hX (ggp617).1 ppp617 ((cFr_T ggp617).trans hT) ((cFr_n ggp617).trans hN)) (fun wp619 hp619 p619 => ?_)
    obtain ⟨gp619, rfl, up619⟩ := p619
    have ggp619 := cFr_t ggp617 gp619
    have kwb := kwp617.1
    have hft := cFt_of ppp617 up619 (w := 0) rfl (by decide)
    rw [ssp617] at hft
    have z0 := q618
    exact tw_iret rfl ⟨cFq_f ggp619, cQ_f ggp619 hq, Or.inr ⟨rfl, _, Or.inl ⟨fun k h1 h2 z => by have y := (kwp617.2 k (by omega)).mpr z; omega, rfl⟩, hft⟩⟩
  · try dsimp only [tvI_i, tvJ_j, tvR_r] at q618
    refine tw_iload rfl rfl ?_
    refine tw_push rfl ?_
    refine tw_ic_le rfl (fun q620 => ?_) (fun q620 => ?_)
    · try dsimp only [tvI_i, tvJ_j, tvR_r] at q620
      refine tw_aload rfl rfl ?_
      refine tw_getS rfl (hi_44_7 ggp617.1) ?_
      refine tw_push rfl ?_
      refine tw_ic_ne rfl (fun q621 => ?_) (fun q621 => ?_)
      · try dsimp only [tvI_i, tvJ_j, tvR_r] at q621
        have q621i := zneq (Y := 12) (by decide) q621
        refine tw_aload rfl rfl ?_
        refine tw_aload rfl rfl ?_
        refine tw_getS rfl (hi_44_3 ggp617.1) ?_
        refine tw_put rfl (fun f622 => ?_)
        refine tG_set f622 (hw_44_2 f622 (ggp617).1) (fun hf622 ef622 => ?_)
        try dsimp only [tvI_i] at ef622
        have gf622 := cFr_s ggp617 ef622 (by decide)
        have kwb := kwp617.1
        have hk1 : 12 ≤ ip617.toInt := by have z := q618; omega
        have hk2 : ip617.toInt ≤ 15 := by have z := q620; omega
        have hkw : rW T n (rB T n (cs h).1) (rWd ip617.toInt.toNat) = true := (kwp617.2 ip617.toInt.toNat (by omega)).mp (by omega)
        have hc12 : (cCl h).length ≠ 12 := fun z => q621 ((congrArg tvI (cFr_7 ggp617)).trans ((c12 hq).mp z))
        have hlt12 : (tvI (tF h 44 7)).toInt < 12 := by have a := hq.2.1; have b : (tvI (tF h 44 7)).toInt ≠ 12 := fun z => q621 ((congrArg tvI (cFr_7 ggp617)).trans (Int32.toInt_inj.mp z)); omega
        obtain ⟨pf622, sf622⟩ := cTo ppp617 ((cFr_n ggp617).trans hN) ef622 eep617 (by rw [ssp617]; exact rE_ge) (rE_le (rB_le hpn))
        have sf622 : cs hf622 = rA (rE T n (rB T n (cs h).1)) (cs h) := by rw [sf622, ssp617]; rfl
        refine tw_iload rfl rfl ?_
        refine tw_push rfl ?_
        refine tw_ic_ne rfl (fun q623 => ?_) (fun q623 => ?_)
        · try dsimp only [tvI_i, tvJ_j, tvR_r] at q623
          have q623i := zneq (Y := 15) (by decide) q623
          refine tw_push rfl ?_
          refine tw_istore rfl ?_
          refine tw_iload rfl rfl ?_
          refine tw_push rfl ?_
          refine tw_ic_ne rfl (fun q624 => ?_) (fun q624 => ?_)
          · try dsimp only [tvI_i, tvJ_j, tvR_r] at q624
            have q624i := zneq (Y := 12) (by decide) q624
            refine tw_aload rfl rfl ?_
            refine tw_getS rfl (hi_44_5 (gf622).1) ?_
            refine tw_istore rfl ?_
            refine tw_iload rfl rfl ?_
            refine tw_if_ne rfl (fun z => absurd z (by decide)) (fun _ => ?_)
            refine tw_aload rfl rfl ?_
            refine tw_push rfl ?_
            refine tw_virt1 rfl (tC_rec hG hX (m := 3) (d := 0) (by decide) (gf622).1 pf622 ((cFr_T gf622).trans hT) ((cFr_n gf622).trans hN) rfl (by decide)) (fun w9 hp625 p625 => ?_)
            obtain ⟨gp625, ⟨rfl, p625, ppp625⟩ | ⟨rfl, xp625, p625, up625⟩⟩ := p625
            · have ggp625 := cFr_t gf622 gp625
              refine tw_if_ne rfl (fun _ => ?_) (fun z => absurd z (by decide))
              refine tw_aload rfl rfl ?_
              refine tw_getS rfl (hi_44_5 ggp625.1) ?_
              refine tw_istore rfl ?_
              refine tw_aload rfl rfl ?_
              refine tw_virt0 rfl (f_wordHere hG hX (ggp625).1 ppp625 ((cFr_T ggp625).trans hT) ((cFr_n ggp625).trans hN)) (fun wp626 hp626 p626 => ?_)
              obtain ⟨gp626, ppp626, ssp626, eep626, ip626, rfl, kwp626⟩ := p626
              have ggp626 := cFr_t ggp625 gp626
              refine tw_push rfl ?_
              refine tw_ic_ne rfl (fun q627 => ?_) (fun q627 => ?_)
              · try dsimp only [tvI_i, tvJ_j, tvR_r] at q627
                have q627i := zneq (Y := 16) (by decide) q627
                refine tw_iload rfl rfl ?_
                refine tw_if_eq rfl (fun _ => ?_) (fun z => absurd z (by decide))
                refine tw_aload rfl rfl ?_
                refine tw_iload rfl rfl ?_
                refine tw_iload rfl rfl ?_
                refine tw_iload rfl rfl ?_
                refine tw_virt3 rfl (f_keepClause hG hX (ggp626).1 ppp626 ((cFr_T ggp626).trans hT) ((cFr_n ggp626).trans hN) (cQ_f ggp626 hq) (by have := cFr_7 ggp626; rw [this]; exact hlt12)) (fun wp628 hp628 p628 => ?_)
                obtain ⟨rfl, gqp628, clp628, qqp628, ssp628, ppp628⟩ := p628
                refine tw_push rfl ?_
                have hk15 : ip617.toInt.toNat ≠ 15 := by have z := q623i; omega
                have hk12 : ip617.toInt.toNat ≠ 12 := by have z := q624i; omega
                have hx1 := sf622
                have ho := p625
                rw [hx1] at ho
                have hnw : ¬ rW T n (rB T n (cs hp625).1) (rWd 16) = true := fun z => q627 ((wrd_k (k := 16) kwp626 (by decide) (K := 16) rfl).mpr z)
                have hc3 : rCl3 T n ip617.toInt.toNat (ip617.toInt.toNat) (rA (rE T n (rB T n (cs h).1)) (cs h)).2.2.length (cs hp625) (.inr (cs hp626, ip617.toInt.toNat, (rA (rE T n (rB T n (cs h).1)) (cs h)).2.2.length, (cs hp625).2.2.length, (cs hp626).2.2.length)) := Or.inr (Or.inr ⟨hnw, hk15, by rw [ssp626]; rfl⟩)
                have hthv : (ip617).toNatClampNeg = ip617.toInt.toNat := rfl
                have hclk : cCl hp628 = cCl h ++ [(ip617.toInt.toNat, (rA (rE T n (rB T n (cs h).1)) (cs h)).2.2.length, (cs hp625).2.2.length, (cs hp626).2.2.length)] := by
                  rw [clp628, cCl_f ggp626, ← hx1, show (cs hf622).2.2.length = _ from cCo_len, show (cs hp626).2.2.length = _ from cCo_len, show (cs hp625).2.2.length = _ from cCo_len]
                  exact congrArg (fun z => cCl h ++ [(z, _, _, _)]) hthv
                have hcz : rCl T n (cCl h).length (cs h) (.inr (cs hp628, ip617.toInt.toNat, (rA (rE T n (rB T n (cs h).1)) (cs h)).2.2.length, (cs hp625).2.2.length, (cs hp626).2.2.length)) := by rw [ssp628]; exact Or.inr ⟨ip617.toInt.toNat, by omega, by omega, hkw, Or.inr ⟨hc12, Or.inr ⟨hk12, Or.inr ⟨hk15, Or.inr ⟨_, ho, hc3⟩⟩⟩⟩⟩
                exact tw_iret rfl ⟨cFq_t (cFq_f ggp626) gqp628, qqp628, Or.inl ⟨rfl, _, hcz, hclk, ppp628⟩⟩
              · try dsimp only [tvI_i, tvJ_j, tvR_r] at q627
                have q627i := zeqi (Y := 16) (by decide) q627
                refine tw_aload rfl rfl ?_
                refine tw_aload rfl rfl ?_
                refine tw_getS rfl (hi_44_3 ggp626.1) ?_
                refine tw_put rfl (fun f629 => ?_)
                refine tG_set f629 (hw_44_2 f629 (ggp626).1) (fun hf629 ef629 => ?_)
                try dsimp only [tvI_i] at ef629
                have gf629 := cFr_s ggp626 ef629 (by decide)
                have hw16 := (wrd_k (k := 16) kwp626 (by decide) (K := 16) rfl).mp q627
                have h9w : rE T n (rB T n (cs hp625).1) = rB T n (cs hp625).1 + 2 := by rw [rW_e hw16, wlen_k.2.2.2]
                have hyn : (cs hp625).1 ≤ n := by rw [← ((cFr_n ggp625).trans hN)]; exact cP_le ppp625
                have hr9 := rE_le (T := T) (rB_le (T := T) hyn)
                rw [h9w] at hr9 eep626
                obtain ⟨pf629, sf629⟩ := cTo ppp626 ((cFr_n ggp626).trans hN) ef629 eep626 (by rw [ssp626]; exact Nat.le_add_right _ _) hr9
                have sf629 : cs hf629 = rA (rB T n (cs hp625).1 + 2) (cs hp625) := by rw [sf629, ssp626]; rfl
                refine tw_aload rfl rfl ?_
                refine tw_push rfl ?_
                refine tw_virt1 rfl (tC_rec hG hX (m := 9) (d := 0) (by decide) (gf629).1 pf629 ((cFr_T gf629).trans hT) ((cFr_n gf629).trans hN) rfl (by decide)) (fun w9 hp630 p630 => ?_)
                obtain ⟨gp630, ⟨rfl, p630, ppp630⟩ | ⟨rfl, xp630, p630, up630⟩⟩ := p630
                · have ggp630 := cFr_t gf629 gp630
                  refine tw_if_ne rfl (fun _ => ?_) (fun z => absurd z (by decide))
                  refine tw_aload rfl rfl ?_
                  refine tw_iload rfl rfl ?_
                  refine tw_iload rfl rfl ?_
                  refine tw_iload rfl rfl ?_
                  refine tw_virt3 rfl (f_keepClause hG hX (ggp630).1 ppp630 ((cFr_T ggp630).trans hT) ((cFr_n ggp630).trans hN) (cQ_f ggp630 hq) (by have := cFr_7 ggp630; rw [this]; exact hlt12)) (fun wp631 hp631 p631 => ?_)
                  obtain ⟨rfl, gqp631, clp631, qqp631, ssp631, ppp631⟩ := p631
                  refine tw_push rfl ?_
                  have hk15 : ip617.toInt.toNat ≠ 15 := by have z := q623i; omega
                  have hk12 : ip617.toInt.toNat ≠ 12 := by have z := q624i; omega
                  have hx1 := sf622
                  have ho := p625
                  rw [hx1] at ho
                  have ht := p630
                  rw [sf629] at ht
                  have hc3 : rCl3 T n ip617.toInt.toNat (ip617.toInt.toNat) (rA (rE T n (rB T n (cs h).1)) (cs h)).2.2.length (cs hp625) (.inr (cs hp630, ip617.toInt.toNat, (rA (rE T n (rB T n (cs h).1)) (cs h)).2.2.length, (cs hp625).2.2.length, (cs hp630).2.2.length)) := Or.inl ⟨hw16, Or.inr ⟨_, ht, rfl⟩⟩
                  have hthv : (ip617).toNatClampNeg = ip617.toInt.toNat := rfl
                  have hclk : cCl hp631 = cCl h ++ [(ip617.toInt.toNat, (rA (rE T n (rB T n (cs h).1)) (cs h)).2.2.length, (cs hp625).2.2.length, (cs hp630).2.2.length)] := by
                    rw [clp631, cCl_f ggp630, ← hx1, show (cs hf622).2.2.length = _ from cCo_len, show (cs hp630).2.2.length = _ from cCo_len, show (cs hp625).2.2.length = _ from cCo_len]
                    exact congrArg (fun z => cCl h ++ [(z, _, _, _)]) hthv
                  have hcz : rCl T n (cCl h).length (cs h) (.inr (cs hp631, ip617.toInt.toNat, (rA (rE T n (rB T n (cs h).1)) (cs h)).2.2.length, (cs hp625).2.2.length, (cs hp630).2.2.length)) := by rw [ssp631]; exact Or.inr ⟨ip617.toInt.toNat, by omega, by omega, hkw, Or.inr ⟨hc12, Or.inr ⟨hk12, Or.inr ⟨hk15, Or.inr ⟨_, ho, hc3⟩⟩⟩⟩⟩
                  exact tw_iret rfl ⟨cFq_t (cFq_f ggp630) gqp631, qqp631, Or.inl ⟨rfl, _, hcz, hclk, ppp631⟩⟩
                · have ggp630 := cFr_t gf629 gp630
                  refine tw_if_ne rfl (fun z => absurd z (by decide)) (fun _ => ?_)
                  refine tw_push rfl ?_
                  have hk15 : ip617.toInt.toNat ≠ 15 := by have z := q623i; omega
                  have hk12 : ip617.toInt.toNat ≠ 12 := by have z := q624i; omega
                  have hx1 := sf622
                  have ho := p625
                  rw [hx1] at ho
                  have ht := p630
                  rw [sf629] at ht
                  have hc3 : rCl3 T n ip617.toInt.toNat (ip617.toInt.toNat) (rA (rE T n (rB T n (cs h).1)) (cs h)).2.2.length (cs hp625) (.inl _) := Or.inl ⟨hw16, Or.inl ⟨_, ht, rfl⟩⟩
                  exact tw_iret rfl ⟨cFq_f ggp630, cQ_f ggp630 hq, Or.inr ⟨rfl, _, Or.inr ⟨ip617.toInt.toNat, by omega, by omega, hkw, Or.inr ⟨hc12, Or.inr ⟨hk12, Or.inr ⟨hk15, Or.inr ⟨_, ho, hc3⟩⟩⟩⟩⟩, up630⟩⟩
            · have ggp625 := cFr_t gf622 gp625
              refine tw_if_ne rfl (fun z => absurd z (by decide)) (fun _ => ?_)
              refine tw_push rfl ?_
              have hk15 : ip617.toInt.toNat ≠ 15 := by have z := q623i; omega
              have hk12 : ip617.toInt.toNat ≠ 12 := by have z := q624i; omega
              have hx1 := sf622
              have ho := p625
              rw [hx1] at ho
              exact tw_iret rfl ⟨cFq_f ggp625, cQ_f ggp625 hq, Or.inr ⟨rfl, _, Or.inr ⟨ip617.toInt.toNat, by omega, by omega, hkw, Or.inr ⟨hc12, Or.inr ⟨hk12, Or.inr ⟨hk15, Or.inl ⟨_, ho, rfl⟩⟩⟩⟩⟩, up625⟩⟩
          · try dsimp only [tvI_i, tvJ_j, tvR_r] at q624
            have q624i := zeqi (Y := 12) (by decide) q624
            refine tw_aload rfl rfl ?_
            refine tw_push rfl ?_
            refine tw_virt1 rfl (f_numberHere hG hX (gf622).1 pf622 ((cFr_T gf622).trans hT) ((cFr_n gf622).trans hN) (m := 2) (M := 2) rfl (by decide)) (fun w9 hp632 p632 => ?_)
            obtain ⟨gp632, ⟨vp632, p632, rfl, ssp632, ppp632⟩ | ⟨xp632, p632, rfl, up632⟩⟩ := p632
            · have ggp632 := cFr_t gf622 gp632
              refine tw_istore rfl ?_
              refine tw_iload rfl rfl ?_
              refine tw_push rfl ?_
              refine tw_ic_ne rfl (fun q633 => ?_) (fun q633 => ?_)
              · try dsimp only [tvI_i, tvJ_j, tvR_r] at q633
                have q633i := zneq (Y := (-1)) (by decide) q633
                refine tw_aload rfl rfl ?_
                refine tw_getS rfl (hi_44_5 ggp632.1) ?_
                refine tw_istore rfl ?_
                refine tw_iload rfl rfl ?_
                refine tw_if_ne rfl (fun z => absurd z (by decide)) (fun _ => ?_)
                refine tw_aload rfl rfl ?_
                refine tw_push rfl ?_
                refine tw_virt1 rfl (tC_rec hG hX (m := 3) (d := 0) (by decide) (ggp632).1 ppp632 ((cFr_T ggp632).trans hT) ((cFr_n ggp632).trans hN) rfl (by decide)) (fun w9 hp634 p634 => ?_)
                obtain ⟨gp634, ⟨rfl, p634, ppp634⟩ | ⟨rfl, xp634, p634, up634⟩⟩ := p634
                · have ggp634 := cFr_t ggp632 gp634
                  refine tw_if_ne rfl (fun _ => ?_) (fun z => absurd z (by decide))
                  refine tw_aload rfl rfl ?_
                  refine tw_getS rfl (hi_44_5 ggp634.1) ?_
                  refine tw_istore rfl ?_
                  refine tw_aload rfl rfl ?_
                  refine tw_virt0 rfl (f_wordHere hG hX (ggp634).1 ppp634 ((cFr_T ggp634).trans hT) ((cFr_n ggp634).trans hN)) (fun wp635 hp635 p635 => ?_)
                  obtain ⟨gp635, ppp635, ssp635, eep635, ip635, rfl, kwp635⟩ := p635
                  have ggp635 := cFr_t ggp634 gp635
                  refine tw_push rfl ?_
                  refine tw_ic_ne rfl (fun q636 => ?_) (fun q636 => ?_)
                  · try dsimp only [tvI_i, tvJ_j, tvR_r] at q636
                    have q636i := zneq (Y := 16) (by decide) q636
                    refine tw_iload rfl rfl ?_
                    refine tw_if_eq rfl (fun _ => ?_) (fun z => absurd z (by decide))
                    refine tw_aload rfl rfl ?_
                    refine tw_iload rfl rfl ?_
                    refine tw_iload rfl rfl ?_
                    refine tw_iload rfl rfl ?_
                    refine tw_virt3 rfl (f_keepClause hG hX (ggp635).1 ppp635 ((cFr_T ggp635).trans hT) ((cFr_n ggp635).trans hN) (cQ_f ggp635 hq) (by have := cFr_7 ggp635; rw [this]; exact hlt12)) (fun wp637 hp637 p637 => ?_)
                    obtain ⟨rfl, gqp637, clp637, qqp637, ssp637, ppp637⟩ := p637
                    refine tw_push rfl ?_
                    have hk15 : ip617.toInt.toNat ≠ 15 := by have z := q623i; omega
                    have hk12 : ip617.toInt.toNat = 12 := by have z := q624i; omega
                    have hrm := p632
                    rw [sf622] at hrm
                    have hx1 : cs hp632 = rA vp632.1 (rA (rE T n (rB T n (cs h).1)) (cs h)) := by rw [ssp632, sf622]
                    have ho := p634
                    rw [hx1] at ho
                    have hnw : ¬ rW T n (rB T n (cs hp634).1) (rWd 16) = true := fun z => q636 ((wrd_k (k := 16) kwp635 (by decide) (K := 16) rfl).mpr z)
                    have hc3 : rCl3 T n ip617.toInt.toNat (vp632.2) (rA vp632.1 (rA (rE T n (rB T n (cs h).1)) (cs h))).2.2.length (cs hp634) (.inr (cs hp635, vp632.2, (rA vp632.1 (rA (rE T n (rB T n (cs h).1)) (cs h))).2.2.length, (cs hp634).2.2.length, (cs hp635).2.2.length)) := Or.inr (Or.inr ⟨hnw, hk15, by rw [ssp635]; rfl⟩)
                    have hthv : (Int32.ofNat vp632.2).toNatClampNeg = vp632.2 := zoN (by have := (rM_r (rE_le (rB_le hpn)) hrm).2.2; omega)
                    have hclk : cCl hp637 = cCl h ++ [(vp632.2, (rA vp632.1 (rA (rE T n (rB T n (cs h).1)) (cs h))).2.2.length, (cs hp634).2.2.length, (cs hp635).2.2.length)] := by
                      rw [clp637, cCl_f ggp635, ← hx1, show (cs hp632).2.2.length = _ from cCo_len, show (cs hp635).2.2.length = _ from cCo_len, show (cs hp634).2.2.length = _ from cCo_len]
                      exact congrArg (fun z => cCl h ++ [(z, _, _, _)]) hthv
                    have hcz : rCl T n (cCl h).length (cs h) (.inr (cs hp637, vp632.2, (rA vp632.1 (rA (rE T n (rB T n (cs h).1)) (cs h))).2.2.length, (cs hp634).2.2.length, (cs hp635).2.2.length)) := by rw [ssp637]; exact Or.inr ⟨ip617.toInt.toNat, by omega, by omega, hkw, Or.inr ⟨hc12, Or.inl ⟨hk12, Or.inr ⟨vp632, hrm, Or.inr ⟨hk15, Or.inr ⟨_, ho, hc3⟩⟩⟩⟩⟩⟩
                    exact tw_iret rfl ⟨cFq_t (cFq_f ggp635) gqp637, qqp637, Or.inl ⟨rfl, _, hcz, hclk, ppp637⟩⟩
                  · try dsimp only [tvI_i, tvJ_j, tvR_r] at q636
                    have q636i := zeqi (Y := 16) (by decide) q636
                    refine tw_aload rfl rfl ?_
                    refine tw_aload rfl rfl ?_
                    refine tw_getS rfl (hi_44_3 ggp635.1) ?_
                    refine tw_put rfl (fun f638 => ?_)
                    refine tG_set f638 (hw_44_2 f638 (ggp635).1) (fun hf638 ef638 => ?_)
                    try dsimp only [tvI_i] at ef638
                    have gf638 := cFr_s ggp635 ef638 (by decide)
                    have hw16 := (wrd_k (k := 16) kwp635 (by decide) (K := 16) rfl).mp q636
                    have h9w : rE T n (rB T n (cs hp634).1) = rB T n (cs hp634).1 + 2 := by rw [rW_e hw16, wlen_k.2.2.2]
                    have hyn : (cs hp634).1 ≤ n := by rw [← ((cFr_n ggp634).trans hN)]; exact cP_le ppp634
                    have hr9 := rE_le (T := T) (rB_le (T := T) hyn)
                    rw [h9w] at hr9 eep635
                    obtain ⟨pf638, sf638⟩ := cTo ppp635 ((cFr_n ggp635).trans hN) ef638 eep635 (by rw [ssp635]; exact Nat.le_add_right _ _) hr9
                    have sf638 : cs hf638 = rA (rB T n (cs hp634).1 + 2) (cs hp634) := by rw [sf638, ssp635]; rfl
                    refine tw_aload rfl rfl ?_
                    refine tw_push rfl ?_
                    refine tw_virt1 rfl (tC_rec hG hX (m := 9) (d := 0) (by decide) (gf638).1 pf638 ((cFr_T gf638).trans hT) ((cFr_n gf638).trans hN) rfl (by decide)) (fun w9 hp639 p639 => ?_)
                    obtain ⟨gp639, ⟨rfl, p639, ppp639⟩ | ⟨rfl, xp639, p639, up639⟩⟩ := p639
                    · have ggp639 := cFr_t gf638 gp639
                      refine tw_if_ne rfl (fun _ => ?_) (fun z => absurd z (by decide))
                      refine tw_aload rfl rfl ?_
                      refine tw_iload rfl rfl ?_
                      refine tw_iload rfl rfl ?_
                      refine tw_iload rfl rfl ?_
                      refine tw_virt3 rfl (f_keepClause hG hX (ggp639).1 ppp639 ((cFr_T ggp639).trans hT) ((cFr_n ggp639).trans hN) (cQ_f ggp639 hq) (by have := cFr_7 ggp639; rw [this]; exact hlt12)) (fun wp640 hp640 p640 => ?_)
                      obtain ⟨rfl, gqp640, clp640, qqp640, ssp640, ppp640⟩ := p640
                      refine tw_push rfl ?_
                      have hk15 : ip617.toInt.toNat ≠ 15 := by have z := q623i; omega
                      have hk12 : ip617.toInt.toNat = 12 := by have z := q624i; omega
                      have hrm := p632
                      rw [sf622] at hrm
                      have hx1 : cs hp632 = rA vp632.1 (rA (rE T n (rB T n (cs h).1)) (cs h)) := by rw [ssp632, sf622]
                      have ho := p634
                      rw [hx1] at ho
                      have ht := p639
                      rw [sf638] at ht
                      have hc3 : rCl3 T n ip617.toInt.toNat (vp632.2) (rA vp632.1 (rA (rE T n (rB T n (cs h).1)) (cs h))).2.2.length (cs hp634) (.inr (cs hp639, vp632.2, (rA vp632.1 (rA (rE T n (rB T n (cs h).1)) (cs h))).2.2.length, (cs hp634).2.2.length, (cs hp639).2.2.length)) := Or.inl ⟨hw16, Or.inr ⟨_, ht, rfl⟩⟩
                      have hthv : (Int32.ofNat vp632.2).toNatClampNeg = vp632.2 := zoN (by have := (rM_r (rE_le (rB_le hpn)) hrm).2.2; omega)
                      have hclk : cCl hp640 = cCl h ++ [(vp632.2, (rA vp632.1 (rA (rE T n (rB T n (cs h).1)) (cs h))).2.2.length, (cs hp634).2.2.length, (cs hp639).2.2.length)] := by
                        rw [clp640, cCl_f ggp639, ← hx1, show (cs hp632).2.2.length = _ from cCo_len, show (cs hp639).2.2.length = _ from cCo_len, show (cs hp634).2.2.length = _ from cCo_len]
                        exact congrArg (fun z => cCl h ++ [(z, _, _, _)]) hthv
                      have hcz : rCl T n (cCl h).length (cs h) (.inr (cs hp640, vp632.2, (rA vp632.1 (rA (rE T n (rB T n (cs h).1)) (cs h))).2.2.length, (cs hp634).2.2.length, (cs hp639).2.2.length)) := by rw [ssp640]; exact Or.inr ⟨ip617.toInt.toNat, by omega, by omega, hkw, Or.inr ⟨hc12, Or.inl ⟨hk12, Or.inr ⟨vp632, hrm, Or.inr ⟨hk15, Or.inr ⟨_, ho, hc3⟩⟩⟩⟩⟩⟩
                      exact tw_iret rfl ⟨cFq_t (cFq_f ggp639) gqp640, qqp640, Or.inl ⟨rfl, _, hcz, hclk, ppp640⟩⟩
                    · have ggp639 := cFr_t gf638 gp639
                      refine tw_if_ne rfl (fun z => absurd z (by decide)) (fun _ => ?_)
                      refine tw_push rfl ?_
                      have hk15 : ip617.toInt.toNat ≠ 15 := by have z := q623i; omega
                      have hk12 : ip617.toInt.toNat = 12 := by have z := q624i; omega
                      have hrm := p632
                      rw [sf622] at hrm
                      have hx1 : cs hp632 = rA vp632.1 (rA (rE T n (rB T n (cs h).1)) (cs h)) := by rw [ssp632, sf622]
                      have ho := p634
                      rw [hx1] at ho
                      have ht := p639
                      rw [sf638] at ht
                      have hc3 : rCl3 T n ip617.toInt.toNat (vp632.2) (rA vp632.1 (rA (rE T n (rB T n (cs h).1)) (cs h))).2.2.length (cs hp634) (.inl _) := Or.inl ⟨hw16, Or.inl ⟨_, ht, rfl⟩⟩
                      exact tw_iret rfl ⟨cFq_f ggp639, cQ_f ggp639 hq, Or.inr ⟨rfl, _, Or.inr ⟨ip617.toInt.toNat, by omega, by omega, hkw, Or.inr ⟨hc12, Or.inl ⟨hk12, Or.inr ⟨vp632, hrm, Or.inr ⟨hk15, Or.inr ⟨_, ho, hc3⟩⟩⟩⟩⟩⟩, up639⟩⟩
                · have ggp634 := cFr_t ggp632 gp634
                  refine tw_if_ne rfl (fun z => absurd z (by decide)) (fun _ => ?_)
                  refine tw_push rfl ?_
                  have hk15 : ip617.toInt.toNat ≠ 15 := by have z := q623i; omega
                  have hk12 : ip617.toInt.toNat = 12 := by have z := q624i; omega
                  have hrm := p632
                  rw [sf622] at hrm
                  have hx1 : cs hp632 = rA vp632.1 (rA (rE T n (rB T n (cs h).1)) (cs h)) := by rw [ssp632, sf622]
                  have ho := p634
                  rw [hx1] at ho
                  exact tw_iret rfl ⟨cFq_f ggp634, cQ_f ggp634 hq, Or.inr ⟨rfl, _, Or.inr ⟨ip617.toInt.toNat, by omega, by omega, hkw, Or.inr ⟨hc12, Or.inl ⟨hk12, Or.inr ⟨vp632, hrm, Or.inr ⟨hk15, Or.inl ⟨_, ho, rfl⟩⟩⟩⟩⟩⟩, up634⟩⟩
              · try dsimp only [tvI_i, tvJ_j, tvR_r] at q633
                have q633i := zeqi (Y := (-1)) (by decide) q633
                exact absurd q633 (zoN9 (by have := (rM_r (rE_le (rB_le hpn)) (by have y := p632; rw [sf622] at y; exact y)).2.2; omega))
            · have ggp632 := cFr_t gf622 gp632
              refine tw_istore rfl ?_
              refine tw_iload rfl rfl ?_
              refine tw_push rfl ?_
              refine tw_ic_ne rfl (fun z => absurd z (by decide)) (fun _ => ?_)
              refine tw_push rfl ?_
              have hk15 : ip617.toInt.toNat ≠ 15 := by have z := q623i; omega
              have hk12 : ip617.toInt.toNat = 12 := by have z := q624i; omega
              have hrm := p632
              rw [sf622] at hrm
              exact tw_iret rfl ⟨cFq_f ggp632, cQ_f ggp632 hq, Or.inr ⟨rfl, _, Or.inr ⟨ip617.toInt.toNat, by omega, by omega, hkw, Or.inr ⟨hc12, Or.inl ⟨hk12, Or.inl ⟨_, hrm, rfl⟩⟩⟩⟩, up632⟩⟩
        · try dsimp only [tvI_i, tvJ_j, tvR_r] at q623
          have q623i := zeqi (Y := 15) (by decide) q623
          refine tw_push rfl ?_
          refine tw_goto rfl ?_
          refine tw_istore rfl ?_
          refine tw_iload rfl rfl ?_
          refine tw_push rfl ?_
          refine tw_ic_ne rfl (fun q641 => ?_) (fun q641 => ?_)
          · try dsimp only [tvI_i, tvJ_j, tvR_r] at q641
            have q641i := zneq (Y := 12) (by decide) q641
            refine tw_aload rfl rfl ?_
            refine tw_getS rfl (hi_44_5 (gf622).1) ?_
            refine tw_istore rfl ?_
            refine tw_iload rfl rfl ?_
            refine tw_if_ne rfl (fun _ => ?_) (fun z => absurd z (by decide))
            refine tw_aload rfl rfl ?_
            refine tw_getS rfl (hi_44_5 (gf622).1) ?_
            refine tw_istore rfl ?_
            refine tw_aload rfl rfl ?_
            refine tw_virt0 rfl (f_wordHere hG hX (gf622).1 pf622 ((cFr_T gf622).trans hT) ((cFr_n gf622).trans hN)) (fun wp642 hp642 p642 => ?_)
            obtain ⟨gp642, ppp642, ssp642, eep642, ip642, rfl, kwp642⟩ := p642
            have ggp642 := cFr_t gf622 gp642
            refine tw_push rfl ?_
            refine tw_ic_ne rfl (fun q643 => ?_) (fun q643 => ?_)
            · try dsimp only [tvI_i, tvJ_j, tvR_r] at q643
              have q643i := zneq (Y := 16) (by decide) q643
              refine tw_iload rfl rfl ?_
              refine tw_if_eq rfl (fun z => absurd z (by decide)) (fun _ => ?_)
              refine tw_aload rfl rfl ?_
              refine tw_aload rfl rfl ?_
              refine tw_getS rfl (hi_44_2 ggp642.1) ?_
              refine tw_push rfl ?_
              refine tw_virt2 rfl (f_refuse hG hX (ggp642).1 ppp642 ((cFr_T ggp642).trans hT) ((cFr_n ggp642).trans hN)) (fun wp644 hp644 p644 => ?_)
              obtain ⟨gp644, rfl, up644⟩ := p644
              have ggp644 := cFr_t ggp642 gp644
              have hk15 : ip617.toInt.toNat = 15 := by have z := q623i; omega
              have hk12 : ip617.toInt.toNat ≠ 12 := by omega
              have hx1 := sf622
              have hy1 := hx1
              have hnw : ¬ rW T n (rB T n (cs hf622).1) (rWd 16) = true := fun z => q643 ((wrd_k (k := 16) kwp642 (by decide) (K := 16) rfl).mpr z)
              have hft := cFt_of ppp642 up644 (w := 0) rfl (by decide)
              rw [ssp642, hx1] at hft
              rw [hx1] at hnw
              have hc3 : rCl3 T n ip617.toInt.toNat (ip617.toInt.toNat) (rA (rE T n (rB T n (cs h).1)) (cs h)).2.2.length (rA (rE T n (rB T n (cs h).1)) (cs h)) (.inl (1 + 8 * rB T n (rA (rE T n (rB T n (cs h).1)) (cs h)).1 + 0)) := Or.inr (Or.inl ⟨hnw, hk15, rfl⟩)
              have hft2 : cFt hp644 (1 + 8 * rB T n (rA (rE T n (rB T n (cs h).1)) (cs h)).1 + 0) := hft
              exact tw_iret rfl ⟨cFq_f ggp644, cQ_f ggp644 hq, Or.inr ⟨rfl, _, Or.inr ⟨ip617.toInt.toNat, by omega, by omega, hkw, Or.inr ⟨hc12, Or.inr ⟨hk12, Or.inl ⟨hk15, hc3⟩⟩⟩⟩, hft2⟩⟩
            · try dsimp only [tvI_i, tvJ_j, tvR_r] at q643
              have q643i := zeqi (Y := 16) (by decide) q643
              refine tw_aload rfl rfl ?_
              refine tw_aload rfl rfl ?_
              refine tw_getS rfl (hi_44_3 ggp642.1) ?_
              refine tw_put rfl (fun f645 => ?_)
              refine tG_set f645 (hw_44_2 f645 (ggp642).1) (fun hf645 ef645 => ?_)
              try dsimp only [tvI_i] at ef645
              have gf645 := cFr_s ggp642 ef645 (by decide)
              have hw16 := (wrd_k (k := 16) kwp642 (by decide) (K := 16) rfl).mp q643
              have h9w : rE T n (rB T n (cs hf622).1) = rB T n (cs hf622).1 + 2 := by rw [rW_e hw16, wlen_k.2.2.2]
              have hyn : (cs hf622).1 ≤ n := by rw [← ((cFr_n gf622).trans hN)]; exact cP_le pf622
              have hr9 := rE_le (T := T) (rB_le (T := T) hyn)
              rw [h9w] at hr9 eep642
              obtain ⟨pf645, sf645⟩ := cTo ppp642 ((cFr_n ggp642).trans hN) ef645 eep642 (by rw [ssp642]; exact Nat.le_add_right _ _) hr9
              have sf645 : cs hf645 = rA (rB T n (cs hf622).1 + 2) (cs hf622) := by rw [sf645, ssp642]; rfl
              refine tw_aload rfl rfl ?_
              refine tw_push rfl ?_
              refine tw_virt1 rfl (tC_rec hG hX (m := 9) (d := 0) (by decide) (gf645).1 pf645 ((cFr_T gf645).trans hT) ((cFr_n gf645).trans hN) rfl (by decide)) (fun w9 hp646 p646 => ?_)
              obtain ⟨gp646, ⟨rfl, p646, ppp646⟩ | ⟨rfl, xp646, p646, up646⟩⟩ := p646
              · have ggp646 := cFr_t gf645 gp646
                refine tw_if_ne rfl (fun _ => ?_) (fun z => absurd z (by decide))
                refine tw_aload rfl rfl ?_
                refine tw_iload rfl rfl ?_
                refine tw_iload rfl rfl ?_
                refine tw_iload rfl rfl ?_
                refine tw_virt3 rfl (f_keepClause hG hX (ggp646).1 ppp646 ((cFr_T ggp646).trans hT) ((cFr_n ggp646).trans hN) (cQ_f ggp646 hq) (by have := cFr_7 ggp646; rw [this]; exact hlt12)) (fun wp647 hp647 p647 => ?_)
                obtain ⟨rfl, gqp647, clp647, qqp647, ssp647, ppp647⟩ := p647
                refine tw_push rfl ?_
                have hk15 : ip617.toInt.toNat = 15 := by have z := q623i; omega
                have hk12 : ip617.toInt.toNat ≠ 12 := by omega
                have hx1 := sf622
                have hy1 := hx1
                rw [hx1] at hw16
                have ht := p646
                rw [sf645, hx1] at ht
                have hc3 : rCl3 T n ip617.toInt.toNat (ip617.toInt.toNat) (rA (rE T n (rB T n (cs h).1)) (cs h)).2.2.length (rA (rE T n (rB T n (cs h).1)) (cs h)) (.inr (cs hp646, ip617.toInt.toNat, (rA (rE T n (rB T n (cs h).1)) (cs h)).2.2.length, (rA (rE T n (rB T n (cs h).1)) (cs h)).2.2.length, (cs hp646).2.2.length)) := Or.inl ⟨hw16, Or.inr ⟨_, ht, rfl⟩⟩
                have hthv : (ip617).toNatClampNeg = ip617.toInt.toNat := rfl
                have hclk : cCl hp647 = cCl h ++ [(ip617.toInt.toNat, (rA (rE T n (rB T n (cs h).1)) (cs h)).2.2.length, (rA (rE T n (rB T n (cs h).1)) (cs h)).2.2.length, (cs hp646).2.2.length)] := by
                  rw [clp647, cCl_f ggp646, ← hx1, show (cs hf622).2.2.length = _ from cCo_len, show (cs hp646).2.2.length = _ from cCo_len]
                  exact congrArg (fun z => cCl h ++ [(z, _, _, _)]) hthv
                have hcz : rCl T n (cCl h).length (cs h) (.inr (cs hp647, ip617.toInt.toNat, (rA (rE T n (rB T n (cs h).1)) (cs h)).2.2.length, (rA (rE T n (rB T n (cs h).1)) (cs h)).2.2.length, (cs hp646).2.2.length)) := by rw [ssp647]; exact Or.inr ⟨ip617.toInt.toNat, by omega, by omega, hkw, Or.inr ⟨hc12, Or.inr ⟨hk12, Or.inl ⟨hk15, hc3⟩⟩⟩⟩
                exact tw_iret rfl ⟨cFq_t (cFq_f ggp646) gqp647, qqp647, Or.inl ⟨rfl, _, hcz, hclk, ppp647⟩⟩
              · have ggp646 := cFr_t gf645 gp646
                refine tw_if_ne rfl (fun z => absurd z (by decide)) (fun _ => ?_)
                refine tw_push rfl ?_
                have hk15 : ip617.toInt.toNat = 15 := by have z := q623i; omega
                have hk12 : ip617.toInt.toNat ≠ 12 := by omega
                have hx1 := sf622
                have hy1 := hx1
                rw [hx1] at hw16
                have ht := p646
                rw [sf645, hx1] at ht
                have hc3 : rCl3 T n ip617.toInt.toNat (ip617.toInt.toNat) (rA (rE T n (rB T n (cs h).1)) (cs h)).2.2.length (rA (rE T n (rB T n (cs h).1)) (cs h)) (.inl _) := Or.inl ⟨hw16, Or.inl ⟨_, ht, rfl⟩⟩
                exact tw_iret rfl ⟨cFq_f ggp646, cQ_f ggp646 hq, Or.inr ⟨rfl, _, Or.inr ⟨ip617.toInt.toNat, by omega, by omega, hkw, Or.inr ⟨hc12, Or.inr ⟨hk12, Or.inl ⟨hk15, hc3⟩⟩⟩⟩, up646⟩⟩
          · try dsimp only [tvI_i, tvJ_j, tvR_r] at q641
            have q641i := zeqi (Y := 12) (by decide) q641
            exact absurd (q623.symm.trans q641) (by decide)
      · try dsimp only [tvI_i, tvJ_j, tvR_r] at q621
        have q621i := zeqi (Y := 12) (by decide) q621
        refine tw_aload rfl rfl ?_
        refine tw_aload rfl rfl ?_
        refine tw_getS rfl (hi_44_2 ggp617.1) ?_
        refine tw_push rfl ?_
        refine tw_virt2 rfl (f_refuse hG hX (ggp617).1 ppp617 ((cFr_T ggp617).trans hT) ((cFr_n ggp617).trans hN)) (fun wp648 hp648 p648 => ?_)
        obtain ⟨gp648, rfl, up648⟩ := p648
        have ggp648 := cFr_t ggp617 gp648
        have kwb := kwp617.1
        have hk1 : 12 ≤ ip617.toInt := by have z := q618; omega
        have hk2 : ip617.toInt ≤ 15 := by have z := q620; omega
        have hkw : rW T n (rB T n (cs h).1) (rWd ip617.toInt.toNat) = true := (kwp617.2 ip617.toInt.toNat (by omega)).mp (by omega)
        have hft := cFt_of ppp617 up648 (w := 4) rfl (by decide)
        rw [ssp617] at hft
        have h12 : (cCl h).length = 12 := (c12 hq).mpr ((congrArg tvI (cFr_7 ggp617)).symm.trans q621)
        exact tw_iret rfl ⟨cFq_f ggp648, cQ_f ggp648 hq, Or.inr ⟨rfl, _, Or.inr ⟨ip617.toInt.toNat, by omega, by omega, hkw, Or.inl ⟨h12, rfl⟩⟩, hft⟩⟩
    · try dsimp only [tvI_i, tvJ_j, tvR_r] at q620
      refine tw_aload rfl rfl ?_
      refine tw_aload rfl rfl ?_
      refine tw_getS rfl (hi_44_2 ggp617.1) ?_
      refine tw_push rfl ?_
      refine tw_virt2 rfl (f_refuse hG hX (ggp617).1 ppp617 ((cFr_T ggp617).trans hT) ((cFr_n ggp617).trans hN)) (fun wp649 hp649 p649 => ?_)
      obtain ⟨gp649, rfl, up649⟩ := p649
      have ggp649 := cFr_t ggp617 gp649
      have kwb := kwp617.1
      have hft := cFt_of ppp617 up649 (w := 0) rfl (by decide)
      rw [ssp617] at hft
      have z0 := q618
      have z1 := q620
      exact tw_iret rfl ⟨cFq_f ggp649, cQ_f ggp649 hq, Or.inr ⟨rfl, _, Or.inl ⟨fun k h1 h2 z => by have y := (kwp617.2 k (by omega)).mpr z; omega, rfl⟩, hft⟩⟩
theorem cRst {h a b c d e : zH} (hs : tSh h) (hl : 0 ≤ (tvI (tF h 44 1)).toInt ∧ (tvI (tF h 44 1)).toInt ≤ 400) (hT : ∀ i, i < 400 → -128 ≤ (tA h 45 i).toInt ∧ (tA h 45 i).toInt ≤ 127) (h46 : tN h 46 = 400) (h47 : tN h 47 = 48) (e2 : cSet 2 0 h a) (e5 : cSet 5 0 a b) (e7 : cSet 7 0 b c) (e8 : cSet 8 0 c d) (e9 : cSet 9 (-1) d e) : cFq h e ∧ cs e = (0, 0, []) ∧ cCl e = [] ∧ cP e ∧ cQ e := by
  have F : ∀ p q, ¬ (p = 44 ∧ (q = 2 ∨ q = 3 ∨ q = 5 ∨ q = 7 ∨ q = 8 ∨ q = 9)) → tF e p q = tF h p q := fun p q z =>
    (e9.2.2.1 p q (fun w => z ⟨w.1, by omega⟩)).trans ((e8.2.2.1 p q (fun w => z ⟨w.1, by omega⟩)).trans ((e7.2.2.1 p q (fun w => z ⟨w.1, by omega⟩)).trans ((e5.2.2.1 p q (fun w => z ⟨w.1, by omega⟩)).trans (e2.2.2.1 p q (fun w => z ⟨w.1, by omega⟩)))))
  have A : tA e = tA h := e9.2.2.2.1.trans (e8.2.2.2.1.trans (e7.2.2.2.1.trans (e5.2.2.2.1.trans e2.2.2.2.1)))
  have N : tN e = tN h := e9.2.2.2.2.trans (e8.2.2.2.2.trans (e7.2.2.2.2.trans (e5.2.2.2.2.trans e2.2.2.2.2)))
  have f8 : tF e 44 8 = .int 0 := (e9.2.2.1 44 8 (by decide)).trans e8.2.1
  have f7 : tF e 44 7 = .int 0 := (e9.2.2.1 44 7 (by decide)).trans ((e8.2.2.1 44 7 (by decide)).trans e7.2.1)
  have f5 : tF e 44 5 = .int 0 := (e9.2.2.1 44 5 (by decide)).trans ((e8.2.2.1 44 5 (by decide)).trans ((e7.2.2.1 44 5 (by decide)).trans e5.2.1))
  have f2 : tF e 44 2 = .int 0 := (e9.2.2.1 44 2 (by decide)).trans ((e8.2.2.1 44 2 (by decide)).trans ((e7.2.2.1 44 2 (by decide)).trans ((e5.2.2.1 44 2 (by decide)).trans e2.2.1)))
  have f1 : tF e 44 1 = tF h 44 1 := F 44 1 (by decide)
  refine ⟨⟨e9.1, F, fun p _ _ => congrFun A p, N⟩, ?_, ?_, ⟨?_, ?_, ?_, ?_, ?_, e9.2.1⟩, ⟨?_, ?_, ?_⟩⟩
  · unfold cs cCo
    rw [f2, f8, f5]
    rfl
  · unfold cCl
    rw [f7]
    rfl
  · rw [f2, f1]
    refine ⟨by decide, ?_, hl.2⟩
    show (0 : Int) ≤ _
    exact hl.1
  · rw [f8]; decide
  · rw [f5, f2]; decide
  · rw [A]; exact hT
  · rw [N]; exact h46
  · rw [f7]; decide
  · rw [f7]; decide
  · rw [N]; exact h47
theorem cFtv {h : zH} {e : Nat} (u : cFt h e) : tF h 44 9 = .int (Int32.ofNat e) := u
theorem rTon {T : Nat → Int32} {n : Nat} {c : Int32} {s s2 : rS} (h : rT T n c s = some (.inr s2)) : (rB T n s.1 < n ∧ T (rB T n s.1) = c) ∧ s2 = rA (rB T n s.1 + 1) s := by
  unfold rT at h
  by_cases z : rB T n s.1 < n ∧ T (rB T n s.1) = c
  · rw [if_pos z] at h; cases h; exact ⟨z, rfl⟩
  · rw [if_neg z] at h; cases h
theorem rToff {T : Nat → Int32} {n e : Nat} {c : Int32} {s : rS} (h : rT T n c s = some (.inl e)) : ¬ (rB T n s.1 < n ∧ T (rB T n s.1) = c) ∧ e = 1 + 8 * rB T n s.1 + 0 := by
  unfold rT at h
  by_cases z : rB T n s.1 < n ∧ T (rB T n s.1) = c
  · rw [if_pos z] at h; cases h
  · rw [if_neg z] at h; cases h; exact ⟨z, rfl⟩
theorem rCl_12 {T : Nat → Int32} {n c : Nat} {s : rS} {x : rS × rCt} (h : rCl T n c s (.inr x)) : c ≠ 12 := by
  rcases h with ⟨-, h⟩ | ⟨k, -, -, -, ⟨-, h⟩ | ⟨h, -⟩⟩
  · cases h
  · cases h
  · exact h
theorem f_readRule {G : zG} (hG : G.1 = zProg) (hX : G.2.1 = ztx) {h : zH} {T : Nat → Int32} {n : Nat} (hs : tSh h) (hT : tA h 45 = T) (hN : cn h = n) (hl : 0 ≤ (tvI (tF h 44 1)).toInt ∧ (tvI (tF h 44 1)).toInt ≤ 400) (hT9 : ∀ i, i < 400 → -128 ≤ (tA h 45 i).toInt ∧ (tA h 45 i).toInt ≤ 127) (h46 : tN h 46 = 400) (h47 : tN h 47 = 48) : tC zTt G 75 [.ref 44] h (fun w h2 => cFq h h2 ∧ ((∃ f, rRu T n f (0, 0, []) [] (.inr (cs h2, cCl h2)) ∧ w = some (.int (-1)) ∧ cP h2 ∧ cQ h2) ∨ ∃ e f, rRu T n f (0, 0, []) [] (.inl e) ∧ w = some (.int (Int32.ofNat e)))) := by
  refine tC_in (by rw [hG]; rfl) (fun dp => ?_)
  refine tw_aload rfl rfl ?_
  refine tw_push rfl ?_
  refine tw_put rfl (fun f650 => ?_)
  refine tG_set f650 (hw_44_2 f650 hs) (fun hf650 ef650 => ?_)
  try dsimp only [tvI_i] at ef650
  refine tw_aload rfl rfl ?_
  refine tw_push rfl ?_
  refine tw_put rfl (fun f651 => ?_)
  refine tG_set f651 (hw_44_5 f651 ef650.1) (fun hf651 ef651 => ?_)
  try dsimp only [tvI_i] at ef651
  refine tw_aload rfl rfl ?_
  refine tw_push rfl ?_
  refine tw_put rfl (fun f652 => ?_)
  refine tG_set f652 (hw_44_7 f652 ef651.1) (fun hf652 ef652 => ?_)
  try dsimp only [tvI_i] at ef652
  refine tw_aload rfl rfl ?_
  refine tw_push rfl ?_
  refine tw_put rfl (fun f653 => ?_)
  refine tG_set f653 (hw_44_8 f653 ef652.1) (fun hf653 ef653 => ?_)
  try dsimp only [tvI_i] at ef653
  refine tw_aload rfl rfl ?_
  refine tw_push rfl ?_
  refine tw_put rfl (fun f654 => ?_)
  refine tG_set f654 (hw_44_9 f654 ef653.1) (fun hf654 ef654 => ?_)
  try dsimp only [tvI_i] at ef654
  refine tw_push rfl ?_
  refine tw_istore rfl ?_
  refine tG_loop (zW_mono zTt G dp) (zW_conj zTt G dp) (V := fun pc L st h9 _ _ => pc = 27 ∧ st = [] ∧ ∃ (h1 : zH) (k : Nat) (x : Int32), h1 = h9 ∧ x.toInt = k ∧ cFq h h1 ∧ cP h1 ∧ cQ h1 ∧ (cCl h1).length = k ∧ (∀ r, (∃ f, rRu T n f (cs h1) (cCl h1) r) → ∃ f, rRu T n f (0, 0, []) [] r) ∧ L = [some (.ref 44), some (.int x)]) ?_ (⟨rfl, rfl, _, 0, 0, rfl, rfl, (cRst hs hl hT9 h46 h47 ef650 ef651 ef652 ef653 ef654).1, (cRst hs hl hT9 h46 h47 ef650 ef651 ef652 ef653 ef654).2.2.2.1, (cRst hs hl hT9 h46 h47 ef650 ef651 ef652 ef653 ef654).2.2.2.2, (by rw [(cRst hs hl hT9 h46 h47 ef650 ef651 ef652 ef653 ef654).2.2.1]; rfl), (fun r z => by rw [(cRst hs hl hT9 h46 h47 ef650 ef651 ef652 ef653 ef654).2.1, (cRst hs hl hT9 h46 h47 ef650 ef651 ef652 ef653 ef654).2.2.1] at z; exact z), rfl⟩)
  rintro _ _ _ _ _ _ ⟨rfl, rfl, h1, k, x, rfl, hx, gF, p1, q1, hk, hR, rfl⟩
  have g1 := cFr_r gF.1
  refine tw_iload rfl rfl ?_
  refine tw_push rfl ?_
  refine tw_ic_gt rfl (fun q655 => ?_) (fun q655 => ?_)
  · try dsimp only [tvI_i, tvJ_j, tvR_r] at q655
    refine tw_aload rfl rfl ?_
    refine tw_getS rfl (hi_44_9 g1.1) ?_
    exfalso
    have := q1.1
    have := q1.2.1
    rw [cCl_len, zclE] at hk
    have c129 : (12 : Int32).toInt = 12 := rfl
    have z := q655
    omega
  · try dsimp only [tvI_i, tvJ_j, tvR_r] at q655
    refine tw_aload rfl rfl ?_
    refine tw_virt0 rfl (f_readClause hG hX g1.1 p1 ((cFq_T gF).trans hT) ((cFq_n gF).trans hN) q1) (fun w9 hp656 p656 => ?_)
    obtain ⟨gqp656, qqp656, ⟨rfl, cp656, p656, clp656, ppp656⟩ | ⟨rfl, xp656, p656, up656⟩⟩ := p656
    · have gzp656 := cFr_r gqp656.1
      refine tw_if_eq rfl (fun z => absurd z (by decide)) (fun _ => ?_)
      refine tw_aload rfl rfl ?_
      refine tw_virt0 rfl (f_signHere hG hX (gzp656).1 ppp656 ((cFq_T (cFq_t gF gqp656)).trans hT) ((cFq_n (cFq_t gF gqp656)).trans hN)) (fun wp657 hp657 p657 => ?_)
      obtain ⟨gp657, ppp657, ssp657, t3p657, cp657, rfl, kp657⟩ := p657
      have ggp657 := cFr_t gzp656 gp657
      refine tw_push rfl ?_
      refine tw_ic_eq rfl (fun q658 => ?_) (fun q658 => ?_)
      · try dsimp only [tvI_i, tvJ_j, tvR_r] at q658
        have q658i := zeqi (Y := (-1)) (by decide) q658
        refine tw_aload rfl rfl ?_
        refine tw_getS rfl (hi_44_9 ggp657.1) ?_
        have hne : ¬ rB T n (cs hp656).1 < n := kp657.2.mp q658
        obtain ⟨f9, z⟩ := hR _ ⟨1, Or.inr ⟨_, _, p656, Or.inl ⟨hne, rfl⟩⟩⟩
        have hcc : cCl hp657 = cCl h1 ++ [cp656] := (cCl_f gp657).trans clp656
        rw [← hcc, ← ssp657] at z
        exact tw_iret rfl ⟨cFq_t (cFq_t gF gqp656) (cFq_f gp657), Or.inl ⟨f9, z, by rw [ppp657.2.2.2.2.2]; rfl, ppp657, cQ_f gp657 qqp656⟩⟩
      · try dsimp only [tvI_i, tvJ_j, tvR_r] at q658
        have q658i := zneq (Y := (-1)) (by decide) q658
        refine tw_aload rfl rfl ?_
        refine tw_push rfl ?_
        refine tw_virt1 rfl (f_takeSign hG hX (ggp657).1 ppp657 ((cFr_T ggp657).trans ((cFq_T (cFq_t gF gqp656)).trans hT)) ((cFr_n ggp657).trans ((cFq_n (cFq_t gF gqp656)).trans hN)) (y := 59) (by decide)) (fun w9 hp659 p659 => ?_)
        obtain ⟨gp659, ⟨rfl, p659, ppp659⟩ | ⟨rfl, xp659, p659, up659⟩⟩ := p659
        · have ggp659 := cFr_t ggp657 gp659
          refine tw_if_ne rfl (fun _ => ?_) (fun z => absurd z (by decide))
          refine tw_iinc rfl rfl ?_
          refine tw_goto rfl ?_
          have hcl : (cCl h1).length < 12 := by have z := rCl_12 (T := T) p656; have y := q1; rw [cCl_len, zclE] at *; have := q1.1; have := q1.2.1; omega
          have hts := rTon p659
          rw [ssp657, show (rA (rB T n (cs hp656).1) (cs hp656)).1 = rB T n (cs hp656).1 from rfl, rB_2] at hts
          have hcc : cCl hp659 = cCl h1 ++ [cp656] := (cCl_f (cFr_t (cFr_t (cFr_r gqp656.1) gp657) gp659)).trans clp656
          refine tG_cut (zW_mono zTt G dp) (Or.inr ⟨rfl, rfl, _, k + 1, x + 1, rfl, zincN hx (by omega), cFq_t (cFq_t gF gqp656) (cFq_f (cFr_t gp657 gp659)), ppp659, cQ_f (cFr_t gp657 gp659) qqp656, (by rw [hcc, List.length_append, hk]; rfl), (fun r z => ?_), rfl⟩)
          rw [hcc, hts.2] at z
          obtain ⟨f9, z⟩ := z
          exact hR r ⟨f9 + 1, Or.inr ⟨_, _, p656, Or.inr (Or.inl ⟨hts.1, z⟩)⟩⟩
        · have ggp659 := cFr_t ggp657 gp659
          refine tw_if_ne rfl (fun z => absurd z (by decide)) (fun _ => ?_)
          refine tw_goto rfl ?_
          refine tw_aload rfl rfl ?_
          refine tw_getS rfl (hi_44_9 ggp659.1) ?_
          have hts := rToff p659
          rw [ssp657, show (rA (rB T n (cs hp656).1) (cs hp656)).1 = rB T n (cs hp656).1 from rfl, rB_2] at hts
          have hlt : rB T n (cs hp656).1 < n := Classical.byContradiction (fun z => q658 (kp657.2.mpr z))
          obtain ⟨f9, z⟩ := hR _ ⟨1, Or.inr ⟨_, _, p656, Or.inr (Or.inr ⟨⟨hlt, fun z => hts.1 ⟨hlt, z⟩⟩, rfl⟩)⟩⟩
          exact tw_iret rfl ⟨cFq_t (cFq_t gF gqp656) (cFq_f (cFr_t gp657 gp659)), Or.inr ⟨_, f9, z, by rw [cFtv up659, hts.2]; rfl⟩⟩
    · refine tw_if_eq rfl (fun _ => ?_) (fun z => absurd z (by decide))
      refine tw_aload rfl rfl ?_
      refine tw_getS rfl (hi_44_9 gqp656.1) ?_
      obtain ⟨f9, z⟩ := hR _ ⟨1, Or.inl ⟨_, p656, rfl⟩⟩
      exact tw_iret rfl ⟨cFq_t gF gqp656, Or.inr ⟨_, f9, z, by rw [cFtv up656]; rfl⟩⟩
/-! the reader with a pile, as it stands in the object 111 -/
noncomputable def mCode (s v : Nat) : Nat := if s = 0 then v else if s = 1 then (if v < 12 then 100000 + v else 200000 + v) else if s = 2 then 100102 else if s = 3 then 100100 else if s = 4 then 100101 else if s = 10 then 100110 else if s = 11 then 100109 else if s = 12 then 100108 else 100098 + s
theorem mCode_1 {v : Nat} (h : v < 12) : mCode 1 v = 100000 + v := by
  show (if v < 12 then 100000 + v else 200000 + v) = _
  rw [if_pos h]
noncomputable def mEn (h : zH) : List Nat := (List.range (tvI (tF h 111 31)).toNatClampNeg).map (fun i => mCode (tA h 133 (500 * (tvI (tF h 111 30)).toNatClampNeg + i)).toNatClampNeg (tA h 134 (500 * (tvI (tF h 111 30)).toNatClampNeg + i)).toNatClampNeg)
noncomputable def mSk (h : zH) : List Nat := ((List.range (tvI (tF h 111 34)).toNatClampNeg).map (fun i => (tA h 142 i).toNatClampNeg)).reverse
noncomputable def ms (h : zH) : rS := ((tvI (tF h 111 28)).toNatClampNeg, (tvI (tF h 111 33)).toNatClampNeg, mEn h)
noncomputable abbrev mn (h : zH) : Nat := (tvI (tF h 111 27)).toNatClampNeg
noncomputable def mFs (b : Nat) : Prop := b = 28 ∨ b = 29 ∨ b = 31 ∨ b = 32 ∨ b = 33 ∨ b = 34
/-- what is told of the rules before stays -/
noncomputable def mLo (h h2 : zH) : Prop := ∀ q, q < 500 * (tvI (tF h 111 30)).toNatClampNeg → tA h2 133 q = tA h 133 q ∧ tA h2 134 q = tA h 134 q
theorem mLo_r {h : zH} : mLo h h := fun _ _ => ⟨rfl, rfl⟩
theorem mLo_t {h h1 h2 : zH} (e : tF h1 111 30 = tF h 111 30) (a : mLo h h1) (k : mLo h1 h2) : mLo h h2 := fun q hq =>
  have y := k q (by rw [e]; exact hq)
  ⟨y.1.trans (a q hq).1, y.2.trans (a q hq).2⟩
theorem mLo_A {h h1 h2 : zH} (e : tA h2 = tA h1) (a : mLo h h1) : mLo h h2 := fun q hq => by rw [e]; exact a q hq
theorem mLo_p {h h2 : zH} (a : tA h2 133 = tA h 133) (b : tA h2 134 = tA h 134) : mLo h h2 := fun q _ => ⟨by rw [a], by rw [b]⟩
noncomputable def mFr (h h2 : zH) : Prop := tSh h2 ∧ (∀ p b, ¬ (p = 111 ∧ mFs b) → tF h2 p b = tF h p b) ∧ (∀ p, p ≠ 133 → p ≠ 134 → p ≠ 142 → tA h2 p = tA h p) ∧ tN h2 = tN h ∧ mLo h h2
/-- no fault so far -/
noncomputable def mP (h : zH) : Prop := tF h 111 29 = .int 0 ∧ (0 ≤ (tvI (tF h 111 28)).toInt ∧ (tvI (tF h 111 28)).toInt ≤ (tvI (tF h 111 27)).toInt ∧ (tvI (tF h 111 27)).toInt ≤ 400) ∧ (0 ≤ (tvI (tF h 111 33)).toInt ∧ (tvI (tF h 111 33)).toInt ≤ 80) ∧ (0 ≤ (tvI (tF h 111 31)).toInt ∧ (tvI (tF h 111 31)).toInt ≤ 100000) ∧ 0 ≤ (tvI (tF h 111 34)).toInt ∧ (0 ≤ (tvI (tF h 111 30)).toInt ∧ (tvI (tF h 111 30)).toInt ≤ 10) ∧ (∀ i, i < tN h 142 → 0 ≤ (tA h 142 i).toInt) ∧ (∀ i : Nat, i = i) ∧ tN h 133 ≤ 100000 ∧ tN h 142 ≤ 100000
noncomputable def mD (h : zH) : Prop := (tvI (tF h 111 32)).toInt = mDp (mSk h)
noncomputable def mSet (b : Nat) (X : Int32) (h h3 : zH) : Prop := tSh h3 ∧ tF h3 111 b = .int X ∧ (∀ p q, ¬ (p = 111 ∧ q = b) → tF h3 p q = tF h p q) ∧ tA h3 = tA h ∧ tN h3 = tN h
/-- a fault stands -/
noncomputable def mFt (h : zH) (e : Nat) : Prop := tF h 111 29 = .int (Int32.ofNat e) ∧ 0 < e ∧ e < 100000
section MF
variable {h h1 h2 h3 : zH} {b e : Nat} {X : Int32}
theorem mSet_of (hf : tFd h 111 b) (hs : tSh (tSF h 111 b (.int X))) : mSet b X h (tSF h 111 b (.int X)) := ⟨hs, tF_same hf, fun _ _ hn => tF_nz hn, tA_tSF _ _ _ _, tN_tSF _ _ _ _⟩
theorem tG_setm {tt : zT} {G : zG} {cd : zK} {bc bs : Nat} {rt : Option FieldType} {M : zM} {Q : zQ} {Z : zX} {f : Bool} {pc : Nat} {L : zL} {st : List Value} {c n : Nat} (hf : tFd h 111 b) (hs : tSh (tSF h 111 b (.int X))) (k : ∀ h3, mSet b X h h3 → tG tt G cd bc bs rt M Q Z f pc L st h3 c n) : tG tt G cd bc bs rt M Q Z f pc L st (tSF h 111 b (.int X)) c n := k _ (mSet_of hf hs)
theorem mFr_r (hs : tSh h) : mFr h h := ⟨hs, fun _ _ _ => rfl, fun _ _ _ _ => rfl, rfl, mLo_r⟩
theorem mFr_t (a : mFr h h1) (k : mFr h1 h2) : mFr h h2 := ⟨k.1, fun p q z => (k.2.1 p q z).trans (a.2.1 p q z), fun p z w y => (k.2.2.1 p z w y).trans (a.2.2.1 p z w y), k.2.2.2.1.trans a.2.2.2.1, mLo_t (a.2.1 111 30 (fun z => by have z := z.2; unfold mFs at z; omega)) a.2.2.2.2 k.2.2.2.2⟩
theorem mFr_s (a : mFr h h1) (k : mSet b X h1 h2) (hb : mFs b) : mFr h h2 := ⟨k.1, fun p q z => (k.2.2.1 p q (fun w => z ⟨w.1, w.2.symm ▸ hb⟩)).trans (a.2.1 p q z), fun p z w y => (congrFun k.2.2.2.1 p).trans (a.2.2.1 p z w y), k.2.2.2.2.trans a.2.2.2.1, mLo_A k.2.2.2.1 a.2.2.2.2⟩
theorem nFs {q : Nat} (h : q = 27 ∨ q = 30 ∨ q = 1 ∨ q = 46 ∨ q = 47) : ¬ ((111 : Nat) = 111 ∧ mFs q) := fun z => by
  have z := z.2
  unfold mFs at z
  omega
theorem mFr_T (a : mFr h h1) : tA h1 132 = tA h 132 := a.2.2.1 132 (by decide) (by decide) (by decide)
theorem mFr_27 (a : mFr h h1) : tF h1 111 27 = tF h 111 27 := a.2.1 111 27 (nFs (by decide))
theorem mFr_30 (a : mFr h h1) : tF h1 111 30 = tF h 111 30 := a.2.1 111 30 (nFs (by decide))
theorem mFr_n (a : mFr h h1) : mn h1 = mn h := by unfold mn; rw [mFr_27 a]
theorem mFr_46 (a : mFr h h1) : tF h1 111 46 = tF h 111 46 := a.2.1 111 46 (nFs (by decide))
theorem mFr_47 (a : mFr h h1) : tF h1 111 47 = tF h 111 47 := a.2.1 111 47 (nFs (by decide))
theorem mI_x (k : mSet b X h h3) : tvI (tF h3 111 b) = X := congrArg tvI k.2.1
theorem mI_o {q : Nat} (k : mSet b X h h3) (hq : q ≠ b) : tF h3 111 q = tF h 111 q := k.2.2.1 111 q (fun z => hq z.2)
theorem mEn_o (k : mSet b X h h3) (h1 : b ≠ 31) (h2 : b ≠ 30) : mEn h3 = mEn h := by
  unfold mEn
  rw [mI_o k (fun z => h1 z.symm), mI_o k (fun z => h2 z.symm), k.2.2.2.1]
theorem mSk_o (k : mSet b X h h3) (h1 : b ≠ 34) : mSk h3 = mSk h := by
  unfold mSk
  rw [mI_o k (fun z => h1 z.symm), k.2.2.2.1]
theorem mSk_len : (mSk h).length = (tvI (tF h 111 34)).toNatClampNeg := by unfold mSk; rw [List.length_reverse, List.length_map, List.length_range]
/-- the fault stays over other fields -/
theorem mFt_s (k : mFt h e) (s : mSet b X h h3) (hb : b ≠ 29) : mFt h3 e := ⟨(mI_o s (fun z => hb z.symm)).trans k.1, k.2⟩
theorem mFt_n (k : mFt h e) : ¬ tvI (tF h 111 29) = 0 := by
  rw [k.1]
  intro z
  have z : Int32.ofNat e = 0 := z
  have y := zofI (e := e) (by have := k.2; omega)
  rw [z] at y
  have : ((0 : Int32)).toInt = 0 := rfl
  have := k.2
  omega
theorem mP_0 (p : mP h) : tvI (tF h 111 29) = 0 := by rw [p.1]; rfl
theorem mPl (p : mP h) : (tvI (tF h 111 28)).toInt = ((ms h).1 : Int) := by
  show _ = ((tvI (tF h 111 28)).toNatClampNeg : Int)
  rw [zclE]
  have := p.2.1
  omega
theorem mNl {n : Nat} (p : mP h) (hn : mn h = n) : (tvI (tF h 111 27)).toInt = (n : Int) := by
  rw [← hn]
  show _ = ((tvI (tF h 111 27)).toNatClampNeg : Int)
  rw [zclE]
  have := p.2.1
  omega
theorem mCl (p : mP h) : (tvI (tF h 111 33)).toInt = ((ms h).2.1 : Int) := by
  show _ = ((tvI (tF h 111 33)).toNatClampNeg : Int)
  rw [zclE]
  have := p.2.2.1
  omega
theorem mPle {n : Nat} (p : mP h) (hn : mn h = n) : (ms h).1 ≤ n := by
  have := mPl p
  have := mNl p hn
  have := p.2.1
  omega
/-- the place was set -/
theorem mTo {n v : Nat} (p : mP h) (hn : mn h = n) (s : mSet 28 X h h3) (hx : X.toInt = v) (hv : v ≤ n) : mP h3 ∧ ms h3 = rA v (ms h) ∧ mSk h3 = mSk h := by
  have e1 := mNl p hn
  obtain ⟨a, b, c, d, e, g, i, j, t1, t2⟩ := p
  have NN : tN h3 = tN h := s.2.2.2.2
  refine ⟨⟨(mI_o s (by decide)).trans a, ?_, ?_, ?_, ?_, ?_, ?_, ?_, by rw [NN]; exact t1, by rw [NN]; exact t2⟩, ?_, mSk_o s (by decide)⟩
  · rw [mI_x s, mI_o s (by decide)]; omega
  · rw [mI_o s (by decide)]; exact c
  · rw [mI_o s (by decide)]; exact d
  · rw [mI_o s (by decide)]; exact e
  · rw [mI_o s (by decide)]; exact g
  · rw [s.2.2.2.1, s.2.2.2.2]; exact i
  · exact j
  · unfold ms
    rw [mI_x s, mI_o s (by decide), mEn_o s (by decide) (by decide), zof_cl hx]
    rfl
/-- one more is counted -/
theorem mCnt (p : mP h) (h8 : (ms h).2.1 ≠ 80) (s : mSet 33 (tvI (tF h 111 33) + 1) h h3) : mP h3 ∧ ms h3 = ((ms h).1, (ms h).2.1 + 1, (ms h).2.2) ∧ mSk h3 = mSk h := by
  have e1 := mCl p
  have e2 : (tvI (tF h 111 33) + 1).toInt = (((ms h).2.1 + 1 : Nat) : Int) := zincN e1 (by have := p.2.2.1; omega)
  obtain ⟨a, b, c, d, e, g, i, j, t1, t2⟩ := p
  have NN : tN h3 = tN h := s.2.2.2.2
  refine ⟨⟨(mI_o s (by decide)).trans a, ?_, ?_, ?_, ?_, ?_, ?_, ?_, by rw [NN]; exact t1, by rw [NN]; exact t2⟩, ?_, mSk_o s (by decide)⟩
  · rw [mI_o s (by decide), mI_o s (by decide)]; exact b
  · rw [mI_x s]; omega
  · rw [mI_o s (by decide)]; exact d
  · rw [mI_o s (by decide)]; exact e
  · rw [mI_o s (by decide)]; exact g
  · rw [s.2.2.2.1, s.2.2.2.2]; exact i
  · exact j
  · unfold ms
    rw [mI_x s, mI_o s (by decide), mEn_o s (by decide) (by decide), zof_cl e2]
    rfl
theorem mSte (p : mP h) (s : mSet 46 X h h3) : mP h3 ∧ ms h3 = ms h ∧ mSk h3 = mSk h := by
  obtain ⟨a, b, c, d, e, g, i, j, t1, t2⟩ := p
  have e1 := mEn_o s (by decide) (by decide)
  have e2 := mSk_o s (by decide)
  have NN : tN h3 = tN h := s.2.2.2.2
  refine ⟨⟨(mI_o s (by decide)).trans a, ?_, ?_, ?_, ?_, ?_, ?_, ?_, by rw [NN]; exact t1, by rw [NN]; exact t2⟩, ?_, e2⟩
  · rw [mI_o s (by decide), mI_o s (by decide)]; exact b
  · rw [mI_o s (by decide)]; exact c
  · rw [mI_o s (by decide)]; exact d
  · rw [mI_o s (by decide)]; exact e
  · rw [mI_o s (by decide)]; exact g
  · rw [s.2.2.2.1, s.2.2.2.2]; exact i
  · exact j
  · unfold ms
    rw [mI_o s (by decide), mI_o s (by decide), e1]
/-- a fault is set -/
theorem mFt_of {a y : Int32} {k w : Nat} (s : mSet 29 (1 + 8 * a + y) h h3) (ha : a.toInt = k) (hk : k ≤ 400) (hy : y.toInt = w) (hw : w ≤ 7) : mFt h3 (1 + 8 * k + w) := ⟨by rw [s.2.1, zfa ha hk hy hw], by omega, by omega⟩
/-- the top, and off with it: the depth follows by the caller -/
theorem mSk_top (hk : 0 < (tvI (tF h 111 34)).toNatClampNeg) : mSk h = (tA h 142 ((tvI (tF h 111 34)).toNatClampNeg - 1)).toNatClampNeg :: ((List.range ((tvI (tF h 111 34)).toNatClampNeg - 1)).map (fun i => (tA h 142 i).toNatClampNeg)).reverse := by
  unfold mSk
  obtain ⟨k, e⟩ : ∃ k, (tvI (tF h 111 34)).toNatClampNeg = k + 1 := ⟨_, (Nat.sub_add_cancel hk).symm⟩
  rw [e, List.range_succ, List.map_append, List.reverse_append]
  rfl
theorem mSk_nil (hk : (tvI (tF h 111 34)).toNatClampNeg = 0) : mSk h = [] := by
  unfold mSk
  rw [hk]
  rfl
theorem mD_o (k : mSet b X h h3) (h1 : b ≠ 32) (h2 : b ≠ 34) (d : mD h) : mD h3 := by
  unfold mD
  rw [mI_o k (fun z => h1 z.symm), mSk_o k h2]
  exact d
theorem mSk_pop (p : mP h) (hne : mSk h ≠ []) (s : mSet 34 (tvI (tF h 111 34) - 1) h h3) : mP h3 ∧ mSk h3 = (mSk h).tail ∧ ms h3 = ms h ∧ tF h3 111 32 = tF h 111 32 := by
  have hk : 0 < (tvI (tF h 111 34)).toNatClampNeg := by
    rcases Nat.eq_zero_or_pos (tvI (tF h 111 34)).toNatClampNeg with z | z
    · exact absurd (mSk_nil z) hne
    · exact z
  have e0 : (tvI (tF h 111 34)).toInt = ((tvI (tF h 111 34)).toNatClampNeg : Int) := by rw [zclE]; have := p.2.2.2.2.1; omega
  have e1 : (tvI (tF h 111 34) - 1).toInt = (tvI (tF h 111 34)).toInt - 1 := zsub1 p.2.2.2.2.1
  have e2 : (tvI (tF h 111 34) - 1).toNatClampNeg = (tvI (tF h 111 34)).toNatClampNeg - 1 := by rw [zclE, e1]; omega
  obtain ⟨a, b, c, d, e, g, i, j, t1, t2⟩ := p
  have NN : tN h3 = tN h := s.2.2.2.2
  refine ⟨⟨(mI_o s (by decide)).trans a, ?_, ?_, ?_, ?_, ?_, ?_, ?_, by rw [NN]; exact t1, by rw [NN]; exact t2⟩, ?_, ?_, mI_o s (by decide)⟩
  · rw [mI_o s (by decide), mI_o s (by decide)]; exact b
  · rw [mI_o s (by decide)]; exact c
  · rw [mI_o s (by decide)]; exact d
  · rw [mI_x s, e1]; omega
  · rw [mI_o s (by decide)]; exact g
  · rw [s.2.2.2.1, s.2.2.2.2]; exact i
  · exact j
  · rw [mSk_top hk]
    unfold mSk
    rw [mI_x s, e2, s.2.2.2.1]
    rfl
  · unfold ms
    rw [mI_o s (by decide), mI_o s (by decide), mEn_o s (by decide) (by decide)]
/-- the depth goes down by one -/
theorem mDn (p : mP h) (s : mSet 32 (tvI (tF h 111 32) - 1) h h3) {k : Nat} (hd : (tvI (tF h 111 32)).toInt = ((k + 1 : Nat) : Int)) (hk : k = mDp (mSk h)) : mP h3 ∧ mSk h3 = mSk h ∧ ms h3 = ms h ∧ mD h3 := by
  have e1 : (tvI (tF h 111 32) - 1).toInt = (tvI (tF h 111 32)).toInt - 1 := zsub1 (by omega)
  have e2 := mSk_o s (by decide)
  obtain ⟨a, b, c, d, e, g, i, j, t1, t2⟩ := p
  have NN : tN h3 = tN h := s.2.2.2.2
  refine ⟨⟨(mI_o s (by decide)).trans a, ?_, ?_, ?_, ?_, ?_, ?_, ?_, by rw [NN]; exact t1, by rw [NN]; exact t2⟩, e2, ?_, ?_⟩
  · rw [mI_o s (by decide), mI_o s (by decide)]; exact b
  · rw [mI_o s (by decide)]; exact c
  · rw [mI_o s (by decide)]; exact d
  · rw [mI_o s (by decide)]; exact e
  · rw [mI_o s (by decide)]; exact g
  · rw [s.2.2.2.1, s.2.2.2.2]; exact i
  · exact j
  · unfold ms
    rw [mI_o s (by decide), mI_o s (by decide), mEn_o s (by decide) (by decide)]
  · unfold mD
    rw [mI_x s, e1, e2, hd, hk]
    omega
theorem mUp (p : mP h) (s : mSet 32 (tvI (tF h 111 32) + 1) h h3) {k : Nat} (hd : (tvI (tF h 111 32)).toInt = (k : Int)) (hk : k ≤ 1000) : mP h3 ∧ mSk h3 = mSk h ∧ ms h3 = ms h ∧ (tvI (tF h3 111 32)).toInt = ((k + 1 : Nat) : Int) := by
  have e1 := zincN hd (by omega)
  have e2 := mSk_o s (by decide)
  obtain ⟨a, b, c, d, e, g, i, j, t1, t2⟩ := p
  have NN : tN h3 = tN h := s.2.2.2.2
  refine ⟨⟨(mI_o s (by decide)).trans a, ?_, ?_, ?_, ?_, ?_, ?_, ?_, by rw [NN]; exact t1, by rw [NN]; exact t2⟩, e2, ?_, ?_⟩
  · rw [mI_o s (by decide), mI_o s (by decide)]; exact b
  · rw [mI_o s (by decide)]; exact c
  · rw [mI_o s (by decide)]; exact d
  · rw [mI_o s (by decide)]; exact e
  · rw [mI_o s (by decide)]; exact g
  · rw [s.2.2.2.1, s.2.2.2.2]; exact i
  · exact j
  · unfold ms
    rw [mI_o s (by decide), mI_o s (by decide), mEn_o s (by decide) (by decide)]
  · rw [mI_x s, e1]
/-- laid on the pile -/
theorem mPush {x : Int32} {kd : Nat} (hs : tSh h) (p : mP h) (hx : 0 ≤ x.toInt) (hf : tIn h 142 kd (tvI (tF h 111 34))) (hf2 : tFd (tSA h 142 (tvI (tF h 111 34)).toNatClampNeg x) 111 34) : mFr h (tSF (tSA h 142 (tvI (tF h 111 34)).toNatClampNeg x) 111 34 (.int (tvI (tF h 111 34) + 1))) ∧ mP (tSF (tSA h 142 (tvI (tF h 111 34)).toNatClampNeg x) 111 34 (.int (tvI (tF h 111 34) + 1))) ∧ mSk (tSF (tSA h 142 (tvI (tF h 111 34)).toNatClampNeg x) 111 34 (.int (tvI (tF h 111 34) + 1))) = x.toNatClampNeg :: mSk h ∧ ms (tSF (tSA h 142 (tvI (tF h 111 34)).toNatClampNeg x) 111 34 (.int (tvI (tF h 111 34) + 1))) = ms h ∧ tF (tSF (tSA h 142 (tvI (tF h 111 34)).toNatClampNeg x) 111 34 (.int (tvI (tF h 111 34) + 1))) 111 32 = tF h 111 32 := by
  have hw := hw_111_34 (x := tvI (tF h 111 34) + 1) hf2 (tSh_SA hs)
  have e := mSet_of hf2 hw
  generalize tSF (tSA h 142 (tvI (tF h 111 34)).toNatClampNeg x) 111 34 (.int (tvI (tF h 111 34) + 1)) = h3 at e
  have hF : ∀ b, b ≠ 34 → tF h3 111 b = tF h 111 b := fun b hb => (mI_o e hb).trans (by rw [tF_tSA])
  have h34 : tvI (tF h3 111 34) = tvI (tF h 111 34) + 1 := mI_x e
  have hA : tA h3 = fun p q => if p = 142 ∧ q = (tvI (tF h 111 34)).toNatClampNeg then x else tA h p q := e.2.2.2.1.trans (tA_tSA hf.cell _ _)
  have hr := hf.rg
  have e0 : (tvI (tF h 111 34)).toInt = ((tvI (tF h 111 34)).toNatClampNeg : Int) := by rw [zclE]; omega
  have hl := p.2.2.2.2.2.2.2.2.2
  have e1 := zincN e0 (by omega)
  have e2 : (tvI (tF h 111 34) + 1).toNatClampNeg = (tvI (tF h 111 34)).toNatClampNeg + 1 := zof_cl e1
  have hE : ∀ p, p ≠ 142 → tA h3 p = tA h p := fun p hp => by rw [hA]; funext q; exact if_neg (fun w => hp w.1)
  obtain ⟨a, b, c, d, e9, g, i, j, t1, t2⟩ := p
  have NN : tN h3 = tN h := e.2.2.2.2.trans (tN_tSA _ _ _ _)
  refine ⟨⟨e.1, fun p q z => (e.2.2.1 p q (fun w => z ⟨w.1, by unfold mFs; omega⟩)).trans (by rw [tF_tSA]), fun p _ _ z => hE p z, NN, mLo_p (hE 133 (by decide)) (hE 134 (by decide))⟩, ⟨(hF 29 (by decide)).trans a, ?_, ?_, ?_, ?_, ?_, ?_, ?_, by rw [NN]; exact t1, by rw [NN]; exact t2⟩, ?_, ?_, hF 32 (by decide)⟩
  · rw [hF 28 (by decide), hF 27 (by decide)]; exact b
  · rw [hF 33 (by decide)]; exact c
  · rw [hF 31 (by decide)]; exact d
  · rw [h34, e1]; omega
  · rw [hF 30 (by decide)]; exact g
  · intro q hq
    rw [NN] at hq
    rw [hA]
    show 0 ≤ (if 142 = 142 ∧ q = _ then x else tA h 142 q : Int32).toInt
    by_cases z : q = (tvI (tF h 111 34)).toNatClampNeg
    · rw [if_pos ⟨rfl, z⟩]; exact hx
    · rw [if_neg (fun w => z w.2)]; exact i q hq
  · exact j
  · unfold mSk
    rw [h34, e2, List.range_succ, List.map_append, List.reverse_append, hA]
    show [(if 142 = 142 ∧ (tvI (tF h 111 34)).toNatClampNeg = (tvI (tF h 111 34)).toNatClampNeg then x else _ : Int32).toNatClampNeg] ++ _ = _
    rw [if_pos ⟨rfl, rfl⟩]
    refine congrArg (fun z => x.toNatClampNeg :: z) (congrArg List.reverse (List.map_congr_left (fun i hi => ?_)))
    have hi := List.mem_range.mp hi
    show (if 142 = 142 ∧ i = _ then x else tA h 142 i : Int32).toNatClampNeg = _
    rw [if_neg (fun z => by omega)]
  · unfold ms mEn
    rw [hF 28 (by decide), hF 33 (by decide), hF 31 (by decide), hF 30 (by decide), hE 133 (by decide), hE 134 (by decide)]
/-- told on -/
theorem mEnt {s v : Int32} {k1 k2 : Nat} {i1 i2 : Int32} (hs : tSh h) (p : mP h) (h0 : 0 ≤ s.toInt ∧ 0 ≤ v.toInt) (hi1 : i1 = 500 * tvI (tF h 111 30) + tvI (tF h 111 31)) (hi2 : i2 = 500 * tvI (tF h 111 30) + tvI (tF h 111 31)) (f1 : tIn h 133 k1 i1) (f2 : tIn (tSA h 133 i1.toNatClampNeg s) 134 k2 i2) (f3 : tFd (tSA (tSA h 133 i1.toNatClampNeg s) 134 i2.toNatClampNeg v) 111 31) : mFr h (tSF (tSA (tSA h 133 i1.toNatClampNeg s) 134 i2.toNatClampNeg v) 111 31 (.int (tvI (tF h 111 31) + 1))) ∧ mP (tSF (tSA (tSA h 133 i1.toNatClampNeg s) 134 i2.toNatClampNeg v) 111 31 (.int (tvI (tF h 111 31) + 1))) ∧ mSk (tSF (tSA (tSA h 133 i1.toNatClampNeg s) 134 i2.toNatClampNeg v) 111 31 (.int (tvI (tF h 111 31) + 1))) = mSk h ∧ ms (tSF (tSA (tSA h 133 i1.toNatClampNeg s) 134 i2.toNatClampNeg v) 111 31 (.int (tvI (tF h 111 31) + 1))) = rU (mCode s.toNatClampNeg v.toNatClampNeg) (ms h) ∧ tF (tSF (tSA (tSA h 133 i1.toNatClampNeg s) 134 i2.toNatClampNeg v) 111 31 (.int (tvI (tF h 111 31) + 1))) 111 32 = tF h 111 32 := by
  have hw := hw_111_31 (x := tvI (tF h 111 31) + 1) f3 (tSh_SA (tSh_SA hs))
  have e := mSet_of f3 hw
  have hr := f1.rg
  generalize tSF (tSA (tSA h 133 i1.toNatClampNeg s) 134 i2.toNatClampNeg v) 111 31 (.int (tvI (tF h 111 31) + 1)) = h3 at e
  have hF : ∀ b, b ≠ 31 → tF h3 111 b = tF h 111 b := fun b hb => (mI_o e hb).trans (by rw [tF_tSA, tF_tSA])
  have h31 : tvI (tF h3 111 31) = tvI (tF h 111 31) + 1 := mI_x e
  have hA : tA h3 = fun p q => if p = 134 ∧ q = i2.toNatClampNeg then v else if p = 133 ∧ q = i1.toNatClampNeg then s else tA h p q := e.2.2.2.1.trans ((tA_tSA f2.cell _ _).trans (by rw [tA_tSA f1.cell]))
  obtain ⟨a, b, c, d, e9, g, i, j, t1, t2⟩ := p
  have n1 : (500 * tvI (tF h 111 30)).toInt = 500 * (tvI (tF h 111 30)).toInt := by
    rw [Int32.toInt_mul, show (500 : Int32).toInt = 500 from rfl]
    exact Int.bmod_eq_of_le (by show (-2147483648 : Int) ≤ 500 * (tvI (tF h 111 30)).toInt; omega) (by show 500 * (tvI (tF h 111 30)).toInt < (2147483648 : Int); omega)
  have n2 : i1.toInt = 500 * (tvI (tF h 111 30)).toInt + (tvI (tF h 111 31)).toInt := by
    rw [hi1, Int32.toInt_add, n1]
    exact Int.bmod_eq_of_le (by show (-2147483648 : Int) ≤ 500 * (tvI (tF h 111 30)).toInt + (tvI (tF h 111 31)).toInt; omega) (by show 500 * (tvI (tF h 111 30)).toInt + (tvI (tF h 111 31)).toInt < (2147483648 : Int); omega)
  have n3 : i1.toNatClampNeg = 500 * (tvI (tF h 111 30)).toNatClampNeg + (tvI (tF h 111 31)).toNatClampNeg := by
    rw [zclE, zclE, zclE, n2]
    omega
  have n4 : i2 = i1 := hi2.trans hi1.symm
  have e0 : (tvI (tF h 111 31)).toInt = ((tvI (tF h 111 31)).toNatClampNeg : Int) := by rw [zclE]; omega
  have e1 := zincN e0 (by omega)
  have e2 : (tvI (tF h 111 31) + 1).toNatClampNeg = (tvI (tF h 111 31)).toNatClampNeg + 1 := zof_cl e1
  have hE : ∀ p, p ≠ 133 → p ≠ 134 → tA h3 p = tA h p := fun p hp hq => by
    rw [hA]; funext q
    show (if p = 134 ∧ q = _ then v else if p = 133 ∧ q = _ then s else tA h p q) = _
    rw [if_neg (fun w => hq w.1), if_neg (fun w => hp w.1)]
  have hS : tA h3 133 = fun q => if q = i1.toNatClampNeg then s else tA h 133 q := by
    rw [hA]; funext q
    show (if 133 = 134 ∧ q = _ then v else if 133 = 133 ∧ q = _ then s else tA h 133 q) = _
    rw [if_neg (fun w => absurd w.1 (by decide))]
    by_cases z : q = i1.toNatClampNeg
    · rw [if_pos ⟨rfl, z⟩, if_pos z]
    · rw [if_neg (fun w => z w.2), if_neg z]
  have hV : tA h3 134 = fun q => if q = i1.toNatClampNeg then v else tA h 134 q := by
    rw [hA]; funext q
    show (if 134 = 134 ∧ q = i2.toNatClampNeg then v else if 134 = 133 ∧ q = _ then s else tA h 134 q) = _
    rw [n4]
    by_cases z : q = i1.toNatClampNeg
    · rw [if_pos ⟨rfl, z⟩, if_pos z]
    · rw [if_neg (fun w => z w.2), if_neg z, if_neg (fun w => absurd w.1 (by decide))]
  have NN : tN h3 = tN h := e.2.2.2.2.trans ((tN_tSA _ _ _ _).trans (tN_tSA _ _ _ _))
  refine ⟨⟨e.1, fun p q z => (e.2.2.1 p q (fun w => z ⟨w.1, by unfold mFs; omega⟩)).trans (by rw [tF_tSA, tF_tSA]), fun p z y _ => hE p z y, NN, fun q hq => ⟨by rw [hS]; exact if_neg (by rw [n3]; omega), by rw [hV]; exact if_neg (by rw [n3]; omega)⟩⟩, ⟨(hF 29 (by decide)).trans a, ?_, ?_, ?_, ?_, ?_, ?_, ?_, by rw [NN]; exact t1, by rw [NN]; exact t2⟩, ?_, ?_, hF 32 (by decide)⟩
  · rw [hF 28 (by decide), hF 27 (by decide)]; exact b
  · rw [hF 33 (by decide)]; exact c
  · rw [h31, e1]; constructor <;> omega
  · rw [hF 34 (by decide)]; exact e9
  · rw [hF 30 (by decide)]; exact g
  · rw [hE 142 (by decide) (by decide), NN]; exact i
  · exact j
  · unfold mSk
    rw [hF 34 (by decide), hE 142 (by decide) (by decide)]
  · unfold ms rU mEn
    rw [hF 28 (by decide), hF 33 (by decide), hF 30 (by decide), h31, e2, List.range_succ, List.map_append, hS, hV]
    refine Prod.ext rfl (Prod.ext rfl ?_)
    show List.map _ _ ++ [mCode _ _] = List.map _ _ ++ [_]
    refine congr (congrArg HAppend.hAppend (List.map_congr_left (fun i hi => ?_))) ?_
    · have hi := List.mem_range.mp hi
      dsimp only
      rw [if_neg (by rw [n3]; omega), if_neg (by rw [n3]; omega)]
    · show [mCode (if _ = i1.toNatClampNeg then s else _ : Int32).toNatClampNeg (if _ = i1.toNatClampNeg then v else _ : Int32).toNatClampNeg] = _
      rw [if_pos n3.symm, if_pos n3.symm]
/-- a whole step's frame -/
noncomputable def mFq (h h2 : zH) : Prop := tSh h2 ∧ (∀ p b, ¬ (p = 111 ∧ (mFs b ∨ b = 46)) → tF h2 p b = tF h p b) ∧ (∀ p, p ≠ 133 → p ≠ 134 → p ≠ 142 → tA h2 p = tA h p) ∧ tN h2 = tN h ∧ mLo h h2
theorem mFq_f (k : mFr h h2) : mFq h h2 := ⟨k.1, fun p b z => k.2.1 p b (fun w => z ⟨w.1, Or.inl w.2⟩), k.2.2.1, k.2.2.2⟩
theorem mFq_t (a : mFq h h1) (k : mFq h1 h2) : mFq h h2 := ⟨k.1, fun p q z => (k.2.1 p q z).trans (a.2.1 p q z), fun p z w y => (k.2.2.1 p z w y).trans (a.2.2.1 p z w y), k.2.2.2.1.trans a.2.2.2.1, mLo_t (a.2.1 111 30 (fun z => by have z := z.2; unfold mFs at z; omega)) a.2.2.2.2 k.2.2.2.2⟩
theorem mFq_s (a : mFq h h1) (k : mSet b X h1 h2) (hb : mFs b ∨ b = 46) : mFq h h2 := ⟨k.1, fun p q z => (k.2.2.1 p q (fun w => z ⟨w.1, w.2.symm ▸ hb⟩)).trans (a.2.1 p q z), fun p z w y => (congrFun k.2.2.2.1 p).trans (a.2.2.1 p z w y), k.2.2.2.2.trans a.2.2.2.1, mLo_A k.2.2.2.1 a.2.2.2.2⟩
theorem mFq_T (a : mFq h h1) : tA h1 132 = tA h 132 := a.2.2.1 132 (by decide) (by decide) (by decide)
theorem mFq_n (a : mFq h h1) : mn h1 = mn h := by
  unfold mn
  rw [a.2.1 111 27 (fun z => by have z := z.2; unfold mFs at z; omega)]
noncomputable def mFw (h h2 : zH) : Prop := tSh h2 ∧ (∀ p b, ¬ (p = 111 ∧ (mFs b ∨ b = 46 ∨ b = 47)) → tF h2 p b = tF h p b) ∧ (∀ p, p ≠ 133 → p ≠ 134 → p ≠ 142 → tA h2 p = tA h p) ∧ tN h2 = tN h ∧ mLo h h2
theorem mFw_q (k : mFq h h2) : mFw h h2 := ⟨k.1, fun p b z => k.2.1 p b (fun w => z ⟨w.1, w.2.elim Or.inl (fun y => Or.inr (Or.inl y))⟩), k.2.2.1, k.2.2.2⟩
theorem mFw_t (a : mFw h h1) (k : mFw h1 h2) : mFw h h2 := ⟨k.1, fun p q z => (k.2.1 p q z).trans (a.2.1 p q z), fun p z w y => (k.2.2.1 p z w y).trans (a.2.2.1 p z w y), k.2.2.2.1.trans a.2.2.2.1, mLo_t (a.2.1 111 30 (fun z => by have z := z.2; unfold mFs at z; omega)) a.2.2.2.2 k.2.2.2.2⟩
theorem mFw_s (a : mFw h h1) (k : mSet b X h1 h2) (hb : mFs b ∨ b = 46 ∨ b = 47) : mFw h h2 := ⟨k.1, fun p q z => (k.2.2.1 p q (fun w => z ⟨w.1, w.2.symm ▸ hb⟩)).trans (a.2.1 p q z), fun p z w y => (congrFun k.2.2.2.1 p).trans (a.2.2.1 p z w y), k.2.2.2.2.trans a.2.2.2.1, mLo_A k.2.2.2.1 a.2.2.2.2⟩
theorem mFw_T (a : mFw h h1) : tA h1 132 = tA h 132 := a.2.2.1 132 (by decide) (by decide) (by decide)
theorem mFw_i {q : Nat} (a : mFw h h1) (hq : ¬ (mFs q ∨ q = 46 ∨ q = 47)) : tF h1 111 q = tF h 111 q := a.2.1 111 q (fun z => hq z.2)
theorem mFq_47 (a : mFq h h1) : tF h1 111 47 = tF h 111 47 := a.2.1 111 47 (fun z => by have z := z.2; unfold mFs at z; omega)
theorem mFw_27 (a : mFw h h1) : tF h1 111 27 = tF h 111 27 := mFw_i a (fun z => by unfold mFs at z; omega)
theorem mFw_n (a : mFw h h1) : mn h1 = mn h := by
  unfold mn
  rw [mFw_27 a]
noncomputable def stN (x : Int32) : Nat := if x.toInt < 0 then 99 else x.toInt.toNat
noncomputable def mst (h : zH) : rMs := (stN (tvI (tF h 111 46)), mSk h, ms h)
end MF
/-- a byte, or -1 behind the end -/
noncomputable def sgm (T : Nat → Int32) (n p : Nat) (c : Int32) : Prop := (p < n ∧ c = T p) ∨ (¬ p < n ∧ c = -1)
theorem sgm_k {T : Nat → Int32} {n p : Nat} {c : Int32} (s : sgm T n p c) (k : Int32) (hk : 0 ≤ k.toInt) : c = k ↔ p < n ∧ T p = k := by
  rcases s with ⟨a, rfl⟩ | ⟨a, rfl⟩
  · exact ⟨fun z => ⟨a, z⟩, fun z => z.2⟩
  · exact ⟨fun z => by rw [← z] at hk; exact absurd hk (by decide), fun z => absurd z.1 a⟩
theorem sgm_d {T : Nat → Int32} {n p : Nat} {c : Int32} (s : sgm T n p c) : (48 ≤ c.toInt ∧ c.toInt ≤ 57) ↔ (p < n ∧ 48 ≤ (T p).toInt ∧ (T p).toInt ≤ 57) := by
  rcases s with ⟨a, rfl⟩ | ⟨a, rfl⟩
  · exact ⟨fun z => ⟨a, z⟩, fun z => z.2⟩
  · have : ((-1 : Int32)).toInt = -1 := by decide
    exact ⟨fun z => by omega, fun z => absurd z.1 a⟩
theorem mpos {h : zH} (hf : 0 ≤ (tvI (tF h 111 28)).toInt ∧ 0 ≤ (tvI (tF h 111 27)).toInt) : ((tvI (tF h 111 28)).toInt < (tvI (tF h 111 27)).toInt) ↔ (ms h).1 < mn h := by
  show _ ↔ (tvI (tF h 111 28)).toNatClampNeg < (tvI (tF h 111 27)).toNatClampNeg
  rw [zclE, zclE]
  omega
theorem g_sign {G : zG} (hG : G.1 = zProg) (hX : G.2.1 = ztx) {h : zH} {T : Nat → Int32} {n : Nat} (hs : tSh h) (hT : tA h 132 = T) (hN : mn h = n) (h0 : 0 ≤ (tvI (tF h 111 28)).toInt ∧ 0 ≤ (tvI (tF h 111 27)).toInt) : tC zTt G 202 [.ref 111] h (fun w h2 => (∃ c, w = some (.int c) ∧ sgm T n (ms h).1 c) ∧ h = h2) := by
  refine tC_in (by rw [hG]; rfl) (fun dp => ?_)
  have g0 := mFr_r hs
  refine tw_aload rfl rfl ?_
  refine tw_getS rfl (hi_111_28 hs) ?_
  refine tw_aload rfl rfl ?_
  refine tw_getS rfl (hi_111_27 hs) ?_
  refine tw_ic_ge rfl (fun q660 => ?_) (fun q660 => ?_)
  · try dsimp only [tvI_i, tvJ_j, tvR_r] at q660
    refine tw_push rfl ?_
    exact tw_iret rfl ⟨⟨_, rfl, Or.inr ⟨fun z => absurd ((mpos h0).mpr (by rw [hN]; exact z)) (Int.not_lt.mpr q660), rfl⟩⟩, rfl⟩
  · try dsimp only [tvI_i, tvJ_j, tvR_r] at q660
    refine tw_aload rfl rfl ?_
    refine tw_getS rfl (hs_111_35 hs) ?_
    refine tw_aload rfl rfl ?_
    refine tw_getS rfl (hi_111_28 hs) ?_
    refine tw_bald rfl (fun f661 => ?_)
    refine tw_goto rfl ?_
    exact tw_iret rfl ⟨⟨_, rfl, Or.inl ⟨by rw [← hN]; exact (mpos h0).mp q660, congrFun hT _⟩⟩, rfl⟩
theorem g_isDigit {G : zG} (hG : G.1 = zProg) {h : zH} {c : Int32} : tC zTt G 204 [.int c] h (fun w h2 => tBo (48 ≤ c.toInt ∧ c.toInt ≤ 57) w ∧ h = h2) := by
  refine tC_in (by rw [hG]; rfl) (fun dp => ?_)
  refine tw_iload rfl rfl ?_
  refine tw_push rfl ?_
  refine tw_ic_lt rfl (fun q662 => ?_) (fun q662 => ?_)
  · try dsimp only [tvI_i, tvJ_j, tvR_r] at q662
    refine tw_push rfl ?_
    have c489 : (48 : Int32).toInt = 48 := rfl
    have c579 : (57 : Int32).toInt = 57 := rfl
    exact tw_iret rfl ⟨Or.inr ⟨by omega, rfl⟩, rfl⟩
  · try dsimp only [tvI_i, tvJ_j, tvR_r] at q662
    refine tw_iload rfl rfl ?_
    refine tw_push rfl ?_
    refine tw_ic_gt rfl (fun q663 => ?_) (fun q663 => ?_)
    · try dsimp only [tvI_i, tvJ_j, tvR_r] at q663
      refine tw_push rfl ?_
      have c489 : (48 : Int32).toInt = 48 := rfl
      have c579 : (57 : Int32).toInt = 57 := rfl
      exact tw_iret rfl ⟨Or.inr ⟨by omega, rfl⟩, rfl⟩
    · try dsimp only [tvI_i, tvJ_j, tvR_r] at q663
      refine tw_push rfl ?_
      refine tw_goto rfl ?_
      have c489 : (48 : Int32).toInt = 48 := rfl
      have c579 : (57 : Int32).toInt = 57 := rfl
      exact tw_iret rfl ⟨Or.inl ⟨by omega, rfl⟩, rfl⟩
theorem g_blanks {G : zG} (hG : G.1 = zProg) (hX : G.2.1 = ztx) {h : zH} {T : Nat → Int32} {n : Nat} (hs : tSh h) (hp : mP h) (hT : tA h 132 = T) (hN : mn h = n)  : tC zTt G 203 [.ref 111] h (fun w h2 => w = none ∧ mFr h h2 ∧ mP h2 ∧ ms h2 = rA (rB T n (ms h).1) (ms h) ∧ mSk h2 = mSk h ∧ tF h2 111 32 = tF h 111 32) := by
  refine tC_in (by rw [hG]; rfl) (fun dp => ?_)
  have g0 := mFr_r hs
  have hpn : (ms h).1 ≤ n := mPle hp hN
  refine tG_loop (zW_mono zTt G dp) (zW_conj zTt G dp) (V := fun pc L st h9 _ _ => pc = 0 ∧ st = [] ∧ ∃ h1, h1 = h9 ∧ mFr h h1 ∧ mP h1 ∧ (ms h1).2 = (ms h).2 ∧ mSk h1 = mSk h ∧ tF h1 111 32 = tF h 111 32 ∧ rB T n (ms h1).1 = rB T n (ms h).1 ∧ L = [some (.ref 111)]) ?_ (⟨rfl, rfl, _, rfl, g0, hp, rfl, rfl, rfl, rfl, rfl⟩)
  rintro _ _ _ _ _ _ ⟨rfl, rfl, h1, rfl, g1, p1, e1, e2, e3, e4, rfl⟩
  refine tw_aload rfl rfl ?_
  refine tw_virt0 rfl (g_sign hG hX (g1).1 ((mFr_T g1).trans hT) ((mFr_n g1).trans hN) ⟨p1.2.1.1, by have := p1.2.1; omega⟩) (fun wp664 hp664 p664 => ?_)
  obtain ⟨⟨cp664, rfl, kp664⟩, rfl⟩ := p664
  refine tw_push rfl ?_
  refine tw_ic_ne rfl (fun q665 => ?_) (fun q665 => ?_)
  · try dsimp only [tvI_i, tvJ_j, tvR_r] at q665
    have q665i := zneq (Y := 32) (by decide) q665
    have hb : (ms h1).1 = rB T n (ms h).1 := by rw [← e4, rB_n (fun z => q665 ((sgm_k kp664 32 (by decide)).mpr z))]
    exact tw_vret rfl ⟨rfl, g1, p1, Prod.ext hb e1, e2, e3⟩
  · try dsimp only [tvI_i, tvJ_j, tvR_r] at q665
    have q665i := zeqi (Y := 32) (by decide) q665
    refine tw_aload rfl rfl ?_
    refine tw_dup rfl ?_
    refine tw_getS rfl (hi_111_28 (g1).1) ?_
    refine tw_push rfl ?_
    refine tw_iadd rfl ?_
    refine tw_put rfl (fun f666 => ?_)
    refine tG_setm f666 (hw_111_28 f666 (g1).1) (fun hf666 ef666 => ?_)
    try dsimp only [tvI_i] at ef666
    have gf666 := mFr_s g1 ef666 (by unfold mFs; omega)
    have wf666 := (sgm_k kp664 32 (by decide)).mp q665
    obtain ⟨pf666, sf666, tf666⟩ := mTo p1 ((mFr_n g1).trans hN) ef666 (v := (ms h1).1 + 1) (zincN (mPl p1) (by have := mPle p1 ((mFr_n g1).trans hN); have := p1.2.1; have := mNl p1 ((mFr_n g1).trans hN); omega)) wf666.1
    refine tw_goto rfl ?_
    exact tG_cut (zW_mono zTt G dp) (Or.inr ⟨rfl, rfl, _, rfl, gf666, pf666, (by rw [sf666]; exact e1), tf666.trans e2, (mI_o ef666 (by decide)).trans e3, (by rw [sf666]; exact (rB_y wf666).symm.trans e4), rfl⟩)
theorem z_blanks {G : zG} (hG : G.1 = zProg) (hX : G.2.1 = ztx) {h : zH} {T : Nat → Int32} {n : Nat} (hs : tSh h) {ef : Nat} (hp : mFt h ef) (hT : tA h 132 = T) (hN : mn h = n) (h0 : 0 ≤ (tvI (tF h 111 28)).toInt ∧ 0 ≤ (tvI (tF h 111 27)).toInt) : tC zTt G 203 [.ref 111] h (fun w h2 => w = none ∧ mFr h h2 ∧ mFt h2 ef ∧ (0 ≤ (tvI (tF h2 111 28)).toInt ∧ 0 ≤ (tvI (tF h2 111 27)).toInt)) := by
  refine tC_in (by rw [hG]; rfl) (fun dp => ?_)
  have g0 := mFr_r hs
  refine tG_loop (zW_mono zTt G dp) (zW_conj zTt G dp) (V := fun pc L st h9 _ _ => pc = 0 ∧ st = [] ∧ ∃ h1, h1 = h9 ∧ mFr h h1 ∧ mFt h1 ef ∧ (0 ≤ (tvI (tF h1 111 28)).toInt ∧ 0 ≤ (tvI (tF h1 111 27)).toInt) ∧ L = [some (.ref 111)]) ?_ (⟨rfl, rfl, _, rfl, g0, hp, h0, rfl⟩)
  rintro _ _ _ _ _ _ ⟨rfl, rfl, h1, rfl, g1, z1, h0, rfl⟩
  refine tw_aload rfl rfl ?_
  refine tw_virt0 rfl (g_sign hG hX (g1).1 ((mFr_T g1).trans hT) ((mFr_n g1).trans hN) h0) (fun wp667 hp667 p667 => ?_)
  obtain ⟨⟨cp667, rfl, kp667⟩, rfl⟩ := p667
  refine tw_push rfl ?_
  refine tw_ic_ne rfl (fun q668 => ?_) (fun q668 => ?_)
  · try dsimp only [tvI_i, tvJ_j, tvR_r] at q668
    have q668i := zneq (Y := 32) (by decide) q668
    exact tw_vret rfl ⟨rfl, g1, z1, h0⟩
  · try dsimp only [tvI_i, tvJ_j, tvR_r] at q668
    have q668i := zeqi (Y := 32) (by decide) q668
    refine tw_aload rfl rfl ?_
    refine tw_dup rfl ?_
    refine tw_getS rfl (hi_111_28 (g1).1) ?_
    refine tw_push rfl ?_
    refine tw_iadd rfl ?_
    refine tw_put rfl (fun f669 => ?_)
    refine tG_setm f669 (hw_111_28 f669 (g1).1) (fun hf669 ef669 => ?_)
    try dsimp only [tvI_i] at ef669
    have gf669 := mFr_s g1 ef669 (by unfold mFs; omega)
    have zf669 := mFt_s z1 ef669 (by decide)
    have wf669 := (sgm_k kp667 32 (by decide)).mp q668
    have if669 : 0 ≤ (tvI (tF hf669 111 28)).toInt ∧ 0 ≤ (tvI (tF hf669 111 27)).toInt := by rw [mI_x ef669, mI_o ef669 (by decide)]; have y := (mpos h0).mpr (by rw [((mFr_n g1).trans hN)]; exact wf669.1); exact ⟨by rw [zj1 h0.1 y]; omega, h0.2⟩
    refine tw_goto rfl ?_
    exact tG_cut (zW_mono zTt G dp) (Or.inr ⟨rfl, rfl, _, rfl, gf669, zf669, if669, rfl⟩)
theorem g_fails {G : zG} (hG : G.1 = zProg) (hX : G.2.1 = ztx) {h : zH} {T : Nat → Int32} {n : Nat} (hs : tSh h) (hp : mP h) (hT : tA h 132 = T) (hN : mn h = n) {y a : Int32} {w b : Nat} (hw : y.toInt = w) (hw7 : w ≤ 7) (hb : a.toInt = b) (hb4 : b ≤ 400) : tC zTt G 201 [.ref 111, .int y, .int a] h (fun w9 h2 => w9 = none ∧ mFr h h2 ∧ mFt h2 (1 + 8 * b + w) ∧ tF h2 111 28 = tF h 111 28 ∧ tF h2 111 27 = tF h 111 27) := by
  refine tC_in (by rw [hG]; rfl) (fun dp => ?_)
  have g0 := mFr_r hs
  have hpn : (ms h).1 ≤ n := mPle hp hN
  refine tw_aload rfl rfl ?_
  refine tw_aload rfl rfl ?_
  refine tw_getS rfl (hi_111_29 hs) ?_
  refine tw_if_ne rfl (fun q670 => ?_) (fun q670 => ?_)
  · try dsimp only [tvI_i, tvJ_j, tvR_r] at q670
    have q670i := zneq (Y := 0) (by decide) q670
    refine tw_aload rfl rfl ?_
    refine tw_getS rfl (hi_111_29 hs) ?_
    refine tw_put rfl (fun f671 => ?_)
    refine tG_setm f671 (hw_111_29 f671 (g0).1) (fun hf671 ef671 => ?_)
    try dsimp only [tvI_i] at ef671
    have gf671 := mFr_s g0 ef671 (by unfold mFs; omega)
    exact absurd (mP_0 hp) q670
  · try dsimp only [tvI_i, tvJ_j, tvR_r] at q670
    have q670i := zeqi (Y := 0) (by decide) q670
    refine tw_push rfl ?_
    refine tw_push rfl ?_
    refine tw_iload rfl rfl ?_
    refine tw_imul rfl ?_
    refine tw_iadd rfl ?_
    refine tw_iload rfl rfl ?_
    refine tw_iadd rfl ?_
    refine tw_goto rfl ?_
    refine tw_put rfl (fun f672 => ?_)
    refine tG_setm f672 (hw_111_29 f672 (g0).1) (fun hf672 ef672 => ?_)
    try dsimp only [tvI_i] at ef672
    have gf672 := mFr_s g0 ef672 (by unfold mFs; omega)
    exact tw_vret rfl ⟨rfl, gf672, mFt_of ef672 hb hb4 hw hw7, mI_o ef672 (by decide), mI_o ef672 (by decide)⟩
theorem z_fails {G : zG} (hG : G.1 = zProg) (hX : G.2.1 = ztx) {h : zH} {T : Nat → Int32} {n : Nat} (hs : tSh h) {ef : Nat} (hp : mFt h ef) (hT : tA h 132 = T) (hN : mn h = n) {y a : Int32} : tC zTt G 201 [.ref 111, .int y, .int a] h (fun w9 h2 => w9 = none ∧ mFr h h2 ∧ mFt h2 ef ∧ tF h2 111 28 = tF h 111 28 ∧ tF h2 111 27 = tF h 111 27) := by
  refine tC_in (by rw [hG]; rfl) (fun dp => ?_)
  have g0 := mFr_r hs
  refine tw_aload rfl rfl ?_
  refine tw_aload rfl rfl ?_
  refine tw_getS rfl (hi_111_29 hs) ?_
  refine tw_if_ne rfl (fun q673 => ?_) (fun q673 => ?_)
  · try dsimp only [tvI_i, tvJ_j, tvR_r] at q673
    have q673i := zneq (Y := 0) (by decide) q673
    refine tw_aload rfl rfl ?_
    refine tw_getS rfl (hi_111_29 hs) ?_
    refine tw_put rfl (fun f674 => ?_)
    refine tG_setm f674 (hw_111_29 f674 (g0).1) (fun hf674 ef674 => ?_)
    try dsimp only [tvI_i] at ef674
    have gf674 := mFr_s g0 ef674 (by unfold mFs; omega)
    have hz : mFt hf674 ef := ⟨ef674.2.1.trans ((hi_111_29 hs).symm.trans hp.1), hp.2⟩
    exact tw_vret rfl ⟨rfl, gf674, hz, mI_o ef674 (by decide), mI_o ef674 (by decide)⟩
  · try dsimp only [tvI_i, tvJ_j, tvR_r] at q673
    have q673i := zeqi (Y := 0) (by decide) q673
    refine tw_push rfl ?_
    refine tw_push rfl ?_
    refine tw_iload rfl rfl ?_
    refine tw_imul rfl ?_
    refine tw_iadd rfl ?_
    refine tw_iload rfl rfl ?_
    refine tw_iadd rfl ?_
    refine tw_goto rfl ?_
    refine tw_put rfl (fun f675 => ?_)
    refine tG_setm f675 (hw_111_29 f675 (g0).1) (fun hf675 ef675 => ?_)
    try dsimp only [tvI_i] at ef675
    have gf675 := mFr_s g0 ef675 (by unfold mFs; omega)
    exact absurd q673 (mFt_n hp)
theorem mpos_k {h h2 : zH} (h0 : 0 ≤ (tvI (tF h 111 28)).toInt ∧ 0 ≤ (tvI (tF h 111 27)).toInt) (a : tF h2 111 28 = tF h 111 28) (b : tF h2 111 27 = tF h 111 27) : 0 ≤ (tvI (tF h2 111 28)).toInt ∧ 0 ≤ (tvI (tF h2 111 27)).toInt := by rw [a, b]; exact h0
theorem mpos_p {h : zH} (p : mP h) : 0 ≤ (tvI (tF h 111 28)).toInt ∧ 0 ≤ (tvI (tF h 111 27)).toInt := by have := p.2.1; exact ⟨by omega, by omega⟩
theorem m80 {h : zH} (p : mP h) (q : tvI (tF h 111 33) = 80) : (ms h).2.1 = 80 := by
  have e := mCl p
  rw [q] at e
  have : (80 : Int32).toInt = 80 := rfl
  omega
theorem mn80 {h : zH} (p : mP h) (q : ¬ tvI (tF h 111 33) = 80) : (ms h).2.1 ≠ 80 := by
  intro z
  have e := mCl p
  refine q (Int32.toInt_inj.mp ?_)
  have : (80 : Int32).toInt = 80 := rfl
  omega
theorem g_entry {G : zG} (hG : G.1 = zProg) (hX : G.2.1 = ztx) {h : zH} {T : Nat → Int32} {n : Nat} (hs : tSh h) (hp : mP h) (hT : tA h 132 = T) (hN : mn h = n) {s v : Int32} (hv : 0 ≤ s.toInt ∧ 0 ≤ v.toInt) : tC zTt G 206 [.ref 111, .int s, .int v] h (fun w h2 => w = none ∧ mFr h h2 ∧ mP h2 ∧ ms h2 = rU (mCode s.toNatClampNeg v.toNatClampNeg) (ms h) ∧ mSk h2 = mSk h ∧ tF h2 111 32 = tF h 111 32) := by
  refine tC_in (by rw [hG]; rfl) (fun dp => ?_)
  have g0 := mFr_r hs
  have hpn : (ms h).1 ≤ n := mPle hp hN
  refine tw_aload rfl rfl ?_
  refine tw_getS rfl (hi_111_29 hs) ?_
  refine tw_if_ne rfl (fun q676 => ?_) (fun q676 => ?_)
  · try dsimp only [tvI_i, tvJ_j, tvR_r] at q676
    have q676i := zneq (Y := 0) (by decide) q676
    exact absurd (mP_0 hp) q676
  · try dsimp only [tvI_i, tvJ_j, tvR_r] at q676
    have q676i := zeqi (Y := 0) (by decide) q676
    refine tw_aload rfl rfl ?_
    refine tw_getS rfl (hs_111_36 hs) ?_
    refine tw_push rfl ?_
    refine tw_aload rfl rfl ?_
    refine tw_getS rfl (hi_111_30 hs) ?_
    refine tw_imul rfl ?_
    refine tw_aload rfl rfl ?_
    refine tw_getS rfl (hi_111_31 hs) ?_
    refine tw_iadd rfl ?_
    refine tw_iload rfl rfl ?_
    refine tw_iast rfl (fun f677 => ?_)
    refine tw_aload rfl rfl ?_
    refine tw_getS rfl (hs_111_37 (tSh_SA hs)) ?_
    refine tw_push rfl ?_
    refine tw_aload rfl rfl ?_
    refine tw_getS rfl (tF_a (hi_111_30 hs)) ?_
    refine tw_imul rfl ?_
    refine tw_aload rfl rfl ?_
    refine tw_getS rfl (tF_a (hi_111_31 hs)) ?_
    refine tw_iadd rfl ?_
    refine tw_iload rfl rfl ?_
    refine tw_iast rfl (fun f678 => ?_)
    refine tw_aload rfl rfl ?_
    refine tw_dup rfl ?_
    refine tw_getS rfl (tF_a (tF_a (hi_111_31 hs))) ?_
    refine tw_push rfl ?_
    refine tw_iadd rfl ?_
    refine tw_put rfl (fun f679 => ?_)
    have K := mEnt (s := s) (v := v) hs hp hv rfl rfl f677 f678 f679
    exact tw_vret rfl ⟨rfl, K.1, K.2.1, K.2.2.2.1, K.2.2.1, K.2.2.2.2⟩
theorem z_entry {G : zG} (hG : G.1 = zProg) (hX : G.2.1 = ztx) {h : zH} {T : Nat → Int32} {n : Nat} (hs : tSh h) {ef : Nat} (hp : mFt h ef) (hT : tA h 132 = T) (hN : mn h = n) {s v : Int32} : tC zTt G 206 [.ref 111, .int s, .int v] h (fun w h2 => w = none ∧ h2 = h) := by
  refine tC_in (by rw [hG]; rfl) (fun dp => ?_)
  have g0 := mFr_r hs
  refine tw_aload rfl rfl ?_
  refine tw_getS rfl (hi_111_29 hs) ?_
  refine tw_if_ne rfl (fun q680 => ?_) (fun q680 => ?_)
  · try dsimp only [tvI_i, tvJ_j, tvR_r] at q680
    have q680i := zneq (Y := 0) (by decide) q680
    exact tw_vret rfl ⟨rfl, rfl⟩
  · try dsimp only [tvI_i, tvJ_j, tvR_r] at q680
    have q680i := zeqi (Y := 0) (by decide) q680
    refine tw_aload rfl rfl ?_
    refine tw_getS rfl (hs_111_36 hs) ?_
    refine tw_push rfl ?_
    refine tw_aload rfl rfl ?_
    refine tw_getS rfl (hi_111_30 hs) ?_
    refine tw_imul rfl ?_
    refine tw_aload rfl rfl ?_
    refine tw_getS rfl (hi_111_31 hs) ?_
    refine tw_iadd rfl ?_
    refine tw_iload rfl rfl ?_
    refine tw_iast rfl (fun f681 => ?_)
    refine tw_aload rfl rfl ?_
    refine tw_getS rfl (hs_111_37 (tSh_SA hs)) ?_
    refine tw_push rfl ?_
    refine tw_aload rfl rfl ?_
    refine tw_getS rfl (tF_a (hi_111_30 hs)) ?_
    refine tw_imul rfl ?_
    refine tw_aload rfl rfl ?_
    refine tw_getS rfl (tF_a (hi_111_31 hs)) ?_
    refine tw_iadd rfl ?_
    refine tw_iload rfl rfl ?_
    refine tw_iast rfl (fun f682 => ?_)
    refine tw_aload rfl rfl ?_
    refine tw_dup rfl ?_
    refine tw_getS rfl (tF_a (tF_a (hi_111_31 hs))) ?_
    refine tw_push rfl ?_
    refine tw_iadd rfl ?_
    refine tw_put rfl (fun f683 => ?_)
    exact absurd q680 (mFt_n hp)
theorem g_counts {G : zG} (hG : G.1 = zProg) (hX : G.2.1 = ztx) {h : zH} {T : Nat → Int32} {n : Nat} (hs : tSh h) (hp : mP h) (hT : tA h 132 = T) (hN : mn h = n) {a : Int32} {b : Nat} (hb : a.toInt = b) (hb4 : b ≤ 400) : tC zTt G 207 [.ref 111, .int a] h (fun w h2 => w = none ∧ mFr h h2 ∧ (((ms h).2.1 ≠ 80 ∧ mP h2 ∧ ms h2 = ((ms h).1, (ms h).2.1 + 1, (ms h).2.2) ∧ mSk h2 = mSk h ∧ tF h2 111 32 = tF h 111 32) ∨ ((ms h).2.1 = 80 ∧ mFt h2 (1 + 8 * b + 3))) ∧ tF h2 111 28 = tF h 111 28 ∧ tF h2 111 27 = tF h 111 27) := by
  refine tC_in (by rw [hG]; rfl) (fun dp => ?_)
  have g0 := mFr_r hs
  have hpn : (ms h).1 ≤ n := mPle hp hN
  refine tw_aload rfl rfl ?_
  refine tw_getS rfl (hi_111_33 hs) ?_
  refine tw_push rfl ?_
  refine tw_ic_ne rfl (fun q684 => ?_) (fun q684 => ?_)
  · try dsimp only [tvI_i, tvJ_j, tvR_r] at q684
    have q684i := zneq (Y := 80) (by decide) q684
    refine tw_aload rfl rfl ?_
    refine tw_dup rfl ?_
    refine tw_getS rfl (hi_111_33 hs) ?_
    refine tw_push rfl ?_
    refine tw_iadd rfl ?_
    refine tw_put rfl (fun f685 => ?_)
    refine tG_setm f685 (hw_111_33 f685 (g0).1) (fun hf685 ef685 => ?_)
    try dsimp only [tvI_i] at ef685
    have gf685 := mFr_s g0 ef685 (by unfold mFs; omega)
    obtain ⟨pf685, sf685, tf685⟩ := mCnt hp (mn80 hp q684) ef685
    exact tw_vret rfl ⟨rfl, gf685, Or.inl ⟨mn80 hp q684, pf685, sf685, tf685, mI_o ef685 (by decide)⟩, mI_o ef685 (by decide), mI_o ef685 (by decide)⟩
  · try dsimp only [tvI_i, tvJ_j, tvR_r] at q684
    have q684i := zeqi (Y := 80) (by decide) q684
    refine tw_aload rfl rfl ?_
    refine tw_push rfl ?_
    refine tw_iload rfl rfl ?_
    refine tw_virt2 rfl (g_fails hG hX (g0).1 hp ((mFr_T g0).trans hT) ((mFr_n g0).trans hN) (w := 3) (b := b) rfl (by decide) hb hb4) (fun wp686 hp686 p686 => ?_)
    obtain ⟨rfl, gp686, Fp686, ip686, jp686⟩ := p686
    have ggp686 := mFr_t g0 gp686
    refine tw_aload rfl rfl ?_
    refine tw_dup rfl ?_
    refine tw_getS rfl (hi_111_33 ggp686.1) ?_
    refine tw_push rfl ?_
    refine tw_iadd rfl ?_
    refine tw_put rfl (fun f687 => ?_)
    refine tG_setm f687 (hw_111_33 f687 (ggp686).1) (fun hf687 ef687 => ?_)
    try dsimp only [tvI_i] at ef687
    have gf687 := mFr_s ggp686 ef687 (by unfold mFs; omega)
    have zf687 := mFt_s Fp686 ef687 (by decide)
    exact tw_vret rfl ⟨rfl, gf687, Or.inr ⟨m80 hp q684, zf687⟩, (mI_o ef687 (by decide)).trans ip686, (mI_o ef687 (by decide)).trans jp686⟩
theorem z_counts {G : zG} (hG : G.1 = zProg) (hX : G.2.1 = ztx) {h : zH} {T : Nat → Int32} {n : Nat} (hs : tSh h) {ef : Nat} (hp : mFt h ef) (hT : tA h 132 = T) (hN : mn h = n) {a : Int32} : tC zTt G 207 [.ref 111, .int a] h (fun w h2 => w = none ∧ mFr h h2 ∧ mFt h2 ef ∧ tF h2 111 28 = tF h 111 28 ∧ tF h2 111 27 = tF h 111 27) := by
  refine tC_in (by rw [hG]; rfl) (fun dp => ?_)
  have g0 := mFr_r hs
  refine tw_aload rfl rfl ?_
  refine tw_getS rfl (hi_111_33 hs) ?_
  refine tw_push rfl ?_
  refine tw_ic_ne rfl (fun q688 => ?_) (fun q688 => ?_)
  · try dsimp only [tvI_i, tvJ_j, tvR_r] at q688
    have q688i := zneq (Y := 80) (by decide) q688
    refine tw_aload rfl rfl ?_
    refine tw_dup rfl ?_
    refine tw_getS rfl (hi_111_33 hs) ?_
    refine tw_push rfl ?_
    refine tw_iadd rfl ?_
    refine tw_put rfl (fun f689 => ?_)
    refine tG_setm f689 (hw_111_33 f689 (g0).1) (fun hf689 ef689 => ?_)
    try dsimp only [tvI_i] at ef689
    have gf689 := mFr_s g0 ef689 (by unfold mFs; omega)
    have zf689 := mFt_s hp ef689 (by decide)
    exact tw_vret rfl ⟨rfl, gf689, zf689, mI_o ef689 (by decide), mI_o ef689 (by decide)⟩
  · try dsimp only [tvI_i, tvJ_j, tvR_r] at q688
    have q688i := zeqi (Y := 80) (by decide) q688
    refine tw_aload rfl rfl ?_
    refine tw_push rfl ?_
    refine tw_iload rfl rfl ?_
    refine tw_virt2 rfl (z_fails hG hX (g0).1 hp ((mFr_T g0).trans hT) ((mFr_n g0).trans hN)) (fun wp690 hp690 p690 => ?_)
    obtain ⟨rfl, gp690, Fp690, ip690, jp690⟩ := p690
    have ggp690 := mFr_t g0 gp690
    refine tw_aload rfl rfl ?_
    refine tw_dup rfl ?_
    refine tw_getS rfl (hi_111_33 ggp690.1) ?_
    refine tw_push rfl ?_
    refine tw_iadd rfl ?_
    refine tw_put rfl (fun f691 => ?_)
    refine tG_setm f691 (hw_111_33 f691 (ggp690).1) (fun hf691 ef691 => ?_)
    try dsimp only [tvI_i] at ef691
    have gf691 := mFr_s ggp690 ef691 (by unfold mFs; omega)
    have zf691 := mFt_s Fp690 ef691 (by decide)
    exact tw_vret rfl ⟨rfl, gf691, zf691, (mI_o ef691 (by decide)).trans ip690, (mI_o ef691 (by decide)).trans jp690⟩
theorem g_opens {G : zG} (hG : G.1 = zProg) (hX : G.2.1 = ztx) {h : zH} {T : Nat → Int32} {n : Nat} (hs : tSh h) (hp : mP h) (hT : tA h 132 = T) (hN : mn h = n) {x : Int32} (hx0 : 0 ≤ x.toInt) : tC zTt G 208 [.ref 111, .int x] h (fun w h2 => w = none ∧ mFr h h2 ∧ mP h2 ∧ mSk h2 = x.toNatClampNeg :: mSk h ∧ ms h2 = ms h ∧ tF h2 111 32 = tF h 111 32) := by
  refine tC_in (by rw [hG]; rfl) (fun dp => ?_)
  have g0 := mFr_r hs
  have hpn : (ms h).1 ≤ n := mPle hp hN
  refine tw_aload rfl rfl ?_
  refine tw_getS rfl (hs_111_45 hs) ?_
  refine tw_aload rfl rfl ?_
  refine tw_getS rfl (hi_111_34 hs) ?_
  refine tw_iload rfl rfl ?_
  refine tw_iast rfl (fun f692 => ?_)
  refine tw_aload rfl rfl ?_
  refine tw_dup rfl ?_
  refine tw_getS rfl (tF_a (hi_111_34 hs)) ?_
  refine tw_push rfl ?_
  refine tw_iadd rfl ?_
  refine tw_put rfl (fun f693 => ?_)
  have K := mPush (x := x) hs hp hx0 f692 f693
  exact tw_vret rfl ⟨rfl, K.1, K.2.1, K.2.2.1, K.2.2.2.1, K.2.2.2.2⟩
theorem mPushz {h : zH} {x : Int32} {kd ef : Nat} (hs : tSh h) (z : mFt h ef) (hf : tIn h 142 kd (tvI (tF h 111 34))) (hf2 : tFd (tSA h 142 (tvI (tF h 111 34)).toNatClampNeg x) 111 34) : mFr h (tSF (tSA h 142 (tvI (tF h 111 34)).toNatClampNeg x) 111 34 (.int (tvI (tF h 111 34) + 1))) ∧ mFt (tSF (tSA h 142 (tvI (tF h 111 34)).toNatClampNeg x) 111 34 (.int (tvI (tF h 111 34) + 1))) ef ∧ tF (tSF (tSA h 142 (tvI (tF h 111 34)).toNatClampNeg x) 111 34 (.int (tvI (tF h 111 34) + 1))) 111 28 = tF h 111 28 ∧ tF (tSF (tSA h 142 (tvI (tF h 111 34)).toNatClampNeg x) 111 34 (.int (tvI (tF h 111 34) + 1))) 111 27 = tF h 111 27 := by
  have hw := hw_111_34 (x := tvI (tF h 111 34) + 1) hf2 (tSh_SA hs)
  have e := mSet_of hf2 hw
  generalize tSF (tSA h 142 (tvI (tF h 111 34)).toNatClampNeg x) 111 34 (.int (tvI (tF h 111 34) + 1)) = h3 at e
  have hF : ∀ b, b ≠ 34 → tF h3 111 b = tF h 111 b := fun b hb => (mI_o e hb).trans (by rw [tF_tSA])
  refine ⟨⟨e.1, fun p q z => (e.2.2.1 p q (fun w => z ⟨w.1, by unfold mFs; omega⟩)).trans (by rw [tF_tSA]), fun p _ _ y => (congrFun e.2.2.2.1 p).trans (tA_nz y), e.2.2.2.2.trans (tN_tSA _ _ _ _), mLo_p ((congrFun e.2.2.2.1 133).trans (tA_nz (by decide))) ((congrFun e.2.2.2.1 134).trans (tA_nz (by decide)))⟩, ⟨(hF 29 (by decide)).trans z.1, z.2⟩, hF 28 (by decide), hF 27 (by decide)⟩
theorem z_opens {G : zG} (hG : G.1 = zProg) (hX : G.2.1 = ztx) {h : zH} {T : Nat → Int32} {n : Nat} (hs : tSh h) {ef : Nat} (hp : mFt h ef) (hT : tA h 132 = T) (hN : mn h = n) {x : Int32} : tC zTt G 208 [.ref 111, .int x] h (fun w h2 => w = none ∧ mFr h h2 ∧ mFt h2 ef ∧ tF h2 111 28 = tF h 111 28 ∧ tF h2 111 27 = tF h 111 27) := by
  refine tC_in (by rw [hG]; rfl) (fun dp => ?_)
  have g0 := mFr_r hs
  refine tw_aload rfl rfl ?_
  refine tw_getS rfl (hs_111_45 hs) ?_
  refine tw_aload rfl rfl ?_
  refine tw_getS rfl (hi_111_34 hs) ?_
  refine tw_iload rfl rfl ?_
  refine tw_iast rfl (fun f694 => ?_)
  refine tw_aload rfl rfl ?_
  refine tw_dup rfl ?_
  refine tw_getS rfl (tF_a (hi_111_34 hs)) ?_
  refine tw_push rfl ?_
  refine tw_iadd rfl ?_
  refine tw_put rfl (fun f695 => ?_)
  have K := mPushz (x := x) hs hp f694 f695
  exact tw_vret rfl ⟨rfl, K.1, K.2.1, K.2.2.1, K.2.2.2⟩
theorem mD10 {h : zH} (d : mD h) : tvI (tF h 111 32) = 10 ↔ mDp (mSk h) = 10 := by
  have d : (tvI (tF h 111 32)).toInt = (mDp (mSk h) : Int) := d
  have e : (10 : Int32).toInt = 10 := rfl
  constructor
  · intro z
    rw [z] at d
    omega
  · intro z
    refine Int32.toInt_inj.mp ?_
    omega
theorem mDp_c {c : Nat} {S : List Nat} (h : c = 50 ∨ c = 10 ∨ c = 13) : mDp (c :: S) = mDp S + 1 := if_pos h
theorem mDp_e {c : Nat} {S : List Nat} (h : ¬ (c = 50 ∨ c = 10 ∨ c = 13)) : mDp (c :: S) = mDp S := if_neg h
theorem g_opensDeep {G : zG} (hG : G.1 = zProg) (hX : G.2.1 = ztx) {h : zH} {T : Nat → Int32} {n : Nat} (hs : tSh h) (hp : mP h) (hT : tA h 132 = T) (hN : mn h = n) {x a : Int32} {b : Nat} (hx0 : 0 ≤ x.toInt) (hx : x.toNatClampNeg = 50 ∨ x.toNatClampNeg = 10 ∨ x.toNatClampNeg = 13) (hb : a.toInt = b) (hb4 : b ≤ 400) (hD : mD h) (hd10 : mDp (mSk h) ≤ 1000) : tC zTt G 209 [.ref 111, .int x, .int a] h (fun w h2 => w = none ∧ mFr h h2 ∧ ((mDp (mSk h) ≠ 10 ∧ mP h2 ∧ mSk h2 = x.toNatClampNeg :: mSk h ∧ ms h2 = ms h ∧ mD h2) ∨ (mDp (mSk h) = 10 ∧ mFt h2 (1 + 8 * b + 2) ∧ tF h2 111 28 = tF h 111 28 ∧ tF h2 111 27 = tF h 111 27))) := by
  refine tC_in (by rw [hG]; rfl) (fun dp => ?_)
  have g0 := mFr_r hs
  have hpn : (ms h).1 ≤ n := mPle hp hN
  refine tw_aload rfl rfl ?_
  refine tw_getS rfl (hi_111_32 hs) ?_
  refine tw_push rfl ?_
  refine tw_ic_ne rfl (fun q696 => ?_) (fun q696 => ?_)
  · try dsimp only [tvI_i, tvJ_j, tvR_r] at q696
    have q696i := zneq (Y := 10) (by decide) q696
    refine tw_aload rfl rfl ?_
    refine tw_dup rfl ?_
    refine tw_getS rfl (hi_111_32 hs) ?_
    refine tw_push rfl ?_
    refine tw_iadd rfl ?_
    refine tw_put rfl (fun f697 => ?_)
    refine tG_setm f697 (hw_111_32 f697 (g0).1) (fun hf697 ef697 => ?_)
    try dsimp only [tvI_i] at ef697
    have gf697 := mFr_s g0 ef697 (by unfold mFs; omega)
    obtain ⟨pf697, tf697, sf697, df697⟩ := mUp hp ef697 hD hd10
    refine tw_aload rfl rfl ?_
    refine tw_iload rfl rfl ?_
    refine tw_virt1 rfl (g_opens hG hX (gf697).1 pf697 ((mFr_T gf697).trans hT) ((mFr_n gf697).trans hN) hx0) (fun wp698 hp698 p698 => ?_)
    obtain ⟨rfl, gp698, pp698e, tp698, sp698, dp698⟩ := p698
    have ggp698 := mFr_t gf697 gp698
    have hne : mDp (mSk h) ≠ 10 := fun z => q696 ((mD10 hD).mpr z)
    exact tw_vret rfl ⟨rfl, ggp698, Or.inl ⟨hne, pp698e, by rw [tp698, tf697], sp698.trans sf697, by unfold mD; rw [dp698, tp698, tf697, mDp_c hx]; exact df697⟩⟩
  · try dsimp only [tvI_i, tvJ_j, tvR_r] at q696
    have q696i := zeqi (Y := 10) (by decide) q696
    refine tw_aload rfl rfl ?_
    refine tw_push rfl ?_
    refine tw_iload rfl rfl ?_
    refine tw_virt2 rfl (g_fails hG hX (g0).1 hp ((mFr_T g0).trans hT) ((mFr_n g0).trans hN) (w := 2) (b := b) rfl (by decide) hb hb4) (fun wp699 hp699 p699 => ?_)
    obtain ⟨rfl, gp699, Fp699, ip699, jp699⟩ := p699
    have ggp699 := mFr_t g0 gp699
    refine tw_aload rfl rfl ?_
    refine tw_dup rfl ?_
    refine tw_getS rfl (hi_111_32 ggp699.1) ?_
    refine tw_push rfl ?_
    refine tw_iadd rfl ?_
    refine tw_put rfl (fun f700 => ?_)
    refine tG_setm f700 (hw_111_32 f700 (ggp699).1) (fun hf700 ef700 => ?_)
    try dsimp only [tvI_i] at ef700
    have gf700 := mFr_s ggp699 ef700 (by unfold mFs; omega)
    have zf700 := mFt_s Fp699 ef700 (by decide)
    refine tw_aload rfl rfl ?_
    refine tw_iload rfl rfl ?_
    refine tw_virt1 rfl (z_opens hG hX (gf700).1 zf700 ((mFr_T gf700).trans hT) ((mFr_n gf700).trans hN)) (fun wp701 hp701 p701 => ?_)
    obtain ⟨rfl, gp701, Fp701, ip701, jp701⟩ := p701
    have ggp701 := mFr_t gf700 gp701
    exact tw_vret rfl ⟨rfl, ggp701, Or.inr ⟨(mD10 hD).mp q696, Fp701, ip701.trans ((mI_o ef700 (by decide)).trans ip699), jp701.trans ((mI_o ef700 (by decide)).trans jp699)⟩⟩
noncomputable def tpm (S : List Nat) (c : Int32) : Prop := (S = [] ∧ c = -1) ∨ (S ≠ [] ∧ c.toInt = ((S.headD 0 : Nat) : Int))
theorem tpm_k {S : List Nat} {c : Int32} (t : tpm S c) {k : Int32} {K : Nat} (hk : k.toInt = K) (h0 : 0 < K) : c = k ↔ S.headD 0 = K := by
  rcases t with ⟨rfl, rfl⟩ | ⟨h, e⟩
  · have : ((-1 : Int32)).toInt = -1 := by decide
    exact ⟨fun z => by rw [← z] at hk; omega, fun z => by have z : 0 = K := z; omega⟩
  · exact ⟨fun z => by rw [z] at e; omega, fun z => Int32.toInt_inj.mp (by omega)⟩
theorem tpm_i {S : List Nat} {c : Int32} (t : tpm S c) (hc : 0 ≤ c.toInt) : S ≠ [] ∧ c.toInt = ((S.headD 0 : Nat) : Int) := by
  rcases t with ⟨rfl, rfl⟩ | t
  · exact absurd hc (by decide)
  · exact t
theorem tpm_e {S : List Nat} {c : Int32} (t : tpm S c) : c.toInt = ((S.headD 0 : Nat) : Int) ∨ (S.headD 0 = 0 ∧ c.toInt = -1) := by
  rcases t with ⟨rfl, rfl⟩ | t
  · exact Or.inr ⟨rfl, by decide⟩
  · exact Or.inl t.2
theorem g_top {G : zG} (hG : G.1 = zProg) (hX : G.2.1 = ztx) {h : zH} {T : Nat → Int32} {n : Nat} (hs : tSh h) (hp : mP h) (hT : tA h 132 = T) (hN : mn h = n)  : tC zTt G 210 [.ref 111] h (fun w h2 => (∃ c, w = some (.int c) ∧ tpm (mSk h) c) ∧ h = h2) := by
  refine tC_in (by rw [hG]; rfl) (fun dp => ?_)
  have g0 := mFr_r hs
  have hpn : (ms h).1 ≤ n := mPle hp hN
  refine tw_aload rfl rfl ?_
  refine tw_getS rfl (hi_111_34 hs) ?_
  refine tw_if_ne rfl (fun q702 => ?_) (fun q702 => ?_)
  · try dsimp only [tvI_i, tvJ_j, tvR_r] at q702
    have q702i := zneq (Y := 0) (by decide) q702
    refine tw_aload rfl rfl ?_
    refine tw_getS rfl (hs_111_45 hs) ?_
    refine tw_aload rfl rfl ?_
    refine tw_getS rfl (hi_111_34 hs) ?_
    refine tw_push rfl ?_
    refine tw_isub rfl ?_
    refine tw_iald rfl (fun f703 => ?_)
    have hk : 0 < (tvI (tF h 111 34)).toNatClampNeg := by rw [zclE]; have := hp.2.2.2.2.1; omega
    have e2 : (tvI (tF h 111 34) - 1).toNatClampNeg = (tvI (tF h 111 34)).toNatClampNeg - 1 := by rw [zclE, zclE, zsub1 hp.2.2.2.2.1]; omega
    refine tw_iret rfl ⟨⟨_, rfl, Or.inr ?_⟩, rfl⟩
    rw [mSk_top hk]
    refine ⟨List.cons_ne_nil _ _, ?_⟩
    show (tA h 142 (tvI (tF h 111 34) - 1).toNatClampNeg).toInt = _
    have hl9 : (tvI (tF h 111 34) - 1).toNatClampNeg < tN h 142 := f703.rg.2
    rw [e2] at hl9
    rw [e2]
    exact (zclx (hp.2.2.2.2.2.2.1 _ hl9)).symm
  · try dsimp only [tvI_i, tvJ_j, tvR_r] at q702
    have q702i := zeqi (Y := 0) (by decide) q702
    refine tw_push rfl ?_
    refine tw_goto rfl ?_
    exact tw_iret rfl ⟨⟨_, rfl, Or.inl ⟨mSk_nil (by rw [q702]; rfl), rfl⟩⟩, rfl⟩
theorem rQ_at {T : Nat → Int32} : ∀ (w : List Int32) (p k : Nat), rQ T p w = true → k < w.length → T (p + k) = w.getD k 0
  | c :: w, p, 0, h, _ => by
    have h : (decide (T p = c) && rQ T (p + 1) w) = true := h
    rw [Bool.and_eq_true] at h
    exact of_decide_eq_true h.1
  | c :: w, p, k + 1, h, hk => by
    have h : (decide (T p = c) && rQ T (p + 1) w) = true := h
    rw [Bool.and_eq_true] at h
    have z := rQ_at w (p + 1) k h.2 (by rw [List.length_cons] at hk; omega)
    rw [show p + 1 + k = p + (k + 1) by omega] at z
    exact z
theorem rQ_of {T : Nat → Int32} : ∀ (w : List Int32) (p : Nat), (∀ k, k < w.length → T (p + k) = w.getD k 0) → rQ T p w = true
  | [], _, _ => rfl
  | c :: w, p, h => by
    show (decide (T p = c) && rQ T (p + 1) w) = true
    rw [Bool.and_eq_true]
    refine ⟨decide_eq_true (h 0 (by rw [List.length_cons]; omega)), rQ_of w (p + 1) (fun k hk => ?_)⟩
    have z := h (k + 1) (by rw [List.length_cons]; omega)
    rw [show p + (k + 1) = p + 1 + k by omega] at z
    exact z
theorem mPz {h : zH} (h0 : 0 ≤ (tvI (tF h 111 28)).toInt) : (tvI (tF h 111 28)).toInt = ((ms h).1 : Int) := by
  show _ = ((tvI (tF h 111 28)).toNatClampNeg : Int)
  rw [zclE]
  omega
theorem mNz {h : zH} {n : Nat} (h0 : 0 ≤ (tvI (tF h 111 27)).toInt) (hN : mn h = n) : (tvI (tF h 111 27)).toInt = (n : Int) := by
  rw [← hN]
  show _ = ((tvI (tF h 111 27)).toNatClampNeg : Int)
  rw [zclE]
  omega
theorem zadN {x y : Int32} {a b : Nat} (hx : x.toInt = a) (hy : y.toInt = b) (ha : a ≤ 100000) (hb : b ≤ 100000) : (x + y).toInt = ((a + b : Nat) : Int) := by
  rw [Int32.toInt_add, hx, hy]
  exact (Int.bmod_eq_of_le (by show (-2147483648 : Int) ≤ (a : Int) + b; omega) (by show (a : Int) + b < (2147483648 : Int); omega)).trans (by omega)
theorem g_stands {G : zG} (hG : G.1 = zProg) (hX : G.2.1 = ztx) {h : zH} {T : Nat → Int32} {n : Nat} (hs : tSh h) (hT : tA h 132 = T) (hN : mn h = n) {q : Nat} (hq1 : (ztx q).length ≤ 200) (h0 : 0 ≤ (tvI (tF h 111 28)).toInt ∧ 0 ≤ (tvI (tF h 111 27)).toInt) (h4 : (tvI (tF h 111 28)).toInt ≤ 1000 ∧ (tvI (tF h 111 27)).toInt ≤ 400) : tC zTt G 205 [.ref 111, .retAddr q] h (fun w h2 => tBo (rW T n (ms h).1 (ztx q) = true) w ∧ h = h2) := by
  refine tC_in (by rw [hG]; rfl) (fun dp => ?_)
  have g0 := mFr_r hs
  have c979 : (97 : Int32).toInt = 97 := rfl
  have c1229 : (122 : Int32).toInt = 122 := rfl
  have hn4 := mNz h0.2 hN
  have hp4 := mPz h0.1
  refine tw_aload rfl rfl ?_
  refine tw_getS rfl (hi_111_28 hs) ?_
  refine tw_istore rfl ?_
  refine tG_loop (zW_mono zTt G dp) (zW_conj zTt G dp) (V := fun pc L st h9 _ _ => pc = 5 ∧ st = [] ∧ h = h9 ∧ ∃ (k : Nat) (x : Int32) (l3 l4 : Option Value), x.toInt = (((ms h).1 + k : Nat) : Int) ∧ rE T n ((ms h).1 + k) = rE T n (ms h).1 ∧ (ms h).1 + k ≤ 1400 ∧ L = [some (.ref 111), some (.retAddr q), some (.int x), l3, l4]) ?_ (⟨rfl, rfl, rfl, 0, _, _, _, mPz h0.1, rfl, by have := mPz h0.1; omega, rfl⟩)
  rintro _ _ _ _ _ _ ⟨rfl, rfl, rfl, k, x, l3, l4, hx, he, hk14, rfl⟩
  refine tw_iload rfl rfl ?_
  refine tw_aload rfl rfl ?_
  refine tw_getS rfl (hi_111_27 hs) ?_
  refine tw_ic_ge rfl (fun q704 => ?_) (fun q704 => ?_)
  · try dsimp only [tvI_i, tvJ_j, tvR_r] at q704
    refine tw_iload rfl rfl ?_
    refine tw_aload rfl rfl ?_
    refine tw_getS rfl (hi_111_28 hs) ?_
    refine tw_isub rfl ?_
    refine tw_aload rfl rfl ?_
    refine tw_tlen rfl ?_
    refine tw_ic_ne rfl (fun q705 => ?_) (fun q705 => ?_)
    · try dsimp only [tvI_i, tvJ_j, tvR_r] at q705
      have q705i := zneq rfl q705
      refine tw_push rfl ?_
      refine tw_istore rfl ?_
      refine tw_push rfl ?_
      refine tw_istore rfl ?_
      have hix : x.toNatClampNeg = (ms h).1 + k := zof_cl hx
      have hTx : tA h 132 x.toNatClampNeg = T ((ms h).1 + k) := by rw [hix, hT]
      have hnd : ¬ ((ms h).1 + k < n ∧ 97 ≤ (T ((ms h).1 + k)).toInt ∧ (T ((ms h).1 + k)).toInt ≤ 122) := by
        have z0 := q704
        try rw [hTx] at z1
        try rw [hTx] at z2
        omega
      have hE9 : rE T n (ms h).1 = (ms h).1 + k := he.symm.trans (rE_n hnd)
      have hsb : (x - tvI (tF h 111 28)).toInt = ((((ms h).1 + k : Nat) : Int)) - (((ms h).1 : Nat) : Int) := zsb hx (mPz h0.1) (by omega) (by omega)
      have hLn : (Int32.ofNat (G.2.1 q).length).toInt = ((ztx q).length : Int) := by rw [hX]; exact zofI (by omega)
      have hEL : x - tvI (tF h 111 28) = Int32.ofNat (G.2.1 q).length ↔ rE T n (ms h).1 = (ms h).1 + (ztx q).length := ⟨fun z => by rw [z, hLn] at hsb; omega, fun z => Int32.toInt_inj.mp (by rw [hsb, hLn]; omega)⟩
      refine tG_loop (zW_mono zTt G dp) (zW_conj zTt G dp) (V := fun pc L st h9 _ _ => pc = 63 ∧ st = [] ∧ h = h9 ∧ ∃ (j : Nat) (y is : Int32), y.toInt = j ∧ j ≤ (ztx q).length ∧ ((is = 1 ∧ rE T n (ms h).1 = (ms h).1 + (ztx q).length ∧ ∀ i, i < j → T ((ms h).1 + i) = (ztx q).getD i 0) ∨ (is = 0 ∧ ¬ rW T n (ms h).1 (ztx q) = true)) ∧ L = [some (.ref 111), some (.retAddr q), some (.int x), some (.int is), some (.int y)]) ?_ (⟨rfl, rfl, rfl, 0, 0, _, rfl, Nat.zero_le _, Or.inr ⟨rfl, fun z => q705 (hEL.mpr (rW_e z))⟩, rfl⟩)
      rintro _ _ _ _ _ _ ⟨rfl, rfl, rfl, j, y, is, hy, hjn, his, rfl⟩
      refine tw_iload rfl rfl ?_
      refine tw_aload rfl rfl ?_
      refine tw_tlen rfl ?_
      refine tw_ic_ge rfl (fun q706 => ?_) (fun q706 => ?_)
      · try dsimp only [tvI_i, tvJ_j, tvR_r] at q706
        refine tw_iload rfl rfl ?_
        have hlen : (Int32.ofNat (G.2.1 q).length).toInt = ((ztx q).length : Int) := by rw [hX]; exact zofI (by omega)
        have hj : j = (ztx q).length := by have z := q706; omega
        rcases his with ⟨e1, e2, e3⟩ | ⟨e1, e2⟩
        · exact tw_iret rfl ⟨Or.inl ⟨rW_i.mpr ⟨e2, rQ_of _ _ (fun k hk => e3 k (by omega))⟩, congrArg (fun z => some (Value.int z)) e1⟩, rfl⟩
        · exact tw_iret rfl ⟨Or.inr ⟨e2, congrArg (fun z => some (Value.int z)) e1⟩, rfl⟩
      · try dsimp only [tvI_i, tvJ_j, tvR_r] at q706
        refine tw_iload rfl rfl ?_
        refine tw_if_eq rfl (fun q707 => ?_) (fun q707 => ?_)
        · try dsimp only [tvI_i, tvJ_j, tvR_r] at q707
          have q707i := zeqi (Y := 0) (by decide) q707
          refine tw_iload rfl rfl ?_
          have hlen : (Int32.ofNat (G.2.1 q).length).toInt = ((ztx q).length : Int) := by rw [hX]; exact zofI (by omega)
          rcases his with ⟨e1, -, -⟩ | ⟨e1, e2⟩
          · exact absurd (e1.symm.trans q707) (by decide)
          · exact tw_iret rfl ⟨Or.inr ⟨e2, congrArg (fun z => some (Value.int z)) e1⟩, rfl⟩
        · try dsimp only [tvI_i, tvJ_j, tvR_r] at q707
          have q707i := zneq (Y := 0) (by decide) q707
          refine tw_aload rfl rfl ?_
          refine tw_getS rfl (hs_111_35 hs) ?_
          refine tw_aload rfl rfl ?_
          refine tw_getS rfl (hi_111_28 hs) ?_
          refine tw_iload rfl rfl ?_
          refine tw_iadd rfl ?_
          refine tw_bald rfl (fun f708 => ?_)
          refine tw_aload rfl rfl ?_
          refine tw_iload rfl rfl ?_
          refine tw_chr rfl (fun _ => ?_)
          refine tw_ic_ne rfl (fun q709 => ?_) (fun q709 => ?_)
          · try dsimp only [tvI_i, tvJ_j, tvR_r] at q709
            have q709i := zneq rfl q709
            refine tw_push rfl ?_
            refine tw_istore rfl ?_
            refine tw_iinc rfl rfl ?_
            refine tw_goto rfl ?_
            have hlen : (Int32.ofNat (G.2.1 q).length).toInt = ((ztx q).length : Int) := by rw [hX]; exact zofI (by omega)
            have hjl : j < (ztx q).length := by have z := q706; omega
            rcases his with ⟨e1, e2, e3⟩ | ⟨e1, -⟩
            rotate_left
            · exact absurd e1 q707
            have hpy : (tvI (tF h 111 28) + y).toNatClampNeg = (ms h).1 + j := zof_cl (zadN (mPz h0.1) hy (by omega) (by omega))
            have hTy : tA h 132 (tvI (tF h 111 28) + y).toNatClampNeg = T ((ms h).1 + j) := by rw [hpy, hT]
            have ec : (G.2.1 q).getD y.toNatClampNeg 0 = (ztx q).getD j 0 := by rw [hX, zof_cl hy]
            have hc : ¬ T ((ms h).1 + j) = (ztx q).getD j 0 := fun z => q709 (hTy.trans (z.trans ec.symm))
            exact tG_cut (zW_mono zTt G dp) (Or.inr ⟨rfl, rfl, rfl, j + 1, y + 1, _, zincN hy (by omega), by omega, Or.inr ⟨rfl, fun z => hc (rQ_at _ _ _ (rW_i.mp z).2 hjl)⟩, rfl⟩)
          · try dsimp only [tvI_i, tvJ_j, tvR_r] at q709
            have q709i := zeqi rfl q709
            refine tw_push rfl ?_
            refine tw_goto rfl ?_
            refine tw_istore rfl ?_
            refine tw_iinc rfl rfl ?_
            refine tw_goto rfl ?_
            have hlen : (Int32.ofNat (G.2.1 q).length).toInt = ((ztx q).length : Int) := by rw [hX]; exact zofI (by omega)
            have hjl : j < (ztx q).length := by have z := q706; omega
            rcases his with ⟨e1, e2, e3⟩ | ⟨e1, -⟩
            rotate_left
            · exact absurd e1 q707
            have hpy : (tvI (tF h 111 28) + y).toNatClampNeg = (ms h).1 + j := zof_cl (zadN (mPz h0.1) hy (by omega) (by omega))
            have hTy : tA h 132 (tvI (tF h 111 28) + y).toNatClampNeg = T ((ms h).1 + j) := by rw [hpy, hT]
            have ec : (G.2.1 q).getD y.toNatClampNeg 0 = (ztx q).getD j 0 := by rw [hX, zof_cl hy]
            have hc : T ((ms h).1 + j) = (ztx q).getD j 0 := hTy.symm.trans (q709.trans ec)
            exact tG_cut (zW_mono zTt G dp) (Or.inr ⟨rfl, rfl, rfl, j + 1, y + 1, _, zincN hy (by omega), by omega, Or.inl ⟨rfl, e2, fun i hi => (Classical.em (i = j)).elim (fun z => by rw [z]; exact hc) (fun z => e3 i (by omega))⟩, rfl⟩)
    · try dsimp only [tvI_i, tvJ_j, tvR_r] at q705
      have q705i := zeqi rfl q705
      refine tw_push rfl ?_
      refine tw_goto rfl ?_
      refine tw_istore rfl ?_
      refine tw_push rfl ?_
      refine tw_istore rfl ?_
      have hix : x.toNatClampNeg = (ms h).1 + k := zof_cl hx
      have hTx : tA h 132 x.toNatClampNeg = T ((ms h).1 + k) := by rw [hix, hT]
      have hnd : ¬ ((ms h).1 + k < n ∧ 97 ≤ (T ((ms h).1 + k)).toInt ∧ (T ((ms h).1 + k)).toInt ≤ 122) := by
        have z0 := q704
        try rw [hTx] at z1
        try rw [hTx] at z2
        omega
      have hE9 : rE T n (ms h).1 = (ms h).1 + k := he.symm.trans (rE_n hnd)
      have hsb : (x - tvI (tF h 111 28)).toInt = ((((ms h).1 + k : Nat) : Int)) - (((ms h).1 : Nat) : Int) := zsb hx (mPz h0.1) (by omega) (by omega)
      have hLn : (Int32.ofNat (G.2.1 q).length).toInt = ((ztx q).length : Int) := by rw [hX]; exact zofI (by omega)
      have hEL : x - tvI (tF h 111 28) = Int32.ofNat (G.2.1 q).length ↔ rE T n (ms h).1 = (ms h).1 + (ztx q).length := ⟨fun z => by rw [z, hLn] at hsb; omega, fun z => Int32.toInt_inj.mp (by rw [hsb, hLn]; omega)⟩
      refine tG_loop (zW_mono zTt G dp) (zW_conj zTt G dp) (V := fun pc L st h9 _ _ => pc = 63 ∧ st = [] ∧ h = h9 ∧ ∃ (j : Nat) (y is : Int32), y.toInt = j ∧ j ≤ (ztx q).length ∧ ((is = 1 ∧ rE T n (ms h).1 = (ms h).1 + (ztx q).length ∧ ∀ i, i < j → T ((ms h).1 + i) = (ztx q).getD i 0) ∨ (is = 0 ∧ ¬ rW T n (ms h).1 (ztx q) = true)) ∧ L = [some (.ref 111), some (.retAddr q), some (.int x), some (.int is), some (.int y)]) ?_ (⟨rfl, rfl, rfl, 0, 0, _, rfl, Nat.zero_le _, Or.inl ⟨rfl, hEL.mp q705, fun i hi => by omega⟩, rfl⟩)
      rintro _ _ _ _ _ _ ⟨rfl, rfl, rfl, j, y, is, hy, hjn, his, rfl⟩
      refine tw_iload rfl rfl ?_
      refine tw_aload rfl rfl ?_
      refine tw_tlen rfl ?_
      refine tw_ic_ge rfl (fun q710 => ?_) (fun q710 => ?_)
      · try dsimp only [tvI_i, tvJ_j, tvR_r] at q710
        refine tw_iload rfl rfl ?_
        have hlen : (Int32.ofNat (G.2.1 q).length).toInt = ((ztx q).length : Int) := by rw [hX]; exact zofI (by omega)
        have hj : j = (ztx q).length := by have z := q710; omega
        rcases his with ⟨e1, e2, e3⟩ | ⟨e1, e2⟩
        · exact tw_iret rfl ⟨Or.inl ⟨rW_i.mpr ⟨e2, rQ_of _ _ (fun k hk => e3 k (by omega))⟩, congrArg (fun z => some (Value.int z)) e1⟩, rfl⟩
        · exact tw_iret rfl ⟨Or.inr ⟨e2, congrArg (fun z => some (Value.int z)) e1⟩, rfl⟩
      · try dsimp only [tvI_i, tvJ_j, tvR_r] at q710
        refine tw_iload rfl rfl ?_
        refine tw_if_eq rfl (fun q711 => ?_) (fun q711 => ?_)
        · try dsimp only [tvI_i, tvJ_j, tvR_r] at q711
          have q711i := zeqi (Y := 0) (by decide) q711
          refine tw_iload rfl rfl ?_
          have hlen : (Int32.ofNat (G.2.1 q).length).toInt = ((ztx q).length : Int) := by rw [hX]; exact zofI (by omega)
          rcases his with ⟨e1, -, -⟩ | ⟨e1, e2⟩
          · exact absurd (e1.symm.trans q711) (by decide)
          · exact tw_iret rfl ⟨Or.inr ⟨e2, congrArg (fun z => some (Value.int z)) e1⟩, rfl⟩
        · try dsimp only [tvI_i, tvJ_j, tvR_r] at q711
          have q711i := zneq (Y := 0) (by decide) q711
          refine tw_aload rfl rfl ?_
          refine tw_getS rfl (hs_111_35 hs) ?_
          refine tw_aload rfl rfl ?_
          refine tw_getS rfl (hi_111_28 hs) ?_
          refine tw_iload rfl rfl ?_
          refine tw_iadd rfl ?_
          refine tw_bald rfl (fun f712 => ?_)
          refine tw_aload rfl rfl ?_
          refine tw_iload rfl rfl ?_
          refine tw_chr rfl (fun _ => ?_)
          refine tw_ic_ne rfl (fun q713 => ?_) (fun q713 => ?_)
          · try dsimp only [tvI_i, tvJ_j, tvR_r] at q713
            have q713i := zneq rfl q713
            refine tw_push rfl ?_
            refine tw_istore rfl ?_
            refine tw_iinc rfl rfl ?_
            refine tw_goto rfl ?_
            have hlen : (Int32.ofNat (G.2.1 q).length).toInt = ((ztx q).length : Int) := by rw [hX]; exact zofI (by omega)
            have hjl : j < (ztx q).length := by have z := q710; omega
            rcases his with ⟨e1, e2, e3⟩ | ⟨e1, -⟩
            rotate_left
            · exact absurd e1 q711
            have hpy : (tvI (tF h 111 28) + y).toNatClampNeg = (ms h).1 + j := zof_cl (zadN (mPz h0.1) hy (by omega) (by omega))
            have hTy : tA h 132 (tvI (tF h 111 28) + y).toNatClampNeg = T ((ms h).1 + j) := by rw [hpy, hT]
            have ec : (G.2.1 q).getD y.toNatClampNeg 0 = (ztx q).getD j 0 := by rw [hX, zof_cl hy]
            have hc : ¬ T ((ms h).1 + j) = (ztx q).getD j 0 := fun z => q713 (hTy.trans (z.trans ec.symm))
            exact tG_cut (zW_mono zTt G dp) (Or.inr ⟨rfl, rfl, rfl, j + 1, y + 1, _, zincN hy (by omega), by omega, Or.inr ⟨rfl, fun z => hc (rQ_at _ _ _ (rW_i.mp z).2 hjl)⟩, rfl⟩)
          · try dsimp only [tvI_i, tvJ_j, tvR_r] at q713
            have q713i := zeqi rfl q713
            refine tw_push rfl ?_
            refine tw_goto rfl ?_
            refine tw_istore rfl ?_
            refine tw_iinc rfl rfl ?_
            refine tw_goto rfl ?_
            have hlen : (Int32.ofNat (G.2.1 q).length).toInt = ((ztx q).length : Int) := by rw [hX]; exact zofI (by omega)
            have hjl : j < (ztx q).length := by have z := q710; omega
            rcases his with ⟨e1, e2, e3⟩ | ⟨e1, -⟩
            rotate_left
            · exact absurd e1 q711
            have hpy : (tvI (tF h 111 28) + y).toNatClampNeg = (ms h).1 + j := zof_cl (zadN (mPz h0.1) hy (by omega) (by omega))
            have hTy : tA h 132 (tvI (tF h 111 28) + y).toNatClampNeg = T ((ms h).1 + j) := by rw [hpy, hT]
            have ec : (G.2.1 q).getD y.toNatClampNeg 0 = (ztx q).getD j 0 := by rw [hX, zof_cl hy]
            have hc : T ((ms h).1 + j) = (ztx q).getD j 0 := hTy.symm.trans (q713.trans ec)
            exact tG_cut (zW_mono zTt G dp) (Or.inr ⟨rfl, rfl, rfl, j + 1, y + 1, _, zincN hy (by omega), by omega, Or.inl ⟨rfl, e2, fun i hi => (Classical.em (i = j)).elim (fun z => by rw [z]; exact hc) (fun z => e3 i (by omega))⟩, rfl⟩)
  · try dsimp only [tvI_i, tvJ_j, tvR_r] at q704
    refine tw_aload rfl rfl ?_
    refine tw_getS rfl (hs_111_35 hs) ?_
    refine tw_iload rfl rfl ?_
    refine tw_bald rfl (fun f714 => ?_)
    refine tw_push rfl ?_
    refine tw_ic_lt rfl (fun q715 => ?_) (fun q715 => ?_)
    · try dsimp only [tvI_i, tvJ_j, tvR_r] at q715
      refine tw_iload rfl rfl ?_
      refine tw_aload rfl rfl ?_
      refine tw_getS rfl (hi_111_28 hs) ?_
      refine tw_isub rfl ?_
      refine tw_aload rfl rfl ?_
      refine tw_tlen rfl ?_
      refine tw_ic_ne rfl (fun q716 => ?_) (fun q716 => ?_)
      · try dsimp only [tvI_i, tvJ_j, tvR_r] at q716
        have q716i := zneq rfl q716
        refine tw_push rfl ?_
        refine tw_istore rfl ?_
        refine tw_push rfl ?_
        refine tw_istore rfl ?_
        have hix : x.toNatClampNeg = (ms h).1 + k := zof_cl hx
        have hTx : tA h 132 x.toNatClampNeg = T ((ms h).1 + k) := by rw [hix, hT]
        have hnd : ¬ ((ms h).1 + k < n ∧ 97 ≤ (T ((ms h).1 + k)).toInt ∧ (T ((ms h).1 + k)).toInt ≤ 122) := by
          have z0 := q704
          have z1 := q715
          try rw [hTx] at z1
          try rw [hTx] at z2
          omega
        have hE9 : rE T n (ms h).1 = (ms h).1 + k := he.symm.trans (rE_n hnd)
        have hsb : (x - tvI (tF h 111 28)).toInt = ((((ms h).1 + k : Nat) : Int)) - (((ms h).1 : Nat) : Int) := zsb hx (mPz h0.1) (by omega) (by omega)
        have hLn : (Int32.ofNat (G.2.1 q).length).toInt = ((ztx q).length : Int) := by rw [hX]; exact zofI (by omega)
        have hEL : x - tvI (tF h 111 28) = Int32.ofNat (G.2.1 q).length ↔ rE T n (ms h).1 = (ms h).1 + (ztx q).length := ⟨fun z => by rw [z, hLn] at hsb; omega, fun z => Int32.toInt_inj.mp (by rw [hsb, hLn]; omega)⟩
        refine tG_loop (zW_mono zTt G dp) (zW_conj zTt G dp) (V := fun pc L st h9 _ _ => pc = 63 ∧ st = [] ∧ h = h9 ∧ ∃ (j : Nat) (y is : Int32), y.toInt = j ∧ j ≤ (ztx q).length ∧ ((is = 1 ∧ rE T n (ms h).1 = (ms h).1 + (ztx q).length ∧ ∀ i, i < j → T ((ms h).1 + i) = (ztx q).getD i 0) ∨ (is = 0 ∧ ¬ rW T n (ms h).1 (ztx q) = true)) ∧ L = [some (.ref 111), some (.retAddr q), some (.int x), some (.int is), some (.int y)]) ?_ (⟨rfl, rfl, rfl, 0, 0, _, rfl, Nat.zero_le _, Or.inr ⟨rfl, fun z => q716 (hEL.mpr (rW_e z))⟩, rfl⟩)
        rintro _ _ _ _ _ _ ⟨rfl, rfl, rfl, j, y, is, hy, hjn, his, rfl⟩
        refine tw_iload rfl rfl ?_
        refine tw_aload rfl rfl ?_
        refine tw_tlen rfl ?_
        refine tw_ic_ge rfl (fun q717 => ?_) (fun q717 => ?_)
        · try dsimp only [tvI_i, tvJ_j, tvR_r] at q717
          refine tw_iload rfl rfl ?_
          have hlen : (Int32.ofNat (G.2.1 q).length).toInt = ((ztx q).length : Int) := by rw [hX]; exact zofI (by omega)
          have hj : j = (ztx q).length := by have z := q717; omega
          rcases his with ⟨e1, e2, e3⟩ | ⟨e1, e2⟩
          · exact tw_iret rfl ⟨Or.inl ⟨rW_i.mpr ⟨e2, rQ_of _ _ (fun k hk => e3 k (by omega))⟩, congrArg (fun z => some (Value.int z)) e1⟩, rfl⟩
          · exact tw_iret rfl ⟨Or.inr ⟨e2, congrArg (fun z => some (Value.int z)) e1⟩, rfl⟩
        · try dsimp only [tvI_i, tvJ_j, tvR_r] at q717
          refine tw_iload rfl rfl ?_
          refine tw_if_eq rfl (fun q718 => ?_) (fun q718 => ?_)
          · try dsimp only [tvI_i, tvJ_j, tvR_r] at q718
            have q718i := zeqi (Y := 0) (by decide) q718
            refine tw_iload rfl rfl ?_
            have hlen : (Int32.ofNat (G.2.1 q).length).toInt = ((ztx q).length : Int) := by rw [hX]; exact zofI (by omega)
            rcases his with ⟨e1, -, -⟩ | ⟨e1, e2⟩
            · exact absurd (e1.symm.trans q718) (by decide)
            · exact tw_iret rfl ⟨Or.inr ⟨e2, congrArg (fun z => some (Value.int z)) e1⟩, rfl⟩
          · try dsimp only [tvI_i, tvJ_j, tvR_r] at q718
            have q718i := zneq (Y := 0) (by decide) q718
            refine tw_aload rfl rfl ?_
            refine tw_getS rfl (hs_111_35 hs) ?_
            refine tw_aload rfl rfl ?_
            refine tw_getS rfl (hi_111_28 hs) ?_
            refine tw_iload rfl rfl ?_
            refine tw_iadd rfl ?_
            refine tw_bald rfl (fun f719 => ?_)
            refine tw_aload rfl rfl ?_
            refine tw_iload rfl rfl ?_
            refine tw_chr rfl (fun _ => ?_)
            refine tw_ic_ne rfl (fun q720 => ?_) (fun q720 => ?_)
            · try dsimp only [tvI_i, tvJ_j, tvR_r] at q720
              have q720i := zneq rfl q720
              refine tw_push rfl ?_
              refine tw_istore rfl ?_
              refine tw_iinc rfl rfl ?_
              refine tw_goto rfl ?_
              have hlen : (Int32.ofNat (G.2.1 q).length).toInt = ((ztx q).length : Int) := by rw [hX]; exact zofI (by omega)
              have hjl : j < (ztx q).length := by have z := q717; omega
              rcases his with ⟨e1, e2, e3⟩ | ⟨e1, -⟩
              rotate_left
              · exact absurd e1 q718
              have hpy : (tvI (tF h 111 28) + y).toNatClampNeg = (ms h).1 + j := zof_cl (zadN (mPz h0.1) hy (by omega) (by omega))
              have hTy : tA h 132 (tvI (tF h 111 28) + y).toNatClampNeg = T ((ms h).1 + j) := by rw [hpy, hT]
              have ec : (G.2.1 q).getD y.toNatClampNeg 0 = (ztx q).getD j 0 := by rw [hX, zof_cl hy]
              have hc : ¬ T ((ms h).1 + j) = (ztx q).getD j 0 := fun z => q720 (hTy.trans (z.trans ec.symm))
              exact tG_cut (zW_mono zTt G dp) (Or.inr ⟨rfl, rfl, rfl, j + 1, y + 1, _, zincN hy (by omega), by omega, Or.inr ⟨rfl, fun z => hc (rQ_at _ _ _ (rW_i.mp z).2 hjl)⟩, rfl⟩)
            · try dsimp only [tvI_i, tvJ_j, tvR_r] at q720
              have q720i := zeqi rfl q720
              refine tw_push rfl ?_
              refine tw_goto rfl ?_
              refine tw_istore rfl ?_
              refine tw_iinc rfl rfl ?_
              refine tw_goto rfl ?_
              have hlen : (Int32.ofNat (G.2.1 q).length).toInt = ((ztx q).length : Int) := by rw [hX]; exact zofI (by omega)
              have hjl : j < (ztx q).length := by have z := q717; omega
              rcases his with ⟨e1, e2, e3⟩ | ⟨e1, -⟩
              rotate_left
              · exact absurd e1 q718
              have hpy : (tvI (tF h 111 28) + y).toNatClampNeg = (ms h).1 + j := zof_cl (zadN (mPz h0.1) hy (by omega) (by omega))
              have hTy : tA h 132 (tvI (tF h 111 28) + y).toNatClampNeg = T ((ms h).1 + j) := by rw [hpy, hT]
              have ec : (G.2.1 q).getD y.toNatClampNeg 0 = (ztx q).getD j 0 := by rw [hX, zof_cl hy]
              have hc : T ((ms h).1 + j) = (ztx q).getD j 0 := hTy.symm.trans (q720.trans ec)
              exact tG_cut (zW_mono zTt G dp) (Or.inr ⟨rfl, rfl, rfl, j + 1, y + 1, _, zincN hy (by omega), by omega, Or.inl ⟨rfl, e2, fun i hi => (Classical.em (i = j)).elim (fun z => by rw [z]; exact hc) (fun z => e3 i (by omega))⟩, rfl⟩)
      · try dsimp only [tvI_i, tvJ_j, tvR_r] at q716
        have q716i := zeqi rfl q716
        refine tw_push rfl ?_
        refine tw_goto rfl ?_
        refine tw_istore rfl ?_
        refine tw_push rfl ?_
        refine tw_istore rfl ?_
        have hix : x.toNatClampNeg = (ms h).1 + k := zof_cl hx
        have hTx : tA h 132 x.toNatClampNeg = T ((ms h).1 + k) := by rw [hix, hT]
        have hnd : ¬ ((ms h).1 + k < n ∧ 97 ≤ (T ((ms h).1 + k)).toInt ∧ (T ((ms h).1 + k)).toInt ≤ 122) := by
          have z0 := q704
          have z1 := q715
          try rw [hTx] at z1
          try rw [hTx] at z2
          omega
        have hE9 : rE T n (ms h).1 = (ms h).1 + k := he.symm.trans (rE_n hnd)
        have hsb : (x - tvI (tF h 111 28)).toInt = ((((ms h).1 + k : Nat) : Int)) - (((ms h).1 : Nat) : Int) := zsb hx (mPz h0.1) (by omega) (by omega)
        have hLn : (Int32.ofNat (G.2.1 q).length).toInt = ((ztx q).length : Int) := by rw [hX]; exact zofI (by omega)
        have hEL : x - tvI (tF h 111 28) = Int32.ofNat (G.2.1 q).length ↔ rE T n (ms h).1 = (ms h).1 + (ztx q).length := ⟨fun z => by rw [z, hLn] at hsb; omega, fun z => Int32.toInt_inj.mp (by rw [hsb, hLn]; omega)⟩
        refine tG_loop (zW_mono zTt G dp) (zW_conj zTt G dp) (V := fun pc L st h9 _ _ => pc = 63 ∧ st = [] ∧ h = h9 ∧ ∃ (j : Nat) (y is : Int32), y.toInt = j ∧ j ≤ (ztx q).length ∧ ((is = 1 ∧ rE T n (ms h).1 = (ms h).1 + (ztx q).length ∧ ∀ i, i < j → T ((ms h).1 + i) = (ztx q).getD i 0) ∨ (is = 0 ∧ ¬ rW T n (ms h).1 (ztx q) = true)) ∧ L = [some (.ref 111), some (.retAddr q), some (.int x), some (.int is), some (.int y)]) ?_ (⟨rfl, rfl, rfl, 0, 0, _, rfl, Nat.zero_le _, Or.inl ⟨rfl, hEL.mp q716, fun i hi => by omega⟩, rfl⟩)
        rintro _ _ _ _ _ _ ⟨rfl, rfl, rfl, j, y, is, hy, hjn, his, rfl⟩
        refine tw_iload rfl rfl ?_
        refine tw_aload rfl rfl ?_
        refine tw_tlen rfl ?_
        refine tw_ic_ge rfl (fun q721 => ?_) (fun q721 => ?_)
        · try dsimp only [tvI_i, tvJ_j, tvR_r] at q721
          refine tw_iload rfl rfl ?_
          have hlen : (Int32.ofNat (G.2.1 q).length).toInt = ((ztx q).length : Int) := by rw [hX]; exact zofI (by omega)
          have hj : j = (ztx q).length := by have z := q721; omega
          rcases his with ⟨e1, e2, e3⟩ | ⟨e1, e2⟩
          · exact tw_iret rfl ⟨Or.inl ⟨rW_i.mpr ⟨e2, rQ_of _ _ (fun k hk => e3 k (by omega))⟩, congrArg (fun z => some (Value.int z)) e1⟩, rfl⟩
          · exact tw_iret rfl ⟨Or.inr ⟨e2, congrArg (fun z => some (Value.int z)) e1⟩, rfl⟩
        · try dsimp only [tvI_i, tvJ_j, tvR_r] at q721
          refine tw_iload rfl rfl ?_
          refine tw_if_eq rfl (fun q722 => ?_) (fun q722 => ?_)
          · try dsimp only [tvI_i, tvJ_j, tvR_r] at q722
            have q722i := zeqi (Y := 0) (by decide) q722
            refine tw_iload rfl rfl ?_
            have hlen : (Int32.ofNat (G.2.1 q).length).toInt = ((ztx q).length : Int) := by rw [hX]; exact zofI (by omega)
            rcases his with ⟨e1, -, -⟩ | ⟨e1, e2⟩
            · exact absurd (e1.symm.trans q722) (by decide)
            · exact tw_iret rfl ⟨Or.inr ⟨e2, congrArg (fun z => some (Value.int z)) e1⟩, rfl⟩
          · try dsimp only [tvI_i, tvJ_j, tvR_r] at q722
            have q722i := zneq (Y := 0) (by decide) q722
            refine tw_aload rfl rfl ?_
            refine tw_getS rfl (hs_111_35 hs) ?_
            refine tw_aload rfl rfl ?_
            refine tw_getS rfl (hi_111_28 hs) ?_
            refine tw_iload rfl rfl ?_
            refine tw_iadd rfl ?_
            refine tw_bald rfl (fun f723 => ?_)
            refine tw_aload rfl rfl ?_
            refine tw_iload rfl rfl ?_
            refine tw_chr rfl (fun _ => ?_)
            refine tw_ic_ne rfl (fun q724 => ?_) (fun q724 => ?_)
            · try dsimp only [tvI_i, tvJ_j, tvR_r] at q724
              have q724i := zneq rfl q724
              refine tw_push rfl ?_
              refine tw_istore rfl ?_
              refine tw_iinc rfl rfl ?_
              refine tw_goto rfl ?_
              have hlen : (Int32.ofNat (G.2.1 q).length).toInt = ((ztx q).length : Int) := by rw [hX]; exact zofI (by omega)
              have hjl : j < (ztx q).length := by have z := q721; omega
              rcases his with ⟨e1, e2, e3⟩ | ⟨e1, -⟩
              rotate_left
              · exact absurd e1 q722
              have hpy : (tvI (tF h 111 28) + y).toNatClampNeg = (ms h).1 + j := zof_cl (zadN (mPz h0.1) hy (by omega) (by omega))
              have hTy : tA h 132 (tvI (tF h 111 28) + y).toNatClampNeg = T ((ms h).1 + j) := by rw [hpy, hT]
              have ec : (G.2.1 q).getD y.toNatClampNeg 0 = (ztx q).getD j 0 := by rw [hX, zof_cl hy]
              have hc : ¬ T ((ms h).1 + j) = (ztx q).getD j 0 := fun z => q724 (hTy.trans (z.trans ec.symm))
              exact tG_cut (zW_mono zTt G dp) (Or.inr ⟨rfl, rfl, rfl, j + 1, y + 1, _, zincN hy (by omega), by omega, Or.inr ⟨rfl, fun z => hc (rQ_at _ _ _ (rW_i.mp z).2 hjl)⟩, rfl⟩)
            · try dsimp only [tvI_i, tvJ_j, tvR_r] at q724
              have q724i := zeqi rfl q724
              refine tw_push rfl ?_
              refine tw_goto rfl ?_
              refine tw_istore rfl ?_
              refine tw_iinc rfl rfl ?_
              refine tw_goto rfl ?_
              have hlen : (Int32.ofNat (G.2.1 q).length).toInt = ((ztx q).length : Int) := by rw [hX]; exact zofI (by omega)
              have hjl : j < (ztx q).length := by have z := q721; omega
              rcases his with ⟨e1, e2, e3⟩ | ⟨e1, -⟩
              rotate_left
              · exact absurd e1 q722
              have hpy : (tvI (tF h 111 28) + y).toNatClampNeg = (ms h).1 + j := zof_cl (zadN (mPz h0.1) hy (by omega) (by omega))
              have hTy : tA h 132 (tvI (tF h 111 28) + y).toNatClampNeg = T ((ms h).1 + j) := by rw [hpy, hT]
              have ec : (G.2.1 q).getD y.toNatClampNeg 0 = (ztx q).getD j 0 := by rw [hX, zof_cl hy]
              have hc : T ((ms h).1 + j) = (ztx q).getD j 0 := hTy.symm.trans (q724.trans ec)
              exact tG_cut (zW_mono zTt G dp) (Or.inr ⟨rfl, rfl, rfl, j + 1, y + 1, _, zincN hy (by omega), by omega, Or.inl ⟨rfl, e2, fun i hi => (Classical.em (i = j)).elim (fun z => by rw [z]; exact hc) (fun z => e3 i (by omega))⟩, rfl⟩)
    · try dsimp only [tvI_i, tvJ_j, tvR_r] at q715
      refine tw_aload rfl rfl ?_
      refine tw_getS rfl (hs_111_35 hs) ?_
      refine tw_iload rfl rfl ?_
      refine tw_bald rfl (fun f725 => ?_)
      refine tw_push rfl ?_
      refine tw_ic_gt rfl (fun q726 => ?_) (fun q726 => ?_)
      · try dsimp only [tvI_i, tvJ_j, tvR_r] at q726
        refine tw_iload rfl rfl ?_
        refine tw_aload rfl rfl ?_
        refine tw_getS rfl (hi_111_28 hs) ?_
        refine tw_isub rfl ?_
        refine tw_aload rfl rfl ?_
        refine tw_tlen rfl ?_
        refine tw_ic_ne rfl (fun q727 => ?_) (fun q727 => ?_)
        · try dsimp only [tvI_i, tvJ_j, tvR_r] at q727
          have q727i := zneq rfl q727
          refine tw_push rfl ?_
          refine tw_istore rfl ?_
          refine tw_push rfl ?_
          refine tw_istore rfl ?_
          have hix : x.toNatClampNeg = (ms h).1 + k := zof_cl hx
          have hTx : tA h 132 x.toNatClampNeg = T ((ms h).1 + k) := by rw [hix, hT]
          have hnd : ¬ ((ms h).1 + k < n ∧ 97 ≤ (T ((ms h).1 + k)).toInt ∧ (T ((ms h).1 + k)).toInt ≤ 122) := by
            have z0 := q704
            have z1 := q715
            have z2 := q726
            try rw [hTx] at z1
            try rw [hTx] at z2
            omega
          have hE9 : rE T n (ms h).1 = (ms h).1 + k := he.symm.trans (rE_n hnd)
          have hsb : (x - tvI (tF h 111 28)).toInt = ((((ms h).1 + k : Nat) : Int)) - (((ms h).1 : Nat) : Int) := zsb hx (mPz h0.1) (by omega) (by omega)
          have hLn : (Int32.ofNat (G.2.1 q).length).toInt = ((ztx q).length : Int) := by rw [hX]; exact zofI (by omega)
          have hEL : x - tvI (tF h 111 28) = Int32.ofNat (G.2.1 q).length ↔ rE T n (ms h).1 = (ms h).1 + (ztx q).length := ⟨fun z => by rw [z, hLn] at hsb; omega, fun z => Int32.toInt_inj.mp (by rw [hsb, hLn]; omega)⟩
          refine tG_loop (zW_mono zTt G dp) (zW_conj zTt G dp) (V := fun pc L st h9 _ _ => pc = 63 ∧ st = [] ∧ h = h9 ∧ ∃ (j : Nat) (y is : Int32), y.toInt = j ∧ j ≤ (ztx q).length ∧ ((is = 1 ∧ rE T n (ms h).1 = (ms h).1 + (ztx q).length ∧ ∀ i, i < j → T ((ms h).1 + i) = (ztx q).getD i 0) ∨ (is = 0 ∧ ¬ rW T n (ms h).1 (ztx q) = true)) ∧ L = [some (.ref 111), some (.retAddr q), some (.int x), some (.int is), some (.int y)]) ?_ (⟨rfl, rfl, rfl, 0, 0, _, rfl, Nat.zero_le _, Or.inr ⟨rfl, fun z => q727 (hEL.mpr (rW_e z))⟩, rfl⟩)
          rintro _ _ _ _ _ _ ⟨rfl, rfl, rfl, j, y, is, hy, hjn, his, rfl⟩
          refine tw_iload rfl rfl ?_
          refine tw_aload rfl rfl ?_
          refine tw_tlen rfl ?_
          refine tw_ic_ge rfl (fun q728 => ?_) (fun q728 => ?_)
          · try dsimp only [tvI_i, tvJ_j, tvR_r] at q728
            refine tw_iload rfl rfl ?_
            have hlen : (Int32.ofNat (G.2.1 q).length).toInt = ((ztx q).length : Int) := by rw [hX]; exact zofI (by omega)
            have hj : j = (ztx q).length := by have z := q728; omega
            rcases his with ⟨e1, e2, e3⟩ | ⟨e1, e2⟩
            · exact tw_iret rfl ⟨Or.inl ⟨rW_i.mpr ⟨e2, rQ_of _ _ (fun k hk => e3 k (by omega))⟩, congrArg (fun z => some (Value.int z)) e1⟩, rfl⟩
            · exact tw_iret rfl ⟨Or.inr ⟨e2, congrArg (fun z => some (Value.int z)) e1⟩, rfl⟩
          · try dsimp only [tvI_i, tvJ_j, tvR_r] at q728
            refine tw_iload rfl rfl ?_
            refine tw_if_eq rfl (fun q729 => ?_) (fun q729 => ?_)
            · try dsimp only [tvI_i, tvJ_j, tvR_r] at q729
              have q729i := zeqi (Y := 0) (by decide) q729
              refine tw_iload rfl rfl ?_
              have hlen : (Int32.ofNat (G.2.1 q).length).toInt = ((ztx q).length : Int) := by rw [hX]; exact zofI (by omega)
              rcases his with ⟨e1, -, -⟩ | ⟨e1, e2⟩
              · exact absurd (e1.symm.trans q729) (by decide)
              · exact tw_iret rfl ⟨Or.inr ⟨e2, congrArg (fun z => some (Value.int z)) e1⟩, rfl⟩
            · try dsimp only [tvI_i, tvJ_j, tvR_r] at q729
              have q729i := zneq (Y := 0) (by decide) q729
              refine tw_aload rfl rfl ?_
              refine tw_getS rfl (hs_111_35 hs) ?_
              refine tw_aload rfl rfl ?_
              refine tw_getS rfl (hi_111_28 hs) ?_
              refine tw_iload rfl rfl ?_
              refine tw_iadd rfl ?_
              refine tw_bald rfl (fun f730 => ?_)
              refine tw_aload rfl rfl ?_
              refine tw_iload rfl rfl ?_
              refine tw_chr rfl (fun _ => ?_)
              refine tw_ic_ne rfl (fun q731 => ?_) (fun q731 => ?_)
              · try dsimp only [tvI_i, tvJ_j, tvR_r] at q731
                have q731i := zneq rfl q731
                refine tw_push rfl ?_
                refine tw_istore rfl ?_
                refine tw_iinc rfl rfl ?_
                refine tw_goto rfl ?_
                have hlen : (Int32.ofNat (G.2.1 q).length).toInt = ((ztx q).length : Int) := by rw [hX]; exact zofI (by omega)
                have hjl : j < (ztx q).length := by have z := q728; omega
                rcases his with ⟨e1, e2, e3⟩ | ⟨e1, -⟩
                rotate_left
                · exact absurd e1 q729
                have hpy : (tvI (tF h 111 28) + y).toNatClampNeg = (ms h).1 + j := zof_cl (zadN (mPz h0.1) hy (by omega) (by omega))
                have hTy : tA h 132 (tvI (tF h 111 28) + y).toNatClampNeg = T ((ms h).1 + j) := by rw [hpy, hT]
                have ec : (G.2.1 q).getD y.toNatClampNeg 0 = (ztx q).getD j 0 := by rw [hX, zof_cl hy]
                have hc : ¬ T ((ms h).1 + j) = (ztx q).getD j 0 := fun z => q731 (hTy.trans (z.trans ec.symm))
                exact tG_cut (zW_mono zTt G dp) (Or.inr ⟨rfl, rfl, rfl, j + 1, y + 1, _, zincN hy (by omega), by omega, Or.inr ⟨rfl, fun z => hc (rQ_at _ _ _ (rW_i.mp z).2 hjl)⟩, rfl⟩)
              · try dsimp only [tvI_i, tvJ_j, tvR_r] at q731
                have q731i := zeqi rfl q731
                refine tw_push rfl ?_
                refine tw_goto rfl ?_
                refine tw_istore rfl ?_
                refine tw_iinc rfl rfl ?_
                refine tw_goto rfl ?_
                have hlen : (Int32.ofNat (G.2.1 q).length).toInt = ((ztx q).length : Int) := by rw [hX]; exact zofI (by omega)
                have hjl : j < (ztx q).length := by have z := q728; omega
                rcases his with ⟨e1, e2, e3⟩ | ⟨e1, -⟩
                rotate_left
                · exact absurd e1 q729
                have hpy : (tvI (tF h 111 28) + y).toNatClampNeg = (ms h).1 + j := zof_cl (zadN (mPz h0.1) hy (by omega) (by omega))
                have hTy : tA h 132 (tvI (tF h 111 28) + y).toNatClampNeg = T ((ms h).1 + j) := by rw [hpy, hT]
                have ec : (G.2.1 q).getD y.toNatClampNeg 0 = (ztx q).getD j 0 := by rw [hX, zof_cl hy]
                have hc : T ((ms h).1 + j) = (ztx q).getD j 0 := hTy.symm.trans (q731.trans ec)
                exact tG_cut (zW_mono zTt G dp) (Or.inr ⟨rfl, rfl, rfl, j + 1, y + 1, _, zincN hy (by omega), by omega, Or.inl ⟨rfl, e2, fun i hi => (Classical.em (i = j)).elim (fun z => by rw [z]; exact hc) (fun z => e3 i (by omega))⟩, rfl⟩)
        · try dsimp only [tvI_i, tvJ_j, tvR_r] at q727
          have q727i := zeqi rfl q727
          refine tw_push rfl ?_
          refine tw_goto rfl ?_
          refine tw_istore rfl ?_
          refine tw_push rfl ?_
          refine tw_istore rfl ?_
          have hix : x.toNatClampNeg = (ms h).1 + k := zof_cl hx
          have hTx : tA h 132 x.toNatClampNeg = T ((ms h).1 + k) := by rw [hix, hT]
          have hnd : ¬ ((ms h).1 + k < n ∧ 97 ≤ (T ((ms h).1 + k)).toInt ∧ (T ((ms h).1 + k)).toInt ≤ 122) := by
            have z0 := q704
            have z1 := q715
            have z2 := q726
            try rw [hTx] at z1
            try rw [hTx] at z2
            omega
          have hE9 : rE T n (ms h).1 = (ms h).1 + k := he.symm.trans (rE_n hnd)
          have hsb : (x - tvI (tF h 111 28)).toInt = ((((ms h).1 + k : Nat) : Int)) - (((ms h).1 : Nat) : Int) := zsb hx (mPz h0.1) (by omega) (by omega)
          have hLn : (Int32.ofNat (G.2.1 q).length).toInt = ((ztx q).length : Int) := by rw [hX]; exact zofI (by omega)
          have hEL : x - tvI (tF h 111 28) = Int32.ofNat (G.2.1 q).length ↔ rE T n (ms h).1 = (ms h).1 + (ztx q).length := ⟨fun z => by rw [z, hLn] at hsb; omega, fun z => Int32.toInt_inj.mp (by rw [hsb, hLn]; omega)⟩
          refine tG_loop (zW_mono zTt G dp) (zW_conj zTt G dp) (V := fun pc L st h9 _ _ => pc = 63 ∧ st = [] ∧ h = h9 ∧ ∃ (j : Nat) (y is : Int32), y.toInt = j ∧ j ≤ (ztx q).length ∧ ((is = 1 ∧ rE T n (ms h).1 = (ms h).1 + (ztx q).length ∧ ∀ i, i < j → T ((ms h).1 + i) = (ztx q).getD i 0) ∨ (is = 0 ∧ ¬ rW T n (ms h).1 (ztx q) = true)) ∧ L = [some (.ref 111), some (.retAddr q), some (.int x), some (.int is), some (.int y)]) ?_ (⟨rfl, rfl, rfl, 0, 0, _, rfl, Nat.zero_le _, Or.inl ⟨rfl, hEL.mp q727, fun i hi => by omega⟩, rfl⟩)
          rintro _ _ _ _ _ _ ⟨rfl, rfl, rfl, j, y, is, hy, hjn, his, rfl⟩
          refine tw_iload rfl rfl ?_
          refine tw_aload rfl rfl ?_
          refine tw_tlen rfl ?_
          refine tw_ic_ge rfl (fun q732 => ?_) (fun q732 => ?_)
          · try dsimp only [tvI_i, tvJ_j, tvR_r] at q732
            refine tw_iload rfl rfl ?_
            have hlen : (Int32.ofNat (G.2.1 q).length).toInt = ((ztx q).length : Int) := by rw [hX]; exact zofI (by omega)
            have hj : j = (ztx q).length := by have z := q732; omega
            rcases his with ⟨e1, e2, e3⟩ | ⟨e1, e2⟩
            · exact tw_iret rfl ⟨Or.inl ⟨rW_i.mpr ⟨e2, rQ_of _ _ (fun k hk => e3 k (by omega))⟩, congrArg (fun z => some (Value.int z)) e1⟩, rfl⟩
            · exact tw_iret rfl ⟨Or.inr ⟨e2, congrArg (fun z => some (Value.int z)) e1⟩, rfl⟩
          · try dsimp only [tvI_i, tvJ_j, tvR_r] at q732
            refine tw_iload rfl rfl ?_
            refine tw_if_eq rfl (fun q733 => ?_) (fun q733 => ?_)
            · try dsimp only [tvI_i, tvJ_j, tvR_r] at q733
              have q733i := zeqi (Y := 0) (by decide) q733
              refine tw_iload rfl rfl ?_
              have hlen : (Int32.ofNat (G.2.1 q).length).toInt = ((ztx q).length : Int) := by rw [hX]; exact zofI (by omega)
              rcases his with ⟨e1, -, -⟩ | ⟨e1, e2⟩
              · exact absurd (e1.symm.trans q733) (by decide)
              · exact tw_iret rfl ⟨Or.inr ⟨e2, congrArg (fun z => some (Value.int z)) e1⟩, rfl⟩
            · try dsimp only [tvI_i, tvJ_j, tvR_r] at q733
              have q733i := zneq (Y := 0) (by decide) q733
              refine tw_aload rfl rfl ?_
              refine tw_getS rfl (hs_111_35 hs) ?_
              refine tw_aload rfl rfl ?_
              refine tw_getS rfl (hi_111_28 hs) ?_
              refine tw_iload rfl rfl ?_
              refine tw_iadd rfl ?_
              refine tw_bald rfl (fun f734 => ?_)
              refine tw_aload rfl rfl ?_
              refine tw_iload rfl rfl ?_
              refine tw_chr rfl (fun _ => ?_)
              refine tw_ic_ne rfl (fun q735 => ?_) (fun q735 => ?_)
              · try dsimp only [tvI_i, tvJ_j, tvR_r] at q735
                have q735i := zneq rfl q735
                refine tw_push rfl ?_
                refine tw_istore rfl ?_
                refine tw_iinc rfl rfl ?_
                refine tw_goto rfl ?_
                have hlen : (Int32.ofNat (G.2.1 q).length).toInt = ((ztx q).length : Int) := by rw [hX]; exact zofI (by omega)
                have hjl : j < (ztx q).length := by have z := q732; omega
                rcases his with ⟨e1, e2, e3⟩ | ⟨e1, -⟩
                rotate_left
                · exact absurd e1 q733
                have hpy : (tvI (tF h 111 28) + y).toNatClampNeg = (ms h).1 + j := zof_cl (zadN (mPz h0.1) hy (by omega) (by omega))
                have hTy : tA h 132 (tvI (tF h 111 28) + y).toNatClampNeg = T ((ms h).1 + j) := by rw [hpy, hT]
                have ec : (G.2.1 q).getD y.toNatClampNeg 0 = (ztx q).getD j 0 := by rw [hX, zof_cl hy]
                have hc : ¬ T ((ms h).1 + j) = (ztx q).getD j 0 := fun z => q735 (hTy.trans (z.trans ec.symm))
                exact tG_cut (zW_mono zTt G dp) (Or.inr ⟨rfl, rfl, rfl, j + 1, y + 1, _, zincN hy (by omega), by omega, Or.inr ⟨rfl, fun z => hc (rQ_at _ _ _ (rW_i.mp z).2 hjl)⟩, rfl⟩)
              · try dsimp only [tvI_i, tvJ_j, tvR_r] at q735
                have q735i := zeqi rfl q735
                refine tw_push rfl ?_
                refine tw_goto rfl ?_
                refine tw_istore rfl ?_
                refine tw_iinc rfl rfl ?_
                refine tw_goto rfl ?_
                have hlen : (Int32.ofNat (G.2.1 q).length).toInt = ((ztx q).length : Int) := by rw [hX]; exact zofI (by omega)
                have hjl : j < (ztx q).length := by have z := q732; omega
                rcases his with ⟨e1, e2, e3⟩ | ⟨e1, -⟩
                rotate_left
                · exact absurd e1 q733
                have hpy : (tvI (tF h 111 28) + y).toNatClampNeg = (ms h).1 + j := zof_cl (zadN (mPz h0.1) hy (by omega) (by omega))
                have hTy : tA h 132 (tvI (tF h 111 28) + y).toNatClampNeg = T ((ms h).1 + j) := by rw [hpy, hT]
                have ec : (G.2.1 q).getD y.toNatClampNeg 0 = (ztx q).getD j 0 := by rw [hX, zof_cl hy]
                have hc : T ((ms h).1 + j) = (ztx q).getD j 0 := hTy.symm.trans (q735.trans ec)
                exact tG_cut (zW_mono zTt G dp) (Or.inr ⟨rfl, rfl, rfl, j + 1, y + 1, _, zincN hy (by omega), by omega, Or.inl ⟨rfl, e2, fun i hi => (Classical.em (i = j)).elim (fun z => by rw [z]; exact hc) (fun z => e3 i (by omega))⟩, rfl⟩)
      · try dsimp only [tvI_i, tvJ_j, tvR_r] at q726
        refine tw_iinc rfl rfl ?_
        refine tw_goto rfl ?_
        have hix : x.toNatClampNeg = (ms h).1 + k := zof_cl hx
        have hTx : tA h 132 x.toNatClampNeg = T ((ms h).1 + k) := by rw [hix, hT]
        have z1 := q715
        have z2 := q726
        rw [hTx] at z1 z2
        have hlt : (ms h).1 + k < n := by omega
        exact tG_cut (zW_mono zTt G dp) (Or.inr ⟨rfl, rfl, rfl, k + 1, x + 1, _, _, zincL hx q704, (rE_y ⟨hlt, by omega, by omega⟩).symm.trans he, by omega, rfl⟩)
/-- places that bear reading, fault or not -/
noncomputable def mZp (h : zH) : Prop := (0 ≤ (tvI (tF h 111 28)).toInt ∧ 0 ≤ (tvI (tF h 111 27)).toInt) ∧ (tvI (tF h 111 28)).toInt ≤ 500 ∧ (tvI (tF h 111 27)).toInt ≤ 400
theorem mZp_k {h h2 : zH} (z : mZp h) (a : tF h2 111 28 = tF h 111 28) (b : tF h2 111 27 = tF h 111 27) : mZp h2 := by unfold mZp; rw [a, b]; exact z
theorem mZp_p {h : zH} (p : mP h) : mZp h := by have := p.2.1; exact ⟨⟨by omega, by omega⟩, by omega, by omega⟩
theorem mZp_s {h h3 : zH} {X : Int32} (z : mZp h) (s : mSet 28 X h h3) (hX : 0 ≤ X.toInt ∧ X.toInt ≤ 500) : mZp h3 := by
  unfold mZp
  rw [mI_x s, mI_o s (by decide)]
  exact ⟨⟨hX.1, z.1.2⟩, hX.2, z.2.2⟩
theorem mZp_o {h h3 : zH} {X : Int32} {b : Nat} (z : mZp h) (s : mSet b X h h3) (hb : b ≠ 28 ∧ b ≠ 27) : mZp h3 := mZp_k z (mI_o s (fun w => hb.1 w.symm)) (mI_o s (fun w => hb.2 w.symm))
theorem cNum2 {y t : Int32} {V Q : Nat} (hy : y.toInt = (V : Int)) (hV : V + 1 ≤ Q) (hQ : Q ≤ 10000) (ht : 48 ≤ t.toInt ∧ t.toInt ≤ 57) : (10 * y + t - 48).toInt = ((10 * V + (t.toInt - 48).toNat : Nat) : Int) ∧ 10 * V + (t.toInt - 48).toNat + 1 ≤ Q * 10 := by
  have h1 : (10 * y).toInt = 10 * V := by
    rw [Int32.toInt_mul, hy, show (10 : Int32).toInt = 10 from rfl]
    exact Int.bmod_eq_of_le (by show (-2147483648 : Int) ≤ 10 * (V : Int); omega) (by show 10 * (V : Int) < (2147483648 : Int); omega)
  have h2 : (10 * y + t).toInt = 10 * V + t.toInt := by
    rw [Int32.toInt_add, h1]
    exact Int.bmod_eq_of_le (by show (-2147483648 : Int) ≤ 10 * (V : Int) + t.toInt; omega) (by show 10 * (V : Int) + t.toInt < (2147483648 : Int); omega)
  refine ⟨?_, by omega⟩
  rw [Int32.toInt_sub, h2, show (48 : Int32).toInt = 48 from rfl]
  exact (Int.bmod_eq_of_le (by show (-2147483648 : Int) ≤ 10 * (V : Int) + t.toInt - 48; omega) (by show 10 * (V : Int) + t.toInt - 48 < (2147483648 : Int); omega)).trans (by omega)
theorem g_digits {G : zG} (hG : G.1 = zProg) (hX : G.2.1 = ztx) {h : zH} {T : Nat → Int32} {n : Nat} (hs : tSh h) (hp : mP h) (hT : tA h 132 = T) (hN : mn h = n) {m : Int32} {M : Nat} (hm : m.toInt = M) (hM : M ≤ 99999) (hB : rB T n (ms h).1 = (ms h).1) : tC zTt G 211 [.ref 111, .int m] h (fun w h2 => mFr h h2 ∧ ((∃ q, rM T n M (ms h).1 = .inr q ∧ w = some (.int (Int32.ofNat q.2)) ∧ mP h2 ∧ ms h2 = rA q.1 (ms h) ∧ mSk h2 = mSk h ∧ tF h2 111 32 = tF h 111 32) ∨ (∃ e x, rM T n M (ms h).1 = .inl e ∧ w = some (.int x) ∧ 0 ≤ x.toInt ∧ mFt h2 e ∧ mZp h2))) := by
  refine tC_in (by rw [hG]; rfl) (fun dp => ?_)
  have g0 := mFr_r hs
  have hpn : (ms h).1 ≤ n := mPle hp hN
  have c59 : (5 : Int32).toInt = 5 := rfl
  have hn4 : n ≤ 400 := by have a := mNl hp hN; have b := hp.2.1; omega
  refine tw_aload rfl rfl ?_
  refine tw_getS rfl (hi_111_28 hs) ?_
  refine tw_istore rfl ?_
  refine tw_aload rfl rfl ?_
  refine tw_virt0 rfl (g_sign hG hX (g0).1 ((mFr_T g0).trans hT) ((mFr_n g0).trans hN) ⟨hp.2.1.1, by have := hp.2.1; omega⟩) (fun wp736 hp736 p736 => ?_)
  obtain ⟨⟨cp736, rfl, kp736⟩, rfl⟩ := p736
  refine tw_stat1 rfl (g_isDigit hG) (fun w9 h9 p737 => ?_)
  obtain ⟨⟨p737, rfl⟩ | ⟨p737, rfl⟩, rfl⟩ := p737
  · try dsimp only [tvI_i, tvJ_j, tvR_r] at p737
    refine tw_if_ne rfl (fun _ => ?_) (fun z => absurd z (by decide))
    refine tw_push rfl ?_
    refine tw_istore rfl ?_
    refine tw_push rfl ?_
    refine tw_istore rfl ?_
    refine tG_loop (zW_mono zTt G dp) (zW_conj zTt G dp) (V := fun pc L st h9 _ _ => pc = 31 ∧ st = [] ∧ ∃ (h1 : zH) (k : Nat) (x y : Int32), h1 = h9 ∧ mFr h h1 ∧ mP h1 ∧ ms h1 = rA ((ms h).1 + k) (ms h) ∧ mSk h1 = mSk h ∧ tF h1 111 32 = tF h 111 32 ∧ (ms h).1 + k ≤ n ∧ rD T n ((ms h).1 + k) = rD T n (ms h).1 ∧ x.toInt = k ∧ y.toInt = ((rV T (ms h).1 (min k 5) : Nat) : Int) ∧ rV T (ms h).1 (min k 5) + 1 ≤ 10 ^ (min k 5) ∧ L = [some (.ref 111), some (.int m), some (.int (tvI (tF h 111 28))), some (.int x), some (.int y)]) ?_ (⟨rfl, rfl, _, 0, 0, 0, rfl, g0, hp, rfl, rfl, rfl, hpn, rfl, rfl, rfl, Nat.le_refl 1, rfl⟩)
    rintro _ _ _ _ _ _ ⟨rfl, rfl, h1, k, x, y, rfl, g1, p1, hms, hsk, h32, hkn, hrd, hx, hy, hyb, rfl⟩
    refine tw_aload rfl rfl ?_
    refine tw_virt0 rfl (g_sign hG hX (g1).1 ((mFr_T g1).trans hT) ((mFr_n g1).trans hN) ⟨p1.2.1.1, by have := p1.2.1; omega⟩) (fun wp738 hp738 p738 => ?_)
    obtain ⟨⟨cp738, rfl, kp738⟩, rfl⟩ := p738
    refine tw_stat1 rfl (g_isDigit hG) (fun w9 h9 p739 => ?_)
    obtain ⟨⟨p739, rfl⟩ | ⟨p739, rfl⟩, rfl⟩ := p739
    · try dsimp only [tvI_i, tvJ_j, tvR_r] at p739
      refine tw_if_eq rfl (fun z => absurd z (by decide)) (fun _ => ?_)
      refine tw_iload rfl rfl ?_
      refine tw_push rfl ?_
      refine tw_ic_ge rfl (fun q740 => ?_) (fun q740 => ?_)
      · try dsimp only [tvI_i, tvJ_j, tvR_r] at q740
        refine tw_iload rfl rfl ?_
        refine tw_istore rfl ?_
        refine tw_iinc rfl rfl ?_
        refine tw_aload rfl rfl ?_
        refine tw_dup rfl ?_
        refine tw_getS rfl (hi_111_28 (g1).1) ?_
        refine tw_push rfl ?_
        refine tw_iadd rfl ?_
        refine tw_put rfl (fun f741 => ?_)
        refine tG_setm f741 (hw_111_28 f741 (g1).1) (fun hf741 ef741 => ?_)
        try dsimp only [tvI_i] at ef741
        have gf741 := mFr_s g1 ef741 (by unfold mFs; omega)
        have wf741 := (sgm_d kp738).mp p739
        rw [hms] at wf741
        have wf741 : (ms h).1 + k < n ∧ 48 ≤ (T ((ms h).1 + k)).toInt ∧ (T ((ms h).1 + k)).toInt ≤ 57 := wf741
        obtain ⟨pf741, sf741, tf741⟩ := mTo p1 ((mFr_n g1).trans hN) ef741 (v := (ms h).1 + (k + 1)) (zincN (n := (ms h).1 + k) (by rw [mPl p1, hms]; rfl) (by omega)) wf741.1
        refine tw_goto rfl ?_
        have hd2 := (rD_y wf741).symm.trans hrd
        have hk5 : 5 ≤ k := by have z := q740; omega
        have hm5 : min k 5 = 5 := by omega
        have hm6 : min (k + 1) 5 = 5 := by omega
        rw [hm5] at hy hyb
        exact tG_cut (zW_mono zTt G dp) (Or.inr ⟨rfl, rfl, _, k + 1, _, _, rfl, gf741, pf741, (by rw [sf741, hms]; rfl), tf741.trans hsk, (mI_o ef741 (by decide)).trans h32, (by omega), hd2, zincN hx (by omega), (by rw [hm6]; exact hy), (by rw [hm6]; exact hyb), rfl⟩)
      · try dsimp only [tvI_i, tvJ_j, tvR_r] at q740
        refine tw_push rfl ?_
        refine tw_iload rfl rfl ?_
        refine tw_imul rfl ?_
        refine tw_aload rfl rfl ?_
        refine tw_virt0 rfl (g_sign hG hX (g1).1 ((mFr_T g1).trans hT) ((mFr_n g1).trans hN) ⟨p1.2.1.1, by have := p1.2.1; omega⟩) (fun wp742 hp742 p742 => ?_)
        obtain ⟨⟨cp742, rfl, kp742⟩, rfl⟩ := p742
        refine tw_iadd rfl ?_
        refine tw_push rfl ?_
        refine tw_isub rfl ?_
        refine tw_goto rfl ?_
        refine tw_istore rfl ?_
        refine tw_iinc rfl rfl ?_
        refine tw_aload rfl rfl ?_
        refine tw_dup rfl ?_
        refine tw_getS rfl (hi_111_28 (g1).1) ?_
        refine tw_push rfl ?_
        refine tw_iadd rfl ?_
        refine tw_put rfl (fun f743 => ?_)
        refine tG_setm f743 (hw_111_28 f743 (g1).1) (fun hf743 ef743 => ?_)
        try dsimp only [tvI_i] at ef743
        have gf743 := mFr_s g1 ef743 (by unfold mFs; omega)
        have wf743 := (sgm_d kp738).mp p739
        rw [hms] at wf743
        have wf743 : (ms h).1 + k < n ∧ 48 ≤ (T ((ms h).1 + k)).toInt ∧ (T ((ms h).1 + k)).toInt ≤ 57 := wf743
        obtain ⟨pf743, sf743, tf743⟩ := mTo p1 ((mFr_n g1).trans hN) ef743 (v := (ms h).1 + (k + 1)) (zincN (n := (ms h).1 + k) (by rw [mPl p1, hms]; rfl) (by omega)) wf743.1
        refine tw_goto rfl ?_
        have hd2 := (rD_y wf743).symm.trans hrd
        have hk5 : k < 5 := by have z := q740; omega
        have hm5 : min k 5 = k := by omega
        have hm6 : min (k + 1) 5 = k + 1 := by omega
        rw [hm5] at hy hyb
        have hc2 : cp742 = T ((ms h).1 + k) := kp742.elim (fun z => by rw [z.2, hms]; rfl) (fun z => absurd (by rw [hms]; exact wf743.1) z.1)
        have hq4 : 10 ^ k ≤ 10000 := Nat.pow_le_pow_right (n := 10) (by omega) (show k ≤ 4 by omega)
        have hnn := cNum2 hy hyb hq4 (t := T ((ms h).1 + k)) ⟨wf743.2.1, wf743.2.2⟩
        exact tG_cut (zW_mono zTt G dp) (Or.inr ⟨rfl, rfl, _, k + 1, _, _, rfl, gf743, pf743, (by rw [sf743, hms]; rfl), tf743.trans hsk, (mI_o ef743 (by decide)).trans h32, (by omega), hd2, zincN hx (by omega), (by rw [hm6]; show (10 * y + cp742 - 48).toInt = _; rw [hc2]; exact hnn.1), (by rw [hm6, Nat.pow_succ]; exact hnn.2), rfl⟩)
    · try dsimp only [tvI_i, tvJ_j, tvR_r] at p739
      refine tw_if_eq rfl (fun _ => ?_) (fun z => absurd z (by decide))
      refine tw_iload rfl rfl ?_
      refine tw_push rfl ?_
      refine tw_ic_gt rfl (fun q744 => ?_) (fun q744 => ?_)
      · try dsimp only [tvI_i, tvJ_j, tvR_r] at q744
        refine tw_aload rfl rfl ?_
        refine tw_push rfl ?_
        refine tw_iload rfl rfl ?_
        refine tw_virt2 rfl (g_fails hG hX (g1).1 p1 ((mFr_T g1).trans hT) ((mFr_n g1).trans hN) (w := 1) (b := (ms h).1) rfl (by decide) (mPl hp) (by omega)) (fun wp745 hp745 p745 => ?_)
        obtain ⟨rfl, gp745, Fp745, ip745, jp745⟩ := p745
        have ggp745 := mFr_t g1 gp745
        refine tw_iload rfl rfl ?_
        have w0 := (sgm_d kp736).mp p737
        have hge := rD_ge (T := T) (n := n) (p := (ms h).1 + 1)
        rw [← rD_y w0] at hge
        have hnd : rD T n ((ms h).1 + k) = (ms h).1 + k := rD_n (fun z => p739 ((sgm_d kp738).mpr (by rw [hms]; exact z)))
        have hrb : rD T n (ms h).1 = (ms h).1 + k := hrd.symm.trans hnd
        have hk0 : k ≠ 0 := by omega
        have z0 := q744
        have hyn : 0 ≤ y.toInt := by omega
        have hbig : 5 < k ∨ M < rV T (ms h).1 k := by
          rcases Nat.lt_or_ge 5 k with a | a
          · exact Or.inl a
          · rw [show min k 5 = k by omega] at hy; exact Or.inr (by omega)
        exact tw_iret rfl ⟨ggp745, Or.inr ⟨_, _, rM_b hB hrb hk0 hbig, rfl, hyn, Fp745, mZp_k (mZp_p p1) ip745 jp745⟩⟩
      · try dsimp only [tvI_i, tvJ_j, tvR_r] at q744
        refine tw_iload rfl rfl ?_
        refine tw_iload rfl rfl ?_
        refine tw_ic_le rfl (fun q746 => ?_) (fun q746 => ?_)
        · try dsimp only [tvI_i, tvJ_j, tvR_r] at q746
          refine tw_iload rfl rfl ?_
          have w0 := (sgm_d kp736).mp p737
          have hge := rD_ge (T := T) (n := n) (p := (ms h).1 + 1)
          rw [← rD_y w0] at hge
          have hnd : rD T n ((ms h).1 + k) = (ms h).1 + k := rD_n (fun z => p739 ((sgm_d kp738).mpr (by rw [hms]; exact z)))
          have hrb : rD T n (ms h).1 = (ms h).1 + k := hrd.symm.trans hnd
          have hk0 : k ≠ 0 := by omega
          have z0 := q744
          have z1 := q746
          have hyn : 0 ≤ y.toInt := by omega
          have hk5 : k ≤ 5 := by omega
          rw [show min k 5 = k by omega] at hy
          exact tw_iret rfl ⟨g1, Or.inl ⟨_, rM_c hB hrb hk0 (by omega), congrArg (fun z => some (Value.int z)) (zof hy), p1, hms, hsk, h32⟩⟩
        · try dsimp only [tvI_i, tvJ_j, tvR_r] at q746
          refine tw_aload rfl rfl ?_
          refine tw_push rfl ?_
          refine tw_iload rfl rfl ?_
          refine tw_virt2 rfl (g_fails hG hX (g1).1 p1 ((mFr_T g1).trans hT) ((mFr_n g1).trans hN) (w := 1) (b := (ms h).1) rfl (by decide) (mPl hp) (by omega)) (fun wp747 hp747 p747 => ?_)
          obtain ⟨rfl, gp747, Fp747, ip747, jp747⟩ := p747
          have ggp747 := mFr_t g1 gp747
          refine tw_iload rfl rfl ?_
          have w0 := (sgm_d kp736).mp p737
          have hge := rD_ge (T := T) (n := n) (p := (ms h).1 + 1)
          rw [← rD_y w0] at hge
          have hnd : rD T n ((ms h).1 + k) = (ms h).1 + k := rD_n (fun z => p739 ((sgm_d kp738).mpr (by rw [hms]; exact z)))
          have hrb : rD T n (ms h).1 = (ms h).1 + k := hrd.symm.trans hnd
          have hk0 : k ≠ 0 := by omega
          have z0 := q744
          have z1 := q746
          have hyn : 0 ≤ y.toInt := by omega
          have hbig : 5 < k ∨ M < rV T (ms h).1 k := by
            rcases Nat.lt_or_ge 5 k with a | a
            · exact Or.inl a
            · rw [show min k 5 = k by omega] at hy; exact Or.inr (by omega)
          exact tw_iret rfl ⟨ggp747, Or.inr ⟨_, _, rM_b hB hrb hk0 hbig, rfl, hyn, Fp747, mZp_k (mZp_p p1) ip747 jp747⟩⟩
  · try dsimp only [tvI_i, tvJ_j, tvR_r] at p737
    refine tw_if_ne rfl (fun z => absurd z (by decide)) (fun _ => ?_)
    refine tw_aload rfl rfl ?_
    refine tw_push rfl ?_
    refine tw_aload rfl rfl ?_
    refine tw_getS rfl (hi_111_28 (g0).1) ?_
    refine tw_virt2 rfl (g_fails hG hX (g0).1 hp ((mFr_T g0).trans hT) ((mFr_n g0).trans hN) (w := 0) (b := (ms h).1) rfl (by decide) (mPl hp) (by omega)) (fun wp748 hp748 p748 => ?_)
    obtain ⟨rfl, gp748, Fp748, ip748, jp748⟩ := p748
    have ggp748 := mFr_t g0 gp748
    refine tw_push rfl ?_
    have hnd : rD T n (ms h).1 = (ms h).1 := rD_n (fun z => p737 ((sgm_d kp736).mpr z))
    exact tw_iret rfl ⟨ggp748, Or.inr ⟨_, _, rM_a hB hnd, rfl, by decide, Fp748, mZp_k (mZp_p hp) ip748 jp748⟩⟩
theorem mhead {S : List Nat} {k : Nat} (h : S.headD 0 = k + 1) : S = (k + 1) :: S.tail := by
  cases S with
  | nil => cases h
  | cons x r => rw [show x = k + 1 from h]; rfl
theorem mT_y (r o : List Nat) : mT (102 :: r) o = mT r (o ++ [100102]) := if_pos rfl
theorem mN_y (r o : List Nat) : mN (10 :: r) o = mN r (o ++ [100110]) := if_pos rfl
theorem mA_y (r o : List Nat) : mA (11 :: r) o = mA r (o ++ [100109]) := if_pos rfl
theorem mO_y (r o : List Nat) : mO1 (12 :: r) o = mO1 r (o ++ [100108]) := if_pos rfl
theorem mP_y (r o : List Nat) : mPm (103 :: r) o = mPm r (o ++ [100100]) := if_pos rfl
theorem mM_y (r o : List Nat) : mPm (104 :: r) o = mPm r (o ++ [100101]) := (if_neg (by decide)).trans (if_pos rfl)
theorem mne {S : List Nat} {k : Nat} (h : S.headD 0 = k + 1) : S ≠ [] := fun z => by rw [z] at h; cases h
theorem g_makesProducts {G : zG} (hG : G.1 = zProg) (hX : G.2.1 = ztx) {h : zH} {T : Nat → Int32} {n : Nat} (hs : tSh h) (hp : mP h) (hT : tA h 132 = T) (hN : mn h = n)  : tC zTt G 214 [.ref 111] h (fun w h2 => w = none ∧ mFr h h2 ∧ mP h2 ∧ (ms h2).1 = (ms h).1 ∧ (ms h2).2.1 = (ms h).2.1 ∧ (mSk h2, (ms h2).2.2) = mT (mSk h) (ms h).2.2 ∧ tF h2 111 32 = tF h 111 32) := by
  refine tC_in (by rw [hG]; rfl) (fun dp => ?_)
  have g0 := mFr_r hs
  have hpn : (ms h).1 ≤ n := mPle hp hN
  refine tG_loop (zW_mono zTt G dp) (zW_conj zTt G dp) (V := fun pc L st h9 _ _ => pc = 0 ∧ st = [] ∧ ∃ h1, h1 = h9 ∧ mFr h h1 ∧ mP h1 ∧ (ms h1).1 = (ms h).1 ∧ (ms h1).2.1 = (ms h).2.1 ∧ mT (mSk h1) (ms h1).2.2 = mT (mSk h) (ms h).2.2 ∧ tF h1 111 32 = tF h 111 32 ∧ L = [some (.ref 111)]) ?_ (⟨rfl, rfl, _, rfl, g0, hp, rfl, rfl, rfl, rfl, rfl⟩)
  rintro _ _ _ _ _ _ ⟨rfl, rfl, h1, rfl, g1, p1, e1, e2, hL, h32, rfl⟩
  refine tw_aload rfl rfl ?_
  refine tw_virt0 rfl (g_top hG hX (g1).1 p1 ((mFr_T g1).trans hT) ((mFr_n g1).trans hN)) (fun wp749 hp749 p749 => ?_)
  obtain ⟨⟨cp749, rfl, Tp749⟩, rfl⟩ := p749
  refine tw_push rfl ?_
  refine tw_ic_ne rfl (fun q750 => ?_) (fun q750 => ?_)
  · try dsimp only [tvI_i, tvJ_j, tvR_r] at q750
    have q750i := zneq (Y := 102) (by decide) q750
    have hfin : (mSk h1, (ms h1).2.2) = mT (mSk h) (ms h).2.2 := by rw [← hL, mT_n (fun z => q750 ((tpm_k Tp749 (k := 102) (K := 102) rfl (by decide)).mpr z))]
    exact tw_vret rfl ⟨rfl, g1, p1, e1, e2, hfin, h32⟩
  · try dsimp only [tvI_i, tvJ_j, tvR_r] at q750
    have q750i := zeqi (Y := 102) (by decide) q750
    refine tw_aload rfl rfl ?_
    refine tw_push rfl ?_
    refine tw_push rfl ?_
    have hhd : (mSk h1).headD 0 = 102 := (tpm_k Tp749 (k := 102) (K := 102) rfl (by decide)).mp q750
    have hne := mne (k := 101) hhd
    have hst : mSk h1 = 102 :: (mSk h1).tail := mhead (k := 101) hhd
    refine tw_virt2 rfl (g_entry hG hX (g1).1 p1 ((mFr_T g1).trans hT) ((mFr_n g1).trans hN) ⟨by decide, by decide⟩) (fun wp751 hp751 p751 => ?_)
    obtain ⟨rfl, gp751, pp751e, sp751, tp751, dp751⟩ := p751
    have ggp751 := mFr_t g1 gp751
    refine tw_aload rfl rfl ?_
    refine tw_dup rfl ?_
    refine tw_getS rfl (hi_111_34 ggp751.1) ?_
    refine tw_push rfl ?_
    refine tw_isub rfl ?_
    refine tw_put rfl (fun f752 => ?_)
    refine tG_setm f752 (hw_111_34 f752 (ggp751).1) (fun hf752 ef752 => ?_)
    try dsimp only [tvI_i] at ef752
    have gf752 := mFr_s ggp751 ef752 (by unfold mFs; omega)
    have hnef752 : mSk hp751 ≠ [] := by rw [tp751]; exact hne
    obtain ⟨pf752, tf752, sf752, df752⟩ := mSk_pop pp751e hnef752 ef752
    refine tw_goto rfl ?_
    have hst : mSk h1 = 102 :: (mSk h1).tail := mhead (k := 101) hhd
    have hsp : mSk hf752 = (mSk h1).tail := by rw [tf752, tp751]
    have hms2 : ms hf752 = rU 100102 (ms h1) := by rw [sf752, sp751]; rfl
    have hlp : mT (mSk hf752) (ms hf752).2.2 = mT (mSk h) (ms h).2.2 := by rw [hsp, hms2, ← hL, hst]; exact (mT_y (mSk h1).tail _).symm
    exact tG_cut (zW_mono zTt G dp) (Or.inr ⟨rfl, rfl, _, rfl, gf752, pf752, by rw [hms2]; exact e1, by rw [hms2]; exact e2, hlp, df752.trans (dp751.trans h32), rfl⟩)
theorem g_makesNots {G : zG} (hG : G.1 = zProg) (hX : G.2.1 = ztx) {h : zH} {T : Nat → Int32} {n : Nat} (hs : tSh h) (hp : mP h) (hT : tA h 132 = T) (hN : mn h = n) (hD : mD h) : tC zTt G 219 [.ref 111] h (fun w h2 => w = none ∧ mFr h h2 ∧ mP h2 ∧ (ms h2).1 = (ms h).1 ∧ (ms h2).2.1 = (ms h).2.1 ∧ (mSk h2, (ms h2).2.2) = mN (mSk h) (ms h).2.2 ∧ mD h2) := by
  refine tC_in (by rw [hG]; rfl) (fun dp => ?_)
  have g0 := mFr_r hs
  have hpn : (ms h).1 ≤ n := mPle hp hN
  refine tG_loop (zW_mono zTt G dp) (zW_conj zTt G dp) (V := fun pc L st h9 _ _ => pc = 0 ∧ st = [] ∧ ∃ h1, h1 = h9 ∧ mFr h h1 ∧ mP h1 ∧ (ms h1).1 = (ms h).1 ∧ (ms h1).2.1 = (ms h).2.1 ∧ mN (mSk h1) (ms h1).2.2 = mN (mSk h) (ms h).2.2 ∧ mD h1 ∧ L = [some (.ref 111)]) ?_ (⟨rfl, rfl, _, rfl, g0, hp, rfl, rfl, rfl, hD, rfl⟩)
  rintro _ _ _ _ _ _ ⟨rfl, rfl, h1, rfl, g1, p1, e1, e2, hL, hDn, rfl⟩
  refine tw_aload rfl rfl ?_
  refine tw_virt0 rfl (g_top hG hX (g1).1 p1 ((mFr_T g1).trans hT) ((mFr_n g1).trans hN)) (fun wp753 hp753 p753 => ?_)
  obtain ⟨⟨cp753, rfl, Tp753⟩, rfl⟩ := p753
  refine tw_push rfl ?_
  refine tw_ic_ne rfl (fun q754 => ?_) (fun q754 => ?_)
  · try dsimp only [tvI_i, tvJ_j, tvR_r] at q754
    have q754i := zneq (Y := 10) (by decide) q754
    have hfin : (mSk h1, (ms h1).2.2) = mN (mSk h) (ms h).2.2 := by rw [← hL, mN_n (fun z => q754 ((tpm_k Tp753 (k := 10) (K := 10) rfl (by decide)).mpr z))]
    exact tw_vret rfl ⟨rfl, g1, p1, e1, e2, hfin, hDn⟩
  · try dsimp only [tvI_i, tvJ_j, tvR_r] at q754
    have q754i := zeqi (Y := 10) (by decide) q754
    refine tw_aload rfl rfl ?_
    refine tw_push rfl ?_
    refine tw_push rfl ?_
    have hhd : (mSk h1).headD 0 = 10 := (tpm_k Tp753 (k := 10) (K := 10) rfl (by decide)).mp q754
    have hne := mne (k := 9) hhd
    have hst : mSk h1 = 10 :: (mSk h1).tail := mhead (k := 9) hhd
    refine tw_virt2 rfl (g_entry hG hX (g1).1 p1 ((mFr_T g1).trans hT) ((mFr_n g1).trans hN) ⟨by decide, by decide⟩) (fun wp755 hp755 p755 => ?_)
    obtain ⟨rfl, gp755, pp755e, sp755, tp755, dp755⟩ := p755
    have ggp755 := mFr_t g1 gp755
    refine tw_aload rfl rfl ?_
    refine tw_dup rfl ?_
    refine tw_getS rfl (hi_111_34 ggp755.1) ?_
    refine tw_push rfl ?_
    refine tw_isub rfl ?_
    refine tw_put rfl (fun f756 => ?_)
    refine tG_setm f756 (hw_111_34 f756 (ggp755).1) (fun hf756 ef756 => ?_)
    try dsimp only [tvI_i] at ef756
    have gf756 := mFr_s ggp755 ef756 (by unfold mFs; omega)
    have hnef756 : mSk hp755 ≠ [] := by rw [tp755]; exact hne
    obtain ⟨pf756, tf756, sf756, df756⟩ := mSk_pop pp755e hnef756 ef756
    refine tw_aload rfl rfl ?_
    refine tw_dup rfl ?_
    refine tw_getS rfl (hi_111_32 (gf756).1) ?_
    refine tw_push rfl ?_
    refine tw_isub rfl ?_
    refine tw_put rfl (fun f757 => ?_)
    refine tG_setm f757 (hw_111_32 f757 (gf756).1) (fun hf757 ef757 => ?_)
    try dsimp only [tvI_i] at ef757
    have gf757 := mFr_s gf756 ef757 (by unfold mFs; omega)
    have hdf757 : (tvI (tF hf756 111 32)).toInt = ((mDp (mSk hf756) + 1 : Nat) : Int) := by
      rw [df756, dp755]
      refine (show (tvI (tF h1 111 32)).toInt = (mDp (mSk h1) : Int) from hDn).trans ?_
      rw [tf756, tp755]
      exact congrArg (fun z : Nat => (z : Int)) ((congrArg mDp hst).trans (mDp_c (by decide)))
    obtain ⟨pf757, tf757, sf757, ddf757⟩ := mDn pf756 ef757 hdf757 rfl
    refine tw_goto rfl ?_
    have hst : mSk h1 = 10 :: (mSk h1).tail := mhead (k := 9) hhd
    have hsp : mSk hf757 = (mSk h1).tail := by rw [tf757, tf756, tp755]
    have hms2 : ms hf757 = rU 100110 (ms h1) := by rw [sf757, sf756, sp755]; rfl
    have hlp : mN (mSk hf757) (ms hf757).2.2 = mN (mSk h) (ms h).2.2 := by rw [hsp, hms2, ← hL, hst]; exact (mN_y (mSk h1).tail _).symm
    exact tG_cut (zW_mono zTt G dp) (Or.inr ⟨rfl, rfl, _, rfl, gf757, pf757, by rw [hms2]; exact e1, by rw [hms2]; exact e2, hlp, ddf757, rfl⟩)
theorem g_makesAnds {G : zG} (hG : G.1 = zProg) (hX : G.2.1 = ztx) {h : zH} {T : Nat → Int32} {n : Nat} (hs : tSh h) (hp : mP h) (hT : tA h 132 = T) (hN : mn h = n)  : tC zTt G 220 [.ref 111] h (fun w h2 => w = none ∧ mFr h h2 ∧ mP h2 ∧ (ms h2).1 = (ms h).1 ∧ (ms h2).2.1 = (ms h).2.1 ∧ (mSk h2, (ms h2).2.2) = mA (mSk h) (ms h).2.2 ∧ tF h2 111 32 = tF h 111 32) := by
  refine tC_in (by rw [hG]; rfl) (fun dp => ?_)
  have g0 := mFr_r hs
  have hpn : (ms h).1 ≤ n := mPle hp hN
  refine tG_loop (zW_mono zTt G dp) (zW_conj zTt G dp) (V := fun pc L st h9 _ _ => pc = 0 ∧ st = [] ∧ ∃ h1, h1 = h9 ∧ mFr h h1 ∧ mP h1 ∧ (ms h1).1 = (ms h).1 ∧ (ms h1).2.1 = (ms h).2.1 ∧ mA (mSk h1) (ms h1).2.2 = mA (mSk h) (ms h).2.2 ∧ tF h1 111 32 = tF h 111 32 ∧ L = [some (.ref 111)]) ?_ (⟨rfl, rfl, _, rfl, g0, hp, rfl, rfl, rfl, rfl, rfl⟩)
  rintro _ _ _ _ _ _ ⟨rfl, rfl, h1, rfl, g1, p1, e1, e2, hL, h32, rfl⟩
  refine tw_aload rfl rfl ?_
  refine tw_virt0 rfl (g_top hG hX (g1).1 p1 ((mFr_T g1).trans hT) ((mFr_n g1).trans hN)) (fun wp758 hp758 p758 => ?_)
  obtain ⟨⟨cp758, rfl, Tp758⟩, rfl⟩ := p758
  refine tw_push rfl ?_
  refine tw_ic_ne rfl (fun q759 => ?_) (fun q759 => ?_)
  · try dsimp only [tvI_i, tvJ_j, tvR_r] at q759
    have q759i := zneq (Y := 11) (by decide) q759
    have hfin : (mSk h1, (ms h1).2.2) = mA (mSk h) (ms h).2.2 := by rw [← hL, mA_n (fun z => q759 ((tpm_k Tp758 (k := 11) (K := 11) rfl (by decide)).mpr z))]
    exact tw_vret rfl ⟨rfl, g1, p1, e1, e2, hfin, h32⟩
  · try dsimp only [tvI_i, tvJ_j, tvR_r] at q759
    have q759i := zeqi (Y := 11) (by decide) q759
    refine tw_aload rfl rfl ?_
    refine tw_push rfl ?_
    refine tw_push rfl ?_
    have hhd : (mSk h1).headD 0 = 11 := (tpm_k Tp758 (k := 11) (K := 11) rfl (by decide)).mp q759
    have hne := mne (k := 10) hhd
    have hst : mSk h1 = 11 :: (mSk h1).tail := mhead (k := 10) hhd
    refine tw_virt2 rfl (g_entry hG hX (g1).1 p1 ((mFr_T g1).trans hT) ((mFr_n g1).trans hN) ⟨by decide, by decide⟩) (fun wp760 hp760 p760 => ?_)
    obtain ⟨rfl, gp760, pp760e, sp760, tp760, dp760⟩ := p760
    have ggp760 := mFr_t g1 gp760
    refine tw_aload rfl rfl ?_
    refine tw_dup rfl ?_
    refine tw_getS rfl (hi_111_34 ggp760.1) ?_
    refine tw_push rfl ?_
    refine tw_isub rfl ?_
    refine tw_put rfl (fun f761 => ?_)
    refine tG_setm f761 (hw_111_34 f761 (ggp760).1) (fun hf761 ef761 => ?_)
    try dsimp only [tvI_i] at ef761
    have gf761 := mFr_s ggp760 ef761 (by unfold mFs; omega)
    have hnef761 : mSk hp760 ≠ [] := by rw [tp760]; exact hne
    obtain ⟨pf761, tf761, sf761, df761⟩ := mSk_pop pp760e hnef761 ef761
    refine tw_goto rfl ?_
    have hst : mSk h1 = 11 :: (mSk h1).tail := mhead (k := 10) hhd
    have hsp : mSk hf761 = (mSk h1).tail := by rw [tf761, tp760]
    have hms2 : ms hf761 = rU 100109 (ms h1) := by rw [sf761, sp760]; rfl
    have hlp : mA (mSk hf761) (ms hf761).2.2 = mA (mSk h) (ms h).2.2 := by rw [hsp, hms2, ← hL, hst]; exact (mA_y (mSk h1).tail _).symm
    exact tG_cut (zW_mono zTt G dp) (Or.inr ⟨rfl, rfl, _, rfl, gf761, pf761, by rw [hms2]; exact e1, by rw [hms2]; exact e2, hlp, df761.trans (dp760.trans h32), rfl⟩)
theorem g_makesSums {G : zG} (hG : G.1 = zProg) (hX : G.2.1 = ztx) {h : zH} {T : Nat → Int32} {n : Nat} (hs : tSh h) (hp : mP h) (hT : tA h 132 = T) (hN : mn h = n)  : tC zTt G 215 [.ref 111] h (fun w h2 => w = none ∧ mFr h h2 ∧ mP h2 ∧ (ms h2).1 = (ms h).1 ∧ (ms h2).2.1 = (ms h).2.1 ∧ (mSk h2, (ms h2).2.2) = mS (mSk h) (ms h).2.2 ∧ tF h2 111 32 = tF h 111 32) := by
  refine tC_in (by rw [hG]; rfl) (fun dp => ?_)
  have g0 := mFr_r hs
  have hpn : (ms h).1 ≤ n := mPle hp hN
  refine tw_aload rfl rfl ?_
  refine tw_virt0 rfl (g_makesProducts hG hX (g0).1 hp ((mFr_T g0).trans hT) ((mFr_n g0).trans hN)) (fun wp762 hp762 p762 => ?_)
  obtain ⟨rfl, gp762, pp762e, ap762, bp762, mp762, dp762⟩ := p762
  have ggp762 := mFr_t g0 gp762
  refine tG_loop (zW_mono zTt G dp) (zW_conj zTt G dp) (V := fun pc L st h9 _ _ => pc = 4 ∧ st = [] ∧ ∃ h1, h1 = h9 ∧ mFr h h1 ∧ mP h1 ∧ (ms h1).1 = (ms h).1 ∧ (ms h1).2.1 = (ms h).2.1 ∧ mPm (mSk h1) (ms h1).2.2 = mS (mSk h) (ms h).2.2 ∧ tF h1 111 32 = tF h 111 32 ∧ L = [some (.ref 111)]) ?_ (⟨rfl, rfl, _, rfl, ggp762, pp762e, ap762, bp762, (by unfold mS; rw [← mp762]), dp762, rfl⟩)
  rintro _ _ _ _ _ _ ⟨rfl, rfl, h1, rfl, g1, p1, e1, e2, hL, h32, rfl⟩
  refine tw_aload rfl rfl ?_
  refine tw_virt0 rfl (g_top hG hX (g1).1 p1 ((mFr_T g1).trans hT) ((mFr_n g1).trans hN)) (fun wp763 hp763 p763 => ?_)
  obtain ⟨⟨cp763, rfl, Tp763⟩, rfl⟩ := p763
  refine tw_push rfl ?_
  refine tw_ic_eq rfl (fun q764 => ?_) (fun q764 => ?_)
  · try dsimp only [tvI_i, tvJ_j, tvR_r] at q764
    have q764i := zeqi (Y := 103) (by decide) q764
    refine tw_aload rfl rfl ?_
    refine tw_aload rfl rfl ?_
    refine tw_virt0 rfl (g_top hG hX (g1).1 p1 ((mFr_T g1).trans hT) ((mFr_n g1).trans hN)) (fun wp765 hp765 p765 => ?_)
    obtain ⟨⟨cp765, rfl, Tp765⟩, rfl⟩ := p765
    refine tw_push rfl ?_
    refine tw_isub rfl ?_
    refine tw_push rfl ?_
    have hhd : (mSk h1).headD 0 = 103 := (tpm_k Tp763 (k := 103) (K := 103) rfl (by decide)).mp q764
    have hne := mne (k := 102) hhd
    have hst : mSk h1 = 103 :: (mSk h1).tail := mhead (k := 102) hhd
    have hc9 := (tpm_k Tp765 (k := 103) (K := 103) rfl (by decide)).mpr hhd
    subst hc9
    refine tw_virt2 rfl (g_entry hG hX (g1).1 p1 ((mFr_T g1).trans hT) ((mFr_n g1).trans hN) ⟨by decide, by decide⟩) (fun wp766 hp766 p766 => ?_)
    obtain ⟨rfl, gp766, pp766e, sp766, tp766, dp766⟩ := p766
    have ggp766 := mFr_t g1 gp766
    refine tw_aload rfl rfl ?_
    refine tw_dup rfl ?_
    refine tw_getS rfl (hi_111_34 ggp766.1) ?_
    refine tw_push rfl ?_
    refine tw_isub rfl ?_
    refine tw_put rfl (fun f767 => ?_)
    refine tG_setm f767 (hw_111_34 f767 (ggp766).1) (fun hf767 ef767 => ?_)
    try dsimp only [tvI_i] at ef767
    have gf767 := mFr_s ggp766 ef767 (by unfold mFs; omega)
    have hnef767 : mSk hp766 ≠ [] := by rw [tp766]; exact hne
    obtain ⟨pf767, tf767, sf767, df767⟩ := mSk_pop pp766e hnef767 ef767
    refine tw_goto rfl ?_
    have hst : mSk h1 = 103 :: (mSk h1).tail := mhead (k := 102) hhd
    have hsp : mSk hf767 = (mSk h1).tail := by rw [tf767, tp766]
    have hms2 : ms hf767 = rU 100100 (ms h1) := by rw [sf767, sp766]; rfl
    have hlp : mPm (mSk hf767) (ms hf767).2.2 = mS (mSk h) (ms h).2.2 := by rw [hsp, hms2, ← hL, hst]; exact (mP_y (mSk h1).tail _).symm
    exact tG_cut (zW_mono zTt G dp) (Or.inr ⟨rfl, rfl, _, rfl, gf767, pf767, by rw [hms2]; exact e1, by rw [hms2]; exact e2, hlp, df767.trans (dp766.trans h32), rfl⟩)
  · try dsimp only [tvI_i, tvJ_j, tvR_r] at q764
    have q764i := zneq (Y := 103) (by decide) q764
    refine tw_aload rfl rfl ?_
    refine tw_virt0 rfl (g_top hG hX (g1).1 p1 ((mFr_T g1).trans hT) ((mFr_n g1).trans hN)) (fun wp768 hp768 p768 => ?_)
    obtain ⟨⟨cp768, rfl, Tp768⟩, rfl⟩ := p768
    refine tw_push rfl ?_
    refine tw_ic_ne rfl (fun q769 => ?_) (fun q769 => ?_)
    · try dsimp only [tvI_i, tvJ_j, tvR_r] at q769
      have q769i := zneq (Y := 104) (by decide) q769
      have hfin : (mSk h1, (ms h1).2.2) = mS (mSk h) (ms h).2.2 := by rw [← hL, mPm_n (fun z => q764 ((tpm_k Tp763 (k := 103) (K := 103) rfl (by decide)).mpr z)) (fun z => q769 ((tpm_k Tp768 (k := 104) (K := 104) rfl (by decide)).mpr z))]
      exact tw_vret rfl ⟨rfl, g1, p1, e1, e2, hfin, h32⟩
    · try dsimp only [tvI_i, tvJ_j, tvR_r] at q769
      have q769i := zeqi (Y := 104) (by decide) q769
      refine tw_aload rfl rfl ?_
      refine tw_aload rfl rfl ?_
      refine tw_virt0 rfl (g_top hG hX (g1).1 p1 ((mFr_T g1).trans hT) ((mFr_n g1).trans hN)) (fun wp770 hp770 p770 => ?_)
      obtain ⟨⟨cp770, rfl, Tp770⟩, rfl⟩ := p770
      refine tw_push rfl ?_
      refine tw_isub rfl ?_
      refine tw_push rfl ?_
      have hhd : (mSk h1).headD 0 = 104 := (tpm_k Tp768 (k := 104) (K := 104) rfl (by decide)).mp q769
      have hne := mne (k := 103) hhd
      have hst : mSk h1 = 104 :: (mSk h1).tail := mhead (k := 103) hhd
      have hc9 := (tpm_k Tp770 (k := 104) (K := 104) rfl (by decide)).mpr hhd
      subst hc9
      refine tw_virt2 rfl (g_entry hG hX (g1).1 p1 ((mFr_T g1).trans hT) ((mFr_n g1).trans hN) ⟨by decide, by decide⟩) (fun wp771 hp771 p771 => ?_)
      obtain ⟨rfl, gp771, pp771e, sp771, tp771, dp771⟩ := p771
      have ggp771 := mFr_t g1 gp771
      refine tw_aload rfl rfl ?_
      refine tw_dup rfl ?_
      refine tw_getS rfl (hi_111_34 ggp771.1) ?_
      refine tw_push rfl ?_
      refine tw_isub rfl ?_
      refine tw_put rfl (fun f772 => ?_)
      refine tG_setm f772 (hw_111_34 f772 (ggp771).1) (fun hf772 ef772 => ?_)
      try dsimp only [tvI_i] at ef772
      have gf772 := mFr_s ggp771 ef772 (by unfold mFs; omega)
      have hnef772 : mSk hp771 ≠ [] := by rw [tp771]; exact hne
      obtain ⟨pf772, tf772, sf772, df772⟩ := mSk_pop pp771e hnef772 ef772
      refine tw_goto rfl ?_
      have hst : mSk h1 = 104 :: (mSk h1).tail := mhead (k := 103) hhd
      have hsp : mSk hf772 = (mSk h1).tail := by rw [tf772, tp771]
      have hms2 : ms hf772 = rU 100101 (ms h1) := by rw [sf772, sp771]; rfl
      have hlp : mPm (mSk hf772) (ms hf772).2.2 = mS (mSk h) (ms h).2.2 := by rw [hsp, hms2, ← hL, hst]; exact (mM_y (mSk h1).tail _).symm
      exact tG_cut (zW_mono zTt G dp) (Or.inr ⟨rfl, rfl, _, rfl, gf772, pf772, by rw [hms2]; exact e1, by rw [hms2]; exact e2, hlp, df772.trans (dp771.trans h32), rfl⟩)
theorem g_makesOrs {G : zG} (hG : G.1 = zProg) (hX : G.2.1 = ztx) {h : zH} {T : Nat → Int32} {n : Nat} (hs : tSh h) (hp : mP h) (hT : tA h 132 = T) (hN : mn h = n)  : tC zTt G 221 [.ref 111] h (fun w h2 => w = none ∧ mFr h h2 ∧ mP h2 ∧ (ms h2).1 = (ms h).1 ∧ (ms h2).2.1 = (ms h).2.1 ∧ (mSk h2, (ms h2).2.2) = mO (mSk h) (ms h).2.2 ∧ tF h2 111 32 = tF h 111 32) := by
  refine tC_in (by rw [hG]; rfl) (fun dp => ?_)
  have g0 := mFr_r hs
  have hpn : (ms h).1 ≤ n := mPle hp hN
  refine tw_aload rfl rfl ?_
  refine tw_virt0 rfl (g_makesAnds hG hX (g0).1 hp ((mFr_T g0).trans hT) ((mFr_n g0).trans hN)) (fun wp773 hp773 p773 => ?_)
  obtain ⟨rfl, gp773, pp773e, ap773, bp773, mp773, dp773⟩ := p773
  have ggp773 := mFr_t g0 gp773
  refine tG_loop (zW_mono zTt G dp) (zW_conj zTt G dp) (V := fun pc L st h9 _ _ => pc = 4 ∧ st = [] ∧ ∃ h1, h1 = h9 ∧ mFr h h1 ∧ mP h1 ∧ (ms h1).1 = (ms h).1 ∧ (ms h1).2.1 = (ms h).2.1 ∧ mO1 (mSk h1) (ms h1).2.2 = mO (mSk h) (ms h).2.2 ∧ tF h1 111 32 = tF h 111 32 ∧ L = [some (.ref 111)]) ?_ (⟨rfl, rfl, _, rfl, ggp773, pp773e, ap773, bp773, (by unfold mO; rw [← mp773]), dp773, rfl⟩)
  rintro _ _ _ _ _ _ ⟨rfl, rfl, h1, rfl, g1, p1, e1, e2, hL, h32, rfl⟩
  refine tw_aload rfl rfl ?_
  refine tw_virt0 rfl (g_top hG hX (g1).1 p1 ((mFr_T g1).trans hT) ((mFr_n g1).trans hN)) (fun wp774 hp774 p774 => ?_)
  obtain ⟨⟨cp774, rfl, Tp774⟩, rfl⟩ := p774
  refine tw_push rfl ?_
  refine tw_ic_ne rfl (fun q775 => ?_) (fun q775 => ?_)
  · try dsimp only [tvI_i, tvJ_j, tvR_r] at q775
    have q775i := zneq (Y := 12) (by decide) q775
    have hfin : (mSk h1, (ms h1).2.2) = mO (mSk h) (ms h).2.2 := by rw [← hL, mO1_n (fun z => q775 ((tpm_k Tp774 (k := 12) (K := 12) rfl (by decide)).mpr z))]
    exact tw_vret rfl ⟨rfl, g1, p1, e1, e2, hfin, h32⟩
  · try dsimp only [tvI_i, tvJ_j, tvR_r] at q775
    have q775i := zeqi (Y := 12) (by decide) q775
    refine tw_aload rfl rfl ?_
    refine tw_push rfl ?_
    refine tw_push rfl ?_
    have hhd : (mSk h1).headD 0 = 12 := (tpm_k Tp774 (k := 12) (K := 12) rfl (by decide)).mp q775
    have hne := mne (k := 11) hhd
    have hst : mSk h1 = 12 :: (mSk h1).tail := mhead (k := 11) hhd
    refine tw_virt2 rfl (g_entry hG hX (g1).1 p1 ((mFr_T g1).trans hT) ((mFr_n g1).trans hN) ⟨by decide, by decide⟩) (fun wp776 hp776 p776 => ?_)
    obtain ⟨rfl, gp776, pp776e, sp776, tp776, dp776⟩ := p776
    have ggp776 := mFr_t g1 gp776
    refine tw_aload rfl rfl ?_
    refine tw_dup rfl ?_
    refine tw_getS rfl (hi_111_34 ggp776.1) ?_
    refine tw_push rfl ?_
    refine tw_isub rfl ?_
    refine tw_put rfl (fun f777 => ?_)
    refine tG_setm f777 (hw_111_34 f777 (ggp776).1) (fun hf777 ef777 => ?_)
    try dsimp only [tvI_i] at ef777
    have gf777 := mFr_s ggp776 ef777 (by unfold mFs; omega)
    have hnef777 : mSk hp776 ≠ [] := by rw [tp776]; exact hne
    obtain ⟨pf777, tf777, sf777, df777⟩ := mSk_pop pp776e hnef777 ef777
    refine tw_goto rfl ?_
    have hst : mSk h1 = 12 :: (mSk h1).tail := mhead (k := 11) hhd
    have hsp : mSk hf777 = (mSk h1).tail := by rw [tf777, tp776]
    have hms2 : ms hf777 = rU 100108 (ms h1) := by rw [sf777, sp776]; rfl
    have hlp : mO1 (mSk hf777) (ms hf777).2.2 = mO (mSk h) (ms h).2.2 := by rw [hsp, hms2, ← hL, hst]; exact (mO_y (mSk h1).tail _).symm
    exact tG_cut (zW_mono zTt G dp) (Or.inr ⟨rfl, rfl, _, rfl, gf777, pf777, by rw [hms2]; exact e1, by rw [hms2]; exact e2, hlp, df777.trans (dp776.trans h32), rfl⟩)
theorem zp0 {x : Int32} {k : Nat} (h : x.toInt = k) : (x + 0).toInt = ((k + 0 : Nat) : Int) := by
  rw [Int32.toInt_add, show (0 : Int32).toInt = 0 from rfl, Int.add_zero, h]
  have := Int32.toInt_lt x
  exact Int.bmod_eq_of_le (by show (-2147483648 : Int) ≤ (k : Int); omega) (by show (k : Int) < (2147483648 : Int); omega)
theorem cmw {K : Int32} {k : Nat} (hk : K.toInt = (k : Int)) {C p : Nat} (h : k + 100098 = C) : K.toInt + 100098 = (((C, p) : Nat × Nat).1 : Int) := by
  show K.toInt + 100098 = (C : Int)
  rw [hk, ← h]
  omega
theorem zp1 {x : Int32} {k : Nat} (h : x.toInt = k) (hk : k ≤ 1000) : (x + 1).toInt = ((k + 1 : Nat) : Int) := zincN h (by omega)
theorem g_compares {G : zG} (hG : G.1 = zProg) (hX : G.2.1 = ztx) {h : zH} {T : Nat → Int32} {n : Nat} (hs : tSh h) (hp : mP h) (hT : tA h 132 = T) (hN : mn h = n)  : tC zTt G 212 [.ref 111] h (fun w h2 => mFr h h2 ∧ ((rCm T n (ms h).1 = none ∧ w = some (.int 0) ∧ h2 = h) ∨ (∃ q, rCm T n (ms h).1 = some q ∧ (((ms h).2.1 ≠ 80 ∧ (∃ x : Int32, w = some (.int x) ∧ x.toInt + 100098 = (q.1 : Int)) ∧ mP h2 ∧ ms h2 = (q.2, (ms h).2.1 + 1, (ms h).2.2) ∧ mSk h2 = mSk h ∧ tF h2 111 32 = tF h 111 32) ∨ ((ms h).2.1 = 80 ∧ ∃ x, w = some (.int x) ∧ 5 ≤ x.toInt ∧ x.toInt ≤ 9 ∧ mFt h2 (1 + 8 * (ms h).1 + 3) ∧ mZp h2))))) := by
  refine tC_in (by rw [hG]; rfl) (fun dp => ?_)
  have g0 := mFr_r hs
  have hpn : (ms h).1 ≤ n := mPle hp hN
  have hn4 : n ≤ 400 := by have a := mNl hp hN; have b := hp.2.1; omega
  refine tw_aload rfl rfl ?_
  refine tw_virt0 rfl (g_sign hG hX (g0).1 ((mFr_T g0).trans hT) ((mFr_n g0).trans hN) ⟨hp.2.1.1, by have := hp.2.1; omega⟩) (fun wp778 hp778 p778 => ?_)
  obtain ⟨⟨cp778, rfl, kp778⟩, rfl⟩ := p778
  refine tw_istore rfl ?_
  refine tw_iload rfl rfl ?_
  refine tw_push rfl ?_
  refine tw_ic_eq rfl (fun q779 => ?_) (fun q779 => ?_)
  · try dsimp only [tvI_i, tvJ_j, tvR_r] at q779
    have q779i := zeqi (Y := 60) (by decide) q779
    refine tw_aload rfl rfl ?_
    refine tw_aload rfl rfl ?_
    refine tw_getS rfl (hi_111_28 (g0).1) ?_
    refine tw_virt1 rfl (g_counts hG hX (g0).1 hp ((mFr_T g0).trans hT) ((mFr_n g0).trans hN) (b := (ms h).1) (mPl hp) (by omega)) (fun w9 hp780 p780 => ?_)
    obtain ⟨rfl, gp780, ⟨np780, pp780e, sp780, tp780, dp780⟩ | ⟨np780, Fp780⟩, ip780, jp780⟩ := p780
    · have ggp780 := mFr_t g0 gp780
      refine tw_aload rfl rfl ?_
      refine tw_dup rfl ?_
      refine tw_getS rfl (hi_111_28 ggp780.1) ?_
      refine tw_push rfl ?_
      refine tw_iadd rfl ?_
      refine tw_put rfl (fun f781 => ?_)
      refine tG_setm f781 (hw_111_28 f781 (ggp780).1) (fun hf781 ef781 => ?_)
      try dsimp only [tvI_i] at ef781
      have gf781 := mFr_s ggp780 ef781 (by unfold mFs; omega)
      have wf781 := (sgm_k kp778 60 (by decide)).mp q779
      obtain ⟨pf781, sf781, tf781⟩ := mTo pp780e ((mFr_n ggp780).trans hN) ef781 (v := (ms h).1 + 1) (zincN (n := (ms h).1) (by rw [mPl pp780e, sp780]) (by omega)) wf781.1
      rw [sp780] at sf781
      refine tw_iload rfl rfl ?_
      refine tw_push rfl ?_
      refine tw_ic_eq rfl (fun q782 => ?_) (fun q782 => ?_)
      · try dsimp only [tvI_i, tvJ_j, tvR_r] at q782
        have q782i := zeqi (Y := 61) (by decide) q782
        exact absurd (q779.symm.trans q782) (by decide)
      · try dsimp only [tvI_i, tvJ_j, tvR_r] at q782
        have q782i := zneq (Y := 61) (by decide) q782
        refine tw_aload rfl rfl ?_
        refine tw_virt0 rfl (g_sign hG hX (gf781).1 ((mFr_T gf781).trans hT) ((mFr_n gf781).trans hN) ⟨pf781.2.1.1, by have := pf781.2.1; omega⟩) (fun wp783 hp783 p783 => ?_)
        obtain ⟨⟨cp783, rfl, kp783⟩, rfl⟩ := p783
        refine tw_push rfl ?_
        refine tw_ic_ne rfl (fun q784 => ?_) (fun q784 => ?_)
        · try dsimp only [tvI_i, tvJ_j, tvR_r] at q784
          have q784i := zneq (Y := 61) (by decide) q784
          refine tw_push rfl ?_
          refine tw_istore rfl ?_
          refine tw_aload rfl rfl ?_
          refine tw_dup rfl ?_
          refine tw_getS rfl (hi_111_28 (gf781).1) ?_
          refine tw_iload rfl rfl ?_
          refine tw_if_eq rfl (fun _ => ?_) (fun z => absurd z (by decide))
          refine tw_push rfl ?_
          refine tw_iadd rfl ?_
          refine tw_put rfl (fun f785 => ?_)
          refine tG_setm f785 (hw_111_28 f785 (gf781).1) (fun hf785 ef785 => ?_)
          try dsimp only [tvI_i] at ef785
          have gf785 := mFr_s gf781 ef785 (by unfold mFs; omega)
          obtain ⟨pf785, sf785, tf785⟩ := mTo pf781 ((mFr_n gf781).trans hN) ef785 (v := (ms h).1 + 1 + 0) (zp0 (by rw [mPl pf781, sf781]; rfl)) (by have z := mPle pf781 ((mFr_n gf781).trans hN); rw [sf781] at z; exact z)
          rw [sf781] at sf785
          refine tw_iload rfl rfl ?_
          refine tw_push rfl ?_
          refine tw_ic_ne rfl (fun q786 => ?_) (fun q786 => ?_)
          · try dsimp only [tvI_i, tvJ_j, tvR_r] at q786
            have q786i := zneq (Y := 61) (by decide) q786
            refine tw_iload rfl rfl ?_
            refine tw_push rfl ?_
            refine tw_ic_ne rfl (fun q787 => ?_) (fun q787 => ?_)
            · try dsimp only [tvI_i, tvJ_j, tvR_r] at q787
              have q787i := zneq (Y := 60) (by decide) q787
              exact absurd q779 q787
            · try dsimp only [tvI_i, tvJ_j, tvR_r] at q787
              have q787i := zeqi (Y := 60) (by decide) q787
              refine tw_iload rfl rfl ?_
              refine tw_if_eq rfl (fun _ => ?_) (fun z => absurd z (by decide))
              refine tw_push rfl ?_
              refine tw_goto rfl ?_
              have w9 := (sgm_k kp778 60 (by decide)).mp q779
              have hk2 := sgm_k kp783 61 (by decide)
              rw [sf781] at hk2
              have hk2 : _ ↔ ((ms h).1 + 1 < n ∧ T ((ms h).1 + 1) = 61) := hk2
              have hq9 := (cm60 w9).trans (if_neg (fun z => q784 (hk2.mpr z)))
              exact tw_iret rfl ⟨gf785, Or.inr ⟨(100103, (ms h).1 + 1), hq9, Or.inl ⟨np780, ⟨5, rfl, cmw (k := 5) (C := 100103) rfl rfl⟩, pf785, sf785, tf785.trans (tf781.trans tp780), (mI_o ef785 (by decide)).trans ((mI_o ef781 (by decide)).trans dp780)⟩⟩⟩
          · try dsimp only [tvI_i, tvJ_j, tvR_r] at q786
            have q786i := zeqi (Y := 61) (by decide) q786
            exact absurd (q779.symm.trans q786) (by decide)
        · try dsimp only [tvI_i, tvJ_j, tvR_r] at q784
          have q784i := zeqi (Y := 61) (by decide) q784
          refine tw_push rfl ?_
          refine tw_goto rfl ?_
          refine tw_istore rfl ?_
          refine tw_aload rfl rfl ?_
          refine tw_dup rfl ?_
          refine tw_getS rfl (hi_111_28 (gf781).1) ?_
          refine tw_iload rfl rfl ?_
          refine tw_if_eq rfl (fun z => absurd z (by decide)) (fun _ => ?_)
          refine tw_push rfl ?_
          refine tw_goto rfl ?_
          refine tw_iadd rfl ?_
          refine tw_put rfl (fun f788 => ?_)
          refine tG_setm f788 (hw_111_28 f788 (gf781).1) (fun hf788 ef788 => ?_)
          try dsimp only [tvI_i] at ef788
          have gf788 := mFr_s gf781 ef788 (by unfold mFs; omega)
          have vf788 := (sgm_k kp783 61 (by decide)).mp q784
          rw [sf781] at vf788
          have vf788 : (ms h).1 + 1 < n ∧ T ((ms h).1 + 1) = 61 := vf788
          obtain ⟨pf788, sf788, tf788⟩ := mTo pf781 ((mFr_n gf781).trans hN) ef788 (v := (ms h).1 + 1 + 1) (zincN (n := (ms h).1 + 1) (by rw [mPl pf781, sf781]; rfl) (by omega)) (by omega)
          rw [sf781] at sf788
          refine tw_iload rfl rfl ?_
          refine tw_push rfl ?_
          refine tw_ic_ne rfl (fun q789 => ?_) (fun q789 => ?_)
          · try dsimp only [tvI_i, tvJ_j, tvR_r] at q789
            have q789i := zneq (Y := 61) (by decide) q789
            refine tw_iload rfl rfl ?_
            refine tw_push rfl ?_
            refine tw_ic_ne rfl (fun q790 => ?_) (fun q790 => ?_)
            · try dsimp only [tvI_i, tvJ_j, tvR_r] at q790
              have q790i := zneq (Y := 60) (by decide) q790
              exact absurd q779 q790
            · try dsimp only [tvI_i, tvJ_j, tvR_r] at q790
              have q790i := zeqi (Y := 60) (by decide) q790
              refine tw_iload rfl rfl ?_
              refine tw_if_eq rfl (fun z => absurd z (by decide)) (fun _ => ?_)
              refine tw_push rfl ?_
              refine tw_goto rfl ?_
              have w9 := (sgm_k kp778 60 (by decide)).mp q779
              have hk2 := sgm_k kp783 61 (by decide)
              rw [sf781] at hk2
              have hk2 : _ ↔ ((ms h).1 + 1 < n ∧ T ((ms h).1 + 1) = 61) := hk2
              have hq9 := (cm60 w9).trans (if_pos (hk2.mp q784))
              exact tw_iret rfl ⟨gf788, Or.inr ⟨(100104, (ms h).1 + 2), hq9, Or.inl ⟨np780, ⟨6, rfl, cmw (k := 6) (C := 100104) rfl rfl⟩, pf788, sf788, tf788.trans (tf781.trans tp780), (mI_o ef788 (by decide)).trans ((mI_o ef781 (by decide)).trans dp780)⟩⟩⟩
          · try dsimp only [tvI_i, tvJ_j, tvR_r] at q789
            have q789i := zeqi (Y := 61) (by decide) q789
            exact absurd (q779.symm.trans q789) (by decide)
    · have ggp780 := mFr_t g0 gp780
      refine tw_aload rfl rfl ?_
      refine tw_dup rfl ?_
      refine tw_getS rfl (hi_111_28 ggp780.1) ?_
      refine tw_push rfl ?_
      refine tw_iadd rfl ?_
      refine tw_put rfl (fun f791 => ?_)
      refine tG_setm f791 (hw_111_28 f791 (ggp780).1) (fun hf791 ef791 => ?_)
      try dsimp only [tvI_i] at ef791
      have gf791 := mFr_s ggp780 ef791 (by unfold mFs; omega)
      have zf791 := mFt_s Fp780 ef791 (by decide)
      have ZBf791 : mZp hp780 := mZp_k (mZp_p hp) ip780 jp780
      have yf791 : (tvI (tF hp780 111 28) + 1).toInt = (((ms h).1 + 1 : Nat) : Int) := zp1 (by rw [ip780]; exact mPl hp) (by omega)
      have Zf791 : mZp hf791 := mZp_s ZBf791 ef791 (by omega)
      refine tw_iload rfl rfl ?_
      refine tw_push rfl ?_
      refine tw_ic_eq rfl (fun q792 => ?_) (fun q792 => ?_)
      · try dsimp only [tvI_i, tvJ_j, tvR_r] at q792
        have q792i := zeqi (Y := 61) (by decide) q792
        exact absurd (q779.symm.trans q792) (by decide)
      · try dsimp only [tvI_i, tvJ_j, tvR_r] at q792
        have q792i := zneq (Y := 61) (by decide) q792
        refine tw_aload rfl rfl ?_
        refine tw_virt0 rfl (g_sign hG hX (gf791).1 ((mFr_T gf791).trans hT) ((mFr_n gf791).trans hN) Zf791.1) (fun wp793 hp793 p793 => ?_)
        obtain ⟨⟨cp793, rfl, kp793⟩, rfl⟩ := p793
        refine tw_push rfl ?_
        refine tw_ic_ne rfl (fun q794 => ?_) (fun q794 => ?_)
        · try dsimp only [tvI_i, tvJ_j, tvR_r] at q794
          have q794i := zneq (Y := 61) (by decide) q794
          refine tw_push rfl ?_
          refine tw_istore rfl ?_
          refine tw_aload rfl rfl ?_
          refine tw_dup rfl ?_
          refine tw_getS rfl (hi_111_28 (gf791).1) ?_
          refine tw_iload rfl rfl ?_
          refine tw_if_eq rfl (fun _ => ?_) (fun z => absurd z (by decide))
          refine tw_push rfl ?_
          refine tw_iadd rfl ?_
          refine tw_put rfl (fun f795 => ?_)
          refine tG_setm f795 (hw_111_28 f795 (gf791).1) (fun hf795 ef795 => ?_)
          try dsimp only [tvI_i] at ef795
          have gf795 := mFr_s gf791 ef795 (by unfold mFs; omega)
          have zf795 := mFt_s zf791 ef795 (by decide)
          have xf795 : (tvI (tF hf791 111 28)).toInt = (((ms h).1 + 1 : Nat) : Int) := by rw [mI_x ef791]; exact yf791
          have Zf795 : mZp hf795 := mZp_s Zf791 ef795 (by have y := zp0 xf795; omega)
          refine tw_iload rfl rfl ?_
          refine tw_push rfl ?_
          refine tw_ic_ne rfl (fun q796 => ?_) (fun q796 => ?_)
          · try dsimp only [tvI_i, tvJ_j, tvR_r] at q796
            have q796i := zneq (Y := 61) (by decide) q796
            refine tw_iload rfl rfl ?_
            refine tw_push rfl ?_
            refine tw_ic_ne rfl (fun q797 => ?_) (fun q797 => ?_)
            · try dsimp only [tvI_i, tvJ_j, tvR_r] at q797
              have q797i := zneq (Y := 60) (by decide) q797
              exact absurd q779 q797
            · try dsimp only [tvI_i, tvJ_j, tvR_r] at q797
              have q797i := zeqi (Y := 60) (by decide) q797
              refine tw_iload rfl rfl ?_
              refine tw_if_eq rfl (fun _ => ?_) (fun z => absurd z (by decide))
              refine tw_push rfl ?_
              refine tw_goto rfl ?_
              have w9 := (sgm_k kp778 60 (by decide)).mp q779
              obtain ⟨q9, hq9⟩ := cm_s (Or.inr (Or.inl w9))
              exact tw_iret rfl ⟨gf795, Or.inr ⟨q9, hq9, Or.inr ⟨np780, _, rfl, by decide, by decide, zf795, Zf795⟩⟩⟩
          · try dsimp only [tvI_i, tvJ_j, tvR_r] at q796
            have q796i := zeqi (Y := 61) (by decide) q796
            exact absurd (q779.symm.trans q796) (by decide)
        · try dsimp only [tvI_i, tvJ_j, tvR_r] at q794
          have q794i := zeqi (Y := 61) (by decide) q794
          refine tw_push rfl ?_
          refine tw_goto rfl ?_
          refine tw_istore rfl ?_
          refine tw_aload rfl rfl ?_
          refine tw_dup rfl ?_
          refine tw_getS rfl (hi_111_28 (gf791).1) ?_
          refine tw_iload rfl rfl ?_
          refine tw_if_eq rfl (fun z => absurd z (by decide)) (fun _ => ?_)
          refine tw_push rfl ?_
          refine tw_goto rfl ?_
          refine tw_iadd rfl ?_
          refine tw_put rfl (fun f798 => ?_)
          refine tG_setm f798 (hw_111_28 f798 (gf791).1) (fun hf798 ef798 => ?_)
          try dsimp only [tvI_i] at ef798
          have gf798 := mFr_s gf791 ef798 (by unfold mFs; omega)
          have zf798 := mFt_s zf791 ef798 (by decide)
          have xf798 : (tvI (tF hf791 111 28)).toInt = (((ms h).1 + 1 : Nat) : Int) := by rw [mI_x ef791]; exact yf791
          have Zf798 : mZp hf798 := mZp_s Zf791 ef798 (by have y := zp1 xf798 (by omega); omega)
          refine tw_iload rfl rfl ?_
          refine tw_push rfl ?_
          refine tw_ic_ne rfl (fun q799 => ?_) (fun q799 => ?_)
          · try dsimp only [tvI_i, tvJ_j, tvR_r] at q799
            have q799i := zneq (Y := 61) (by decide) q799
            refine tw_iload rfl rfl ?_
            refine tw_push rfl ?_
            refine tw_ic_ne rfl (fun q800 => ?_) (fun q800 => ?_)
            · try dsimp only [tvI_i, tvJ_j, tvR_r] at q800
              have q800i := zneq (Y := 60) (by decide) q800
              exact absurd q779 q800
            · try dsimp only [tvI_i, tvJ_j, tvR_r] at q800
              have q800i := zeqi (Y := 60) (by decide) q800
              refine tw_iload rfl rfl ?_
              refine tw_if_eq rfl (fun z => absurd z (by decide)) (fun _ => ?_)
              refine tw_push rfl ?_
              refine tw_goto rfl ?_
              have w9 := (sgm_k kp778 60 (by decide)).mp q779
              obtain ⟨q9, hq9⟩ := cm_s (Or.inr (Or.inl w9))
              exact tw_iret rfl ⟨gf798, Or.inr ⟨q9, hq9, Or.inr ⟨np780, _, rfl, by decide, by decide, zf798, Zf798⟩⟩⟩
          · try dsimp only [tvI_i, tvJ_j, tvR_r] at q799
            have q799i := zeqi (Y := 61) (by decide) q799
            exact absurd (q779.symm.trans q799) (by decide)
  · try dsimp only [tvI_i, tvJ_j, tvR_r] at q779
    have q779i := zneq (Y := 60) (by decide) q779
    refine tw_iload rfl rfl ?_
    refine tw_push rfl ?_
    refine tw_ic_eq rfl (fun q801 => ?_) (fun q801 => ?_)
    · try dsimp only [tvI_i, tvJ_j, tvR_r] at q801
      have q801i := zeqi (Y := 62) (by decide) q801
      refine tw_aload rfl rfl ?_
      refine tw_aload rfl rfl ?_
      refine tw_getS rfl (hi_111_28 (g0).1) ?_
      refine tw_virt1 rfl (g_counts hG hX (g0).1 hp ((mFr_T g0).trans hT) ((mFr_n g0).trans hN) (b := (ms h).1) (mPl hp) (by omega)) (fun w9 hp802 p802 => ?_)
      obtain ⟨rfl, gp802, ⟨np802, pp802e, sp802, tp802, dp802⟩ | ⟨np802, Fp802⟩, ip802, jp802⟩ := p802
      · have ggp802 := mFr_t g0 gp802
        refine tw_aload rfl rfl ?_
        refine tw_dup rfl ?_
        refine tw_getS rfl (hi_111_28 ggp802.1) ?_
        refine tw_push rfl ?_
        refine tw_iadd rfl ?_
        refine tw_put rfl (fun f803 => ?_)
        refine tG_setm f803 (hw_111_28 f803 (ggp802).1) (fun hf803 ef803 => ?_)
        try dsimp only [tvI_i] at ef803
        have gf803 := mFr_s ggp802 ef803 (by unfold mFs; omega)
        have wf803 := (sgm_k kp778 62 (by decide)).mp q801
        obtain ⟨pf803, sf803, tf803⟩ := mTo pp802e ((mFr_n ggp802).trans hN) ef803 (v := (ms h).1 + 1) (zincN (n := (ms h).1) (by rw [mPl pp802e, sp802]) (by omega)) wf803.1
        rw [sp802] at sf803
        refine tw_iload rfl rfl ?_
        refine tw_push rfl ?_
        refine tw_ic_eq rfl (fun q804 => ?_) (fun q804 => ?_)
        · try dsimp only [tvI_i, tvJ_j, tvR_r] at q804
          have q804i := zeqi (Y := 61) (by decide) q804
          exact absurd (q801.symm.trans q804) (by decide)
        · try dsimp only [tvI_i, tvJ_j, tvR_r] at q804
          have q804i := zneq (Y := 61) (by decide) q804
          refine tw_aload rfl rfl ?_
          refine tw_virt0 rfl (g_sign hG hX (gf803).1 ((mFr_T gf803).trans hT) ((mFr_n gf803).trans hN) ⟨pf803.2.1.1, by have := pf803.2.1; omega⟩) (fun wp805 hp805 p805 => ?_)
          obtain ⟨⟨cp805, rfl, kp805⟩, rfl⟩ := p805
          refine tw_push rfl ?_
          refine tw_ic_ne rfl (fun q806 => ?_) (fun q806 => ?_)
          · try dsimp only [tvI_i, tvJ_j, tvR_r] at q806
            have q806i := zneq (Y := 61) (by decide) q806
            refine tw_push rfl ?_
            refine tw_istore rfl ?_
            refine tw_aload rfl rfl ?_
            refine tw_dup rfl ?_
            refine tw_getS rfl (hi_111_28 (gf803).1) ?_
            refine tw_iload rfl rfl ?_
            refine tw_if_eq rfl (fun _ => ?_) (fun z => absurd z (by decide))
            refine tw_push rfl ?_
            refine tw_iadd rfl ?_
            refine tw_put rfl (fun f807 => ?_)
            refine tG_setm f807 (hw_111_28 f807 (gf803).1) (fun hf807 ef807 => ?_)
            try dsimp only [tvI_i] at ef807
            have gf807 := mFr_s gf803 ef807 (by unfold mFs; omega)
            obtain ⟨pf807, sf807, tf807⟩ := mTo pf803 ((mFr_n gf803).trans hN) ef807 (v := (ms h).1 + 1 + 0) (zp0 (by rw [mPl pf803, sf803]; rfl)) (by have z := mPle pf803 ((mFr_n gf803).trans hN); rw [sf803] at z; exact z)
            rw [sf803] at sf807
            refine tw_iload rfl rfl ?_
            refine tw_push rfl ?_
            refine tw_ic_ne rfl (fun q808 => ?_) (fun q808 => ?_)
            · try dsimp only [tvI_i, tvJ_j, tvR_r] at q808
              have q808i := zneq (Y := 61) (by decide) q808
              refine tw_iload rfl rfl ?_
              refine tw_push rfl ?_
              refine tw_ic_ne rfl (fun q809 => ?_) (fun q809 => ?_)
              · try dsimp only [tvI_i, tvJ_j, tvR_r] at q809
                have q809i := zneq (Y := 60) (by decide) q809
                refine tw_iload rfl rfl ?_
                refine tw_if_eq rfl (fun _ => ?_) (fun z => absurd z (by decide))
                refine tw_push rfl ?_
                have w9 := (sgm_k kp778 62 (by decide)).mp q801
                have hk2 := sgm_k kp805 61 (by decide)
                rw [sf803] at hk2
                have hk2 : _ ↔ ((ms h).1 + 1 < n ∧ T ((ms h).1 + 1) = 61) := hk2
                have hq9 := (cm62 w9).trans (if_neg (fun z => q806 (hk2.mpr z)))
                exact tw_iret rfl ⟨gf807, Or.inr ⟨(100107, (ms h).1 + 1), hq9, Or.inl ⟨np802, ⟨9, rfl, cmw (k := 9) (C := 100107) rfl rfl⟩, pf807, sf807, tf807.trans (tf803.trans tp802), (mI_o ef807 (by decide)).trans ((mI_o ef803 (by decide)).trans dp802)⟩⟩⟩
              · try dsimp only [tvI_i, tvJ_j, tvR_r] at q809
                have q809i := zeqi (Y := 60) (by decide) q809
                exact absurd (q801.symm.trans q809) (by decide)
            · try dsimp only [tvI_i, tvJ_j, tvR_r] at q808
              have q808i := zeqi (Y := 61) (by decide) q808
              exact absurd (q801.symm.trans q808) (by decide)
          · try dsimp only [tvI_i, tvJ_j, tvR_r] at q806
            have q806i := zeqi (Y := 61) (by decide) q806
            refine tw_push rfl ?_
            refine tw_goto rfl ?_
            refine tw_istore rfl ?_
            refine tw_aload rfl rfl ?_
            refine tw_dup rfl ?_
            refine tw_getS rfl (hi_111_28 (gf803).1) ?_
            refine tw_iload rfl rfl ?_
            refine tw_if_eq rfl (fun z => absurd z (by decide)) (fun _ => ?_)
            refine tw_push rfl ?_
            refine tw_goto rfl ?_
            refine tw_iadd rfl ?_
            refine tw_put rfl (fun f810 => ?_)
            refine tG_setm f810 (hw_111_28 f810 (gf803).1) (fun hf810 ef810 => ?_)
            try dsimp only [tvI_i] at ef810
            have gf810 := mFr_s gf803 ef810 (by unfold mFs; omega)
            have vf810 := (sgm_k kp805 61 (by decide)).mp q806
            rw [sf803] at vf810
            have vf810 : (ms h).1 + 1 < n ∧ T ((ms h).1 + 1) = 61 := vf810
            obtain ⟨pf810, sf810, tf810⟩ := mTo pf803 ((mFr_n gf803).trans hN) ef810 (v := (ms h).1 + 1 + 1) (zincN (n := (ms h).1 + 1) (by rw [mPl pf803, sf803]; rfl) (by omega)) (by omega)
            rw [sf803] at sf810
            refine tw_iload rfl rfl ?_
            refine tw_push rfl ?_
            refine tw_ic_ne rfl (fun q811 => ?_) (fun q811 => ?_)
            · try dsimp only [tvI_i, tvJ_j, tvR_r] at q811
              have q811i := zneq (Y := 61) (by decide) q811
              refine tw_iload rfl rfl ?_
              refine tw_push rfl ?_
              refine tw_ic_ne rfl (fun q812 => ?_) (fun q812 => ?_)
              · try dsimp only [tvI_i, tvJ_j, tvR_r] at q812
                have q812i := zneq (Y := 60) (by decide) q812
                refine tw_iload rfl rfl ?_
                refine tw_if_eq rfl (fun z => absurd z (by decide)) (fun _ => ?_)
                refine tw_push rfl ?_
                refine tw_goto rfl ?_
                have w9 := (sgm_k kp778 62 (by decide)).mp q801
                have hk2 := sgm_k kp805 61 (by decide)
                rw [sf803] at hk2
                have hk2 : _ ↔ ((ms h).1 + 1 < n ∧ T ((ms h).1 + 1) = 61) := hk2
                have hq9 := (cm62 w9).trans (if_pos (hk2.mp q806))
                exact tw_iret rfl ⟨gf810, Or.inr ⟨(100106, (ms h).1 + 2), hq9, Or.inl ⟨np802, ⟨8, rfl, cmw (k := 8) (C := 100106) rfl rfl⟩, pf810, sf810, tf810.trans (tf803.trans tp802), (mI_o ef810 (by decide)).trans ((mI_o ef803 (by decide)).trans dp802)⟩⟩⟩
              · try dsimp only [tvI_i, tvJ_j, tvR_r] at q812
                have q812i := zeqi (Y := 60) (by decide) q812
                exact absurd (q801.symm.trans q812) (by decide)
            · try dsimp only [tvI_i, tvJ_j, tvR_r] at q811
              have q811i := zeqi (Y := 61) (by decide) q811
              exact absurd (q801.symm.trans q811) (by decide)
      · have ggp802 := mFr_t g0 gp802
        refine tw_aload rfl rfl ?_
        refine tw_dup rfl ?_
        refine tw_getS rfl (hi_111_28 ggp802.1) ?_
        refine tw_push rfl ?_
        refine tw_iadd rfl ?_
        refine tw_put rfl (fun f813 => ?_)
        refine tG_setm f813 (hw_111_28 f813 (ggp802).1) (fun hf813 ef813 => ?_)
        try dsimp only [tvI_i] at ef813
        have gf813 := mFr_s ggp802 ef813 (by unfold mFs; omega)
        have zf813 := mFt_s Fp802 ef813 (by decide)
        have ZBf813 : mZp hp802 := mZp_k (mZp_p hp) ip802 jp802
        have yf813 : (tvI (tF hp802 111 28) + 1).toInt = (((ms h).1 + 1 : Nat) : Int) := zp1 (by rw [ip802]; exact mPl hp) (by omega)
        have Zf813 : mZp hf813 := mZp_s ZBf813 ef813 (by omega)
        refine tw_iload rfl rfl ?_
        refine tw_push rfl ?_
        refine tw_ic_eq rfl (fun q814 => ?_) (fun q814 => ?_)
        · try dsimp only [tvI_i, tvJ_j, tvR_r] at q814
          have q814i := zeqi (Y := 61) (by decide) q814
          exact absurd (q801.symm.trans q814) (by decide)
        · try dsimp only [tvI_i, tvJ_j, tvR_r] at q814
          have q814i := zneq (Y := 61) (by decide) q814
          refine tw_aload rfl rfl ?_
          refine tw_virt0 rfl (g_sign hG hX (gf813).1 ((mFr_T gf813).trans hT) ((mFr_n gf813).trans hN) Zf813.1) (fun wp815 hp815 p815 => ?_)
          obtain ⟨⟨cp815, rfl, kp815⟩, rfl⟩ := p815
          refine tw_push rfl ?_
          refine tw_ic_ne rfl (fun q816 => ?_) (fun q816 => ?_)
          · try dsimp only [tvI_i, tvJ_j, tvR_r] at q816
            have q816i := zneq (Y := 61) (by decide) q816
            refine tw_push rfl ?_
            refine tw_istore rfl ?_
            refine tw_aload rfl rfl ?_
            refine tw_dup rfl ?_
            refine tw_getS rfl (hi_111_28 (gf813).1) ?_
            refine tw_iload rfl rfl ?_
            refine tw_if_eq rfl (fun _ => ?_) (fun z => absurd z (by decide))
            refine tw_push rfl ?_
            refine tw_iadd rfl ?_
            refine tw_put rfl (fun f817 => ?_)
            refine tG_setm f817 (hw_111_28 f817 (gf813).1) (fun hf817 ef817 => ?_)
            try dsimp only [tvI_i] at ef817
            have gf817 := mFr_s gf813 ef817 (by unfold mFs; omega)
            have zf817 := mFt_s zf813 ef817 (by decide)
            have xf817 : (tvI (tF hf813 111 28)).toInt = (((ms h).1 + 1 : Nat) : Int) := by rw [mI_x ef813]; exact yf813
            have Zf817 : mZp hf817 := mZp_s Zf813 ef817 (by have y := zp0 xf817; omega)
            refine tw_iload rfl rfl ?_
            refine tw_push rfl ?_
            refine tw_ic_ne rfl (fun q818 => ?_) (fun q818 => ?_)
            · try dsimp only [tvI_i, tvJ_j, tvR_r] at q818
              have q818i := zneq (Y := 61) (by decide) q818
              refine tw_iload rfl rfl ?_
              refine tw_push rfl ?_
              refine tw_ic_ne rfl (fun q819 => ?_) (fun q819 => ?_)
              · try dsimp only [tvI_i, tvJ_j, tvR_r] at q819
                have q819i := zneq (Y := 60) (by decide) q819
                refine tw_iload rfl rfl ?_
                refine tw_if_eq rfl (fun _ => ?_) (fun z => absurd z (by decide))
                refine tw_push rfl ?_
                have w9 := (sgm_k kp778 62 (by decide)).mp q801
                obtain ⟨q9, hq9⟩ := cm_s (Or.inr (Or.inr w9))
                exact tw_iret rfl ⟨gf817, Or.inr ⟨q9, hq9, Or.inr ⟨np802, _, rfl, by decide, by decide, zf817, Zf817⟩⟩⟩
              · try dsimp only [tvI_i, tvJ_j, tvR_r] at q819
                have q819i := zeqi (Y := 60) (by decide) q819
                exact absurd (q801.symm.trans q819) (by decide)
            · try dsimp only [tvI_i, tvJ_j, tvR_r] at q818
              have q818i := zeqi (Y := 61) (by decide) q818
              exact absurd (q801.symm.trans q818) (by decide)
          · try dsimp only [tvI_i, tvJ_j, tvR_r] at q816
            have q816i := zeqi (Y := 61) (by decide) q816
            refine tw_push rfl ?_
            refine tw_goto rfl ?_
            refine tw_istore rfl ?_
            refine tw_aload rfl rfl ?_
            refine tw_dup rfl ?_
            refine tw_getS rfl (hi_111_28 (gf813).1) ?_
            refine tw_iload rfl rfl ?_
            refine tw_if_eq rfl (fun z => absurd z (by decide)) (fun _ => ?_)
            refine tw_push rfl ?_
            refine tw_goto rfl ?_
            refine tw_iadd rfl ?_
            refine tw_put rfl (fun f820 => ?_)
            refine tG_setm f820 (hw_111_28 f820 (gf813).1) (fun hf820 ef820 => ?_)
            try dsimp only [tvI_i] at ef820
            have gf820 := mFr_s gf813 ef820 (by unfold mFs; omega)
            have zf820 := mFt_s zf813 ef820 (by decide)
            have xf820 : (tvI (tF hf813 111 28)).toInt = (((ms h).1 + 1 : Nat) : Int) := by rw [mI_x ef813]; exact yf813
            have Zf820 : mZp hf820 := mZp_s Zf813 ef820 (by have y := zp1 xf820 (by omega); omega)
            refine tw_iload rfl rfl ?_
            refine tw_push rfl ?_
            refine tw_ic_ne rfl (fun q821 => ?_) (fun q821 => ?_)
            · try dsimp only [tvI_i, tvJ_j, tvR_r] at q821
              have q821i := zneq (Y := 61) (by decide) q821
              refine tw_iload rfl rfl ?_
              refine tw_push rfl ?_
              refine tw_ic_ne rfl (fun q822 => ?_) (fun q822 => ?_)
              · try dsimp only [tvI_i, tvJ_j, tvR_r] at q822
                have q822i := zneq (Y := 60) (by decide) q822
                refine tw_iload rfl rfl ?_
                refine tw_if_eq rfl (fun z => absurd z (by decide)) (fun _ => ?_)
                refine tw_push rfl ?_
                refine tw_goto rfl ?_
                have w9 := (sgm_k kp778 62 (by decide)).mp q801
                obtain ⟨q9, hq9⟩ := cm_s (Or.inr (Or.inr w9))
                exact tw_iret rfl ⟨gf820, Or.inr ⟨q9, hq9, Or.inr ⟨np802, _, rfl, by decide, by decide, zf820, Zf820⟩⟩⟩
              · try dsimp only [tvI_i, tvJ_j, tvR_r] at q822
                have q822i := zeqi (Y := 60) (by decide) q822
                exact absurd (q801.symm.trans q822) (by decide)
            · try dsimp only [tvI_i, tvJ_j, tvR_r] at q821
              have q821i := zeqi (Y := 61) (by decide) q821
              exact absurd (q801.symm.trans q821) (by decide)
    · try dsimp only [tvI_i, tvJ_j, tvR_r] at q801
      have q801i := zneq (Y := 62) (by decide) q801
      refine tw_iload rfl rfl ?_
      refine tw_push rfl ?_
      refine tw_ic_eq rfl (fun q823 => ?_) (fun q823 => ?_)
      · try dsimp only [tvI_i, tvJ_j, tvR_r] at q823
        have q823i := zeqi (Y := 61) (by decide) q823
        refine tw_aload rfl rfl ?_
        refine tw_aload rfl rfl ?_
        refine tw_getS rfl (hi_111_28 (g0).1) ?_
        refine tw_virt1 rfl (g_counts hG hX (g0).1 hp ((mFr_T g0).trans hT) ((mFr_n g0).trans hN) (b := (ms h).1) (mPl hp) (by omega)) (fun w9 hp824 p824 => ?_)
        obtain ⟨rfl, gp824, ⟨np824, pp824e, sp824, tp824, dp824⟩ | ⟨np824, Fp824⟩, ip824, jp824⟩ := p824
        · have ggp824 := mFr_t g0 gp824
          refine tw_aload rfl rfl ?_
          refine tw_dup rfl ?_
          refine tw_getS rfl (hi_111_28 ggp824.1) ?_
          refine tw_push rfl ?_
          refine tw_iadd rfl ?_
          refine tw_put rfl (fun f825 => ?_)
          refine tG_setm f825 (hw_111_28 f825 (ggp824).1) (fun hf825 ef825 => ?_)
          try dsimp only [tvI_i] at ef825
          have gf825 := mFr_s ggp824 ef825 (by unfold mFs; omega)
          have wf825 := (sgm_k kp778 61 (by decide)).mp q823
          obtain ⟨pf825, sf825, tf825⟩ := mTo pp824e ((mFr_n ggp824).trans hN) ef825 (v := (ms h).1 + 1) (zincN (n := (ms h).1) (by rw [mPl pp824e, sp824]) (by omega)) wf825.1
          rw [sp824] at sf825
          refine tw_iload rfl rfl ?_
          refine tw_push rfl ?_
          refine tw_ic_eq rfl (fun q826 => ?_) (fun q826 => ?_)
          · try dsimp only [tvI_i, tvJ_j, tvR_r] at q826
            have q826i := zeqi (Y := 61) (by decide) q826
            refine tw_push rfl ?_
            refine tw_istore rfl ?_
            refine tw_aload rfl rfl ?_
            refine tw_dup rfl ?_
            refine tw_getS rfl (hi_111_28 (gf825).1) ?_
            refine tw_iload rfl rfl ?_
            refine tw_if_eq rfl (fun _ => ?_) (fun z => absurd z (by decide))
            refine tw_push rfl ?_
            refine tw_iadd rfl ?_
            refine tw_put rfl (fun f827 => ?_)
            refine tG_setm f827 (hw_111_28 f827 (gf825).1) (fun hf827 ef827 => ?_)
            try dsimp only [tvI_i] at ef827
            have gf827 := mFr_s gf825 ef827 (by unfold mFs; omega)
            obtain ⟨pf827, sf827, tf827⟩ := mTo pf825 ((mFr_n gf825).trans hN) ef827 (v := (ms h).1 + 1 + 0) (zp0 (by rw [mPl pf825, sf825]; rfl)) (by have z := mPle pf825 ((mFr_n gf825).trans hN); rw [sf825] at z; exact z)
            rw [sf825] at sf827
            refine tw_iload rfl rfl ?_
            refine tw_push rfl ?_
            refine tw_ic_ne rfl (fun q828 => ?_) (fun q828 => ?_)
            · try dsimp only [tvI_i, tvJ_j, tvR_r] at q828
              have q828i := zneq (Y := 61) (by decide) q828
              exact absurd q823 q828
            · try dsimp only [tvI_i, tvJ_j, tvR_r] at q828
              have q828i := zeqi (Y := 61) (by decide) q828
              refine tw_push rfl ?_
              refine tw_goto rfl ?_
              have w9 := (sgm_k kp778 61 (by decide)).mp q823
              have hq9 := cm61 w9
              exact tw_iret rfl ⟨gf827, Or.inr ⟨(100105, (ms h).1 + 1), hq9, Or.inl ⟨np824, ⟨7, rfl, cmw (k := 7) (C := 100105) rfl rfl⟩, pf827, sf827, tf827.trans (tf825.trans tp824), (mI_o ef827 (by decide)).trans ((mI_o ef825 (by decide)).trans dp824)⟩⟩⟩
          · try dsimp only [tvI_i, tvJ_j, tvR_r] at q826
            have q826i := zneq (Y := 61) (by decide) q826
            exact absurd q823 q826
        · have ggp824 := mFr_t g0 gp824
          refine tw_aload rfl rfl ?_
          refine tw_dup rfl ?_
          refine tw_getS rfl (hi_111_28 ggp824.1) ?_
          refine tw_push rfl ?_
          refine tw_iadd rfl ?_
          refine tw_put rfl (fun f829 => ?_)
          refine tG_setm f829 (hw_111_28 f829 (ggp824).1) (fun hf829 ef829 => ?_)
          try dsimp only [tvI_i] at ef829
          have gf829 := mFr_s ggp824 ef829 (by unfold mFs; omega)
          have zf829 := mFt_s Fp824 ef829 (by decide)
          have ZBf829 : mZp hp824 := mZp_k (mZp_p hp) ip824 jp824
          have yf829 : (tvI (tF hp824 111 28) + 1).toInt = (((ms h).1 + 1 : Nat) : Int) := zp1 (by rw [ip824]; exact mPl hp) (by omega)
          have Zf829 : mZp hf829 := mZp_s ZBf829 ef829 (by omega)
          refine tw_iload rfl rfl ?_
          refine tw_push rfl ?_
          refine tw_ic_eq rfl (fun q830 => ?_) (fun q830 => ?_)
          · try dsimp only [tvI_i, tvJ_j, tvR_r] at q830
            have q830i := zeqi (Y := 61) (by decide) q830
            refine tw_push rfl ?_
            refine tw_istore rfl ?_
            refine tw_aload rfl rfl ?_
            refine tw_dup rfl ?_
            refine tw_getS rfl (hi_111_28 (gf829).1) ?_
            refine tw_iload rfl rfl ?_
            refine tw_if_eq rfl (fun _ => ?_) (fun z => absurd z (by decide))
            refine tw_push rfl ?_
            refine tw_iadd rfl ?_
            refine tw_put rfl (fun f831 => ?_)
            refine tG_setm f831 (hw_111_28 f831 (gf829).1) (fun hf831 ef831 => ?_)
            try dsimp only [tvI_i] at ef831
            have gf831 := mFr_s gf829 ef831 (by unfold mFs; omega)
            have zf831 := mFt_s zf829 ef831 (by decide)
            have xf831 : (tvI (tF hf829 111 28)).toInt = (((ms h).1 + 1 : Nat) : Int) := by rw [mI_x ef829]; exact yf829
            have Zf831 : mZp hf831 := mZp_s Zf829 ef831 (by have y := zp0 xf831; omega)
            refine tw_iload rfl rfl ?_
            refine tw_push rfl ?_
            refine tw_ic_ne rfl (fun q832 => ?_) (fun q832 => ?_)
            · try dsimp only [tvI_i, tvJ_j, tvR_r] at q832
              have q832i := zneq (Y := 61) (by decide) q832
              exact absurd q823 q832
            · try dsimp only [tvI_i, tvJ_j, tvR_r] at q832
              have q832i := zeqi (Y := 61) (by decide) q832
              refine tw_push rfl ?_
              refine tw_goto rfl ?_
              have w9 := (sgm_k kp778 61 (by decide)).mp q823
              obtain ⟨q9, hq9⟩ := cm_s (Or.inl w9)
              exact tw_iret rfl ⟨gf831, Or.inr ⟨q9, hq9, Or.inr ⟨np824, _, rfl, by decide, by decide, zf831, Zf831⟩⟩⟩
          · try dsimp only [tvI_i, tvJ_j, tvR_r] at q830
            have q830i := zneq (Y := 61) (by decide) q830
            exact absurd q823 q830
      · try dsimp only [tvI_i, tvJ_j, tvR_r] at q823
        have q823i := zneq (Y := 61) (by decide) q823
        refine tw_push rfl ?_
        exact tw_iret rfl ⟨g0, Or.inl ⟨cm_n (fun z => q823 ((sgm_k kp778 61 (by decide)).mpr z)) (fun z => q779 ((sgm_k kp778 60 (by decide)).mpr z)) (fun z => q801 ((sgm_k kp778 62 (by decide)).mpr z)), rfl, rfl⟩⟩
theorem rWd_lo : ∀ k, k < 16 → rWd k = ztx (k + 2) := by
  have a : (List.range 16).all (fun k => Nat.beq (rWn k) (k + 2)) = true := by decide +kernel
  intro k hk
  have e := Nat.eq_of_beq_eq_true (List.all_eq_true.mp a k (List.mem_range.mpr hk))
  unfold rWd
  rw [e]
theorem zl_lo : ∀ k, k < 16 → (ztx (k + 2)).length ≤ 200 ∧ 0 < (ztx (k + 2)).length := by
  have a : (List.range 16).all (fun k => decide ((ztx (k + 2)).length ≤ 200 ∧ 0 < (ztx (k + 2)).length)) = true := by decide +kernel
  intro k hk
  exact of_decide_eq_true (List.all_eq_true.mp a k (List.mem_range.mpr hk))
noncomputable def mOut (y : rMo) (h2 : zH) : Prop := match y with
  | .inl e => mFt h2 e ∧ mZp h2
  | .inr x => mP h2 ∧ mD h2 ∧ mst h2 = x
theorem mOut_l {y : rMo} {h2 : zH} {e : Nat} (hy : y = .inl e) (k : mFt h2 e) (z : mZp h2) : mOut y h2 := by rw [hy]; exact ⟨k, z⟩
theorem mOut_r {y : rMo} {h2 : zH} {x : rMs} (hy : y = .inr x) (k : mP h2) (d : mD h2) (z : mst h2 = x) : mOut y h2 := by rw [hy]; exact ⟨k, d, z⟩
theorem mD_k {h h2 : zH} (d : mD h) (a : mSk h2 = mSk h) (b : tF h2 111 32 = tF h 111 32) : mD h2 := by
  unfold mD
  rw [a, b]
  exact d
theorem g_wordOf {G : zG} (hG : G.1 = zProg) {h : zH} {x : Int32} {k : Nat} (hx : x.toInt = k) (hk : k < 12) : tC zTt G 199 [.int x] h (fun w h2 => w = some (.retAddr (k + 2)) ∧ h = h2) := by
  refine tC_in (by rw [hG]; rfl) (fun dp => ?_)
  refine tw_iload rfl rfl ?_
  refine tw_table rfl (fun q833 => ?_) (fun t9 q833a q833b q833c => ?_)
  · try dsimp only [tvI_i, tvJ_j, tvR_r] at q833
    refine tw_push rfl ?_
    try dsimp only [tvI_i] at q833
    have hk9 : k = 11 := by omega
    subst hk9
    exact tw_aret rfl ⟨rfl, rfl⟩
  · have q833d : (tvI (.int x)).toInt = 0 ∨ (tvI (.int x)).toInt = 1 ∨ (tvI (.int x)).toInt = 2 ∨ (tvI (.int x)).toInt = 3 ∨ (tvI (.int x)).toInt = 4 ∨ (tvI (.int x)).toInt = 5 ∨ (tvI (.int x)).toInt = 6 ∨ (tvI (.int x)).toInt = 7 ∨ (tvI (.int x)).toInt = 8 ∨ (tvI (.int x)).toInt = 9 ∨ (tvI (.int x)).toInt = 10 := by omega
    rcases q833d with q833 | q833 | q833 | q833 | q833 | q833 | q833 | q833 | q833 | q833 | q833
    · obtain rfl : t9 = 60 := by rw [q833] at q833c; exact Option.some.inj (q833c.symm.trans rfl)
      try dsimp only [tvI_i, tvJ_j, tvR_r] at q833
      refine tw_push rfl ?_
      try dsimp only [tvI_i] at q833
      have hk9 : k = 0 := by omega
      subst hk9
      exact tw_aret rfl ⟨rfl, rfl⟩
    · obtain rfl : t9 = 64 := by rw [q833] at q833c; exact Option.some.inj (q833c.symm.trans rfl)
      try dsimp only [tvI_i, tvJ_j, tvR_r] at q833
      refine tw_push rfl ?_
      try dsimp only [tvI_i] at q833
      have hk9 : k = 1 := by omega
      subst hk9
      exact tw_aret rfl ⟨rfl, rfl⟩
    · obtain rfl : t9 = 68 := by rw [q833] at q833c; exact Option.some.inj (q833c.symm.trans rfl)
      try dsimp only [tvI_i, tvJ_j, tvR_r] at q833
      refine tw_push rfl ?_
      try dsimp only [tvI_i] at q833
      have hk9 : k = 2 := by omega
      subst hk9
      exact tw_aret rfl ⟨rfl, rfl⟩
    · obtain rfl : t9 = 72 := by rw [q833] at q833c; exact Option.some.inj (q833c.symm.trans rfl)
      try dsimp only [tvI_i, tvJ_j, tvR_r] at q833
      refine tw_push rfl ?_
      try dsimp only [tvI_i] at q833
      have hk9 : k = 3 := by omega
      subst hk9
      exact tw_aret rfl ⟨rfl, rfl⟩
    · obtain rfl : t9 = 76 := by rw [q833] at q833c; exact Option.some.inj (q833c.symm.trans rfl)
      try dsimp only [tvI_i, tvJ_j, tvR_r] at q833
      refine tw_push rfl ?_
      try dsimp only [tvI_i] at q833
      have hk9 : k = 4 := by omega
      subst hk9
      exact tw_aret rfl ⟨rfl, rfl⟩
    · obtain rfl : t9 = 80 := by rw [q833] at q833c; exact Option.some.inj (q833c.symm.trans rfl)
      try dsimp only [tvI_i, tvJ_j, tvR_r] at q833
      refine tw_push rfl ?_
      try dsimp only [tvI_i] at q833
      have hk9 : k = 5 := by omega
      subst hk9
      exact tw_aret rfl ⟨rfl, rfl⟩
    · obtain rfl : t9 = 84 := by rw [q833] at q833c; exact Option.some.inj (q833c.symm.trans rfl)
      try dsimp only [tvI_i, tvJ_j, tvR_r] at q833
      refine tw_push rfl ?_
      try dsimp only [tvI_i] at q833
      have hk9 : k = 6 := by omega
      subst hk9
      exact tw_aret rfl ⟨rfl, rfl⟩
    · obtain rfl : t9 = 88 := by rw [q833] at q833c; exact Option.some.inj (q833c.symm.trans rfl)
      try dsimp only [tvI_i, tvJ_j, tvR_r] at q833
      refine tw_push rfl ?_
      try dsimp only [tvI_i] at q833
      have hk9 : k = 7 := by omega
      subst hk9
      exact tw_aret rfl ⟨rfl, rfl⟩
    · obtain rfl : t9 = 92 := by rw [q833] at q833c; exact Option.some.inj (q833c.symm.trans rfl)
      try dsimp only [tvI_i, tvJ_j, tvR_r] at q833
      refine tw_push rfl ?_
      try dsimp only [tvI_i] at q833
      have hk9 : k = 8 := by omega
      subst hk9
      exact tw_aret rfl ⟨rfl, rfl⟩
    · obtain rfl : t9 = 96 := by rw [q833] at q833c; exact Option.some.inj (q833c.symm.trans rfl)
      try dsimp only [tvI_i, tvJ_j, tvR_r] at q833
      refine tw_push rfl ?_
      try dsimp only [tvI_i] at q833
      have hk9 : k = 9 := by omega
      subst hk9
      exact tw_aret rfl ⟨rfl, rfl⟩
    · obtain rfl : t9 = 100 := by rw [q833] at q833c; exact Option.some.inj (q833c.symm.trans rfl)
      try dsimp only [tvI_i, tvJ_j, tvR_r] at q833
      refine tw_push rfl ?_
      try dsimp only [tvI_i] at q833
      have hk9 : k = 10 := by omega
      subst hk9
      exact tw_aret rfl ⟨rfl, rfl⟩
theorem g_thingName {G : zG} (hG : G.1 = zProg) {h : zH} {x : Int32} {k : Nat} (hx : x.toInt = k) (hk : k < 4) : tC zTt G 200 [.int x] h (fun w h2 => w = some (.retAddr (k + 14)) ∧ h = h2) := by
  refine tC_in (by rw [hG]; rfl) (fun dp => ?_)
  refine tw_iload rfl rfl ?_
  refine tw_table rfl (fun q834 => ?_) (fun t9 q834a q834b q834c => ?_)
  · try dsimp only [tvI_i, tvJ_j, tvR_r] at q834
    refine tw_push rfl ?_
    try dsimp only [tvI_i] at q834
    have hk9 : k = 3 := by omega
    subst hk9
    exact tw_aret rfl ⟨rfl, rfl⟩
  · have q834d : (tvI (.int x)).toInt = 0 ∨ (tvI (.int x)).toInt = 1 ∨ (tvI (.int x)).toInt = 2 := by omega
    rcases q834d with q834 | q834 | q834
    · obtain rfl : t9 = 28 := by rw [q834] at q834c; exact Option.some.inj (q834c.symm.trans rfl)
      try dsimp only [tvI_i, tvJ_j, tvR_r] at q834
      refine tw_push rfl ?_
      try dsimp only [tvI_i] at q834
      have hk9 : k = 0 := by omega
      subst hk9
      exact tw_aret rfl ⟨rfl, rfl⟩
    · obtain rfl : t9 = 32 := by rw [q834] at q834c; exact Option.some.inj (q834c.symm.trans rfl)
      try dsimp only [tvI_i, tvJ_j, tvR_r] at q834
      refine tw_push rfl ?_
      try dsimp only [tvI_i] at q834
      have hk9 : k = 1 := by omega
      subst hk9
      exact tw_aret rfl ⟨rfl, rfl⟩
    · obtain rfl : t9 = 36 := by rw [q834] at q834c; exact Option.some.inj (q834c.symm.trans rfl)
      try dsimp only [tvI_i, tvJ_j, tvR_r] at q834
      refine tw_push rfl ?_
      try dsimp only [tvI_i] at q834
      have hk9 : k = 2 := by omega
      subst hk9
      exact tw_aret rfl ⟨rfl, rfl⟩
theorem g_value {G : zG} (hG : G.1 = zProg) (hX : G.2.1 = ztx) {h : zH} {T : Nat → Int32} {n : Nat} (hs : tSh h) (hp : mP h) (hT : tA h 132 = T) (hN : mn h = n) (hD : mD h) (hd : mDp (mSk h) ≤ 1000) (h46s : tvI (tF h 111 46) = 1) : tC zTt G 213 [.ref 111] h (fun w h2 => w = none ∧ mFq h h2 ∧ mOut (mS1 T n (mSk h) (ms h)) h2) := by
  refine tC_in (by rw [hG]; rfl) (fun dp => ?_)
  have g0 := mFr_r hs
  have hpn : (ms h).1 ≤ n := mPle hp hN
  have c129 : (12 : Int32).toInt = 12 := rfl
  have hn4 : n ≤ 400 := by have a := mNl hp hN; have b := hp.2.1; omega
  refine tw_aload rfl rfl ?_
  refine tw_virt0 rfl (g_blanks hG hX (g0).1 hp ((mFr_T g0).trans hT) ((mFr_n g0).trans hN)) (fun wp835 hp835 p835 => ?_)
  obtain ⟨rfl, gp835, pp835e, sp835, tp835, dp835⟩ := p835
  have ggp835 := mFr_t g0 gp835
  refine tw_aload rfl rfl ?_
  refine tw_getS rfl (hi_111_28 ggp835.1) ?_
  refine tw_istore rfl ?_
  refine tw_aload rfl rfl ?_
  refine tw_virt0 rfl (g_sign hG hX (ggp835).1 ((mFr_T ggp835).trans hT) ((mFr_n ggp835).trans hN) ⟨pp835e.2.1.1, by have := pp835e.2.1; omega⟩) (fun wp836 hp836 p836 => ?_)
  obtain ⟨⟨cp836, rfl, kp836⟩, rfl⟩ := p836
  refine tw_push rfl ?_
  refine tw_ic_ne rfl (fun q837 => ?_) (fun q837 => ?_)
  · try dsimp only [tvI_i, tvJ_j, tvR_r] at q837
    have q837i := zneq (Y := 40) (by decide) q837
    refine tw_aload rfl rfl ?_
    refine tw_virt0 rfl (g_sign hG hX (ggp835).1 ((mFr_T ggp835).trans hT) ((mFr_n ggp835).trans hN) ⟨pp835e.2.1.1, by have := pp835e.2.1; omega⟩) (fun wp838 hp838 p838 => ?_)
    obtain ⟨⟨cp838, rfl, kp838⟩, rfl⟩ := p838
    refine tw_stat1 rfl (g_isDigit hG) (fun w9 h9 p839 => ?_)
    obtain ⟨⟨p839, rfl⟩ | ⟨p839, rfl⟩, rfl⟩ := p839
    · try dsimp only [tvI_i, tvJ_j, tvR_r] at p839
      refine tw_if_eq rfl (fun z => absurd z (by decide)) (fun _ => ?_)
      refine tw_aload rfl rfl ?_
      refine tw_push rfl ?_
      refine tw_virt1 rfl (g_digits hG hX (ggp835).1 pp835e ((mFr_T ggp835).trans hT) ((mFr_n ggp835).trans hN) (m := 99999) (M := 99999) rfl (by decide) (by rw [sp835]; exact rB_2)) (fun w9 hp840 p840 => ?_)
      obtain ⟨gp840, ⟨vp840, Np840, rfl, pp840e, sp840, tp840, dp840⟩ | ⟨ep840, xp840, Np840, rfl, x0p840, Fp840, Zp840⟩⟩ := p840
      · have ggp840 := mFr_t ggp835 gp840
        refine tw_istore rfl ?_
        refine tw_aload rfl rfl ?_
        refine tw_iload rfl rfl ?_
        refine tw_virt1 rfl (g_counts hG hX (ggp840).1 pp840e ((mFr_T ggp840).trans hT) ((mFr_n ggp840).trans hN) (b := (rB T n (ms h).1)) ((mPl pp835e).trans (by rw [sp835]; rfl)) (by have := rB_le (T := T) hpn; omega)) (fun w9 hp841 p841 => ?_)
        obtain ⟨rfl, gp841, ⟨np841, pp841e, sp841, tp841, dp841⟩ | ⟨np841, Fp841⟩, ip841, jp841⟩ := p841
        · have ggp841 := mFr_t ggp840 gp841
          refine tw_aload rfl rfl ?_
          refine tw_push rfl ?_
          refine tw_iload rfl rfl ?_
          refine tw_virt2 rfl (g_entry hG hX (ggp841).1 pp841e ((mFr_T ggp841).trans hT) ((mFr_n ggp841).trans hN) ⟨by decide, by show 0 ≤ (Int32.ofNat vp840.2).toInt; have z := Np840; rw [sp835] at z; have := (rM_r (rB_le hpn) z).2.2; rw [zofI (by omega)]; omega⟩) (fun wp842 hp842 p842 => ?_)
          obtain ⟨rfl, gp842, pp842e, sp842, tp842, dp842⟩ := p842
          have ggp842 := mFr_t ggp841 gp842
          refine tw_aload rfl rfl ?_
          refine tw_push rfl ?_
          refine tw_put rfl (fun f843 => ?_)
          refine tG_setm f843 (hw_111_46 f843 (ggp842).1) (fun hf843 ef843 => ?_)
          try dsimp only [tvI_i] at ef843
          have gf843 := mFq_s (mFq_f ggp842) ef843 (Or.inr rfl)
          obtain ⟨pf843, sf843, tf843⟩ := mSte pp842e ef843
          refine tw_goto rfl ?_
          have hdg := (sgm_d kp838).mp p839
          rw [sp835] at hdg
          have hk12 : rK12 T n (rB T n (ms h).1) = none := rK12_n (fun k hk z => by have y := rW_l (by omega) z; have y2 : _ ∧ _ := hdg.2; have y3 : T (rB T n (ms h).1) = T (rA (rB T n (ms h).1) (ms h)).1 := rfl; rw [← y3] at y2; omega)
          have hrm : rM T n 99999 (rB T n (ms h).1) = .inr vp840 := by have z := Np840; rw [sp835] at z; exact z
          have h80 : (ms h).2.1 ≠ 80 := by have z := np841; rw [sp840, sp835] at z; exact z
          have hsk : mSk hf843 = mSk h := by rw [tf843, tp842, tp841, tp840, tp835]
          have h32 : tF hf843 111 32 = tF h 111 32 := (mI_o ef843 (by decide)).trans (dp842.trans (dp841.trans (dp840.trans dp835)))
          have hms : ms hf843 = (vp840.1, (ms h).2.1 + 1, (ms h).2.2 ++ [vp840.2]) := by rw [sf843, sp842, sp841, sp840, sp835]; show (_, _, _ ++ [mCode 0 (Int32.ofNat vp840.2).toNatClampNeg]) = _; rw [zoN (by have := (rM_r (rB_le hpn) hrm).2.2; omega)]; rfl
          exact tw_vret rfl ⟨rfl, gf843, mOut_r (by unfold mS1; rw [if_neg (fun z => q837 ((by have y := sgm_k kp836 40 (by decide); rw [sp835] at y; exact y.mpr z))), hk12]; (try dsimp only); rw [hrm]; (try dsimp only); rw [if_neg h80]) pf843 (mD_k hD hsk h32) (by unfold mst; rw [mI_x ef843, hsk, hms]; rfl)⟩
        · have ggp841 := mFr_t ggp840 gp841
          refine tw_aload rfl rfl ?_
          refine tw_push rfl ?_
          refine tw_iload rfl rfl ?_
          refine tw_virt2 rfl (z_entry hG hX (ggp841).1 Fp841 ((mFr_T ggp841).trans hT) ((mFr_n ggp841).trans hN)) (fun wp844 hp844 p844 => ?_)
          obtain ⟨rfl, e9⟩ := p844
          obtain rfl := e9.symm
          refine tw_aload rfl rfl ?_
          refine tw_push rfl ?_
          refine tw_put rfl (fun f845 => ?_)
          refine tG_setm f845 (hw_111_46 f845 (ggp841).1) (fun hf845 ef845 => ?_)
          try dsimp only [tvI_i] at ef845
          have gf845 := mFq_s (mFq_f ggp841) ef845 (Or.inr rfl)
          have zf845 := mFt_s Fp841 ef845 (by decide)
          refine tw_goto rfl ?_
          have hdg := (sgm_d kp838).mp p839
          rw [sp835] at hdg
          have hk12 : rK12 T n (rB T n (ms h).1) = none := rK12_n (fun k hk z => by have y := rW_l (by omega) z; have y2 : _ ∧ _ := hdg.2; have y3 : T (rB T n (ms h).1) = T (rA (rB T n (ms h).1) (ms h)).1 := rfl; rw [← y3] at y2; omega)
          have hrm : rM T n 99999 (rB T n (ms h).1) = .inr vp840 := by have z := Np840; rw [sp835] at z; exact z
          have h80 : (ms h).2.1 = 80 := by have z := np841; rw [sp840, sp835] at z; exact z
          have Zfin : mZp hf845 := mZp_o (mZp_k (mZp_p pp840e) ip841 jp841) ef845 (by decide)
          exact tw_vret rfl ⟨rfl, gf845, mOut_l (by unfold mS1; rw [if_neg (fun z => q837 ((by have y := sgm_k kp836 40 (by decide); rw [sp835] at y; exact y.mpr z))), hk12]; (try dsimp only); rw [hrm]; (try dsimp only); rw [if_pos h80]) zf845 Zfin⟩
      · have ggp840 := mFr_t ggp835 gp840
        refine tw_istore rfl ?_
        refine tw_aload rfl rfl ?_
        refine tw_iload rfl rfl ?_
        refine tw_virt1 rfl (z_counts hG hX (ggp840).1 Fp840 ((mFr_T ggp840).trans hT) ((mFr_n ggp840).trans hN)) (fun w9 hp846 p846 => ?_)
        obtain ⟨rfl, gp846, Fp846, ip846, jp846⟩ := p846
        · have ggp846 := mFr_t ggp840 gp846
          refine tw_aload rfl rfl ?_
          refine tw_push rfl ?_
          refine tw_iload rfl rfl ?_
          refine tw_virt2 rfl (z_entry hG hX (ggp846).1 Fp846 ((mFr_T ggp846).trans hT) ((mFr_n ggp846).trans hN)) (fun wp847 hp847 p847 => ?_)
          obtain ⟨rfl, e9⟩ := p847
          obtain rfl := e9.symm
          refine tw_aload rfl rfl ?_
          refine tw_push rfl ?_
          refine tw_put rfl (fun f848 => ?_)
          refine tG_setm f848 (hw_111_46 f848 (ggp846).1) (fun hf848 ef848 => ?_)
          try dsimp only [tvI_i] at ef848
          have gf848 := mFq_s (mFq_f ggp846) ef848 (Or.inr rfl)
          have zf848 := mFt_s Fp846 ef848 (by decide)
          refine tw_goto rfl ?_
          have hdg := (sgm_d kp838).mp p839
          rw [sp835] at hdg
          have hk12 : rK12 T n (rB T n (ms h).1) = none := rK12_n (fun k hk z => by have y := rW_l (by omega) z; have y2 : _ ∧ _ := hdg.2; have y3 : T (rB T n (ms h).1) = T (rA (rB T n (ms h).1) (ms h)).1 := rfl; rw [← y3] at y2; omega)
          have hrm : rM T n 99999 (rB T n (ms h).1) = .inl ep840 := by have z := Np840; rw [sp835] at z; exact z
          have Zfin : mZp hf848 := mZp_o (mZp_k Zp840 ip846 jp846) ef848 (by decide)
          exact tw_vret rfl ⟨rfl, gf848, mOut_l (by unfold mS1; rw [if_neg (fun z => q837 ((by have y := sgm_k kp836 40 (by decide); rw [sp835] at y; exact y.mpr z))), hk12]; (try dsimp only); rw [hrm]) zf848 Zfin⟩
    · try dsimp only [tvI_i, tvJ_j, tvR_r] at p839
      refine tw_if_eq rfl (fun _ => ?_) (fun z => absurd z (by decide))
      refine tw_push rfl ?_
      refine tw_istore rfl ?_
      refine tG_loop (zW_mono zTt G dp) (zW_conj zTt G dp) (V := fun pc L st h9 _ _ => pc = 82 ∧ st = [] ∧ hp835 = h9 ∧ ∃ (k : Nat) (x : Int32), x.toInt = k ∧ k ≤ 12 ∧ (∀ i, i < k → ¬ rW T n (rB T n (ms h).1) (rWd i) = true) ∧ L = [some (.ref 111), some (.int (tvI (tF hp835 111 28))), some (.int x)]) ?_ (⟨rfl, rfl, rfl, 0, 0, rfl, by omega, fun i hi => by omega, rfl⟩)
      rintro _ _ _ _ _ _ ⟨rfl, rfl, rfl, k, x, hx, hk, hall, rfl⟩
      refine tw_iload rfl rfl ?_
      refine tw_push rfl ?_
      refine tw_ic_ge rfl (fun q849 => ?_) (fun q849 => ?_)
      · try dsimp only [tvI_i, tvJ_j, tvR_r] at q849
        refine tw_iload rfl rfl ?_
        refine tw_push rfl ?_
        refine tw_ic_ne rfl (fun q850 => ?_) (fun q850 => ?_)
        · try dsimp only [tvI_i, tvJ_j, tvR_r] at q850
          have q850i := zneq (Y := 12) (by decide) q850
          exact absurd (show x.toInt = 12 by have z := q849; omega) (fun z => q850i z)
        · try dsimp only [tvI_i, tvJ_j, tvR_r] at q850
          have q850i := zeqi (Y := 12) (by decide) q850
          refine tw_aload rfl rfl ?_
          refine tw_push rfl ?_
          refine tw_iload rfl rfl ?_
          refine tw_virt2 rfl (g_fails hG hX (ggp835).1 pp835e ((mFr_T ggp835).trans hT) ((mFr_n ggp835).trans hN) (w := 0) (b := (rB T n (ms h).1)) rfl (by decide) ((mPl pp835e).trans (by rw [sp835]; rfl)) (by have := rB_le (T := T) hpn; omega)) (fun wp851 hp851 p851 => ?_)
          obtain ⟨rfl, gp851, Fp851, ip851, jp851⟩ := p851
          have ggp851 := mFr_t ggp835 gp851
          refine tw_goto rfl ?_
          have hk12 : rK12 T n (rB T n (ms h).1) = none := rK12_n (fun i hi => hall i (by have z := q850; have z2 : x.toInt = 12 := q850i; omega))
          have hnd : rD T n (rB T n (ms h).1) = (rB T n (ms h).1) := rD_n (fun z => p839 (by have y := sgm_d kp838; rw [sp835] at y; exact y.mpr z))
          have hrm := rM_a (M := 99999) (T := T) (n := n) (p := (rB T n (ms h).1)) (b := (rB T n (ms h).1)) rB_2 hnd
          have Zfin : mZp hp851 := mZp_k (mZp_p pp835e) ip851 jp851
          exact tw_vret rfl ⟨rfl, mFq_f ggp851, mOut_l (by unfold mS1; rw [if_neg (fun z => q837 ((by have y := sgm_k kp836 40 (by decide); rw [sp835] at y; exact y.mpr z))), hk12]; (try dsimp only); rw [hrm]) Fp851 Zfin⟩
      · try dsimp only [tvI_i, tvJ_j, tvR_r] at q849
        refine tw_aload rfl rfl ?_
        refine tw_iload rfl rfl ?_
        refine tw_stat1 rfl (g_wordOf hG (k := k) hx (by omega)) (fun wp852 hp852 p852 => ?_)
        obtain ⟨rfl, rfl⟩ := p852
        refine tw_virt1 rfl (g_stands hG hX (ggp835).1 ((mFr_T ggp835).trans hT) ((mFr_n ggp835).trans hN) (q := (k + 2)) (zl_lo k (by omega)).1 ⟨pp835e.2.1.1, by have := pp835e.2.1; omega⟩ ⟨by have := pp835e.2.1; omega, pp835e.2.1.2.2⟩) (fun w9 h9 p853 => ?_)
        obtain ⟨⟨p853, rfl⟩ | ⟨p853, rfl⟩, rfl⟩ := p853
        · try dsimp only [tvI_i, tvJ_j, tvR_r] at p853
          refine tw_if_ne rfl (fun _ => ?_) (fun z => absurd z (by decide))
          refine tw_iload rfl rfl ?_
          refine tw_push rfl ?_
          refine tw_ic_ne rfl (fun q854 => ?_) (fun q854 => ?_)
          · try dsimp only [tvI_i, tvJ_j, tvR_r] at q854
            have q854i := zneq (Y := 12) (by decide) q854
            refine tw_aload rfl rfl ?_
            refine tw_iload rfl rfl ?_
            have hk11 : k < 12 := by have z := q849; omega
            have hwk : rW T n (rB T n (ms h).1) (rWd k) = true := by have z := p853; rw [sp835] at z; rw [rWd_lo k (by omega)]; exact z
            refine tw_virt1 rfl (g_counts hG hX (ggp835).1 pp835e ((mFr_T ggp835).trans hT) ((mFr_n ggp835).trans hN) (b := (rB T n (ms h).1)) ((mPl pp835e).trans (by rw [sp835]; rfl)) (by have := rB_le (T := T) hpn; omega)) (fun w9 hp855 p855 => ?_)
            obtain ⟨rfl, gp855, ⟨np855, pp855e, sp855, tp855, dp855⟩ | ⟨np855, Fp855⟩, ip855, jp855⟩ := p855
            · have ggp855 := mFr_t ggp835 gp855
              refine tw_aload rfl rfl ?_
              refine tw_push rfl ?_
              refine tw_iload rfl rfl ?_
              refine tw_virt2 rfl (g_entry hG hX (ggp855).1 pp855e ((mFr_T ggp855).trans hT) ((mFr_n ggp855).trans hN) ⟨by decide, by omega⟩) (fun wp856 hp856 p856 => ?_)
              obtain ⟨rfl, gp856, pp856e, sp856, tp856, dp856⟩ := p856
              have ggp856 := mFr_t ggp855 gp856
              refine tw_aload rfl rfl ?_
              refine tw_dup rfl ?_
              refine tw_getS rfl (hi_111_28 ggp856.1) ?_
              refine tw_iload rfl rfl ?_
              refine tw_stat1 rfl (g_wordOf hG (k := k) hx (by omega)) (fun wp857 hp857 p857 => ?_)
              obtain ⟨rfl, rfl⟩ := p857
              refine tw_tlen rfl ?_
              refine tw_iadd rfl ?_
              refine tw_put rfl (fun f858 => ?_)
              refine tG_setm f858 (hw_111_28 f858 (ggp856).1) (fun hf858 ef858 => ?_)
              try dsimp only [tvI_i] at ef858
              have gf858 := mFr_s ggp856 ef858 (by unfold mFs; omega)
              have hln : (Int32.ofNat (G.2.1 (k + 2)).length).toInt = ((ztx (k + 2)).length : Int) := by rw [hX]; exact zofI (by have := (zl_lo k (by omega)).1; omega)
              have hre : rE T n (rB T n (ms h).1) = (rB T n (ms h).1) + (ztx (k + 2)).length := by rw [rW_e hwk, rWd_lo k (by omega)]
              have hre2 := rE_le (T := T) (rB_le (T := T) hpn)
              obtain ⟨pf858, sf858, tf858⟩ := mTo pp856e ((mFr_n ggp856).trans hN) ef858 (v := (rB T n (ms h).1) + (ztx (k + 2)).length) (zadN (a := (rB T n (ms h).1)) (by rw [mPl pp856e, sp856, sp855, sp835]; rfl) hln (by omega) (by have := (zl_lo k (by omega)).1; omega)) (by omega)
              rw [sp856, sp855, sp835, ← hre] at sf858
              refine tw_aload rfl rfl ?_
              refine tw_push rfl ?_
              refine tw_put rfl (fun f859 => ?_)
              refine tG_setm f859 (hw_111_46 f859 (gf858).1) (fun hf859 ef859 => ?_)
              try dsimp only [tvI_i] at ef859
              have gf859 := mFq_s (mFq_f gf858) ef859 (Or.inr rfl)
              obtain ⟨pf859, sf859, tf859⟩ := mSte pf858 ef859
              have hk12 : rK12 T n (rB T n (ms h).1) = some k := rK12_i (by omega) hwk
              have h80 : (ms h).2.1 ≠ 80 := by have z := np855; rw [sp835] at z; exact z
              have hsk : mSk hf859 = mSk h := by rw [tf859, tf858, tp856, tp855, tp835]
              have h32 : tF hf859 111 32 = tF h 111 32 := (mI_o ef859 (by decide)).trans ((mI_o ef858 (by decide)).trans (dp856.trans (dp855.trans dp835)))
              have hms : ms hf859 = (rE T n (rB T n (ms h).1), (ms h).2.1 + 1, (ms h).2.2 ++ [100000 + k]) := by rw [sf859, sf858]; show (_, _, _ ++ [mCode 1 x.toNatClampNeg]) = _; rw [zof_cl hx, mCode_1 (by omega)]; rfl
              exact tw_vret rfl ⟨rfl, gf859, mOut_r (by unfold mS1; rw [if_neg (fun z => q837 ((by have y := sgm_k kp836 40 (by decide); rw [sp835] at y; exact y.mpr z))), hk12]; (try dsimp only); rw [if_neg h80]) pf859 (mD_k hD hsk h32) (by unfold mst; rw [mI_x ef859, hsk, hms]; rfl)⟩
            · have ggp855 := mFr_t ggp835 gp855
              refine tw_aload rfl rfl ?_
              refine tw_push rfl ?_
              refine tw_iload rfl rfl ?_
              refine tw_virt2 rfl (z_entry hG hX (ggp855).1 Fp855 ((mFr_T ggp855).trans hT) ((mFr_n ggp855).trans hN)) (fun wp860 hp860 p860 => ?_)
              obtain ⟨rfl, e9⟩ := p860
              obtain rfl := e9.symm
              refine tw_aload rfl rfl ?_
              refine tw_dup rfl ?_
              refine tw_getS rfl (hi_111_28 (ggp855).1) ?_
              refine tw_iload rfl rfl ?_
              refine tw_stat1 rfl (g_wordOf hG (k := k) hx (by omega)) (fun wp861 hp861 p861 => ?_)
              obtain ⟨rfl, rfl⟩ := p861
              refine tw_tlen rfl ?_
              refine tw_iadd rfl ?_
              refine tw_put rfl (fun f862 => ?_)
              refine tG_setm f862 (hw_111_28 f862 (ggp855).1) (fun hf862 ef862 => ?_)
              try dsimp only [tvI_i] at ef862
              have gf862 := mFr_s ggp855 ef862 (by unfold mFs; omega)
              have zf862 := mFt_s Fp855 ef862 (by decide)
              have Zbf862 : 0 ≤ (tvI (tF hp855 111 27)).toInt ∧ (tvI (tF hp855 111 27)).toInt ≤ 400 := by rw [show tF hp855 111 27 = tF h 111 27 from mFr_27 ggp855]; have := hp.2.1; omega
              have yf862 : (tvI (tF hp855 111 28)).toInt = (((rB T n (ms h).1) : Nat) : Int) := by rw [ip855, mPl pp835e, sp835]; rfl
              have hln : (Int32.ofNat (G.2.1 (k + 2)).length).toInt = ((ztx (k + 2)).length : Int) := by rw [hX]; exact zofI (by have := (zl_lo k (by omega)).1; omega)
              have Zf862 : mZp hf862 := by have y := zadN yf862 hln (by have := rB_le (T := T) hpn; omega) (by have := (zl_lo k (by omega)).1; omega); have y2 := rE_le (T := T) (rB_le (T := T) hpn); rw [rW_e hwk, rWd_lo k (by omega)] at y2; unfold mZp; rw [mI_x ef862, mI_o ef862 (by decide)]; exact ⟨⟨by omega, Zbf862.1⟩, by omega, Zbf862.2⟩
              refine tw_aload rfl rfl ?_
              refine tw_push rfl ?_
              refine tw_put rfl (fun f863 => ?_)
              refine tG_setm f863 (hw_111_46 f863 (gf862).1) (fun hf863 ef863 => ?_)
              try dsimp only [tvI_i] at ef863
              have gf863 := mFq_s (mFq_f gf862) ef863 (Or.inr rfl)
              have zf863 := mFt_s zf862 ef863 (by decide)
              have hk12 : rK12 T n (rB T n (ms h).1) = some k := rK12_i (by omega) hwk
              have h80 : (ms h).2.1 = 80 := by have z := np855; rw [sp835] at z; exact z
              have Zfin : mZp hf863 := mZp_o Zf862 ef863 (by decide)
              exact tw_vret rfl ⟨rfl, gf863, mOut_l (by unfold mS1; rw [if_neg (fun z => q837 ((by have y := sgm_k kp836 40 (by decide); rw [sp835] at y; exact y.mpr z))), hk12]; (try dsimp only); rw [if_pos h80]) zf863 Zfin⟩
          · try dsimp only [tvI_i, tvJ_j, tvR_r] at q854
            have q854i := zeqi (Y := 12) (by decide) q854
            exact absurd (show x.toInt = 12 from q854i) (by have z := q849; omega)
        · try dsimp only [tvI_i, tvJ_j, tvR_r] at p853
          refine tw_if_ne rfl (fun z => absurd z (by decide)) (fun _ => ?_)
          refine tw_iinc rfl rfl ?_
          refine tw_goto rfl ?_
          have hno : ¬ rW T n (rB T n (ms h).1) (rWd k) = true := by have z := p853; rw [sp835] at z; rw [rWd_lo k (by omega)]; exact z
          exact tG_cut (zW_mono zTt G dp) (Or.inr ⟨rfl, rfl, rfl, k + 1, x + 1, zincN hx (by omega), by omega, fun i hi => (Classical.em (i = k)).elim (fun z => by rw [z]; exact hno) (fun z => hall i (by omega)), rfl⟩)
  · try dsimp only [tvI_i, tvJ_j, tvR_r] at q837
    have q837i := zeqi (Y := 40) (by decide) q837
    refine tw_aload rfl rfl ?_
    refine tw_push rfl ?_
    refine tw_iload rfl rfl ?_
    have hw40 : (rB T n (ms h).1) < n ∧ T (rB T n (ms h).1) = 40 := by have y := sgm_k kp836 40 (by decide); rw [sp835] at y; exact y.mp q837
    refine tw_virt2 rfl (g_opensDeep hG hX (ggp835).1 pp835e ((mFr_T ggp835).trans hT) ((mFr_n ggp835).trans hN) (by decide) (by decide) (b := (rB T n (ms h).1)) ((mPl pp835e).trans (by rw [sp835]; rfl)) (by have := rB_le (T := T) hpn; omega) (mD_k hD tp835 dp835) (by rw [tp835]; exact hd)) (fun w9 hp864 p864 => ?_)
    obtain ⟨rfl, gp864, ⟨np864, pp864e, tp864, sp864, ddp864⟩ | ⟨np864, Fp864, ip864, jp864⟩⟩ := p864
    · have ggp864 := mFr_t ggp835 gp864
      refine tw_aload rfl rfl ?_
      refine tw_iload rfl rfl ?_
      refine tw_virt1 rfl (g_counts hG hX (ggp864).1 pp864e ((mFr_T ggp864).trans hT) ((mFr_n ggp864).trans hN) (b := (rB T n (ms h).1)) ((mPl pp835e).trans (by rw [sp835]; rfl)) (by have := rB_le (T := T) hpn; omega)) (fun w9 hp865 p865 => ?_)
      obtain ⟨rfl, gp865, ⟨np865, pp865e, sp865, tp865, dp865⟩ | ⟨np865, Fp865⟩, ip865, jp865⟩ := p865
      · have ggp865 := mFr_t ggp864 gp865
        refine tw_aload rfl rfl ?_
        refine tw_dup rfl ?_
        refine tw_getS rfl (hi_111_28 ggp865.1) ?_
        refine tw_push rfl ?_
        refine tw_iadd rfl ?_
        refine tw_put rfl (fun f866 => ?_)
        refine tG_setm f866 (hw_111_28 f866 (ggp865).1) (fun hf866 ef866 => ?_)
        try dsimp only [tvI_i] at ef866
        have gf866 := mFr_s ggp865 ef866 (by unfold mFs; omega)
        have wf866 := hw40
        obtain ⟨pf866, sf866, tf866⟩ := mTo pp865e ((mFr_n ggp865).trans hN) ef866 (v := (rB T n (ms h).1) + 1) (zincN (n := (rB T n (ms h).1)) (by rw [mPl pp865e, sp865, sp864, sp835]; rfl) (by omega)) wf866.1
        rw [sp865, sp864, sp835] at sf866
        refine tw_goto rfl ?_
        have hnd : mDp (mSk h) ≠ 10 := by rw [← tp835]; exact np864
        have h80 : (ms h).2.1 ≠ 80 := by have z := np865; rw [sp864, sp835] at z; exact z
        have hsk : mSk hf866 = 50 :: mSk h := by rw [tf866, tp865, tp864, tp835]; rfl
        have hdd : mD hf866 := mD_o ef866 (by decide) (by decide) (mD_k ddp864 tp865 dp865)
        have h46 : stN (tvI (tF hf866 111 46)) = 1 := by rw [mFr_46 gf866, h46s]; rfl
        exact tw_vret rfl ⟨rfl, mFq_f gf866, mOut_r (by unfold mS1; rw [if_pos hw40, if_neg hnd, if_neg h80]) pf866 hdd (by unfold mst; rw [h46, hsk, sf866]; rfl)⟩
      · have ggp865 := mFr_t ggp864 gp865
        refine tw_aload rfl rfl ?_
        refine tw_dup rfl ?_
        refine tw_getS rfl (hi_111_28 ggp865.1) ?_
        refine tw_push rfl ?_
        refine tw_iadd rfl ?_
        refine tw_put rfl (fun f867 => ?_)
        refine tG_setm f867 (hw_111_28 f867 (ggp865).1) (fun hf867 ef867 => ?_)
        try dsimp only [tvI_i] at ef867
        have gf867 := mFr_s ggp865 ef867 (by unfold mFs; omega)
        have zf867 := mFt_s Fp865 ef867 (by decide)
        have yf867 : (tvI (tF hp865 111 28)).toInt = (((rB T n (ms h).1) : Nat) : Int) := by rw [ip865, mPl pp864e, sp864, sp835]; rfl
        have Zbf867 : 0 ≤ (tvI (tF hp865 111 27)).toInt ∧ (tvI (tF hp865 111 27)).toInt ≤ 400 := by rw [show tF hp865 111 27 = tF h 111 27 from mFr_27 ggp865]; have := hp.2.1; omega
        have Zf867 : mZp hf867 := by have y := zp1 yf867 (by have := rB_le (T := T) hpn; omega); have y2 := rB_le (T := T) hpn; unfold mZp; rw [mI_x ef867, mI_o ef867 (by decide)]; exact ⟨⟨by omega, Zbf867.1⟩, by omega, Zbf867.2⟩
        refine tw_goto rfl ?_
        have hnd : mDp (mSk h) ≠ 10 := by rw [← tp835]; exact np864
        have h80 : (ms h).2.1 = 80 := by have z := np865; rw [sp864, sp835] at z; exact z
        exact tw_vret rfl ⟨rfl, mFq_f gf867, mOut_l (by unfold mS1; rw [if_pos hw40, if_neg hnd, if_pos h80]) zf867 Zf867⟩
    · have ggp864 := mFr_t ggp835 gp864
      refine tw_aload rfl rfl ?_
      refine tw_iload rfl rfl ?_
      refine tw_virt1 rfl (z_counts hG hX (ggp864).1 Fp864 ((mFr_T ggp864).trans hT) ((mFr_n ggp864).trans hN)) (fun w9 hp868 p868 => ?_)
      obtain ⟨rfl, gp868, Fp868, ip868, jp868⟩ := p868
      · have ggp868 := mFr_t ggp864 gp868
        refine tw_aload rfl rfl ?_
        refine tw_dup rfl ?_
        refine tw_getS rfl (hi_111_28 ggp868.1) ?_
        refine tw_push rfl ?_
        refine tw_iadd rfl ?_
        refine tw_put rfl (fun f869 => ?_)
        refine tG_setm f869 (hw_111_28 f869 (ggp868).1) (fun hf869 ef869 => ?_)
        try dsimp only [tvI_i] at ef869
        have gf869 := mFr_s ggp868 ef869 (by unfold mFs; omega)
        have zf869 := mFt_s Fp868 ef869 (by decide)
        have yf869 : (tvI (tF hp868 111 28)).toInt = (((rB T n (ms h).1) : Nat) : Int) := by rw [ip868, ip864, mPl pp835e, sp835]; rfl
        have Zbf869 : 0 ≤ (tvI (tF hp868 111 27)).toInt ∧ (tvI (tF hp868 111 27)).toInt ≤ 400 := by rw [show tF hp868 111 27 = tF h 111 27 from mFr_27 ggp868]; have := hp.2.1; omega
        have Zf869 : mZp hf869 := by have y := zp1 yf869 (by have := rB_le (T := T) hpn; omega); have y2 := rB_le (T := T) hpn; unfold mZp; rw [mI_x ef869, mI_o ef869 (by decide)]; exact ⟨⟨by omega, Zbf869.1⟩, by omega, Zbf869.2⟩
        refine tw_goto rfl ?_
        exact tw_vret rfl ⟨rfl, mFq_f gf869, mOut_l (by unfold mS1; rw [if_pos hw40, if_pos (by rw [← tp835]; exact np864)]) zf869 Zf869⟩
theorem txt_k : rWd 19 = ztx 18 ∧ rWd 18 = ztx 19 ∧ rWd 17 = ztx 20 ∧ rWd 16 = ztx 21 := by decide +kernel
theorem zp3 {x y : Int32} {k j : Nat} (h : x.toInt = k) (hy : y.toInt = j) (hk : k ≤ 1000) (hj : j ≤ 10) : (x + y).toInt = ((k + j : Nat) : Int) := zadN h hy (by omega) (by omega)
theorem mZ_of {h h0 h3 : zH} {X : Int32} {v : Nat} (g : mFr h0 h) (p : mP h0) (s : mSet 28 X h h3) (hx : X.toInt = v) (hv : v ≤ 500) : mZp h3 := by
  have e := mFr_27 g
  have := p.2.1
  unfold mZp
  rw [mI_x s, mI_o s (by decide), e]
  exact ⟨⟨by omega, by omega⟩, by omega, by omega⟩
theorem g_beginsFact {G : zG} (hG : G.1 = zProg) (hX : G.2.1 = ztx) {h : zH} {T : Nat → Int32} {n : Nat} (hs : tSh h) (hp : mP h) (hT : tA h 132 = T) (hN : mn h = n) (hD : mD h) (hd : mDp (mSk h) ≤ 1000) (h46s : tvI (tF h 111 46) = 0) : tC zTt G 216 [.ref 111] h (fun w h2 => w = none ∧ mFq h h2 ∧ mOut (mS0 T n (mSk h) (ms h)) h2) := by
  refine tC_in (by rw [hG]; rfl) (fun dp => ?_)
  have g0 := mFr_r hs
  have hpn : (ms h).1 ≤ n := mPle hp hN
  have hn4 : n ≤ 400 := by have a := mNl hp hN; have b := hp.2.1; omega
  refine tw_aload rfl rfl ?_
  refine tw_virt0 rfl (g_blanks hG hX (g0).1 hp ((mFr_T g0).trans hT) ((mFr_n g0).trans hN)) (fun wp870 hp870 p870 => ?_)
  obtain ⟨rfl, gp870, pp870e, sp870, tp870, dp870⟩ := p870
  have ggp870 := mFr_t g0 gp870
  refine tw_aload rfl rfl ?_
  refine tw_push rfl ?_
  refine tw_virt1 rfl (g_stands hG hX (ggp870).1 ((mFr_T ggp870).trans hT) ((mFr_n ggp870).trans hN) (q := 18) (by decide +kernel) ⟨pp870e.2.1.1, by have := pp870e.2.1; omega⟩ ⟨by have := pp870e.2.1; omega, pp870e.2.1.2.2⟩) (fun w9 h9 p871 => ?_)
  obtain ⟨⟨p871, rfl⟩ | ⟨p871, rfl⟩, rfl⟩ := p871
  · try dsimp only [tvI_i, tvJ_j, tvR_r] at p871
    refine tw_if_eq rfl (fun z => absurd z (by decide)) (fun _ => ?_)
    refine tw_aload rfl rfl ?_
    refine tw_push rfl ?_
    refine tw_aload rfl rfl ?_
    refine tw_getS rfl (hi_111_28 ggp870.1) ?_
    have hwn : rW T n (rB T n (ms h).1) (rWd 19) = true := by have z := p871; rw [sp870] at z; rw [txt_k.1]; exact z
    refine tw_virt2 rfl (g_opensDeep hG hX (ggp870).1 pp870e ((mFr_T ggp870).trans hT) ((mFr_n ggp870).trans hN) (by decide) (by decide) (b := (rB T n (ms h).1)) ((mPl pp870e).trans (by rw [sp870]; rfl)) (by have := rB_le (T := T) hpn; omega) (mD_k hD tp870 dp870) (by rw [tp870]; exact hd)) (fun w9 hp872 p872 => ?_)
    obtain ⟨rfl, gp872, ⟨np872, pp872e, tp872, sp872, ddp872⟩ | ⟨np872, Fp872, ip872, jp872⟩⟩ := p872
    · have ggp872 := mFr_t ggp870 gp872
      refine tw_aload rfl rfl ?_
      refine tw_dup rfl ?_
      refine tw_getS rfl (hi_111_28 ggp872.1) ?_
      refine tw_push rfl ?_
      refine tw_iadd rfl ?_
      refine tw_put rfl (fun f873 => ?_)
      refine tG_setm f873 (hw_111_28 f873 (ggp872).1) (fun hf873 ef873 => ?_)
      try dsimp only [tvI_i] at ef873
      have gf873 := mFr_s ggp872 ef873 (by unfold mFs; omega)
      have h9w : rE T n (rB T n (ms h).1) = (rB T n (ms h).1) + 3 := by rw [rW_e hwn, wlen_k.2.2.1]
      have hr9 := rE_le (T := T) (rB_le (T := T) hpn)
      rw [h9w] at hr9
      obtain ⟨pf873, sf873, tf873⟩ := mTo pp872e ((mFr_n ggp872).trans hN) ef873 (v := (rB T n (ms h).1) + 3) (zp3 (k := (rB T n (ms h).1)) (j := 3) (by rw [mPl pp872e, sp872, sp870]; rfl) rfl (by have := rB_le (T := T) hpn; omega) (by decide)) hr9
      rw [sp872, sp870] at sf873
      refine tw_goto rfl ?_
      have hsk : mSk hf873 = 10 :: mSk h := by rw [tf873, tp872, tp870]; rfl
      have h46 : stN (tvI (tF hf873 111 46)) = 0 := by rw [mFr_46 gf873, h46s]; rfl
      exact tw_vret rfl ⟨rfl, mFq_f gf873, mOut_r (by unfold mS0; rw [if_pos hwn, if_neg (by rw [← tp870]; exact np872)]) pf873 (mD_o ef873 (by decide) (by decide) ddp872) (by unfold mst; rw [h46, hsk, sf873]; rfl)⟩
    · have ggp872 := mFr_t ggp870 gp872
      refine tw_aload rfl rfl ?_
      refine tw_dup rfl ?_
      refine tw_getS rfl (hi_111_28 ggp872.1) ?_
      refine tw_push rfl ?_
      refine tw_iadd rfl ?_
      refine tw_put rfl (fun f874 => ?_)
      refine tG_setm f874 (hw_111_28 f874 (ggp872).1) (fun hf874 ef874 => ?_)
      try dsimp only [tvI_i] at ef874
      have gf874 := mFr_s ggp872 ef874 (by unfold mFs; omega)
      have zf874 := mFt_s Fp872 ef874 (by decide)
      have yf874 : (tvI (tF hp872 111 28)).toInt = (((rB T n (ms h).1) : Nat) : Int) := by rw [ip872, mPl pp870e, sp870]; rfl
      have Zf874 : mZp hf874 := mZ_of ggp872 hp ef874 (zp3 yf874 (j := 3) rfl (by have := rB_le (T := T) hpn; omega) (by decide)) (by have := rB_le (T := T) hpn; omega)
      refine tw_goto rfl ?_
      exact tw_vret rfl ⟨rfl, mFq_f gf874, mOut_l (by unfold mS0; rw [if_pos hwn, if_pos (by rw [← tp870]; exact np872)]) zf874 Zf874⟩
  · try dsimp only [tvI_i, tvJ_j, tvR_r] at p871
    refine tw_if_eq rfl (fun _ => ?_) (fun z => absurd z (by decide))
    refine tw_aload rfl rfl ?_
    refine tw_virt0 rfl (g_sign hG hX (ggp870).1 ((mFr_T ggp870).trans hT) ((mFr_n ggp870).trans hN) ⟨pp870e.2.1.1, by have := pp870e.2.1; omega⟩) (fun wp875 hp875 p875 => ?_)
    obtain ⟨⟨cp875, rfl, kp875⟩, rfl⟩ := p875
    refine tw_push rfl ?_
    refine tw_ic_ne rfl (fun q876 => ?_) (fun q876 => ?_)
    · try dsimp only [tvI_i, tvJ_j, tvR_r] at q876
      have q876i := zneq (Y := 91) (by decide) q876
      refine tw_aload rfl rfl ?_
      refine tw_push rfl ?_
      refine tw_put rfl (fun f877 => ?_)
      refine tG_setm f877 (hw_111_46 f877 (ggp870).1) (fun hf877 ef877 => ?_)
      try dsimp only [tvI_i] at ef877
      have gf877 := mFq_s (mFq_f ggp870) ef877 (Or.inr rfl)
      obtain ⟨pf877, sf877, tf877⟩ := mSte pp870e ef877
      exact tw_vret rfl ⟨rfl, gf877, mOut_r (by unfold mS0; rw [if_neg (fun z => p871 (by have y := z; rw [txt_k.1] at y; rw [sp870]; exact y)), if_neg (fun z => q876 (by have y := sgm_k kp875 91 (by decide); rw [sp870] at y; exact y.mpr z))]) pf877 (mD_k hD (tf877.trans tp870) ((mI_o ef877 (by decide)).trans dp870)) (by unfold mst; rw [mI_x ef877, tf877, tp870, sf877, sp870]; rfl)⟩
    · try dsimp only [tvI_i, tvJ_j, tvR_r] at q876
      have q876i := zeqi (Y := 91) (by decide) q876
      refine tw_aload rfl rfl ?_
      refine tw_push rfl ?_
      refine tw_aload rfl rfl ?_
      refine tw_getS rfl (hi_111_28 (ggp870).1) ?_
      have hw91 : (rB T n (ms h).1) < n ∧ T (rB T n (ms h).1) = 91 := by have y := sgm_k kp875 91 (by decide); rw [sp870] at y; exact y.mp q876
      refine tw_virt2 rfl (g_opensDeep hG hX (ggp870).1 pp870e ((mFr_T ggp870).trans hT) ((mFr_n ggp870).trans hN) (by decide) (by decide) (b := (rB T n (ms h).1)) ((mPl pp870e).trans (by rw [sp870]; rfl)) (by have := rB_le (T := T) hpn; omega) (mD_k hD tp870 dp870) (by rw [tp870]; exact hd)) (fun w9 hp878 p878 => ?_)
      obtain ⟨rfl, gp878, ⟨np878, pp878e, tp878, sp878, ddp878⟩ | ⟨np878, Fp878, ip878, jp878⟩⟩ := p878
      · have ggp878 := mFr_t ggp870 gp878
        refine tw_aload rfl rfl ?_
        refine tw_dup rfl ?_
        refine tw_getS rfl (hi_111_28 ggp878.1) ?_
        refine tw_push rfl ?_
        refine tw_iadd rfl ?_
        refine tw_put rfl (fun f879 => ?_)
        refine tG_setm f879 (hw_111_28 f879 (ggp878).1) (fun hf879 ef879 => ?_)
        try dsimp only [tvI_i] at ef879
        have gf879 := mFr_s ggp878 ef879 (by unfold mFs; omega)
        have hr9 : (rB T n (ms h).1) + 1 ≤ n := hw91.1
        obtain ⟨pf879, sf879, tf879⟩ := mTo pp878e ((mFr_n ggp878).trans hN) ef879 (v := (rB T n (ms h).1) + 1) (zp3 (k := (rB T n (ms h).1)) (j := 1) (by rw [mPl pp878e, sp878, sp870]; rfl) rfl (by have := rB_le (T := T) hpn; omega) (by decide)) hr9
        rw [sp878, sp870] at sf879
        refine tw_goto rfl ?_
        have hsk : mSk hf879 = 13 :: mSk h := by rw [tf879, tp878, tp870]; rfl
        have h46 : stN (tvI (tF hf879 111 46)) = 0 := by rw [mFr_46 gf879, h46s]; rfl
        exact tw_vret rfl ⟨rfl, mFq_f gf879, mOut_r (by unfold mS0; rw [if_neg (fun z => p871 (by have y := z; rw [txt_k.1] at y; rw [sp870]; exact y)), if_pos hw91, if_neg (by rw [← tp870]; exact np878)]) pf879 (mD_o ef879 (by decide) (by decide) ddp878) (by unfold mst; rw [h46, hsk, sf879]; rfl)⟩
      · have ggp878 := mFr_t ggp870 gp878
        refine tw_aload rfl rfl ?_
        refine tw_dup rfl ?_
        refine tw_getS rfl (hi_111_28 ggp878.1) ?_
        refine tw_push rfl ?_
        refine tw_iadd rfl ?_
        refine tw_put rfl (fun f880 => ?_)
        refine tG_setm f880 (hw_111_28 f880 (ggp878).1) (fun hf880 ef880 => ?_)
        try dsimp only [tvI_i] at ef880
        have gf880 := mFr_s ggp878 ef880 (by unfold mFs; omega)
        have zf880 := mFt_s Fp878 ef880 (by decide)
        have yf880 : (tvI (tF hp878 111 28)).toInt = (((rB T n (ms h).1) : Nat) : Int) := by rw [ip878, mPl pp870e, sp870]; rfl
        have Zf880 : mZp hf880 := mZ_of ggp878 hp ef880 (zp3 yf880 (j := 1) rfl (by have := rB_le (T := T) hpn; omega) (by decide)) (by have := rB_le (T := T) hpn; omega)
        refine tw_goto rfl ?_
        exact tw_vret rfl ⟨rfl, mFq_f gf880, mOut_l (by unfold mS0; rw [if_neg (fun z => p871 (by have y := z; rw [txt_k.1] at y; rw [sp870]; exact y)), if_pos hw91, if_pos (by rw [← tp870]; exact np878)]) zf880 Zf880⟩
theorem g_closesRound {G : zG} (hG : G.1 = zProg) (hX : G.2.1 = ztx) {h : zH} {T : Nat → Int32} {n : Nat} (hs : tSh h) (hp : mP h) (hT : tA h 132 = T) (hN : mn h = n) {c : Int32} (hc : sgm T n (ms h).1 c) (hhd : (mSk h).headD 0 = 50) (hD : mD h) : tC zTt G 218 [.ref 111, .int c] h (fun w h2 => w = none ∧ mFr h h2 ∧ ((((ms h).1 < n ∧ T (ms h).1 = 41) ∧ mP h2 ∧ ms h2 = rA ((ms h).1 + 1) (ms h) ∧ mSk h2 = (mSk h).tail ∧ mD h2) ∨ (¬ ((ms h).1 < n ∧ T (ms h).1 = 41) ∧ mFt h2 (1 + 8 * (ms h).1 + 0) ∧ mZp h2))) := by
  refine tC_in (by rw [hG]; rfl) (fun dp => ?_)
  have g0 := mFr_r hs
  have hpn : (ms h).1 ≤ n := mPle hp hN
  have hn4 : n ≤ 400 := by have a := mNl hp hN; have b := hp.2.1; omega
  refine tw_iload rfl rfl ?_
  refine tw_push rfl ?_
  refine tw_ic_eq rfl (fun q881 => ?_) (fun q881 => ?_)
  · try dsimp only [tvI_i, tvJ_j, tvR_r] at q881
    have q881i := zeqi (Y := 41) (by decide) q881
    refine tw_aload rfl rfl ?_
    refine tw_dup rfl ?_
    refine tw_getS rfl (hi_111_28 hs) ?_
    refine tw_push rfl ?_
    refine tw_iadd rfl ?_
    refine tw_put rfl (fun f882 => ?_)
    refine tG_setm f882 (hw_111_28 f882 (g0).1) (fun hf882 ef882 => ?_)
    try dsimp only [tvI_i] at ef882
    have gf882 := mFr_s g0 ef882 (by unfold mFs; omega)
    have w9 := (sgm_k hc 41 (by decide)).mp q881
    obtain ⟨pf882, sf882, tf882⟩ := mTo hp ((mFr_n g0).trans hN) ef882 (v := (ms h).1 + 1) (zp1 (mPl hp) (by omega)) w9.1
    refine tw_aload rfl rfl ?_
    refine tw_dup rfl ?_
    refine tw_getS rfl (hi_111_34 (gf882).1) ?_
    refine tw_push rfl ?_
    refine tw_isub rfl ?_
    refine tw_put rfl (fun f883 => ?_)
    refine tG_setm f883 (hw_111_34 f883 (gf882).1) (fun hf883 ef883 => ?_)
    try dsimp only [tvI_i] at ef883
    have gf883 := mFr_s gf882 ef883 (by unfold mFs; omega)
    have hst : mSk hf882 = 50 :: (mSk h).tail := tf882.trans (mhead (k := 49) hhd)
    obtain ⟨pf883, tf883, sf883, df883⟩ := mSk_pop pf882 (by rw [hst]; exact List.cons_ne_nil _ _) ef883
    rw [hst] at tf883
    have tf883 : mSk hf883 = (mSk h).tail := tf883
    refine tw_aload rfl rfl ?_
    refine tw_dup rfl ?_
    refine tw_getS rfl (hi_111_32 (gf883).1) ?_
    refine tw_push rfl ?_
    refine tw_isub rfl ?_
    refine tw_put rfl (fun f884 => ?_)
    refine tG_setm f884 (hw_111_32 f884 (gf883).1) (fun hf884 ef884 => ?_)
    try dsimp only [tvI_i] at ef884
    have gf884 := mFr_s gf883 ef884 (by unfold mFs; omega)
    have hdf884 : (tvI (tF hf883 111 32)).toInt = ((mDp (mSk hf883) + 1 : Nat) : Int) := by
      rw [df883, mI_o ef882 (by decide)]
      refine (show (tvI (tF h 111 32)).toInt = (mDp (mSk h) : Int) from hD).trans ?_
      rw [tf883]
      exact congrArg (fun z : Nat => (z : Int)) ((congrArg mDp (mhead (k := 49) hhd)).trans (mDp_c (by decide)))
    obtain ⟨pf884, tf884, sf884, ddf884⟩ := mDn pf883 ef884 hdf884 rfl
    exact tw_vret rfl ⟨rfl, gf884, Or.inl ⟨w9, pf884, by rw [sf884, sf883, sf882], by rw [tf884, tf883], ddf884⟩⟩
  · try dsimp only [tvI_i, tvJ_j, tvR_r] at q881
    have q881i := zneq (Y := 41) (by decide) q881
    refine tw_aload rfl rfl ?_
    refine tw_push rfl ?_
    refine tw_aload rfl rfl ?_
    refine tw_getS rfl (hi_111_28 hs) ?_
    refine tw_virt2 rfl (g_fails hG hX (g0).1 hp ((mFr_T g0).trans hT) ((mFr_n g0).trans hN) (w := 0) (b := (ms h).1) rfl (by decide) (mPl hp) (by omega)) (fun wp885 hp885 p885 => ?_)
    obtain ⟨rfl, gp885, Fp885, ip885, jp885⟩ := p885
    have ggp885 := mFr_t g0 gp885
    refine tw_aload rfl rfl ?_
    refine tw_dup rfl ?_
    refine tw_getS rfl (hi_111_28 ggp885.1) ?_
    refine tw_push rfl ?_
    refine tw_iadd rfl ?_
    refine tw_put rfl (fun f886 => ?_)
    refine tG_setm f886 (hw_111_28 f886 (ggp885).1) (fun hf886 ef886 => ?_)
    try dsimp only [tvI_i] at ef886
    have gf886 := mFr_s ggp885 ef886 (by unfold mFs; omega)
    have zf886 := mFt_s Fp885 ef886 (by decide)
    have yf886 : (tvI (tF hp885 111 28)).toInt = (((ms h).1 : Nat) : Int) := by rw [ip885]; exact mPl hp
    have Zf886 : mZp hf886 := mZ_of ggp885 hp ef886 (zp1 yf886 (by omega)) (by omega)
    refine tw_aload rfl rfl ?_
    refine tw_dup rfl ?_
    refine tw_getS rfl (hi_111_34 (gf886).1) ?_
    refine tw_push rfl ?_
    refine tw_isub rfl ?_
    refine tw_put rfl (fun f887 => ?_)
    refine tG_setm f887 (hw_111_34 f887 (gf886).1) (fun hf887 ef887 => ?_)
    try dsimp only [tvI_i] at ef887
    have gf887 := mFr_s gf886 ef887 (by unfold mFs; omega)
    have zf887 := mFt_s zf886 ef887 (by decide)
    have Zf887 : mZp hf887 := mZp_o Zf886 ef887 (by decide)
    refine tw_aload rfl rfl ?_
    refine tw_dup rfl ?_
    refine tw_getS rfl (hi_111_32 (gf887).1) ?_
    refine tw_push rfl ?_
    refine tw_isub rfl ?_
    refine tw_put rfl (fun f888 => ?_)
    refine tG_setm f888 (hw_111_32 f888 (gf887).1) (fun hf888 ef888 => ?_)
    try dsimp only [tvI_i] at ef888
    have gf888 := mFr_s gf887 ef888 (by unfold mFs; omega)
    have zf888 := mFt_s zf887 ef888 (by decide)
    have Zf888 : mZp hf888 := mZp_o Zf887 ef888 (by decide)
    exact tw_vret rfl ⟨rfl, gf888, Or.inr ⟨fun z => q881 ((sgm_k hc 41 (by decide)).mpr z), zf888, Zf888⟩⟩
theorem mDp_T : ∀ (S o : List Nat), mDp (mT S o).1 = mDp S
  | [], _ => rfl
  | x :: r, o => by
    unfold mT
    by_cases z : x = 102
    · rw [if_pos z, mDp_T r, z, mDp_e (by decide)]
    · rw [if_neg z]
theorem mDp_P : ∀ (S o : List Nat), mDp (mPm S o).1 = mDp S
  | [], _ => rfl
  | x :: r, o => by
    unfold mPm
    by_cases z : x = 103
    · rw [if_pos z, mDp_P r, z, mDp_e (by decide)]
    · rw [if_neg z]
      by_cases y : x = 104
      · rw [if_pos y, mDp_P r, y, mDp_e (by decide)]
      · rw [if_neg y]
theorem mDp_S (S o : List Nat) : mDp (mS S o).1 = mDp S := (mDp_P _ _).trans (mDp_T _ _)
theorem mDp_A : ∀ (S o : List Nat), mDp (mA S o).1 = mDp S
  | [], _ => rfl
  | x :: r, o => by
    unfold mA
    by_cases z : x = 11
    · rw [if_pos z, mDp_A r, z, mDp_e (by decide)]
    · rw [if_neg z]
theorem mDp_O1 : ∀ (S o : List Nat), mDp (mO1 S o).1 = mDp S
  | [], _ => rfl
  | x :: r, o => by
    unfold mO1
    by_cases z : x = 12
    · rw [if_pos z, mDp_O1 r, z, mDp_e (by decide)]
    · rw [if_neg z]
theorem mDp_O (S o : List Nat) : mDp (mO S o).1 = mDp S := (mDp_O1 _ _).trans (mDp_A _ _)
theorem mD_m {h h2 : zH} (d : mD h) (a : mDp (mSk h2) = mDp (mSk h)) (b : tF h2 111 32 = tF h 111 32) : mD h2 := by
  unfold mD
  rw [a, b]
  exact d
theorem mfst {α β : Type} {x : α} {y : β} {p : α × β} (h : (x, y) = p) : x = p.1 := congrArg Prod.fst h
theorem mA1 {h1 h2 : zH} {b : Nat} {s : rS} (e : ms h1 = rA b s) (a : (ms h2).1 = (ms h1).1) : (ms h2).1 = b := by
  rw [a, e]
  rfl
theorem mA2 {h1 h2 : zH} {b y0 : Nat} {s : rS} (e : ms h1 = rA b s) (c : (ms h2).2.1 = (ms h1).2.1) (y : s.2.1 = y0) : (ms h2).2.1 = y0 := by
  rw [c, e]
  exact y
theorem mA3 {h1 h2 : zH} {b y0 : Nat} {s : rS} {z : List Nat} (e : ms h1 = rA b s) (a : (ms h2).1 = (ms h1).1) (c : (ms h2).2.1 = (ms h1).2.1) (y : s.2.1 = y0) (k : (ms h2).2.2 = z) : ms h2 = (b, y0, z) :=
  Prod.ext (mA1 e a) (Prod.ext (mA2 e c y) k)
theorem mA6 {b y0 : Nat} {s : rS} {z : List Nat} (y : s.2.1 = y0) (k : s.2.2 = z) : rA b s = (b, y0, z) := by
  rw [← y, ← k]
  rfl
theorem mA4 {h1 h2 h3 : zH} {b y0 : Nat} {s : rS} {z : List Nat} (g : ms h3 = rA ((ms h2).1 + 1) (ms h2)) (e : ms h1 = rA b s) (a : (ms h2).1 = (ms h1).1) (c : (ms h2).2.1 = (ms h1).2.1) (y : s.2.1 = y0) (k : (ms h2).2.2 = z) : ms h3 = (b + 1, y0, z) := by
  rw [g, mA1 e a]
  exact mA6 (mA2 e c y) k
theorem cm_d {q : Nat} {x : Int32} (h1 : 100103 ≤ q) (hx : x.toInt + 100098 = (q : Int)) : ∃ d, q = 100103 + d ∧ x.toInt = ((d + 5 : Nat) : Int) := ⟨q - 100103, by omega, by omega⟩
theorem cm_x {q : Nat} {x : Int32} (h1 : 100103 ≤ q) (h2 : q ≤ 100107) (hx : x.toInt + 100098 = (q : Int)) : (200 + x).toNatClampNeg = q - 99898 := by
  obtain ⟨d, rfl, h⟩ := cm_d h1 hx
  rw [zof_cl (zadN (x := 200) (a := 200) rfl h (by omega) (by omega))]
  omega
theorem cm_0 {q : Nat} {x : Int32} (h1 : 100103 ≤ q) (h2 : q ≤ 100107) (hx : x.toInt + 100098 = (q : Int)) : 0 ≤ (200 + x).toInt := by
  obtain ⟨d, rfl, h⟩ := cm_d h1 hx
  rw [zadN (x := 200) (a := 200) rfl h (by omega) (by omega)]
  omega
theorem cm_z {q : Nat} {x : Int32} (h1 : 100103 ≤ q) (hx : x.toInt + 100098 = (q : Int)) (h : x = 0) : False := by
  obtain ⟨d, -, h4⟩ := cm_d h1 hx
  rw [h] at h4
  have h5 : (0 : Int) = ((d + 5 : Nat) : Int) := h4
  omega
theorem msnd {α β : Type} {x : α} {y : β} {p : α × β} (h : (x, y) = p) : y = p.2 := congrArg Prod.snd h
theorem mDp_tl {S : List Nat} (h : 205 ≤ S.headD 0 ∧ S.headD 0 ≤ 209) : mDp S.tail = mDp S := by
  cases S with
  | nil => exact absurd h.1 (by decide)
  | cons x r =>
    have h : 205 ≤ x ∧ x ≤ 209 := h
    exact (mDp_e (by omega)).symm
theorem g_behindValue {G : zG} (hG : G.1 = zProg) (hX : G.2.1 = ztx) {h : zH} {T : Nat → Int32} {n : Nat} (hs : tSh h) (hp : mP h) (hT : tA h 132 = T) (hN : mn h = n) (hD : mD h) (hd : mDp (mSk h) ≤ 1000) {tst : Bool} (hts : ¬ tvI (tF h 111 47) = 0 ↔ tst = true) (h46s : tvI (tF h 111 46) = 2) : tC zTt G 217 [.ref 111] h (fun w h2 => w = none ∧ mFq h h2 ∧ mOut (mS2 T n tst (mSk h) (ms h)) h2) := by
  refine tC_in (by rw [hG]; rfl) (fun dp => ?_)
  have g0 := mFr_r hs
  have hpn : (ms h).1 ≤ n := mPle hp hN
  have hn4 : n ≤ 400 := by have a := mNl hp hN; have b := hp.2.1; omega
  refine tw_aload rfl rfl ?_
  refine tw_virt0 rfl (g_blanks hG hX (g0).1 hp ((mFr_T g0).trans hT) ((mFr_n g0).trans hN)) (fun wp889 hp889 p889 => ?_)
  obtain ⟨rfl, gp889, pp889e, sp889, tp889, dp889⟩ := p889
  have ggp889 := mFr_t g0 gp889
  refine tw_aload rfl rfl ?_
  refine tw_virt0 rfl (g_sign hG hX (ggp889).1 ((mFr_T ggp889).trans hT) ((mFr_n ggp889).trans hN) ⟨pp889e.2.1.1, by have := pp889e.2.1; omega⟩) (fun wp890 hp890 p890 => ?_)
  obtain ⟨⟨cp890, rfl, kp890⟩, rfl⟩ := p890
  refine tw_istore rfl ?_
  refine tw_iload rfl rfl ?_
  refine tw_push rfl ?_
  refine tw_ic_ne rfl (fun q891 => ?_) (fun q891 => ?_)
  · try dsimp only [tvI_i, tvJ_j, tvR_r] at q891
    have q891i := zneq (Y := 42) (by decide) q891
    refine tw_iload rfl rfl ?_
    refine tw_push rfl ?_
    refine tw_ic_eq rfl (fun q892 => ?_) (fun q892 => ?_)
    · try dsimp only [tvI_i, tvJ_j, tvR_r] at q892
      have q892i := zeqi (Y := 43) (by decide) q892
      refine tw_aload rfl rfl ?_
      refine tw_virt0 rfl (g_makesSums hG hX (ggp889).1 pp889e ((mFr_T ggp889).trans hT) ((mFr_n ggp889).trans hN)) (fun wp893 hp893 p893 => ?_)
      obtain ⟨rfl, gp893, pp893e, ap893, bp893, mp893, dp893⟩ := p893
      have ggp893 := mFr_t ggp889 gp893
      refine tw_aload rfl rfl ?_
      refine tw_push rfl ?_
      refine tw_iload rfl rfl ?_
      refine tw_push rfl ?_
      refine tw_ic_ne rfl (fun q894 => ?_) (fun q894 => ?_)
      · try dsimp only [tvI_i, tvJ_j, tvR_r] at q894
        have q894i := zneq (Y := 43) (by decide) q894
        exact absurd q892 q894
      · try dsimp only [tvI_i, tvJ_j, tvR_r] at q894
        have q894i := zeqi (Y := 43) (by decide) q894
        refine tw_push rfl ?_
        refine tw_goto rfl ?_
        refine tw_iadd rfl ?_
        refine tw_virt1 rfl (g_opens hG hX (ggp893).1 pp893e ((mFr_T ggp893).trans hT) ((mFr_n ggp893).trans hN) (by decide)) (fun wp895 hp895 p895 => ?_)
        obtain ⟨rfl, gp895, pp895e, tp895, sp895, dp895⟩ := p895
        have ggp895 := mFr_t ggp893 gp895
        refine tw_aload rfl rfl ?_
        refine tw_dup rfl ?_
        refine tw_getS rfl (hi_111_28 ggp895.1) ?_
        refine tw_push rfl ?_
        refine tw_iadd rfl ?_
        refine tw_put rfl (fun f896 => ?_)
        refine tG_setm f896 (hw_111_28 f896 (ggp895).1) (fun hf896 ef896 => ?_)
        try dsimp only [tvI_i] at ef896
        have gf896 := mFr_s ggp895 ef896 (by unfold mFs; omega)
        have hk42 : cp890 = 42 ↔ ((rB T n (ms h).1) < n ∧ T (rB T n (ms h).1) = 42) := by have y := sgm_k kp890 42 (by decide); rw [sp889] at y; exact y
        have hs42 : ¬ ((rB T n (ms h).1) < n ∧ T (rB T n (ms h).1) = 42) := fun z => q891 (hk42.mpr z)
        have hk43 : cp890 = 43 ↔ ((rB T n (ms h).1) < n ∧ T (rB T n (ms h).1) = 43) := by have y := sgm_k kp890 43 (by decide); rw [sp889] at y; exact y
        have hs43 := hk43.mp q892
        have hmsf896 : ms hp895 = ((rB T n (ms h).1), (ms h).2.1, (ms hp893).2.2) := (sp895).trans (mA3 sp889 ap893 bp893 rfl rfl)
        obtain ⟨pf896, sf896, tf896⟩ := mTo pp895e ((mFr_n ggp895).trans hN) ef896 (v := (rB T n (ms h).1) + 1) (zp1 (by rw [mPl pp895e, hmsf896]) (by have := rB_le (T := T) hpn; omega)) hs43.1
        rw [hmsf896] at sf896
        refine tw_aload rfl rfl ?_
        refine tw_push rfl ?_
        refine tw_put rfl (fun f897 => ?_)
        refine tG_setm f897 (hw_111_46 f897 (gf896).1) (fun hf897 ef897 => ?_)
        try dsimp only [tvI_i] at ef897
        have gf897 := mFq_s (mFq_f gf896) ef897 (Or.inr rfl)
        obtain ⟨pf897, sf897, tf897⟩ := mSte pf896 ef897
        refine tw_goto rfl ?_
        have hmb : (mSk hp893, (ms hp893).2.2) = mS (mSk h) (ms h).2.2 := by rw [mp893, tp889, sp889]; rfl
        have hsk : mSk hf897 = 103 :: (mS (mSk h) (ms h).2.2).1 := by rw [tf897, tf896, tp895, ← mfst hmb]; rfl
        have hdd : mD hf897 := mD_m hD (by rw [hsk, mDp_e (by decide)]; exact mDp_S _ _) ((mI_o ef897 (by decide)).trans ((mI_o ef896 (by decide)).trans (dp895.trans (dp893.trans dp889))))
        exact tw_vret rfl ⟨rfl, gf897, mOut_r (by unfold mS2; rw [if_neg hs42, if_pos hs43]) pf897 hdd (by unfold mst; rw [mI_x ef897, hsk, sf897, sf896, msnd hmb]; rfl)⟩
    · try dsimp only [tvI_i, tvJ_j, tvR_r] at q892
      have q892i := zneq (Y := 43) (by decide) q892
      refine tw_iload rfl rfl ?_
      refine tw_push rfl ?_
      refine tw_ic_ne rfl (fun q898 => ?_) (fun q898 => ?_)
      · try dsimp only [tvI_i, tvJ_j, tvR_r] at q898
        have q898i := zneq (Y := 45) (by decide) q898
        refine tw_aload rfl rfl ?_
        refine tw_virt0 rfl (g_makesSums hG hX (ggp889).1 pp889e ((mFr_T ggp889).trans hT) ((mFr_n ggp889).trans hN)) (fun wp899 hp899 p899 => ?_)
        obtain ⟨rfl, gp899, pp899e, ap899, bp899, mp899, dp899⟩ := p899
        have ggp899 := mFr_t ggp889 gp899
        refine tw_aload rfl rfl ?_
        refine tw_virt0 rfl (g_top hG hX (ggp899).1 pp899e ((mFr_T ggp899).trans hT) ((mFr_n ggp899).trans hN)) (fun wp900 hp900 p900 => ?_)
        obtain ⟨⟨cp900, rfl, Tp900⟩, rfl⟩ := p900
        refine tw_push rfl ?_
        refine tw_ic_ne rfl (fun q901 => ?_) (fun q901 => ?_)
        · try dsimp only [tvI_i, tvJ_j, tvR_r] at q901
          have q901i := zneq (Y := 50) (by decide) q901
          refine tw_aload rfl rfl ?_
          refine tw_getS rfl (hi_111_47 (ggp899).1) ?_
          refine tw_if_eq rfl (fun q902 => ?_) (fun q902 => ?_)
          · try dsimp only [tvI_i, tvJ_j, tvR_r] at q902
            have q902i := zeqi (Y := 0) (by decide) q902
            refine tw_aload rfl rfl ?_
            refine tw_getS rfl (hi_111_47 (ggp899).1) ?_
            refine tw_if_eq rfl (fun q903 => ?_) (fun q903 => ?_)
            · try dsimp only [tvI_i, tvJ_j, tvR_r] at q903
              have q903i := zeqi (Y := 0) (by decide) q903
              refine tw_aload rfl rfl ?_
              refine tw_push rfl ?_
              refine tw_put rfl (fun f904 => ?_)
              refine tG_setm f904 (hw_111_46 f904 (ggp899).1) (fun hf904 ef904 => ?_)
              try dsimp only [tvI_i] at ef904
              have gf904 := mFq_s (mFq_f ggp899) ef904 (Or.inr rfl)
              obtain ⟨pf904, sf904, tf904⟩ := mSte pp899e ef904
              have hk42 : cp890 = 42 ↔ ((rB T n (ms h).1) < n ∧ T (rB T n (ms h).1) = 42) := by have y := sgm_k kp890 42 (by decide); rw [sp889] at y; exact y
              have hs42 : ¬ ((rB T n (ms h).1) < n ∧ T (rB T n (ms h).1) = 42) := fun z => q891 (hk42.mpr z)
              have hk43 : cp890 = 43 ↔ ((rB T n (ms h).1) < n ∧ T (rB T n (ms h).1) = 43) := by have y := sgm_k kp890 43 (by decide); rw [sp889] at y; exact y
              have hs43 : ¬ ((rB T n (ms h).1) < n ∧ T (rB T n (ms h).1) = 43) := fun z => q892 (hk43.mpr z)
              have hk45 : cp890 = 45 ↔ ((rB T n (ms h).1) < n ∧ T (rB T n (ms h).1) = 45) := by have y := sgm_k kp890 45 (by decide); rw [sp889] at y; exact y
              have hs45 : ¬ ((rB T n (ms h).1) < n ∧ T (rB T n (ms h).1) = 45) := fun z => q898 (hk45.mpr z)
              have ht50 := tpm_k Tp900 (k := 50) (K := 50) rfl (by decide)
              have hn50 : ¬ (mSk hp899).headD 0 = 50 := fun z => q901 (ht50.mpr z)
              have hin : tvI (tF h 111 47) = 0 := by have z := q902; rw [mFr_47 ggp899] at z; exact z
              have hmb : (mSk hp899, (ms hp899).2.2) = mS (mSk h) (ms h).2.2 := by rw [mp899, tp889, sp889]; rfl
              have hms : ms hf904 = ((rB T n (ms h).1), (ms h).2.1, (mS (mSk h) (ms h).2.2).2) := (sf904).trans (mA3 sp889 ap899 bp899 rfl (msnd hmb))
              have hsk : mSk hf904 = (mS (mSk h) (ms h).2.2).1 := by rw [tf904, mfst hmb]
              have hdd : mD hf904 := mD_m hD (by rw [hsk]; exact mDp_S _ _) ((mI_o ef904 (by decide)).trans (dp899.trans dp889))
              exact tw_vret rfl ⟨rfl, gf904, mOut_r (by unfold mS2; rw [if_neg hs42, if_neg hs43, if_neg hs45, if_neg (show ¬ (mS (mSk h) (ms h).2.2).1.headD 0 = 50 from by rw [← mfst hmb]; exact hn50), if_neg (fun z => hts.mpr z hin)]) pf904 hdd (by unfold mst; rw [mI_x ef904, hsk, hms]; rfl)⟩
            · try dsimp only [tvI_i, tvJ_j, tvR_r] at q903
              have q903i := zneq (Y := 0) (by decide) q903
              exact absurd q902 q903
          · try dsimp only [tvI_i, tvJ_j, tvR_r] at q902
            have q902i := zneq (Y := 0) (by decide) q902
            refine tw_aload rfl rfl ?_
            refine tw_virt0 rfl (g_top hG hX (ggp899).1 pp899e ((mFr_T ggp899).trans hT) ((mFr_n ggp899).trans hN)) (fun wp905 hp905 p905 => ?_)
            obtain ⟨⟨cp905, rfl, Tp905⟩, rfl⟩ := p905
            refine tw_push rfl ?_
            refine tw_ic_lt rfl (fun q906 => ?_) (fun q906 => ?_)
            · try dsimp only [tvI_i, tvJ_j, tvR_r] at q906
              refine tw_aload rfl rfl ?_
              refine tw_virt0 rfl (g_compares hG hX (ggp899).1 pp899e ((mFr_T ggp899).trans hT) ((mFr_n ggp899).trans hN)) (fun w9 hp907 p907 => ?_)
              obtain ⟨gp907, ⟨np907, rfl, e9⟩ | ⟨vp907, np907, ⟨mp907, ⟨xp907, rfl, yp907⟩, pp907e, sp907, tp907, dp907⟩ | ⟨mp907, xp907, rfl, x5p907, x9p907, Fp907, Zp907⟩⟩⟩ := p907
              · have ggp907 := mFr_t ggp899 gp907
                obtain rfl := e9.symm
                have pp907e := pp899e
                refine tw_istore rfl ?_
                refine tw_iload rfl rfl ?_
                refine tw_if_ne rfl (fun z => absurd z (by decide)) (fun _ => ?_)
                refine tw_aload rfl rfl ?_
                refine tw_push rfl ?_
                refine tw_aload rfl rfl ?_
                refine tw_getS rfl (hi_111_28 ggp907.1) ?_
                refine tw_virt2 rfl (g_fails hG hX (ggp907).1 pp907e ((mFr_T ggp907).trans hT) ((mFr_n ggp907).trans hN) (w := 0) (b := (rB T n (ms h).1)) rfl (by decide) ((mPl pp907e).trans (by rw [(show (ms hp899).1 = (rB T n (ms h).1) from by rw [ap899, sp889]; rfl)])) (by have := rB_le (T := T) hpn; omega)) (fun wp908 hp908 p908 => ?_)
                obtain ⟨rfl, gp908, Fp908, ip908, jp908⟩ := p908
                have ggp908 := mFr_t ggp907 gp908
                refine tw_aload rfl rfl ?_
                refine tw_push rfl ?_
                refine tw_iload rfl rfl ?_
                refine tw_iadd rfl ?_
                refine tw_virt1 rfl (z_opens hG hX (ggp908).1 Fp908 ((mFr_T ggp908).trans hT) ((mFr_n ggp908).trans hN)) (fun wp909 hp909 p909 => ?_)
                obtain ⟨rfl, gp909, Fp909, ip909, jp909⟩ := p909
                have ggp909 := mFr_t ggp908 gp909
                refine tw_aload rfl rfl ?_
                refine tw_push rfl ?_
                refine tw_put rfl (fun f910 => ?_)
                refine tG_setm f910 (hw_111_46 f910 (ggp909).1) (fun hf910 ef910 => ?_)
                try dsimp only [tvI_i] at ef910
                have gf910 := mFq_s (mFq_f ggp909) ef910 (Or.inr rfl)
                have zf910 := mFt_s Fp909 ef910 (by decide)
                refine tw_goto rfl ?_
                have hk42 : cp890 = 42 ↔ ((rB T n (ms h).1) < n ∧ T (rB T n (ms h).1) = 42) := by have y := sgm_k kp890 42 (by decide); rw [sp889] at y; exact y
                have hs42 : ¬ ((rB T n (ms h).1) < n ∧ T (rB T n (ms h).1) = 42) := fun z => q891 (hk42.mpr z)
                have hk43 : cp890 = 43 ↔ ((rB T n (ms h).1) < n ∧ T (rB T n (ms h).1) = 43) := by have y := sgm_k kp890 43 (by decide); rw [sp889] at y; exact y
                have hs43 : ¬ ((rB T n (ms h).1) < n ∧ T (rB T n (ms h).1) = 43) := fun z => q892 (hk43.mpr z)
                have hk45 : cp890 = 45 ↔ ((rB T n (ms h).1) < n ∧ T (rB T n (ms h).1) = 45) := by have y := sgm_k kp890 45 (by decide); rw [sp889] at y; exact y
                have hs45 : ¬ ((rB T n (ms h).1) < n ∧ T (rB T n (ms h).1) = 45) := fun z => q898 (hk45.mpr z)
                have ht50 := tpm_k Tp900 (k := 50) (K := 50) rfl (by decide)
                have hn50 : ¬ (mSk hp899).headD 0 = 50 := fun z => q901 (ht50.mpr z)
                have hin : ¬ tvI (tF h 111 47) = 0 := by have z := q902; rw [mFr_47 ggp899] at z; exact z
                have c2059 : (205 : Int32).toInt = 205 := rfl
                have c2099 : (209 : Int32).toInt = 209 := rfl
                have hcmp : ¬ (205 ≤ (mSk hp899).headD 0 ∧ (mSk hp899).headD 0 ≤ 209) := by have z := tpm_e Tp905; have z2 := q906; omega
                have hmb : (mSk hp899, (ms hp899).2.2) = mS (mSk h) (ms h).2.2 := by rw [mp899, tp889, sp889]; rfl
                have hr9 : rCm T n (rB T n (ms h).1) = none := by have z := np907; rw [ap899, sp889] at z; exact z
                have hZ : mZp hf910 := mZp_o (mZp_k (mZp_k (mZp_p pp907e) ip908 jp908) ip909 jp909) ef910 (by decide)
                exact tw_vret rfl ⟨rfl, gf910, mOut_l (by unfold mS2; rw [if_neg hs42, if_neg hs43, if_neg hs45, if_neg (show ¬ (mS (mSk h) (ms h).2.2).1.headD 0 = 50 from by rw [← mfst hmb]; exact hn50), if_pos (show tst = true from hts.mp hin), if_neg (show ¬ (205 ≤ (mS (mSk h) (ms h).2.2).1.headD 0 ∧ (mS (mSk h) (ms h).2.2).1.headD 0 ≤ 209) from by rw [← mfst hmb]; exact hcmp), hr9]) zf910 hZ⟩
              · have ggp907 := mFr_t ggp899 gp907
                refine tw_istore rfl ?_
                refine tw_iload rfl rfl ?_
                refine tw_if_ne rfl (fun q911 => ?_) (fun q911 => ?_)
                · try dsimp only [tvI_i, tvJ_j, tvR_r] at q911
                  have q911i := zneq (Y := 0) (by decide) q911
                  refine tw_aload rfl rfl ?_
                  refine tw_push rfl ?_
                  refine tw_iload rfl rfl ?_
                  refine tw_iadd rfl ?_
                  refine tw_virt1 rfl (g_opens hG hX (ggp907).1 pp907e ((mFr_T ggp907).trans hT) ((mFr_n ggp907).trans hN) (cm_0 (rCm_r np907).1 (rCm_r np907).2.1 yp907)) (fun wp912 hp912 p912 => ?_)
                  obtain ⟨rfl, gp912, pp912e, tp912, sp912, dp912⟩ := p912
                  have ggp912 := mFr_t ggp907 gp912
                  refine tw_aload rfl rfl ?_
                  refine tw_push rfl ?_
                  refine tw_put rfl (fun f913 => ?_)
                  refine tG_setm f913 (hw_111_46 f913 (ggp912).1) (fun hf913 ef913 => ?_)
                  try dsimp only [tvI_i] at ef913
                  have gf913 := mFq_s (mFq_f ggp912) ef913 (Or.inr rfl)
                  obtain ⟨pf913, sf913, tf913⟩ := mSte pp912e ef913
                  refine tw_goto rfl ?_
                  have hk42 : cp890 = 42 ↔ ((rB T n (ms h).1) < n ∧ T (rB T n (ms h).1) = 42) := by have y := sgm_k kp890 42 (by decide); rw [sp889] at y; exact y
                  have hs42 : ¬ ((rB T n (ms h).1) < n ∧ T (rB T n (ms h).1) = 42) := fun z => q891 (hk42.mpr z)
                  have hk43 : cp890 = 43 ↔ ((rB T n (ms h).1) < n ∧ T (rB T n (ms h).1) = 43) := by have y := sgm_k kp890 43 (by decide); rw [sp889] at y; exact y
                  have hs43 : ¬ ((rB T n (ms h).1) < n ∧ T (rB T n (ms h).1) = 43) := fun z => q892 (hk43.mpr z)
                  have hk45 : cp890 = 45 ↔ ((rB T n (ms h).1) < n ∧ T (rB T n (ms h).1) = 45) := by have y := sgm_k kp890 45 (by decide); rw [sp889] at y; exact y
                  have hs45 : ¬ ((rB T n (ms h).1) < n ∧ T (rB T n (ms h).1) = 45) := fun z => q898 (hk45.mpr z)
                  have ht50 := tpm_k Tp900 (k := 50) (K := 50) rfl (by decide)
                  have hn50 : ¬ (mSk hp899).headD 0 = 50 := fun z => q901 (ht50.mpr z)
                  have hin : ¬ tvI (tF h 111 47) = 0 := by have z := q902; rw [mFr_47 ggp899] at z; exact z
                  have c2059 : (205 : Int32).toInt = 205 := rfl
                  have c2099 : (209 : Int32).toInt = 209 := rfl
                  have hcmp : ¬ (205 ≤ (mSk hp899).headD 0 ∧ (mSk hp899).headD 0 ≤ 209) := by have z := tpm_e Tp905; have z2 := q906; omega
                  have hmb : (mSk hp899, (ms hp899).2.2) = mS (mSk h) (ms h).2.2 := by rw [mp899, tp889, sp889]; rfl
                  have hr9 : rCm T n (rB T n (ms h).1) = some vp907 := by have z := np907; rw [ap899, sp889] at z; exact z
                  have h80 : (ms h).2.1 ≠ 80 := by have z := mp907; rw [bp899, sp889] at z; exact z
                  have hv1 := (rCm_r hr9).1
                  have hv2 := (rCm_r hr9).2.1
                  have hx := cm_x hv1 hv2 yp907
                  have hsk : mSk hf913 = (vp907.1 - 99898) :: (mS (mSk h) (ms h).2.2).1 := by rw [tf913, tp912]; show (200 + xp907).toNatClampNeg :: mSk hp907 = _; rw [hx, tp907, mfst hmb]
                  have hms : ms hf913 = (vp907.2, (ms h).2.1 + 1, (mS (mSk h) (ms h).2.2).2) := by rw [sf913, sp912, sp907]; exact Prod.ext rfl (Prod.ext (by show (ms hp899).2.1 + 1 = _; rw [bp899, sp889]; rfl) (by have z := msnd hmb; exact z))
                  have hdd : mD hf913 := mD_m hD (by rw [hsk, mDp_e (by omega)]; exact mDp_S _ _) ((mI_o ef913 (by decide)).trans (dp912.trans (dp907.trans (dp899.trans dp889))))
                  exact tw_vret rfl ⟨rfl, gf913, mOut_r (by unfold mS2; rw [if_neg hs42, if_neg hs43, if_neg hs45, if_neg (show ¬ (mS (mSk h) (ms h).2.2).1.headD 0 = 50 from by rw [← mfst hmb]; exact hn50), if_pos (show tst = true from hts.mp hin), if_neg (show ¬ (205 ≤ (mS (mSk h) (ms h).2.2).1.headD 0 ∧ (mS (mSk h) (ms h).2.2).1.headD 0 ≤ 209) from by rw [← mfst hmb]; exact hcmp), hr9]; (try dsimp only); rw [if_neg h80]) pf913 hdd (by unfold mst; rw [mI_x ef913, hsk, hms]; rfl)⟩
                · try dsimp only [tvI_i, tvJ_j, tvR_r] at q911
                  have q911i := zeqi (Y := 0) (by decide) q911
                  exact (cm_z (rCm_r np907).1 yp907 q911).elim
              · have ggp907 := mFr_t ggp899 gp907
                refine tw_istore rfl ?_
                refine tw_iload rfl rfl ?_
                refine tw_if_ne rfl (fun q914 => ?_) (fun q914 => ?_)
                · try dsimp only [tvI_i, tvJ_j, tvR_r] at q914
                  have q914i := zneq (Y := 0) (by decide) q914
                  refine tw_aload rfl rfl ?_
                  refine tw_push rfl ?_
                  refine tw_iload rfl rfl ?_
                  refine tw_iadd rfl ?_
                  refine tw_virt1 rfl (z_opens hG hX (ggp907).1 Fp907 ((mFr_T ggp907).trans hT) ((mFr_n ggp907).trans hN)) (fun wp915 hp915 p915 => ?_)
                  obtain ⟨rfl, gp915, Fp915, ip915, jp915⟩ := p915
                  have ggp915 := mFr_t ggp907 gp915
                  refine tw_aload rfl rfl ?_
                  refine tw_push rfl ?_
                  refine tw_put rfl (fun f916 => ?_)
                  refine tG_setm f916 (hw_111_46 f916 (ggp915).1) (fun hf916 ef916 => ?_)
                  try dsimp only [tvI_i] at ef916
                  have gf916 := mFq_s (mFq_f ggp915) ef916 (Or.inr rfl)
                  have zf916 := mFt_s Fp915 ef916 (by decide)
                  refine tw_goto rfl ?_
                  have hk42 : cp890 = 42 ↔ ((rB T n (ms h).1) < n ∧ T (rB T n (ms h).1) = 42) := by have y := sgm_k kp890 42 (by decide); rw [sp889] at y; exact y
                  have hs42 : ¬ ((rB T n (ms h).1) < n ∧ T (rB T n (ms h).1) = 42) := fun z => q891 (hk42.mpr z)
                  have hk43 : cp890 = 43 ↔ ((rB T n (ms h).1) < n ∧ T (rB T n (ms h).1) = 43) := by have y := sgm_k kp890 43 (by decide); rw [sp889] at y; exact y
                  have hs43 : ¬ ((rB T n (ms h).1) < n ∧ T (rB T n (ms h).1) = 43) := fun z => q892 (hk43.mpr z)
                  have hk45 : cp890 = 45 ↔ ((rB T n (ms h).1) < n ∧ T (rB T n (ms h).1) = 45) := by have y := sgm_k kp890 45 (by decide); rw [sp889] at y; exact y
                  have hs45 : ¬ ((rB T n (ms h).1) < n ∧ T (rB T n (ms h).1) = 45) := fun z => q898 (hk45.mpr z)
                  have ht50 := tpm_k Tp900 (k := 50) (K := 50) rfl (by decide)
                  have hn50 : ¬ (mSk hp899).headD 0 = 50 := fun z => q901 (ht50.mpr z)
                  have hin : ¬ tvI (tF h 111 47) = 0 := by have z := q902; rw [mFr_47 ggp899] at z; exact z
                  have c2059 : (205 : Int32).toInt = 205 := rfl
                  have c2099 : (209 : Int32).toInt = 209 := rfl
                  have hcmp : ¬ (205 ≤ (mSk hp899).headD 0 ∧ (mSk hp899).headD 0 ≤ 209) := by have z := tpm_e Tp905; have z2 := q906; omega
                  have hmb : (mSk hp899, (ms hp899).2.2) = mS (mSk h) (ms h).2.2 := by rw [mp899, tp889, sp889]; rfl
                  have hr9 : rCm T n (rB T n (ms h).1) = some vp907 := by have z := np907; rw [ap899, sp889] at z; exact z
                  have h80 : (ms h).2.1 = 80 := by have z := mp907; rw [bp899, sp889] at z; exact z
                  have hF : mFt hf916 (1 + 8 * (rB T n (ms h).1) + 3) := by have z := zf916; rw [ap899, sp889] at z; exact z
                  have hZ : mZp hf916 := mZp_o (mZp_k Zp907 ip915 jp915) ef916 (by decide)
                  exact tw_vret rfl ⟨rfl, gf916, mOut_l (by unfold mS2; rw [if_neg hs42, if_neg hs43, if_neg hs45, if_neg (show ¬ (mS (mSk h) (ms h).2.2).1.headD 0 = 50 from by rw [← mfst hmb]; exact hn50), if_pos (show tst = true from hts.mp hin), if_neg (show ¬ (205 ≤ (mS (mSk h) (ms h).2.2).1.headD 0 ∧ (mS (mSk h) (ms h).2.2).1.headD 0 ≤ 209) from by rw [← mfst hmb]; exact hcmp), hr9]; (try dsimp only); rw [if_pos h80]) hF hZ⟩
                · try dsimp only [tvI_i, tvJ_j, tvR_r] at q914
                  have q914i := zeqi (Y := 0) (by decide) q914
                  have hv4 : xp907.toInt = 0 := congrArg Int32.toInt q914
                  exfalso
                  omega
            · try dsimp only [tvI_i, tvJ_j, tvR_r] at q906
              refine tw_aload rfl rfl ?_
              refine tw_virt0 rfl (g_top hG hX (ggp899).1 pp899e ((mFr_T ggp899).trans hT) ((mFr_n ggp899).trans hN)) (fun wp917 hp917 p917 => ?_)
              obtain ⟨⟨cp917, rfl, Tp917⟩, rfl⟩ := p917
              refine tw_push rfl ?_
              refine tw_ic_le rfl (fun q918 => ?_) (fun q918 => ?_)
              · try dsimp only [tvI_i, tvJ_j, tvR_r] at q918
                refine tw_aload rfl rfl ?_
                refine tw_getS rfl (hi_111_47 (ggp899).1) ?_
                refine tw_if_eq rfl (fun q919 => ?_) (fun q919 => ?_)
                · try dsimp only [tvI_i, tvJ_j, tvR_r] at q919
                  have q919i := zeqi (Y := 0) (by decide) q919
                  exact absurd q919 q902
                · try dsimp only [tvI_i, tvJ_j, tvR_r] at q919
                  have q919i := zneq (Y := 0) (by decide) q919
                  refine tw_aload rfl rfl ?_
                  refine tw_aload rfl rfl ?_
                  refine tw_virt0 rfl (g_top hG hX (ggp899).1 pp899e ((mFr_T ggp899).trans hT) ((mFr_n ggp899).trans hN)) (fun wp920 hp920 p920 => ?_)
                  obtain ⟨⟨cp920, rfl, Tp920⟩, rfl⟩ := p920
                  refine tw_push rfl ?_
                  refine tw_isub rfl ?_
                  refine tw_push rfl ?_
                  have hk42 : cp890 = 42 ↔ ((rB T n (ms h).1) < n ∧ T (rB T n (ms h).1) = 42) := by have y := sgm_k kp890 42 (by decide); rw [sp889] at y; exact y
                  have hs42 : ¬ ((rB T n (ms h).1) < n ∧ T (rB T n (ms h).1) = 42) := fun z => q891 (hk42.mpr z)
                  have hk43 : cp890 = 43 ↔ ((rB T n (ms h).1) < n ∧ T (rB T n (ms h).1) = 43) := by have y := sgm_k kp890 43 (by decide); rw [sp889] at y; exact y
                  have hs43 : ¬ ((rB T n (ms h).1) < n ∧ T (rB T n (ms h).1) = 43) := fun z => q892 (hk43.mpr z)
                  have hk45 : cp890 = 45 ↔ ((rB T n (ms h).1) < n ∧ T (rB T n (ms h).1) = 45) := by have y := sgm_k kp890 45 (by decide); rw [sp889] at y; exact y
                  have hs45 : ¬ ((rB T n (ms h).1) < n ∧ T (rB T n (ms h).1) = 45) := fun z => q898 (hk45.mpr z)
                  have ht50 := tpm_k Tp900 (k := 50) (K := 50) rfl (by decide)
                  have hn50 : ¬ (mSk hp899).headD 0 = 50 := fun z => q901 (ht50.mpr z)
                  have hin : ¬ tvI (tF h 111 47) = 0 := by have z := q902; rw [mFr_47 ggp899] at z; exact z
                  have c2059 : (205 : Int32).toInt = 205 := rfl
                  have c2099 : (209 : Int32).toInt = 209 := rfl
                  have hcmp : (205 ≤ (mSk hp899).headD 0 ∧ (mSk hp899).headD 0 ≤ 209) := by have z := tpm_e Tp905; have z1 := tpm_e Tp917; have z2 := q906; have z3 := q918; omega
                  have hc200 : (cp920 - 200).toInt = (((mSk hp899).headD 0 - 200 : Nat) : Int) := by have z := tpm_e Tp920; have z2 := hcmp; rw [zsb (x := cp920) (y := 200) (a := (mSk hp899).headD 0) (b := 200) (by omega) rfl (by omega) (by omega)]; omega
                  have hne : mSk hp899 ≠ [] := fun z => by rw [z] at hcmp; exact absurd hcmp.1 (by decide)
                  refine tw_virt2 rfl (g_entry hG hX (ggp899).1 pp899e ((mFr_T ggp899).trans hT) ((mFr_n ggp899).trans hN) ⟨by show 0 ≤ (cp920 - 200).toInt; rw [hc200]; omega, by decide⟩) (fun wp921 hp921 p921 => ?_)
                  obtain ⟨rfl, gp921, pp921e, sp921, tp921, dp921⟩ := p921
                  have ggp921 := mFr_t ggp899 gp921
                  refine tw_aload rfl rfl ?_
                  refine tw_dup rfl ?_
                  refine tw_getS rfl (hi_111_34 ggp921.1) ?_
                  refine tw_push rfl ?_
                  refine tw_isub rfl ?_
                  refine tw_put rfl (fun f922 => ?_)
                  refine tG_setm f922 (hw_111_34 f922 (ggp921).1) (fun hf922 ef922 => ?_)
                  try dsimp only [tvI_i] at ef922
                  have gf922 := mFr_s ggp921 ef922 (by unfold mFs; omega)
                  obtain ⟨pf922, tf922, sf922, df922⟩ := mSk_pop pp921e (by rw [tp921]; exact hne) ef922
                  refine tw_aload rfl rfl ?_
                  refine tw_push rfl ?_
                  refine tw_put rfl (fun f923 => ?_)
                  refine tG_setm f923 (hw_111_46 f923 (gf922).1) (fun hf923 ef923 => ?_)
                  try dsimp only [tvI_i] at ef923
                  have gf923 := mFq_s (mFq_f gf922) ef923 (Or.inr rfl)
                  obtain ⟨pf923, sf923, tf923⟩ := mSte pf922 ef923
                  refine tw_goto rfl ?_
                  have hmb : (mSk hp899, (ms hp899).2.2) = mS (mSk h) (ms h).2.2 := by rw [mp899, tp889, sp889]; rfl
                  have hx : mCode (cp920 - 200).toNatClampNeg 0 = (mS (mSk h) (ms h).2.2).1.headD 0 + 99898 := by rw [zof_cl hc200, ← mfst hmb]; have z := hcmp; unfold mCode; rw [if_neg (by omega), if_neg (by omega), if_neg (by omega), if_neg (by omega), if_neg (by omega), if_neg (by omega), if_neg (by omega), if_neg (by omega)]; omega
                  have hsk : mSk hf923 = (mS (mSk h) (ms h).2.2).1.tail := by rw [tf923, tf922, tp921, mfst hmb]
                  have hms : ms hf923 = ((rB T n (ms h).1), (ms h).2.1, (mS (mSk h) (ms h).2.2).2 ++ [(mS (mSk h) (ms h).2.2).1.headD 0 + 99898]) := by rw [sf923, sf922, sp921]; exact Prod.ext (mA1 sp889 ap899) (Prod.ext (mA2 sp889 bp899 rfl) (by show (ms hp899).2.2 ++ [mCode (cp920 - 200).toNatClampNeg 0] = _; rw [hx, msnd hmb]))
                  have hdd : mD hf923 := mD_m hD (by rw [hsk, ← mDp_S (mSk h) (ms h).2.2]; have z := hcmp; rw [mfst hmb] at z; exact mDp_tl z) ((mI_o ef923 (by decide)).trans (df922.trans (dp921.trans (dp899.trans dp889))))
                  exact tw_vret rfl ⟨rfl, gf923, mOut_r (by unfold mS2; rw [if_neg hs42, if_neg hs43, if_neg hs45, if_neg (show ¬ (mS (mSk h) (ms h).2.2).1.headD 0 = 50 from by rw [← mfst hmb]; exact hn50), if_pos (show tst = true from hts.mp hin), if_pos (show 205 ≤ (mS (mSk h) (ms h).2.2).1.headD 0 ∧ (mS (mSk h) (ms h).2.2).1.headD 0 ≤ 209 from by rw [← mfst hmb]; exact hcmp)]) pf923 hdd (by unfold mst; rw [mI_x ef923, hsk, hms]; rfl)⟩
              · try dsimp only [tvI_i, tvJ_j, tvR_r] at q918
                refine tw_aload rfl rfl ?_
                refine tw_virt0 rfl (g_compares hG hX (ggp899).1 pp899e ((mFr_T ggp899).trans hT) ((mFr_n ggp899).trans hN)) (fun w9 hp924 p924 => ?_)
                obtain ⟨gp924, ⟨np924, rfl, e9⟩ | ⟨vp924, np924, ⟨mp924, ⟨xp924, rfl, yp924⟩, pp924e, sp924, tp924, dp924⟩ | ⟨mp924, xp924, rfl, x5p924, x9p924, Fp924, Zp924⟩⟩⟩ := p924
                · have ggp924 := mFr_t ggp899 gp924
                  obtain rfl := e9.symm
                  have pp924e := pp899e
                  refine tw_istore rfl ?_
                  refine tw_iload rfl rfl ?_
                  refine tw_if_ne rfl (fun z => absurd z (by decide)) (fun _ => ?_)
                  refine tw_aload rfl rfl ?_
                  refine tw_push rfl ?_
                  refine tw_aload rfl rfl ?_
                  refine tw_getS rfl (hi_111_28 ggp924.1) ?_
                  refine tw_virt2 rfl (g_fails hG hX (ggp924).1 pp924e ((mFr_T ggp924).trans hT) ((mFr_n ggp924).trans hN) (w := 0) (b := (rB T n (ms h).1)) rfl (by decide) ((mPl pp924e).trans (by rw [(show (ms hp899).1 = (rB T n (ms h).1) from by rw [ap899, sp889]; rfl)])) (by have := rB_le (T := T) hpn; omega)) (fun wp925 hp925 p925 => ?_)
                  obtain ⟨rfl, gp925, Fp925, ip925, jp925⟩ := p925
                  have ggp925 := mFr_t ggp924 gp925
                  refine tw_aload rfl rfl ?_
                  refine tw_push rfl ?_
                  refine tw_iload rfl rfl ?_
                  refine tw_iadd rfl ?_
                  refine tw_virt1 rfl (z_opens hG hX (ggp925).1 Fp925 ((mFr_T ggp925).trans hT) ((mFr_n ggp925).trans hN)) (fun wp926 hp926 p926 => ?_)
                  obtain ⟨rfl, gp926, Fp926, ip926, jp926⟩ := p926
                  have ggp926 := mFr_t ggp925 gp926
                  refine tw_aload rfl rfl ?_
                  refine tw_push rfl ?_
                  refine tw_put rfl (fun f927 => ?_)
                  refine tG_setm f927 (hw_111_46 f927 (ggp926).1) (fun hf927 ef927 => ?_)
                  try dsimp only [tvI_i] at ef927
                  have gf927 := mFq_s (mFq_f ggp926) ef927 (Or.inr rfl)
                  have zf927 := mFt_s Fp926 ef927 (by decide)
                  refine tw_goto rfl ?_
                  have hk42 : cp890 = 42 ↔ ((rB T n (ms h).1) < n ∧ T (rB T n (ms h).1) = 42) := by have y := sgm_k kp890 42 (by decide); rw [sp889] at y; exact y
                  have hs42 : ¬ ((rB T n (ms h).1) < n ∧ T (rB T n (ms h).1) = 42) := fun z => q891 (hk42.mpr z)
                  have hk43 : cp890 = 43 ↔ ((rB T n (ms h).1) < n ∧ T (rB T n (ms h).1) = 43) := by have y := sgm_k kp890 43 (by decide); rw [sp889] at y; exact y
                  have hs43 : ¬ ((rB T n (ms h).1) < n ∧ T (rB T n (ms h).1) = 43) := fun z => q892 (hk43.mpr z)
                  have hk45 : cp890 = 45 ↔ ((rB T n (ms h).1) < n ∧ T (rB T n (ms h).1) = 45) := by have y := sgm_k kp890 45 (by decide); rw [sp889] at y; exact y
                  have hs45 : ¬ ((rB T n (ms h).1) < n ∧ T (rB T n (ms h).1) = 45) := fun z => q898 (hk45.mpr z)
                  have ht50 := tpm_k Tp900 (k := 50) (K := 50) rfl (by decide)
                  have hn50 : ¬ (mSk hp899).headD 0 = 50 := fun z => q901 (ht50.mpr z)
                  have hin : ¬ tvI (tF h 111 47) = 0 := by have z := q902; rw [mFr_47 ggp899] at z; exact z
                  have c2059 : (205 : Int32).toInt = 205 := rfl
                  have c2099 : (209 : Int32).toInt = 209 := rfl
                  have hcmp : ¬ (205 ≤ (mSk hp899).headD 0 ∧ (mSk hp899).headD 0 ≤ 209) := by have z := tpm_e Tp905; have z1 := tpm_e Tp917; have z2 := q906; have z3 := q918; omega
                  have hmb : (mSk hp899, (ms hp899).2.2) = mS (mSk h) (ms h).2.2 := by rw [mp899, tp889, sp889]; rfl
                  have hr9 : rCm T n (rB T n (ms h).1) = none := by have z := np924; rw [ap899, sp889] at z; exact z
                  have hZ : mZp hf927 := mZp_o (mZp_k (mZp_k (mZp_p pp924e) ip925 jp925) ip926 jp926) ef927 (by decide)
                  exact tw_vret rfl ⟨rfl, gf927, mOut_l (by unfold mS2; rw [if_neg hs42, if_neg hs43, if_neg hs45, if_neg (show ¬ (mS (mSk h) (ms h).2.2).1.headD 0 = 50 from by rw [← mfst hmb]; exact hn50), if_pos (show tst = true from hts.mp hin), if_neg (show ¬ (205 ≤ (mS (mSk h) (ms h).2.2).1.headD 0 ∧ (mS (mSk h) (ms h).2.2).1.headD 0 ≤ 209) from by rw [← mfst hmb]; exact hcmp), hr9]) zf927 hZ⟩
                · have ggp924 := mFr_t ggp899 gp924
                  refine tw_istore rfl ?_
                  refine tw_iload rfl rfl ?_
                  refine tw_if_ne rfl (fun q928 => ?_) (fun q928 => ?_)
                  · try dsimp only [tvI_i, tvJ_j, tvR_r] at q928
                    have q928i := zneq (Y := 0) (by decide) q928
                    refine tw_aload rfl rfl ?_
                    refine tw_push rfl ?_
                    refine tw_iload rfl rfl ?_
                    refine tw_iadd rfl ?_
                    refine tw_virt1 rfl (g_opens hG hX (ggp924).1 pp924e ((mFr_T ggp924).trans hT) ((mFr_n ggp924).trans hN) (cm_0 (rCm_r np924).1 (rCm_r np924).2.1 yp924)) (fun wp929 hp929 p929 => ?_)
                    obtain ⟨rfl, gp929, pp929e, tp929, sp929, dp929⟩ := p929
                    have ggp929 := mFr_t ggp924 gp929
                    refine tw_aload rfl rfl ?_
                    refine tw_push rfl ?_
                    refine tw_put rfl (fun f930 => ?_)
                    refine tG_setm f930 (hw_111_46 f930 (ggp929).1) (fun hf930 ef930 => ?_)
                    try dsimp only [tvI_i] at ef930
                    have gf930 := mFq_s (mFq_f ggp929) ef930 (Or.inr rfl)
                    obtain ⟨pf930, sf930, tf930⟩ := mSte pp929e ef930
                    refine tw_goto rfl ?_
                    have hk42 : cp890 = 42 ↔ ((rB T n (ms h).1) < n ∧ T (rB T n (ms h).1) = 42) := by have y := sgm_k kp890 42 (by decide); rw [sp889] at y; exact y
                    have hs42 : ¬ ((rB T n (ms h).1) < n ∧ T (rB T n (ms h).1) = 42) := fun z => q891 (hk42.mpr z)
                    have hk43 : cp890 = 43 ↔ ((rB T n (ms h).1) < n ∧ T (rB T n (ms h).1) = 43) := by have y := sgm_k kp890 43 (by decide); rw [sp889] at y; exact y
                    have hs43 : ¬ ((rB T n (ms h).1) < n ∧ T (rB T n (ms h).1) = 43) := fun z => q892 (hk43.mpr z)
                    have hk45 : cp890 = 45 ↔ ((rB T n (ms h).1) < n ∧ T (rB T n (ms h).1) = 45) := by have y := sgm_k kp890 45 (by decide); rw [sp889] at y; exact y
                    have hs45 : ¬ ((rB T n (ms h).1) < n ∧ T (rB T n (ms h).1) = 45) := fun z => q898 (hk45.mpr z)
                    have ht50 := tpm_k Tp900 (k := 50) (K := 50) rfl (by decide)
                    have hn50 : ¬ (mSk hp899).headD 0 = 50 := fun z => q901 (ht50.mpr z)
                    have hin : ¬ tvI (tF h 111 47) = 0 := by have z := q902; rw [mFr_47 ggp899] at z; exact z
                    have c2059 : (205 : Int32).toInt = 205 := rfl
                    have c2099 : (209 : Int32).toInt = 209 := rfl
                    have hcmp : ¬ (205 ≤ (mSk hp899).headD 0 ∧ (mSk hp899).headD 0 ≤ 209) := by have z := tpm_e Tp905; have z1 := tpm_e Tp917; have z2 := q906; have z3 := q918; omega
                    have hmb : (mSk hp899, (ms hp899).2.2) = mS (mSk h) (ms h).2.2 := by rw [mp899, tp889, sp889]; rfl
                    have hr9 : rCm T n (rB T n (ms h).1) = some vp924 := by have z := np924; rw [ap899, sp889] at z; exact z
                    have h80 : (ms h).2.1 ≠ 80 := by have z := mp924; rw [bp899, sp889] at z; exact z
                    have hv1 := (rCm_r hr9).1
                    have hv2 := (rCm_r hr9).2.1
                    have hx := cm_x hv1 hv2 yp924
                    have hsk : mSk hf930 = (vp924.1 - 99898) :: (mS (mSk h) (ms h).2.2).1 := by rw [tf930, tp929]; show (200 + xp924).toNatClampNeg :: mSk hp924 = _; rw [hx, tp924, mfst hmb]
                    have hms : ms hf930 = (vp924.2, (ms h).2.1 + 1, (mS (mSk h) (ms h).2.2).2) := by rw [sf930, sp929, sp924]; exact Prod.ext rfl (Prod.ext (by show (ms hp899).2.1 + 1 = _; rw [bp899, sp889]; rfl) (by have z := msnd hmb; exact z))
                    have hdd : mD hf930 := mD_m hD (by rw [hsk, mDp_e (by omega)]; exact mDp_S _ _) ((mI_o ef930 (by decide)).trans (dp929.trans (dp924.trans (dp899.trans dp889))))
                    exact tw_vret rfl ⟨rfl, gf930, mOut_r (by unfold mS2; rw [if_neg hs42, if_neg hs43, if_neg hs45, if_neg (show ¬ (mS (mSk h) (ms h).2.2).1.headD 0 = 50 from by rw [← mfst hmb]; exact hn50), if_pos (show tst = true from hts.mp hin), if_neg (show ¬ (205 ≤ (mS (mSk h) (ms h).2.2).1.headD 0 ∧ (mS (mSk h) (ms h).2.2).1.headD 0 ≤ 209) from by rw [← mfst hmb]; exact hcmp), hr9]; (try dsimp only); rw [if_neg h80]) pf930 hdd (by unfold mst; rw [mI_x ef930, hsk, hms]; rfl)⟩
                  · try dsimp only [tvI_i, tvJ_j, tvR_r] at q928
                    have q928i := zeqi (Y := 0) (by decide) q928
                    exact (cm_z (rCm_r np924).1 yp924 q928).elim
                · have ggp924 := mFr_t ggp899 gp924
                  refine tw_istore rfl ?_
                  refine tw_iload rfl rfl ?_
                  refine tw_if_ne rfl (fun q931 => ?_) (fun q931 => ?_)
                  · try dsimp only [tvI_i, tvJ_j, tvR_r] at q931
                    have q931i := zneq (Y := 0) (by decide) q931
                    refine tw_aload rfl rfl ?_
                    refine tw_push rfl ?_
                    refine tw_iload rfl rfl ?_
                    refine tw_iadd rfl ?_
                    refine tw_virt1 rfl (z_opens hG hX (ggp924).1 Fp924 ((mFr_T ggp924).trans hT) ((mFr_n ggp924).trans hN)) (fun wp932 hp932 p932 => ?_)
                    obtain ⟨rfl, gp932, Fp932, ip932, jp932⟩ := p932
                    have ggp932 := mFr_t ggp924 gp932
                    refine tw_aload rfl rfl ?_
                    refine tw_push rfl ?_
                    refine tw_put rfl (fun f933 => ?_)
                    refine tG_setm f933 (hw_111_46 f933 (ggp932).1) (fun hf933 ef933 => ?_)
                    try dsimp only [tvI_i] at ef933
                    have gf933 := mFq_s (mFq_f ggp932) ef933 (Or.inr rfl)
                    have zf933 := mFt_s Fp932 ef933 (by decide)
                    refine tw_goto rfl ?_
                    have hk42 : cp890 = 42 ↔ ((rB T n (ms h).1) < n ∧ T (rB T n (ms h).1) = 42) := by have y := sgm_k kp890 42 (by decide); rw [sp889] at y; exact y
                    have hs42 : ¬ ((rB T n (ms h).1) < n ∧ T (rB T n (ms h).1) = 42) := fun z => q891 (hk42.mpr z)
                    have hk43 : cp890 = 43 ↔ ((rB T n (ms h).1) < n ∧ T (rB T n (ms h).1) = 43) := by have y := sgm_k kp890 43 (by decide); rw [sp889] at y; exact y
                    have hs43 : ¬ ((rB T n (ms h).1) < n ∧ T (rB T n (ms h).1) = 43) := fun z => q892 (hk43.mpr z)
                    have hk45 : cp890 = 45 ↔ ((rB T n (ms h).1) < n ∧ T (rB T n (ms h).1) = 45) := by have y := sgm_k kp890 45 (by decide); rw [sp889] at y; exact y
                    have hs45 : ¬ ((rB T n (ms h).1) < n ∧ T (rB T n (ms h).1) = 45) := fun z => q898 (hk45.mpr z)
                    have ht50 := tpm_k Tp900 (k := 50) (K := 50) rfl (by decide)
                    have hn50 : ¬ (mSk hp899).headD 0 = 50 := fun z => q901 (ht50.mpr z)
                    have hin : ¬ tvI (tF h 111 47) = 0 := by have z := q902; rw [mFr_47 ggp899] at z; exact z
                    have c2059 : (205 : Int32).toInt = 205 := rfl
                    have c2099 : (209 : Int32).toInt = 209 := rfl
                    have hcmp : ¬ (205 ≤ (mSk hp899).headD 0 ∧ (mSk hp899).headD 0 ≤ 209) := by have z := tpm_e Tp905; have z1 := tpm_e Tp917; have z2 := q906; have z3 := q918; omega
                    have hmb : (mSk hp899, (ms hp899).2.2) = mS (mSk h) (ms h).2.2 := by rw [mp899, tp889, sp889]; rfl
                    have hr9 : rCm T n (rB T n (ms h).1) = some vp924 := by have z := np924; rw [ap899, sp889] at z; exact z
                    have h80 : (ms h).2.1 = 80 := by have z := mp924; rw [bp899, sp889] at z; exact z
                    have hF : mFt hf933 (1 + 8 * (rB T n (ms h).1) + 3) := by have z := zf933; rw [ap899, sp889] at z; exact z
                    have hZ : mZp hf933 := mZp_o (mZp_k Zp924 ip932 jp932) ef933 (by decide)
                    exact tw_vret rfl ⟨rfl, gf933, mOut_l (by unfold mS2; rw [if_neg hs42, if_neg hs43, if_neg hs45, if_neg (show ¬ (mS (mSk h) (ms h).2.2).1.headD 0 = 50 from by rw [← mfst hmb]; exact hn50), if_pos (show tst = true from hts.mp hin), if_neg (show ¬ (205 ≤ (mS (mSk h) (ms h).2.2).1.headD 0 ∧ (mS (mSk h) (ms h).2.2).1.headD 0 ≤ 209) from by rw [← mfst hmb]; exact hcmp), hr9]; (try dsimp only); rw [if_pos h80]) hF hZ⟩
                  · try dsimp only [tvI_i, tvJ_j, tvR_r] at q931
                    have q931i := zeqi (Y := 0) (by decide) q931
                    have hv4 : xp924.toInt = 0 := congrArg Int32.toInt q931
                    exfalso
                    omega
        · try dsimp only [tvI_i, tvJ_j, tvR_r] at q901
          have q901i := zeqi (Y := 50) (by decide) q901
          refine tw_aload rfl rfl ?_
          refine tw_iload rfl rfl ?_
          have hk42 : cp890 = 42 ↔ ((rB T n (ms h).1) < n ∧ T (rB T n (ms h).1) = 42) := by have y := sgm_k kp890 42 (by decide); rw [sp889] at y; exact y
          have hs42 : ¬ ((rB T n (ms h).1) < n ∧ T (rB T n (ms h).1) = 42) := fun z => q891 (hk42.mpr z)
          have hk43 : cp890 = 43 ↔ ((rB T n (ms h).1) < n ∧ T (rB T n (ms h).1) = 43) := by have y := sgm_k kp890 43 (by decide); rw [sp889] at y; exact y
          have hs43 : ¬ ((rB T n (ms h).1) < n ∧ T (rB T n (ms h).1) = 43) := fun z => q892 (hk43.mpr z)
          have hk45 : cp890 = 45 ↔ ((rB T n (ms h).1) < n ∧ T (rB T n (ms h).1) = 45) := by have y := sgm_k kp890 45 (by decide); rw [sp889] at y; exact y
          have hs45 : ¬ ((rB T n (ms h).1) < n ∧ T (rB T n (ms h).1) = 45) := fun z => q898 (hk45.mpr z)
          have ht50 := tpm_k Tp900 (k := 50) (K := 50) rfl (by decide)
          have hn50 : (mSk hp899).headD 0 = 50 := ht50.mp q901
          have hDm : mD hp899 := mD_m hD (by rw [mfst mp899, tp889, show (ms hp889).2.2 = (ms h).2.2 by rw [sp889]; rfl]; exact mDp_S _ _) (dp899.trans dp889)
          have hcl9 : sgm T n (ms hp899).1 cp890 := by rw [ap899]; exact kp890
          refine tw_virt1 rfl (g_closesRound hG hX (ggp899).1 pp899e ((mFr_T ggp899).trans hT) ((mFr_n ggp899).trans hN) hcl9 hn50 hDm) (fun w9 hp934 p934 => ?_)
          obtain ⟨rfl, gp934, ⟨wp934, pp934e, sp934, tp934, ddp934⟩ | ⟨wp934, Fp934, Zp934⟩⟩ := p934
          · have ggp934 := mFr_t ggp899 gp934
            refine tw_goto rfl ?_
            have hmb : (mSk hp899, (ms hp899).2.2) = mS (mSk h) (ms h).2.2 := by rw [mp899, tp889, sp889]; rfl
            have w9 : ((rB T n (ms h).1) < n ∧ T (rB T n (ms h).1) = 41) := by have z := wp934; rw [ap899, sp889] at z; exact z
            have hms : ms hp934 = ((rB T n (ms h).1) + 1, (ms h).2.1, (mS (mSk h) (ms h).2.2).2) := mA4 sp934 sp889 ap899 bp899 rfl (msnd hmb)
            have h46 : stN (tvI (tF hp934 111 46)) = 2 := by rw [mFr_46 ggp934, h46s]; rfl
            exact tw_vret rfl ⟨rfl, mFq_f ggp934, mOut_r (by unfold mS2; rw [if_neg hs42, if_neg hs43, if_neg hs45, if_pos (show (mS (mSk h) (ms h).2.2).1.headD 0 = 50 from by rw [← mfst hmb]; exact hn50), if_pos w9]) pp934e ddp934 (by unfold mst; rw [h46, hms, tp934, mfst hmb])⟩
          · have ggp934 := mFr_t ggp899 gp934
            refine tw_goto rfl ?_
            have hmb : (mSk hp899, (ms hp899).2.2) = mS (mSk h) (ms h).2.2 := by rw [mp899, tp889, sp889]; rfl
            have w9 : ¬ ((rB T n (ms h).1) < n ∧ T (rB T n (ms h).1) = 41) := by have z := wp934; rw [ap899, sp889] at z; exact z
            have hpl : (ms hp899).1 = (rB T n (ms h).1) := by rw [ap899, sp889]; rfl
            have hF := Fp934
            rw [hpl] at hF
            exact tw_vret rfl ⟨rfl, mFq_f ggp934, mOut_l (by unfold mS2; rw [if_neg hs42, if_neg hs43, if_neg hs45, if_pos (show (mS (mSk h) (ms h).2.2).1.headD 0 = 50 from by rw [← mfst hmb]; exact hn50), if_neg w9]) hF Zp934⟩
      · try dsimp only [tvI_i, tvJ_j, tvR_r] at q898
        have q898i := zeqi (Y := 45) (by decide) q898
        refine tw_aload rfl rfl ?_
        refine tw_virt0 rfl (g_makesSums hG hX (ggp889).1 pp889e ((mFr_T ggp889).trans hT) ((mFr_n ggp889).trans hN)) (fun wp935 hp935 p935 => ?_)
        obtain ⟨rfl, gp935, pp935e, ap935, bp935, mp935, dp935⟩ := p935
        have ggp935 := mFr_t ggp889 gp935
        refine tw_aload rfl rfl ?_
        refine tw_push rfl ?_
        refine tw_iload rfl rfl ?_
        refine tw_push rfl ?_
        refine tw_ic_ne rfl (fun q936 => ?_) (fun q936 => ?_)
        · try dsimp only [tvI_i, tvJ_j, tvR_r] at q936
          have q936i := zneq (Y := 43) (by decide) q936
          refine tw_push rfl ?_
          refine tw_iadd rfl ?_
          refine tw_virt1 rfl (g_opens hG hX (ggp935).1 pp935e ((mFr_T ggp935).trans hT) ((mFr_n ggp935).trans hN) (by decide)) (fun wp937 hp937 p937 => ?_)
          obtain ⟨rfl, gp937, pp937e, tp937, sp937, dp937⟩ := p937
          have ggp937 := mFr_t ggp935 gp937
          refine tw_aload rfl rfl ?_
          refine tw_dup rfl ?_
          refine tw_getS rfl (hi_111_28 ggp937.1) ?_
          refine tw_push rfl ?_
          refine tw_iadd rfl ?_
          refine tw_put rfl (fun f938 => ?_)
          refine tG_setm f938 (hw_111_28 f938 (ggp937).1) (fun hf938 ef938 => ?_)
          try dsimp only [tvI_i] at ef938
          have gf938 := mFr_s ggp937 ef938 (by unfold mFs; omega)
          have hk42 : cp890 = 42 ↔ ((rB T n (ms h).1) < n ∧ T (rB T n (ms h).1) = 42) := by have y := sgm_k kp890 42 (by decide); rw [sp889] at y; exact y
          have hs42 : ¬ ((rB T n (ms h).1) < n ∧ T (rB T n (ms h).1) = 42) := fun z => q891 (hk42.mpr z)
          have hk43 : cp890 = 43 ↔ ((rB T n (ms h).1) < n ∧ T (rB T n (ms h).1) = 43) := by have y := sgm_k kp890 43 (by decide); rw [sp889] at y; exact y
          have hs43 : ¬ ((rB T n (ms h).1) < n ∧ T (rB T n (ms h).1) = 43) := fun z => q892 (hk43.mpr z)
          have hk45 : cp890 = 45 ↔ ((rB T n (ms h).1) < n ∧ T (rB T n (ms h).1) = 45) := by have y := sgm_k kp890 45 (by decide); rw [sp889] at y; exact y
          have hs45 := hk45.mp q898
          have hmsf938 : ms hp937 = ((rB T n (ms h).1), (ms h).2.1, (ms hp935).2.2) := (sp937).trans (mA3 sp889 ap935 bp935 rfl rfl)
          obtain ⟨pf938, sf938, tf938⟩ := mTo pp937e ((mFr_n ggp937).trans hN) ef938 (v := (rB T n (ms h).1) + 1) (zp1 (by rw [mPl pp937e, hmsf938]) (by have := rB_le (T := T) hpn; omega)) hs45.1
          rw [hmsf938] at sf938
          refine tw_aload rfl rfl ?_
          refine tw_push rfl ?_
          refine tw_put rfl (fun f939 => ?_)
          refine tG_setm f939 (hw_111_46 f939 (gf938).1) (fun hf939 ef939 => ?_)
          try dsimp only [tvI_i] at ef939
          have gf939 := mFq_s (mFq_f gf938) ef939 (Or.inr rfl)
          obtain ⟨pf939, sf939, tf939⟩ := mSte pf938 ef939
          refine tw_goto rfl ?_
          have hmb : (mSk hp935, (ms hp935).2.2) = mS (mSk h) (ms h).2.2 := by rw [mp935, tp889, sp889]; rfl
          have hsk : mSk hf939 = 104 :: (mS (mSk h) (ms h).2.2).1 := by rw [tf939, tf938, tp937, ← mfst hmb]; rfl
          have hdd : mD hf939 := mD_m hD (by rw [hsk, mDp_e (by decide)]; exact mDp_S _ _) ((mI_o ef939 (by decide)).trans ((mI_o ef938 (by decide)).trans (dp937.trans (dp935.trans dp889))))
          exact tw_vret rfl ⟨rfl, gf939, mOut_r (by unfold mS2; rw [if_neg hs42, if_neg hs43, if_pos hs45]) pf939 hdd (by unfold mst; rw [mI_x ef939, hsk, sf939, sf938, msnd hmb]; rfl)⟩
        · try dsimp only [tvI_i, tvJ_j, tvR_r] at q936
          have q936i := zeqi (Y := 43) (by decide) q936
          exact absurd q936 q892
  · try dsimp only [tvI_i, tvJ_j, tvR_r] at q891
    have q891i := zeqi (Y := 42) (by decide) q891
    refine tw_aload rfl rfl ?_
    refine tw_virt0 rfl (g_makesProducts hG hX (ggp889).1 pp889e ((mFr_T ggp889).trans hT) ((mFr_n ggp889).trans hN)) (fun wp940 hp940 p940 => ?_)
    obtain ⟨rfl, gp940, pp940e, ap940, bp940, mp940, dp940⟩ := p940
    have ggp940 := mFr_t ggp889 gp940
    refine tw_aload rfl rfl ?_
    refine tw_push rfl ?_
    refine tw_virt1 rfl (g_opens hG hX (ggp940).1 pp940e ((mFr_T ggp940).trans hT) ((mFr_n ggp940).trans hN) (by decide)) (fun wp941 hp941 p941 => ?_)
    obtain ⟨rfl, gp941, pp941e, tp941, sp941, dp941⟩ := p941
    have ggp941 := mFr_t ggp940 gp941
    refine tw_aload rfl rfl ?_
    refine tw_dup rfl ?_
    refine tw_getS rfl (hi_111_28 ggp941.1) ?_
    refine tw_push rfl ?_
    refine tw_iadd rfl ?_
    refine tw_put rfl (fun f942 => ?_)
    refine tG_setm f942 (hw_111_28 f942 (ggp941).1) (fun hf942 ef942 => ?_)
    try dsimp only [tvI_i] at ef942
    have gf942 := mFr_s ggp941 ef942 (by unfold mFs; omega)
    have hk42 : cp890 = 42 ↔ ((rB T n (ms h).1) < n ∧ T (rB T n (ms h).1) = 42) := by have y := sgm_k kp890 42 (by decide); rw [sp889] at y; exact y
    have hs42 := hk42.mp q891
    have hmsf942 : ms hp941 = ((rB T n (ms h).1), (ms h).2.1, (ms hp940).2.2) := (sp941).trans (mA3 sp889 ap940 bp940 rfl rfl)
    obtain ⟨pf942, sf942, tf942⟩ := mTo pp941e ((mFr_n ggp941).trans hN) ef942 (v := (rB T n (ms h).1) + 1) (zp1 (by rw [mPl pp941e, hmsf942]) (by have := rB_le (T := T) hpn; omega)) hs42.1
    rw [hmsf942] at sf942
    refine tw_aload rfl rfl ?_
    refine tw_push rfl ?_
    refine tw_put rfl (fun f943 => ?_)
    refine tG_setm f943 (hw_111_46 f943 (gf942).1) (fun hf943 ef943 => ?_)
    try dsimp only [tvI_i] at ef943
    have gf943 := mFq_s (mFq_f gf942) ef943 (Or.inr rfl)
    obtain ⟨pf943, sf943, tf943⟩ := mSte pf942 ef943
    refine tw_goto rfl ?_
    have hmb : (mSk hp940, (ms hp940).2.2) = mT (mSk h) (ms h).2.2 := by rw [mp940, tp889, sp889]; rfl
    have hsk : mSk hf943 = 102 :: (mT (mSk h) (ms h).2.2).1 := by rw [tf943, tf942, tp941, ← mfst hmb]; rfl
    have hdd : mD hf943 := mD_m hD (by rw [hsk, mDp_e (by decide)]; exact mDp_T _ _) ((mI_o ef943 (by decide)).trans ((mI_o ef942 (by decide)).trans (dp941.trans (dp940.trans dp889))))
    exact tw_vret rfl ⟨rfl, gf943, mOut_r (by unfold mS2; rw [if_pos hs42]) pf943 hdd (by unfold mst; rw [mI_x ef943, hsk, sf943, sf942, msnd hmb]; rfl)⟩
theorem g_behindFact {G : zG} (hG : G.1 = zProg) (hX : G.2.1 = ztx) {h : zH} {T : Nat → Int32} {n : Nat} (hs : tSh h) (hp : mP h) (hT : tA h 132 = T) (hN : mn h = n) (hD : mD h) (hd : mDp (mSk h) ≤ 1000) (h46s : tvI (tF h 111 46) = 3) : tC zTt G 222 [.ref 111] h (fun w h2 => w = none ∧ mFq h h2 ∧ mOut (mS3 T n (mSk h) (ms h)) h2) := by
  refine tC_in (by rw [hG]; rfl) (fun dp => ?_)
  have g0 := mFr_r hs
  have hpn : (ms h).1 ≤ n := mPle hp hN
  have hn4 : n ≤ 400 := by have a := mNl hp hN; have b := hp.2.1; omega
  refine tw_aload rfl rfl ?_
  refine tw_virt0 rfl (g_makesNots hG hX (g0).1 hp ((mFr_T g0).trans hT) ((mFr_n g0).trans hN) hD) (fun wp944 hp944 p944 => ?_)
  obtain ⟨rfl, gp944, pp944e, ap944, bp944, mp944, dp944⟩ := p944
  have ggp944 := mFr_t g0 gp944
  refine tw_aload rfl rfl ?_
  refine tw_virt0 rfl (g_blanks hG hX (ggp944).1 pp944e ((mFr_T ggp944).trans hT) ((mFr_n ggp944).trans hN)) (fun wp945 hp945 p945 => ?_)
  obtain ⟨rfl, gp945, pp945e, sp945, tp945, dp945⟩ := p945
  have ggp945 := mFr_t ggp944 gp945
  rw [ap944] at sp945
  refine tw_aload rfl rfl ?_
  refine tw_push rfl ?_
  refine tw_virt1 rfl (g_stands hG hX (ggp945).1 ((mFr_T ggp945).trans hT) ((mFr_n ggp945).trans hN) (q := 19) (by decide +kernel) ⟨pp945e.2.1.1, by have := pp945e.2.1; omega⟩ ⟨by have := pp945e.2.1; omega, pp945e.2.1.2.2⟩) (fun w9 h9 p946 => ?_)
  obtain ⟨⟨p946, rfl⟩ | ⟨p946, rfl⟩, rfl⟩ := p946
  · try dsimp only [tvI_i, tvJ_j, tvR_r] at p946
    refine tw_if_eq rfl (fun z => absurd z (by decide)) (fun _ => ?_)
    refine tw_aload rfl rfl ?_
    refine tw_virt0 rfl (g_makesAnds hG hX (ggp945).1 pp945e ((mFr_T ggp945).trans hT) ((mFr_n ggp945).trans hN)) (fun wp947 hp947 p947 => ?_)
    obtain ⟨rfl, gp947, pp947e, ap947, bp947, mp947, dp947⟩ := p947
    have ggp947 := mFr_t ggp945 gp947
    refine tw_aload rfl rfl ?_
    refine tw_push rfl ?_
    refine tw_virt1 rfl (g_opens hG hX (ggp947).1 pp947e ((mFr_T ggp947).trans hT) ((mFr_n ggp947).trans hN) (by decide)) (fun wp948 hp948 p948 => ?_)
    obtain ⟨rfl, gp948, pp948e, tp948, sp948, dp948⟩ := p948
    have ggp948 := mFr_t ggp947 gp948
    refine tw_aload rfl rfl ?_
    refine tw_dup rfl ?_
    refine tw_getS rfl (hi_111_28 ggp948.1) ?_
    refine tw_push rfl ?_
    refine tw_iadd rfl ?_
    refine tw_put rfl (fun f949 => ?_)
    refine tG_setm f949 (hw_111_28 f949 (ggp948).1) (fun hf949 ef949 => ?_)
    try dsimp only [tvI_i] at ef949
    have gf949 := mFr_s ggp948 ef949 (by unfold mFs; omega)
    have hw18 : rW T n (rB T n (ms h).1) (rWd 18) = true := by have z := p946; rw [sp945] at z; rw [txt_k.2.1]; exact z
    have h9w : rE T n (rB T n (ms h).1) = (rB T n (ms h).1) + 3 := by rw [rW_e hw18, wlen_k.1]
    have hr9 := rE_le (T := T) (rB_le (T := T) hpn)
    rw [h9w] at hr9
    have hmsf949 : ms hp948 = ((rB T n (ms h).1), (ms h).2.1, (ms hp947).2.2) := (sp948).trans (mA3 sp945 ap947 bp947 bp944 rfl)
    obtain ⟨pf949, sf949, tf949⟩ := mTo pp948e ((mFr_n ggp948).trans hN) ef949 (v := (rB T n (ms h).1) + 3) (zp3 (k := (rB T n (ms h).1)) (j := 3) (by rw [mPl pp948e, hmsf949]) rfl (by have := rB_le (T := T) hpn; omega) (by decide)) hr9
    rw [hmsf949] at sf949
    refine tw_aload rfl rfl ?_
    refine tw_push rfl ?_
    refine tw_put rfl (fun f950 => ?_)
    refine tG_setm f950 (hw_111_46 f950 (gf949).1) (fun hf950 ef950 => ?_)
    try dsimp only [tvI_i] at ef950
    have gf950 := mFq_s (mFq_f gf949) ef950 (Or.inr rfl)
    obtain ⟨pf950, sf950, tf950⟩ := mSte pf949 ef950
    refine tw_goto rfl ?_
    have hmn : (mSk hp945, (ms hp945).2.2) = (mN (mSk h) (ms h).2.2) := by rw [tp945, sp945]; exact mp944
    have hmb : (mSk hp947, (ms hp947).2.2) = mA (mN (mSk h) (ms h).2.2).1 (mN (mSk h) (ms h).2.2).2 := by rw [mp947, mfst hmn, msnd hmn]
    have hsk : mSk hf950 = 11 :: (mA (mN (mSk h) (ms h).2.2).1 (mN (mSk h) (ms h).2.2).2).1 := by rw [tf950, tf949, tp948, ← mfst hmb]; rfl
    have hdd : mD hf950 := mD_m (mD_k dp944 tp945 dp945) (by rw [hsk, mDp_e (by decide), mDp_A, mfst hmn]) ((mI_o ef950 (by decide)).trans ((mI_o ef949 (by decide)).trans (dp948.trans dp947)))
    exact tw_vret rfl ⟨rfl, gf950, mOut_r (by unfold mS3; rw [if_pos hw18]) pf950 hdd (by unfold mst; rw [mI_x ef950, hsk, sf950, sf949, msnd hmb]; rfl)⟩
  · try dsimp only [tvI_i, tvJ_j, tvR_r] at p946
    refine tw_if_eq rfl (fun _ => ?_) (fun z => absurd z (by decide))
    refine tw_aload rfl rfl ?_
    refine tw_push rfl ?_
    refine tw_virt1 rfl (g_stands hG hX (ggp945).1 ((mFr_T ggp945).trans hT) ((mFr_n ggp945).trans hN) (q := 20) (by decide +kernel) ⟨pp945e.2.1.1, by have := pp945e.2.1; omega⟩ ⟨by have := pp945e.2.1; omega, pp945e.2.1.2.2⟩) (fun w9 h9 p951 => ?_)
    obtain ⟨⟨p951, rfl⟩ | ⟨p951, rfl⟩, rfl⟩ := p951
    · try dsimp only [tvI_i, tvJ_j, tvR_r] at p951
      refine tw_if_eq rfl (fun z => absurd z (by decide)) (fun _ => ?_)
      refine tw_aload rfl rfl ?_
      refine tw_virt0 rfl (g_makesOrs hG hX (ggp945).1 pp945e ((mFr_T ggp945).trans hT) ((mFr_n ggp945).trans hN)) (fun wp952 hp952 p952 => ?_)
      obtain ⟨rfl, gp952, pp952e, ap952, bp952, mp952, dp952⟩ := p952
      have ggp952 := mFr_t ggp945 gp952
      refine tw_aload rfl rfl ?_
      refine tw_push rfl ?_
      refine tw_virt1 rfl (g_opens hG hX (ggp952).1 pp952e ((mFr_T ggp952).trans hT) ((mFr_n ggp952).trans hN) (by decide)) (fun wp953 hp953 p953 => ?_)
      obtain ⟨rfl, gp953, pp953e, tp953, sp953, dp953⟩ := p953
      have ggp953 := mFr_t ggp952 gp953
      refine tw_aload rfl rfl ?_
      refine tw_dup rfl ?_
      refine tw_getS rfl (hi_111_28 ggp953.1) ?_
      refine tw_push rfl ?_
      refine tw_iadd rfl ?_
      refine tw_put rfl (fun f954 => ?_)
      refine tG_setm f954 (hw_111_28 f954 (ggp953).1) (fun hf954 ef954 => ?_)
      try dsimp only [tvI_i] at ef954
      have gf954 := mFr_s ggp953 ef954 (by unfold mFs; omega)
      have hw18 : ¬ rW T n (rB T n (ms h).1) (rWd 18) = true := by have z := p946; rw [sp945] at z; rw [txt_k.2.1]; exact z
      have hw17 : rW T n (rB T n (ms h).1) (rWd 17) = true := by have z := p951; rw [sp945] at z; rw [txt_k.2.2.1]; exact z
      have h9w : rE T n (rB T n (ms h).1) = (rB T n (ms h).1) + 2 := by rw [rW_e hw17, wlen_k.2.1]
      have hr9 := rE_le (T := T) (rB_le (T := T) hpn)
      rw [h9w] at hr9
      have hmsf954 : ms hp953 = ((rB T n (ms h).1), (ms h).2.1, (ms hp952).2.2) := (sp953).trans (mA3 sp945 ap952 bp952 bp944 rfl)
      obtain ⟨pf954, sf954, tf954⟩ := mTo pp953e ((mFr_n ggp953).trans hN) ef954 (v := (rB T n (ms h).1) + 2) (zp3 (k := (rB T n (ms h).1)) (j := 2) (by rw [mPl pp953e, hmsf954]) rfl (by have := rB_le (T := T) hpn; omega) (by decide)) hr9
      rw [hmsf954] at sf954
      refine tw_aload rfl rfl ?_
      refine tw_push rfl ?_
      refine tw_put rfl (fun f955 => ?_)
      refine tG_setm f955 (hw_111_46 f955 (gf954).1) (fun hf955 ef955 => ?_)
      try dsimp only [tvI_i] at ef955
      have gf955 := mFq_s (mFq_f gf954) ef955 (Or.inr rfl)
      obtain ⟨pf955, sf955, tf955⟩ := mSte pf954 ef955
      refine tw_goto rfl ?_
      have hmn : (mSk hp945, (ms hp945).2.2) = (mN (mSk h) (ms h).2.2) := by rw [tp945, sp945]; exact mp944
      have hmb : (mSk hp952, (ms hp952).2.2) = mO (mN (mSk h) (ms h).2.2).1 (mN (mSk h) (ms h).2.2).2 := by rw [mp952, mfst hmn, msnd hmn]
      have hsk : mSk hf955 = 12 :: (mO (mN (mSk h) (ms h).2.2).1 (mN (mSk h) (ms h).2.2).2).1 := by rw [tf955, tf954, tp953, ← mfst hmb]; rfl
      have hdd : mD hf955 := mD_m (mD_k dp944 tp945 dp945) (by rw [hsk, mDp_e (by decide), mDp_O, mfst hmn]) ((mI_o ef955 (by decide)).trans ((mI_o ef954 (by decide)).trans (dp953.trans dp952)))
      exact tw_vret rfl ⟨rfl, gf955, mOut_r (by unfold mS3; rw [if_neg hw18, if_pos hw17]) pf955 hdd (by unfold mst; rw [mI_x ef955, hsk, sf955, sf954, msnd hmb]; rfl)⟩
    · try dsimp only [tvI_i, tvJ_j, tvR_r] at p951
      refine tw_if_eq rfl (fun _ => ?_) (fun z => absurd z (by decide))
      refine tw_aload rfl rfl ?_
      refine tw_virt0 rfl (g_makesOrs hG hX (ggp945).1 pp945e ((mFr_T ggp945).trans hT) ((mFr_n ggp945).trans hN)) (fun wp956 hp956 p956 => ?_)
      obtain ⟨rfl, gp956, pp956e, ap956, bp956, mp956, dp956⟩ := p956
      have ggp956 := mFr_t ggp945 gp956
      refine tw_aload rfl rfl ?_
      refine tw_virt0 rfl (g_top hG hX (ggp956).1 pp956e ((mFr_T ggp956).trans hT) ((mFr_n ggp956).trans hN)) (fun wp957 hp957 p957 => ?_)
      obtain ⟨⟨cp957, rfl, Tp957⟩, rfl⟩ := p957
      refine tw_push rfl ?_
      refine tw_ic_ne rfl (fun q958 => ?_) (fun q958 => ?_)
      · try dsimp only [tvI_i, tvJ_j, tvR_r] at q958
        have q958i := zneq (Y := 13) (by decide) q958
        refine tw_aload rfl rfl ?_
        refine tw_push rfl ?_
        refine tw_put rfl (fun f959 => ?_)
        refine tG_setm f959 (hw_111_46 f959 (ggp956).1) (fun hf959 ef959 => ?_)
        try dsimp only [tvI_i] at ef959
        have gf959 := mFq_s (mFq_f ggp956) ef959 (Or.inr rfl)
        obtain ⟨pf959, sf959, tf959⟩ := mSte pp956e ef959
        have hw18 : ¬ rW T n (rB T n (ms h).1) (rWd 18) = true := by have z := p946; rw [sp945] at z; rw [txt_k.2.1]; exact z
        have hw17 : ¬ rW T n (rB T n (ms h).1) (rWd 17) = true := by have z := p951; rw [sp945] at z; rw [txt_k.2.2.1]; exact z
        have ht13 := tpm_k Tp957 (k := 13) (K := 13) rfl (by decide)
        have hn13 : ¬ (mSk hp956).headD 0 = 13 := fun z => q958 (ht13.mpr z)
        have hmn : (mSk hp945, (ms hp945).2.2) = (mN (mSk h) (ms h).2.2) := by rw [tp945, sp945]; exact mp944
        have hmb : (mSk hp956, (ms hp956).2.2) = mO (mN (mSk h) (ms h).2.2).1 (mN (mSk h) (ms h).2.2).2 := by rw [mp956, mfst hmn, msnd hmn]
        have hms : ms hf959 = ((rB T n (ms h).1), (ms h).2.1, (mO (mN (mSk h) (ms h).2.2).1 (mN (mSk h) (ms h).2.2).2).2) := (sf959).trans (mA3 sp945 ap956 bp956 bp944 (msnd hmb))
        have hsk : mSk hf959 = (mO (mN (mSk h) (ms h).2.2).1 (mN (mSk h) (ms h).2.2).2).1 := by rw [tf959, mfst hmb]
        have hdd : mD hf959 := mD_m (mD_k dp944 tp945 dp945) (by rw [hsk, mDp_O, mfst hmn]) ((mI_o ef959 (by decide)).trans dp956)
        exact tw_vret rfl ⟨rfl, gf959, mOut_r (by unfold mS3; rw [if_neg hw18, if_neg hw17, if_neg (show ¬ (mO (mN (mSk h) (ms h).2.2).1 (mN (mSk h) (ms h).2.2).2).1.headD 0 = 13 from by rw [← mfst hmb]; exact hn13)]) pf959 hdd (by unfold mst; rw [mI_x ef959, hsk, hms]; rfl)⟩
      · try dsimp only [tvI_i, tvJ_j, tvR_r] at q958
        have q958i := zeqi (Y := 13) (by decide) q958
        refine tw_aload rfl rfl ?_
        refine tw_virt0 rfl (g_sign hG hX (ggp956).1 ((mFr_T ggp956).trans hT) ((mFr_n ggp956).trans hN) ⟨pp956e.2.1.1, by have := pp956e.2.1; omega⟩) (fun wp960 hp960 p960 => ?_)
        obtain ⟨⟨cp960, rfl, kp960⟩, rfl⟩ := p960
        refine tw_push rfl ?_
        refine tw_ic_eq rfl (fun q961 => ?_) (fun q961 => ?_)
        · try dsimp only [tvI_i, tvJ_j, tvR_r] at q961
          have q961i := zeqi (Y := 93) (by decide) q961
          refine tw_aload rfl rfl ?_
          refine tw_dup rfl ?_
          refine tw_getS rfl (hi_111_28 (ggp956).1) ?_
          refine tw_push rfl ?_
          refine tw_iadd rfl ?_
          refine tw_put rfl (fun f962 => ?_)
          refine tG_setm f962 (hw_111_28 f962 (ggp956).1) (fun hf962 ef962 => ?_)
          try dsimp only [tvI_i] at ef962
          have gf962 := mFr_s ggp956 ef962 (by unfold mFs; omega)
          have hw18 : ¬ rW T n (rB T n (ms h).1) (rWd 18) = true := by have z := p946; rw [sp945] at z; rw [txt_k.2.1]; exact z
          have hw17 : ¬ rW T n (rB T n (ms h).1) (rWd 17) = true := by have z := p951; rw [sp945] at z; rw [txt_k.2.2.1]; exact z
          have ht13 := tpm_k Tp957 (k := 13) (K := 13) rfl (by decide)
          have hn13 : (mSk hp956).headD 0 = 13 := ht13.mp q958
          have hk93 : cp960 = 93 ↔ ((rB T n (ms h).1) < n ∧ T (rB T n (ms h).1) = 93) := by have y := sgm_k kp960 93 (by decide); rw [ap956, sp945] at y; exact y
          have hs93 : ((rB T n (ms h).1) < n ∧ T (rB T n (ms h).1) = 93) := hk93.mp q961
          have hDm : mD hp956 := mD_m (mD_k dp944 tp945 dp945) (by rw [mfst mp956]; exact mDp_O _ _) dp956
          obtain ⟨pf962, sf962, tf962⟩ := mTo pp956e ((mFr_n ggp956).trans hN) ef962 (v := (rB T n (ms h).1) + 1) (zp1 (by rw [mPl pp956e, show (ms hp956).1 = (rB T n (ms h).1) from by rw [ap956, sp945]; rfl]) (by have := rB_le (T := T) hpn; omega)) hs93.1
          refine tw_aload rfl rfl ?_
          refine tw_dup rfl ?_
          refine tw_getS rfl (hi_111_34 (gf962).1) ?_
          refine tw_push rfl ?_
          refine tw_isub rfl ?_
          refine tw_put rfl (fun f963 => ?_)
          refine tG_setm f963 (hw_111_34 f963 (gf962).1) (fun hf963 ef963 => ?_)
          try dsimp only [tvI_i] at ef963
          have gf963 := mFr_s gf962 ef963 (by unfold mFs; omega)
          have hst : mSk hf962 = 13 :: (mSk hp956).tail := tf962.trans (mhead (k := 12) hn13)
          obtain ⟨pf963, tf963, sf963, df963⟩ := mSk_pop pf962 (by rw [hst]; exact List.cons_ne_nil _ _) ef963
          rw [hst] at tf963
          have tf963 : mSk hf963 = (mSk hp956).tail := tf963
          refine tw_aload rfl rfl ?_
          refine tw_dup rfl ?_
          refine tw_getS rfl (hi_111_32 (gf963).1) ?_
          refine tw_push rfl ?_
          refine tw_isub rfl ?_
          refine tw_put rfl (fun f964 => ?_)
          refine tG_setm f964 (hw_111_32 f964 (gf963).1) (fun hf964 ef964 => ?_)
          try dsimp only [tvI_i] at ef964
          have gf964 := mFr_s gf963 ef964 (by unfold mFs; omega)
          have hdf964 : (tvI (tF hf963 111 32)).toInt = ((mDp (mSk hf963) + 1 : Nat) : Int) := by
            rw [df963, mI_o ef962 (by decide)]
            refine (show (tvI (tF hp956 111 32)).toInt = (mDp (mSk hp956) : Int) from hDm).trans ?_
            rw [tf963]
            exact congrArg (fun z : Nat => (z : Int)) ((congrArg mDp (mhead (k := 12) hn13)).trans (mDp_c (by decide)))
          obtain ⟨pf964, tf964, sf964, ddf964⟩ := mDn pf963 ef964 hdf964 rfl
          refine tw_goto rfl ?_
          have hmn : (mSk hp945, (ms hp945).2.2) = (mN (mSk h) (ms h).2.2) := by rw [tp945, sp945]; exact mp944
          have hmb : (mSk hp956, (ms hp956).2.2) = mO (mN (mSk h) (ms h).2.2).1 (mN (mSk h) (ms h).2.2).2 := by rw [mp956, mfst hmn, msnd hmn]
          have hms : ms hf964 = ((rB T n (ms h).1) + 1, (ms h).2.1, (mO (mN (mSk h) (ms h).2.2).1 (mN (mSk h) (ms h).2.2).2).2) := by rw [sf964, sf963, sf962]; exact mA6 (mA2 sp945 bp956 bp944) (msnd hmb)
          have hsk : mSk hf964 = (mO (mN (mSk h) (ms h).2.2).1 (mN (mSk h) (ms h).2.2).2).1.tail := by rw [tf964, tf963, mfst hmb]
          have h46 : stN (tvI (tF hf964 111 46)) = 3 := by rw [mFr_46 gf964, h46s]; rfl
          exact tw_vret rfl ⟨rfl, mFq_f gf964, mOut_r (by unfold mS3; rw [if_neg hw18, if_neg hw17, if_pos (show (mO (mN (mSk h) (ms h).2.2).1 (mN (mSk h) (ms h).2.2).2).1.headD 0 = 13 from by rw [← mfst hmb]; exact hn13), if_pos hs93]) pf964 ddf964 (by unfold mst; rw [h46, hsk, hms])⟩
        · try dsimp only [tvI_i, tvJ_j, tvR_r] at q961
          have q961i := zneq (Y := 93) (by decide) q961
          refine tw_aload rfl rfl ?_
          refine tw_push rfl ?_
          refine tw_aload rfl rfl ?_
          refine tw_getS rfl (hi_111_28 (ggp956).1) ?_
          refine tw_virt2 rfl (g_fails hG hX (ggp956).1 pp956e ((mFr_T ggp956).trans hT) ((mFr_n ggp956).trans hN) (w := 0) (b := (rB T n (ms h).1)) rfl (by decide) ((mPl pp956e).trans (by rw [show (ms hp956).1 = (rB T n (ms h).1) from by rw [ap956, sp945]; rfl])) (by have := rB_le (T := T) hpn; omega)) (fun wp965 hp965 p965 => ?_)
          obtain ⟨rfl, gp965, Fp965, ip965, jp965⟩ := p965
          have ggp965 := mFr_t ggp956 gp965
          refine tw_aload rfl rfl ?_
          refine tw_dup rfl ?_
          refine tw_getS rfl (hi_111_28 ggp965.1) ?_
          refine tw_push rfl ?_
          refine tw_iadd rfl ?_
          refine tw_put rfl (fun f966 => ?_)
          refine tG_setm f966 (hw_111_28 f966 (ggp965).1) (fun hf966 ef966 => ?_)
          try dsimp only [tvI_i] at ef966
          have gf966 := mFr_s ggp965 ef966 (by unfold mFs; omega)
          have zf966 := mFt_s Fp965 ef966 (by decide)
          have yf966 : (tvI (tF hp965 111 28)).toInt = (((rB T n (ms h).1) : Nat) : Int) := by rw [ip965, mPl pp956e, show (ms hp956).1 = (rB T n (ms h).1) from by rw [ap956, sp945]; rfl]
          have Zf966 : mZp hf966 := mZ_of ggp965 hp ef966 (zp1 yf966 (by have := rB_le (T := T) hpn; omega)) (by have := rB_le (T := T) hpn; omega)
          refine tw_aload rfl rfl ?_
          refine tw_dup rfl ?_
          refine tw_getS rfl (hi_111_34 (gf966).1) ?_
          refine tw_push rfl ?_
          refine tw_isub rfl ?_
          refine tw_put rfl (fun f967 => ?_)
          refine tG_setm f967 (hw_111_34 f967 (gf966).1) (fun hf967 ef967 => ?_)
          try dsimp only [tvI_i] at ef967
          have gf967 := mFr_s gf966 ef967 (by unfold mFs; omega)
          have zf967 := mFt_s zf966 ef967 (by decide)
          have Zf967 : mZp hf967 := mZp_o Zf966 ef967 (by decide)
          refine tw_aload rfl rfl ?_
          refine tw_dup rfl ?_
          refine tw_getS rfl (hi_111_32 (gf967).1) ?_
          refine tw_push rfl ?_
          refine tw_isub rfl ?_
          refine tw_put rfl (fun f968 => ?_)
          refine tG_setm f968 (hw_111_32 f968 (gf967).1) (fun hf968 ef968 => ?_)
          try dsimp only [tvI_i] at ef968
          have gf968 := mFr_s gf967 ef968 (by unfold mFs; omega)
          have zf968 := mFt_s zf967 ef968 (by decide)
          have Zf968 : mZp hf968 := mZp_o Zf967 ef968 (by decide)
          refine tw_goto rfl ?_
          have hw18 : ¬ rW T n (rB T n (ms h).1) (rWd 18) = true := by have z := p946; rw [sp945] at z; rw [txt_k.2.1]; exact z
          have hw17 : ¬ rW T n (rB T n (ms h).1) (rWd 17) = true := by have z := p951; rw [sp945] at z; rw [txt_k.2.2.1]; exact z
          have ht13 := tpm_k Tp957 (k := 13) (K := 13) rfl (by decide)
          have hn13 : (mSk hp956).headD 0 = 13 := ht13.mp q958
          have hk93 : cp960 = 93 ↔ ((rB T n (ms h).1) < n ∧ T (rB T n (ms h).1) = 93) := by have y := sgm_k kp960 93 (by decide); rw [ap956, sp945] at y; exact y
          have hs93 : ¬ ((rB T n (ms h).1) < n ∧ T (rB T n (ms h).1) = 93) := fun z => q961 (hk93.mpr z)
          have hDm : mD hp956 := mD_m (mD_k dp944 tp945 dp945) (by rw [mfst mp956]; exact mDp_O _ _) dp956
          have hmn : (mSk hp945, (ms hp945).2.2) = (mN (mSk h) (ms h).2.2) := by rw [tp945, sp945]; exact mp944
          have hmb : (mSk hp956, (ms hp956).2.2) = mO (mN (mSk h) (ms h).2.2).1 (mN (mSk h) (ms h).2.2).2 := by rw [mp956, mfst hmn, msnd hmn]
          exact tw_vret rfl ⟨rfl, mFq_f gf968, mOut_l (by unfold mS3; rw [if_neg hw18, if_neg hw17, if_pos (show (mO (mN (mSk h) (ms h).2.2).1 (mN (mSk h) (ms h).2.2).2).1.headD 0 = 13 from by rw [← mfst hmb]; exact hn13), if_neg hs93]) zf968 Zf968⟩
