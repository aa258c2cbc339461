section RULE
variable {G : zG} {tx : yTx} {τ : List Nat} {h : zH}
theorem zcopy {d : Nat} (hG : G.1 = zProg) {rr N : Nat} {f : Nat → Int32} {m : Int32} (hr : h[rr]? = some (.inl (0, N, .inl f))) (hN : N ≤ 400) (m1 : 0 ≤ m.toInt) (m2 : m.toInt ≤ N) {K : zQ} (hK : ∀ g : Nat → Int32, (∀ i, i < m.toNatClampNeg → g i = f i) → K (some (.ref h.length)) (h ++ [.inl (0, m.toNatClampNeg, .inl g)])) : zW zTt G (d + 1) 283 [.ref rr, .int m] h K := by
  have em : m.toNatClampNeg = m.toInt.toNat := rfl
  refine zW_in (by rw [hG]; rfl) (Nat.le_of_ble_eq_true rfl) ?_
  refine r_iload (zW_mono _ _ _) rfl rfl ?_
  refine r_aload (zW_mono _ _ _) rfl rfl ?_
  refine r_alen (zW_mono _ _ _) rfl hr (by decide) ?_
  refine r_icmp_ne (zW_mono _ _ _) rfl (fun hne => ?_) (fun heq => ?_)
  · have hlt : m.toInt < N := by
      have : m.toInt ≠ N := fun e => hne (Int32.toInt_inj.mp (by rw [yofN (by omega)]; exact e))
      omega
    refine r_iload (zW_mono _ _ _) rfl rfl ?_
    refine r_newa (N := m.toNatClampNeg) (zW_mono _ _ _) rfl (fun q => by have := Int32.lt_iff_toInt_lt.mp q; rw [show (0 : Int32).toInt = 0 from rfl] at this; omega) rfl (by omega) (by decide) (by omega) (by decide) ?_
    refine r_astore (zW_mono _ _ _) rfl (Nat.le_of_ble_eq_true rfl) ?_
    refine r_aload (zW_mono _ _ _) rfl rfl ?_
    refine r_push (zW_mono _ _ _) rfl ?_
    refine r_aload (zW_mono _ _ _) rfl rfl ?_
    refine r_push (zW_mono _ _ _) rfl ?_
    refine r_aload (zW_mono _ _ _) rfl rfl ?_
    have hl : rr < h.length := by
      rcases Nat.lt_or_ge rr h.length with z | z
      · exact z
      · rw [List.getElem?_eq_none z] at hr; cases hr
    have hr2 : (h ++ [zarr (zkind .int) m.toNatClampNeg])[rr]? = some (.inl (0, N, .inl f)) := by rw [List.getElem?_append_left hl]; exact hr
    refine r_alen (zW_mono _ _ _) rfl hr2 (by decide) ?_
    refine r_iload (zW_mono _ _ _) rfl rfl ?_
    refine zR.step (zW_mono _ _ _) ?_
    unfold zstep
    rw [show cd_283[25]? = some (some (.fsub, 28, 0, 0, 0, .null)) from rfl]
    refine Or.inl ⟨Nat.le_of_ble_eq_true rfl, ?_⟩
    have hmin : (if m < Int32.ofNat N then m else Int32.ofNat N) = m := if_pos (Int32.lt_iff_toInt_lt.mpr (by rw [yofN (by omega)]; exact hlt))
    rw [hmin]
    refine zR.step (zW_mono _ _ _) ?_
    unfold zstep
    rw [show cd_283[28]? = some (some (.sastore, 31, 0, 0, 0, .null)) from rfl]
    refine Or.inr ⟨N, m.toNatClampNeg, f, fun _ => 0, hr2, by rw [List.getElem?_append_right (Nat.le_refl _), Nat.sub_self]; rfl, ⟨rfl, rfl, fun q => by have := Int32.lt_iff_toInt_lt.mp q; rw [show (0 : Int32).toInt = 0 from rfl] at this; omega, by omega, Nat.le_refl _, Nat.le_of_ble_eq_true rfl⟩, ?_⟩
    refine r_aload (zW_mono _ _ _) rfl rfl ?_
    rw [List.set_append_right _ _ (Nat.le_refl _), Nat.sub_self]
    exact r_aret (zW_mono _ _ _) rfl rfl rfl (hK _ (fun i hi => by
      unfold va_cpy
      rw [if_pos ⟨Nat.zero_le _, by omega⟩, Nat.zero_add, Nat.sub_zero]))
  · have hmN : m.toNatClampNeg = N := by
      rw [em, heq, yofN (by omega)]
      omega
    refine r_aload (zW_mono _ _ _) rfl rfl ?_
    refine zR.step (zW_mono _ _ _) ?_
    unfold zstep
    rw [show cd_283[7]? = some (some (.castore, 10, 0, 0, 0, .null)) from rfl]
    refine Or.inr ⟨N, f, hr, ⟨Nat.le_of_ble_eq_true rfl, by decide, by omega⟩, ?_⟩
    refine zR.step (zW_mono _ _ _) ?_
    unfold zstep
    rw [show cd_283[10]? = some (some (.fmul, 13, 0, 0, 0, .null)) from rfl]
    refine Or.inr ⟨N, f, by rw [List.getElem?_append_right (Nat.le_refl _), Nat.sub_self]; rfl, trivial, ?_⟩
    have := hK f (fun _ _ => rfl)
    rw [hmN] at this
    exact r_aret (zW_mono _ _ _) rfl rfl rfl this


theorem zsel {g : zH} {q p : Nat} {c : zC} (hp : p ≠ q) : (g.set q c)[p]? = g[p]? := List.getElem?_set_ne (Ne.symm hp)
theorem zses {g : zH} {q : Nat} {c : zC} (hq : q < g.length) : (g.set q c)[q]? = some c := List.getElem?_set_self hq
theorem zapl {g l : zH} {p : Nat} (hp : p < g.length) : (g ++ l)[p]? = g[p]? := List.getElem?_append_left hp
theorem zape {g : zH} {c : zC} {p : Nat} (hp : g.length = p) : (g ++ [c])[p]? = some c := by subst hp; rw [List.getElem?_append_right (Nat.le_refl _), Nat.sub_self]; rfl
theorem zi32_4 {x : Int32} (h1 : 0 ≤ x.toInt) (h2 : x.toInt ≤ 1000) : (x * 4).toInt = x.toInt * 4 := by
  rw [Int32.toInt_mul]
  exact Int.bmod_eq_of_le (by show _ ≤ x.toInt * 4; omega) (by show x.toInt * 4 < _; omega)
/-- behind addRule -/
theorem zrule_post {ρ : yR} {τ2 : List Nat} {h2 : zH} {x : Int32} (hh : yHp zTG zTTy zKI (ywf kt_64_0.2.1) τ h τ2 h2) (h1 : -1 ≤ x.toInt) (h3 : x.toInt ≤ 9) : yPo tx zTG zTTy zKI (ywf kt_64_0.2.1) kt_64_0.1.1.length kt_64_0.2.2.2 ρ τ h (some (.int x)) h2 := by
  refine ⟨_, List.mem_cons_self, fun i => if i = 1 then x.toInt else ρ i, τ2, fun i hi => if_neg (Nat.ne_of_lt hi), hh, ⟨?_, (fun _ z => by cases z), (fun _ z => by cases z), (fun _ z => by cases z)⟩, ⟨ysp_var (i := 1) (by decide), x, rfl, ?_⟩, trivial⟩
  · intro e he
    rcases List.mem_singleton.mp he with rfl
    exact ⟨by decide, h1, h3, Or.inl rfl⟩
  · show x.toInt = yev _ (yvar 1)
    rw [yev_var]
    exact (if_pos rfl).symm
theorem zrule_full {d : Nat} (hG : G.1 = zProg) {fs : List Value} {x : Int32} (c : h[48]? = some (.inr (7, fs))) (f3 : fs[3]? = some (.int x)) {K : zQ} (k1 : x = 10 → K (some (.int 1)) h) (k2 : x ≠ 10 → K (some (.int 0)) h) : zW zTt G (d + 1) 63 [.ref 48] h K := by
  refine zW_in (by rw [hG]; rfl) (Nat.le_of_ble_eq_true rfl) ?_
  refine r_aload (zW_mono _ _ _) rfl rfl ?_
  refine r_get (zW_mono _ _ _) rfl c f3 ?_
  refine r_push (zW_mono _ _ _) rfl ?_
  refine r_icmp_ne (zW_mono _ _ _) rfl (fun hne => ?_) (fun heq => ?_)
  · refine r_push (zW_mono _ _ _) rfl ?_
    exact r_iret (zW_mono _ _ _) rfl rfl rfl (k2 hne)
  · refine r_push (zW_mono _ _ _) rfl ?_
    refine r_goto (zW_mono _ _ _) rfl ?_
    exact r_iret (zW_mono _ _ _) rfl rfl rfl (k1 heq)
set_option maxHeartbeats 1000000 in
theorem zrule_ok (hG : G.1 = zProg) (n : Nat) : yVl zTt G tx zTG zTTy zKI 64 kt_64_0 n := by
  intro ρ τ h as d hp hlt hd
  obtain ⟨hW, hH, hTG, hIh, hA⟩ := hp
  have hlev : yev ρ kt_64_0.2.2.1 = 5 := yev_con ρ 5
  rw [hlev] at hd
  obtain ⟨d1, rfl⟩ : ∃ d1, d = d1 + 3 := ⟨d - 3, by omega⟩
  obtain ⟨x0, as1, rfl, a0, hA1⟩ := yargs1 hA (by decide)
  obtain ⟨x1, as2, rfl, ⟨-, m, rfl, em⟩, hA2⟩ := yargs1 hA1 (by decide)
  obtain ⟨x2, as3, rfl, a2, hA3⟩ := yargs1 hA2 (by decide)
  have hnil := yargs0 hA3
  subst hnil
  have ea0 : x0 = .ref 48 := a0.2
  subst ea0
  have ea2 : x2 = .ref 44 := a2.2
  subst ea2
  have b0 := (hW.1 (0, 0, 599, 0) (by decide)).2
  dsimp only at b0
  have em' : m.toInt = ρ 0 := em.trans (yev_var ρ 0)
  -- the book
  obtain ⟨ct, c, c1, c2, c3⟩ := hH.2 48 24 (hTG 48 24 rfl)
  cases c1
  obtain ⟨fs, rfl, fl, ff⟩ := c3
  obtain ⟨w3, f3, x, rfl, x1, x2⟩ := ff 3 _ rfl
  obtain ⟨w0, f0, z0, rfl, z01, z02, -⟩ := ff 0 _ rfl
  obtain ⟨w1, f1, z1, rfl, z11, z12, -⟩ := ff 1 _ rfl
  obtain ⟨w2, f2, z2, rfl, z21, z22, -⟩ := ff 2 _ rfl
  have e0 : z0 = 49 := by have z01' : (49 : Int) ≤ z0 := z01; have z02' : z0 ≤ (49 : Int) := z02; omega
  have e1 : z1 = 50 := by have z11' : (50 : Int) ≤ z1 := z11; have z12' : z1 ≤ (50 : Int) := z12; omega
  have e2 : z2 = 51 := by have z21' : (51 : Int) ≤ z2 := z21; have z22' : z2 ≤ (51 : Int) := z22; omega
  subst e0 e1 e2
  rw [show zrn 49 = Value.ref 49 from rfl] at f0
  rw [show zrn 50 = Value.ref 50 from rfl] at f1
  rw [show zrn 51 = Value.ref 51 from rfl] at f2
  have x1 : (0 : Int) ≤ x.toInt := x1
  have x2 : x.toInt ≤ (10 : Int) := x2
  -- its arrays
  obtain ⟨ct, c, i1, i2, i3⟩ := hH.2 49 25 (hTG 49 25 rfl)
  cases i1
  obtain ⟨N49, y49, rfl, n491, n492, fA, rfl, gA⟩ := i3
  have eN49 : N49 = 10 := by omega
  subst eN49
  obtain ⟨ct, c, j1, j2, j3⟩ := hH.2 50 26 (hTG 50 26 rfl)
  cases j1
  obtain ⟨N50, y50, rfl, n501, n502, fB, rfl, gB⟩ := j3
  have eN50 : N50 = 10 := by omega
  subst eN50
  obtain ⟨ct, c, k1, k2, k3⟩ := hH.2 51 27 (hTG 51 27 rfl)
  cases k1
  obtain ⟨N51, y51, rfl, n511, n512, fC, rfl, gC⟩ := k3
  have eN51 : N51 = 10 := by omega
  subst eN51
  -- the reader
  obtain ⟨ct, c, r1, r2, r3⟩ := hH.2 44 20 (hTG 44 20 rfl)
  cases r1
  obtain ⟨gs, rfl, gl, gf⟩ := r3
  obtain ⟨w4, g4, z4, rfl, z41, z42, -⟩ := gf 4 _ rfl
  obtain ⟨w5, g5, q5, rfl, q51, q52⟩ := gf 5 _ rfl
  obtain ⟨w6, g6, z6, rfl, z61, z62, -⟩ := gf 6 _ rfl
  obtain ⟨w7, g7, q7, rfl, q71, q72⟩ := gf 7 _ rfl
  have e4 : z4 = 46 := by have z41' : (46 : Int) ≤ z4 := z41; have z42' : z4 ≤ (46 : Int) := z42; omega
  have e6 : z6 = 47 := by have z61' : (47 : Int) ≤ z6 := z61; have z62' : z6 ≤ (47 : Int) := z62; omega
  subst e4 e6
  rw [show zrn 46 = Value.ref 46 from rfl] at g4
  rw [show zrn 47 = Value.ref 47 from rfl] at g6
  have q51 : (0 : Int) ≤ q5.toInt := q51
  have q52 : q5.toInt ≤ (400 : Int) := q52
  have q71 : (0 : Int) ≤ q7.toInt := q71
  have q72 : q7.toInt ≤ (12 : Int) := q72
  obtain ⟨ct, c, u1, u2, u3⟩ := hH.2 46 22 (hTG 46 22 rfl)
  cases u1
  obtain ⟨N46, y46, rfl, n461, n462, fD, rfl, gD⟩ := u3
  have eN46 : N46 = 400 := by omega
  subst eN46
  obtain ⟨ct, c, v1, v2, v3⟩ := hH.2 47 23 (hTG 47 23 rfl)
  cases v1
  obtain ⟨N47, y47, rfl, n471, n472, fE, rfl, gE⟩ := v3
  have eN47 : N47 = 48 := by omega
  subst eN47
  have hlH : 51 < h.length := by
    rcases Nat.lt_or_ge 51 h.length with z | z
    · exact z
    · rw [List.getElem?_eq_none z] at k2; cases k2
  refine zW_in (by rw [hG]; rfl) (Nat.le_of_ble_eq_true rfl) ?_
  refine r_aload (zW_mono _ _ _) rfl rfl ?_
  refine r_virt0 (m1 := 0) (m2 := 0) (zW_mono _ _ _) rfl c2 (Nat.le_of_ble_eq_true rfl) (by unfold zbud; rw [hG]; rfl) (Nat.le_of_ble_eq_true rfl) (Nat.le_of_ble_eq_true rfl) ?_
  refine zrule_full hG c2 f3 (fun _ => ?_) (fun hne => ?_)
  · refine r_if_eq (zW_mono _ _ _) rfl (fun e => absurd e (by decide)) (fun _ => ?_)
    refine r_push (zW_mono _ _ _) rfl ?_
    exact r_iret (zW_mono _ _ _) rfl rfl rfl (zrule_post ⟨hH, hTG, hIh, yPre.rf _, yFr.rf _ _ _⟩ (by decide) (by decide))
  · refine r_if_eq (zW_mono _ _ _) rfl (fun _ => ?_) (fun e => absurd rfl e)
    have hx : x.toInt ≤ 9 := by
      have : x.toInt ≠ 10 := fun e => hne (Int32.toInt_inj.mp e)
      omega
    have hv := yvp_in (i := x) (N := 10) x1 (by omega)
    refine r_aload (zW_mono _ _ _) rfl rfl ?_
    refine r_get (zW_mono _ _ _) rfl c2 f0 ?_
    refine r_aload (zW_mono _ _ _) rfl rfl ?_
    refine r_get (zW_mono _ _ _) rfl c2 f3 ?_
    refine r_iload (zW_mono _ _ _) rfl rfl ?_
    refine r_iast (zW_mono _ _ _) rfl i2 hv.1 ?_
    generalize hA1 : (Sum.inl (0, 10, Sum.inl (upd fA x.toNatClampNeg m)) : zC) = CA
    have l1 : (h.set 49 CA).length = h.length := List.length_set
    have s48 : (h.set 49 CA)[48]? = some (.inr (7, fs)) := (zsel (by decide)).trans c2
    have s44 : (h.set 49 CA)[44]? = some (.inr (8, gs)) := (zsel (by decide)).trans r2
    have s46 : (h.set 49 CA)[46]? = some (.inl (0, 400, .inl fD)) := (zsel (by decide)).trans u2
    refine r_aload (zW_mono _ _ _) rfl rfl ?_
    refine r_get (zW_mono _ _ _) rfl s48 f1 ?_
    refine r_aload (zW_mono _ _ _) rfl rfl ?_
    refine r_get (zW_mono _ _ _) rfl s48 f3 ?_
    refine r_aload (zW_mono _ _ _) rfl rfl ?_
    refine r_get (zW_mono _ _ _) rfl s44 g4 ?_
    refine r_aload (zW_mono _ _ _) rfl rfl ?_
    refine r_get (zW_mono _ _ _) rfl s44 g5 ?_
    refine r_stat2 (m1 := 1) (m2 := 400) (zW_mono _ _ _) rfl (Nat.le_of_ble_eq_true rfl) (by unfold zbud; rw [hG]; rfl) (Nat.le_of_ble_eq_true rfl) (Nat.le_of_ble_eq_true rfl) ?_
    refine zcopy hG s46 (by decide) q51 q52 (fun gX hX => ?_)
    rw [l1]
    generalize hX1 : (Sum.inl (0, q5.toNatClampNeg, Sum.inl gX) : zC) = CX
    have t50 : (h.set 49 CA ++ [CX])[50]? = some (.inl (4, 10, .inr (.inr (.inr (.inr fB))))) := (zapl (by omega)).trans ((zsel (by decide)).trans j2)
    have tX : (h.set 49 CA ++ [CX])[h.length]? = some CX := zape l1
    refine r_gast (zW_mono _ _ _) rfl t50 (tX.trans (congrArg some hX1.symm)) hv.1 ?_
    generalize hB1 : (Sum.inl (4, 10, Sum.inr (Sum.inr (Sum.inr (Sum.inr (va_up fB x.toNatClampNeg (some h.length)))))) : zC) = CB
    rw [List.set_append_left _ _ (by omega)]
    have l2 : ((h.set 49 CA).set 50 CB).length = h.length := by rw [List.length_set, l1]
    have l2b : ((h.set 49 CA).set 50 CB ++ [CX]).length = h.length + 1 := by rw [List.length_append, l2]; rfl
    have s48 : ((h.set 49 CA).set 50 CB ++ [CX])[48]? = some (.inr (7, fs)) := (zapl (by omega)).trans ((zsel (by decide)).trans s48)
    have s44 : ((h.set 49 CA).set 50 CB ++ [CX])[44]? = some (.inr (8, gs)) := (zapl (by omega)).trans ((zsel (by decide)).trans s44)
    have s47 : ((h.set 49 CA).set 50 CB ++ [CX])[47]? = some (.inl (0, 48, .inl fE)) := (zapl (by omega)).trans ((zsel (by decide)).trans ((zsel (by decide)).trans v2))
    refine r_aload (zW_mono _ _ _) rfl rfl ?_
    refine r_get (zW_mono _ _ _) rfl s48 f2 ?_
    refine r_aload (zW_mono _ _ _) rfl rfl ?_
    refine r_get (zW_mono _ _ _) rfl s48 f3 ?_
    refine r_aload (zW_mono _ _ _) rfl rfl ?_
    refine r_get (zW_mono _ _ _) rfl s44 g6 ?_
    refine r_aload (zW_mono _ _ _) rfl rfl ?_
    refine r_get (zW_mono _ _ _) rfl s44 g7 ?_
    refine r_push (zW_mono _ _ _) rfl ?_
    refine r_imul (zW_mono _ _ _) rfl ?_
    have e74 : (q7 * 4).toInt = q7.toInt * 4 := zi32_4 q71 (by omega)
    refine r_stat2 (m1 := 1) (m2 := 400) (zW_mono _ _ _) rfl (Nat.le_of_ble_eq_true rfl) (by unfold zbud; rw [hG]; rfl) (Nat.le_of_ble_eq_true rfl) (Nat.le_of_ble_eq_true rfl) ?_
    refine zcopy hG s47 (by decide) (by omega) (by omega) (fun gY hY => ?_)
    rw [l2b]
    generalize hY1 : (Sum.inl (0, (q7 * 4).toNatClampNeg, Sum.inl gY) : zC) = CY
    have t51 : ((h.set 49 CA).set 50 CB ++ [CX] ++ [CY])[51]? = some (.inl (4, 10, .inr (.inr (.inr (.inr fC))))) := (zapl (by omega)).trans ((zapl (by omega)).trans ((zsel (by decide)).trans ((zsel (by decide)).trans k2)))
    have tY : ((h.set 49 CA).set 50 CB ++ [CX] ++ [CY])[h.length + 1]? = some CY := zape l2b
    refine r_gast (zW_mono _ _ _) rfl t51 (tY.trans (congrArg some hY1.symm)) hv.1 ?_
    generalize hC1 : (Sum.inl (4, 10, Sum.inr (Sum.inr (Sum.inr (Sum.inr (va_up fC x.toNatClampNeg (some (h.length + 1))))))) : zC) = CC
    rw [List.append_assoc, List.set_append_left _ _ (by omega)]
    have l3 : (((h.set 49 CA).set 50 CB).set 51 CC).length = h.length := by rw [List.length_set, l2]
    have s48 : (((h.set 49 CA).set 50 CB).set 51 CC ++ ([CX] ++ [CY]))[48]? = some (.inr (7, fs)) := (zapl (by omega)).trans ((zsel (by decide)).trans ((zsel (by decide)).trans ((zsel (by decide)).trans c2)))
    refine r_aload (zW_mono _ _ _) rfl rfl ?_
    refine r_dup (zW_mono _ _ _) rfl rfl ?_
    refine r_get (zW_mono _ _ _) rfl s48 f3 ?_
    refine r_dup_x1 (zW_mono _ _ _) rfl rfl rfl ?_
    refine r_push (zW_mono _ _ _) rfl ?_
    refine r_iadd (zW_mono _ _ _) rfl ?_
    refine r_put (zW_mono _ _ _) rfl s48 (by rw [fl]; decide) rfl rfl rfl ?_
    rw [List.set_append_left _ _ (by omega), show [CX] ++ [CY] = [CX, CY] from rfl]
    refine r_iret (zW_mono _ _ _) rfl rfl rfl (zrule_post (τ2 := τ ++ [152, 153]) ?_ (by omega) hx)
    generalize hFl : (Sum.inr (7, fs.set 3 (.int (x + 1))) : zC) = Fl
    have hl2 : ((((h.set 49 CA).set 50 CB).set 51 CC).set 48 Fl).length = h.length := by rw [List.length_set, l3]
    have hτl := hH.1
    have hpre : yPre τ (τ ++ [152, 153]) := fun p t9 hp => by
      rw [List.getElem?_append_left (by
        rcases Nat.lt_or_ge p τ.length with z | z
        · exact z
        · rw [List.getElem?_eq_none z] at hp; cases hp)]
      exact hp
    have hIl := hIh.2
    have hz48 : zfi h 48 3 = x.toInt := by unfold zfi; rw [c2]; dsimp only; rw [f3]
    have hz36 : zfi h 36 4 ≤ 300 := by
      obtain ⟨ct, c, c1', c2', c3'⟩ := hH.2 36 12 (hTG 36 12 rfl)
      cases c1'
      obtain ⟨fs', rfl, fl', ff'⟩ := c3'
      obtain ⟨w, e1, y9, rfl, e2, e3⟩ := ff' 4 _ rfl
      unfold zfi
      rw [c2']
      dsimp only
      rw [e1]
      exact e3
    have hsm : (h.length : Int) ≤ 9999998 := by omega
    have hat : ∀ p, p < h.length → ∀ l : zH, ((((h.set 49 CA).set 50 CB).set 51 CC).set 48 Fl ++ l)[p]? = if p = 48 then some Fl else if p = 51 then some CC else if p = 50 then some CB else if p = 49 then some CA else h[p]? := by
      intro p hp l
      rw [List.getElem?_append_left (by rw [hl2]; exact hp)]
      by_cases e : p = 48
      · subst e; rw [zses (by omega), if_pos rfl]
      · rw [zsel e, if_neg e]
        by_cases e : p = 51
        · subst e; rw [zses (by omega), if_pos rfl]
        · rw [zsel e, if_neg e]
          by_cases e : p = 50
          · subst e; rw [zses (by omega), if_pos rfl]
          · rw [zsel e, if_neg e]
            by_cases e : p = 49
            · subst e; rw [zses (by omega), if_pos rfl]
            · rw [zsel e, if_neg e]
    have hplt : ∀ p t9, τ[p]? = some t9 → p < h.length := fun p t9 hp => by
      rw [← hτl]
      rcases Nat.lt_or_ge p τ.length with z | z
      · exact z
      · rw [List.getElem?_eq_none z] at hp; cases hp
    have hn1 : (τ ++ [152, 153])[h.length]? = some 152 := by rw [← hτl, List.getElem?_append_right (Nat.le_refl _), Nat.sub_self]; rfl
    have hn2 : (τ ++ [152, 153])[h.length + 1]? = some 153 := by rw [← hτl, List.getElem?_append_right (Nat.le_add_right _ _), Nat.add_sub_cancel_left]; rfl
    have hFrm : yFr (ywf kt_64_0.2.1) τ h ((((h.set 49 CA).set 50 CB).set 51 CC).set 48 Fl ++ [CX, CY]) := by
      intro p t9 c9 hp hc
      rw [hat p (hplt p t9 hp)]
      by_cases e : p = 48
      · subst e
        rw [hTG 48 24 rfl] at hp
        cases hp
        rw [c2] at hc
        cases hc
        refine ⟨Fl, if_pos rfl, ?_⟩
        subst hFl
        exact ⟨rfl, by rw [List.length_set], fun q hq => List.getElem?_set_ne (fun e => by subst e; cases hq)⟩
      · rw [if_neg e]
        by_cases e : p = 51
        · subst e
          rw [hTG 51 27 rfl] at hp
          cases hp
          rw [k2] at hc
          cases hc
          refine ⟨CC, if_pos rfl, ?_⟩
          subst hC1
          exact ⟨rfl, rfl, fun q => by cases q⟩
        · rw [if_neg e]
          by_cases e : p = 50
          · subst e
            rw [hTG 50 26 rfl] at hp
            cases hp
            rw [j2] at hc
            cases hc
            refine ⟨CB, if_pos rfl, ?_⟩
            subst hB1
            exact ⟨rfl, rfl, fun q => by cases q⟩
          · rw [if_neg e]
            by_cases e : p = 49
            · subst e
              rw [hTG 49 25 rfl] at hp
              cases hp
              rw [i2] at hc
              cases hc
              refine ⟨CA, if_pos rfl, ?_⟩
              subst hA1
              exact ⟨rfl, rfl, fun q => by cases q⟩
            · rw [if_neg e]
              exact ⟨c9, hc, yCf.rf _ _⟩
    refine ⟨⟨?_, ?_⟩, hTG.tr hpre, ?_, hpre, hFrm⟩
    · rw [List.length_append, List.length_append, hl2, hτl]
      rfl
    · intro p t9 hp
      by_cases hpl : p < h.length
      · have hp' : τ[p]? = some t9 := by rw [List.getElem?_append_left (by rw [hτl]; exact hpl)] at hp; exact hp
        rw [hat p hpl]
        by_cases e : p = 48
        · subst e
          rw [hTG 48 24 rfl] at hp'
          cases hp'
          refine ⟨_, Fl, rfl, if_pos rfl, ?_⟩
          subst hFl
          refine ⟨_, rfl, by rw [List.length_set]; exact fl, fun i vt hi => ?_⟩
          by_cases e : 3 = i
          · subst e
            cases hi
            refine ⟨_, List.getElem?_set_self (by rw [fl]; decide), x + 1, rfl, ?_, ?_⟩
            · show (0 : Int) ≤ _; rw [zi32_1 x1 (by omega)]; omega
            · show _ ≤ (10 : Int); rw [zi32_1 x1 (by omega)]; omega
          · rw [List.getElem?_set_ne e]
            obtain ⟨w, e1, e2⟩ := ff i vt hi
            exact ⟨w, e1, e2.pre hpre⟩
        · rw [if_neg e]
          by_cases e : p = 51
          · subst e
            rw [hTG 51 27 rfl] at hp'
            cases hp'
            refine ⟨_, CC, rfl, if_pos rfl, ?_⟩
            subst hC1
            refine ⟨10, _, rfl, Nat.le_refl _, Nat.le_refl _, _, rfl, fun i hi => ?_⟩
            unfold va_up
            by_cases e : i = x.toNatClampNeg
            · rw [if_pos e]
              exact ⟨(show (-1 : Int) ≤ ((h.length + 1 : Nat) : Int) by omega), (show ((h.length + 1 : Nat) : Int) ≤ (10000000 : Int) by omega), Or.inr (Or.inr hn2)⟩
            · rw [if_neg e]
              exact ⟨(gC i hi).1, (gC i hi).2.1, (gC i hi).2.2.pre hpre⟩
          · rw [if_neg e]
            by_cases e : p = 50
            · subst e
              rw [hTG 50 26 rfl] at hp'
              cases hp'
              refine ⟨_, CB, rfl, if_pos rfl, ?_⟩
              subst hB1
              refine ⟨10, _, rfl, Nat.le_refl _, Nat.le_refl _, _, rfl, fun i hi => ?_⟩
              unfold va_up
              by_cases e : i = x.toNatClampNeg
              · rw [if_pos e]
                exact ⟨(show (-1 : Int) ≤ (h.length : Int) by omega), (show (h.length : Int) ≤ (10000000 : Int) by omega), Or.inr (Or.inr hn1)⟩
              · rw [if_neg e]
                exact ⟨(gB i hi).1, (gB i hi).2.1, (gB i hi).2.2.pre hpre⟩
            · rw [if_neg e]
              by_cases e : p = 49
              · subst e
                rw [hTG 49 25 rfl] at hp'
                cases hp'
                refine ⟨_, CA, rfl, if_pos rfl, ?_⟩
                subst hA1
                refine ⟨10, _, rfl, Nat.le_refl _, Nat.le_refl _, _, rfl, fun i hi => ?_⟩
                unfold upd
                by_cases e : i = x.toNatClampNeg
                · rw [if_pos e]
                  exact ⟨(show (0 : Int) ≤ m.toInt by omega), (show m.toInt ≤ (599 : Int) by omega)⟩
                · rw [if_neg e]
                  exact gA i hi
              · rw [if_neg e]
                obtain ⟨ct9, c9, e1, e2, e3⟩ := hH.2 p t9 hp'
                exact ⟨ct9, c9, e1, e2, e3.pre hpre⟩
      · have hp2 : p = h.length ∨ p = h.length + 1 := by
          have : p < (τ ++ [152, 153]).length := by
            rcases Nat.lt_or_ge p (τ ++ [152, 153]).length with z | z
            · exact z
            · rw [List.getElem?_eq_none z] at hp; cases hp
          rw [List.length_append, hτl] at this
          have : p < h.length + 2 := this
          omega
        have hq5 : q5.toNatClampNeg = q5.toInt.toNat := rfl
        have hq7 : (q7 * 4).toNatClampNeg = (q7 * 4).toInt.toNat := rfl
        rcases hp2 with rfl | rfl
        · rw [hn1] at hp
          cases hp
          refine ⟨_, CX, rfl, zapp2a' hl2, ?_⟩
          subst hX1
          refine ⟨_, _, rfl, Nat.zero_le _, (show q5.toNatClampNeg ≤ 400 by omega), gX, rfl, fun i hi => ?_⟩
          rw [hX i hi]
          exact gD i (by omega)
        · rw [hn2] at hp
          cases hp
          refine ⟨_, CY, rfl, zapp2b' hl2, ?_⟩
          subst hY1
          refine ⟨_, _, rfl, Nat.zero_le _, (show (q7 * 4).toNatClampNeg ≤ 48 by omega), gY, rfl, fun i hi => ?_⟩
          rw [hY i hi]
          exact gE i (by omega)
    · have hf3 : zfi ((((h.set 49 CA).set 50 CB).set 51 CC).set 48 Fl ++ [CX, CY]) 48 3 = x.toInt + 1 := by
        unfold zfi
        rw [hat 48 (by omega), if_pos rfl]
        subst hFl
        dsimp only
        rw [List.getElem?_set_self (by rw [fl]; decide)]
        exact zi32_1 x1 (by omega)
      have hf4 := yfr_f (hTG 36 12 rfl) hH hFrm (f := 4) rfl
      have he1 : ∀ i, zei ((((h.set 49 CA).set 50 CB).set 51 CC).set 48 Fl ++ [CX, CY]) 50 i = zoi (va_up fB x.toNatClampNeg (some h.length) i) := fun i => by
        unfold zei
        rw [hat 50 (by omega), if_neg (by decide), if_neg (by decide), if_pos rfl]
        subst hB1
        rfl
      have he2 : ∀ i, zei ((((h.set 49 CA).set 50 CB).set 51 CC).set 48 Fl ++ [CX, CY]) 51 i = zoi (va_up fC x.toNatClampNeg (some (h.length + 1)) i) := fun i => by
        unfold zei
        rw [hat 51 (by omega), if_neg (by decide), if_pos rfl]
        subst hC1
        rfl
      have hb1 : ∀ i, zei h 50 i = zoi (fB i) := fun i => by unfold zei; rw [j2]; rfl
      have hb2 : ∀ i, zei h 51 i = zoi (fC i) := fun i => by unfold zei; rw [k2]; rfl
      unfold zKI
      rw [hf3, hf4, List.length_append, hl2]
      refine ⟨fun i hi => ?_, ?_⟩
      · rw [he1, he2]
        unfold va_up
        by_cases e : i = x.toNatClampNeg
        · rw [if_pos e, if_pos e]
          exact ⟨Int.natCast_nonneg _, Int.natCast_nonneg _⟩
        · rw [if_neg e, if_neg e, ← hb1, ← hb2]
          refine hIh.1 i ?_
          rw [hz48]
          have : x.toNatClampNeg = x.toInt.toNat := rfl
          omega
      · show ((h.length + 2 : Nat) : Int) ≤ _
        rw [hz48] at hIl
        omega
end RULE
