/-! what is kept of the class's rules and of the heap's length; a new car by hand -/
noncomputable def zKI (h : zH) : Prop := (∀ i : Nat, (i : Int) < zfi h 48 3 → 0 ≤ zei h 50 i ∧ 0 ≤ zei h 51 i) ∧ (h.length : Int) ≤ 182 + 2 * zfi h 36 4 + 2 * zfi h 48 3
theorem yfr_f {W : Nat → Nat → Bool} {TT : List yC} {τ : List Nat} {h h2 : zH} {p k f : Nat} (hτ : τ[p]? = some k) (hh : yHo TT τ h) (hf : yFr W τ h h2) (hg : W k f = false) : zfi h2 p f = zfi h p f := by
  obtain ⟨ct, c, a1, a2, -⟩ := hh.2 _ _ hτ
  obtain ⟨c2, b1, b2⟩ := hf _ _ _ hτ a2
  unfold zfi
  rw [a2, b1]
  match c, c2, b2 with
  | .inr (x, fs), .inr (y, gs), b2 =>
    dsimp only
    rw [b2.2.2 f hg]
  | .inl (k, N, x), .inl (k2, N2, y), b2 => rfl
theorem yfr_e {W : Nat → Nat → Bool} {TT : List yC} {τ : List Nat} {h h2 : zH} {p k : Nat} (hτ : τ[p]? = some k) (hh : yHo TT τ h) (hf : yFr W τ h h2) (hg : W k 0 = false) : zei h2 p = zei h p := by
  obtain ⟨ct, c, a1, a2, -⟩ := hh.2 _ _ hτ
  obtain ⟨c2, b1, b2⟩ := hf _ _ _ hτ a2
  funext i
  unfold zei
  rw [a2, b1]
  match c, c2, b2 with
  | .inr (x, fs), .inr (y, gs), b2 => rfl
  | .inl (k, N, x), .inl (k2, N2, y), b2 =>
    dsimp only
    rw [b2.2.2 hg]
theorem zKI_is : yIs zTG zTTy zXf zKI := by
  intro τ h h2 hp hlen hh hf hI
  have f1 : zfi h2 48 3 = zfi h 48 3 := yfr_f (hp 48 24 rfl) hh hf rfl
  have f2 : zfi h2 36 4 = zfi h 36 4 := yfr_f (hp 36 12 rfl) hh hf rfl
  have e1 : zei h2 50 = zei h 50 := yfr_e (hp 50 26 rfl) hh hf rfl
  have e2 : zei h2 51 = zei h 51 := yfr_e (hp 51 27 rfl) hh hf rfl
  unfold zKI
  rw [f1, f2, e1, e2, hlen]
  exact hI
theorem zTG_at {t q : Nat} (h : (List.range zTG.length).all (fun r => decide (zTG[r]? = some t → r = q)) = true) {r : Nat} (hr : zTG[r]? = some t) : r = q := by
  have hl : r < zTG.length := by
    rcases Nat.lt_or_ge r zTG.length with z | z
    · exact z
    · rw [List.getElem?_eq_none z] at hr; cases hr
  exact of_decide_eq_true (List.all_eq_true.mp h r (List.mem_range.mpr hl)) hr
theorem zKI_gd : yGd0 zTG zKI zGdl := by
  intro t p f hm τ h hp hI r kd N fn ht hr cls fs n hpp hf i hi
  have hfi : ∀ q g, h[q]? = some (.inr (cls, fs)) → fs[g]? = some (.int n) → zfi h q g = n.toInt := fun q g a b => by unfold zfi; rw [a]; dsimp only; rw [b]
  have hei : zei h r i = zoi (fn i) := by unfold zei; rw [hr]; rfl
  rcases List.mem_cons.mp hm with e | hm
  · cases e
    have := zTG_at (q := 50) (by decide +kernel) ht
    subst this
    rw [← hei]
    exact (hI.1 i (by rw [hfi _ _ hpp hf]; exact hi)).1
  · rcases List.mem_cons.mp hm with e | hm
    · cases e
      have := zTG_at (q := 51) (by decide +kernel) ht
      subst this
      rw [← hei]
      exact (hI.1 i (by rw [hfi _ _ hpp hf]; exact hi)).2
    · cases hm
/-- the arguments, one after the other -/
theorem yargs1 {ρ : yR} {k : Nat} {v : yV} {r : yLs} {as : List Value} (h : yLo ρ k (some v :: r) (zargs as)) (hv : v.1 ≠ 1) : ∃ x as', as = x :: as' ∧ yVo ρ k v x ∧ yLo ρ k r (zargs as') := by
  cases as with
  | nil => exact h.elim
  | cons x as' =>
    unfold zargs at h
    by_cases hc : x.category = 2
    · rw [show (x.category == 2) = true by simp [hc], cond_true] at h
      obtain ⟨y, e, hy⟩ := h.1 v rfl
      cases e
      have := hy.cat
      rw [hc] at this
      obtain ⟨kd, l⟩ := v
      dsimp only at hv
      match kd, hv, this with
      | 0, _, this => cases this
      | 1, hv, _ => exact absurd rfl hv
      | kd + 2, _, this => cases this
    · rw [show (x.category == 2) = false by simp [hc], cond_false] at h
      obtain ⟨y, e, hy⟩ := h.1 v rfl
      cases e
      exact ⟨x, as', rfl, hy, h.2⟩
theorem yargs0 {ρ : yR} {k : Nat} {as : List Value} (h : yLo ρ k [] (zargs as)) : as = [] := by
  cases as with
  | nil => rfl
  | cons x as' =>
    unfold zargs at h
    by_cases hc : x.category = 2
    · rw [show (x.category == 2) = true by simp [hc], cond_true] at h; exact h.elim
    · rw [show (x.category == 2) = false by simp [hc], cond_false] at h; exact h.elim
section CAR
variable {G : zG} {tx : yTx} {τ : List Nat} {h : zH} {x y z : zC}
theorem zapp2 : (h ++ [x, y]).set h.length z = h ++ [z, y] := by
  rw [List.set_append_right _ _ (Nat.le_refl _), Nat.sub_self]
  rfl
theorem zapp2c : (h ++ [x, y]).set (h.length + 1) z = h ++ [x, z] := by
  rw [List.set_append_right _ _ (Nat.le_add_right _ _), Nat.add_sub_cancel_left]
  rfl
theorem zapp2a : (h ++ [x, y])[h.length]? = some x := by
  rw [List.getElem?_append_right (Nat.le_refl _), Nat.sub_self]
  rfl
theorem zapp2b : (h ++ [x, y])[h.length + 1]? = some y := by
  rw [List.getElem?_append_right (Nat.le_add_right _ _), Nat.add_sub_cancel_left]
  rfl
theorem zapp2a' {q : Nat} (e : h.length = q) : (h ++ [x, y])[q]? = some x := by subst e; exact zapp2a
theorem zapp2b' {q : Nat} (e : h.length = q) : (h ++ [x, y])[q + 1]? = some y := by subst e; exact zapp2b
theorem zcar_init {d : Nat} (hG : G.1 = zProg) {k m o t : Int32} {K : zQ} (hK : ∀ g : Nat → Int32, (∀ i, i < 12 → g i = 600) → K none (h ++ [.inr (0, [.int k, .int m, .int t, .int o, .int o, .int m, .int m, .int 0, .int 0, .int 0, .ref (h.length + 1)]), .inl (0, 12, .inl g)])) : zW zTt G (d + 2) 0 [.ref h.length, .int k, .int m, .int o, .int t] (h ++ [.inr (0, zcls zTt 0)]) K := by
  refine zW_in (by rw [hG]; rfl) (Nat.le_of_ble_eq_true rfl) ?_
  refine r_aload (zW_mono _ _ _) rfl rfl ?_
  refine r_oinit (zW_mono _ _ _) rfl (Nat.le_of_ble_eq_true rfl) ?_
  refine r_aload (zW_mono _ _ _) rfl rfl ?_
  refine r_push (zW_mono _ _ _) rfl ?_
  refine r_newa (N := 12) (zW_mono _ _ _) rfl (by decide) rfl (by decide) (by decide) (by decide) (by decide) ?_
  rw [List.append_assoc, List.length_append, List.length_singleton]
  refine r_put (zW_mono _ _ _) rfl zapp2a (Nat.le_of_ble_eq_true rfl) rfl rfl rfl ?_
  rw [show ∀ a b : zC, [a] ++ [b] = [a, b] from fun _ _ => rfl, zapp2]
  refine r_aload (zW_mono _ _ _) rfl rfl ?_
  refine r_iload (zW_mono _ _ _) rfl rfl ?_
  refine r_put (zW_mono _ _ _) rfl zapp2a (Nat.le_of_ble_eq_true rfl) rfl rfl rfl ?_
  rw [zapp2]
  refine r_aload (zW_mono _ _ _) rfl rfl ?_
  refine r_iload (zW_mono _ _ _) rfl rfl ?_
  refine r_put (zW_mono _ _ _) rfl zapp2a (Nat.le_of_ble_eq_true rfl) rfl rfl rfl ?_
  rw [zapp2]
  refine r_aload (zW_mono _ _ _) rfl rfl ?_
  refine r_iload (zW_mono _ _ _) rfl rfl ?_
  refine r_put (zW_mono _ _ _) rfl zapp2a (Nat.le_of_ble_eq_true rfl) rfl rfl rfl ?_
  rw [zapp2]
  refine r_aload (zW_mono _ _ _) rfl rfl ?_
  refine r_iload (zW_mono _ _ _) rfl rfl ?_
  refine r_put (zW_mono _ _ _) rfl zapp2a (Nat.le_of_ble_eq_true rfl) rfl rfl rfl ?_
  rw [zapp2]
  refine r_aload (zW_mono _ _ _) rfl rfl ?_
  refine r_iload (zW_mono _ _ _) rfl rfl ?_
  refine r_put (zW_mono _ _ _) rfl zapp2a (Nat.le_of_ble_eq_true rfl) rfl rfl rfl ?_
  rw [zapp2]
  refine r_aload (zW_mono _ _ _) rfl rfl ?_
  refine r_iload (zW_mono _ _ _) rfl rfl ?_
  refine r_put (zW_mono _ _ _) rfl zapp2a (Nat.le_of_ble_eq_true rfl) rfl rfl rfl ?_
  rw [zapp2]
  refine r_aload (zW_mono _ _ _) rfl rfl ?_
  refine r_iload (zW_mono _ _ _) rfl rfl ?_
  refine r_put (zW_mono _ _ _) rfl zapp2a (Nat.le_of_ble_eq_true rfl) rfl rfl rfl ?_
  rw [zapp2]
  refine r_aload (zW_mono _ _ _) rfl rfl ?_
  refine r_get (zW_mono _ _ _) rfl zapp2a rfl ?_
  refine r_push (zW_mono _ _ _) rfl ?_
  refine r_stat2 (m1 := 0) (m2 := 0) (zW_mono _ _ _) rfl (Nat.le_of_ble_eq_true rfl) (by unfold zbud; rw [hG]; rfl) (Nat.le_of_ble_eq_true rfl) (Nat.le_of_ble_eq_true rfl) ?_
  refine zfill (N := 12) hG (by decide) zapp2b (fun g hg => ?_)
  rw [zapp2c]
  exact r_vret (zW_mono _ _ _) rfl rfl (hK g hg)
/-- behind addCar -/
theorem zcar_post {ρ : yR} {τ2 : List Nat} {h2 : zH} {x : Int32} (hh : yHp zTG zTTy zKI (ywf kt_20_0.2.1) τ h τ2 h2) (h1 : -1 ≤ x.toInt) (h3 : x.toInt ≤ 299) : yPo tx zTG zTTy zKI (ywf kt_20_0.2.1) kt_20_0.1.1.length kt_20_0.2.2.2 ρ τ h (some (.int x)) h2 := by
  refine ⟨_, List.mem_cons_self, fun i => if i = 4 then x.toInt else ρ i, τ2, fun i hi => if_neg (Nat.ne_of_lt hi), hh, ⟨?_, (fun _ z => by cases z), (fun _ z => by cases z), (fun _ z => by cases z)⟩, ⟨ysp_var (i := 4) (by decide), x, rfl, ?_⟩, trivial⟩
  · intro e he
    rcases List.mem_singleton.mp he with rfl
    exact ⟨by decide, h1, h3, Or.inl rfl⟩
  · show x.toInt = yev _ (yvar 4)
    rw [yev_var]
    exact (if_pos rfl).symm
theorem zi32_1 {x : Int32} (h1 : 0 ≤ x.toInt) (h2 : x.toInt ≤ 1000) : (x + 1).toInt = x.toInt + 1 := by
  rw [Int32.toInt_add]
  exact Int.bmod_eq_of_le (by show _ ≤ x.toInt + 1; omega) (by show x.toInt + 1 < _; omega)
set_option maxHeartbeats 1000000 in
theorem zcar_ok (hG : G.1 = zProg) (n : Nat) : yVl zTt G tx zTG zTTy zKI 20 kt_20_0 n := by
  intro ρ τ h as d hp hlt hd
  obtain ⟨hW, hH, hTG, hIh, hA⟩ := hp
  have hlev : yev ρ kt_20_0.2.2.1 = 5 := yev_con ρ 5
  rw [hlev] at hd
  obtain ⟨d1, rfl⟩ : ∃ d1, d = d1 + 3 := ⟨d - 3, by omega⟩
  obtain ⟨x0, as1, rfl, a0, hA1⟩ := yargs1 hA (by decide)
  obtain ⟨x1, as2, rfl, ⟨-, k, rfl, ek⟩, hA2⟩ := yargs1 hA1 (by decide)
  obtain ⟨x2, as3, rfl, ⟨-, m, rfl, em⟩, hA3⟩ := yargs1 hA2 (by decide)
  obtain ⟨x3, as4, rfl, ⟨-, o, rfl, eo⟩, hA4⟩ := yargs1 hA3 (by decide)
  obtain ⟨x4, as5, rfl, ⟨-, t, rfl, et⟩, hA5⟩ := yargs1 hA4 (by decide)
  have hnil := yargs0 hA5
  subst hnil
  have ea0 : x0 = .ref 36 := a0.2
  subst ea0
  have b0 := (hW.1 (0, 0, 7, 0) (by decide)).2
  have b1 := (hW.1 (1, 0, 599, 0) (by decide)).2
  have b2 := (hW.1 (2, 0, 59, 0) (by decide)).2
  have b3 := (hW.1 (3, 0, 599, 0) (by decide)).2
  dsimp only at b0 b1 b2 b3
  have ek' : k.toInt = ρ 0 := ek.trans (yev_var ρ 0)
  have em' : m.toInt = ρ 1 := em.trans (yev_var ρ 1)
  have eo' : o.toInt = ρ 2 := eo.trans (yev_var ρ 2)
  have et' : t.toInt = ρ 3 := et.trans (yev_var ρ 3)
  -- the fleet and its list
  obtain ⟨ct, c, c1, c2, c3⟩ := hH.2 36 12 (hTG 36 12 rfl)
  cases c1
  obtain ⟨fs, rfl, fl, ff⟩ := c3
  obtain ⟨w4, f4, x, rfl, x1, x2⟩ := ff 4 _ rfl
  obtain ⟨w3, f3, z3, rfl, z1, z2, -⟩ := ff 3 _ rfl
  have z1' : (39 : Int) ≤ z3 := z1
  have z2' : z3 ≤ (39 : Int) := z2
  have e3 : z3 = 39 := by omega
  subst e3
  rw [show zrn 39 = Value.ref 39 from rfl] at f3
  have x1 : (0 : Int) ≤ x.toInt := x1
  have x2 : x.toInt ≤ (300 : Int) := x2
  obtain ⟨ct, c, d1', d2, d3⟩ := hH.2 39 15 (hTG 39 15 rfl)
  cases d1'
  obtain ⟨N, yy, rfl, n1, n2, y1⟩ := d3
  have eN : N = 300 := by omega
  subst eN
  obtain ⟨f, rfl, g1⟩ := y1
  have hlH : 39 < h.length := by
    rcases Nat.lt_or_ge 39 h.length with z | z
    · exact z
    · rw [List.getElem?_eq_none z] at d2; cases d2
  refine zW_in (by rw [hG]; rfl) (Nat.le_of_ble_eq_true rfl) ?_
  refine r_aload (zW_mono _ _ _) rfl rfl ?_
  refine r_get (zW_mono _ _ _) rfl c2 f4 ?_
  refine r_push (zW_mono _ _ _) rfl ?_
  refine r_icmp_ne (zW_mono _ _ _) rfl (fun hne => ?_) (fun _ => ?_)
  · have hx : x.toInt ≤ 299 := by
      have : x.toInt ≠ 300 := fun e => hne (Int32.toInt_inj.mp e)
      omega
    refine r_aload (zW_mono _ _ _) rfl rfl ?_
    refine r_get (zW_mono _ _ _) rfl c2 f3 ?_
    refine r_aload (zW_mono _ _ _) rfl rfl ?_
    refine r_get (zW_mono _ _ _) rfl c2 f4 ?_
    refine r_new (fs := zcls zTt 0) (zW_mono _ _ _) rfl rfl (Nat.le_of_ble_eq_true rfl) (Nat.le_of_ble_eq_true rfl) ?_
    refine r_dup (zW_mono _ _ _) rfl rfl ?_
    refine r_iload (zW_mono _ _ _) rfl rfl ?_
    refine r_iload (zW_mono _ _ _) rfl rfl ?_
    refine r_iload (zW_mono _ _ _) rfl rfl ?_
    refine r_iload (zW_mono _ _ _) rfl rfl ?_
    refine r_spec4 (m1 := 1) (m2 := 12) (zW_mono _ _ _) rfl (Nat.le_of_ble_eq_true rfl) (by unfold zbud; rw [hG]; rfl) (Nat.le_of_ble_eq_true rfl) (Nat.le_of_ble_eq_true rfl) ?_
    refine zcar_init hG (fun g hg => ?_)
    have q39 : (h ++ [Sum.inr (0, [.int k, .int m, .int t, .int o, .int o, .int m, .int m, .int 0, .int 0, .int 0, .ref (h.length + 1)]), Sum.inl (0, 12, Sum.inl g)])[39]? = some (.inl (5, 300, .inr (.inr (.inr (.inr f))))) := by rw [List.getElem?_append_left hlH]; exact d2
    have hv := yvp_in (i := x) (N := 300) x1 (by omega)
    refine r_aast (zW_mono _ _ _) rfl q39 zapp2a hv.1 ?_
    rw [List.set_append_left _ _ hlH]
    have q36 : (h.set 39 (Sum.inl (5, 300, Sum.inr (Sum.inr (Sum.inr (Sum.inr (va_up f x.toNatClampNeg (some h.length)))))))).length = h.length := List.length_set
    have q36b : ∀ l : zH, (h.set 39 (Sum.inl (5, 300, Sum.inr (Sum.inr (Sum.inr (Sum.inr (va_up f x.toNatClampNeg (some h.length)))))))  ++ l)[36]? = some (.inr (2, fs)) := fun l => by
      rw [List.getElem?_append_left (by rw [List.length_set]; omega), List.getElem?_set_ne (by decide)]
      exact c2
    refine r_aload (zW_mono _ _ _) rfl rfl ?_
    refine r_dup (zW_mono _ _ _) rfl rfl ?_
    refine r_get (zW_mono _ _ _) rfl (q36b _) f4 ?_
    refine r_dup_x1 (zW_mono _ _ _) rfl rfl rfl ?_
    refine r_push (zW_mono _ _ _) rfl ?_
    refine r_iadd (zW_mono _ _ _) rfl ?_
    refine r_put (zW_mono _ _ _) rfl (q36b _) (by rw [fl]; decide) rfl rfl rfl ?_
    rw [List.set_append_left _ _ (by rw [List.length_set]; omega)]
    refine r_iret (zW_mono _ _ _) rfl rfl rfl (zcar_post (τ2 := τ ++ [150, 151]) ?_ (by omega) hx)
    have hτl := hH.1
    have hpre : yPre τ (τ ++ [150, 151]) := fun p t9 hp => by
      rw [List.getElem?_append_left (by
        rcases Nat.lt_or_ge p τ.length with z | z
        · exact z
        · rw [List.getElem?_eq_none z] at hp; cases hp)]
      exact hp
    have hIl := hIh.2
    have hz36 : zfi h 36 4 = x.toInt := by unfold zfi; rw [c2]; dsimp only; rw [f4]
    have hz48 : zfi h 48 3 ≤ 10 := by
      obtain ⟨ct, c, c1', c2', c3'⟩ := hH.2 48 24 (hTG 48 24 rfl)
      cases c1'
      obtain ⟨fs', rfl, fl', ff'⟩ := c3'
      obtain ⟨w, e1, y9, rfl, e2, e3⟩ := ff' 3 _ rfl
      unfold zfi
      rw [c2']
      dsimp only
      rw [e1]
      exact e3
    have hsm : (h.length : Int) ≤ 9999999 := by omega
    generalize hLst : (Sum.inl (5, 300, Sum.inr (Sum.inr (Sum.inr (Sum.inr (va_up f x.toNatClampNeg (some h.length)))))) : zC) = Lst
    generalize hFl : (Sum.inr (2, fs.set 4 (.int (x + 1))) : zC) = Fl
    have hl2 : ((h.set 39 Lst).set 36 Fl).length = h.length := by rw [List.length_set, List.length_set]
    have hat : ∀ p, p < h.length → ∀ l : zH, ((h.set 39 Lst).set 36 Fl ++ l)[p]? = if p = 36 then some Fl else if p = 39 then some Lst else h[p]? := by
      intro p hp l
      rw [List.getElem?_append_left (by rw [hl2]; exact hp)]
      by_cases e : p = 36
      · subst e; rw [List.getElem?_set_self (by rw [List.length_set]; exact hp), if_pos rfl]
      · rw [List.getElem?_set_ne (Ne.symm e), if_neg e]
        by_cases e2 : p = 39
        · subst e2; rw [List.getElem?_set_self hp, if_pos rfl]
        · rw [List.getElem?_set_ne (Ne.symm e2), if_neg e2]
    have hplt : ∀ p t9, τ[p]? = some t9 → p < h.length := fun p t9 hp => by
      rw [← hτl]
      rcases Nat.lt_or_ge p τ.length with z | z
      · exact z
      · rw [List.getElem?_eq_none z] at hp; cases hp
    have hn150 : (τ ++ [150, 151])[h.length]? = some 150 := by rw [← hτl, List.getElem?_append_right (Nat.le_refl _), Nat.sub_self]; rfl
    have hn151 : (τ ++ [150, 151])[h.length + 1]? = some 151 := by rw [← hτl, List.getElem?_append_right (Nat.le_add_right _ _), Nat.add_sub_cancel_left]; rfl
    have hFrm : yFr (ywf kt_20_0.2.1) τ h ((h.set 39 Lst).set 36 Fl ++ [Sum.inr (0, [.int k, .int m, .int t, .int o, .int o, .int m, .int m, .int 0, .int 0, .int 0, .ref (h.length + 1)]), Sum.inl (0, 12, Sum.inl g)]) := by
      intro p t9 c9 hp hc
      rw [hat p (hplt p t9 hp)]
      by_cases e : p = 36
      · subst e
        rw [hTG 36 12 rfl] at hp
        cases hp
        rw [c2] at hc
        cases hc
        refine ⟨Fl, if_pos rfl, ?_⟩
        subst hFl
        exact ⟨rfl, by rw [List.length_set], fun q hq => List.getElem?_set_ne (fun e => by subst e; cases hq)⟩
      · rw [if_neg e]
        by_cases e2 : p = 39
        · subst e2
          rw [hTG 39 15 rfl] at hp
          cases hp
          rw [d2] at hc
          cases hc
          refine ⟨Lst, if_pos rfl, ?_⟩
          subst hLst
          exact ⟨rfl, rfl, fun q => by cases q⟩
        · rw [if_neg e2]
          exact ⟨c9, hc, yCf.rf _ _⟩
    refine ⟨⟨?_, ?_⟩, hTG.tr hpre, ?_, hpre, hFrm⟩
    · rw [List.length_append, List.length_append, hl2, hτl]
      rfl
    · intro p t9 hp
      by_cases hpl : p < h.length
      · have hp' : τ[p]? = some t9 := by rw [List.getElem?_append_left (by rw [hτl]; exact hpl)] at hp; exact hp
        rw [hat p hpl]
        by_cases e : p = 36
        · subst e
          rw [hTG 36 12 rfl] at hp'
          cases hp'
          refine ⟨_, Fl, rfl, if_pos rfl, ?_⟩
          subst hFl
          refine ⟨_, rfl, by rw [List.length_set]; exact fl, fun i vt hi => ?_⟩
          by_cases e : 4 = i
          · subst e
            cases hi
            refine ⟨_, List.getElem?_set_self (by rw [fl]; decide), x + 1, rfl, ?_, ?_⟩
            · show (0 : Int) ≤ _; rw [zi32_1 x1 (by omega)]; omega
            · show _ ≤ (300 : Int); rw [zi32_1 x1 (by omega)]; omega
          · rw [List.getElem?_set_ne e]
            obtain ⟨w, e1, e2⟩ := ff i vt hi
            exact ⟨w, e1, e2.pre hpre⟩
        · rw [if_neg e]
          by_cases e2 : p = 39
          · subst e2
            rw [hTG 39 15 rfl] at hp'
            cases hp'
            refine ⟨_, Lst, rfl, if_pos rfl, ?_⟩
            subst hLst
            refine ⟨300, _, rfl, Nat.le_refl _, Nat.le_refl _, _, rfl, fun i hi => ?_⟩
            unfold va_up
            by_cases e : i = x.toNatClampNeg
            · rw [if_pos e]
              exact ⟨(show (-1 : Int) ≤ (h.length : Int) by omega), (show (h.length : Int) ≤ (10000000 : Int) by omega), Or.inr (Or.inr hn150)⟩
            · rw [if_neg e]
              exact ⟨(g1 i hi).1, (g1 i hi).2.1, (g1 i hi).2.2.pre hpre⟩
          · rw [if_neg e2]
            obtain ⟨ct9, c9, e1, e2, e3⟩ := hH.2 p t9 hp'
            exact ⟨ct9, c9, e1, e2, e3.pre hpre⟩
      · have hp2 : p = h.length ∨ p = h.length + 1 := by
          have : p < (τ ++ [150, 151]).length := by
            rcases Nat.lt_or_ge p (τ ++ [150, 151]).length with z | z
            · exact z
            · rw [List.getElem?_eq_none z] at hp; cases hp
          rw [List.length_append, hτl] at this
          have : p < h.length + 2 := this
          omega
        rcases hp2 with rfl | rfl
        · rw [hn150] at hp
          cases hp
          refine ⟨_, _, rfl, zapp2a' hl2, _, rfl, rfl, fun i vt hi => ?_⟩
          have z0 : yvo (τ ++ [150, 151]) (0, -2147483648, 2147483647, 0) (.int 0) := ⟨0, rfl, by decide, by decide⟩
          match i, hi with
          | 0, hi => cases hi; exact ⟨_, rfl, k, rfl, (show (0 : Int) ≤ k.toInt by omega), (show k.toInt ≤ (7 : Int) by omega)⟩
          | 1, hi => cases hi; exact ⟨_, rfl, m, rfl, (show (0 : Int) ≤ m.toInt by omega), (show m.toInt ≤ (599 : Int) by omega)⟩
          | 2, hi => cases hi; exact ⟨_, rfl, t, rfl, (show (0 : Int) ≤ t.toInt by omega), (show t.toInt ≤ (599 : Int) by omega)⟩
          | 3, hi => cases hi; exact ⟨_, rfl, o, rfl, (show (0 : Int) ≤ o.toInt by omega), (show o.toInt ≤ (59 : Int) by omega)⟩
          | 4, hi => cases hi; exact ⟨_, rfl, o, rfl, (show (0 : Int) ≤ o.toInt by omega), (show o.toInt ≤ (59 : Int) by omega)⟩
          | 5, hi => cases hi; exact ⟨_, rfl, m, rfl, (show (0 : Int) ≤ m.toInt by omega), (show m.toInt ≤ (599 : Int) by omega)⟩
          | 6, hi => cases hi; exact ⟨_, rfl, m, rfl, (show (0 : Int) ≤ m.toInt by omega), (show m.toInt ≤ (599 : Int) by omega)⟩
          | 7, hi => cases hi; exact ⟨_, rfl, 0, rfl, by decide, by decide⟩
          | 8, hi => cases hi; exact ⟨_, rfl, 0, rfl, by decide, by decide⟩
          | 9, hi => cases hi; exact ⟨_, rfl, 0, rfl, by decide, by decide⟩
          | 10, hi =>
            cases hi
            refine ⟨_, rfl, ((h.length + 1 : Nat) : Int), ?_, (show (0 : Int) ≤ ((h.length + 1 : Nat) : Int) by omega), (show ((h.length + 1 : Nat) : Int) ≤ (10000000 : Int) by omega), Or.inr (Or.inr hn151)⟩
            show Value.ref (h.length + 1) = zrn ((h.length + 1 : Nat) : Int)
            unfold zrn
            rw [if_neg (by omega)]
            rfl
          | i + 11, hi => cases hi
        · rw [hn151] at hp
          cases hp
          refine ⟨_, _, rfl, zapp2b' hl2, 12, _, rfl, by decide, by decide, g, rfl, fun i hi => ?_⟩
          rw [hg i hi]
          exact ⟨by decide, by decide⟩
    · have f1 := yfr_f (hTG 48 24 rfl) hH hFrm (f := 3) rfl
      have e1 := yfr_e (hTG 50 26 rfl) hH hFrm rfl
      have e2 := yfr_e (hTG 51 27 rfl) hH hFrm rfl
      have f2 : zfi ((h.set 39 Lst).set 36 Fl ++ [Sum.inr (0, [.int k, .int m, .int t, .int o, .int o, .int m, .int m, .int 0, .int 0, .int 0, .ref (h.length + 1)]), Sum.inl (0, 12, Sum.inl g)]) 36 4 = x.toInt + 1 := by
        unfold zfi
        rw [hat 36 (by omega), if_pos rfl]
        subst hFl
        dsimp only
        rw [List.getElem?_set_self (by rw [fl]; decide)]
        exact zi32_1 x1 (by omega)
      unfold zKI
      rw [f1, e1, e2, f2, List.length_append, hl2]
      refine ⟨hIh.1, ?_⟩
      show ((h.length + 2 : Nat) : Int) ≤ _
      rw [hz36] at hIl
      omega
  · refine r_push (zW_mono _ _ _) rfl ?_
    exact r_iret (zW_mono _ _ _) rfl rfl rfl (zcar_post ⟨hH, hTG, hIh, yPre.rf _, yFr.rf _ _ _⟩ (by decide) (by decide))
end CAR
