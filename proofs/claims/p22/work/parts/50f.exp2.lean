/-! 'expected': its third loop and its contract -/
noncomputable abbrev zLp (k kn pt s : Int32) (ab be se al : Int64) (l13 : Option Value) : zL := [some (.ref 111), some (.int k), some (.int kn), some (.int pt), some (.long ab), none, some (.long be), none, some (.long se), none, some (.long al), none, some (.int s), l13, none]
section EXPE
variable {G : zG} {tx : yTx} {τ : List Nat} {h : zH} {fa fb fc fd : Nat → Int32} {fs : List Value} {cr : Int32} {gK gC gS gP gT gB : Nat → Int32} {d : Nat} {K : zQ} {k kn pt : Int32}
theorem zexp3e (hK : ∀ x : Int64, K (some (.long x)) (zX4 h fa fb fc fd)) (s : Int32) (ab be se al : Int64) (l13 : Option Value) : zR zTt G cd_247 0 0 (some .long) (zW zTt G (d + 1)) K 409 (zLp k kn pt s ab be se al l13) [] (zX4 h fa fb fc fd) 0 0 := by
  refine r_iload (zW_mono _ _ _) rfl rfl ?_
  refine r_if_ne (zW_mono _ _ _) rfl (fun _ => ?_) (fun _ => ?_)
  · refine r_iload (zW_mono _ _ _) rfl rfl ?_
    refine r_push (zW_mono _ _ _) rfl ?_
    refine r_icmp_ne (zW_mono _ _ _) rfl (fun _ => ?_) (fun _ => ?_)
    · refine r_iload (zW_mono _ _ _) rfl rfl ?_
      refine r_push (zW_mono _ _ _) rfl ?_
      refine r_icmp_ne (zW_mono _ _ _) rfl (fun _ => ?_) (fun _ => ?_)
      · refine r_lload (zW_mono _ _ _) rfl rfl ?_
        exact r_lret (zW_mono _ _ _) rfl rfl (hK _)
      · refine r_lload (zW_mono _ _ _) rfl rfl ?_
        refine r_goto (zW_mono _ _ _) rfl ?_
        exact r_lret (zW_mono _ _ _) rfl rfl (hK _)
    · refine r_lload (zW_mono _ _ _) rfl rfl ?_
      refine r_goto (zW_mono _ _ _) rfl ?_
      exact r_lret (zW_mono _ _ _) rfl rfl (hK _)
  · refine r_lload (zW_mono _ _ _) rfl rfl ?_
    refine r_goto (zW_mono _ _ _) rfl ?_
    exact r_lret (zW_mono _ _ _) rfl rfl (hK _)
theorem zexp3 (hG : G.1 = zProg) (hx : zXok h fs cr gK gC gS gP gT gB) (ic : ∀ j, j < 9 → 0 ≤ (fc j).toInt ∧ (fc j).toInt ≤ 200) (hK : ∀ x : Int64, K (some (.long x)) (zX4 h fa fb fc fd)) : ∀ (n s : Nat) (ab be se al : Int64) (l13 : Option Value), s + n = 9 → ¬ ((2 ^ (7 * s + 1) : Nat) : Int) ∣ be.toInt → zR zTt G cd_247 0 0 (some .long) (zW zTt G (d + 1)) K 290 (zLp k kn pt (Int32.ofNat s) ab be se al l13) [] (zX4 h fa fb fc fd) 0 0
  | 0, s, ab, be, se, al, l13, hs, hb => by
    refine r_iload (zW_mono _ _ _) rfl rfl ?_
    refine r_push (zW_mono _ _ _) rfl ?_
    refine r_icmp_ge (zW_mono _ _ _) rfl (fun q => ?_) (fun q => ?_)
    · exact zexp3e hK _ ab be se al l13
    · have := Int32.lt_iff_toInt_lt.mp q
      rw [yofN (by omega), show (9 : Int32).toInt = 9 from rfl] at this
      omega
  | n + 1, s, ab, be, se, al, l13, hs, hb => by
    refine r_iload (zW_mono _ _ _) rfl rfl ?_
    refine r_push (zW_mono _ _ _) rfl ?_
    refine r_icmp_ge (zW_mono _ _ _) rfl (fun q => ?_) (fun q => ?_)
    · have := Int32.le_iff_toInt_le.mp q
      rw [yofN (by omega), show (9 : Int32).toInt = 9 from rfl] at this
      omega
    · have hx' := hx
      obtain ⟨c2, f59, hcr, f16, f60, f62, f63, f65, f66, f67, f68, f69, f70, a121, a152, a154, a155, a157, a158, bC, bS, hl⟩ := hx'
      have hv : vp_in (Int32.ofNat s) 9 := zvp (by omega) (by omega)
      have e1 : (Int32.ofNat s).toNatClampNeg = s := zofN_cl (by omega)
      have T : ∀ (ab be se al : Int64) (l13 : Option Value), ¬ ((2 ^ (7 * (s + 1) + 1) : Nat) : Int) ∣ be.toInt → zR zTt G cd_247 0 0 (some .long) (zW zTt G (d + 1)) K 403 (zLp k kn pt (Int32.ofNat s) ab be se al l13) [] (zX4 h fa fb fc fd) 0 0 := by
        intro ab be se al l13 hb
        refine r_iinc (zW_mono _ _ _) rfl rfl (Nat.le_of_ble_eq_true rfl) ?_
        refine r_goto (zW_mono _ _ _) rfl ?_
        rw [zofN_add]
        exact zexp3 hG hx ic hK n (s + 1) ab be se al l13 (by omega) hb
      refine r_aload (zW_mono _ _ _) rfl rfl ?_
      refine r_get (zW_mono _ _ _) rfl ((zx4_ne (by decide) (by decide) (by decide) (by decide)).trans c2) f69 ?_
      refine r_iload (zW_mono _ _ _) rfl rfl ?_
      refine r_iald (zW_mono _ _ _) rfl (zx4_c hl) hv ?_
      refine r_if_le (zW_mono _ _ _) rfl (fun _ => ?_) (fun hp => ?_)
      · refine T ab be se al l13 (fun q => hb (Int.dvd_trans (Int.natCast_dvd_natCast.mpr (Nat.pow_dvd_pow 2 (by omega))) q))
      · have o1 := ic s (by omega)
        have o0 := Int32.lt_iff_toInt_lt.mp hp
        rw [← e1] at o1
        rw [show (0 : Int32).toInt = 0 from rfl] at o0
        refine r_lload (zW_mono _ _ _) rfl rfl ?_
        refine r_aload (zW_mono _ _ _) rfl rfl ?_
        refine r_get (zW_mono _ _ _) rfl ((zx4_ne (by decide) (by decide) (by decide) (by decide)).trans c2) f68 ?_
        refine r_iload (zW_mono _ _ _) rfl rfl ?_
        refine r_iald (zW_mono _ _ _) rfl (zx4_b hl) hv ?_
        refine r_i2l (zW_mono _ _ _) rfl ?_
        refine r_ladd (zW_mono _ _ _) rfl ?_
        refine r_lstore (zW_mono _ _ _) rfl (Nat.le_of_ble_eq_true rfl) ?_
        refine r_lload (zW_mono _ _ _) rfl rfl ?_
        refine r_aload (zW_mono _ _ _) rfl rfl ?_
        refine r_get (zW_mono _ _ _) rfl ((zx4_ne (by decide) (by decide) (by decide) (by decide)).trans c2) f67 ?_
        refine r_iload (zW_mono _ _ _) rfl rfl ?_
        refine r_iald (zW_mono _ _ _) rfl (zx4_a hl) hv ?_
        refine r_i2l (zW_mono _ _ _) rfl ?_
        refine r_ladd (zW_mono _ _ _) rfl ?_
        refine r_lstore (zW_mono _ _ _) rfl (Nat.le_of_ble_eq_true rfl) ?_
        refine r_lload (zW_mono _ _ _) rfl rfl ?_
        refine r_aload (zW_mono _ _ _) rfl rfl ?_
        refine r_get (zW_mono _ _ _) rfl ((zx4_ne (by decide) (by decide) (by decide) (by decide)).trans c2) f69 ?_
        refine r_iload (zW_mono _ _ _) rfl rfl ?_
        refine r_iald (zW_mono _ _ _) rfl (zx4_c hl) hv ?_
        refine r_i2l (zW_mono _ _ _) rfl ?_
        refine r_lmul (zW_mono _ _ _) rfl ?_
        refine r_lload (zW_mono _ _ _) rfl rfl ?_
        refine r_aload (zW_mono _ _ _) rfl rfl ?_
        refine r_get (zW_mono _ _ _) rfl ((zx4_ne (by decide) (by decide) (by decide) (by decide)).trans c2) f67 ?_
        refine r_iload (zW_mono _ _ _) rfl rfl ?_
        refine r_iald (zW_mono _ _ _) rfl (zx4_a hl) hv ?_
        refine r_i2l (zW_mono _ _ _) rfl ?_
        refine r_lmul (zW_mono _ _ _) rfl ?_
        refine r_aload (zW_mono _ _ _) rfl rfl ?_
        refine r_get (zW_mono _ _ _) rfl ((zx4_ne (by decide) (by decide) (by decide) (by decide)).trans c2) f70 ?_
        refine r_iload (zW_mono _ _ _) rfl rfl ?_
        refine r_iald (zW_mono _ _ _) rfl (zx4_d hl) hv ?_
        refine r_i2l (zW_mono _ _ _) rfl ?_
        refine r_lmul (zW_mono _ _ _) rfl ?_
        refine r_ladd (zW_mono _ _ _) rfl ?_
        refine r_lstore (zW_mono _ _ _) rfl (Nat.le_of_ble_eq_true rfl) ?_
        refine r_lload (zW_mono _ _ _) rfl rfl ?_
        refine r_aload (zW_mono _ _ _) rfl rfl ?_
        refine r_get (zW_mono _ _ _) rfl ((zx4_ne (by decide) (by decide) (by decide) (by decide)).trans c2) f69 ?_
        refine r_iload (zW_mono _ _ _) rfl rfl ?_
        refine r_iald (zW_mono _ _ _) rfl (zx4_c hl) hv ?_
        refine r_i2l (zW_mono _ _ _) rfl ?_
        refine r_lmul (zW_mono _ _ _) rfl ?_
        refine r_lstore (zW_mono _ _ _) rfl (Nat.le_of_ble_eq_true rfl) ?_
        refine r_lload (zW_mono _ _ _) rfl rfl ?_
        refine r_lload (zW_mono _ _ _) rfl rfl ?_
        have hb2 := zbel (o := fc (Int32.ofNat s).toNatClampNeg) (by omega) o0 (by omega) hb
        refine r_stat2 (m1 := 0) (m2 := 0) (zW_mono _ _ _) rfl (Nat.le_of_ble_eq_true rfl) (by unfold zbud; rw [hG]; rfl) (Nat.le_of_ble_eq_true rfl) (Nat.le_of_ble_eq_true rfl) ?_
        refine zcommon hG (zbnz hb2) (fun g g0 gd => ?_)
        refine r_lstore (zW_mono _ _ _) rfl (Nat.le_of_ble_eq_true rfl) ?_
        refine r_lload (zW_mono _ _ _) rfl rfl ?_
        refine r_lload (zW_mono _ _ _) rfl rfl ?_
        refine r_ldiv (zW_mono _ _ _) rfl g0 ?_
        refine r_lstore (zW_mono _ _ _) rfl (Nat.le_of_ble_eq_true rfl) ?_
        refine r_lload (zW_mono _ _ _) rfl rfl ?_
        refine r_lload (zW_mono _ _ _) rfl rfl ?_
        refine r_ldiv (zW_mono _ _ _) rfl g0 ?_
        refine r_lstore (zW_mono _ _ _) rfl (Nat.le_of_ble_eq_true rfl) ?_
        refine T _ _ _ _ _ ?_
        exact zbdiv (k := 7 * (s + 1) + 1) (by omega) gd (by rw [show 7 * (s + 1) + 1 = 7 * s + 1 + 7 by omega]; exact hb2)
theorem zin3 (hG : G.1 = zProg) {x lo hi : Int64} (k0 : K (some (.int 0)) h) (k1 : K (some (.int 1)) h) : zW zTt G (d + 1) 171 [.long x, .long lo, .long hi] h K := by
  refine zW_in (by rw [hG]; rfl) (Nat.le_of_ble_eq_true rfl) ?_
  refine r_lload (zW_mono _ _ _) rfl rfl ?_
  refine r_lload (zW_mono _ _ _) rfl rfl ?_
  refine r_lcmp (zW_mono _ _ _) rfl ?_
  refine r_if_lt (zW_mono _ _ _) rfl (fun _ => ?_) (fun _ => ?_)
  · refine r_push (zW_mono _ _ _) rfl ?_
    exact r_iret (zW_mono _ _ _) rfl rfl rfl k0
  · refine r_lload (zW_mono _ _ _) rfl rfl ?_
    refine r_lload (zW_mono _ _ _) rfl rfl ?_
    refine r_lcmp (zW_mono _ _ _) rfl ?_
    refine r_if_gt (zW_mono _ _ _) rfl (fun _ => ?_) (fun _ => ?_)
    · refine r_push (zW_mono _ _ _) rfl ?_
      exact r_iret (zW_mono _ _ _) rfl rfl rfl k0
    · refine r_push (zW_mono _ _ _) rfl ?_
      refine r_goto (zW_mono _ _ _) rfl ?_
      exact r_iret (zW_mono _ _ _) rfl rfl rfl k1
theorem zin2 (hG : G.1 = zProg) {x : Int32} (k0 : K (some (.int 0)) h) (k1 : K (some (.int 1)) h) : zW zTt G (d + 2) 172 [.int x] h K := by
  refine zW_in (by rw [hG]; rfl) (Nat.le_of_ble_eq_true rfl) ?_
  refine r_iload (zW_mono _ _ _) rfl rfl ?_
  refine r_i2l (zW_mono _ _ _) rfl ?_
  refine r_push (zW_mono _ _ _) rfl ?_
  refine r_push (zW_mono _ _ _) rfl ?_
  refine r_stat3 (m1 := 0) (m2 := 0) (zW_mono _ _ _) rfl (Nat.le_of_ble_eq_true rfl) (by unfold zbud; rw [hG]; rfl) (Nat.le_of_ble_eq_true rfl) (Nat.le_of_ble_eq_true rfl) ?_
  exact zin3 hG (r_iret (zW_mono _ _ _) rfl rfl rfl k0) (r_iret (zW_mono _ _ _) rfl rfl rfl k1)
theorem zin1 (hG : G.1 = zProg) {x y : Int32} (c2 : h[111]? = some (.inr (12, fs))) (f3 : fs[3]? = some (.int y)) (k0 : K (some (.int 0)) h) (k1 : K (some (.int 1)) h) : zW zTt G (d + 2) 176 [.ref 111, .int x] h K := by
  refine zW_in (by rw [hG]; rfl) (Nat.le_of_ble_eq_true rfl) ?_
  refine r_iload (zW_mono _ _ _) rfl rfl ?_
  refine r_i2l (zW_mono _ _ _) rfl ?_
  refine r_push (zW_mono _ _ _) rfl ?_
  refine r_aload (zW_mono _ _ _) rfl rfl ?_
  refine r_get (zW_mono _ _ _) rfl c2 f3 ?_
  refine r_push (zW_mono _ _ _) rfl ?_
  refine r_isub (zW_mono _ _ _) rfl ?_
  refine r_i2l (zW_mono _ _ _) rfl ?_
  refine r_stat3 (m1 := 0) (m2 := 0) (zW_mono _ _ _) rfl (Nat.le_of_ble_eq_true rfl) (by unfold zbud; rw [hG]; rfl) (Nat.le_of_ble_eq_true rfl) (Nat.le_of_ble_eq_true rfl) ?_
  exact zin3 hG (r_iret (zW_mono _ _ _) rfl rfl rfl k0) (r_iret (zW_mono _ _ _) rfl rfl rfl k1)
theorem zfref {τ : List Nat} {fs : List Value} {i q tg : Nat} (h : ∃ w, fs[i]? = some w ∧ yvo τ (2, .ofNat q, .ofNat q, tg) w) : fs[i]? = some (.ref q) := by
  obtain ⟨w, f, z, rfl, z1, z2, -⟩ := h
  have z1' : (q : Int) ≤ z := z1
  have z2' : z ≤ (q : Int) := z2
  have e : z = (q : Int) := by omega
  subst e
  rw [f]
  unfold zrn
  rw [if_neg (by omega)]
  rfl
theorem zfarr {TT : List yC} {p t kd N : Nat} {lo hi : Int} (hH : yHo TT τ h) (hp : τ[p]? = some t) (ht : TT[t]? = some (.inr (kd, N, N, (0, lo, hi, 0)))) : ∃ f : Nat → Int32, h[p]? = some (.inl (kd, N, .inl f)) ∧ ∀ i, i < N → lo ≤ (f i).toInt ∧ (f i).toInt ≤ hi := by
  obtain ⟨ct, c, i1, i2, i3⟩ := hH.2 p t hp
  rw [ht] at i1
  cases i1
  obtain ⟨N9, y9, rfl, n1, n2, f, rfl, g⟩ := i3
  have e : N9 = N := by omega
  subst e
  exact ⟨f, i2, g⟩
theorem zx4_self (ha : h[159]? = some (.inl (0, 9, .inl fa))) (hb : h[160]? = some (.inl (0, 9, .inl fb))) (hc : h[161]? = some (.inl (0, 9, .inl fc))) (hd : h[162]? = some (.inl (0, 9, .inl fd))) (hl : 162 < h.length) : zX4 h fa fb fc fd = h := by
  apply List.ext_getElem?
  intro p
  by_cases e1 : p = 159
  · subst e1; rw [zx4_a hl, ha]
  · by_cases e2 : p = 160
    · subst e2; rw [zx4_b hl, hb]
    · by_cases e3 : p = 161
      · subst e3; rw [zx4_c hl, hc]
      · by_cases e4 : p = 162
        · subst e4; rw [zx4_d hl, hd]
        · exact zx4_ne e1 e2 e3 e4
/-- behind expected -/
theorem zexp_post {ρ : yR} {h2 : zH} {x : Int64} (hh : yHp zTG zTTy zKI (ywf kt_247_0.2.1) τ h τ h2) : yPo tx zTG zTTy zKI (ywf kt_247_0.2.1) kt_247_0.1.1.length kt_247_0.2.2.2 ρ τ h (some (.long x)) h2 := by
  refine ⟨_, List.mem_cons_self, fun i => if i = 3 then x.toInt else ρ i, τ, fun i hi => if_neg (Nat.ne_of_lt hi), hh, ⟨?_, (fun _ z => by cases z), (fun _ z => by cases z), (fun _ z => by cases z)⟩, ⟨ysp_var (i := 3) (by decide), x, rfl, ?_⟩, trivial⟩
  · intro e he
    rcases List.mem_singleton.mp he with rfl
    exact ⟨by decide, (show (-9223372036854775808 : Int) ≤ x.toInt from Int64.le_toInt x), (show x.toInt ≤ (9223372036854775807 : Int) by have := Int64.toInt_lt x; omega), Or.inl rfl⟩
  · show x.toInt = yev _ (yvar 3)
    rw [yev_var]
    exact (if_pos rfl).symm
set_option maxHeartbeats 1000000 in
theorem zexp_ok (hG : G.1 = zProg) (n : Nat) : yVl zTt G tx zTG zTTy zKI 247 kt_247_0 n := by
  intro ρ τ h as d hp hlt hd
  obtain ⟨hW, hH, hTG, hIh, hA⟩ := hp
  have hlev : yev ρ kt_247_0.2.2.1 = 5 := yev_con ρ 5
  rw [hlev] at hd
  obtain ⟨d1, rfl⟩ : ∃ d1, d = d1 + 3 := ⟨d - 3, by omega⟩
  obtain ⟨x0, as1, rfl, a0, hA1⟩ := yargs1 hA (by decide)
  obtain ⟨x1, as2, rfl, ⟨-, k, rfl, -⟩, hA2⟩ := yargs1 hA1 (by decide)
  obtain ⟨x2, as3, rfl, ⟨-, kn, rfl, -⟩, hA3⟩ := yargs1 hA2 (by decide)
  obtain ⟨x3, as4, rfl, ⟨-, pt, rfl, -⟩, hA4⟩ := yargs1 hA3 (by decide)
  have hnil := yargs0 hA4
  subst hnil
  have ea0 : x0 = .ref 111 := a0.2
  subst ea0
  obtain ⟨ct, c, c1, c2, c3⟩ := hH.2 111 79 (hTG 111 79 rfl)
  cases c1
  obtain ⟨fs, rfl, fl, ff⟩ := c3
  obtain ⟨w3, f3, y3, rfl, -, -⟩ := ff 3 _ rfl
  obtain ⟨w59, f59, cr, rfl, cr1, cr2⟩ := ff 59 _ rfl
  have cr1 : (0 : Int) ≤ cr.toInt := cr1
  have cr2 : cr.toInt ≤ (200 : Int) := cr2
  have f16 := zfref (ff 16 _ rfl)
  have f60 := zfref (ff 60 _ rfl)
  have f62 := zfref (ff 62 _ rfl)
  have f63 := zfref (ff 63 _ rfl)
  have f65 := zfref (ff 65 _ rfl)
  have f66 := zfref (ff 66 _ rfl)
  have f67 := zfref (ff 67 _ rfl)
  have f68 := zfref (ff 68 _ rfl)
  have f69 := zfref (ff 69 _ rfl)
  have f70 := zfref (ff 70 _ rfl)
  obtain ⟨gK, a121, -⟩ := zfarr hH (hTG 121 89 rfl) rfl
  obtain ⟨gC, a152, bC⟩ := zfarr hH (hTG 152 120 rfl) rfl
  obtain ⟨gS, a154, bS⟩ := zfarr hH (hTG 154 122 rfl) rfl
  obtain ⟨gP, a155, -⟩ := zfarr hH (hTG 155 123 rfl) rfl
  obtain ⟨gT, a157, -⟩ := zfarr hH (hTG 157 125 rfl) rfl
  obtain ⟨gB, a158, -⟩ := zfarr hH (hTG 158 126 rfl) rfl
  obtain ⟨fA, a159, -⟩ := zfarr hH (hTG 159 127 rfl) rfl
  obtain ⟨fB, a160, -⟩ := zfarr hH (hTG 160 128 rfl) rfl
  obtain ⟨fC, a161, -⟩ := zfarr hH (hTG 161 129 rfl) rfl
  obtain ⟨fD, a162, -⟩ := zfarr hH (hTG 162 130 rfl) rfl
  have hl : 162 < h.length := by
    rcases Nat.lt_or_ge 162 h.length with z | z
    · exact z
    · rw [List.getElem?_eq_none z] at a162; cases a162
  have hx : zXok h fs cr gK gC gS gP gT gB := ⟨c2, f59, ⟨cr1, cr2⟩, f16, f60, f62, f63, f65, f66, f67, f68, f69, f70, a121, a152, a154, a155, a157, a158, bC, bS, hl⟩
  -- behind
  have hEnd : ∀ fa fb fc fd : Nat → Int32, (∀ j, j < 9 → 0 ≤ (fa j).toInt ∧ (fa j).toInt ≤ 200) → (∀ j, j < 9 → 0 ≤ (fb j).toInt ∧ (fb j).toInt ≤ 200) → (∀ j, j < 9 → 0 ≤ (fc j).toInt ∧ (fc j).toInt ≤ 200) → (∀ j, j < 9 → 0 ≤ (fd j).toInt ∧ (fd j).toInt ≤ 200) → yHp zTG zTTy zKI (ywf kt_247_0.2.1) τ h τ (zX4 h fa fb fc fd) := by
    intro fa fb fc fd ia ib ic id
    have hFrm : yFr (ywf kt_247_0.2.1) τ h (zX4 h fa fb fc fd) := by
      intro p t9 c9 hp hc
      by_cases e : p = 159
      · subst e
        rw [hTG 159 127 rfl] at hp
        cases hp
        rw [a159] at hc
        cases hc
        exact ⟨_, zx4_a hl, rfl, rfl, fun q => by cases q⟩
      · by_cases e2 : p = 160
        · subst e2
          rw [hTG 160 128 rfl] at hp
          cases hp
          rw [a160] at hc
          cases hc
          exact ⟨_, zx4_b hl, rfl, rfl, fun q => by cases q⟩
        · by_cases e3 : p = 161
          · subst e3
            rw [hTG 161 129 rfl] at hp
            cases hp
            rw [a161] at hc
            cases hc
            exact ⟨_, zx4_c hl, rfl, rfl, fun q => by cases q⟩
          · by_cases e4 : p = 162
            · subst e4
              rw [hTG 162 130 rfl] at hp
              cases hp
              rw [a162] at hc
              cases hc
              exact ⟨_, zx4_d hl, rfl, rfl, fun q => by cases q⟩
            · exact ⟨c9, (zx4_ne e e2 e3 e4).trans hc, yCf.rf _ _⟩
    refine ⟨⟨?_, ?_⟩, hTG, ?_, yPre.rf _, hFrm⟩
    · rw [zx4_len]; exact hH.1
    · intro p t9 hp
      by_cases e : p = 159
      · subst e
        rw [hTG 159 127 rfl] at hp
        cases hp
        exact ⟨_, _, rfl, zx4_a hl, 9, _, rfl, Nat.le_refl _, Nat.le_refl _, fa, rfl, ia⟩
      · by_cases e2 : p = 160
        · subst e2
          rw [hTG 160 128 rfl] at hp
          cases hp
          exact ⟨_, _, rfl, zx4_b hl, 9, _, rfl, Nat.le_refl _, Nat.le_refl _, fb, rfl, ib⟩
        · by_cases e3 : p = 161
          · subst e3
            rw [hTG 161 129 rfl] at hp
            cases hp
            exact ⟨_, _, rfl, zx4_c hl, 9, _, rfl, Nat.le_refl _, Nat.le_refl _, fc, rfl, ic⟩
          · by_cases e4 : p = 162
            · subst e4
              rw [hTG 162 130 rfl] at hp
              cases hp
              exact ⟨_, _, rfl, zx4_d hl, 9, _, rfl, Nat.le_refl _, Nat.le_refl _, fd, rfl, id⟩
            · obtain ⟨ct9, c9, q1, q2, q3⟩ := hH.2 p t9 hp
              exact ⟨ct9, c9, q1, (zx4_ne e e2 e3 e4).trans q2, q3⟩
    · have q1 := yfr_f (hTG 48 24 rfl) hH hFrm (f := 3) rfl
      have q2 := yfr_f (hTG 36 12 rfl) hH hFrm (f := 4) rfl
      have q3 := yfr_e (hTG 50 26 rfl) hH hFrm rfl
      have q4 := yfr_e (hTG 51 27 rfl) hH hFrm rfl
      unfold zKI
      rw [q1, q2, q3, q4, zx4_len]
      exact hIh
  have hEarly : ∀ x : Int64, yPo tx zTG zTTy zKI (ywf kt_247_0.2.1) kt_247_0.1.1.length kt_247_0.2.2.2 ρ τ h (some (.long x)) h := fun x => zexp_post ⟨hH, hTG, hIh, yPre.rf _, yFr.rf _ _ _⟩
  refine zW_in (by rw [hG]; rfl) (Nat.le_of_ble_eq_true rfl) ?_
  have F27 : zR zTt G cd_247 0 0 (some .long) (zW zTt G (d1 + 2)) (yPo tx zTG zTTy zKI (ywf kt_247_0.2.1) kt_247_0.1.1.length kt_247_0.2.2.2 ρ τ h) 27 (zentry [.ref 111, .int k, .int kn, .int pt] 15) [] h 0 0 := by
    refine r_push (zW_mono _ _ _) rfl ?_
    exact r_lret (zW_mono _ _ _) rfl rfl (hEarly _)
  have F31 : zR zTt G cd_247 0 0 (some .long) (zW zTt G (d1 + 2)) (yPo tx zTG zTTy zKI (ywf kt_247_0.2.1) kt_247_0.1.1.length kt_247_0.2.2.2 ρ τ h) 31 (zentry [.ref 111, .int k, .int kn, .int pt] 15) [] h 0 0 := by
    refine r_push (zW_mono _ _ _) rfl ?_
    refine r_istore (zW_mono _ _ _) rfl (Nat.le_of_ble_eq_true rfl) ?_
    suffices Q : zR zTt G cd_247 0 0 (some .long) (zW zTt G (d1 + 2)) (yPo tx zTG zTTy zKI (ywf kt_247_0.2.1) kt_247_0.1.1.length kt_247_0.2.2.2 ρ τ h) 34 (zLo k kn pt (Int32.ofNat 0) none none none) [] (zX4 h fA fB fC fD) 0 0 by rw [zx4_self a159 a160 a161 a162 hl] at Q; exact Q
    refine zexp1 hx (fun s fa fb fc fd z1 z2 z3 z4 => ?_) 9 0 fA fB fC fD rfl (fun j hj => by omega) (fun j hj => by omega) (fun j hj => by omega) (fun j hj => by omega)
    refine r_push (zW_mono _ _ _) rfl ?_
    refine r_istore (zW_mono _ _ _) rfl (Nat.le_of_ble_eq_true rfl) ?_
    have z0 : ∀ f : Nat → Int32, (∀ j, j < 9 → f j = 0) → ∀ j, j < 9 → 0 ≤ (f j).toInt ∧ (f j).toInt ≤ ((0 : Nat) : Int) := fun f hf j hj => by rw [hf j hj]; decide
    refine zexp2l hx (fun c l5 l6 l7 fa fb fc fd ia ib ic id => ?_) cr.toInt.toNat 0 none none none fa fb fc fd (by omega) (z0 _ z1) (z0 _ z2) (z0 _ z3) (z0 _ z4)
    refine r_push (zW_mono _ _ _) rfl ?_
    refine r_lstore (zW_mono _ _ _) rfl (Nat.le_of_ble_eq_true rfl) ?_
    refine r_push (zW_mono _ _ _) rfl ?_
    refine r_lstore (zW_mono _ _ _) rfl (Nat.le_of_ble_eq_true rfl) ?_
    refine r_push (zW_mono _ _ _) rfl ?_
    refine r_lstore (zW_mono _ _ _) rfl (Nat.le_of_ble_eq_true rfl) ?_
    refine r_push (zW_mono _ _ _) rfl ?_
    refine r_lstore (zW_mono _ _ _) rfl (Nat.le_of_ble_eq_true rfl) ?_
    refine r_push (zW_mono _ _ _) rfl ?_
    refine r_istore (zW_mono _ _ _) rfl (Nat.le_of_ble_eq_true rfl) ?_
    exact zexp3 hG hx ic (fun x => zexp_post (hEnd fa fb fc fd ia ib ic id)) 9 0 0 1 0 0 _ rfl (by decide)
  refine r_aload (zW_mono _ _ _) rfl rfl ?_
  refine r_iload (zW_mono _ _ _) rfl rfl ?_
  refine r_virt1 (m1 := 0) (m2 := 0) (zW_mono _ _ _) rfl c2 (Nat.le_of_ble_eq_true rfl) (by unfold zbud; rw [hG]; rfl) (Nat.le_of_ble_eq_true rfl) (Nat.le_of_ble_eq_true rfl) ?_
  refine zin1 hG c2 f3 ?_ ?_
  · exact r_if_eq (zW_mono _ _ _) rfl (fun _ => F27) (fun e => absurd rfl e)
  · refine r_if_eq (zW_mono _ _ _) rfl (fun e => absurd e (by decide)) (fun _ => ?_)
    refine r_iload (zW_mono _ _ _) rfl rfl ?_
    refine r_stat1 (m1 := 0) (m2 := 0) (zW_mono _ _ _) rfl (Nat.le_of_ble_eq_true rfl) (by unfold zbud; rw [hG]; rfl) (Nat.le_of_ble_eq_true rfl) (Nat.le_of_ble_eq_true rfl) ?_
    refine zin2 hG ?_ ?_
    · exact r_if_eq (zW_mono _ _ _) rfl (fun _ => F27) (fun e => absurd rfl e)
    · refine r_if_eq (zW_mono _ _ _) rfl (fun e => absurd e (by decide)) (fun _ => ?_)
      refine r_iload (zW_mono _ _ _) rfl rfl ?_
      refine r_i2l (zW_mono _ _ _) rfl ?_
      refine r_push (zW_mono _ _ _) rfl ?_
      refine r_push (zW_mono _ _ _) rfl ?_
      refine r_stat3 (m1 := 0) (m2 := 0) (zW_mono _ _ _) rfl (Nat.le_of_ble_eq_true rfl) (by unfold zbud; rw [hG]; rfl) (Nat.le_of_ble_eq_true rfl) (Nat.le_of_ble_eq_true rfl) ?_
      refine zin3 hG ?_ ?_
      · exact r_if_ne (zW_mono _ _ _) rfl (fun e => absurd rfl e) (fun _ => F27)
      · exact r_if_ne (zW_mono _ _ _) rfl (fun _ => F31) (fun e => absurd e (by decide))
end EXPE
