section
/-! the longs of 'expected': below is never 0 -/
theorem zbm {n : Nat} (hn : n ≤ 64) {x : Int} : ((2 ^ n : Nat) : Int) ∣ x.bmod (2 ^ 64) ↔ ((2 ^ n : Nat) : Int) ∣ x := by
  have h1 : ((2 ^ n : Nat) : Int) ∣ ((2 ^ 64 : Nat) : Int) := Int.natCast_dvd_natCast.mpr (Nat.pow_dvd_pow 2 hn)
  have h3 : ∃ k : Int, x.bmod (2 ^ 64) = x + ((2 ^ 64 : Nat) : Int) * k := by
    have e := Int.emod_add_mul_ediv x ((2 ^ 64 : Nat) : Int)
    rw [Int.bmod_def]
    split
    · exact ⟨-(x / ((2 ^ 64 : Nat) : Int)), by rw [Int.mul_neg]; omega⟩
    · exact ⟨-(x / ((2 ^ 64 : Nat) : Int)) - 1, by rw [Int.mul_sub, Int.mul_neg, Int.mul_one]; omega⟩
  obtain ⟨k, hk⟩ := h3
  rw [hk]
  exact ⟨fun z => (Int.dvd_add_left (Int.dvd_trans h1 (Int.dvd_mul_right _ _))).mp z, fun z => Int.dvd_add z (Int.dvd_trans h1 (Int.dvd_mul_right _ _))⟩
theorem ztwo : ∀ (j k : Nat) (b o : Nat), 0 < o → o < 2 ^ (j + 1) → 2 ^ (k + j) ∣ b * o → 2 ^ k ∣ b
  | 0, k, b, o, h0, h1, h2 => by
    have : o = 1 := by omega
    subst this
    rw [Nat.mul_one] at h2
    exact h2
  | j + 1, k, b, o, h0, h1, h2 => by
    rcases Nat.mod_two_eq_zero_or_one o with e | e
    · obtain ⟨o', rfl⟩ : ∃ o', o = 2 * o' := ⟨o / 2, by omega⟩
      refine ztwo j k b o' (by omega) (by rw [Nat.pow_succ] at h1; omega) ?_
      rw [show k + (j + 1) = (k + j) + 1 from rfl, Nat.pow_succ, Nat.mul_comm _ 2, show b * (2 * o') = 2 * (b * o') by rw [Nat.mul_left_comm]] at h2
      exact Nat.dvd_of_mul_dvd_mul_left (by decide) h2
    · have hc : Nat.Coprime (2 ^ (k + (j + 1))) o := by
        refine Nat.Coprime.pow_left _ ?_
        unfold Nat.Coprime
        rw [Nat.gcd_rec, e]
        rfl
      exact Nat.dvd_trans (Nat.pow_dvd_pow 2 (Nat.le_add_right _ _)) (hc.dvd_of_dvd_mul_right h2)
/-- no power of 2 above 7 more in a product -/
theorem zbel {k : Nat} {b : Int64} {o : Int32} (hk : k + 7 ≤ 64) (h1 : 0 < o.toInt) (h2 : o.toInt ≤ 255) (hb : ¬ ((2 ^ k : Nat) : Int) ∣ b.toInt) : ¬ ((2 ^ (k + 7) : Nat) : Int) ∣ (b * o.toInt64).toInt := by
  intro h
  rw [Int64.toInt_mul, zbm hk, Int32.toInt_toInt64] at h
  refine hb ?_
  rw [← Int.natAbs_dvd_natAbs, Int.natAbs_natCast] at h ⊢
  rw [Int.natAbs_mul] at h
  exact ztwo 7 k _ o.toInt.natAbs (by omega) (show o.toInt.natAbs < 256 by omega) h
theorem zbdiv {k : Nat} {b g : Int64} (hk : k ≤ 64) (hg : g.toInt ∣ b.toInt) (h : ¬ ((2 ^ k : Nat) : Int) ∣ b.toInt) : ¬ ((2 ^ k : Nat) : Int) ∣ (b / g).toInt := by
  intro q
  rw [Int64.toInt_div, zbm hk] at q
  refine h ?_
  rw [← Int.mul_tdiv_cancel' hg]
  exact Int.dvd_trans q (Int.dvd_mul_left _ _)
theorem zbnz {k : Nat} {b : Int64} (h : ¬ ((2 ^ k : Nat) : Int) ∣ b.toInt) : b ≠ 0 := by
  intro e
  subst e
  exact h (Int.dvd_zero _)
theorem zrem64 {x y : Int64} : (x - x / y * y).toInt = x.toInt.tmod y.toInt := by
  have h1 := Int64.le_toInt x
  have h2 := Int64.toInt_lt x
  have h3 : (x.toInt.tmod y.toInt).natAbs ≤ x.toInt.natAbs := by rw [Int.natAbs_tmod]; exact Nat.mod_le _ _
  have h4 : (x.toInt.tmod y.toInt).bmod (2 ^ 64) = x.toInt.tmod y.toInt := by
    rcases Int.lt_or_le x.toInt 0 with z | z
    · have h5 : x.toInt.tmod y.toInt ≤ 0 := by
        have := Int.tmod_nonneg (a := -x.toInt) y.toInt (by omega)
        rw [Int.neg_tmod] at this
        omega
      exact Int.bmod_eq_of_le (by show (-9223372036854775808 : Int) ≤ _; omega) (by show _ < (9223372036854775808 : Int); omega)
    · have h5 := Int.tmod_nonneg (a := x.toInt) y.toInt z
      exact Int.bmod_eq_of_le (by show (-9223372036854775808 : Int) ≤ _; omega) (by show _ < (9223372036854775808 : Int); omega)
  rw [Int64.toInt_sub, Int64.toInt_mul, Int64.toInt_div, Int.sub_bmod_bmod, ← Int.sub_bmod_bmod, Int.bmod_mul_bmod, Int.sub_bmod_bmod, Int.mul_comm, ← Int.tmod_def]
  exact h4
section EXPC
variable {G : zG} {h : zH}
theorem zcommon_loop (hG : G.1 = zProg) {d : Nat} {b : Int64} {a0 b0 : Int64} {K : zQ} (hK : ∀ g : Int64, g ≠ 0 → g.toInt ∣ b.toInt → K (some (.long g)) h) : ∀ (n : Nat) (x y : Int64) (l8 l9 : Option Value), y.toInt.natAbs ≤ n → (y ≠ 0 ∨ x ≠ 0) → (∀ z : Int, z ∣ x.toInt → z ∣ y.toInt → z ∣ b.toInt) → zR zTt G cd_246 0 0 (some .long) (zW zTt G d) K 6 [some (.long a0), none, some (.long b0), none, some (.long x), none, some (.long y), none, l8, l9] [] h 0 0
  | n, x, y, l8, l9, hn, h0, hd => by
    refine r_lload (zW_mono _ _ _) rfl rfl ?_
    refine r_push (zW_mono _ _ _) rfl ?_
    refine r_lcmp (zW_mono _ _ _) rfl ?_
    refine r_if_eq (zW_mono _ _ _) rfl (fun e => ?_) (fun hne => ?_)
    · have e0 : y = 0 := (lg_cmp_eq _ _).mp e
      subst e0
      refine r_lload (zW_mono _ _ _) rfl rfl ?_
      exact r_lret (zW_mono _ _ _) rfl rfl (hK x (h0.resolve_left (fun z => z rfl)) (hd _ (Int.dvd_refl _) (Int.dvd_zero _)))
    · have y0 : ¬ y = 0 := fun e => hne ((lg_cmp_eq _ _).mpr e)
      have yi : y.toInt ≠ 0 := fun e => y0 (Int64.toInt_inj.mp e)
      refine r_lload (zW_mono _ _ _) rfl rfl ?_
      refine r_lload (zW_mono _ _ _) rfl rfl ?_
      refine r_lrem (zW_mono _ _ _) rfl y0 ?_
      refine r_lstore (zW_mono _ _ _) rfl (Nat.le_of_ble_eq_true rfl) ?_
      refine r_lload (zW_mono _ _ _) rfl rfl ?_
      refine r_lstore (zW_mono _ _ _) rfl (Nat.le_of_ble_eq_true rfl) ?_
      refine r_lload (zW_mono _ _ _) rfl rfl ?_
      refine r_lstore (zW_mono _ _ _) rfl (Nat.le_of_ble_eq_true rfl) ?_
      refine r_goto (zW_mono _ _ _) rfl ?_
      have hr : (x - x / y * y).toInt = x.toInt.tmod y.toInt := zrem64
      have hlt : (x - x / y * y).toInt.natAbs < y.toInt.natAbs := by
        rw [hr, Int.natAbs_tmod]
        exact Nat.mod_lt _ (by omega)
      match n, hn with
      | 0, hn => omega
      | n + 1, hn =>
        refine zcommon_loop hG hK n y (x - x / y * y) _ _ (by omega) (Or.inr y0) (fun z h1 h2 => hd z ?_ h1)
        rw [hr] at h2
        have := Int.mul_tdiv_add_tmod x.toInt y.toInt
        rw [← this]
        exact Int.dvd_add (Int.dvd_trans h1 (Int.dvd_mul_right _ _)) h2
theorem zcommon (hG : G.1 = zProg) {d : Nat} {a b : Int64} (hb : b ≠ 0) {K : zQ} (hK : ∀ g : Int64, g ≠ 0 → g.toInt ∣ b.toInt → K (some (.long g)) h) : zW zTt G (d + 1) 246 [.long a, .long b] h K := by
  refine zW_in (by rw [hG]; rfl) (Nat.le_of_ble_eq_true rfl) ?_
  refine r_lload (zW_mono _ _ _) rfl rfl ?_
  refine r_lstore (zW_mono _ _ _) rfl (Nat.le_of_ble_eq_true rfl) ?_
  refine r_lload (zW_mono _ _ _) rfl rfl ?_
  refine r_lstore (zW_mono _ _ _) rfl (Nat.le_of_ble_eq_true rfl) ?_
  exact zcommon_loop hG hK _ a b _ _ (Nat.le_refl _) (Or.inl hb) (fun z _ h2 => h2)
end EXPC
end
section
/-! 'expected' by hand -/
noncomputable def zX4 (h : zH) (fa fb fc fd : Nat → Int32) : zH := (((h.set 159 (.inl (0, 9, .inl fa))).set 160 (.inl (0, 9, .inl fb))).set 161 (.inl (0, 9, .inl fc))).set 162 (.inl (0, 9, .inl fd))
noncomputable def zXok (h : zH) (fs : List Value) (cr : Int32) (gK gC gS gP gT gB : Nat → Int32) : Prop := h[111]? = some (.inr (12, fs)) ∧ fs[59]? = some (.int cr) ∧ (0 ≤ cr.toInt ∧ cr.toInt ≤ 200) ∧ fs[16]? = some (.ref 121) ∧ fs[60]? = some (.ref 152) ∧ fs[62]? = some (.ref 154) ∧ fs[63]? = some (.ref 155) ∧ fs[65]? = some (.ref 157) ∧ fs[66]? = some (.ref 158) ∧ fs[67]? = some (.ref 159) ∧ fs[68]? = some (.ref 160) ∧ fs[69]? = some (.ref 161) ∧ fs[70]? = some (.ref 162) ∧ h[121]? = some (.inl (0, 300, .inl gK)) ∧ h[152]? = some (.inl (0, 200, .inl gC)) ∧ h[154]? = some (.inl (0, 200, .inl gS)) ∧ h[155]? = some (.inl (0, 200, .inl gP)) ∧ h[157]? = some (.inl (0, 200, .inl gT)) ∧ h[158]? = some (.inl (1, 200, .inl gB)) ∧ (∀ i, i < 200 → 0 ≤ (gC i).toInt ∧ (gC i).toInt ≤ 299) ∧ (∀ i, i < 200 → 0 ≤ (gS i).toInt ∧ (gS i).toInt ≤ 2) ∧ 162 < h.length
noncomputable abbrev zLo (k kn pt c : Int32) (l5 l6 l7 : Option Value) : zL := [some (.ref 111), some (.int k), some (.int kn), some (.int pt), some (.int c), l5, l6, l7, none, none, none, none, none, none, none]
section EXPD
variable {G : zG} {h : zH} {fa fb fc fd : Nat → Int32} {fs : List Value} {cr : Int32} {gK gC gS gP gT gB : Nat → Int32} {d : Nat} {K : zQ} {k kn pt : Int32}
theorem zx4_ne {p : Nat} (h1 : p ≠ 159) (h2 : p ≠ 160) (h3 : p ≠ 161) (h4 : p ≠ 162) : (zX4 h fa fb fc fd)[p]? = h[p]? := by unfold zX4; rw [zsel h4, zsel h3, zsel h2, zsel h1]
theorem zx4_len : (zX4 h fa fb fc fd).length = h.length := by unfold zX4; rw [List.length_set, List.length_set, List.length_set, List.length_set]
theorem zx4_a (hl : 162 < h.length) : (zX4 h fa fb fc fd)[159]? = some (.inl (0, 9, .inl fa)) := by unfold zX4; rw [zsel (by decide), zsel (by decide), zsel (by decide), zses (by omega)]
theorem zx4_b (hl : 162 < h.length) : (zX4 h fa fb fc fd)[160]? = some (.inl (0, 9, .inl fb)) := by unfold zX4; rw [zsel (by decide), zsel (by decide), zses (by rw [List.length_set]; omega)]
theorem zx4_c (hl : 162 < h.length) : (zX4 h fa fb fc fd)[161]? = some (.inl (0, 9, .inl fc)) := by unfold zX4; rw [zsel (by decide), zses (by rw [List.length_set, List.length_set]; omega)]
theorem zx4_d (hl : 162 < h.length) : (zX4 h fa fb fc fd)[162]? = some (.inl (0, 9, .inl fd)) := by unfold zX4; rw [zses (by rw [List.length_set, List.length_set, List.length_set]; omega)]
theorem zx4_sd {f : Nat → Int32} : (zX4 h fa fb fc fd).set 162 (.inl (0, 9, .inl f)) = zX4 h fa fb fc f := by unfold zX4; rw [List.set_set]
theorem zx4_sc {f : Nat → Int32} : (zX4 h fa fb fc fd).set 161 (.inl (0, 9, .inl f)) = zX4 h fa fb f fd := by unfold zX4; rw [List.set_comm _ _ (show 162 ≠ 161 by decide), List.set_set]
theorem zx4_sb {f : Nat → Int32} : (zX4 h fa fb fc fd).set 160 (.inl (0, 9, .inl f)) = zX4 h fa f fc fd := by unfold zX4; rw [List.set_comm _ _ (show 162 ≠ 160 by decide), List.set_comm _ _ (show 161 ≠ 160 by decide), List.set_set]
theorem zx4_sa {f : Nat → Int32} : (zX4 h fa fb fc fd).set 159 (.inl (0, 9, .inl f)) = zX4 h f fb fc fd := by unfold zX4; rw [List.set_comm _ _ (show 162 ≠ 159 by decide), List.set_comm _ _ (show 161 ≠ 159 by decide), List.set_comm _ _ (show 160 ≠ 159 by decide), List.set_set]
theorem zu0 {f : Nat → Int32} {s : Nat} (hf : ∀ j, j < s → f j = 0) : ∀ j, j < s + 1 → upd f s 0 j = 0 := fun j hj => by
  unfold upd
  by_cases e : j = s
  · rw [if_pos e]
  · rw [if_neg e]; exact hf j (by omega)
theorem zu1 {f : Nat → Int32} {c : Int} {i : Nat} {δ : Int32} (hc : c ≤ 1000) (h0 : 0 ≤ δ.toInt) (h1 : δ.toInt ≤ 1) (hi : i < 9) (hf : ∀ j, j < 9 → 0 ≤ (f j).toInt ∧ (f j).toInt ≤ c) : ∀ j, j < 9 → 0 ≤ (upd f i (f i + δ) j).toInt ∧ (upd f i (f i + δ) j).toInt ≤ c + 1 := fun j hj => by
  unfold upd
  by_cases e : j = i
  · rw [if_pos e]
    have := hf i hi
    have e2 : (f i + δ).toInt = (f i).toInt + δ.toInt := by
      rw [Int32.toInt_add]
      exact Int.bmod_eq_of_le (by show (-2147483648 : Int) ≤ _; omega) (by show _ < (2147483648 : Int); omega)
    rw [e2]
    omega
  · rw [if_neg e]
    have := hf j hj
    omega

theorem zexp1 (hx : zXok h fs cr gK gC gS gP gT gB) (cont : ∀ (s : Int32) (fa fb fc fd : Nat → Int32), (∀ j, j < 9 → fa j = 0) → (∀ j, j < 9 → fb j = 0) → (∀ j, j < 9 → fc j = 0) → (∀ j, j < 9 → fd j = 0) → zR zTt G cd_247 0 0 (some .long) (zW zTt G d) K 79 (zLo k kn pt s none none none) [] (zX4 h fa fb fc fd) 0 0) : ∀ (n s : Nat) (fa fb fc fd : Nat → Int32), s + n = 9 → (∀ j, j < s → fa j = 0) → (∀ j, j < s → fb j = 0) → (∀ j, j < s → fc j = 0) → (∀ j, j < s → fd j = 0) → zR zTt G cd_247 0 0 (some .long) (zW zTt G d) K 34 (zLo k kn pt (Int32.ofNat s) none none none) [] (zX4 h fa fb fc fd) 0 0
  | 0, s, fa, fb, fc, fd, hs, ha, hb, hc, hd => by
    have e : s = 9 := by omega
    subst e
    refine r_iload (zW_mono _ _ _) rfl rfl ?_
    refine r_push (zW_mono _ _ _) rfl ?_
    refine r_icmp_ge (zW_mono _ _ _) rfl (fun _ => ?_) (fun q => absurd q (by decide))
    exact cont _ fa fb fc fd ha hb hc hd
  | n + 1, s, fa, fb, fc, fd, hs, ha, hb, hc, hd => by
    have hx' := hx
    obtain ⟨c2, f59, hcr, f16, f60, f62, f63, f65, f66, f67, f68, f69, f70, a121, a152, a154, a155, a157, a158, bC, bS, hl⟩ := hx'
    have e1 : (Int32.ofNat s).toNatClampNeg = s := zofN_cl (by omega)
    refine r_iload (zW_mono _ _ _) rfl rfl ?_
    refine r_push (zW_mono _ _ _) rfl ?_
    refine r_icmp_ge (zW_mono _ _ _) rfl (fun q => ?_) (fun _ => ?_)
    · have := Int32.le_iff_toInt_le.mp q
      rw [yofN (by omega), show (9 : Int32).toInt = 9 from rfl] at this
      omega
    · refine r_aload (zW_mono _ _ _) rfl rfl ?_
      refine r_get (zW_mono _ _ _) rfl ((zx4_ne (by decide) (by decide) (by decide) (by decide)).trans c2) f67 ?_
      refine r_iload (zW_mono _ _ _) rfl rfl ?_
      refine r_push (zW_mono _ _ _) rfl ?_
      refine r_iast (zW_mono _ _ _) rfl (zx4_a hl) (zvp (by omega) (by omega)) ?_
      rw [e1, zx4_sa]
      refine r_aload (zW_mono _ _ _) rfl rfl ?_
      refine r_get (zW_mono _ _ _) rfl ((zx4_ne (by decide) (by decide) (by decide) (by decide)).trans c2) f68 ?_
      refine r_iload (zW_mono _ _ _) rfl rfl ?_
      refine r_push (zW_mono _ _ _) rfl ?_
      refine r_iast (zW_mono _ _ _) rfl (zx4_b hl) (zvp (by omega) (by omega)) ?_
      rw [e1, zx4_sb]
      refine r_aload (zW_mono _ _ _) rfl rfl ?_
      refine r_get (zW_mono _ _ _) rfl ((zx4_ne (by decide) (by decide) (by decide) (by decide)).trans c2) f69 ?_
      refine r_iload (zW_mono _ _ _) rfl rfl ?_
      refine r_push (zW_mono _ _ _) rfl ?_
      refine r_iast (zW_mono _ _ _) rfl (zx4_c hl) (zvp (by omega) (by omega)) ?_
      rw [e1, zx4_sc]
      refine r_aload (zW_mono _ _ _) rfl rfl ?_
      refine r_get (zW_mono _ _ _) rfl ((zx4_ne (by decide) (by decide) (by decide) (by decide)).trans c2) f70 ?_
      refine r_iload (zW_mono _ _ _) rfl rfl ?_
      refine r_push (zW_mono _ _ _) rfl ?_
      refine r_iast (zW_mono _ _ _) rfl (zx4_d hl) (zvp (by omega) (by omega)) ?_
      rw [e1, zx4_sd]
      refine r_iinc (zW_mono _ _ _) rfl rfl (Nat.le_of_ble_eq_true rfl) ?_
      refine r_goto (zW_mono _ _ _) rfl ?_
      rw [zofN_add]
      exact zexp1 hx cont n (s + 1) _ _ _ _ (by omega) (zu0 ha) (zu0 hb) (zu0 hc) (zu0 hd)
theorem zxp_a {cI s its fire : Int32} (hx : zXok h fs cr gK gC gS gP gT gB) (hs : vp_in s 9) (h0 : 0 ≤ fire.toInt) (h1 : fire.toInt ≤ 1) (cont : ∀ δ : Int32, 0 ≤ δ.toInt → δ.toInt ≤ 1 → zR zTt G cd_247 0 0 (some .long) (zW zTt G d) K 207 (zLo k kn pt cI (some (.int s)) (some (.int its)) (some (.int fire))) [] (zX4 h (upd fa s.toNatClampNeg (fa s.toNatClampNeg + δ)) fb fc fd) 0 0) : zR zTt G cd_247 0 0 (some .long) (zW zTt G d) K 187 (zLo k kn pt cI (some (.int s)) (some (.int its)) (some (.int fire))) [] (zX4 h fa fb fc fd) 0 0 := by
  obtain ⟨c2, f59, hcr, f16, f60, f62, f63, f65, f66, f67, f68, f69, f70, a121, a152, a154, a155, a157, a158, bC, bS, hl⟩ := hx
  refine r_aload (zW_mono _ _ _) rfl rfl ?_
  refine r_get (zW_mono _ _ _) rfl ((zx4_ne (by decide) (by decide) (by decide) (by decide)).trans c2) f67 ?_
  refine r_iload (zW_mono _ _ _) rfl rfl ?_
  refine r_dup2 (zW_mono _ _ _) rfl rfl rfl ?_
  refine r_iald (zW_mono _ _ _) rfl (zx4_a hl) hs ?_
  refine r_iload (zW_mono _ _ _) rfl rfl ?_
  refine r_if_eq (zW_mono _ _ _) rfl (fun _ => ?_) (fun _ => ?_)
  · refine r_push (zW_mono _ _ _) rfl ?_
    refine r_iadd (zW_mono _ _ _) rfl ?_
    refine r_iast (zW_mono _ _ _) rfl (zx4_a hl) hs ?_
    rw [zx4_sa]
    exact cont _ (by decide) (by decide)
  · refine r_push (zW_mono _ _ _) rfl ?_
    refine r_goto (zW_mono _ _ _) rfl ?_
    refine r_iadd (zW_mono _ _ _) rfl ?_
    refine r_iast (zW_mono _ _ _) rfl (zx4_a hl) hs ?_
    rw [zx4_sa]
    exact cont _ (by decide) (by decide)
theorem zxp_b {cI s its fire : Int32} (hx : zXok h fs cr gK gC gS gP gT gB) (hs : vp_in s 9) (h0 : 0 ≤ fire.toInt) (h1 : fire.toInt ≤ 1) (cont : ∀ δ : Int32, 0 ≤ δ.toInt → δ.toInt ≤ 1 → zR zTt G cd_247 0 0 (some .long) (zW zTt G d) K 228 (zLo k kn pt cI (some (.int s)) (some (.int its)) (some (.int fire))) [] (zX4 h fa (upd fb s.toNatClampNeg (fb s.toNatClampNeg + δ)) fc fd) 0 0) : zR zTt G cd_247 0 0 (some .long) (zW zTt G d) K 207 (zLo k kn pt cI (some (.int s)) (some (.int its)) (some (.int fire))) [] (zX4 h fa fb fc fd) 0 0 := by
  obtain ⟨c2, f59, hcr, f16, f60, f62, f63, f65, f66, f67, f68, f69, f70, a121, a152, a154, a155, a157, a158, bC, bS, hl⟩ := hx
  refine r_aload (zW_mono _ _ _) rfl rfl ?_
  refine r_get (zW_mono _ _ _) rfl ((zx4_ne (by decide) (by decide) (by decide) (by decide)).trans c2) f68 ?_
  refine r_iload (zW_mono _ _ _) rfl rfl ?_
  refine r_dup2 (zW_mono _ _ _) rfl rfl rfl ?_
  refine r_iald (zW_mono _ _ _) rfl (zx4_b hl) hs ?_
  refine r_iload (zW_mono _ _ _) rfl rfl ?_
  refine r_if_eq (zW_mono _ _ _) rfl (fun _ => ?_) (fun _ => ?_)
  · refine r_push (zW_mono _ _ _) rfl ?_
    refine r_iadd (zW_mono _ _ _) rfl ?_
    refine r_iast (zW_mono _ _ _) rfl (zx4_b hl) hs ?_
    rw [zx4_sb]
    exact cont _ (by decide) (by decide)
  · refine r_iload (zW_mono _ _ _) rfl rfl ?_
    refine r_goto (zW_mono _ _ _) rfl ?_
    refine r_iadd (zW_mono _ _ _) rfl ?_
    refine r_iast (zW_mono _ _ _) rfl (zx4_b hl) hs ?_
    rw [zx4_sb]
    exact cont _ h0 h1
theorem zxp_c {cI s its fire : Int32} (hx : zXok h fs cr gK gC gS gP gT gB) (hs : vp_in s 9) (h0 : 0 ≤ fire.toInt) (h1 : fire.toInt ≤ 1) (cont : ∀ δ : Int32, 0 ≤ δ.toInt → δ.toInt ≤ 1 → zR zTt G cd_247 0 0 (some .long) (zW zTt G d) K 248 (zLo k kn pt cI (some (.int s)) (some (.int its)) (some (.int fire))) [] (zX4 h fa fb (upd fc s.toNatClampNeg (fc s.toNatClampNeg + δ)) fd) 0 0) : zR zTt G cd_247 0 0 (some .long) (zW zTt G d) K 228 (zLo k kn pt cI (some (.int s)) (some (.int its)) (some (.int fire))) [] (zX4 h fa fb fc fd) 0 0 := by
  obtain ⟨c2, f59, hcr, f16, f60, f62, f63, f65, f66, f67, f68, f69, f70, a121, a152, a154, a155, a157, a158, bC, bS, hl⟩ := hx
  refine r_aload (zW_mono _ _ _) rfl rfl ?_
  refine r_get (zW_mono _ _ _) rfl ((zx4_ne (by decide) (by decide) (by decide) (by decide)).trans c2) f69 ?_
  refine r_iload (zW_mono _ _ _) rfl rfl ?_
  refine r_dup2 (zW_mono _ _ _) rfl rfl rfl ?_
  refine r_iald (zW_mono _ _ _) rfl (zx4_c hl) hs ?_
  refine r_iload (zW_mono _ _ _) rfl rfl ?_
  refine r_if_eq (zW_mono _ _ _) rfl (fun _ => ?_) (fun _ => ?_)
  · refine r_push (zW_mono _ _ _) rfl ?_
    refine r_iadd (zW_mono _ _ _) rfl ?_
    refine r_iast (zW_mono _ _ _) rfl (zx4_c hl) hs ?_
    rw [zx4_sc]
    exact cont _ (by decide) (by decide)
  · refine r_push (zW_mono _ _ _) rfl ?_
    refine r_goto (zW_mono _ _ _) rfl ?_
    refine r_iadd (zW_mono _ _ _) rfl ?_
    refine r_iast (zW_mono _ _ _) rfl (zx4_c hl) hs ?_
    rw [zx4_sc]
    exact cont _ (by decide) (by decide)
theorem zxp_d {cI s its fire : Int32} (hx : zXok h fs cr gK gC gS gP gT gB) (hs : vp_in s 9) (h0 : 0 ≤ fire.toInt) (h1 : fire.toInt ≤ 1) (cont : ∀ δ : Int32, 0 ≤ δ.toInt → δ.toInt ≤ 1 → zR zTt G cd_247 0 0 (some .long) (zW zTt G d) K 269 (zLo k kn pt cI (some (.int s)) (some (.int its)) (some (.int fire))) [] (zX4 h fa fb fc (upd fd s.toNatClampNeg (fd s.toNatClampNeg + δ))) 0 0) : zR zTt G cd_247 0 0 (some .long) (zW zTt G d) K 248 (zLo k kn pt cI (some (.int s)) (some (.int its)) (some (.int fire))) [] (zX4 h fa fb fc fd) 0 0 := by
  obtain ⟨c2, f59, hcr, f16, f60, f62, f63, f65, f66, f67, f68, f69, f70, a121, a152, a154, a155, a157, a158, bC, bS, hl⟩ := hx
  refine r_aload (zW_mono _ _ _) rfl rfl ?_
  refine r_get (zW_mono _ _ _) rfl ((zx4_ne (by decide) (by decide) (by decide) (by decide)).trans c2) f70 ?_
  refine r_iload (zW_mono _ _ _) rfl rfl ?_
  refine r_dup2 (zW_mono _ _ _) rfl rfl rfl ?_
  refine r_iald (zW_mono _ _ _) rfl (zx4_d hl) hs ?_
  refine r_iload (zW_mono _ _ _) rfl rfl ?_
  refine r_if_eq (zW_mono _ _ _) rfl (fun _ => ?_) (fun _ => ?_)
  · refine r_iload (zW_mono _ _ _) rfl rfl ?_
    refine r_iadd (zW_mono _ _ _) rfl ?_
    refine r_iast (zW_mono _ _ _) rfl (zx4_d hl) hs ?_
    rw [zx4_sd]
    exact cont _ h0 h1
  · refine r_push (zW_mono _ _ _) rfl ?_
    refine r_goto (zW_mono _ _ _) rfl ?_
    refine r_iadd (zW_mono _ _ _) rfl ?_
    refine r_iast (zW_mono _ _ _) rfl (zx4_d hl) hs ?_
    rw [zx4_sd]
    exact cont _ (by decide) (by decide)
theorem zexp2 (hx : zXok h fs cr gK gC gS gP gT gB) {c : Nat} (hc : c < 200) (l5 l6 l7 : Option Value) (ia : (∀ j, j < 9 → 0 ≤ (fa j).toInt ∧ (fa j).toInt ≤ (c : Int))) (ib : (∀ j, j < 9 → 0 ≤ (fb j).toInt ∧ (fb j).toInt ≤ (c : Int))) (ic : (∀ j, j < 9 → 0 ≤ (fc j).toInt ∧ (fc j).toInt ≤ (c : Int))) (id : (∀ j, j < 9 → 0 ≤ (fd j).toInt ∧ (fd j).toInt ≤ (c : Int))) (cont : ∀ (l5 l6 l7 : Option Value) (fa fb fc fd : Nat → Int32), (∀ j, j < 9 → 0 ≤ (fa j).toInt ∧ (fa j).toInt ≤ (c : Int) + 1) → (∀ j, j < 9 → 0 ≤ (fb j).toInt ∧ (fb j).toInt ≤ (c : Int) + 1) → (∀ j, j < 9 → 0 ≤ (fc j).toInt ∧ (fc j).toInt ≤ (c : Int) + 1) → (∀ j, j < 9 → 0 ≤ (fd j).toInt ∧ (fd j).toInt ≤ (c : Int) + 1) → zR zTt G cd_247 0 0 (some .long) (zW zTt G d) K 82 (zLo k kn pt (Int32.ofNat (c + 1)) l5 l6 l7) [] (zX4 h fa fb fc fd) 0 0) : zR zTt G cd_247 0 0 (some .long) (zW zTt G d) K 91 (zLo k kn pt (Int32.ofNat c) l5 l6 l7) [] (zX4 h fa fb fc fd) 0 0 := by
  have hx' := hx
  obtain ⟨c2, f59, hcr, f16, f60, f62, f63, f65, f66, f67, f68, f69, f70, a121, a152, a154, a155, a157, a158, bC, bS, hl⟩ := hx'
  have e1 : (Int32.ofNat c).toNatClampNeg = c := zofN_cl (by omega)
  have hv : vp_in (Int32.ofNat c) 200 := zvp hc (by omega)
  have T : ∀ (l5 l6 l7 : Option Value) (fa fb fc fd : Nat → Int32), (∀ j, j < 9 → 0 ≤ (fa j).toInt ∧ (fa j).toInt ≤ (c : Int) + 1) → (∀ j, j < 9 → 0 ≤ (fb j).toInt ∧ (fb j).toInt ≤ (c : Int) + 1) → (∀ j, j < 9 → 0 ≤ (fc j).toInt ∧ (fc j).toInt ≤ (c : Int) + 1) → (∀ j, j < 9 → 0 ≤ (fd j).toInt ∧ (fd j).toInt ≤ (c : Int) + 1) → zR zTt G cd_247 0 0 (some .long) (zW zTt G d) K 269 (zLo k kn pt (Int32.ofNat c) l5 l6 l7) [] (zX4 h fa fb fc fd) 0 0 := by
    intro l5 l6 l7 fa fb fc fd i1 i2 i3 i4
    refine r_iinc (zW_mono _ _ _) rfl rfl (Nat.le_of_ble_eq_true rfl) ?_
    refine r_goto (zW_mono _ _ _) rfl ?_
    rw [zofN_add]
    exact cont _ _ _ _ _ _ _ i1 i2 i3 i4
  have J3 : ∀ (s its v : Int32) (l7 : Option Value), vp_in s 9 → s.toNatClampNeg < 9 → 0 ≤ v.toInt → v.toInt ≤ 1 → zR zTt G cd_247 0 0 (some .long) (zW zTt G d) K 185 (zLo k kn pt (Int32.ofNat c) (some (.int s)) (some (.int its)) l7) [.int v] (zX4 h fa fb fc fd) 0 0 := by
    intro s its v l7 hs hs9 v0 v1
    refine r_istore (zW_mono _ _ _) rfl (Nat.le_of_ble_eq_true rfl) ?_
    refine zxp_a hx hs v0 v1 (fun δa a0 a1 => ?_)
    refine zxp_b hx hs v0 v1 (fun δb b0 b1 => ?_)
    refine zxp_c hx hs v0 v1 (fun δc c0 c1 => ?_)
    refine zxp_d hx hs v0 v1 (fun δd d0 d1 => ?_)
    exact T _ _ _ _ _ _ _ (zu1 (by omega) a0 a1 hs9 ia) (zu1 (by omega) b0 b1 hs9 ib) (zu1 (by omega) c0 c1 hs9 ic) (zu1 (by omega) d0 d1 hs9 id)
  have J2 : ∀ (s v : Int32) (l6 l7 : Option Value), vp_in s 9 → s.toNatClampNeg < 9 → zR zTt G cd_247 0 0 (some .long) (zW zTt G d) K 168 (zLo k kn pt (Int32.ofNat c) (some (.int s)) l6 l7) [.int v] (zX4 h fa fb fc fd) 0 0 := by
    intro s v l6 l7 hs hs9
    refine r_istore (zW_mono _ _ _) rfl (Nat.le_of_ble_eq_true rfl) ?_
    refine r_aload (zW_mono _ _ _) rfl rfl ?_
    refine r_get (zW_mono _ _ _) rfl ((zx4_ne (by decide) (by decide) (by decide) (by decide)).trans c2) f66 ?_
    refine r_iload (zW_mono _ _ _) rfl rfl ?_
    refine r_zald (zW_mono _ _ _) rfl ((zx4_ne (by decide) (by decide) (by decide) (by decide)).trans a158) hv ?_
    refine r_if_eq (zW_mono _ _ _) rfl (fun _ => ?_) (fun _ => ?_)
    · refine r_push (zW_mono _ _ _) rfl ?_
      exact J3 s v 0 l7 hs hs9 (by decide) (by decide)
    · refine r_push (zW_mono _ _ _) rfl ?_
      refine r_goto (zW_mono _ _ _) rfl ?_
      exact J3 s v 1 l7 hs hs9 (by decide) (by decide)
  have J1 : ∀ (z : Int32) (l5 l6 l7 : Option Value), 0 ≤ z.toInt → z.toInt ≤ 2 → zR zTt G cd_247 0 0 (some .long) (zW zTt G d) K 144 (zLo k kn pt (Int32.ofNat c) l5 l6 l7) [.int z, .int (3 * gS (Int32.ofNat c).toNatClampNeg)] (zX4 h fa fb fc fd) 0 0 := by
    intro z l5 l6 l7 z0 z2
    have q1 := bS c hc
    rw [← e1] at q1
    have q2 : (3 * gS (Int32.ofNat c).toNatClampNeg).toInt = 3 * (gS (Int32.ofNat c).toNatClampNeg).toInt := by
      rw [Int32.toInt_mul, show (3 : Int32).toInt = 3 from rfl]
      exact Int.bmod_eq_of_le (by show (-2147483648 : Int) ≤ _; omega) (by show _ < (2147483648 : Int); omega)
    have q3 : (3 * gS (Int32.ofNat c).toNatClampNeg + z).toInt = 3 * (gS (Int32.ofNat c).toNatClampNeg).toInt + z.toInt := by
      rw [Int32.toInt_add, q2]
      exact Int.bmod_eq_of_le (by show (-2147483648 : Int) ≤ _; omega) (by show _ < (2147483648 : Int); omega)
    have q4 := yvp_in (i := 3 * gS (Int32.ofNat c).toNatClampNeg + z) (N := 9) (by omega) (by omega)
    have q5 := bC c hc
    rw [← e1] at q5
    have q6 := yvp_in (i := gC (Int32.ofNat c).toNatClampNeg) (N := 300) (by omega) (by omega)
    refine r_iadd (zW_mono _ _ _) rfl ?_
    refine r_istore (zW_mono _ _ _) rfl (Nat.le_of_ble_eq_true rfl) ?_
    refine r_aload (zW_mono _ _ _) rfl rfl ?_
    refine r_get (zW_mono _ _ _) rfl ((zx4_ne (by decide) (by decide) (by decide) (by decide)).trans c2) f16 ?_
    refine r_aload (zW_mono _ _ _) rfl rfl ?_
    refine r_get (zW_mono _ _ _) rfl ((zx4_ne (by decide) (by decide) (by decide) (by decide)).trans c2) f60 ?_
    refine r_iload (zW_mono _ _ _) rfl rfl ?_
    refine r_iald (zW_mono _ _ _) rfl ((zx4_ne (by decide) (by decide) (by decide) (by decide)).trans a152) hv ?_
    refine r_iald (zW_mono _ _ _) rfl ((zx4_ne (by decide) (by decide) (by decide) (by decide)).trans a121) q6.1 ?_
    refine r_iload (zW_mono _ _ _) rfl rfl ?_
    refine r_icmp_ne (zW_mono _ _ _) rfl (fun _ => ?_) (fun _ => ?_)
    · refine r_push (zW_mono _ _ _) rfl ?_
      exact J2 _ _ l6 l7 q4.1 q4.2
    · refine r_push (zW_mono _ _ _) rfl ?_
      refine r_goto (zW_mono _ _ _) rfl ?_
      exact J2 _ _ l6 l7 q4.1 q4.2
  refine r_aload (zW_mono _ _ _) rfl rfl ?_
  refine r_get (zW_mono _ _ _) rfl ((zx4_ne (by decide) (by decide) (by decide) (by decide)).trans c2) f65 ?_
  refine r_iload (zW_mono _ _ _) rfl rfl ?_
  refine r_iald (zW_mono _ _ _) rfl ((zx4_ne (by decide) (by decide) (by decide) (by decide)).trans a157) hv ?_
  refine r_iload (zW_mono _ _ _) rfl rfl ?_
  refine r_icmp_gt (zW_mono _ _ _) rfl (fun _ => ?_) (fun _ => ?_)
  · exact T l5 l6 l7 fa fb fc fd (fun j hj => ⟨(ia j hj).1, by have := (ia j hj).2; omega⟩) (fun j hj => ⟨(ib j hj).1, by have := (ib j hj).2; omega⟩) (fun j hj => ⟨(ic j hj).1, by have := (ic j hj).2; omega⟩) (fun j hj => ⟨(id j hj).1, by have := (id j hj).2; omega⟩)
  · refine r_push (zW_mono _ _ _) rfl ?_
    refine r_aload (zW_mono _ _ _) rfl rfl ?_
    refine r_get (zW_mono _ _ _) rfl ((zx4_ne (by decide) (by decide) (by decide) (by decide)).trans c2) f62 ?_
    refine r_iload (zW_mono _ _ _) rfl rfl ?_
    refine r_iald (zW_mono _ _ _) rfl ((zx4_ne (by decide) (by decide) (by decide) (by decide)).trans a154) hv ?_
    refine r_imul (zW_mono _ _ _) rfl ?_
    refine r_aload (zW_mono _ _ _) rfl rfl ?_
    refine r_get (zW_mono _ _ _) rfl ((zx4_ne (by decide) (by decide) (by decide) (by decide)).trans c2) f63 ?_
    refine r_iload (zW_mono _ _ _) rfl rfl ?_
    refine r_iald (zW_mono _ _ _) rfl ((zx4_ne (by decide) (by decide) (by decide) (by decide)).trans a155) hv ?_
    refine r_push (zW_mono _ _ _) rfl ?_
    refine r_icmp_ge (zW_mono _ _ _) rfl (fun _ => ?_) (fun _ => ?_)
    · refine r_aload (zW_mono _ _ _) rfl rfl ?_
      refine r_get (zW_mono _ _ _) rfl ((zx4_ne (by decide) (by decide) (by decide) (by decide)).trans c2) f63 ?_
      refine r_iload (zW_mono _ _ _) rfl rfl ?_
      refine r_iald (zW_mono _ _ _) rfl ((zx4_ne (by decide) (by decide) (by decide) (by decide)).trans a155) hv ?_
      refine r_push (zW_mono _ _ _) rfl ?_
      refine r_icmp_ge (zW_mono _ _ _) rfl (fun _ => ?_) (fun _ => ?_)
      · refine r_push (zW_mono _ _ _) rfl ?_
        exact J1 2 l5 l6 l7 (by decide) (by decide)
      · refine r_push (zW_mono _ _ _) rfl ?_
        refine r_goto (zW_mono _ _ _) rfl ?_
        exact J1 1 l5 l6 l7 (by decide) (by decide)
    · refine r_push (zW_mono _ _ _) rfl ?_
      refine r_goto (zW_mono _ _ _) rfl ?_
      exact J1 0 l5 l6 l7 (by decide) (by decide)
theorem zexp2l (hx : zXok h fs cr gK gC gS gP gT gB) (cont : ∀ (c : Int32) (l5 l6 l7 : Option Value) (fa fb fc fd : Nat → Int32), (∀ j, j < 9 → 0 ≤ (fa j).toInt ∧ (fa j).toInt ≤ 200) → (∀ j, j < 9 → 0 ≤ (fb j).toInt ∧ (fb j).toInt ≤ 200) → (∀ j, j < 9 → 0 ≤ (fc j).toInt ∧ (fc j).toInt ≤ 200) → (∀ j, j < 9 → 0 ≤ (fd j).toInt ∧ (fd j).toInt ≤ 200) → zR zTt G cd_247 0 0 (some .long) (zW zTt G d) K 275 (zLo k kn pt c l5 l6 l7) [] (zX4 h fa fb fc fd) 0 0) : ∀ (n c : Nat) (l5 l6 l7 : Option Value) (fa fb fc fd : Nat → Int32), (c : Int) + n = cr.toInt → (∀ j, j < 9 → 0 ≤ (fa j).toInt ∧ (fa j).toInt ≤ (c : Int)) → (∀ j, j < 9 → 0 ≤ (fb j).toInt ∧ (fb j).toInt ≤ (c : Int)) → (∀ j, j < 9 → 0 ≤ (fc j).toInt ∧ (fc j).toInt ≤ (c : Int)) → (∀ j, j < 9 → 0 ≤ (fd j).toInt ∧ (fd j).toInt ≤ (c : Int)) → zR zTt G cd_247 0 0 (some .long) (zW zTt G d) K 82 (zLo k kn pt (Int32.ofNat c) l5 l6 l7) [] (zX4 h fa fb fc fd) 0 0
  | 0, c, l5, l6, l7, fa, fb, fc, fd, hs, ia, ib, ic, id => by
    have hx' := hx
    obtain ⟨c2, f59, hcr, f16, f60, f62, f63, f65, f66, f67, f68, f69, f70, a121, a152, a154, a155, a157, a158, bC, bS, hl⟩ := hx'
    refine r_iload (zW_mono _ _ _) rfl rfl ?_
    refine r_aload (zW_mono _ _ _) rfl rfl ?_
    refine r_get (zW_mono _ _ _) rfl ((zx4_ne (by decide) (by decide) (by decide) (by decide)).trans c2) f59 ?_
    refine r_icmp_ge (zW_mono _ _ _) rfl (fun q => ?_) (fun q => ?_)
    · exact cont _ l5 l6 l7 fa fb fc fd (fun j hj => ⟨(ia j hj).1, by have := (ia j hj).2; omega⟩) (fun j hj => ⟨(ib j hj).1, by have := (ib j hj).2; omega⟩) (fun j hj => ⟨(ic j hj).1, by have := (ic j hj).2; omega⟩) (fun j hj => ⟨(id j hj).1, by have := (id j hj).2; omega⟩)
    · have := Int32.lt_iff_toInt_lt.mp q
      rw [yofN (by omega)] at this
      omega
  | n + 1, c, l5, l6, l7, fa, fb, fc, fd, hs, ia, ib, ic, id => by
    have hx' := hx
    obtain ⟨c2, f59, hcr, f16, f60, f62, f63, f65, f66, f67, f68, f69, f70, a121, a152, a154, a155, a157, a158, bC, bS, hl⟩ := hx'
    refine r_iload (zW_mono _ _ _) rfl rfl ?_
    refine r_aload (zW_mono _ _ _) rfl rfl ?_
    refine r_get (zW_mono _ _ _) rfl ((zx4_ne (by decide) (by decide) (by decide) (by decide)).trans c2) f59 ?_
    refine r_icmp_ge (zW_mono _ _ _) rfl (fun q => ?_) (fun q => ?_)
    · have := Int32.le_iff_toInt_le.mp q
      rw [yofN (by omega)] at this
      omega
    · exact zexp2 hx (by omega) l5 l6 l7 ia ib ic id (fun l5 l6 l7 fa fb fc fd i1 i2 i3 i4 => zexp2l hx cont n (c + 1) l5 l6 l7 fa fb fc fd (by omega) i1 i2 i3 i4)
end EXPD
end
section
/-! 'expected': its third loop and its contract -/
noncomputable abbrev zLp (k kn pt s : Int32) (ab be se al : Int64) (l13 : Option Value) : zL := [some (.ref 111), some (.int k), some (.int kn), some (.int pt), some (.long ab), none, some (.long be), none, some (.long se), none, some (.long al), none, some (.int s), l13, none]
section EXPE
variable {G : zG} {tx : yTx} {τ : List Nat} {h : zH} {fa fb fc fd : Nat → Int32} {fs : List Value} {cr : Int32} {gK gC gS gP gT gB : Nat → Int32} {d : Nat} {K : zQ} {k kn pt : Int32}
theorem zexp3e (hK : ∀ x : Int64, K (some (.long x)) (zX4 h fa fb fc fd)) (s : Int32) (ab be se al : Int64) (l13 : Option Value) : zR zTt G cd_247 0 0 (some .long) (zW zTt G (d + 1)) K 409 (zLp k kn pt s ab be se al l13) [] (zX4 h fa fb fc fd) 0 0 := by
  refine r_iload (zW_mono _ _ _) rfl rfl ?_
  refine r_if_ne (zW_mono _ _ _) rfl (fun _ => ?_) (fun _ => ?_)
  · refine r_iload (zW_mono _ _ _) rfl rfl ?_
    refine r_push (zW_mono _ _ _) rfl ?_
    refine r_icmp_ne (zW_mono _ _ _) rfl (fun _ => ?_) (fun _ => ?_)
    · refine r_iload (zW_mono _ _ _) rfl rfl ?_
      refine r_push (zW_mono _ _ _) rfl ?_
      refine r_icmp_ne (zW_mono _ _ _) rfl (fun _ => ?_) (fun _ => ?_)
      · refine r_lload (zW_mono _ _ _) rfl rfl ?_
        exact r_lret (zW_mono _ _ _) rfl rfl (hK _)
      · refine r_lload (zW_mono _ _ _) rfl rfl ?_
        refine r_goto (zW_mono _ _ _) rfl ?_
        exact r_lret (zW_mono _ _ _) rfl rfl (hK _)
    · refine r_lload (zW_mono _ _ _) rfl rfl ?_
      refine r_goto (zW_mono _ _ _) rfl ?_
      exact r_lret (zW_mono _ _ _) rfl rfl (hK _)
  · refine r_lload (zW_mono _ _ _) rfl rfl ?_
    refine r_goto (zW_mono _ _ _) rfl ?_
    exact r_lret (zW_mono _ _ _) rfl rfl (hK _)
theorem zexp3 (hG : G.1 = zProg) (hx : zXok h fs cr gK gC gS gP gT gB) (ic : ∀ j, j < 9 → 0 ≤ (fc j).toInt ∧ (fc j).toInt ≤ 200) (hK : ∀ x : Int64, K (some (.long x)) (zX4 h fa fb fc fd)) : ∀ (n s : Nat) (ab be se al : Int64) (l13 : Option Value), s + n = 9 → ¬ ((2 ^ (7 * s + 1) : Nat) : Int) ∣ be.toInt → zR zTt G cd_247 0 0 (some .long) (zW zTt G (d + 1)) K 290 (zLp k kn pt (Int32.ofNat s) ab be se al l13) [] (zX4 h fa fb fc fd) 0 0
  | 0, s, ab, be, se, al, l13, hs, hb => by
    refine r_iload (zW_mono _ _ _) rfl rfl ?_
    refine r_push (zW_mono _ _ _) rfl ?_
    refine r_icmp_ge (zW_mono _ _ _) rfl (fun q => ?_) (fun q => ?_)
    · exact zexp3e hK _ ab be se al l13
    · have := Int32.lt_iff_toInt_lt.mp q
      rw [yofN (by omega), show (9 : Int32).toInt = 9 from rfl] at this
      omega
  | n + 1, s, ab, be, se, al, l13, hs, hb => by
    refine r_iload (zW_mono _ _ _) rfl rfl ?_
    refine r_push (zW_mono _ _ _) rfl ?_
    refine r_icmp_ge (zW_mono _ _ _) rfl (fun q => ?_) (fun q => ?_)
    · have := Int32.le_iff_toInt_le.mp q
      rw [yofN (by omega), show (9 : Int32).toInt = 9 from rfl] at this
      omega
    · have hx' := hx
      obtain ⟨c2, f59, hcr, f16, f60, f62, f63, f65, f66, f67, f68, f69, f70, a121, a152, a154, a155, a157, a158, bC, bS, hl⟩ := hx'
      have hv : vp_in (Int32.ofNat s) 9 := zvp (by omega) (by omega)
      have e1 : (Int32.ofNat s).toNatClampNeg = s := zofN_cl (by omega)
      have T : ∀ (ab be se al : Int64) (l13 : Option Value), ¬ ((2 ^ (7 * (s + 1) + 1) : Nat) : Int) ∣ be.toInt → zR zTt G cd_247 0 0 (some .long) (zW zTt G (d + 1)) K 403 (zLp k kn pt (Int32.ofNat s) ab be se al l13) [] (zX4 h fa fb fc fd) 0 0 := by
        intro ab be se al l13 hb
        refine r_iinc (zW_mono _ _ _) rfl rfl (Nat.le_of_ble_eq_true rfl) ?_
        refine r_goto (zW_mono _ _ _) rfl ?_
        rw [zofN_add]
        exact zexp3 hG hx ic hK n (s + 1) ab be se al l13 (by omega) hb
      refine r_aload (zW_mono _ _ _) rfl rfl ?_
      refine r_get (zW_mono _ _ _) rfl ((zx4_ne (by decide) (by decide) (by decide) (by decide)).trans c2) f69 ?_
      refine r_iload (zW_mono _ _ _) rfl rfl ?_
      refine r_iald (zW_mono _ _ _) rfl (zx4_c hl) hv ?_
      refine r_if_le (zW_mono _ _ _) rfl (fun _ => ?_) (fun hp => ?_)
      · refine T ab be se al l13 (fun q => hb (Int.dvd_trans (Int.natCast_dvd_natCast.mpr (Nat.pow_dvd_pow 2 (by omega))) q))
      · have o1 := ic s (by omega)
        have o0 := Int32.lt_iff_toInt_lt.mp hp
        rw [← e1] at o1
        rw [show (0 : Int32).toInt = 0 from rfl] at o0
        refine r_lload (zW_mono _ _ _) rfl rfl ?_
        refine r_aload (zW_mono _ _ _) rfl rfl ?_
        refine r_get (zW_mono _ _ _) rfl ((zx4_ne (by decide) (by decide) (by decide) (by decide)).trans c2) f68 ?_
        refine r_iload (zW_mono _ _ _) rfl rfl ?_
        refine r_iald (zW_mono _ _ _) rfl (zx4_b hl) hv ?_
        refine r_i2l (zW_mono _ _ _) rfl ?_
        refine r_ladd (zW_mono _ _ _) rfl ?_
        refine r_lstore (zW_mono _ _ _) rfl (Nat.le_of_ble_eq_true rfl) ?_
        refine r_lload (zW_mono _ _ _) rfl rfl ?_
        refine r_aload (zW_mono _ _ _) rfl rfl ?_
        refine r_get (zW_mono _ _ _) rfl ((zx4_ne (by decide) (by decide) (by decide) (by decide)).trans c2) f67 ?_
        refine r_iload (zW_mono _ _ _) rfl rfl ?_
        refine r_iald (zW_mono _ _ _) rfl (zx4_a hl) hv ?_
        refine r_i2l (zW_mono _ _ _) rfl ?_
        refine r_ladd (zW_mono _ _ _) rfl ?_
        refine r_lstore (zW_mono _ _ _) rfl (Nat.le_of_ble_eq_true rfl) ?_
        refine r_lload (zW_mono _ _ _) rfl rfl ?_
        refine r_aload (zW_mono _ _ _) rfl rfl ?_
        refine r_get (zW_mono _ _ _) rfl ((zx4_ne (by decide) (by decide) (by decide) (by decide)).trans c2) f69 ?_
        refine r_iload (zW_mono _ _ _) rfl rfl ?_
        refine r_iald (zW_mono _ _ _) rfl (zx4_c hl) hv ?_
        refine r_i2l (zW_mono _ _ _) rfl ?_
        refine r_lmul (zW_mono _ _ _) rfl ?_
        refine r_lload (zW_mono _ _ _) rfl rfl ?_
        refine r_aload (zW_mono _ _ _) rfl rfl ?_
        refine r_get (zW_mono _ _ _) rfl ((zx4_ne (by decide) (by decide) (by decide) (by decide)).trans c2) f67 ?_
        refine r_iload (zW_mono _ _ _) rfl rfl ?_
        refine r_iald (zW_mono _ _ _) rfl (zx4_a hl) hv ?_
        refine r_i2l (zW_mono _ _ _) rfl ?_
        refine r_lmul (zW_mono _ _ _) rfl ?_
        refine r_aload (zW_mono _ _ _) rfl rfl ?_
        refine r_get (zW_mono _ _ _) rfl ((zx4_ne (by decide) (by decide) (by decide) (by decide)).trans c2) f70 ?_
        refine r_iload (zW_mono _ _ _) rfl rfl ?_
        refine r_iald (zW_mono _ _ _) rfl (zx4_d hl) hv ?_
        refine r_i2l (zW_mono _ _ _) rfl ?_
        refine r_lmul (zW_mono _ _ _) rfl ?_
        refine r_ladd (zW_mono _ _ _) rfl ?_
        refine r_lstore (zW_mono _ _ _) rfl (Nat.le_of_ble_eq_true rfl) ?_
        refine r_lload (zW_mono _ _ _) rfl rfl ?_
        refine r_aload (zW_mono _ _ _) rfl rfl ?_
        refine r_get (zW_mono _ _ _) rfl ((zx4_ne (by decide) (by decide) (by decide) (by decide)).trans c2) f69 ?_
        refine r_iload (zW_mono _ _ _) rfl rfl ?_
        refine r_iald (zW_mono _ _ _) rfl (zx4_c hl) hv ?_
        refine r_i2l (zW_mono _ _ _) rfl ?_
        refine r_lmul (zW_mono _ _ _) rfl ?_
        refine r_lstore (zW_mono _ _ _) rfl (Nat.le_of_ble_eq_true rfl) ?_
        refine r_lload (zW_mono _ _ _) rfl rfl ?_
        refine r_lload (zW_mono _ _ _) rfl rfl ?_
        have hb2 := zbel (o := fc (Int32.ofNat s).toNatClampNeg) (by omega) o0 (by omega) hb
        refine r_stat2 (m1 := 0) (m2 := 0) (zW_mono _ _ _) rfl (Nat.le_of_ble_eq_true rfl) (by unfold zbud; rw [hG]; rfl) (Nat.le_of_ble_eq_true rfl) (Nat.le_of_ble_eq_true rfl) ?_
        refine zcommon hG (zbnz hb2) (fun g g0 gd => ?_)
        refine r_lstore (zW_mono _ _ _) rfl (Nat.le_of_ble_eq_true rfl) ?_
        refine r_lload (zW_mono _ _ _) rfl rfl ?_
        refine r_lload (zW_mono _ _ _) rfl rfl ?_
        refine r_ldiv (zW_mono _ _ _) rfl g0 ?_
        refine r_lstore (zW_mono _ _ _) rfl (Nat.le_of_ble_eq_true rfl) ?_
        refine r_lload (zW_mono _ _ _) rfl rfl ?_
        refine r_lload (zW_mono _ _ _) rfl rfl ?_
        refine r_ldiv (zW_mono _ _ _) rfl g0 ?_
        refine r_lstore (zW_mono _ _ _) rfl (Nat.le_of_ble_eq_true rfl) ?_
        refine T _ _ _ _ _ ?_
        exact zbdiv (k := 7 * (s + 1) + 1) (by omega) gd (by rw [show 7 * (s + 1) + 1 = 7 * s + 1 + 7 by omega]; exact hb2)
theorem zin3 (hG : G.1 = zProg) {x lo hi : Int64} (k0 : K (some (.int 0)) h) (k1 : K (some (.int 1)) h) : zW zTt G (d + 1) 171 [.long x, .long lo, .long hi] h K := by
  refine zW_in (by rw [hG]; rfl) (Nat.le_of_ble_eq_true rfl) ?_
  refine r_lload (zW_mono _ _ _) rfl rfl ?_
  refine r_lload (zW_mono _ _ _) rfl rfl ?_
  refine r_lcmp (zW_mono _ _ _) rfl ?_
  refine r_if_lt (zW_mono _ _ _) rfl (fun _ => ?_) (fun _ => ?_)
  · refine r_push (zW_mono _ _ _) rfl ?_
    exact r_iret (zW_mono _ _ _) rfl rfl rfl k0
  · refine r_lload (zW_mono _ _ _) rfl rfl ?_
    refine r_lload (zW_mono _ _ _) rfl rfl ?_
    refine r_lcmp (zW_mono _ _ _) rfl ?_
    refine r_if_gt (zW_mono _ _ _) rfl (fun _ => ?_) (fun _ => ?_)
    · refine r_push (zW_mono _ _ _) rfl ?_
      exact r_iret (zW_mono _ _ _) rfl rfl rfl k0
    · refine r_push (zW_mono _ _ _) rfl ?_
      refine r_goto (zW_mono _ _ _) rfl ?_
      exact r_iret (zW_mono _ _ _) rfl rfl rfl k1
theorem zin2 (hG : G.1 = zProg) {x : Int32} (k0 : K (some (.int 0)) h) (k1 : K (some (.int 1)) h) : zW zTt G (d + 2) 172 [.int x] h K := by
  refine zW_in (by rw [hG]; rfl) (Nat.le_of_ble_eq_true rfl) ?_
  refine r_iload (zW_mono _ _ _) rfl rfl ?_
  refine r_i2l (zW_mono _ _ _) rfl ?_
  refine r_push (zW_mono _ _ _) rfl ?_
  refine r_push (zW_mono _ _ _) rfl ?_
  refine r_stat3 (m1 := 0) (m2 := 0) (zW_mono _ _ _) rfl (Nat.le_of_ble_eq_true rfl) (by unfold zbud; rw [hG]; rfl) (Nat.le_of_ble_eq_true rfl) (Nat.le_of_ble_eq_true rfl) ?_
  exact zin3 hG (r_iret (zW_mono _ _ _) rfl rfl rfl k0) (r_iret (zW_mono _ _ _) rfl rfl rfl k1)
theorem zin1 (hG : G.1 = zProg) {x y : Int32} (c2 : h[111]? = some (.inr (12, fs))) (f3 : fs[3]? = some (.int y)) (k0 : K (some (.int 0)) h) (k1 : K (some (.int 1)) h) : zW zTt G (d + 2) 176 [.ref 111, .int x] h K := by
  refine zW_in (by rw [hG]; rfl) (Nat.le_of_ble_eq_true rfl) ?_
  refine r_iload (zW_mono _ _ _) rfl rfl ?_
  refine r_i2l (zW_mono _ _ _) rfl ?_
  refine r_push (zW_mono _ _ _) rfl ?_
  refine r_aload (zW_mono _ _ _) rfl rfl ?_
  refine r_get (zW_mono _ _ _) rfl c2 f3 ?_
  refine r_push (zW_mono _ _ _) rfl ?_
  refine r_isub (zW_mono _ _ _) rfl ?_
  refine r_i2l (zW_mono _ _ _) rfl ?_
  refine r_stat3 (m1 := 0) (m2 := 0) (zW_mono _ _ _) rfl (Nat.le_of_ble_eq_true rfl) (by unfold zbud; rw [hG]; rfl) (Nat.le_of_ble_eq_true rfl) (Nat.le_of_ble_eq_true rfl) ?_
  exact zin3 hG (r_iret (zW_mono _ _ _) rfl rfl rfl k0) (r_iret (zW_mono _ _ _) rfl rfl rfl k1)
theorem zfref {τ : List Nat} {fs : List Value} {i q tg : Nat} (h : ∃ w, fs[i]? = some w ∧ yvo τ (2, .ofNat q, .ofNat q, tg) w) : fs[i]? = some (.ref q) := by
  obtain ⟨w, f, z, rfl, z1, z2, -⟩ := h
  have z1' : (q : Int) ≤ z := z1
  have z2' : z ≤ (q : Int) := z2
  have e : z = (q : Int) := by omega
  subst e
  rw [f]
  unfold zrn
  rw [if_neg (by omega)]
  rfl
theorem zfarr {TT : List yC} {p t kd N : Nat} {lo hi : Int} (hH : yHo TT τ h) (hp : τ[p]? = some t) (ht : TT[t]? = some (.inr (kd, N, N, (0, lo, hi, 0)))) : ∃ f : Nat → Int32, h[p]? = some (.inl (kd, N, .inl f)) ∧ ∀ i, i < N → lo ≤ (f i).toInt ∧ (f i).toInt ≤ hi := by
  obtain ⟨ct, c, i1, i2, i3⟩ := hH.2 p t hp
  rw [ht] at i1
  cases i1
  obtain ⟨N9, y9, rfl, n1, n2, f, rfl, g⟩ := i3
  have e : N9 = N := by omega
  subst e
  exact ⟨f, i2, g⟩
theorem zx4_self (ha : h[159]? = some (.inl (0, 9, .inl fa))) (hb : h[160]? = some (.inl (0, 9, .inl fb))) (hc : h[161]? = some (.inl (0, 9, .inl fc))) (hd : h[162]? = some (.inl (0, 9, .inl fd))) (hl : 162 < h.length) : zX4 h fa fb fc fd = h := by
  apply List.ext_getElem?
  intro p
  by_cases e1 : p = 159
  · subst e1; rw [zx4_a hl, ha]
  · by_cases e2 : p = 160
    · subst e2; rw [zx4_b hl, hb]
    · by_cases e3 : p = 161
      · subst e3; rw [zx4_c hl, hc]
      · by_cases e4 : p = 162
        · subst e4; rw [zx4_d hl, hd]
        · exact zx4_ne e1 e2 e3 e4
/-- behind expected -/
theorem zexp_post {ρ : yR} {h2 : zH} {x : Int64} (hh : yHp zTG zTTy zKI (ywf kt_247_0.2.1) τ h τ h2) : yPo tx zTG zTTy zKI (ywf kt_247_0.2.1) kt_247_0.1.1.length kt_247_0.2.2.2 ρ τ h (some (.long x)) h2 := by
  refine ⟨_, List.mem_cons_self, fun i => if i = 3 then x.toInt else ρ i, τ, fun i hi => if_neg (Nat.ne_of_lt hi), hh, ⟨?_, (fun _ z => by cases z), (fun _ z => by cases z), (fun _ z => by cases z)⟩, ⟨ysp_var (i := 3) (by decide), x, rfl, ?_⟩, trivial⟩
  · intro e he
    rcases List.mem_singleton.mp he with rfl
    exact ⟨by decide, (show (-9223372036854775808 : Int) ≤ x.toInt from Int64.le_toInt x), (show x.toInt ≤ (9223372036854775807 : Int) by have := Int64.toInt_lt x; omega), Or.inl rfl⟩
  · show x.toInt = yev _ (yvar 3)
    rw [yev_var]
    exact (if_pos rfl).symm
set_option maxHeartbeats 1000000 in
theorem zexp_ok (hG : G.1 = zProg) (n : Nat) : yVl zTt G tx zTG zTTy zKI 247 kt_247_0 n := by
  intro ρ τ h as d hp hlt hd
  obtain ⟨hW, hH, hTG, hIh, hA⟩ := hp
  have hlev : yev ρ kt_247_0.2.2.1 = 5 := yev_con ρ 5
  rw [hlev] at hd
  obtain ⟨d1, rfl⟩ : ∃ d1, d = d1 + 3 := ⟨d - 3, by omega⟩
  obtain ⟨x0, as1, rfl, a0, hA1⟩ := yargs1 hA (by decide)
  obtain ⟨x1, as2, rfl, ⟨-, k, rfl, -⟩, hA2⟩ := yargs1 hA1 (by decide)
  obtain ⟨x2, as3, rfl, ⟨-, kn, rfl, -⟩, hA3⟩ := yargs1 hA2 (by decide)
  obtain ⟨x3, as4, rfl, ⟨-, pt, rfl, -⟩, hA4⟩ := yargs1 hA3 (by decide)
  have hnil := yargs0 hA4
  subst hnil
  have ea0 : x0 = .ref 111 := a0.2
  subst ea0
  obtain ⟨ct, c, c1, c2, c3⟩ := hH.2 111 79 (hTG 111 79 rfl)
  cases c1
  obtain ⟨fs, rfl, fl, ff⟩ := c3
  obtain ⟨w3, f3, y3, rfl, -, -⟩ := ff 3 _ rfl
  obtain ⟨w59, f59, cr, rfl, cr1, cr2⟩ := ff 59 _ rfl
  have cr1 : (0 : Int) ≤ cr.toInt := cr1
  have cr2 : cr.toInt ≤ (200 : Int) := cr2
  have f16 := zfref (ff 16 _ rfl)
  have f60 := zfref (ff 60 _ rfl)
  have f62 := zfref (ff 62 _ rfl)
  have f63 := zfref (ff 63 _ rfl)
  have f65 := zfref (ff 65 _ rfl)
  have f66 := zfref (ff 66 _ rfl)
  have f67 := zfref (ff 67 _ rfl)
  have f68 := zfref (ff 68 _ rfl)
  have f69 := zfref (ff 69 _ rfl)
  have f70 := zfref (ff 70 _ rfl)
  obtain ⟨gK, a121, -⟩ := zfarr hH (hTG 121 89 rfl) rfl
  obtain ⟨gC, a152, bC⟩ := zfarr hH (hTG 152 120 rfl) rfl
  obtain ⟨gS, a154, bS⟩ := zfarr hH (hTG 154 122 rfl) rfl
  obtain ⟨gP, a155, -⟩ := zfarr hH (hTG 155 123 rfl) rfl
  obtain ⟨gT, a157, -⟩ := zfarr hH (hTG 157 125 rfl) rfl
  obtain ⟨gB, a158, -⟩ := zfarr hH (hTG 158 126 rfl) rfl
  obtain ⟨fA, a159, -⟩ := zfarr hH (hTG 159 127 rfl) rfl
  obtain ⟨fB, a160, -⟩ := zfarr hH (hTG 160 128 rfl) rfl
  obtain ⟨fC, a161, -⟩ := zfarr hH (hTG 161 129 rfl) rfl
  obtain ⟨fD, a162, -⟩ := zfarr hH (hTG 162 130 rfl) rfl
  have hl : 162 < h.length := by
    rcases Nat.lt_or_ge 162 h.length with z | z
    · exact z
    · rw [List.getElem?_eq_none z] at a162; cases a162
  have hx : zXok h fs cr gK gC gS gP gT gB := ⟨c2, f59, ⟨cr1, cr2⟩, f16, f60, f62, f63, f65, f66, f67, f68, f69, f70, a121, a152, a154, a155, a157, a158, bC, bS, hl⟩
  -- behind
  have hEnd : ∀ fa fb fc fd : Nat → Int32, (∀ j, j < 9 → 0 ≤ (fa j).toInt ∧ (fa j).toInt ≤ 200) → (∀ j, j < 9 → 0 ≤ (fb j).toInt ∧ (fb j).toInt ≤ 200) → (∀ j, j < 9 → 0 ≤ (fc j).toInt ∧ (fc j).toInt ≤ 200) → (∀ j, j < 9 → 0 ≤ (fd j).toInt ∧ (fd j).toInt ≤ 200) → yHp zTG zTTy zKI (ywf kt_247_0.2.1) τ h τ (zX4 h fa fb fc fd) := by
    intro fa fb fc fd ia ib ic id
    have hFrm : yFr (ywf kt_247_0.2.1) τ h (zX4 h fa fb fc fd) := by
      intro p t9 c9 hp hc
      by_cases e : p = 159
      · subst e
        rw [hTG 159 127 rfl] at hp
        cases hp
        rw [a159] at hc
        cases hc
        exact ⟨_, zx4_a hl, rfl, rfl, fun q => by cases q⟩
      · by_cases e2 : p = 160
        · subst e2
          rw [hTG 160 128 rfl] at hp
          cases hp
          rw [a160] at hc
          cases hc
          exact ⟨_, zx4_b hl, rfl, rfl, fun q => by cases q⟩
        · by_cases e3 : p = 161
          · subst e3
            rw [hTG 161 129 rfl] at hp
            cases hp
            rw [a161] at hc
            cases hc
            exact ⟨_, zx4_c hl, rfl, rfl, fun q => by cases q⟩
          · by_cases e4 : p = 162
            · subst e4
              rw [hTG 162 130 rfl] at hp
              cases hp
              rw [a162] at hc
              cases hc
              exact ⟨_, zx4_d hl, rfl, rfl, fun q => by cases q⟩
            · exact ⟨c9, (zx4_ne e e2 e3 e4).trans hc, yCf.rf _ _⟩
    refine ⟨⟨?_, ?_⟩, hTG, ?_, yPre.rf _, hFrm⟩
    · rw [zx4_len]; exact hH.1
    · intro p t9 hp
      by_cases e : p = 159
      · subst e
        rw [hTG 159 127 rfl] at hp
        cases hp
        exact ⟨_, _, rfl, zx4_a hl, 9, _, rfl, Nat.le_refl _, Nat.le_refl _, fa, rfl, ia⟩
      · by_cases e2 : p = 160
        · subst e2
          rw [hTG 160 128 rfl] at hp
          cases hp
          exact ⟨_, _, rfl, zx4_b hl, 9, _, rfl, Nat.le_refl _, Nat.le_refl _, fb, rfl, ib⟩
        · by_cases e3 : p = 161
          · subst e3
            rw [hTG 161 129 rfl] at hp
            cases hp
            exact ⟨_, _, rfl, zx4_c hl, 9, _, rfl, Nat.le_refl _, Nat.le_refl _, fc, rfl, ic⟩
          · by_cases e4 : p = 162
            · subst e4
              rw [hTG 162 130 rfl] at hp
              cases hp
              exact ⟨_, _, rfl, zx4_d hl, 9, _, rfl, Nat.le_refl _, Nat.le_refl _, fd, rfl, id⟩
            · obtain ⟨ct9, c9, q1, q2, q3⟩ := hH.2 p t9 hp
              exact ⟨ct9, c9, q1, (zx4_ne e e2 e3 e4).trans q2, q3⟩
    · have q1 := yfr_f (hTG 48 24 rfl) hH hFrm (f := 3) rfl
      have q2 := yfr_f (hTG 36 12 rfl) hH hFrm (f := 4) rfl
      have q3 := yfr_e (hTG 50 26 rfl) hH hFrm rfl
      have q4 := yfr_e (hTG 51 27 rfl) hH hFrm rfl
      unfold zKI
      rw [q1, q2, q3, q4, zx4_len]
      exact hIh
  have hEarly : ∀ x : Int64, yPo tx zTG zTTy zKI (ywf kt_247_0.2.1) kt_247_0.1.1.length kt_247_0.2.2.2 ρ τ h (some (.long x)) h := fun x => zexp_post ⟨hH, hTG, hIh, yPre.rf _, yFr.rf _ _ _⟩
  refine zW_in (by rw [hG]; rfl) (Nat.le_of_ble_eq_true rfl) ?_
  have F27 : zR zTt G cd_247 0 0 (some .long) (zW zTt G (d1 + 2)) (yPo tx zTG zTTy zKI (ywf kt_247_0.2.1) kt_247_0.1.1.length kt_247_0.2.2.2 ρ τ h) 27 (zentry [.ref 111, .int k, .int kn, .int pt] 15) [] h 0 0 := by
    refine r_push (zW_mono _ _ _) rfl ?_
    exact r_lret (zW_mono _ _ _) rfl rfl (hEarly _)
  have F31 : zR zTt G cd_247 0 0 (some .long) (zW zTt G (d1 + 2)) (yPo tx zTG zTTy zKI (ywf kt_247_0.2.1) kt_247_0.1.1.length kt_247_0.2.2.2 ρ τ h) 31 (zentry [.ref 111, .int k, .int kn, .int pt] 15) [] h 0 0 := by
    refine r_push (zW_mono _ _ _) rfl ?_
    refine r_istore (zW_mono _ _ _) rfl (Nat.le_of_ble_eq_true rfl) ?_
    suffices Q : zR zTt G cd_247 0 0 (some .long) (zW zTt G (d1 + 2)) (yPo tx zTG zTTy zKI (ywf kt_247_0.2.1) kt_247_0.1.1.length kt_247_0.2.2.2 ρ τ h) 34 (zLo k kn pt (Int32.ofNat 0) none none none) [] (zX4 h fA fB fC fD) 0 0 by rw [zx4_self a159 a160 a161 a162 hl] at Q; exact Q
    refine zexp1 hx (fun s fa fb fc fd z1 z2 z3 z4 => ?_) 9 0 fA fB fC fD rfl (fun j hj => by omega) (fun j hj => by omega) (fun j hj => by omega) (fun j hj => by omega)
    refine r_push (zW_mono _ _ _) rfl ?_
    refine r_istore (zW_mono _ _ _) rfl (Nat.le_of_ble_eq_true rfl) ?_
    have z0 : ∀ f : Nat → Int32, (∀ j, j < 9 → f j = 0) → ∀ j, j < 9 → 0 ≤ (f j).toInt ∧ (f j).toInt ≤ ((0 : Nat) : Int) := fun f hf j hj => by rw [hf j hj]; decide
    refine zexp2l hx (fun c l5 l6 l7 fa fb fc fd ia ib ic id => ?_) cr.toInt.toNat 0 none none none fa fb fc fd (by omega) (z0 _ z1) (z0 _ z2) (z0 _ z3) (z0 _ z4)
    refine r_push (zW_mono _ _ _) rfl ?_
    refine r_lstore (zW_mono _ _ _) rfl (Nat.le_of_ble_eq_true rfl) ?_
    refine r_push (zW_mono _ _ _) rfl ?_
    refine r_lstore (zW_mono _ _ _) rfl (Nat.le_of_ble_eq_true rfl) ?_
    refine r_push (zW_mono _ _ _) rfl ?_
    refine r_lstore (zW_mono _ _ _) rfl (Nat.le_of_ble_eq_true rfl) ?_
    refine r_push (zW_mono _ _ _) rfl ?_
    refine r_lstore (zW_mono _ _ _) rfl (Nat.le_of_ble_eq_true rfl) ?_
    refine r_push (zW_mono _ _ _) rfl ?_
    refine r_istore (zW_mono _ _ _) rfl (Nat.le_of_ble_eq_true rfl) ?_
    exact zexp3 hG hx ic (fun x => zexp_post (hEnd fa fb fc fd ia ib ic id)) 9 0 0 1 0 0 _ rfl (by decide)
  refine r_aload (zW_mono _ _ _) rfl rfl ?_
  refine r_iload (zW_mono _ _ _) rfl rfl ?_
  refine r_virt1 (m1 := 0) (m2 := 0) (zW_mono _ _ _) rfl c2 (Nat.le_of_ble_eq_true rfl) (by unfold zbud; rw [hG]; rfl) (Nat.le_of_ble_eq_true rfl) (Nat.le_of_ble_eq_true rfl) ?_
  refine zin1 hG c2 f3 ?_ ?_
  · exact r_if_eq (zW_mono _ _ _) rfl (fun _ => F27) (fun e => absurd rfl e)
  · refine r_if_eq (zW_mono _ _ _) rfl (fun e => absurd e (by decide)) (fun _ => ?_)
    refine r_iload (zW_mono _ _ _) rfl rfl ?_
    refine r_stat1 (m1 := 0) (m2 := 0) (zW_mono _ _ _) rfl (Nat.le_of_ble_eq_true rfl) (by unfold zbud; rw [hG]; rfl) (Nat.le_of_ble_eq_true rfl) (Nat.le_of_ble_eq_true rfl) ?_
    refine zin2 hG ?_ ?_
    · exact r_if_eq (zW_mono _ _ _) rfl (fun _ => F27) (fun e => absurd rfl e)
    · refine r_if_eq (zW_mono _ _ _) rfl (fun e => absurd e (by decide)) (fun _ => ?_)
      refine r_iload (zW_mono _ _ _) rfl rfl ?_
      refine r_i2l (zW_mono _ _ _) rfl ?_
      refine r_push (zW_mono _ _ _) rfl ?_
      refine r_push (zW_mono _ _ _) rfl ?_
      refine r_stat3 (m1 := 0) (m2 := 0) (zW_mono _ _ _) rfl (Nat.le_of_ble_eq_true rfl) (by unfold zbud; rw [hG]; rfl) (Nat.le_of_ble_eq_true rfl) (Nat.le_of_ble_eq_true rfl) ?_
      refine zin3 hG ?_ ?_
      · exact r_if_ne (zW_mono _ _ _) rfl (fun e => absurd rfl e) (fun _ => F27)
      · exact r_if_ne (zW_mono _ _ _) rfl (fun _ => F31) (fun e => absurd e (by decide))
end EXPE
end
