/-! the longs of 'expected': below is never 0 -/
theorem zbm {n : Nat} (hn : n ≤ 64) {x : Int} : ((2 ^ n : Nat) : Int) ∣ x.bmod (2 ^ 64) ↔ ((2 ^ n : Nat) : Int) ∣ x := by
  have h1 : ((2 ^ n : Nat) : Int) ∣ ((2 ^ 64 : Nat) : Int) := Int.natCast_dvd_natCast.mpr (Nat.pow_dvd_pow 2 hn)
  have h3 : ∃ k : Int, x.bmod (2 ^ 64) = x + ((2 ^ 64 : Nat) : Int) * k := by
    have e := Int.emod_add_mul_ediv x ((2 ^ 64 : Nat) : Int)
    rw [Int.bmod_def]
    split
    · exact ⟨-(x / ((2 ^ 64 : Nat) : Int)), by rw [Int.mul_neg]; omega⟩
    · exact ⟨-(x / ((2 ^ 64 : Nat) : Int)) - 1, by rw [Int.mul_sub, Int.mul_neg, Int.mul_one]; omega⟩
  obtain ⟨k, hk⟩ := h3
  rw [hk]
  exact ⟨fun z => (Int.dvd_add_left (Int.dvd_trans h1 (Int.dvd_mul_right _ _))).mp z, fun z => Int.dvd_add z (Int.dvd_trans h1 (Int.dvd_mul_right _ _))⟩
theorem ztwo : ∀ (j k : Nat) (b o : Nat), 0 < o → o < 2 ^ (j + 1) → 2 ^ (k + j) ∣ b * o → 2 ^ k ∣ b
  | 0, k, b, o, h0, h1, h2 => by
    have : o = 1 := by omega
    subst this
    rw [Nat.mul_one] at h2
    exact h2
  | j + 1, k, b, o, h0, h1, h2 => by
    rcases Nat.mod_two_eq_zero_or_one o with e | e
    · obtain ⟨o', rfl⟩ : ∃ o', o = 2 * o' := ⟨o / 2, by omega⟩
      refine ztwo j k b o' (by omega) (by rw [Nat.pow_succ] at h1; omega) ?_
      rw [show k + (j + 1) = (k + j) + 1 from rfl, Nat.pow_succ, Nat.mul_comm _ 2, show b * (2 * o') = 2 * (b * o') by rw [Nat.mul_left_comm]] at h2
      exact Nat.dvd_of_mul_dvd_mul_left (by decide) h2
    · have hc : Nat.Coprime (2 ^ (k + (j + 1))) o := by
        refine Nat.Coprime.pow_left _ ?_
        unfold Nat.Coprime
        rw [Nat.gcd_rec, e]
        rfl
      exact Nat.dvd_trans (Nat.pow_dvd_pow 2 (Nat.le_add_right _ _)) (hc.dvd_of_dvd_mul_right h2)
/-- no power of 2 above 7 more in a product -/
theorem zbel {k : Nat} {b : Int64} {o : Int32} (hk : k + 7 ≤ 64) (h1 : 0 < o.toInt) (h2 : o.toInt ≤ 255) (hb : ¬ ((2 ^ k : Nat) : Int) ∣ b.toInt) : ¬ ((2 ^ (k + 7) : Nat) : Int) ∣ (b * o.toInt64).toInt := by
  intro h
  rw [Int64.toInt_mul, zbm hk, Int32.toInt_toInt64] at h
  refine hb ?_
  rw [← Int.natAbs_dvd_natAbs, Int.natAbs_natCast] at h ⊢
  rw [Int.natAbs_mul] at h
  exact ztwo 7 k _ o.toInt.natAbs (by omega) (show o.toInt.natAbs < 256 by omega) h
theorem zbdiv {k : Nat} {b g : Int64} (hk : k ≤ 64) (hg : g.toInt ∣ b.toInt) (h : ¬ ((2 ^ k : Nat) : Int) ∣ b.toInt) : ¬ ((2 ^ k : Nat) : Int) ∣ (b / g).toInt := by
  intro q
  rw [Int64.toInt_div, zbm hk] at q
  refine h ?_
  rw [← Int.mul_tdiv_cancel' hg]
  exact Int.dvd_trans q (Int.dvd_mul_left _ _)
theorem zbnz {k : Nat} {b : Int64} (h : ¬ ((2 ^ k : Nat) : Int) ∣ b.toInt) : b ≠ 0 := by
  intro e
  subst e
  exact h (Int.dvd_zero _)
theorem zrem64 {x y : Int64} : (x - x / y * y).toInt = x.toInt.tmod y.toInt := by
  have h1 := Int64.le_toInt x
  have h2 := Int64.toInt_lt x
  have h3 : (x.toInt.tmod y.toInt).natAbs ≤ x.toInt.natAbs := by rw [Int.natAbs_tmod]; exact Nat.mod_le _ _
  have h4 : (x.toInt.tmod y.toInt).bmod (2 ^ 64) = x.toInt.tmod y.toInt := by
    rcases Int.lt_or_le x.toInt 0 with z | z
    · have h5 : x.toInt.tmod y.toInt ≤ 0 := by
        have := Int.tmod_nonneg (a := -x.toInt) y.toInt (by omega)
        rw [Int.neg_tmod] at this
        omega
      exact Int.bmod_eq_of_le (by show (-9223372036854775808 : Int) ≤ _; omega) (by show _ < (9223372036854775808 : Int); omega)
    · have h5 := Int.tmod_nonneg (a := x.toInt) y.toInt z
      exact Int.bmod_eq_of_le (by show (-9223372036854775808 : Int) ≤ _; omega) (by show _ < (9223372036854775808 : Int); omega)
  rw [Int64.toInt_sub, Int64.toInt_mul, Int64.toInt_div, Int.sub_bmod_bmod, ← Int.sub_bmod_bmod, Int.bmod_mul_bmod, Int.sub_bmod_bmod, Int.mul_comm, ← Int.tmod_def]
  exact h4
section EXPC
variable {G : zG} {h : zH}
theorem zcommon_loop (hG : G.1 = zProg) {d : Nat} {b : Int64} {a0 b0 : Int64} {K : zQ} (hK : ∀ g : Int64, g ≠ 0 → g.toInt ∣ b.toInt → K (some (.long g)) h) : ∀ (n : Nat) (x y : Int64) (l8 l9 : Option Value), y.toInt.natAbs ≤ n → (y ≠ 0 ∨ x ≠ 0) → (∀ z : Int, z ∣ x.toInt → z ∣ y.toInt → z ∣ b.toInt) → zR zTt G cd_246 0 0 (some .long) (zW zTt G d) K 6 [some (.long a0), none, some (.long b0), none, some (.long x), none, some (.long y), none, l8, l9] [] h 0 0
  | n, x, y, l8, l9, hn, h0, hd => by
    refine r_lload (zW_mono _ _ _) rfl rfl ?_
    refine r_push (zW_mono _ _ _) rfl ?_
    refine r_lcmp (zW_mono _ _ _) rfl ?_
    refine r_if_eq (zW_mono _ _ _) rfl (fun e => ?_) (fun hne => ?_)
    · have e0 : y = 0 := (lg_cmp_eq _ _).mp e
      subst e0
      refine r_lload (zW_mono _ _ _) rfl rfl ?_
      exact r_lret (zW_mono _ _ _) rfl rfl (hK x (h0.resolve_left (fun z => z rfl)) (hd _ (Int.dvd_refl _) (Int.dvd_zero _)))
    · have y0 : ¬ y = 0 := fun e => hne ((lg_cmp_eq _ _).mpr e)
      have yi : y.toInt ≠ 0 := fun e => y0 (Int64.toInt_inj.mp e)
      refine r_lload (zW_mono _ _ _) rfl rfl ?_
      refine r_lload (zW_mono _ _ _) rfl rfl ?_
      refine r_lrem (zW_mono _ _ _) rfl y0 ?_
      refine r_lstore (zW_mono _ _ _) rfl (Nat.le_of_ble_eq_true rfl) ?_
      refine r_lload (zW_mono _ _ _) rfl rfl ?_
      refine r_lstore (zW_mono _ _ _) rfl (Nat.le_of_ble_eq_true rfl) ?_
      refine r_lload (zW_mono _ _ _) rfl rfl ?_
      refine r_lstore (zW_mono _ _ _) rfl (Nat.le_of_ble_eq_true rfl) ?_
      refine r_goto (zW_mono _ _ _) rfl ?_
      have hr : (x - x / y * y).toInt = x.toInt.tmod y.toInt := zrem64
      have hlt : (x - x / y * y).toInt.natAbs < y.toInt.natAbs := by
        rw [hr, Int.natAbs_tmod]
        exact Nat.mod_lt _ (by omega)
      match n, hn with
      | 0, hn => omega
      | n + 1, hn =>
        refine zcommon_loop hG hK n y (x - x / y * y) _ _ (by omega) (Or.inr y0) (fun z h1 h2 => hd z ?_ h1)
        rw [hr] at h2
        have := Int.mul_tdiv_add_tmod x.toInt y.toInt
        rw [← this]
        exact Int.dvd_add (Int.dvd_trans h1 (Int.dvd_mul_right _ _)) h2
theorem zcommon (hG : G.1 = zProg) {d : Nat} {a b : Int64} (hb : b ≠ 0) {K : zQ} (hK : ∀ g : Int64, g ≠ 0 → g.toInt ∣ b.toInt → K (some (.long g)) h) : zW zTt G (d + 1) 246 [.long a, .long b] h K := by
  refine zW_in (by rw [hG]; rfl) (Nat.le_of_ble_eq_true rfl) ?_
  refine r_lload (zW_mono _ _ _) rfl rfl ?_
  refine r_lstore (zW_mono _ _ _) rfl (Nat.le_of_ble_eq_true rfl) ?_
  refine r_lload (zW_mono _ _ _) rfl rfl ?_
  refine r_lstore (zW_mono _ _ _) rfl (Nat.le_of_ble_eq_true rfl) ?_
  exact zcommon_loop hG hK _ a b _ _ (Nat.le_refl _) (Or.inl hb) (fun z _ h2 => h2)
end EXPC
