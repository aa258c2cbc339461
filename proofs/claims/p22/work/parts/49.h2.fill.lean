/-! Arrays.fill and Arrays.copyOf by hand, for cells that are new -/
theorem zofN_add (i : Nat) : Int32.ofNat i + 1 = Int32.ofNat (i + 1) := (Int32.ofNat_add i 1).symm
theorem zofN_cl {i : Nat} (h : i < 2 ^ 31) : (Int32.ofNat i).toNatClampNeg = i := by
  have := yofN h
  show (Int32.ofNat i).toInt.toNat = i
  omega
theorem zvp {i N : Nat} (h : i < N) (hN : N < 2 ^ 31) : vp_in (Int32.ofNat i) N := (yvp_in (by rw [yofN (by omega)]; omega) (by rw [yofN (by omega)]; omega)).1
theorem zfill_loop {G : zG} (hG : G.1 = zProg) {d : Nat} {h : zH} {r N : Nat} {v : Int32} (hN : N ≤ 1000) {K : zQ} (hK : ∀ g : Nat → Int32, (∀ i, i < N → g i = v) → K none (h.set r (.inl (0, N, .inl g)))) (hl : r < h.length) : ∀ (k i : Nat) (g : Nat → Int32), i + k = N → (∀ j, j < i → g j = v) → zR zTt G cd_282 0 0 none (zW zTt G d) K 5 [some (.ref r), some (.int v), some (.int (Int32.ofNat i)), some (.int (Int32.ofNat N))] [] (h.set r (.inl (0, N, .inl g))) 0 0
  | 0, i, g, hi, hg => by
    have e : i = N := by omega
    subst e
    refine r_iload (zW_mono _ _ _) rfl rfl ?_
    refine r_iload (zW_mono _ _ _) rfl rfl ?_
    refine r_icmp_ge (zW_mono _ _ _) rfl (fun _ => ?_) (fun q => ?_)
    · exact r_vret (zW_mono _ _ _) rfl rfl (hK g hg)
    · have := Int32.lt_iff_toInt_lt.mp q
      omega
  | k + 1, i, g, hi, hg => by
    refine r_iload (zW_mono _ _ _) rfl rfl ?_
    refine r_iload (zW_mono _ _ _) rfl rfl ?_
    refine r_icmp_ge (zW_mono _ _ _) rfl (fun q => ?_) (fun _ => ?_)
    · have := Int32.le_iff_toInt_le.mp q
      rw [yofN (by omega), yofN (by omega)] at this
      omega
    · refine r_aload (zW_mono _ _ _) rfl rfl ?_
      refine r_iload (zW_mono _ _ _) rfl rfl ?_
      refine r_iload (zW_mono _ _ _) rfl rfl ?_
      refine r_iast (zW_mono _ _ _) rfl (List.getElem?_set_self hl) (zvp (by omega) (by omega)) ?_
      refine r_iinc (zW_mono _ _ _) rfl rfl (Nat.le_of_ble_eq_true rfl) ?_
      refine r_goto (zW_mono _ _ _) rfl ?_
      rw [List.set_set, zofN_cl (by omega), zofN_add]
      exact zfill_loop hG hN hK hl k (i + 1) _ (by omega) (fun j hj => by
        unfold upd
        by_cases e : j = i
        · rw [if_pos e]
        · rw [if_neg e]; exact hg j (by omega))
theorem zfill {G : zG} (hG : G.1 = zProg) {d : Nat} {h : zH} {r N : Nat} {v : Int32} {f : Nat → Int32} (hN : N ≤ 1000) (hr : h[r]? = some (.inl (0, N, .inl f))) {K : zQ} (hK : ∀ g : Nat → Int32, (∀ i, i < N → g i = v) → K none (h.set r (.inl (0, N, .inl g)))) : zW zTt G (d + 1) 282 [.ref r, .int v] h K := by
  have hl : r < h.length := by
    rcases Nat.lt_or_ge r h.length with z | z
    · exact z
    · rw [List.getElem?_eq_none z] at hr; cases hr
  refine zW_in (by rw [hG]; rfl) (Nat.le_of_ble_eq_true rfl) ?_
  refine r_push (zW_mono _ _ _) rfl ?_
  refine r_istore (zW_mono _ _ _) rfl (Nat.le_of_ble_eq_true rfl) ?_
  refine r_aload (zW_mono _ _ _) rfl rfl ?_
  refine r_alen (zW_mono _ _ _) rfl hr (by decide) ?_
  refine r_istore (zW_mono _ _ _) rfl (Nat.le_of_ble_eq_true rfl) ?_
  have h0 : h = h.set r (.inl (0, N, .inl f)) := by
    apply List.ext_getElem?
    intro q
    by_cases e : r = q
    · subst e; rw [List.getElem?_set_self hl, hr]
    · rw [List.getElem?_set_ne e]
  have := zfill_loop (d := d) hG hN hK hl N 0 f (by omega) (fun j hj => by omega)
  rw [← h0] at this
  exact this
