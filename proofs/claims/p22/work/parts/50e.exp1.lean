/-! 'expected' by hand -/
noncomputable def zX4 (h : zH) (fa fb fc fd : Nat → Int32) : zH := (((h.set 159 (.inl (0, 9, .inl fa))).set 160 (.inl (0, 9, .inl fb))).set 161 (.inl (0, 9, .inl fc))).set 162 (.inl (0, 9, .inl fd))
noncomputable def zXok (h : zH) (fs : List Value) (cr : Int32) (gK gC gS gP gT gB : Nat → Int32) : Prop := h[111]? = some (.inr (12, fs)) ∧ fs[59]? = some (.int cr) ∧ (0 ≤ cr.toInt ∧ cr.toInt ≤ 200) ∧ fs[16]? = some (.ref 121) ∧ fs[60]? = some (.ref 152) ∧ fs[62]? = some (.ref 154) ∧ fs[63]? = some (.ref 155) ∧ fs[65]? = some (.ref 157) ∧ fs[66]? = some (.ref 158) ∧ fs[67]? = some (.ref 159) ∧ fs[68]? = some (.ref 160) ∧ fs[69]? = some (.ref 161) ∧ fs[70]? = some (.ref 162) ∧ h[121]? = some (.inl (0, 300, .inl gK)) ∧ h[152]? = some (.inl (0, 200, .inl gC)) ∧ h[154]? = some (.inl (0, 200, .inl gS)) ∧ h[155]? = some (.inl (0, 200, .inl gP)) ∧ h[157]? = some (.inl (0, 200, .inl gT)) ∧ h[158]? = some (.inl (1, 200, .inl gB)) ∧ (∀ i, i < 200 → 0 ≤ (gC i).toInt ∧ (gC i).toInt ≤ 299) ∧ (∀ i, i < 200 → 0 ≤ (gS i).toInt ∧ (gS i).toInt ≤ 2) ∧ 162 < h.length
noncomputable abbrev zLo (k kn pt c : Int32) (l5 l6 l7 : Option Value) : zL := [some (.ref 111), some (.int k), some (.int kn), some (.int pt), some (.int c), l5, l6, l7, none, none, none, none, none, none, none]
section EXPD
variable {G : zG} {h : zH} {fa fb fc fd : Nat → Int32} {fs : List Value} {cr : Int32} {gK gC gS gP gT gB : Nat → Int32} {d : Nat} {K : zQ} {k kn pt : Int32}
theorem zx4_ne {p : Nat} (h1 : p ≠ 159) (h2 : p ≠ 160) (h3 : p ≠ 161) (h4 : p ≠ 162) : (zX4 h fa fb fc fd)[p]? = h[p]? := by unfold zX4; rw [zsel h4, zsel h3, zsel h2, zsel h1]
theorem zx4_len : (zX4 h fa fb fc fd).length = h.length := by unfold zX4; rw [List.length_set, List.length_set, List.length_set, List.length_set]
theorem zx4_a (hl : 162 < h.length) : (zX4 h fa fb fc fd)[159]? = some (.inl (0, 9, .inl fa)) := by unfold zX4; rw [zsel (by decide), zsel (by decide), zsel (by decide), zses (by omega)]
theorem zx4_b (hl : 162 < h.length) : (zX4 h fa fb fc fd)[160]? = some (.inl (0, 9, .inl fb)) := by unfold zX4; rw [zsel (by decide), zsel (by decide), zses (by rw [List.length_set]; omega)]
theorem zx4_c (hl : 162 < h.length) : (zX4 h fa fb fc fd)[161]? = some (.inl (0, 9, .inl fc)) := by unfold zX4; rw [zsel (by decide), zses (by rw [List.length_set, List.length_set]; omega)]
theorem zx4_d (hl : 162 < h.length) : (zX4 h fa fb fc fd)[162]? = some (.inl (0, 9, .inl fd)) := by unfold zX4; rw [zses (by rw [List.length_set, List.length_set, List.length_set]; omega)]
theorem zx4_sd {f : Nat → Int32} : (zX4 h fa fb fc fd).set 162 (.inl (0, 9, .inl f)) = zX4 h fa fb fc f := by unfold zX4; rw [List.set_set]
theorem zx4_sc {f : Nat → Int32} : (zX4 h fa fb fc fd).set 161 (.inl (0, 9, .inl f)) = zX4 h fa fb f fd := by unfold zX4; rw [List.set_comm _ _ (show 162 ≠ 161 by decide), List.set_set]
theorem zx4_sb {f : Nat → Int32} : (zX4 h fa fb fc fd).set 160 (.inl (0, 9, .inl f)) = zX4 h fa f fc fd := by unfold zX4; rw [List.set_comm _ _ (show 162 ≠ 160 by decide), List.set_comm _ _ (show 161 ≠ 160 by decide), List.set_set]
theorem zx4_sa {f : Nat → Int32} : (zX4 h fa fb fc fd).set 159 (.inl (0, 9, .inl f)) = zX4 h f fb fc fd := by unfold zX4; rw [List.set_comm _ _ (show 162 ≠ 159 by decide), List.set_comm _ _ (show 161 ≠ 159 by decide), List.set_comm _ _ (show 160 ≠ 159 by decide), List.set_set]
theorem zu0 {f : Nat → Int32} {s : Nat} (hf : ∀ j, j < s → f j = 0) : ∀ j, j < s + 1 → upd f s 0 j = 0 := fun j hj => by
  unfold upd
  by_cases e : j = s
  · rw [if_pos e]
  · rw [if_neg e]; exact hf j (by omega)
theorem zu1 {f : Nat → Int32} {c : Int} {i : Nat} {δ : Int32} (hc : c ≤ 1000) (h0 : 0 ≤ δ.toInt) (h1 : δ.toInt ≤ 1) (hi : i < 9) (hf : ∀ j, j < 9 → 0 ≤ (f j).toInt ∧ (f j).toInt ≤ c) : ∀ j, j < 9 → 0 ≤ (upd f i (f i + δ) j).toInt ∧ (upd f i (f i + δ) j).toInt ≤ c + 1 := fun j hj => by
  unfold upd
  by_cases e : j = i
  · rw [if_pos e]
    have := hf i hi
    have e2 : (f i + δ).toInt = (f i).toInt + δ.toInt := by
      rw [Int32.toInt_add]
      exact Int.bmod_eq_of_le (by show (-2147483648 : Int) ≤ _; omega) (by show _ < (2147483648 : Int); omega)
    rw [e2]
    omega
  · rw [if_neg e]
    have := hf j hj
    omega

theorem zexp1 (hx : zXok h fs cr gK gC gS gP gT gB) (cont : ∀ (s : Int32) (fa fb fc fd : Nat → Int32), (∀ j, j < 9 → fa j = 0) → (∀ j, j < 9 → fb j = 0) → (∀ j, j < 9 → fc j = 0) → (∀ j, j < 9 → fd j = 0) → zR zTt G cd_247 0 0 (some .long) (zW zTt G d) K 79 (zLo k kn pt s none none none) [] (zX4 h fa fb fc fd) 0 0) : ∀ (n s : Nat) (fa fb fc fd : Nat → Int32), s + n = 9 → (∀ j, j < s → fa j = 0) → (∀ j, j < s → fb j = 0) → (∀ j, j < s → fc j = 0) → (∀ j, j < s → fd j = 0) → zR zTt G cd_247 0 0 (some .long) (zW zTt G d) K 34 (zLo k kn pt (Int32.ofNat s) none none none) [] (zX4 h fa fb fc fd) 0 0
  | 0, s, fa, fb, fc, fd, hs, ha, hb, hc, hd => by
    have e : s = 9 := by omega
    subst e
    refine r_iload (zW_mono _ _ _) rfl rfl ?_
    refine r_push (zW_mono _ _ _) rfl ?_
    refine r_icmp_ge (zW_mono _ _ _) rfl (fun _ => ?_) (fun q => absurd q (by decide))
    exact cont _ fa fb fc fd ha hb hc hd
  | n + 1, s, fa, fb, fc, fd, hs, ha, hb, hc, hd => by
    have hx' := hx
    obtain ⟨c2, f59, hcr, f16, f60, f62, f63, f65, f66, f67, f68, f69, f70, a121, a152, a154, a155, a157, a158, bC, bS, hl⟩ := hx'
    have e1 : (Int32.ofNat s).toNatClampNeg = s := zofN_cl (by omega)
    refine r_iload (zW_mono _ _ _) rfl rfl ?_
    refine r_push (zW_mono _ _ _) rfl ?_
    refine r_icmp_ge (zW_mono _ _ _) rfl (fun q => ?_) (fun _ => ?_)
    · have := Int32.le_iff_toInt_le.mp q
      rw [yofN (by omega), show (9 : Int32).toInt = 9 from rfl] at this
      omega
    · refine r_aload (zW_mono _ _ _) rfl rfl ?_
      refine r_get (zW_mono _ _ _) rfl ((zx4_ne (by decide) (by decide) (by decide) (by decide)).trans c2) f67 ?_
      refine r_iload (zW_mono _ _ _) rfl rfl ?_
      refine r_push (zW_mono _ _ _) rfl ?_
      refine r_iast (zW_mono _ _ _) rfl (zx4_a hl) (zvp (by omega) (by omega)) ?_
      rw [e1, zx4_sa]
      refine r_aload (zW_mono _ _ _) rfl rfl ?_
      refine r_get (zW_mono _ _ _) rfl ((zx4_ne (by decide) (by decide) (by decide) (by decide)).trans c2) f68 ?_
      refine r_iload (zW_mono _ _ _) rfl rfl ?_
      refine r_push (zW_mono _ _ _) rfl ?_
      refine r_iast (zW_mono _ _ _) rfl (zx4_b hl) (zvp (by omega) (by omega)) ?_
      rw [e1, zx4_sb]
      refine r_aload (zW_mono _ _ _) rfl rfl ?_
      refine r_get (zW_mono _ _ _) rfl ((zx4_ne (by decide) (by decide) (by decide) (by decide)).trans c2) f69 ?_
      refine r_iload (zW_mono _ _ _) rfl rfl ?_
      refine r_push (zW_mono _ _ _) rfl ?_
      refine r_iast (zW_mono _ _ _) rfl (zx4_c hl) (zvp (by omega) (by omega)) ?_
      rw [e1, zx4_sc]
      refine r_aload (zW_mono _ _ _) rfl rfl ?_
      refine r_get (zW_mono _ _ _) rfl ((zx4_ne (by decide) (by decide) (by decide) (by decide)).trans c2) f70 ?_
      refine r_iload (zW_mono _ _ _) rfl rfl ?_
      refine r_push (zW_mono _ _ _) rfl ?_
      refine r_iast (zW_mono _ _ _) rfl (zx4_d hl) (zvp (by omega) (by omega)) ?_
      rw [e1, zx4_sd]
      refine r_iinc (zW_mono _ _ _) rfl rfl (Nat.le_of_ble_eq_true rfl) ?_
      refine r_goto (zW_mono _ _ _) rfl ?_
      rw [zofN_add]
      exact zexp1 hx cont n (s + 1) _ _ _ _ (by omega) (zu0 ha) (zu0 hb) (zu0 hc) (zu0 hd)
theorem zxp_a {cI s its fire : Int32} (hx : zXok h fs cr gK gC gS gP gT gB) (hs : vp_in s 9) (h0 : 0 ≤ fire.toInt) (h1 : fire.toInt ≤ 1) (cont : ∀ δ : Int32, 0 ≤ δ.toInt → δ.toInt ≤ 1 → zR zTt G cd_247 0 0 (some .long) (zW zTt G d) K 207 (zLo k kn pt cI (some (.int s)) (some (.int its)) (some (.int fire))) [] (zX4 h (upd fa s.toNatClampNeg (fa s.toNatClampNeg + δ)) fb fc fd) 0 0) : zR zTt G cd_247 0 0 (some .long) (zW zTt G d) K 187 (zLo k kn pt cI (some (.int s)) (some (.int its)) (some (.int fire))) [] (zX4 h fa fb fc fd) 0 0 := by
  obtain ⟨c2, f59, hcr, f16, f60, f62, f63, f65, f66, f67, f68, f69, f70, a121, a152, a154, a155, a157, a158, bC, bS, hl⟩ := hx
  refine r_aload (zW_mono _ _ _) rfl rfl ?_
  refine r_get (zW_mono _ _ _) rfl ((zx4_ne (by decide) (by decide) (by decide) (by decide)).trans c2) f67 ?_
  refine r_iload (zW_mono _ _ _) rfl rfl ?_
  refine r_dup2 (zW_mono _ _ _) rfl rfl rfl ?_
  refine r_iald (zW_mono _ _ _) rfl (zx4_a hl) hs ?_
  refine r_iload (zW_mono _ _ _) rfl rfl ?_
  refine r_if_eq (zW_mono _ _ _) rfl (fun _ => ?_) (fun _ => ?_)
  · refine r_push (zW_mono _ _ _) rfl ?_
    refine r_iadd (zW_mono _ _ _) rfl ?_
    refine r_iast (zW_mono _ _ _) rfl (zx4_a hl) hs ?_
    rw [zx4_sa]
    exact cont _ (by decide) (by decide)
  · refine r_push (zW_mono _ _ _) rfl ?_
    refine r_goto (zW_mono _ _ _) rfl ?_
    refine r_iadd (zW_mono _ _ _) rfl ?_
    refine r_iast (zW_mono _ _ _) rfl (zx4_a hl) hs ?_
    rw [zx4_sa]
    exact cont _ (by decide) (by decide)
theorem zxp_b {cI s its fire : Int32} (hx : zXok h fs cr gK gC gS gP gT gB) (hs : vp_in s 9) (h0 : 0 ≤ fire.toInt) (h1 : fire.toInt ≤ 1) (cont : ∀ δ : Int32, 0 ≤ δ.toInt → δ.toInt ≤ 1 → zR zTt G cd_247 0 0 (some .long) (zW zTt G d) K 228 (zLo k kn pt cI (some (.int s)) (some (.int its)) (some (.int fire))) [] (zX4 h fa (upd fb s.toNatClampNeg (fb s.toNatClampNeg + δ)) fc fd) 0 0) : zR zTt G cd_247 0 0 (some .long) (zW zTt G d) K 207 (zLo k kn pt cI (some (.int s)) (some (.int its)) (some (.int fire))) [] (zX4 h fa fb fc fd) 0 0 := by
  obtain ⟨c2, f59, hcr, f16, f60, f62, f63, f65, f66, f67, f68, f69, f70, a121, a152, a154, a155, a157, a158, bC, bS, hl⟩ := hx
  refine r_aload (zW_mono _ _ _) rfl rfl ?_
  refine r_get (zW_mono _ _ _) rfl ((zx4_ne (by decide) (by decide) (by decide) (by decide)).trans c2) f68 ?_
  refine r_iload (zW_mono _ _ _) rfl rfl ?_
  refine r_dup2 (zW_mono _ _ _) rfl rfl rfl ?_
  refine r_iald (zW_mono _ _ _) rfl (zx4_b hl) hs ?_
  refine r_iload (zW_mono _ _ _) rfl rfl ?_
  refine r_if_eq (zW_mono _ _ _) rfl (fun _ => ?_) (fun _ => ?_)
  · refine r_push (zW_mono _ _ _) rfl ?_
    refine r_iadd (zW_mono _ _ _) rfl ?_
    refine r_iast (zW_mono _ _ _) rfl (zx4_b hl) hs ?_
    rw [zx4_sb]
    exact cont _ (by decide) (by decide)
  · refine r_iload (zW_mono _ _ _) rfl rfl ?_
    refine r_goto (zW_mono _ _ _) rfl ?_
    refine r_iadd (zW_mono _ _ _) rfl ?_
    refine r_iast (zW_mono _ _ _) rfl (zx4_b hl) hs ?_
    rw [zx4_sb]
    exact cont _ h0 h1
theorem zxp_c {cI s its fire : Int32} (hx : zXok h fs cr gK gC gS gP gT gB) (hs : vp_in s 9) (h0 : 0 ≤ fire.toInt) (h1 : fire.toInt ≤ 1) (cont : ∀ δ : Int32, 0 ≤ δ.toInt → δ.toInt ≤ 1 → zR zTt G cd_247 0 0 (some .long) (zW zTt G d) K 248 (zLo k kn pt cI (some (.int s)) (some (.int its)) (some (.int fire))) [] (zX4 h fa fb (upd fc s.toNatClampNeg (fc s.toNatClampNeg + δ)) fd) 0 0) : zR zTt G cd_247 0 0 (some .long) (zW zTt G d) K 228 (zLo k kn pt cI (some (.int s)) (some (.int its)) (some (.int fire))) [] (zX4 h fa fb fc fd) 0 0 := by
  obtain ⟨c2, f59, hcr, f16, f60, f62, f63, f65, f66, f67, f68, f69, f70, a121, a152, a154, a155, a157, a158, bC, bS, hl⟩ := hx
  refine r_aload (zW_mono _ _ _) rfl rfl ?_
  refine r_get (zW_mono _ _ _) rfl ((zx4_ne (by decide) (by decide) (by decide) (by decide)).trans c2) f69 ?_
  refine r_iload (zW_mono _ _ _) rfl rfl ?_
  refine r_dup2 (zW_mono _ _ _) rfl rfl rfl ?_
  refine r_iald (zW_mono _ _ _) rfl (zx4_c hl) hs ?_
  refine r_iload (zW_mono _ _ _) rfl rfl ?_
  refine r_if_eq (zW_mono _ _ _) rfl (fun _ => ?_) (fun _ => ?_)
  · refine r_push (zW_mono _ _ _) rfl ?_
    refine r_iadd (zW_mono _ _ _) rfl ?_
    refine r_iast (zW_mono _ _ _) rfl (zx4_c hl) hs ?_
    rw [zx4_sc]
    exact cont _ (by decide) (by decide)
  · refine r_push (zW_mono _ _ _) rfl ?_
    refine r_goto (zW_mono _ _ _) rfl ?_
    refine r_iadd (zW_mono _ _ _) rfl ?_
    refine r_iast (zW_mono _ _ _) rfl (zx4_c hl) hs ?_
    rw [zx4_sc]
    exact cont _ (by decide) (by decide)
theorem zxp_d {cI s its fire : Int32} (hx : zXok h fs cr gK gC gS gP gT gB) (hs : vp_in s 9) (h0 : 0 ≤ fire.toInt) (h1 : fire.toInt ≤ 1) (cont : ∀ δ : Int32, 0 ≤ δ.toInt → δ.toInt ≤ 1 → zR zTt G cd_247 0 0 (some .long) (zW zTt G d) K 269 (zLo k kn pt cI (some (.int s)) (some (.int its)) (some (.int fire))) [] (zX4 h fa fb fc (upd fd s.toNatClampNeg (fd s.toNatClampNeg + δ))) 0 0) : zR zTt G cd_247 0 0 (some .long) (zW zTt G d) K 248 (zLo k kn pt cI (some (.int s)) (some (.int its)) (some (.int fire))) [] (zX4 h fa fb fc fd) 0 0 := by
  obtain ⟨c2, f59, hcr, f16, f60, f62, f63, f65, f66, f67, f68, f69, f70, a121, a152, a154, a155, a157, a158, bC, bS, hl⟩ := hx
  refine r_aload (zW_mono _ _ _) rfl rfl ?_
  refine r_get (zW_mono _ _ _) rfl ((zx4_ne (by decide) (by decide) (by decide) (by decide)).trans c2) f70 ?_
  refine r_iload (zW_mono _ _ _) rfl rfl ?_
  refine r_dup2 (zW_mono _ _ _) rfl rfl rfl ?_
  refine r_iald (zW_mono _ _ _) rfl (zx4_d hl) hs ?_
  refine r_iload (zW_mono _ _ _) rfl rfl ?_
  refine r_if_eq (zW_mono _ _ _) rfl (fun _ => ?_) (fun _ => ?_)
  · refine r_iload (zW_mono _ _ _) rfl rfl ?_
    refine r_iadd (zW_mono _ _ _) rfl ?_
    refine r_iast (zW_mono _ _ _) rfl (zx4_d hl) hs ?_
    rw [zx4_sd]
    exact cont _ h0 h1
  · refine r_push (zW_mono _ _ _) rfl ?_
    refine r_goto (zW_mono _ _ _) rfl ?_
    refine r_iadd (zW_mono _ _ _) rfl ?_
    refine r_iast (zW_mono _ _ _) rfl (zx4_d hl) hs ?_
    rw [zx4_sd]
    exact cont _ (by decide) (by decide)
theorem zexp2 (hx : zXok h fs cr gK gC gS gP gT gB) {c : Nat} (hc : c < 200) (l5 l6 l7 : Option Value) (ia : (∀ j, j < 9 → 0 ≤ (fa j).toInt ∧ (fa j).toInt ≤ (c : Int))) (ib : (∀ j, j < 9 → 0 ≤ (fb j).toInt ∧ (fb j).toInt ≤ (c : Int))) (ic : (∀ j, j < 9 → 0 ≤ (fc j).toInt ∧ (fc j).toInt ≤ (c : Int))) (id : (∀ j, j < 9 → 0 ≤ (fd j).toInt ∧ (fd j).toInt ≤ (c : Int))) (cont : ∀ (l5 l6 l7 : Option Value) (fa fb fc fd : Nat → Int32), (∀ j, j < 9 → 0 ≤ (fa j).toInt ∧ (fa j).toInt ≤ (c : Int) + 1) → (∀ j, j < 9 → 0 ≤ (fb j).toInt ∧ (fb j).toInt ≤ (c : Int) + 1) → (∀ j, j < 9 → 0 ≤ (fc j).toInt ∧ (fc j).toInt ≤ (c : Int) + 1) → (∀ j, j < 9 → 0 ≤ (fd j).toInt ∧ (fd j).toInt ≤ (c : Int) + 1) → zR zTt G cd_247 0 0 (some .long) (zW zTt G d) K 82 (zLo k kn pt (Int32.ofNat (c + 1)) l5 l6 l7) [] (zX4 h fa fb fc fd) 0 0) : zR zTt G cd_247 0 0 (some .long) (zW zTt G d) K 91 (zLo k kn pt (Int32.ofNat c) l5 l6 l7) [] (zX4 h fa fb fc fd) 0 0 := by
  have hx' := hx
  obtain ⟨c2, f59, hcr, f16, f60, f62, f63, f65, f66, f67, f68, f69, f70, a121, a152, a154, a155, a157, a158, bC, bS, hl⟩ := hx'
  have e1 : (Int32.ofNat c).toNatClampNeg = c := zofN_cl (by omega)
  have hv : vp_in (Int32.ofNat c) 200 := zvp hc (by omega)
  have T : ∀ (l5 l6 l7 : Option Value) (fa fb fc fd : Nat → Int32), (∀ j, j < 9 → 0 ≤ (fa j).toInt ∧ (fa j).toInt ≤ (c : Int) + 1) → (∀ j, j < 9 → 0 ≤ (fb j).toInt ∧ (fb j).toInt ≤ (c : Int) + 1) → (∀ j, j < 9 → 0 ≤ (fc j).toInt ∧ (fc j).toInt ≤ (c : Int) + 1) → (∀ j, j < 9 → 0 ≤ (fd j).toInt ∧ (fd j).toInt ≤ (c : Int) + 1) → zR zTt G cd_247 0 0 (some .long) (zW zTt G d) K 269 (zLo k kn pt (Int32.ofNat c) l5 l6 l7) [] (zX4 h fa fb fc fd) 0 0 := by
    intro l5 l6 l7 fa fb fc fd i1 i2 i3 i4
    refine r_iinc (zW_mono _ _ _) rfl rfl (Nat.le_of_ble_eq_true rfl) ?_
    refine r_goto (zW_mono _ _ _) rfl ?_
    rw [zofN_add]
    exact cont _ _ _ _ _ _ _ i1 i2 i3 i4
  have J3 : ∀ (s its v : Int32) (l7 : Option Value), vp_in s 9 → s.toNatClampNeg < 9 → 0 ≤ v.toInt → v.toInt ≤ 1 → zR zTt G cd_247 0 0 (some .long) (zW zTt G d) K 185 (zLo k kn pt (Int32.ofNat c) (some (.int s)) (some (.int its)) l7) [.int v] (zX4 h fa fb fc fd) 0 0 := by
    intro s its v l7 hs hs9 v0 v1
    refine r_istore (zW_mono _ _ _) rfl (Nat.le_of_ble_eq_true rfl) ?_
    refine zxp_a hx hs v0 v1 (fun δa a0 a1 => ?_)
    refine zxp_b hx hs v0 v1 (fun δb b0 b1 => ?_)
    refine zxp_c hx hs v0 v1 (fun δc c0 c1 => ?_)
    refine zxp_d hx hs v0 v1 (fun δd d0 d1 => ?_)
    exact T _ _ _ _ _ _ _ (zu1 (by omega) a0 a1 hs9 ia) (zu1 (by omega) b0 b1 hs9 ib) (zu1 (by omega) c0 c1 hs9 ic) (zu1 (by omega) d0 d1 hs9 id)
  have J2 : ∀ (s v : Int32) (l6 l7 : Option Value), vp_in s 9 → s.toNatClampNeg < 9 → zR zTt G cd_247 0 0 (some .long) (zW zTt G d) K 168 (zLo k kn pt (Int32.ofNat c) (some (.int s)) l6 l7) [.int v] (zX4 h fa fb fc fd) 0 0 := by
    intro s v l6 l7 hs hs9
    refine r_istore (zW_mono _ _ _) rfl (Nat.le_of_ble_eq_true rfl) ?_
    refine r_aload (zW_mono _ _ _) rfl rfl ?_
    refine r_get (zW_mono _ _ _) rfl ((zx4_ne (by decide) (by decide) (by decide) (by decide)).trans c2) f66 ?_
    refine r_iload (zW_mono _ _ _) rfl rfl ?_
    refine r_zald (zW_mono _ _ _) rfl ((zx4_ne (by decide) (by decide) (by decide) (by decide)).trans a158) hv ?_
    refine r_if_eq (zW_mono _ _ _) rfl (fun _ => ?_) (fun _ => ?_)
    · refine r_push (zW_mono _ _ _) rfl ?_
      exact J3 s v 0 l7 hs hs9 (by decide) (by decide)
    · refine r_push (zW_mono _ _ _) rfl ?_
      refine r_goto (zW_mono _ _ _) rfl ?_
      exact J3 s v 1 l7 hs hs9 (by decide) (by decide)
  have J1 : ∀ (z : Int32) (l5 l6 l7 : Option Value), 0 ≤ z.toInt → z.toInt ≤ 2 → zR zTt G cd_247 0 0 (some .long) (zW zTt G d) K 144 (zLo k kn pt (Int32.ofNat c) l5 l6 l7) [.int z, .int (3 * gS (Int32.ofNat c).toNatClampNeg)] (zX4 h fa fb fc fd) 0 0 := by
    intro z l5 l6 l7 z0 z2
    have q1 := bS c hc
    rw [← e1] at q1
    have q2 : (3 * gS (Int32.ofNat c).toNatClampNeg).toInt = 3 * (gS (Int32.ofNat c).toNatClampNeg).toInt := by
      rw [Int32.toInt_mul, show (3 : Int32).toInt = 3 from rfl]
      exact Int.bmod_eq_of_le (by show (-2147483648 : Int) ≤ _; omega) (by show _ < (2147483648 : Int); omega)
    have q3 : (3 * gS (Int32.ofNat c).toNatClampNeg + z).toInt = 3 * (gS (Int32.ofNat c).toNatClampNeg).toInt + z.toInt := by
      rw [Int32.toInt_add, q2]
      exact Int.bmod_eq_of_le (by show (-2147483648 : Int) ≤ _; omega) (by show _ < (2147483648 : Int); omega)
    have q4 := yvp_in (i := 3 * gS (Int32.ofNat c).toNatClampNeg + z) (N := 9) (by omega) (by omega)
    have q5 := bC c hc
    rw [← e1] at q5
    have q6 := yvp_in (i := gC (Int32.ofNat c).toNatClampNeg) (N := 300) (by omega) (by omega)
    refine r_iadd (zW_mono _ _ _) rfl ?_
    refine r_istore (zW_mono _ _ _) rfl (Nat.le_of_ble_eq_true rfl) ?_
    refine r_aload (zW_mono _ _ _) rfl rfl ?_
    refine r_get (zW_mono _ _ _) rfl ((zx4_ne (by decide) (by decide) (by decide) (by decide)).trans c2) f16 ?_
    refine r_aload (zW_mono _ _ _) rfl rfl ?_
    refine r_get (zW_mono _ _ _) rfl ((zx4_ne (by decide) (by decide) (by decide) (by decide)).trans c2) f60 ?_
    refine r_iload (zW_mono _ _ _) rfl rfl ?_
    refine r_iald (zW_mono _ _ _) rfl ((zx4_ne (by decide) (by decide) (by decide) (by decide)).trans a152) hv ?_
    refine r_iald (zW_mono _ _ _) rfl ((zx4_ne (by decide) (by decide) (by decide) (by decide)).trans a121) q6.1 ?_
    refine r_iload (zW_mono _ _ _) rfl rfl ?_
    refine r_icmp_ne (zW_mono _ _ _) rfl (fun _ => ?_) (fun _ => ?_)
    · refine r_push (zW_mono _ _ _) rfl ?_
      exact J2 _ _ l6 l7 q4.1 q4.2
    · refine r_push (zW_mono _ _ _) rfl ?_
      refine r_goto (zW_mono _ _ _) rfl ?_
      exact J2 _ _ l6 l7 q4.1 q4.2
  refine r_aload (zW_mono _ _ _) rfl rfl ?_
  refine r_get (zW_mono _ _ _) rfl ((zx4_ne (by decide) (by decide) (by decide) (by decide)).trans c2) f65 ?_
  refine r_iload (zW_mono _ _ _) rfl rfl ?_
  refine r_iald (zW_mono _ _ _) rfl ((zx4_ne (by decide) (by decide) (by decide) (by decide)).trans a157) hv ?_
  refine r_iload (zW_mono _ _ _) rfl rfl ?_
  refine r_icmp_gt (zW_mono _ _ _) rfl (fun _ => ?_) (fun _ => ?_)
  · exact T l5 l6 l7 fa fb fc fd (fun j hj => ⟨(ia j hj).1, by have := (ia j hj).2; omega⟩) (fun j hj => ⟨(ib j hj).1, by have := (ib j hj).2; omega⟩) (fun j hj => ⟨(ic j hj).1, by have := (ic j hj).2; omega⟩) (fun j hj => ⟨(id j hj).1, by have := (id j hj).2; omega⟩)
  · refine r_push (zW_mono _ _ _) rfl ?_
    refine r_aload (zW_mono _ _ _) rfl rfl ?_
    refine r_get (zW_mono _ _ _) rfl ((zx4_ne (by decide) (by decide) (by decide) (by decide)).trans c2) f62 ?_
    refine r_iload (zW_mono _ _ _) rfl rfl ?_
    refine r_iald (zW_mono _ _ _) rfl ((zx4_ne (by decide) (by decide) (by decide) (by decide)).trans a154) hv ?_
    refine r_imul (zW_mono _ _ _) rfl ?_
    refine r_aload (zW_mono _ _ _) rfl rfl ?_
    refine r_get (zW_mono _ _ _) rfl ((zx4_ne (by decide) (by decide) (by decide) (by decide)).trans c2) f63 ?_
    refine r_iload (zW_mono _ _ _) rfl rfl ?_
    refine r_iald (zW_mono _ _ _) rfl ((zx4_ne (by decide) (by decide) (by decide) (by decide)).trans a155) hv ?_
    refine r_push (zW_mono _ _ _) rfl ?_
    refine r_icmp_ge (zW_mono _ _ _) rfl (fun _ => ?_) (fun _ => ?_)
    · refine r_aload (zW_mono _ _ _) rfl rfl ?_
      refine r_get (zW_mono _ _ _) rfl ((zx4_ne (by decide) (by decide) (by decide) (by decide)).trans c2) f63 ?_
      refine r_iload (zW_mono _ _ _) rfl rfl ?_
      refine r_iald (zW_mono _ _ _) rfl ((zx4_ne (by decide) (by decide) (by decide) (by decide)).trans a155) hv ?_
      refine r_push (zW_mono _ _ _) rfl ?_
      refine r_icmp_ge (zW_mono _ _ _) rfl (fun _ => ?_) (fun _ => ?_)
      · refine r_push (zW_mono _ _ _) rfl ?_
        exact J1 2 l5 l6 l7 (by decide) (by decide)
      · refine r_push (zW_mono _ _ _) rfl ?_
        refine r_goto (zW_mono _ _ _) rfl ?_
        exact J1 1 l5 l6 l7 (by decide) (by decide)
    · refine r_push (zW_mono _ _ _) rfl ?_
      refine r_goto (zW_mono _ _ _) rfl ?_
      exact J1 0 l5 l6 l7 (by decide) (by decide)
theorem zexp2l (hx : zXok h fs cr gK gC gS gP gT gB) (cont : ∀ (c : Int32) (l5 l6 l7 : Option Value) (fa fb fc fd : Nat → Int32), (∀ j, j < 9 → 0 ≤ (fa j).toInt ∧ (fa j).toInt ≤ 200) → (∀ j, j < 9 → 0 ≤ (fb j).toInt ∧ (fb j).toInt ≤ 200) → (∀ j, j < 9 → 0 ≤ (fc j).toInt ∧ (fc j).toInt ≤ 200) → (∀ j, j < 9 → 0 ≤ (fd j).toInt ∧ (fd j).toInt ≤ 200) → zR zTt G cd_247 0 0 (some .long) (zW zTt G d) K 275 (zLo k kn pt c l5 l6 l7) [] (zX4 h fa fb fc fd) 0 0) : ∀ (n c : Nat) (l5 l6 l7 : Option Value) (fa fb fc fd : Nat → Int32), (c : Int) + n = cr.toInt → (∀ j, j < 9 → 0 ≤ (fa j).toInt ∧ (fa j).toInt ≤ (c : Int)) → (∀ j, j < 9 → 0 ≤ (fb j).toInt ∧ (fb j).toInt ≤ (c : Int)) → (∀ j, j < 9 → 0 ≤ (fc j).toInt ∧ (fc j).toInt ≤ (c : Int)) → (∀ j, j < 9 → 0 ≤ (fd j).toInt ∧ (fd j).toInt ≤ (c : Int)) → zR zTt G cd_247 0 0 (some .long) (zW zTt G d) K 82 (zLo k kn pt (Int32.ofNat c) l5 l6 l7) [] (zX4 h fa fb fc fd) 0 0
  | 0, c, l5, l6, l7, fa, fb, fc, fd, hs, ia, ib, ic, id => by
    have hx' := hx
    obtain ⟨c2, f59, hcr, f16, f60, f62, f63, f65, f66, f67, f68, f69, f70, a121, a152, a154, a155, a157, a158, bC, bS, hl⟩ := hx'
    refine r_iload (zW_mono _ _ _) rfl rfl ?_
    refine r_aload (zW_mono _ _ _) rfl rfl ?_
    refine r_get (zW_mono _ _ _) rfl ((zx4_ne (by decide) (by decide) (by decide) (by decide)).trans c2) f59 ?_
    refine r_icmp_ge (zW_mono _ _ _) rfl (fun q => ?_) (fun q => ?_)
    · exact cont _ l5 l6 l7 fa fb fc fd (fun j hj => ⟨(ia j hj).1, by have := (ia j hj).2; omega⟩) (fun j hj => ⟨(ib j hj).1, by have := (ib j hj).2; omega⟩) (fun j hj => ⟨(ic j hj).1, by have := (ic j hj).2; omega⟩) (fun j hj => ⟨(id j hj).1, by have := (id j hj).2; omega⟩)
    · have := Int32.lt_iff_toInt_lt.mp q
      rw [yofN (by omega)] at this
      omega
  | n + 1, c, l5, l6, l7, fa, fb, fc, fd, hs, ia, ib, ic, id => by
    have hx' := hx
    obtain ⟨c2, f59, hcr, f16, f60, f62, f63, f65, f66, f67, f68, f69, f70, a121, a152, a154, a155, a157, a158, bC, bS, hl⟩ := hx'
    refine r_iload (zW_mono _ _ _) rfl rfl ?_
    refine r_aload (zW_mono _ _ _) rfl rfl ?_
    refine r_get (zW_mono _ _ _) rfl ((zx4_ne (by decide) (by decide) (by decide) (by decide)).trans c2) f59 ?_
    refine r_icmp_ge (zW_mono _ _ _) rfl (fun q => ?_) (fun q => ?_)
    · have := Int32.le_iff_toInt_le.mp q
      rw [yofN (by omega)] at this
      omega
    · exact zexp2 hx (by omega) l5 l6 l7 ia ib ic id (fun l5 l6 l7 fa fb fc fd i1 i2 i3 i4 => zexp2l hx cont n (c + 1) l5 l6 l7 fa fb fc fd (by omega) i1 i2 i3 i4)
end EXPD
