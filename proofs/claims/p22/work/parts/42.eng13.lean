/-! contracts by checked runs -/
noncomputable def yspb (k : Nat) : List (Nat × Int) → Bool
  | [] => true
  | (i, _) :: r => Nat.blt i k && yspb k r
theorem yspb_ok {k : Nat} {a : yL} (h : yspb k a.2 = true) : ysp k a := by
  obtain ⟨c, t⟩ := a
  intro q hq
  dsimp only at h hq
  induction t with
  | nil => cases hq
  | cons x r ih =>
    obtain ⟨i, z⟩ := x
    unfold yspb at h
    rw [Bool.and_eq_true] at h
    rcases List.mem_cons.mp hq with rfl | hq
    · have := h.1
      exact Nat.le_of_ble_eq_true this
    · exact ih h.2 hq
section YQ
variable (tt : zT) (P : List zI) (TG : List Nat) (TT : List yC) (TX : List Nat) (Gd : yGS) (Xf : Nat → Nat → Bool) (CT : List (List yCt)) (F : Nat)
noncomputable def ycks (info : zI) (ct : yCt) (cuts : List yCu) : List yCu → Bool
  | [] => true
  | (pc, M, r, c, n) :: rest => (yspb (Nat.add ct.1.1.length M.1.length) r.2 && yX tt P TG TT TX Gd (ywf ct.2.1) Xf CT ct.2.2.1 ct.2.2.2 cuts ct.1.1.length (some r) F (info, pc, M.2.2.2.1, M.2.2.2.2.1, c, n) [] (yMw (Nat.add ct.1.1.length M.1.length) M) true) && ycks info ct cuts rest
noncomputable def ychk (j : Nat) (ct : yCt) (cuts : List yCu) : Bool := match yix P j with
  | none => false
  | some info => Nat.ble ct.1.2.2.2.1.length info.2.1 && (yspb ct.1.1.length ct.2.2.1.2 && (yle ct.1.2.1 ct.1.2.2.1 (ysub (ycon 1) ct.2.2.1) && (fLs (ypad ct.1.2.2.2.1 info.2.1) (fun L => yX tt P TG TT TX Gd (ywf ct.2.1) Xf CT ct.2.2.1 ct.2.2.2 cuts ct.1.1.length none F (info, 0, L, [], (0, []), (0, [])) [] (yMw ct.1.1.length ct.1) true) && ycks tt P TG TT TX Gd Xf CT F info ct cuts cuts)))
end YQ
section YQ2
variable {tt : zT} {G : zG} {tx : yTx} {P : List zI} {TG : List Nat} {TT : List yC} {TX : List Nat} {Gd : yGS} {I : zH → Prop} {Xf : Nat → Nat → Bool} {CT : List (List yCt)} {F : Nat}
theorem ycks_at {info : zI} {ct : yCt} {cuts : List yCu} : ∀ {l : List yCu}, ycks tt P TG TT TX Gd Xf CT F info ct cuts l = true → ∀ q ∈ l, ysp (ct.1.1.length + q.2.1.1.length) q.2.2.1 ∧ yX tt P TG TT TX Gd (ywf ct.2.1) Xf CT ct.2.2.1 ct.2.2.2 cuts ct.1.1.length (some q.2.2.1) F (info, q.1, q.2.1.2.2.2.1, q.2.1.2.2.2.2.1, q.2.2.2.1, q.2.2.2.2) [] (yMw (ct.1.1.length + q.2.1.1.length) q.2.1) true = true
  | [], _, _, h => by cases h
  | (pc, M, r, c, n) :: rest, q, x, hx => by
    unfold ycks at q
    rw [Bool.and_eq_true, Bool.and_eq_true] at q
    rcases List.mem_cons.mp hx with rfl | hx
    · exact ⟨yspb_ok q.1.1, q.1.2⟩
    · exact ycks_at q.2 x hx
theorem ychk_base {j : Nat} {ct : yCt} {cuts : List yCu} (q : ychk tt P TG TT TX Gd Xf CT F j ct cuts = true) : yVl tt G tx TG TT I j ct 0 := by
  intro ρ τ h as d hp hlt _
  unfold ychk at q
  split at q
  · cases q
  · simp only [Bool.and_eq_true] at q
    obtain ⟨q1, q2, q3, q4, q5⟩ := q
    have := yWo.le hp.1 q3
    rw [yev_sub, yev_con] at this
    omega
/-- the loops' heads of a run, of a method or of the law -/
theorem ycks_ok (hGP : G.1 = P) (hI : yIs TG TT Xf I) (hTX : ∀ k l, TX[k]? = some l → 1 ≤ k → (tx.1 k).length = l ∧ 1 ≤ l ∧ l ≤ 200) (hGd : yGdo tx TG TT I Gd) (hB : ∀ k x, 1 ≤ k → x ∈ tx.1 k → 0 ≤ x.toInt ∧ x.toInt ≤ 255) (hG1 : (tx.1 0).length = G.2.2.1) (hG2 : ∀ k, 1 ≤ k → tx.1 k = G.2.1 k) (hN : G.2.2.1 < 2 ^ 31 ∧ ∀ (h : zH) (x v : Int), tx.2 6 h x v ↔ v = (G.2.2.2 x.toNat).toInt) {info : zI} {ct : yCt} {cuts : List yCu} (q5 : ycks tt P TG TT TX Gd Xf CT F info ct cuts cuts = true) (hlv : ysp ct.1.1.length ct.2.2.1) {ρ : yR} {τ : List Nat} {h : zH} {dt : Nat} (hle : yev ρ ct.2.2.1 ≤ dt + 1) (hCT2 : ∀ j cts ct', CT[j]? = some cts → ct' ∈ cts → yVl tt G tx TG TT I j ct' (yev ρ ct.2.2.1)) : ∀ q ∈ cuts, ∀ k : Nat, yCo2 tt G tx TG TT I (ywf ct.2.1) τ h ct.1.1.length ρ (yPo tx TG TT I (ywf ct.2.1) ct.1.1.length ct.2.2.2 ρ τ h) dt info q (fun z => z < k) := by
  intro q hq k
  induction k using Nat.strongRecOn generalizing q with
  | ind k ih =>
    intro ρ2 τ2 h2 Lc sc cN nN e1 g2 hh2 hL2 hS2 hc2 hn2 hr0 hrk
    obtain ⟨y1, y2⟩ := ycks_at q5 q hq
    have hρ : yev ρ2 ct.2.2.1 = yev ρ ct.2.2.1 := yev_ext hlv e1
    have e10 : yPo tx TG TT I (ywf ct.2.1) ct.1.1.length ct.2.2.2 ρ2 τ h = yPo tx TG TT I (ywf ct.2.1) ct.1.1.length ct.2.2.2 ρ τ h := by
      funext v h9
      unfold yPo
      have : ∀ ρ' : yR, (∀ i, i < ct.1.1.length → ρ' i = ρ2 i) ↔ (∀ i, i < ct.1.1.length → ρ' i = ρ i) := fun ρ' => ⟨fun z i hi => (z i hi).trans (e1 i hi), fun z i hi => (z i hi).trans (e1 i hi).symm⟩
      simp only [this]
    have := yX_ok (tt := tt) (G := G) (tx := tx) (P := P) (TG := TG) (TT := TT) (TX := TX) (Gd := Gd) (I := I) (Wr := ywf ct.2.1) (Xf := Xf) (CT := CT) (lev := ct.2.2.1) (posts := ct.2.2.2) (cuts := cuts) (m := ct.1.1.length) (rk := some q.2.2.1) (τ0 := τ) (h0 := h) (k0 := ct.1.1.length + q.2.1.1.length) (ρ0 := ρ2) (dt := dt) (info0 := info) hGP hI hTX hGd hB hG1 hG2 hN (ysp_mono (Nat.le_add_right _ _) hlv) (by rw [hρ]; omega) (by rw [hρ]; exact hCT2) (Nat.le_add_right _ _) (fun r0 e => by cases e; exact y1) ?_ F true _ _ _ _ _ _ _ _ y2 ρ2 τ2 h2 Lc sc cN nN [] dt (ySt.rf _ _) g2 hh2 hL2 hS2 hc2 hn2 trivial (by simp) rfl
    · have e9 : ∀ X : zQ, yKt tt G X dt [] = X := fun _ => rfl
      rw [e9, e10] at this
      exact this
    · intro q' hq' ρ3 τ3 h3 Lc3 sc3 cN3 nN3 f1 f2 f3 f4 f5 f6 f7 f8 f9
      have f10 := f9 _ rfl
      rw [e10]
      exact ih (yev ρ2 q.2.2.1).toNat (by omega) q' hq' ρ3 τ3 h3 Lc3 sc3 cN3 nN3 (fun i hi => (f1 i hi).trans (e1 i hi)) f2 f3 f4 f5 f6 f7 f8 (by omega)
theorem ychk_ok (hGP : G.1 = P) (hI : yIs TG TT Xf I) (hTX : ∀ k l, TX[k]? = some l → 1 ≤ k → (tx.1 k).length = l ∧ 1 ≤ l ∧ l ≤ 200) (hGd : yGdo tx TG TT I Gd) (hB : ∀ k x, 1 ≤ k → x ∈ tx.1 k → 0 ≤ x.toInt ∧ x.toInt ≤ 255) (hG1 : (tx.1 0).length = G.2.2.1) (hG2 : ∀ k, 1 ≤ k → tx.1 k = G.2.1 k) (hN : G.2.2.1 < 2 ^ 31 ∧ ∀ (h : zH) (x v : Int), tx.2 6 h x v ↔ v = (G.2.2.2 x.toNat).toInt) {j : Nat} {ct : yCt} {cuts : List yCu} (q : ychk tt P TG TT TX Gd Xf CT F j ct cuts = true) (n : Nat) (hCT : ∀ j cts ct, CT[j]? = some cts → ct ∈ cts → yVl tt G tx TG TT I j ct n) : yVl tt G tx TG TT I j ct (n + 1 : Nat) := by
  intro ρ τ h as d hp hlt hd
  unfold ychk at q
  split at q
  · cases q
  · rename_i info hj
    obtain ⟨cd, nL, rt, mc, ms⟩ := info
    rw [yix_eq] at hj
    simp only [Bool.and_eq_true] at q
    obtain ⟨q1, q2, q3, q4, q5⟩ := q
    rw [fLs_eq] at q4
    have x1 := Nat.le_of_ble_eq_true q1
    have hlv := yspb_ok q2
    have x3 := yWo.le hp.1 q3
    rw [yev_sub, yev_con] at x3
    obtain ⟨hW, hH, hTG, hIh, hA⟩ := hp
    obtain ⟨dt, rfl⟩ : ∃ dt, d = dt + 1 := ⟨d - 1, by omega⟩
    have hh : yHp TG TT I (ywf ct.2.1) τ h τ h := ⟨hH, hTG, hIh, yPre.rf _, yFr.rf _ _ _⟩
    have hCT2 : ∀ j cts ct', CT[j]? = some cts → ct' ∈ cts → yVl tt G tx TG TT I j ct' (yev ρ ct.2.2.1) := fun j cts ct' hj hin ρ2 τ2 h2 as2 d2 a b c => hCT j cts ct' hj hin ρ2 τ2 h2 as2 d2 a (by omega) c
    have hcut := ycks_ok (tt := tt) (tx := tx) hGP hI hTX hGd hB hG1 hG2 hN q5 hlv (ρ := ρ) (τ := τ) (h := h) (dt := dt) (by omega) hCT2
    unfold zW
    rw [hGP, hj]
    refine ⟨by rw [← hA.len]; exact x1, ?_⟩
    have := yX_ok (tt := tt) (G := G) (tx := tx) (P := P) (TG := TG) (TT := TT) (TX := TX) (Gd := Gd) (I := I) (Wr := ywf ct.2.1) (Xf := Xf) (CT := CT) (lev := ct.2.2.1) (posts := ct.2.2.2) (cuts := cuts) (m := ct.1.1.length) (rk := none) (τ0 := τ) (h0 := h) (k0 := ct.1.1.length) (ρ0 := ρ) (dt := dt) (info0 := (cd, nL, rt, mc, ms)) hGP hI hTX hGd hB hG1 hG2 hN hlv (by omega) hCT2 (Nat.le_refl _) (fun r0 e => by cases e) (fun q hq ρ3 τ3 h3 Lc3 sc3 cN3 nN3 f1 f2 f3 f4 f5 f6 f7 f8 _ => hcut q hq ((yev ρ3 q.2.2.1).toNat + 1) ρ3 τ3 h3 Lc3 sc3 cN3 nN3 f1 f2 f3 f4 f5 f6 f7 f8 (by omega)) F true _ _ _ _ _ _ _ _ q4 ρ τ h (zentry as nL) [] 0 0 [] dt (ySt.rf _ _) hW hh (ypad_ok hA nL) trivial ⟨ysp_con _ _, (yev_con ρ 0).symm⟩ ⟨ysp_con _ _, (yev_con ρ 0).symm⟩ trivial (by simp) rfl
    exact this
/-- all contracts hold, at every level -/
theorem yAll (hb : ∀ j cts ct, CT[j]? = some cts → ct ∈ cts → yVl tt G tx TG TT I j ct 0) (hs : ∀ j cts ct, CT[j]? = some cts → ct ∈ cts → ∀ n : Nat, (∀ j cts ct, CT[j]? = some cts → ct ∈ cts → yVl tt G tx TG TT I j ct n) → yVl tt G tx TG TT I j ct (n + 1 : Nat)) : ∀ (n : Nat) (j : Nat) (cts : List yCt) (ct : yCt), CT[j]? = some cts → ct ∈ cts → yVl tt G tx TG TT I j ct n
  | 0, j, cts, ct, h, hi => hb j cts ct h hi
  | n + 1, j, cts, ct, h, hi => hs j cts ct h hi n (yAll hb hs n)
end YQ2
