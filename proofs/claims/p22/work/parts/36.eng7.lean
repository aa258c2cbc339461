theorem yofN {N : Nat} (h : N < 2 ^ 31) : (Int32.ofNat N).toInt = N := by
  rw [← Int32.ofInt_eq_ofNat, Int32.toInt_ofInt_of_le (by omega) (by omega)]
section YK
variable {tx : yTx} {w : yW} {ρ : yR} {τ : List Nat} {h : zH} {L : yLs} {st : List yV} {Lc : zL} {sc : List Value} {c n : Nat} {X : zX}
variable {TG : List Nat} {TT : List yC} {TX : List Nat} {Gd : yGS} {I : zH → Prop} {Wr Xf : Nat → Nat → Bool} {τ0 : List Nat} {h0 : zH}
variable {tt : zT} {G : zG} {bc bs : Nat} {rt : Option FieldType} {M : zM} {ret : zQ}
theorem yAo.int {N : Nat} {vt : yT} {x : yD} (q : yAo τ N vt x) (hk : vt.1 = 0) : ∃ f : Nat → Int32, x = .inl f ∧ ∀ i, i < N → vt.2.1 ≤ (f i).toInt ∧ (f i).toInt ≤ vt.2.2.1 := by
  obtain ⟨kd, lo, hi, tg⟩ := vt
  dsimp only at hk
  subst hk
  exact q
theorem yAo.long {N : Nat} {vt : yT} {x : yD} (q : yAo τ N vt x) (hk : vt.1 = 1) : ∃ f : Nat → Int64, x = .inr (.inl f) ∧ ∀ i, i < N → vt.2.1 ≤ (f i).toInt ∧ (f i).toInt ≤ vt.2.2.1 := by
  obtain ⟨kd, lo, hi, tg⟩ := vt
  dsimp only at hk
  subst hk
  exact q
theorem yAo.ref {N : Nat} {vt : yT} {x : yD} (q : yAo τ N vt x) (hk : vt.1 = 2) : ∃ f : Nat → Option Nat, x = .inr (.inr (.inr (.inr f))) ∧ ∀ i, i < N → vt.2.1 ≤ zoi (f i) ∧ zoi (f i) ≤ vt.2.2.1 ∧ yTo τ (zoi (f i)) vt.2.2.2 := by
  obtain ⟨kd, lo, hi, tg⟩ := vt
  dsimp only at hk
  subst hk
  exact q
theorem yvo_int {vt : yT} (hk : vt.1 = 0) {x : Int32} (h1 : vt.2.1 ≤ x.toInt) (h2 : x.toInt ≤ vt.2.2.1) : yvo τ vt (.int x) := by
  obtain ⟨kd, lo, hi, tg⟩ := vt
  dsimp only at hk
  subst hk
  exact ⟨x, rfl, h1, h2⟩
theorem yvo_long {vt : yT} (hk : vt.1 = 1) {x : Int64} (h1 : vt.2.1 ≤ x.toInt) (h2 : x.toInt ≤ vt.2.2.1) : yvo τ vt (.long x) := by
  obtain ⟨kd, lo, hi, tg⟩ := vt
  dsimp only at hk
  subst hk
  exact ⟨x, rfl, h1, h2⟩
theorem yvo_ref {vt : yT} (hk : vt.1 = 2) {x : Int} (h1 : vt.2.1 ≤ x) (h2 : x ≤ vt.2.2.1) (h3 : yTo τ x vt.2.2.2) : yvo τ vt (zrn x) := by
  obtain ⟨kd, lo, hi, tg⟩ := vt
  dsimp only at hk
  subst hk
  exact ⟨x, rfl, h1, h2, h3⟩
/-- a store of an int into an array of the kinds' heap -/
theorem yHp.arr {kd t r N : Nat} {vt : yT} {f : Nat → Int32} {nlo nhi : Nat} (hI : yIs TG TT Xf I) (hh : yHp TG TT I Wr τ0 h0 τ h) (ht : τ[r]? = some t) (hT : TT[t]? = some (.inr (kd, nlo, nhi, vt))) (hr : h[r]? = some (.inl (kd, N, .inl f))) (hk : vt.1 = 0) (hW : Wr t 0 = true) (hX : Xf t 0 = false) {i : Nat} {x : Int32} (h1 : vt.2.1 ≤ x.toInt) (h2 : x.toInt ≤ vt.2.2.1) : yHp TG TT I Wr τ0 h0 τ (h.set r (.inl (kd, N, .inl (upd f i x)))) := by
  refine hh.set hI ht hT hr ?_ hW hX (fun V hV => ⟨rfl, rfl, fun q => by rw [hV] at q; cases q⟩)
  obtain ⟨ct, c2, b1, b2, b3⟩ := hh.1.2 _ _ ht
  rw [hT] at b1
  cases b1
  rw [hr] at b2
  cases b2
  obtain ⟨N', y, e, c3, c4, c5⟩ := b3
  cases e
  obtain ⟨f', e, c6⟩ := c5.int hk
  cases e
  refine ⟨N, _, rfl, c3, c4, ?_⟩
  obtain ⟨k0, lo, hi, tg⟩ := vt
  dsimp only at hk h1 h2 c6
  subst hk
  refine ⟨_, rfl, fun j hj => ?_⟩
  unfold upd
  by_cases e : j = i
  · rw [if_pos e]; exact ⟨h1, h2⟩
  · rw [if_neg e]; exact c6 j hj
theorem yHp.arl {t r N : Nat} {vt : yT} {f : Nat → Int64} {nlo nhi : Nat} (hI : yIs TG TT Xf I) (hh : yHp TG TT I Wr τ0 h0 τ h) (ht : τ[r]? = some t) (hT : TT[t]? = some (.inr (3, nlo, nhi, vt))) (hr : h[r]? = some (.inl (3, N, .inr (.inl f)))) (hk : vt.1 = 1) (hW : Wr t 0 = true) (hX : Xf t 0 = false) {i : Nat} {x : Int64} (h1 : vt.2.1 ≤ x.toInt) (h2 : x.toInt ≤ vt.2.2.1) : yHp TG TT I Wr τ0 h0 τ (h.set r (.inl (3, N, .inr (.inl (vp_updL f i x))))) := by
  refine hh.set hI ht hT hr ?_ hW hX (fun V hV => ⟨rfl, rfl, fun q => by rw [hV] at q; cases q⟩)
  obtain ⟨ct, c2, b1, b2, b3⟩ := hh.1.2 _ _ ht
  rw [hT] at b1
  cases b1
  rw [hr] at b2
  cases b2
  obtain ⟨N', y, e, c3, c4, c5⟩ := b3
  cases e
  obtain ⟨f', e, c6⟩ := c5.long hk
  cases e
  refine ⟨N, _, rfl, c3, c4, ?_⟩
  obtain ⟨k0, lo, hi, tg⟩ := vt
  dsimp only at hk h1 h2 c6
  subst hk
  refine ⟨_, rfl, fun j hj => ?_⟩
  unfold vp_updL
  by_cases e : j = i
  · rw [if_pos e]; exact ⟨h1, h2⟩
  · rw [if_neg e]; exact c6 j hj
theorem yga1_ok (hGd : yGdo tx TG TT I Gd) (g : yWo tx w ρ τ h) (hh : yHo TT τ h) (hp : yPre TG τ) (hI : I h) {t : Nat} {r i x : yL} (hr : ysp w.1 r) (hi : ysp w.1 i) (hx : ysp w.1 x) (a1 : 0 ≤ yev ρ r) (a2 : τ[(yev ρ r).toNat]? = some t) {kd N : Nat} {f : Nat → Int32} (a5 : h[(yev ρ r).toNat]? = some (.inl (kd, N, .inl f))) (a3 : 0 ≤ yev ρ i) (a6 : yev ρ i < N) {x0 : Int32} (hx0 : x0.toInt = yev ρ x) : ∀ q ∈ yga1 Gd w t r i x, yLn tx (h.set (yev ρ r).toNat (.inl (kd, N, .inl (upd f (yev ρ i).toNat x0)))) ρ w.1 q := by
  unfold yga1
  cases hb : Gd.2.1 t 0 with
  | true => exact hGd.2.2.1 w ρ τ h g hh hp hI t r i x hb hr hi hx a1 a2 kd N f a5 a3 a6 x0 hx0
  | false => exact yog_fr g (hGd.2.1 τ h _ hp hh (yst_fr a2 a5 ⟨rfl, rfl, fun e => by dsimp only at e; rw [hb] at e; cases e⟩))
theorem yga3_ok (hGd : yGdo tx TG TT I Gd) (g : yWo tx w ρ τ h) (hh : yHo TT τ h) (hp : yPre TG τ) {t r : Nat} (a2 : τ[r]? = some t) {kd N : Nat} {y y2 : yD} (a5 : h[r]? = some (.inl (kd, N, y))) : ∀ q ∈ yga3 Gd w t, yLn tx (h.set r (.inl (kd, N, y2))) ρ w.1 q := by
  unfold yga3
  cases hb : Gd.2.1 t 0 with
  | true => exact fun _ z => by cases z
  | false => exact yog_fr g (hGd.2.1 τ h _ hp hh (yst_fr a2 a5 ⟨rfl, rfl, fun e => by dsimp only at e; rw [hb] at e; cases e⟩))
theorem yga2_ok (hGd : yGdo tx TG TT I Gd) (g : yWo tx w ρ τ h) (hh : yHo TT τ h) (hp : yPre TG τ) (hI : I h) {t b : Nat} {r : yL} {v : yV} (hr : ysp w.1 r) (a1 : 0 ≤ yev ρ r) (a2 : τ[(yev ρ r).toNat]? = some t) {cls : Nat} {fs : List Value} {u : Value} (b2 : h[(yev ρ r).toNat]? = some (.inr (cls, fs))) (hb2 : b < fs.length) (hu : yVo ρ w.1 v u) : ∀ q ∈ yga2 Gd w t b r v, yLn tx (h.set (yev ρ r).toNat (.inr (cls, fs.set b u))) ρ w.1 q := by
  unfold yga2
  cases hb : Gd.2.1 t b with
  | true => exact hGd.2.2.2.1 w ρ τ h g hh hp hI t b r v hb hr a1 a2 cls fs u b2 hb2 hu
  | false =>
    refine yog_fr g (hGd.2.1 τ h _ hp hh (yst_fr a2 b2 ⟨rfl, by rw [List.length_set], fun f hf => List.getElem?_set_ne (fun e => ?_)⟩))
    dsimp only at hf
    rw [← e, hb] at hf
    cases hf
set_option maxHeartbeats 4000000 in
theorem yI2_ok {e : zE} {K : Nat → yLs → List yV → yW → Bool} (q : yI2 tt TG TT TX Gd Wr Xf e L st w K = true) (g : yWo tx w ρ τ h) (hh : yHp TG TT I Wr τ0 h0 τ h) (hI : yIs TG TT Xf I) (hTX : ∀ k l, TX[k]? = some l → 1 ≤ k → (tx.1 k).length = l ∧ 1 ≤ l ∧ l ≤ 200) (hGd : yGdo tx TG TT I Gd) (hB : ∀ k x, 1 ≤ k → x ∈ tx.1 k → 0 ≤ x.toInt ∧ x.toInt ≤ 255) (hG1 : (tx.1 0).length = G.2.2.1) (hG2 : ∀ k, 1 ≤ k → tx.1 k = G.2.1 k) (hN : G.2.2.1 < 2 ^ 31 ∧ ∀ (h : zH) (x v : Int), tx.2 6 h x v ↔ v = (G.2.2.2 x.toNat).toInt) (hL : yLo ρ w.1 L Lc) (hS : ySo ρ w.1 st sc) (hK : yGo2 tx TG TT I Wr τ0 h0 w ρ τ c n X K) : zex2 tt G bc bs rt M ret X e Lc sc h c n := by
  obtain ⟨ins, nx, a, b, d, v⟩ := e
  have rf := ySt.rf w.1 ρ
  have hp := hh.2.1
  have fin : ∀ {w' : yW} {ρ' : yR} {v : yV} {u : Value} {s : List yV} {t : List Value} {pc : Nat}, K pc L (v :: s) w' = true → ySt w.1 ρ w'.1 ρ' → yWo tx w' ρ' τ h → yVo ρ' w'.1 v u → ySo ρ w.1 s t → X pc Lc (u :: t) h c n := fun q s1 g1 v1 s2 => hK _ _ _ _ _ _ _ _ q s1 g1 hh (s1.lo hL) ⟨v1, s1.so s2⟩
  have go0 : ∀ {w' : yW} {s : List yV} {t : List Value} {pc : Nat}, K pc L s w' = true → w'.1 = w.1 → yWo tx w' ρ τ h → ySo ρ w.1 s t → X pc Lc t h c n := fun q k1 g1 s2 => hK _ _ _ _ _ _ _ _ q (by rw [k1]; exact rf) g1 hh (by rw [k1]; exact hL) (by rw [k1]; exact s2)
  unfold yI2 at q
  dsimp only at q
  split at q
  · -- tableswitch
    rename_i df lo hi tg
    split at q
    · rename_i x s
      obtain ⟨m, t, rfl, h1, h2, h3⟩ := hS.int
      rw [Bool.and_eq_true, Bool.and_eq_true, Bool.and_eq_true] at q
      obtain ⟨q1, q2, q3, q4⟩ := q
      obtain ⟨a1, -⟩ := ycnd_ok q1 g (ysp_sub h1 (ysp_con _ lo))
      obtain ⟨b1, -⟩ := ycnd_ok q2 g (ysp_sub h1 (ysp_con _ hi))
      rw [yev_sub, show ∀ z : Int, yev ρ (z, []) = z from fun z => yev_con ρ z, ← h2] at a1 b1
      refine ⟨fun z => ?_, fun z1 z2 => ?_⟩
      · rcases z with z | z
        · obtain ⟨w1, x1, x2, x3⟩ := a1 (by dsimp only [ycmp]; omega)
          exact go0 x1 x2 x3 h3
        · obtain ⟨w1, x1, x2, x3⟩ := b1 (by dsimp only [ycmp]; omega)
          exact go0 x1 x2 x3 h3
      · have hl := Nat.eq_of_beq_eq_true q3
        have e1 : Int.sub (Int.add hi 1) lo = hi + 1 - lo := rfl
        rw [e1] at hl
        obtain ⟨t1, w1, x0, x1, x2, x3⟩ := ysw_ok g h1 q4 (m.toInt - lo).toNat (by omega) (by rw [← h2]; omega)
        exact ⟨t1, by rw [← Array.getElem?_toList]; exact x0, go0 x1 x2 x3 h3⟩
    · cases q
  · -- lookupswitch
    split at q
    · obtain ⟨m, t, rfl, h1, h2, h3⟩ := hS.int
      obtain ⟨w1, x1, x2, x3⟩ := ylk_ok g h1 q
      rw [← h2] at x1
      exact go0 x1 x2 x3 h3
    · cases q
  · -- iaload
    split at q
    · rename_i i r s
      obtain ⟨m, t0, rfl, h1, h2, h3⟩ := hS.int
      obtain ⟨t, rfl, h4, h5⟩ := h3.ref
      split at q
      · rename_i tg vt hal
        obtain ⟨a1, a2, a3, -, N, x, a5, a6, a7⟩ := yal_ok hal g hp hh.1
        cases hb : Nat.beq vt.1 0 with
        | false => rw [hb] at q; cases q
        | true =>
          rw [hb, cond_true] at q
          obtain ⟨f, rfl, b1⟩ := a7.int (Nat.eq_of_beq_eq_true hb)
          rw [yget_ref a1]
          obtain ⟨c1, c2⟩ := yvp_in (i := m) (N := N) (by omega) (by omega)
          have b2 := b1 _ c2
          obtain ⟨w', ρ', v', q1, s1, g1, v1⟩ := yle2_ok q g h1 (Nat.eq_of_beq_eq_true hb) a5 (m := f m.toNatClampNeg) (by rw [← h2]; rfl) b2.1 b2.2
          obtain ⟨gk, gg⟩ := hGd.2.2.2.2 w' ρ' τ h g1 hh.1 hp hh.2.2.1 tg 0
          exact ⟨N, f, a5, c1, fin q1 (by rw [gk]; exact s1) gg (by rw [gk]; exact v1) h5⟩
      · cases q
    · cases q
  · -- baload
    split at q
    · rename_i i r s
      obtain ⟨m, t0, rfl, h1, h2, h3⟩ := hS.int
      obtain ⟨t, rfl, h4, h5⟩ := h3.ref
      split at q
      · rename_i tg vt hal
        obtain ⟨a1, a2, a3, -, N, x, a5, a6, a7⟩ := yal_ok hal g hp hh.1
        cases hb : Nat.beq vt.1 0 with
        | false => rw [hb] at q; cases q
        | true =>
          rw [hb, cond_true] at q
          obtain ⟨f, rfl, b1⟩ := a7.int (Nat.eq_of_beq_eq_true hb)
          rw [yget_ref a1]
          obtain ⟨c1, c2⟩ := yvp_in (i := m) (N := N) (by omega) (by omega)
          have b2 := b1 _ c2
          obtain ⟨w', ρ', v', q1, s1, g1, v1⟩ := yle2_ok q g h1 (Nat.eq_of_beq_eq_true hb) a5 (m := f m.toNatClampNeg) (by rw [← h2]; rfl) b2.1 b2.2
          exact ⟨1, N, f, Or.inl rfl, a5, c1, fin q1 s1 g1 v1 h5⟩
      · rename_i tg vt hal
        obtain ⟨a1, a2, a3, -, N, x, a5, a6, a7⟩ := yal_ok hal g hp hh.1
        cases hb : Nat.beq vt.1 0 with
        | false => rw [hb] at q; cases q
        | true =>
          rw [hb, cond_true] at q
          obtain ⟨f, rfl, b1⟩ := a7.int (Nat.eq_of_beq_eq_true hb)
          rw [yget_ref a1]
          obtain ⟨c1, c2⟩ := yvp_in (i := m) (N := N) (by omega) (by omega)
          have b2 := b1 _ c2
          obtain ⟨w', ρ', v', q1, s1, g1, v1⟩ := yle2_ok q g h1 (Nat.eq_of_beq_eq_true hb) a5 (m := f m.toNatClampNeg) (by rw [← h2]; rfl) b2.1 b2.2
          exact ⟨2, N, f, Or.inr rfl, a5, c1, fin q1 s1 g1 v1 h5⟩
      · cases q
    · cases q
  · -- laload
    split at q
    · rename_i i r s
      obtain ⟨m, t0, rfl, h1, h2, h3⟩ := hS.int
      obtain ⟨t, rfl, h4, h5⟩ := h3.ref
      split at q
      · rename_i tg vt hal
        obtain ⟨a1, a2, a3, -, N, x, a5, a6, a7⟩ := yal_ok hal g hp hh.1
        cases hb : Nat.beq vt.1 1 with
        | false => rw [hb] at q; cases q
        | true =>
          rw [hb, cond_true] at q
          obtain ⟨f, rfl, b1⟩ := a7.long (Nat.eq_of_beq_eq_true hb)
          rw [yget_ref a1]
          obtain ⟨c1, c2⟩ := yvp_in (i := m) (N := N) (by omega) (by omega)
          have b2 := b1 _ c2
          obtain ⟨w', ρ', v', q1, s1, g1, v1, -⟩ := yld_ok q g (yvo_long (Nat.eq_of_beq_eq_true hb) b2.1 b2.2)
          exact ⟨N, f, a5, c1, fin q1 s1 g1 v1 h5⟩
      · cases q
    · cases q
  · -- aaload
    split at q
    · rename_i i r s
      obtain ⟨m, t0, rfl, h1, h2, h3⟩ := hS.int
      obtain ⟨t, rfl, h4, h5⟩ := h3.ref
      split at q
      · rename_i tg vt hal
        obtain ⟨a1, a2, a3, -, N, x, a5, a6, a7⟩ := yal_ok hal g hp hh.1
        cases hb : Nat.beq vt.1 2 with
        | false => rw [hb] at q; cases q
        | true =>
          rw [hb, cond_true] at q
          obtain ⟨f, rfl, b1⟩ := a7.ref (Nat.eq_of_beq_eq_true hb)
          rw [yget_ref a1]
          obtain ⟨c1, c2⟩ := yvp_in (i := m) (N := N) (by omega) (by omega)
          have b2 := b1 _ c2
          have em : (yev ρ i).toNat = m.toNatClampNeg := by rw [← h2]; rfl
          have hk2 := Nat.eq_of_beq_eq_true hb
          have b3 : (yvl0 (ygc r (ygd w tg i Gd.1)) vt).2.1 ≤ zoi (f (yev ρ i).toNat) ∧ zoi (f (yev ρ i).toNat) ≤ (yvl0 (ygc r (ygd w tg i Gd.1)) vt).2.2.1 ∧ yTo τ (zoi (f (yev ρ i).toNat)) (yvl0 (ygc r (ygd w tg i Gd.1)) vt).2.2.2 := by
            obtain ⟨kd9, lo9, hi9, t9⟩ := vt
            cases hz : ygc r (ygd w tg i Gd.1) with
            | false => rw [em]; exact b2
            | true =>
              have hz2 : ygd w tg i Gd.1 = true ∧ TG[(yev ρ r).toNat]? = some tg := by
                unfold ygc at hz
                split at hz
                · rename_i c9
                  exact ⟨hz, by rw [show yev ρ (c9, []) = c9 from yev_con ρ c9]; exact yal_const hal⟩
                · cases hz
              have := ygd_ok g hp hh.2.2.1 hz2.2 a5 a3 hGd.1 hz2.1
              exact ⟨this, by rw [em]; exact b2.2.1, by rw [em]; exact b2.2.2⟩
          obtain ⟨w', ρ', v', q1, s1, g1, v1⟩ := yle3_ok q g h1 ((yvl0_1 _ _).trans hk2) a5 b3.1 b3.2.1 b3.2.2
          rw [em, ← zrf_zoi] at v1
          exact ⟨4, N, f, Or.inl rfl, a5, c1, fin q1 s1 g1 v1 h5⟩
      · rename_i tg vt hal
        obtain ⟨a1, a2, a3, -, N, x, a5, a6, a7⟩ := yal_ok hal g hp hh.1
        cases hb : Nat.beq vt.1 2 with
        | false => rw [hb] at q; cases q
        | true =>
          rw [hb, cond_true] at q
          obtain ⟨f, rfl, b1⟩ := a7.ref (Nat.eq_of_beq_eq_true hb)
          rw [yget_ref a1]
          obtain ⟨c1, c2⟩ := yvp_in (i := m) (N := N) (by omega) (by omega)
          have b2 := b1 _ c2
          have em : (yev ρ i).toNat = m.toNatClampNeg := by rw [← h2]; rfl
          have hk2 := Nat.eq_of_beq_eq_true hb
          have b3 : (yvl0 (ygc r (ygd w tg i Gd.1)) vt).2.1 ≤ zoi (f (yev ρ i).toNat) ∧ zoi (f (yev ρ i).toNat) ≤ (yvl0 (ygc r (ygd w tg i Gd.1)) vt).2.2.1 ∧ yTo τ (zoi (f (yev ρ i).toNat)) (yvl0 (ygc r (ygd w tg i Gd.1)) vt).2.2.2 := by
            obtain ⟨kd9, lo9, hi9, t9⟩ := vt
            cases hz : ygc r (ygd w tg i Gd.1) with
            | false => rw [em]; exact b2
            | true =>
              have hz2 : ygd w tg i Gd.1 = true ∧ TG[(yev ρ r).toNat]? = some tg := by
                unfold ygc at hz
                split at hz
                · rename_i c9
                  exact ⟨hz, by rw [show yev ρ (c9, []) = c9 from yev_con ρ c9]; exact yal_const hal⟩
                · cases hz
              have := ygd_ok g hp hh.2.2.1 hz2.2 a5 a3 hGd.1 hz2.1
              exact ⟨this, by rw [em]; exact b2.2.1, by rw [em]; exact b2.2.2⟩
          obtain ⟨w', ρ', v', q1, s1, g1, v1⟩ := yle3_ok q g h1 ((yvl0_1 _ _).trans hk2) a5 b3.1 b3.2.1 b3.2.2
          rw [em, ← zrf_zoi] at v1
          exact ⟨5, N, f, Or.inr rfl, a5, c1, fin q1 s1 g1 v1 h5⟩
      · cases q
    · cases q
  · -- iastore
    split at q
    · rename_i x i r s
      obtain ⟨m0, t1, rfl, h6, h7, h8⟩ := hS.int
      obtain ⟨m, t0, rfl, h1, h2, h3⟩ := h8.int
      obtain ⟨t, rfl, h4, h5⟩ := h3.ref
      split at q
      · rename_i tg vt hal
        obtain ⟨a1, a2, a3, ⟨nlo, nhi, aT⟩, N, y, a5, a6, a7⟩ := yal_ok hal g hp hh.1
        cases hb : (Nat.beq vt.1 0 && (yin w vt.2.1 vt.2.2.1 x && (Wr tg 0 && !(Xf tg 0)))) with
        | false => rw [hb] at q; cases q
        | true =>
          rw [hb, cond_true] at q
          simp only [Bool.and_eq_true, Bool.not_eq_true'] at hb
          obtain ⟨k1, k2, k3, k4⟩ := hb
          have k0 := Nat.eq_of_beq_eq_true k1
          obtain ⟨f, rfl, b1⟩ := a7.int k0
          rw [yget_ref a1]
          have k5 := yin_ok g k2
          rw [← h7] at k5
          obtain ⟨c1, c2⟩ := yvp_in (i := m) (N := N) (by omega) (by omega)
          obtain ⟨w1, w2⟩ := yst_woA (y := .inl (upd f m.toNatClampNeg m0)) g hp a2 a5
          have hl2 : (yev ρ r).toNat < h.length := by
            rcases Nat.lt_or_ge (yev ρ r).toNat h.length with z | z
            · exact z
            · rw [List.getElem?_eq_none z] at a5; cases a5
          obtain ⟨w3, w4⟩ := ytn_ok (r := r) (i := i) (l := x) w1 (by rw [w2]; exact h1) (by rw [w2]; exact h6) (List.getElem?_set_self hl2) (by rw [← h2, ← h7]; exact congrArg Int32.toInt (if_pos rfl))
          have w5 := w4.trans w2
          have em : (yev ρ i).toNat = m.toNatClampNeg := by rw [← h2]; rfl
          have wl := yga1_ok hGd g hh.1 hp hh.2.2.1 h4 h1 h6 a1 a2 a5 a3 a6 h7
          rw [em] at wl
          rw [fNn_eq, ygo_eq] at q
          obtain ⟨w3, w5'⟩ := yga_ok w3 (by rw [w5]; exact wl)
          have w5 := w5'.trans w5
          exact ⟨N, f, a5, c1, hK _ _ _ _ _ _ _ _ q (by rw [w5]; exact rf) w3 (hh.arr hI a2 aT a5 k0 k3 k4 k5.1 k5.2) (by rw [w5]; exact hL) (by rw [w5]; exact h5)⟩
      · cases q
    · cases q
  · -- bastore
    split at q
    · rename_i x i r s
      obtain ⟨m0, t1, rfl, h6, h7, h8⟩ := hS.int
      obtain ⟨m, t0, rfl, h1, h2, h3⟩ := h8.int
      obtain ⟨t, rfl, h4, h5⟩ := h3.ref
      split at q
      · rename_i tg vt hal
        obtain ⟨a1, a2, a3, ⟨nlo, nhi, aT⟩, N, y, a5, a6, a7⟩ := yal_ok hal g hp hh.1
        cases hb : (Nat.beq vt.1 0 && (yin w vt.2.1 vt.2.2.1 x && ((ile 0 vt.2.1 && ile vt.2.2.1 1) && (Wr tg 0 && !(Xf tg 0))))) with
        | false => rw [hb] at q; cases q
        | true =>
          rw [hb, cond_true] at q
          simp only [Bool.and_eq_true, Bool.not_eq_true', ile_iff] at hb
          obtain ⟨k1, k2, ⟨k6, k7⟩, k3, k4⟩ := hb
          have k0 := Nat.eq_of_beq_eq_true k1
          obtain ⟨f, rfl, b1⟩ := a7.int k0
          rw [yget_ref a1]
          have k5 := yin_ok g k2
          rw [← h7] at k5
          obtain ⟨c1, c2⟩ := yvp_in (i := m) (N := N) (by omega) (by omega)
          refine ⟨1, N, f, Or.inl rfl, a5, c1, ?_⟩
          rw [if_pos rfl]
          have e9 : vp_nar .boolean m0 = m0 := by
            unfold vp_nar
            rw [(ynar_b (x := m0) (by omega) (by omega)).1]
          rw [e9]
          obtain ⟨w1, w2⟩ := yst_woA (y := .inl (upd f m.toNatClampNeg m0)) g hp a2 a5
          have hl2 : (yev ρ r).toNat < h.length := by
            rcases Nat.lt_or_ge (yev ρ r).toNat h.length with z | z
            · exact z
            · rw [List.getElem?_eq_none z] at a5; cases a5
          obtain ⟨w3, w4⟩ := ytn_ok (r := r) (i := i) (l := x) w1 (by rw [w2]; exact h1) (by rw [w2]; exact h6) (List.getElem?_set_self hl2) (by rw [← h2, ← h7]; exact congrArg Int32.toInt (if_pos rfl))
          have w5 := w4.trans w2
          have em : (yev ρ i).toNat = m.toNatClampNeg := by rw [← h2]; rfl
          have wl := yga1_ok hGd g hh.1 hp hh.2.2.1 h4 h1 h6 a1 a2 a5 a3 a6 h7
          rw [em] at wl
          rw [fNn_eq, ygo_eq] at q
          obtain ⟨w3, w5'⟩ := yga_ok w3 (by rw [w5]; exact wl)
          have w5 := w5'.trans w5
          exact hK _ _ _ _ _ _ _ _ q (by rw [w5]; exact rf) w3 (hh.arr hI a2 aT a5 k0 k3 k4 k5.1 k5.2) (by rw [w5]; exact hL) (by rw [w5]; exact h5)
      · rename_i tg vt hal
        obtain ⟨a1, a2, a3, ⟨nlo, nhi, aT⟩, N, y, a5, a6, a7⟩ := yal_ok hal g hp hh.1
        cases hb : (Nat.beq vt.1 0 && (yin w vt.2.1 vt.2.2.1 x && ((ile (-128) vt.2.1 && ile vt.2.2.1 127) && (Wr tg 0 && !(Xf tg 0))))) with
        | false => rw [hb] at q; cases q
        | true =>
          rw [hb, cond_true] at q
          simp only [Bool.and_eq_true, Bool.not_eq_true', ile_iff] at hb
          obtain ⟨k1, k2, ⟨k6, k7⟩, k3, k4⟩ := hb
          have k0 := Nat.eq_of_beq_eq_true k1
          obtain ⟨f, rfl, b1⟩ := a7.int k0
          rw [yget_ref a1]
          have k5 := yin_ok g k2
          rw [← h7] at k5
          obtain ⟨c1, c2⟩ := yvp_in (i := m) (N := N) (by omega) (by omega)
          refine ⟨2, N, f, Or.inr rfl, a5, c1, ?_⟩
          rw [if_neg (by decide)]
          have e9 : vp_nar .byte m0 = m0 := by
            unfold vp_nar
            rw [ynar_y (x := m0) (by omega) (by omega)]
          rw [e9]
          obtain ⟨w1, w2⟩ := yst_woA (y := .inl (upd f m.toNatClampNeg m0)) g hp a2 a5
          have hl2 : (yev ρ r).toNat < h.length := by
            rcases Nat.lt_or_ge (yev ρ r).toNat h.length with z | z
            · exact z
            · rw [List.getElem?_eq_none z] at a5; cases a5
          obtain ⟨w3, w4⟩ := ytn_ok (r := r) (i := i) (l := x) w1 (by rw [w2]; exact h1) (by rw [w2]; exact h6) (List.getElem?_set_self hl2) (by rw [← h2, ← h7]; exact congrArg Int32.toInt (if_pos rfl))
          have w5 := w4.trans w2
          have em : (yev ρ i).toNat = m.toNatClampNeg := by rw [← h2]; rfl
          have wl := yga1_ok hGd g hh.1 hp hh.2.2.1 h4 h1 h6 a1 a2 a5 a3 a6 h7
          rw [em] at wl
          rw [fNn_eq, ygo_eq] at q
          obtain ⟨w3, w5'⟩ := yga_ok w3 (by rw [w5]; exact wl)
          have w5 := w5'.trans w5
          exact hK _ _ _ _ _ _ _ _ q (by rw [w5]; exact rf) w3 (hh.arr hI a2 aT a5 k0 k3 k4 k5.1 k5.2) (by rw [w5]; exact hL) (by rw [w5]; exact h5)
      · cases q
    · cases q
  · -- lastore
    split at q
    · rename_i x i r s
      obtain ⟨m0, t1, rfl, h6, h7, h8⟩ := hS.long
      obtain ⟨m, t0, rfl, h1, h2, h3⟩ := h8.int
      obtain ⟨t, rfl, h4, h5⟩ := h3.ref
      split at q
      · rename_i tg vt hal
        obtain ⟨a1, a2, a3, ⟨nlo, nhi, aT⟩, N, y, a5, a6, a7⟩ := yal_ok hal g hp hh.1
        cases hb : (Nat.beq vt.1 1 && (yin w vt.2.1 vt.2.2.1 x && (Wr tg 0 && !(Xf tg 0)))) with
        | false => rw [hb] at q; cases q
        | true =>
          rw [hb, cond_true] at q
          simp only [Bool.and_eq_true, Bool.not_eq_true'] at hb
          obtain ⟨k1, k2, k3, k4⟩ := hb
          have k0 := Nat.eq_of_beq_eq_true k1
          obtain ⟨f, rfl, b1⟩ := a7.long k0
          rw [yget_ref a1]
          have k5 := yin_ok g k2
          rw [← h7] at k5
          obtain ⟨c1, c2⟩ := yvp_in (i := m) (N := N) (by omega) (by omega)
          obtain ⟨w1, w2⟩ := yst_woA (y := .inr (.inl (vp_updL f m.toNatClampNeg m0))) g hp a2 a5
          have wl := yga3_ok (y2 := .inr (.inl (vp_updL f m.toNatClampNeg m0))) hGd g hh.1 hp a2 a5
          rw [fNn_eq, ygo_eq] at q
          obtain ⟨w1, w2'⟩ := yga_ok w1 (by rw [w2]; exact wl)
          have w2 := w2'.trans w2
          exact ⟨N, f, a5, c1, hK _ _ _ _ _ _ _ _ q (by rw [w2]; exact rf) w1 (hh.arl hI a2 aT a5 k0 k3 k4 k5.1 k5.2) (by rw [w2]; exact hL) (by rw [w2]; exact h5)⟩
      · cases q
    · cases q
  · -- arraylength
    split at q
    · rename_i r s
      obtain ⟨t, rfl, h4, h5⟩ := hS.ref
      split at q
      · rename_i tg htg
        split at q
        · rename_i kd nlo nhi vt hT
          obtain ⟨a1, a2⟩ := yrf_ok htg g hp
          obtain ⟨ct, c9, b1, b2, b3⟩ := hh.1.2 _ _ a2
          rw [yix_eq, b1] at hT
          cases hT
          obtain ⟨N, x, rfl, c2, c3, c4⟩ := b3
          cases hb : (Nat.ble kd 5 && Nat.ble nhi 100000) with
          | false => rw [hb] at q; cases q
          | true =>
            rw [hb, cond_true] at q
            rw [Bool.and_eq_true] at hb
            have k1 := Nat.le_of_ble_eq_true hb.1
            have k2 := Nat.le_of_ble_eq_true hb.2
            rw [yget_ref a1]
            have eN : (Int32.ofNat N).toInt = N := yofN (by omega)
            refine ⟨kd, N, x, by omega, b2, ?_⟩
            cases hq : Nat.beq nlo nhi with
            | true =>
              rw [hq, cond_true] at q
              have e := Nat.eq_of_beq_eq_true hq
              exact fin q rf g ⟨ysp_con _ _, _, rfl, by rw [eN, show ((Int.ofNat nlo, []) : yL) = ycon nlo from rfl, yev_con]; omega⟩ h5
            | false =>
              rw [hq, cond_false] at q
              split at q
              · rename_i l hl
                obtain ⟨v9, m1, m2, m3⟩ := ylnl_mem hl
                exact fin q rf g ⟨(g.2.2.2 _ m1).2.1, _, rfl, by rw [eN]; exact yln_len hl g a1 b2⟩ h5
              · obtain ⟨w', ρ', a9, q1, q2, q3, q4, q5⟩ := yfr_ok (x := (N : Int)) q g (by show (nlo : Int) ≤ N; omega) (by show (N : Int) ≤ nhi; omega) (Or.inl rfl)
                obtain ⟨k, E, F, H, NN⟩ := w'
                refine fin q1 q2 ⟨q3.1, q3.2.1, q3.2.2.1, fun z hz => ?_⟩ ⟨q4, _, rfl, by rw [eN]; exact q5.symm⟩ h5
                rcases List.mem_cons.mp hz with rfl | hz
                · refine ⟨q2.sp h4, q4, ?_⟩
                  intro _
                  dsimp only
                  rw [q2.ev h4]
                  exact ⟨kd, N, x, b2, q5.symm⟩
                · exact q3.2.2.2 z hz
        · cases q
      · cases q
    · cases q
  · -- getfield
    split at q
    · rename_i r s
      obtain ⟨t, rfl, h4, h5⟩ := hS.ref
      split at q
      · rename_i tg htg
        split at q
        · rename_i cls vts hT
          obtain ⟨a1, a2⟩ := yrf_ok htg g hp
          obtain ⟨ct, c9, b1, b2, b3⟩ := hh.1.2 _ _ a2
          rw [yix_eq, b1] at hT
          cases hT
          obtain ⟨fs, rfl, c2, c3⟩ := b3
          cases hb : Nat.beq cls a with
          | false => rw [hb] at q; cases q
          | true =>
            rw [hb, cond_true] at q
            have k1 := Nat.eq_of_beq_eq_true hb
            subst k1
            split at q
            · rename_i vt hvt
              rw [yix_eq] at hvt
              obtain ⟨u, u1, u2⟩ := c3 _ _ hvt
              rw [yget_ref a1]
              refine ⟨fs, u, b2, u1, ?_⟩
              split at q
              · rename_i p
                have ep : yev ρ (p, []) = p := yev_con ρ p
                rw [ep] at b2
                split at q
                · rename_i v9 hv9
                  obtain ⟨cls', fs', u', d1, d2, d3⟩ := g.2.2.1 _ (yhg_mem hv9)
                  dsimp only at d1 d2 d3
                  rw [b2] at d1
                  cases d1
                  rw [u1] at d2
                  cases d2
                  obtain ⟨gk, gg⟩ := hGd.2.2.2.2 w ρ τ h g hh.1 hp hh.2.2.1 tg b
                  exact fin q (by rw [gk]; exact rf) gg (by rw [gk]; exact d3) h5
                · obtain ⟨w', ρ', v', q1, s1, g1, v1, -⟩ := yld_ok q g u2
                  obtain ⟨e1, e2⟩ := ytk_ok (p := p.toNat) (f := b) (v := v') g1 ⟨cls, fs, u, b2, u1, v1⟩
                  obtain ⟨gk, gg⟩ := hGd.2.2.2.2 _ ρ' τ h e2 hh.1 hp hh.2.2.1 tg b
                  exact fin q1 (by rw [gk, e1]; exact s1) gg (by rw [gk, e1]; exact v1) h5
              · obtain ⟨w', ρ', v', q1, s1, g1, v1, -⟩ := yld_ok q g u2
                exact fin q1 s1 g1 v1 h5
            · cases q
        · cases q
      · cases q
    · cases q
  · -- putfield
    split at q
    · rename_i kd x r s
      obtain ⟨u, t0, rfl, hu, h3⟩ := hS.cons
      obtain ⟨t, rfl, h4, h5⟩ := h3.ref
      split at q
      · rename_i tg htg
        split at q
        · rename_i cls vts hT
          obtain ⟨a1, a2⟩ := yrf_ok htg g hp
          obtain ⟨ct, c9, b1, b2, b3⟩ := hh.1.2 _ _ a2
          rw [yix_eq] at hT
          have hT0 := hT
          rw [b1] at hT
          cases hT
          obtain ⟨fs, rfl, c2, c3⟩ := b3
          cases hb : Nat.beq cls a with
          | false => rw [hb] at q; cases q
          | true =>
            rw [hb, cond_true] at q
            have k1 := Nat.eq_of_beq_eq_true hb
            subst k1
            split at q
            · rename_i vt hvt
              rw [yix_eq] at hvt
              cases hb2 : (yzt tt cls b vt && (Nat.beq kd vt.1 && (yin w vt.2.1 vt.2.2.1 x && (Wr tg b && !(Xf tg b))))) with
              | false => rw [hb2] at q; cases q
              | true =>
                rw [hb2, cond_true] at q
                simp only [Bool.and_eq_true, Bool.not_eq_true'] at hb2
                obtain ⟨k1, k2, k3, k4, k5⟩ := hb2
                have k6 := yin_ok g k3
                have k7 := Nat.eq_of_beq_eq_true k2
                subst k7
                -- the value fits
                have key : yvo τ vt u ∧ ∃ ft : FieldType, (tt[cls]?).map (fun q => q.1 b) = some ft ∧ narrow ft u = u ∧ fits ft u = true := by
                  unfold yzt at k1
                  obtain ⟨kd, lo, hi, tgv⟩ := vt
                  dsimp only at k1 k6 hu
                  split at k1
                  · rename_i T rest hTt
                    rw [hTt]
                    dsimp only [Option.map]
                    split at k1
                    · rename_i hft
                      have e0 := Nat.eq_of_beq_eq_true k1
                      subst e0
                      obtain ⟨hu1, m, rfl, hu2⟩ := hu
                      rw [← hu2] at k6
                      exact ⟨⟨m, rfl, k6.1, k6.2⟩, _, by rw [hft], rfl, rfl⟩
                    · rename_i hft
                      rw [Bool.and_eq_true, Bool.and_eq_true, ile_iff, ile_iff] at k1
                      have e0 := Nat.eq_of_beq_eq_true k1.1
                      subst e0
                      obtain ⟨hu1, m, rfl, hu2⟩ := hu
                      rw [← hu2] at k6
                      have e9 := ynar_b (x := m) (by omega) (by omega)
                      exact ⟨⟨m, rfl, k6.1, k6.2⟩, _, by rw [hft], e9.1, e9.2⟩
                    · rename_i hft
                      have e0 := Nat.eq_of_beq_eq_true k1
                      subst e0
                      obtain ⟨hu1, m, rfl, hu2⟩ := hu
                      rw [← hu2] at k6
                      exact ⟨⟨m, rfl, k6.1, k6.2⟩, _, by rw [hft], rfl, rfl⟩
                    · cases k1
                  · cases k1
                obtain ⟨ku, ft, f1, f2, f3⟩ := key
                have hbl : b < fs.length := by
                  rw [c2]
                  rcases Nat.lt_or_ge b vts.length with z | z
                  · exact z
                  · rw [List.getElem?_eq_none z] at hvt; cases hvt
                have hcf : ∀ V : Nat → Bool, V b = true → yCf V (.inr (cls, fs)) (.inr (cls, fs.set b u)) := fun V hV => ⟨rfl, by rw [List.length_set], fun f hf => List.getElem?_set_ne (fun e => by rw [← e, hV] at hf; cases hf)⟩
                have hco : yCo τ (.inl (cls, vts)) (.inr (cls, fs.set b u)) := by
                  refine ⟨_, rfl, by rw [List.length_set]; exact c2, fun i vt' hv' => ?_⟩
                  by_cases e : b = i
                  · subst e
                    rw [hvt] at hv'
                    cases hv'
                    exact ⟨u, List.getElem?_set_self hbl, ku⟩
                  · rw [List.getElem?_set_ne e]
                    exact c3 i vt' hv'
                have hh2 := hh.set hI a2 b1 b2 hco k4 k5 hcf
                obtain ⟨g2, gk⟩ := yst_wo (W := fun z => Nat.beq z b) (f := b) (fun x e => by cases e) g hp a2 b2 (hcf _ (Nat.beq_refl b)) (fun z hz => by
                  cases e : Nat.beq z b with
                  | false => rfl
                  | true => exact absurd (Nat.eq_of_beq_eq_true e) hz)
                rw [yget_ref a1]
                refine ⟨fs, ft, b2, hbl, f1, f2, f3, ?_⟩
                have wl := yga2_ok hGd g hh.1 hp hh.2.2.1 h4 a1 a2 b2 hbl hu
                split at q
                · rename_i p
                  have ep : yev ρ (p, []) = p := yev_con ρ p
                  have hl2 : p.toNat < h.length := by
                    rw [ep] at b2
                    rcases Nat.lt_or_ge p.toNat h.length with z | z
                    · exact z
                    · rw [List.getElem?_eq_none z] at b2; cases b2
                  obtain ⟨e1, e2⟩ := ytk_ok (p := p.toNat) (f := b) (v := (vt.1, x)) g2 ⟨cls, fs.set b u, u, by rw [ep]; exact List.getElem?_set_self hl2, List.getElem?_set_self hbl, by rw [gk]; exact hu⟩
                  have e3 := e1.trans gk
                  rw [fNn_eq, ygo_eq] at q
                  obtain ⟨e2, e3'⟩ := yga_ok e2 (by rw [e3]; exact wl)
                  have e3 := e3'.trans e3
                  exact hK _ _ _ _ _ _ _ _ q (by rw [e3]; exact rf) e2 hh2 (by rw [e3]; exact hL) (by rw [e3]; exact h5)
                · rw [fNn_eq, ygo_eq] at q
                  obtain ⟨g2, gk'⟩ := yga_ok g2 (by rw [gk]; exact wl)
                  have gk := gk'.trans gk
                  exact hK _ _ _ _ _ _ _ _ q (by rw [gk]; exact rf) g2 hh2 (by rw [gk]; exact hL) (by rw [gk]; exact h5)
            · cases q
        · cases q
      · cases q
    · cases q
  · -- i2c
    split at q
    · rename_i x s
      obtain ⟨t, rfl, h4, h5⟩ := hS.txt
      cases hb : Nat.ble (yctg s) 8 with
      | false => rw [hb] at q; cases q
      | true =>
        rw [hb, cond_true] at q
        have hc := Nat.le_of_ble_eq_true hb
        rw [← h5.ctg] at hc
        obtain ⟨w', ρ', l, q1, s1, g1, a1, a2, a3, a4, a5⟩ := ytl_ok q g h4 hTX
        have e := hG2 (yev ρ x).toNat (by omega)
        rw [e] at a3 a4 a5
        refine ⟨by omega, hc, fin q1 s1 g1 ⟨a1, _, rfl, ?_⟩ h5⟩
        rw [← a3]
        exact yofN (by omega)
    · cases q
  · -- caload
    split at q
    · rename_i i x s
      obtain ⟨m, t0, rfl, h1, h2, h3⟩ := hS.int
      obtain ⟨t, rfl, h4, h5⟩ := h3.txt
      cases hb : (Nat.ble (yctg s) 8 && yle w.2.1 w.2.2.1 (yneg i)) with
      | false => rw [hb] at q; cases q
      | true =>
        rw [hb, cond_true] at q
        rw [Bool.and_eq_true] at hb
        have hc := Nat.le_of_ble_eq_true hb.1
        rw [← h5.ctg] at hc
        have hi0 := g.le hb.2
        rw [yev_neg] at hi0
        obtain ⟨w', ρ', l, q1, s1, g1, a1, a2, a3, a4, a5⟩ := ytl_ok q g h4 hTX
        have e := hG2 (yev ρ x).toNat (by omega)
        cases hb2 : yle w'.2.1 w'.2.2.1 (yadd (ycon 1) (ysub i l)) with
        | false => rw [hb2] at q1; cases q1
        | true =>
          rw [hb2, cond_true] at q1
          have hlt := g1.le hb2
          rw [yev_add, yev_sub, yev_con, s1.ev h1, ← a3, e] at hlt
          obtain ⟨c1, c2⟩ := yvp_in (i := m) (N := (G.2.1 (yev ρ x).toNat).length) (by omega) (by omega)
          have hbd := hB (yev ρ x).toNat ((G.2.1 (yev ρ x).toNat).getD m.toNatClampNeg 0) (by omega) (by
            rw [e, List.getD_eq_getElem?_getD, List.getElem?_eq_getElem c2]
            exact List.getElem_mem c2)
          obtain ⟨w2, ρ2, v2, q2, s2, g2, v2'⟩ := yfr_i q1 g1 ((G.2.1 (yev ρ x).toNat).getD m.toNatClampNeg 0) hbd.1 hbd.2
          exact ⟨c1, hc, fin q2 (s1.tr s2) g2 v2' h5⟩
    · cases q
  · -- i2s
    split at q
    · rename_i c0 s
      obtain ⟨t, rfl, h4, h5⟩ := hS.txt
      cases hb : ieq0 c0 with
      | false => rw [hb] at q; cases q
      | true =>
        rw [hb, cond_true] at q
        have e0 := (ieq0_iff _).mp hb
        subst e0
        split at q
        · rename_i l hl
          obtain ⟨v9, m1, m2, m3⟩ := ylnl_mem hl
          obtain ⟨-, g2, g3⟩ := g.2.2.2 _ m1
          obtain ⟨v1, v2⟩ := v9
          dsimp only at m2 m3 g2 g3
          subst m2
          rw [m3, show yev ρ (0, []) = 0 from yev_con ρ 0] at g3
          have g3' : (((tx.1 0).length : Nat) : Int) = yev ρ l := g3
          rw [hG1] at g3'
          rw [show yev ρ (0, []) = 0 from yev_con ρ 0]
          refine fin q rf g ⟨g2, _, rfl, ?_⟩ h5
          rw [← g3']
          exact yofN hN.1
        · cases q
    · cases q
  · -- saload
    split at q
    · rename_i i c0 s
      obtain ⟨m, t0, rfl, h1, h2, h3⟩ := hS.int
      obtain ⟨t, rfl, h4, h5⟩ := h3.txt
      cases hb : (ieq0 c0 && yle w.2.1 w.2.2.1 (yneg i)) with
      | false => rw [hb] at q; cases q
      | true =>
        rw [hb, cond_true] at q
        rw [Bool.and_eq_true] at hb
        have e0 := (ieq0_iff _).mp hb.1
        subst e0
        have hi0 := g.le hb.2
        rw [yev_neg] at hi0
        split at q
        · rename_i l hl
          obtain ⟨v9, m1, m2, m3⟩ := ylnl_mem hl
          obtain ⟨-, g2, g3⟩ := g.2.2.2 _ m1
          obtain ⟨v1, v2⟩ := v9
          dsimp only at m2 m3 g2 g3
          subst m2
          rw [m3, show yev ρ (0, []) = 0 from yev_con ρ 0] at g3
          have g3' : (((tx.1 0).length : Nat) : Int) = yev ρ l := g3
          rw [hG1] at g3'
          rw [show yev ρ (0, []) = 0 from yev_con ρ 0]
          cases hb2 : yle w.2.1 w.2.2.1 (yadd (ycon 1) (ysub i l)) with
          | false => rw [hb2] at q; cases q
          | true =>
            rw [hb2, cond_true] at q
            have hlt := g.le hb2
            rw [yev_add, yev_sub, yev_con, ← g3'] at hlt
            obtain ⟨c1, c2⟩ := yvp_in (i := m) (N := G.2.2.1) (by omega) (by omega)
            have em : (yev ρ i).toNat = m.toNatClampNeg := by rw [← h2]; rfl
            split at q
            · rename_i x9 hx9
              obtain ⟨⟨z1, z2⟩, m1, m2, m3⟩ := ylnl_mem hx9
              dsimp only at m2 m3
              subst m2
              obtain ⟨-, g5, g6⟩ := g.2.2.2 _ m1
              have g6' : tx.2 6 h (yev ρ z2) (yev ρ x9) := g6
              rw [m3, hN.2, em] at g6'
              exact ⟨c1, fin q rf g ⟨g5, _, rfl, g6'.symm⟩ h5⟩
            · obtain ⟨w2, ρ2, a9, q2, s2, g2, k1, k2⟩ := yfr_ok (x := (G.2.2.2 m.toNatClampNeg).toInt) q g (i32_b _).1 (i32_b _).2 (Or.inl rfl)
              rw [ygo1_eq] at q2
              obtain ⟨g3, k3⟩ := yga_ok (l := [((100010, i), a9)]) g2 (fun z hz => by
                rcases List.mem_singleton.mp hz with rfl
                refine ⟨s2.sp h1, k1, ?_⟩
                show tx.2 6 h (yev ρ2 i) (yev ρ2 a9)
                rw [hN.2, k2, s2.ev h1, em])
              exact ⟨c1, fin q2 (by rw [k3]; exact s2) g3 (by rw [k3]; exact ⟨k1, _, rfl, k2.symm⟩) h5⟩
        · cases q
    · cases q
  · cases q
end YK
