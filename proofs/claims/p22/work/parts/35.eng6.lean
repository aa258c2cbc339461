/-! instructions of cells, by names -/
noncomputable def yHp (TG : List Nat) (TT : List yC) (I : zH → Prop) (W : Nat → Nat → Bool) (τ0 : List Nat) (h0 : zH) (τ : List Nat) (h : zH) : Prop := yHo TT τ h ∧ yPre TG τ ∧ I h ∧ yPre τ0 τ ∧ yFr W τ0 h0 h
/-- what is kept of the heap stays over stores elsewhere -/
noncomputable def yIs (TG : List Nat) (TT : List yC) (Xf : Nat → Nat → Bool) (I : zH → Prop) : Prop := ∀ (τ : List Nat) (h h2 : zH), yPre TG τ → h2.length = h.length → yHo TT τ h → yFr (fun t f => !(Xf t f)) τ h h2 → I h → I h2
theorem yHp.set {TG : List Nat} {TT : List yC} {I : zH → Prop} {W Xf : Nat → Nat → Bool} {τ0 τ : List Nat} {h0 h : zH} (hI : yIs TG TT Xf I) (q : yHp TG TT I W τ0 h0 τ h) {r t f : Nat} {c c2 : zC} {ct : yC} (ht : τ[r]? = some t) (hT : TT[t]? = some ct) (hr : h[r]? = some c) (h2 : yCo τ ct c2) (hW : W t f = true) (hX : Xf t f = false) (hc : ∀ V : Nat → Bool, V f = true → yCf V c c2) : yHp TG TT I W τ0 h0 τ (h.set r c2) := by
  obtain ⟨a1, a2, a3, a4, a5⟩ := q
  refine ⟨yst_heap a1 ht hT hr h2, a2, ?_, a4, ?_⟩
  · exact hI τ h _ a2 (by rw [List.length_set]) a1 (yst_fr ht hr (hc _ (by rw [hX]; rfl))) a3
  · intro p t' x hp hx
    obtain ⟨y, b1, b2⟩ := a5 p t' x hp hx
    by_cases hz : r = p
    · subst hz
      have := a4 _ _ hp
      rw [ht] at this
      cases this
      rw [hr] at b1
      cases b1
      have hl : r < h.length := by
        rcases Nat.lt_or_ge r h.length with z | z
        · exact z
        · rw [List.getElem?_eq_none z] at hr; cases hr
      exact ⟨c2, List.getElem?_set_self hl, b2.tr (hc _ hW)⟩
    · exact ⟨y, by rw [List.getElem?_set_ne hz]; exact b1, b2⟩
noncomputable def fNn {β : Type} : yN → (yN → β) → β
  | [], k => k []
  | (v, l) :: r, k => fV v fun v => fL l fun l => fNn r fun r => k ((v, l) :: r)
theorem fNn_eq {β : Type} : ∀ (θ : yN) (k : yN → β), fNn θ k = k θ
  | [], k => rfl
  | (v, l) :: r, k => by simp only [fNn, fV_eq, fL_eq, fNn_eq r]
noncomputable def fHh {β : Type} : yH → (yH → β) → β
  | [], k => k []
  | (p, f, v) :: r, k => fV v fun v => fHh r fun r => k ((p, f, v) :: r)
theorem fHh_eq {β : Type} : ∀ (θ : yH) (k : yH → β), fHh θ k = k θ
  | [], k => rfl
  | (p, f, v) :: r, k => by simp only [fHh, fV_eq, fHh_eq r]
noncomputable def ygo1 (w : yW) (K : yW → Bool) : Bool := match w with
  | (k, E, F, H, N) => K (k, E, F, H, N)
noncomputable def ygo (w : yW) (K : yW → Bool) : Bool := match w with
  | (k, E, F, H, N) => fHh H fun H => fNn N fun N => K (k, E, F, H, N)
theorem ygo1_eq (w : yW) (K : yW → Bool) : ygo1 w K = K w := rfl
theorem ygo_eq (w : yW) (K : yW → Bool) : ygo w K = K w := by
  obtain ⟨k, E, F, H, N⟩ := w
  simp only [ygo, fHh_eq, fNn_eq]
theorem yog_fr {tx : yTx} {w : yW} {ρ : yR} {τ : List Nat} {h h2 : zH} (g : yWo tx w ρ τ h) (hf : ∀ (k : Nat) (x v : Int), tx.2 k h x v → tx.2 k h2 x v) : ∀ q ∈ yogh w.2.2.2.2, yLn tx h2 ρ w.1 q := by
  intro q hq
  obtain ⟨a, b⟩ := yogh_mem hq
  obtain ⟨g1, g2, g3⟩ := g.2.2.2 q a
  obtain ⟨v, l⟩ := q
  obtain ⟨kd, a⟩ := v
  obtain ⟨p, rfl, hp⟩ := ykg_at b
  refine ⟨g1, g2, ?_⟩
  have g3' : yL4 tx h p _ _ := g3
  show yL4 tx h2 p _ _
  unfold yL4 at g3' ⊢
  rw [hp] at g3' ⊢
  exact hf _ _ _ g3'
noncomputable def ysw (w : yW) (x : yL) (K : Nat → yW → Bool) : List Int → Int → Bool
  | [], _ => true
  | t :: r, i => ycnd .eq w (ysub x (i, [])) (fun w => K t.toNat w) (fun _ => true) && ysw w x K r (Int.add i 1)
noncomputable def ylk (x : yL) (df : Int) (K : Nat → yW → Bool) : List (Int × Int) → yW → Bool
  | [], w => K df.toNat w
  | (k, t) :: r, w => ycnd .eq w (ysub x (k, [])) (fun w => K t.toNat w) (fun w => ylk x df K r w)
/-- the length of a text -/
noncomputable def ytl (TX : List Nat) (w : yW) (x : yL) (K : yL → yW → Bool) : Bool := match x with
  | (c, []) => (match yix TX c.toNat with
    | some l => bif ile 1 c then K (Int.ofNat l, []) w else false
    | none => false)
  | _ => bif yin w 1 (Int.sub (Int.ofNat TX.length) 1) x then (match ylnl w.2.2.2.2 (3, x) with
    | some l => K l w
    | none => yfr w 0 1 200 0 fun l w => (match w with
      | (k, E, F, H, N) => K l.2 (k, E, F, H, ((3, x), l.2) :: N))) else false
noncomputable def yzt (tt : zT) (a b : Nat) (v : yT) : Bool := match tt[a]? with
  | some (T, _) => (match T b with
    | .int => Nat.beq v.1 0
    | .boolean => Nat.beq v.1 0 && (ile 0 v.2.1 && ile v.2.2.1 1)
    | .long => Nat.beq v.1 1
    | _ => false)
  | none => false
/-- elements below a field's number are cells, not null -/
noncomputable def yGd0 (TG : List Nat) (I : zH → Prop) (Gd : List (Nat × Nat × Nat)) : Prop := ∀ (t p f : Nat), (t, p, f) ∈ Gd → ∀ (τ : List Nat) (h : zH), yPre TG τ → I h → ∀ (r kd N : Nat) (fn : Nat → Option Nat), TG[r]? = some t → h[r]? = some (.inl (kd, N, .inr (.inr (.inr (.inr fn))))) → ∀ (cls : Nat) (fs : List Value) (n : Int32), h[p]? = some (.inr (cls, fs)) → fs[f]? = some (.int n) → ∀ i : Nat, (i : Int) < n.toInt → 0 ≤ zoi (fn i)
/-- what is due of the remembered relations: frame, stores into arrays, into fields, loads -/
noncomputable def yGfr (tx : yTx) (TG : List Nat) (TT : List yC) (Gd : yGS) : Prop := ∀ (τ : List Nat) (h h2 : zH), yPre TG τ → yHo TT τ h → yFr (fun t f => !(Gd.2.1 t f)) τ h h2 → ∀ (k : Nat) (x v : Int), tx.2 k h x v → tx.2 k h2 x v
noncomputable def yGwa (tx : yTx) (TG : List Nat) (TT : List yC) (I : zH → Prop) (Gd : yGS) : Prop := ∀ (w : yW) (ρ : yR) (τ : List Nat) (h : zH), yWo tx w ρ τ h → yHo TT τ h → yPre TG τ → I h → ∀ (t : Nat) (r i x : yL), Gd.2.1 t 0 = true → ysp w.1 r → ysp w.1 i → ysp w.1 x → 0 ≤ yev ρ r → τ[(yev ρ r).toNat]? = some t → ∀ (kd N : Nat) (f : Nat → Int32), h[(yev ρ r).toNat]? = some (.inl (kd, N, .inl f)) → 0 ≤ yev ρ i → yev ρ i < N → ∀ x0 : Int32, x0.toInt = yev ρ x → ∀ q ∈ Gd.2.2.1 w t 0 r i x, yLn tx (h.set (yev ρ r).toNat (.inl (kd, N, .inl (upd f (yev ρ i).toNat x0)))) ρ w.1 q
noncomputable def yGwf (tx : yTx) (TG : List Nat) (TT : List yC) (I : zH → Prop) (Gd : yGS) : Prop := ∀ (w : yW) (ρ : yR) (τ : List Nat) (h : zH), yWo tx w ρ τ h → yHo TT τ h → yPre TG τ → I h → ∀ (t b : Nat) (r : yL) (v : yV), Gd.2.1 t b = true → ysp w.1 r → 0 ≤ yev ρ r → τ[(yev ρ r).toNat]? = some t → ∀ (cls : Nat) (fs : List Value) (u : Value), h[(yev ρ r).toNat]? = some (.inr (cls, fs)) → b < fs.length → yVo ρ w.1 v u → ∀ q ∈ (bif Nat.beq v.1 0 then Gd.2.2.1 w t b r (0, []) v.2 else []), yLn tx (h.set (yev ρ r).toNat (.inr (cls, fs.set b u))) ρ w.1 q
noncomputable def yGgl (tx : yTx) (TG : List Nat) (TT : List yC) (I : zH → Prop) (Gd : yGS) : Prop := ∀ (w : yW) (ρ : yR) (τ : List Nat) (h : zH), yWo tx w ρ τ h → yHo TT τ h → yPre TG τ → I h → ∀ (t b : Nat), (Gd.2.2.2 t b w).1 = w.1 ∧ yWo tx (Gd.2.2.2 t b w) ρ τ h
noncomputable def yGdo (tx : yTx) (TG : List Nat) (TT : List yC) (I : zH → Prop) (Gd : yGS) : Prop := yGd0 TG I Gd.1 ∧ yGfr tx TG TT Gd ∧ yGwa tx TG TT I Gd ∧ yGwf tx TG TT I Gd ∧ yGgl tx TG TT I Gd
/-- what is remembered behind a store -/
noncomputable def yga1 (Gd : yGS) (w : yW) (t : Nat) (r i x : yL) : yN := bif Gd.2.1 t 0 then Gd.2.2.1 w t 0 r i x else yogh w.2.2.2.2
noncomputable def yga2 (Gd : yGS) (w : yW) (t b : Nat) (r : yL) (v : yV) : yN := bif Gd.2.1 t b then (bif Nat.beq v.1 0 then Gd.2.2.1 w t b r (0, []) v.2 else []) else yogh w.2.2.2.2
noncomputable def yga3 (Gd : yGS) (w : yW) (t : Nat) : yN := bif Gd.2.1 t 0 then [] else yogh w.2.2.2.2
noncomputable def ygd (w : yW) (t : Nat) (i : yL) : List (Nat × Nat × Nat) → Bool
  | [] => false
  | (t', p, f) :: r => bif Nat.beq t' t && (match yhg w.2.2.2.1 p f with
    | some (0, l) => yle w.2.1 w.2.2.1 (yadd (ycon 1) (ysub i l))
    | _ => false) then true else ygd w t i r
noncomputable def ygc (r : yL) (b : Bool) : Bool := match r with
  | (_, []) => b
  | _ => false
theorem yal_const {TG : List Nat} {TT : List yC} {w : yW} {c : Int} {i : yL} {t kd : Nat} {vt : yT} (q : yal TG TT w (c, []) i = some (t, kd, vt)) : TG[c.toNat]? = some t := by
  unfold yal at q
  split at q
  · cases q
  · rename_i t' ht
    split at q
    · rename_i kd' nlo nhi vt' hT
      cases hb : yilt w (c, []) i nlo with
      | false => rw [hb] at q; cases q
      | true =>
        rw [hb, cond_true] at q
        cases q
        unfold yrf at ht
        dsimp only at ht
        cases hc : ile 0 c with
        | false => rw [hc] at ht; cases ht
        | true => rw [hc, cond_true, yix_eq] at ht; exact ht
    · cases q
noncomputable def yvl0 (b : Bool) (vt : yT) : yT := match b, vt with
  | true, (kd, _, hi, t) => (kd, 0, hi, t)
  | false, vt => vt
noncomputable def yI2 (tt : zT) (TG : List Nat) (TT : List yC) (TX : List Nat) (Gd : yGS) (Wr Xf : Nat → Nat → Bool) (e : zE) (L : yLs) (st : List yV) (w : yW) (K : Nat → yLs → List yV → yW → Bool) : Bool := match e with
  | (ins, nx, a, b, _, _) => match ins with
    | .tableswitch df lo hi tg => (match st with
      | (0, x) :: s => ycnd .lt w (ysub x (lo, [])) (fun w => K df.toNat L s w) (fun _ => true) && (ycnd .gt w (ysub x (hi, [])) (fun w => K df.toNat L s w) (fun _ => true) && (Nat.beq tg.toList.length (Int.sub (Int.add hi 1) lo).toNat && ysw w x (fun t w => K t L s w) tg.toList lo))
      | _ => false)
    | .lookupswitch df ps => (match st with
      | (0, x) :: s => ylk x df (fun t w => K t L s w) ps.toList w
      | _ => false)
    | .iaload => (match st with
      | (0, i) :: (2, r) :: s => (match yal TG TT w r i with
        | some (t, 0, vt) => bif Nat.beq vt.1 0 then yle2 w vt r i fun v w => ygo1 (Gd.2.2.2 t 0 w) fun w => K nx L (v :: s) w else false
        | _ => false)
      | _ => false)
    | .baload => (match st with
      | (0, i) :: (2, r) :: s => (match yal TG TT w r i with
        | some (_, 1, vt) => bif Nat.beq vt.1 0 then yle2 w vt r i fun v w => K nx L (v :: s) w else false
        | some (_, 2, vt) => bif Nat.beq vt.1 0 then yle2 w vt r i fun v w => K nx L (v :: s) w else false
        | _ => false)
      | _ => false)
    | .laload => (match st with
      | (0, i) :: (2, r) :: s => (match yal TG TT w r i with
        | some (_, 3, vt) => bif Nat.beq vt.1 1 then yld w vt fun v w => K nx L (v :: s) w else false
        | _ => false)
      | _ => false)
    | .aaload => (match st with
      | (0, i) :: (2, r) :: s => (match yal TG TT w r i with
        | some (t, 4, vt) => bif Nat.beq vt.1 2 then yle3 w (yvl0 (ygc r (ygd w t i Gd.1)) vt) r i fun v w => K nx L (v :: s) w else false
        | some (t, 5, vt) => bif Nat.beq vt.1 2 then yle3 w (yvl0 (ygc r (ygd w t i Gd.1)) vt) r i fun v w => K nx L (v :: s) w else false
        | _ => false)
      | _ => false)
    | .iastore => (match st with
      | (0, x) :: (0, i) :: (2, r) :: s => (match yal TG TT w r i with
        | some (t, 0, vt) => bif Nat.beq vt.1 0 && (yin w vt.2.1 vt.2.2.1 x && (Wr t 0 && !(Xf t 0))) then fNn (yga1 Gd w t r i x) fun l => ygo (yga l (ytn (yns TG w t) r i x)) fun w => K nx L s w else false
        | _ => false)
      | _ => false)
    | .bastore => (match st with
      | (0, x) :: (0, i) :: (2, r) :: s => (match yal TG TT w r i with
        | some (t, 1, vt) => bif Nat.beq vt.1 0 && (yin w vt.2.1 vt.2.2.1 x && ((ile 0 vt.2.1 && ile vt.2.2.1 1) && (Wr t 0 && !(Xf t 0)))) then fNn (yga1 Gd w t r i x) fun l => ygo (yga l (ytn (yns TG w t) r i x)) fun w => K nx L s w else false
        | some (t, 2, vt) => bif Nat.beq vt.1 0 && (yin w vt.2.1 vt.2.2.1 x && ((ile (-128) vt.2.1 && ile vt.2.2.1 127) && (Wr t 0 && !(Xf t 0)))) then fNn (yga1 Gd w t r i x) fun l => ygo (yga l (ytn (yns TG w t) r i x)) fun w => K nx L s w else false
        | _ => false)
      | _ => false)
    | .lastore => (match st with
      | (1, x) :: (0, i) :: (2, r) :: s => (match yal TG TT w r i with
        | some (t, 3, vt) => bif Nat.beq vt.1 1 && (yin w vt.2.1 vt.2.2.1 x && (Wr t 0 && !(Xf t 0))) then fNn (yga3 Gd w t) fun l => ygo (yga l (yns TG w t)) fun w => K nx L s w else false
        | _ => false)
      | _ => false)
    | .arraylength => (match st with
      | (2, r) :: s => (match yrf TG w.2.1 r with
        | some t => (match yix TT t with
          | some (.inr (kd, nlo, nhi, _)) => bif Nat.ble kd 5 && Nat.ble nhi 100000 then (bif Nat.beq nlo nhi then K nx L ((0, (Int.ofNat nlo, [])) :: s) w else (match ylnl w.2.2.2.2 (2, r) with
              | some l => K nx L ((0, l) :: s) w
              | none => yfr w 0 (Int.ofNat nlo) (Int.ofNat nhi) 0 fun l w => (match w with
                | (k, E, F, H, N) => K nx L (l :: s) (k, E, F, H, ((2, r), l.2) :: N)))) else false
          | _ => false)
        | none => false)
      | _ => false)
    | .getfield _ => (match st with
      | (2, r) :: s => (match yrf TG w.2.1 r with
        | some t => (match yix TT t with
          | some (.inl (cls, vts)) => bif Nat.beq cls a then (match yix vts b with
              | some vt => (match r with
                | (p, []) => (match yhg w.2.2.2.1 p.toNat b with
                  | some v => ygo1 (Gd.2.2.2 t b w) fun w => K nx L (v :: s) w
                  | none => yld w vt fun v w => ygo1 (Gd.2.2.2 t b (ytk w p.toNat b v)) fun w => K nx L (v :: s) w)
                | _ => yld w vt fun v w => K nx L (v :: s) w)
              | none => false) else false
          | _ => false)
        | none => false)
      | _ => false)
    | .putfield _ => (match st with
      | (kd, x) :: (2, r) :: s => (match yrf TG w.2.1 r with
        | some t => (match yix TT t with
          | some (.inl (cls, vts)) => bif Nat.beq cls a then (match yix vts b with
              | some vt => bif yzt tt a b vt && (Nat.beq kd vt.1 && (yin w vt.2.1 vt.2.2.1 x && (Wr t b && !(Xf t b)))) then (match r with
                | (p, []) => fNn (yga2 Gd w t b r (kd, x)) fun l => ygo (yga l (ytk (yhs TG w t b) p.toNat b (kd, x))) fun w => K nx L s w
                | _ => fNn (yga2 Gd w t b r (kd, x)) fun l => ygo (yga l (yhs TG w t b)) fun w => K nx L s w) else false
              | none => false) else false
          | _ => false)
        | none => false)
      | _ => false)
    | .i2c => (match st with
      | (3, x) :: s => bif Nat.ble (yctg s) 8 then ytl TX w x fun l w => K nx L ((0, l) :: s) w else false
      | _ => false)
    | .caload => (match st with
      | (0, i) :: (3, x) :: s => bif Nat.ble (yctg s) 8 && yle w.2.1 w.2.2.1 (yneg i) then ytl TX w x fun l w => bif yle w.2.1 w.2.2.1 (yadd (ycon 1) (ysub i l)) then yfr w 0 0 255 0 fun v w => K nx L (v :: s) w else false else false
      | _ => false)
    | .i2s => (match st with
      | (3, (c, [])) :: s => bif ieq0 c then (match ylnl w.2.2.2.2 (3, (c, [])) with
          | some l => K nx L ((0, l) :: s) w
          | none => false) else false
      | _ => false)
    | .saload => (match st with
      | (0, i) :: (3, (c, [])) :: s => bif ieq0 c && yle w.2.1 w.2.2.1 (yneg i) then (match ylnl w.2.2.2.2 (3, (c, [])) with
          | some l => bif yle w.2.1 w.2.2.1 (yadd (ycon 1) (ysub i l)) then (match ylnl w.2.2.2.2 (100010, i) with
              | some x => K nx L ((0, x) :: s) w
              | none => yfr w 0 iMn iMx 0 fun v w => ygo1 (yga [((100010, i), v.2)] w) fun w => K nx L (v :: s) w) else false
          | none => false) else false
      | _ => false)
    | _ => false
theorem ygd_ok {tx : yTx} {w : yW} {ρ : yR} {τ : List Nat} {h : zH} {TG : List Nat} {I : zH → Prop} {t : Nat} {i : yL} (g : yWo tx w ρ τ h) (hp : yPre TG τ) (hI : I h) {r kd N : Nat} {fn : Nat → Option Nat} (ht : TG[r]? = some t) (hr : h[r]? = some (.inl (kd, N, .inr (.inr (.inr (.inr fn)))))) (hi : 0 ≤ yev ρ i) : ∀ {Gd : List (Nat × Nat × Nat)}, yGd0 TG I Gd → ygd w t i Gd = true → 0 ≤ zoi (fn (yev ρ i).toNat)
  | [], _, q => by cases q
  | (t', p, f) :: r9, hG, q => by
    unfold ygd at q
    cases hb : (Nat.beq t' t && (match yhg w.2.2.2.1 p f with
      | some (0, l) => yle w.2.1 w.2.2.1 (yadd (ycon 1) (ysub i l))
      | _ => false)) with
    | false =>
      rw [hb, cond_false] at q
      exact ygd_ok g hp hI ht hr hi (fun a b c hm => hG a b c (List.mem_cons_of_mem _ hm)) q
    | true =>
      rw [Bool.and_eq_true] at hb
      obtain ⟨b1, b2⟩ := hb
      have e := Nat.eq_of_beq_eq_true b1
      subst e
      split at b2
      · rename_i l hl
        obtain ⟨cls, fs, u, d1, d2, d3, n, d4, d5⟩ := g.2.2.1 _ (yhg_mem hl)
        subst d4
        have := g.le b2
        rw [yev_add, yev_sub, yev_con] at this
        exact hG _ _ _ List.mem_cons_self τ h hp hI r kd N fn ht hr cls fs n d1 d2 _ (by dsimp only at d5; omega)
      · cases b2
theorem yvl0_1 (b : Bool) (vt : yT) : (yvl0 b vt).1 = vt.1 := by
  obtain ⟨kd, lo, hi, t⟩ := vt
  cases b <;> rfl
section YJ
variable {tx : yTx} {w : yW} {ρ : yR} {τ : List Nat} {h : zH} {L : yLs} {st : List yV} {Lc : zL} {sc : List Value} {c n : Nat} {X : zX}
variable {TG : List Nat} {TT : List yC} {TX : List Nat} {I : zH → Prop} {Wr Xf : Nat → Nat → Bool} {τ0 : List Nat} {h0 : zH}
theorem ysw_ok {x : yL} {K : Nat → yW → Bool} (g : yWo tx w ρ τ h) (hx : ysp w.1 x) : ∀ {ts : List Int} {i : Int}, ysw w x K ts i = true → ∀ (k : Nat), k < ts.length → yev ρ x = i + k → ∃ t w', ts[k]? = some t ∧ K t.toNat w' = true ∧ w'.1 = w.1 ∧ yWo tx w' ρ τ h
  | [], i, _, k, hk, _ => absurd hk (Nat.not_lt_zero _)
  | t :: r, i, q, k, hk, e => by
    unfold ysw at q
    rw [Bool.and_eq_true] at q
    cases k with
    | zero =>
      obtain ⟨a1, -⟩ := ycnd_ok q.1 g (ysp_sub hx (ysp_con _ i))
      rw [yev_sub, show yev ρ (i, []) = i from yev_con ρ i] at a1
      obtain ⟨w', b1, b2, b3⟩ := a1 (by dsimp only [ycmp]; omega)
      exact ⟨t, w', rfl, b1, b2, b3⟩
    | succ k =>
      have e1 : Int.add i 1 = i + 1 := rfl
      exact ysw_ok g hx q.2 k (Nat.lt_of_succ_lt_succ hk) (by rw [e1]; omega)
theorem ylk_ok {x : yL} {df : Int} {K : Nat → yW → Bool} : ∀ {ps : List (Int × Int)} {w : yW}, yWo tx w ρ τ h → ysp w.1 x → ylk x df K ps w = true → ∃ w', K (Op.lookupswitch.offset ps df (yev ρ x)).toNat w' = true ∧ w'.1 = w.1 ∧ yWo tx w' ρ τ h
  | [], w, g, hx, q => ⟨w, q, rfl, g⟩
  | (k, t) :: r, w, g, hx, q => by
    unfold ylk at q
    obtain ⟨a1, a2⟩ := ycnd_ok q g (ysp_sub hx (ysp_con _ k))
    rw [yev_sub, show yev ρ (k, []) = k from yev_con ρ k] at a1 a2
    unfold Op.lookupswitch.offset
    by_cases e : k = yev ρ x
    · rw [if_pos e]
      exact a1 (by dsimp only [ycmp]; omega)
    · rw [if_neg e]
      obtain ⟨w1, b1, b2, b3⟩ := a2 (by dsimp only [ycmp]; omega)
      obtain ⟨w2, c1, c2, c3⟩ := ylk_ok b3 (by rw [b2]; exact hx) b1
      exact ⟨w2, c1, c2.trans b2, c3⟩
theorem ytl_ok {x : yL} {K : yL → yW → Bool} (q : ytl TX w x K = true) (g : yWo tx w ρ τ h) (hx : ysp w.1 x) (hT : ∀ k l, TX[k]? = some l → 1 ≤ k → (tx.1 k).length = l ∧ 1 ≤ l ∧ l ≤ 200) : ∃ (w' : yW) (ρ' : yR) (l : yL), K l w' = true ∧ ySt w.1 ρ w'.1 ρ' ∧ yWo tx w' ρ' τ h ∧ ysp w'.1 l ∧ 1 ≤ yev ρ x ∧ (((tx.1 (yev ρ x).toNat).length : Nat) : Int) = yev ρ' l ∧ 1 ≤ (tx.1 (yev ρ x).toNat).length ∧ (tx.1 (yev ρ x).toNat).length ≤ 200 := by
  unfold ytl at q
  split at q
  · rename_i c
    have e : yev ρ (c, []) = c := yev_con ρ c
    rw [e]
    split at q
    · rename_i l hl
      cases hc : ile 1 c with
      | false => rw [hc] at q; cases q
      | true =>
        rw [hc, cond_true] at q
        have h1 := (ile_iff _ _).mp hc
        rw [yix_eq] at hl
        obtain ⟨t1, t2, t3⟩ := hT _ _ hl (by omega)
        exact ⟨w, ρ, _, q, ySt.rf _ _, g, ysp_con _ _, h1, by rw [show ((Int.ofNat l, []) : yL) = ycon l from rfl, yev_con, t1], by omega, by omega⟩
    · cases q
  · cases hb : yin w 1 (Int.sub (Int.ofNat TX.length) 1) x with
    | false => rw [hb] at q; cases q
    | true =>
      rw [hb, cond_true] at q
      have h1 := yin_ok g hb
      have e1 : Int.sub (Int.ofNat TX.length) 1 = (TX.length : Int) - 1 := rfl
      rw [e1] at h1
      have hlt : (yev ρ x).toNat < TX.length := by omega
      obtain ⟨t1, t2, t3⟩ := hT (yev ρ x).toNat _ (List.getElem?_eq_getElem hlt) (by omega)
      split at q
      · rename_i l hl
        obtain ⟨v, m1, m2, m3⟩ := ylnl_mem hl
        obtain ⟨-, g2, g3⟩ := g.2.2.2 _ m1
        obtain ⟨v1, v2⟩ := v
        dsimp only at m2 m3 g2 g3
        subst m2
        rw [m3] at g3
        exact ⟨w, ρ, l, q, ySt.rf _ _, g, g2, h1.1, g3, by omega, by omega⟩
      · obtain ⟨w', ρ', a, q1, q2, q3, q4, q5⟩ := yfr_ok (x := (((tx.1 (yev ρ x).toNat).length : Nat) : Int)) q g (by omega) (by omega) (Or.inl rfl)
        obtain ⟨k, E, F, H, N⟩ := w'
        refine ⟨_, ρ', a, q1, q2, ⟨q3.1, q3.2.1, q3.2.2.1, fun z hz => ?_⟩, q4, h1.1, q5.symm, by omega, by omega⟩
        rcases List.mem_cons.mp hz with rfl | hz
        · refine ⟨q2.sp hx, q4, ?_⟩
          show (((tx.1 (yev ρ' x).toNat).length : Nat) : Int) = yev ρ' a
          rw [q2.ev hx, q5]
        · exact q3.2.2.2 z hz
/-- what is due of a run that goes on -/
noncomputable def yGo2 (tx : yTx) (TG : List Nat) (TT : List yC) (I : zH → Prop) (Wr : Nat → Nat → Bool) (τ0 : List Nat) (h0 : zH) (w : yW) (ρ : yR) (τ : List Nat) (c n : Nat) (X : zX) (K : Nat → yLs → List yV → yW → Bool) : Prop := ∀ (pc : Nat) (L' : yLs) (st' : List yV) (w' : yW) (ρ' : yR) (Lc' : zL) (sc' : List Value) (h' : zH), K pc L' st' w' = true → ySt w.1 ρ w'.1 ρ' → yWo tx w' ρ' τ h' → yHp TG TT I Wr τ0 h0 τ h' → yLo ρ' w'.1 L' Lc' → ySo ρ' w'.1 st' sc' → X pc Lc' sc' h' c n
theorem ynar_b {x : Int32} (h1 : 0 ≤ x.toInt) (h2 : x.toInt ≤ 1) : narrow .boolean (.int x) = .int x ∧ fits .boolean (.int x) = true := by
  have e : x = 0 ∨ x = 1 := by
    rcases (by omega : x.toInt = 0 ∨ x.toInt = 1) with q | q
    · exact Or.inl (Int32.toInt_inj.mp (by rw [q]; rfl))
    · exact Or.inr (Int32.toInt_inj.mp (by rw [q]; rfl))
  rcases e with rfl | rfl <;> exact ⟨rfl, rfl⟩
theorem ynar_y {x : Int32} (h1 : -128 ≤ x.toInt) (h2 : x.toInt ≤ 127) : narrow .byte (.int x) = .int x := by
  show Value.int x.toInt8.toInt32 = .int x
  congr 1
  refine Int32.toInt_inj.mp ?_
  rw [Int8.toInt_toInt32, Int32.toInt_toInt8]
  exact Int.bmod_eq_of_le (by omega) (by omega)
theorem yget_ref {r : yL} (hr : 0 ≤ yev ρ r) : zrn (yev ρ r) = .ref (yev ρ r).toNat := by
  rcases zrn_cases (yev ρ r) with ⟨q, -⟩ | ⟨-, q⟩
  · omega
  · exact q
end YJ
