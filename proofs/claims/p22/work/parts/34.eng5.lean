/-! cells by kinds, and what a store may change -/
noncomputable def yix {α : Type} : List α → Nat → Option α
  | [], _ => none
  | x :: _, 0 => some x
  | _ :: r, i + 1 => yix r i
theorem yix_eq {α : Type} : ∀ (l : List α) (i : Nat), yix l i = l[i]?
  | [], i => by simp [yix]
  | x :: r, 0 => by simp [yix]
  | x :: r, i + 1 => by simp [yix, yix_eq r i]
theorem zrf_zoi (x : Option Nat) : zrf x = zrn (zoi x) := by
  cases x with
  | none => rfl
  | some a =>
    show Value.ref a = zrn (a : Int)
    unfold zrn
    rw [if_neg (by omega)]
    rfl
noncomputable def yvo (τ : List Nat) (vt : yT) (w : Value) : Prop := match vt with
  | (kd, lo, hi, tg) => match kd with
    | 0 => ∃ x : Int32, w = .int x ∧ lo ≤ x.toInt ∧ x.toInt ≤ hi
    | 1 => ∃ x : Int64, w = .long x ∧ lo ≤ x.toInt ∧ x.toInt ≤ hi
    | 2 => ∃ x : Int, w = zrn x ∧ lo ≤ x ∧ x ≤ hi ∧ yTo τ x tg
    | _ => False
noncomputable abbrev yD : Type := (Nat → Int32) ⊕ (Nat → Int64) ⊕ (Nat → UInt32) ⊕ (Nat → UInt64) ⊕ (Nat → Option Nat)
noncomputable def yAo (τ : List Nat) (N : Nat) (vt : yT) (x : yD) : Prop := match vt with
  | (kd, lo, hi, tg) => match kd with
    | 0 => ∃ f : Nat → Int32, x = .inl f ∧ ∀ i, i < N → lo ≤ (f i).toInt ∧ (f i).toInt ≤ hi
    | 1 => ∃ f : Nat → Int64, x = .inr (.inl f) ∧ ∀ i, i < N → lo ≤ (f i).toInt ∧ (f i).toInt ≤ hi
    | 2 => ∃ f : Nat → Option Nat, x = .inr (.inr (.inr (.inr f))) ∧ ∀ i, i < N → lo ≤ zoi (f i) ∧ zoi (f i) ≤ hi ∧ yTo τ (zoi (f i)) tg
    | _ => False
noncomputable def yCo (τ : List Nat) (ct : yC) (c : zC) : Prop := match ct with
  | .inl (cls, vts) => ∃ fs : List Value, c = .inr (cls, fs) ∧ fs.length = vts.length ∧ ∀ (i : Nat) (vt : yT), vts[i]? = some vt → ∃ w : Value, fs[i]? = some w ∧ yvo τ vt w
  | .inr (kd, nlo, nhi, vt) => ∃ (N : Nat) (x : yD), c = .inl (kd, N, x) ∧ nlo ≤ N ∧ N ≤ nhi ∧ yAo τ N vt x
noncomputable def yPre (a b : List Nat) : Prop := ∀ (p t : Nat), a[p]? = some t → b[p]? = some t
theorem yPre.rf (a : List Nat) : yPre a a := fun _ _ h => h
theorem yPre.tr {a b c : List Nat} (h : yPre a b) (g : yPre b c) : yPre a c := fun p t q => g p t (h p t q)
theorem yTo.pre {a b : List Nat} (h : yPre a b) {x : Int} {t : Nat} (q : yTo a x t) : yTo b x t := q.imp id (fun q => q.imp id (h _ _))
theorem yEk.pre {k : Nat} {ρ : yR} {a b : List Nat} {E : yE} (h : yPre a b) (q : yEk k ρ a E) : yEk k ρ b E := fun e he => by
  obtain ⟨x1, x2, x3, x4⟩ := q e he
  exact ⟨x1, x2, x3, x4.pre h⟩
theorem yvo.pre {a b : List Nat} (h : yPre a b) {vt : yT} {w : Value} (q : yvo a vt w) : yvo b vt w := by
  obtain ⟨kd, lo, hi, tg⟩ := vt
  match kd, q with
  | 0, q => exact q
  | 1, q => exact q
  | 2, ⟨x, h1, h2, h3, h4⟩ => exact ⟨x, h1, h2, h3, h4.pre h⟩
theorem yAo.pre {a b : List Nat} (h : yPre a b) {N : Nat} {vt : yT} {x : yD} (q : yAo a N vt x) : yAo b N vt x := by
  obtain ⟨kd, lo, hi, tg⟩ := vt
  match kd, q with
  | 0, q => exact q
  | 1, q => exact q
  | 2, ⟨f, h1, h2⟩ => exact ⟨f, h1, fun i hi => ⟨(h2 i hi).1, (h2 i hi).2.1, (h2 i hi).2.2.pre h⟩⟩
theorem yCo.pre {a b : List Nat} (h : yPre a b) {ct : yC} {c : zC} (q : yCo a ct c) : yCo b ct c := by
  match ct, q with
  | .inl (cls, vts), ⟨fs, h1, h2, h3⟩ =>
    refine ⟨fs, h1, h2, fun i vt hv => ?_⟩
    obtain ⟨w, x1, x2⟩ := h3 i vt hv
    exact ⟨w, x1, x2.pre h⟩
  | .inr (kd, nlo, nhi, vt), ⟨N, x, h1, h2, h3, h4⟩ => exact ⟨N, x, h1, h2, h3, h4.pre h⟩
/-- the heap is of these kinds -/
noncomputable def yHo (TT : List yC) (τ : List Nat) (h : zH) : Prop := τ.length = h.length ∧ ∀ (p t : Nat), τ[p]? = some t → ∃ (ct : yC) (c : zC), TT[t]? = some ct ∧ h[p]? = some c ∧ yCo τ ct c
noncomputable def yCf (W : Nat → Bool) (c c2 : zC) : Prop := match c, c2 with
  | .inr (a, fs), .inr (b, gs) => a = b ∧ fs.length = gs.length ∧ ∀ f, W f = false → gs[f]? = fs[f]?
  | .inl (k, N, x), .inl (k2, N2, y) => k = k2 ∧ N = N2 ∧ (W 0 = false → y = x)
  | _, _ => False
theorem yCf.rf (W : Nat → Bool) (c : zC) : yCf W c c := by
  match c with
  | .inr (a, fs) => exact ⟨rfl, rfl, fun _ _ => rfl⟩
  | .inl (k, N, x) => exact ⟨rfl, rfl, fun _ => rfl⟩
theorem yCf.tr {W : Nat → Bool} {a b c : zC} (h : yCf W a b) (g : yCf W b c) : yCf W a c := by
  match a, b, c, h, g with
  | .inr (x, fs), .inr (y, gs), .inr (z, ks), h, g => exact ⟨h.1.trans g.1, h.2.1.trans g.2.1, fun f hf => (g.2.2 f hf).trans (h.2.2 f hf)⟩
  | .inl (k, N, x), .inl (k2, N2, y), .inl (k3, N3, z), h, g => exact ⟨h.1.trans g.1, h.2.1.trans g.2.1, fun hf => (g.2.2 hf).trans (h.2.2 hf)⟩
  | .inr (x, fs), .inr (y, gs), .inl _, h, g => exact g.elim
  | .inl _, .inl _, .inr _, h, g => exact g.elim
theorem yCf.mono {W W' : Nat → Bool} (hW : ∀ f, W' f = false → W f = false) {a b : zC} (h : yCf W a b) : yCf W' a b := by
  match a, b, h with
  | .inr (x, fs), .inr (y, gs), h => exact ⟨h.1, h.2.1, fun f hf => h.2.2 f (hW f hf)⟩
  | .inl (k, N, x), .inl (k2, N2, y), h => exact ⟨h.1, h.2.1, fun hf => h.2.2 (hW 0 hf)⟩
/-- only what W names has changed, and cells are new -/
noncomputable def yFr (W : Nat → Nat → Bool) (τ : List Nat) (h h2 : zH) : Prop := ∀ (p t : Nat) (c : zC), τ[p]? = some t → h[p]? = some c → ∃ c2, h2[p]? = some c2 ∧ yCf (W t) c c2
theorem yFr.rf (W : Nat → Nat → Bool) (τ : List Nat) (h : zH) : yFr W τ h h := fun _ _ c _ q => ⟨c, q, yCf.rf _ _⟩
theorem yFr.tr {W : Nat → Nat → Bool} {τ τ2 : List Nat} {a b c : zH} (hτ : yPre τ τ2) (h : yFr W τ a b) (g : yFr W τ2 b c) : yFr W τ a c := fun p t x hp hx => by
  obtain ⟨y, h1, h2⟩ := h p t x hp hx
  obtain ⟨z, h3, h4⟩ := g p t y (hτ p t hp) h1
  exact ⟨z, h3, h2.tr h4⟩
theorem yFr.mono {W W' : Nat → Nat → Bool} (hW : ∀ t f, W' t f = false → W t f = false) {τ : List Nat} {a b : zH} (h : yFr W τ a b) : yFr W' τ a b := fun p t x hp hx => by
  obtain ⟨y, h1, h2⟩ := h p t x hp hx
  exact ⟨y, h1, h2.mono (hW t)⟩
/-- guards; the cells that the remembered relations speak of; what of them stands behind a store; what follows from them at a load -/
noncomputable abbrev yGS : Type := List (Nat × Nat × Nat) × (Nat → Nat → Bool) × (yW → Nat → Nat → yL → yL → yL → yN) × (Nat → Nat → yW → yW)
/-- what the checked runs stand on: the first cells' kinds, the kinds, the fields' types, the texts' lengths; what is kept of the cells that no such run may touch -/
noncomputable abbrev yP : Type := List Nat × List yC × List Nat
section YH
variable {tx : yTx} {w : yW} {ρ : yR} {τ : List Nat} {h : zH}
/-- the kind of the cell that a value points to -/
noncomputable def yrf (TG : List Nat) (E : yE) (x : yL) : Option Nat := match x with
  | (c, []) => bif ile 0 c then yix TG c.toNat else none
  | (c, [(i, m)]) => bif ieq0 c && ieq m 1 then (match yget E i with
    | some (lo, _, t) => bif ile 0 lo && Nat.ble 1 t then some t else none
    | none => none) else none
  | _ => none
theorem yrf_ok {TG : List Nat} {x : yL} {t : Nat} (q : yrf TG w.2.1 x = some t) (g : yWo tx w ρ τ h) (hp : yPre TG τ) : 0 ≤ yev ρ x ∧ τ[(yev ρ x).toNat]? = some t := by
  unfold yrf at q
  split at q
  · rename_i c
    have e : yev ρ (c, []) = c := yev_con ρ c
    rw [e]
    cases hc : ile 0 c with
    | false => rw [hc] at q; cases q
    | true =>
      rw [hc, cond_true, yix_eq] at q
      exact ⟨(ile_iff _ _).mp hc, hp _ _ q⟩
  · rename_i c i m
    cases hc : (ieq0 c && ieq m 1) with
    | false => rw [hc] at q; cases q
    | true =>
      rw [hc, cond_true] at q
      rw [Bool.and_eq_true] at hc
      have e1 := (ieq0_iff _).mp hc.1
      have e2 := (ieq_iff _ _).mp hc.2
      subst e1
      subst e2
      have e : yev ρ (0, [(i, 1)]) = ρ i := yev_var ρ i
      rw [e]
      split at q
      · rename_i lo hi t' hg
        cases hb : (ile 0 lo && Nat.ble 1 t') with
        | false => rw [hb] at q; cases q
        | true =>
          rw [hb, cond_true] at q
          cases q
          rw [Bool.and_eq_true] at hb
          have h0 := (ile_iff _ _).mp hb.1
          have h1 := Nat.le_of_ble_eq_true hb.2
          obtain ⟨-, a1, a2, a3⟩ := g.1 _ (yget_mem hg)
          dsimp only at a1 a2 a3
          refine ⟨by omega, ?_⟩
          rcases a3 with a | a | a
          · omega
          · omega
          · exact a
      · cases q
  · cases q
/-- a value that is loaded -/
noncomputable def yld (w : yW) (vt : yT) (K : yV → yW → Bool) : Bool := match vt with
  | (kd, lo, hi, t) => bif ieq lo hi then K (kd, (lo, [])) w else (match kd with
    | 2 => yfr w 2 lo hi t K
    | _ => yfr w kd lo hi 0 K)
theorem yld_ok {vt : yT} {K : yV → yW → Bool} (q : yld w vt K = true) (g : yWo tx w ρ τ h) {u : Value} (hu : yvo τ vt u) : ∃ (w' : yW) (ρ' : yR) (v : yV), K v w' = true ∧ ySt w.1 ρ w'.1 ρ' ∧ yWo tx w' ρ' τ h ∧ yVo ρ' w'.1 v u ∧ v.1 = vt.1 := by
  obtain ⟨kd, lo, hi, t⟩ := vt
  unfold yld at q
  dsimp only at q
  have hk : ∃ z : Int, lo ≤ z ∧ z ≤ hi ∧ (kd = 2 → yTo τ z t) ∧ ∀ (ρ' : yR) (k : Nat) (a : yL), ysp k a → yev ρ' a = z → yVo ρ' k (kd, a) u := by
    match kd, hu with
    | 0, ⟨x, h1, h2, h3⟩ => exact ⟨x.toInt, h2, h3, (fun e => by cases e), fun ρ' k a ha e => ⟨ha, x, h1, e.symm⟩⟩
    | 1, ⟨x, h1, h2, h3⟩ => exact ⟨x.toInt, h2, h3, (fun e => by cases e), fun ρ' k a ha e => ⟨ha, x, h1, e.symm⟩⟩
    | 2, ⟨x, h1, h2, h3, h4⟩ => exact ⟨x, h2, h3, fun _ => h4, fun ρ' k a ha e => ⟨ha, by show u = zrn (yev ρ' a); rw [e]; exact h1⟩⟩
  obtain ⟨z, h1, h2, h3, h4⟩ := hk
  cases hq : ieq lo hi with
  | true =>
    rw [hq, cond_true] at q
    have e := (ieq_iff _ _).mp hq
    exact ⟨w, ρ, _, q, ySt.rf _ _, g, h4 _ _ _ (ysp_con _ _) ((yev_con ρ lo).trans (by omega)), rfl⟩
  | false =>
    rw [hq, cond_false] at q
    split at q
    · obtain ⟨w', ρ', a, q1, q2, q3, q4, q5⟩ := yfr_ok q g h1 h2 (h3 rfl)
      exact ⟨w', ρ', _, q1, q2, q3, h4 _ _ _ q4 q5, rfl⟩
    · obtain ⟨w', ρ', a, q1, q2, q3, q4, q5⟩ := yfr_ok q g h1 h2 (Or.inl rfl)
      exact ⟨w', ρ', _, q1, q2, q3, h4 _ _ _ q4 q5, rfl⟩
noncomputable def yveq (a b : yV) : Bool := Nat.beq a.1 b.1 && yzero (ysub a.2 b.2)
noncomputable def ylnl : yN → yV → Option yL
  | [], _ => none
  | (v, l) :: r, x => bif yveq v x then some l else ylnl r x
theorem ylnl_mem {x : yV} {l : yL} : ∀ {N : yN}, ylnl N x = some l → ∃ v, (v, l) ∈ N ∧ v.1 = x.1 ∧ ∀ ρ, yev ρ v.2 = yev ρ x.2
  | (v, l') :: r, q => by
    unfold ylnl at q
    cases hb : yveq v x with
    | true =>
      rw [hb, cond_true] at q
      cases q
      unfold yveq at hb
      rw [Bool.and_eq_true] at hb
      refine ⟨v, List.mem_cons_self, Nat.eq_of_beq_eq_true hb.1, fun ρ => ?_⟩
      have := yzero_ev (ρ := ρ) hb.2
      rw [yev_sub] at this
      omega
    | false =>
      rw [hb, cond_false] at q
      obtain ⟨v', h1, h2⟩ := ylnl_mem q
      exact ⟨v', List.mem_cons_of_mem _ h1, h2⟩
/-- an index is below a length -/
noncomputable def yilt (w : yW) (r i : yL) (nlo : Nat) : Bool := bif yle w.2.1 w.2.2.1 (yneg i) then (bif yle w.2.1 w.2.2.1 (ysub i (Int.sub (Int.ofNat nlo) 1, [])) then true else (match ylnl w.2.2.2.2 (2, r) with
  | some l => yle w.2.1 w.2.2.1 (yadd (ycon 1) (ysub i l))
  | none => false)) else false
theorem yln_len {r l : yL} {kd N : Nat} {x : yD} (q : ylnl w.2.2.2.2 (2, r) = some l) (g : yWo tx w ρ τ h) (hr : 0 ≤ yev ρ r) (hc : h[(yev ρ r).toNat]? = some (.inl (kd, N, x))) : (N : Int) = yev ρ l := by
  obtain ⟨v, h1, h2, h3⟩ := ylnl_mem q
  obtain ⟨-, -, g3⟩ := g.2.2.2 _ h1
  obtain ⟨v1, v2⟩ := v
  dsimp only at h2 h3 g3
  subst h2
  rw [h3] at g3
  obtain ⟨kd', N', x', e1, e2⟩ := g3 hr
  rw [hc] at e1
  cases e1
  exact e2
theorem yilt_ok {r i : yL} {nlo kd N : Nat} {x : yD} (q : yilt w r i nlo = true) (g : yWo tx w ρ τ h) (hr : 0 ≤ yev ρ r) (hc : h[(yev ρ r).toNat]? = some (.inl (kd, N, x))) (hn : nlo ≤ N) : 0 ≤ yev ρ i ∧ yev ρ i < N := by
  unfold yilt at q
  cases h1 : yle w.2.1 w.2.2.1 (yneg i) with
  | false => rw [h1] at q; cases q
  | true =>
    rw [h1, cond_true] at q
    have a1 := g.le h1
    rw [yev_neg] at a1
    refine ⟨by omega, ?_⟩
    cases h2 : yle w.2.1 w.2.2.1 (ysub i (Int.sub (Int.ofNat nlo) 1, [])) with
    | true =>
      have a2 := g.le h2
      rw [yev_sub, show ∀ z : Int, yev ρ (z, []) = z from fun z => yev_con ρ z] at a2
      have e : Int.sub (Int.ofNat nlo) 1 = (nlo : Int) - 1 := rfl
      rw [e] at a2
      omega
    | false =>
      rw [h2, cond_false] at q
      split at q
      · rename_i l hl
        have a3 := yln_len hl g hr hc
        have a4 := g.le q
        rw [yev_add, yev_sub, yev_con] at a4
        omega
      · cases q
theorem yvp_in {i : Int32} {N : Nat} (h1 : 0 ≤ i.toInt) (h2 : i.toInt < N) : vp_in i N ∧ i.toNatClampNeg < N := by
  have e : i.toNatClampNeg = i.toInt.toNat := rfl
  refine ⟨fun q => ?_, by omega⟩
  rcases q with q | q
  · have := Int32.lt_iff_toInt_lt.mp q
    rw [show (0 : Int32).toInt = 0 from rfl] at this
    omega
  · omega
/-- an array that is read or written: its cell's kind, its elements' -/
noncomputable def yal (TG : List Nat) (TT : List yC) (w : yW) (r i : yL) : Option (Nat × Nat × yT) := match yrf TG w.2.1 r with
  | none => none
  | some t => (match yix TT t with
    | some (.inr (kd, nlo, _, vt)) => bif yilt w r i nlo then some (t, kd, vt) else none
    | _ => none)
theorem yal_ok {TG : List Nat} {TT : List yC} {r i : yL} {t kd : Nat} {vt : yT} (q : yal TG TT w r i = some (t, kd, vt)) (g : yWo tx w ρ τ h) (hp : yPre TG τ) (hh : yHo TT τ h) : 0 ≤ yev ρ r ∧ τ[(yev ρ r).toNat]? = some t ∧ 0 ≤ yev ρ i ∧ (∃ nlo nhi, TT[t]? = some (.inr (kd, nlo, nhi, vt))) ∧ ∃ (N : Nat) (x : yD), h[(yev ρ r).toNat]? = some (.inl (kd, N, x)) ∧ yev ρ i < N ∧ yAo τ N vt x := by
  unfold yal at q
  split at q
  · cases q
  · rename_i t' ht
    split at q
    · rename_i kd' nlo nhi vt' hT
      cases hb : yilt w r i nlo with
      | false => rw [hb] at q; cases q
      | true =>
        rw [hb, cond_true] at q
        cases q
        obtain ⟨a1, a2⟩ := yrf_ok ht g hp
        obtain ⟨ct, c, b1, b2, b3⟩ := hh.2 _ _ a2
        rw [yix_eq] at hT
        have hT0 := hT
        rw [b1] at hT
        cases hT
        obtain ⟨N, x, rfl, c2, c3, c4⟩ := b3
        obtain ⟨d1, d2⟩ := yilt_ok hb g a1 b2 c2
        exact ⟨a1, a2, d1, ⟨nlo, nhi, hT0⟩, N, x, b2, d2, c4⟩
    · cases q
noncomputable def yhg : yH → Nat → Nat → Option yV
  | [], _, _ => none
  | (p, f, v) :: r, q, g => bif Nat.beq p q && Nat.beq f g then some v else yhg r q g
theorem yhg_mem {p f : Nat} {v : yV} : ∀ {H : yH}, yhg H p f = some v → (p, f, v) ∈ H
  | (p', f', v') :: r, q => by
    unfold yhg at q
    cases hb : (Nat.beq p' p && Nat.beq f' f) with
    | true =>
      rw [hb, cond_true] at q
      cases q
      rw [Bool.and_eq_true] at hb
      rw [Nat.eq_of_beq_eq_true hb.1, Nat.eq_of_beq_eq_true hb.2]
      exact List.mem_cons_self
    | false =>
      rw [hb, cond_false] at q
      exact List.mem_cons_of_mem _ (yhg_mem q)
noncomputable def ytk (w : yW) (p f : Nat) (v : yV) : yW := match w with
  | (k, E, F, H, N) => (k, E, F, (p, f, v) :: H, N)
theorem ytk_ok {p f : Nat} {v : yV} (g : yWo tx w ρ τ h) (hv : yHq h ρ w.1 (p, f, v)) : (ytk w p f v).1 = w.1 ∧ yWo tx (ytk w p f v) ρ τ h := by
  obtain ⟨k, E, F, H, N⟩ := w
  refine ⟨rfl, g.1, g.2.1, fun q hq => ?_, g.2.2.2⟩
  rcases List.mem_cons.mp hq with rfl | hq
  · exact hv
  · exact g.2.2.1 q hq
noncomputable def ydrp (TG : List Nat) (t f : Nat) : yH → yH
  | [] => []
  | (p, g, v) :: r => bif Nat.beq f g && (match yix TG p with
    | some t' => Nat.beq t' t
    | none => true) then ydrp TG t f r else (p, g, v) :: ydrp TG t f r
theorem ydrp_mem {TG : List Nat} {t f : Nat} {q : Nat × Nat × yV} : ∀ {H : yH}, q ∈ ydrp TG t f H → q ∈ H ∧ (q.2.1 = f → ∃ t', TG[q.1]? = some t' ∧ t' ≠ t)
  | (p, g, v) :: r, h => by
    unfold ydrp at h
    cases hb : (Nat.beq f g && (match yix TG p with
      | some t' => Nat.beq t' t
      | none => true)) with
    | true =>
      rw [hb, cond_true] at h
      obtain ⟨a, b⟩ := ydrp_mem h
      exact ⟨List.mem_cons_of_mem _ a, b⟩
    | false =>
      rw [hb, cond_false] at h
      rcases List.mem_cons.mp h with rfl | h
      · refine ⟨List.mem_cons_self, fun e => ?_⟩
        dsimp only at e ⊢
        subst e
        rw [show Nat.beq g g = true from Nat.beq_refl g, Bool.true_and] at hb
        rw [← yix_eq]
        split at hb
        · rename_i t' ht
          exact ⟨t', ht, fun e => by rw [e, Nat.beq_refl] at hb; cases hb⟩
        · cases hb
      · obtain ⟨a, b⟩ := ydrp_mem h
        exact ⟨List.mem_cons_of_mem _ a, b⟩
/-- remembered beside numbers -/
noncomputable def ykg (kd : Nat) : Bool := match kd with
  | p + 4 => Nat.ble 100000 p
  | _ => false
noncomputable def yng : yN → yN
  | [] => []
  | (v, l) :: r => bif ykg v.1 then yng r else (v, l) :: yng r
noncomputable def yogh : yN → yN
  | [] => []
  | (v, l) :: r => bif ykg v.1 then (v, l) :: yogh r else yogh r
theorem yng_mem {q : yV × yL} : ∀ {N : yN}, q ∈ yng N → q ∈ N ∧ ykg q.1.1 = false
  | (v, l) :: r, h => by
    unfold yng at h
    cases hb : ykg v.1 with
    | true =>
      rw [hb, cond_true] at h
      obtain ⟨a, b⟩ := yng_mem h
      exact ⟨List.mem_cons_of_mem _ a, b⟩
    | false =>
      rw [hb, cond_false] at h
      rcases List.mem_cons.mp h with rfl | h
      · exact ⟨List.mem_cons_self, hb⟩
      · obtain ⟨a, b⟩ := yng_mem h
        exact ⟨List.mem_cons_of_mem _ a, b⟩
theorem yogh_mem {q : yV × yL} : ∀ {N : yN}, q ∈ yogh N → q ∈ N ∧ ykg q.1.1 = true
  | (v, l) :: r, h => by
    unfold yogh at h
    cases hb : ykg v.1 with
    | false =>
      rw [hb, cond_false] at h
      obtain ⟨a, b⟩ := yogh_mem h
      exact ⟨List.mem_cons_of_mem _ a, b⟩
    | true =>
      rw [hb, cond_true] at h
      rcases List.mem_cons.mp h with rfl | h
      · exact ⟨List.mem_cons_self, hb⟩
      · obtain ⟨a, b⟩ := yogh_mem h
        exact ⟨List.mem_cons_of_mem _ a, b⟩
theorem ykg_at {kd : Nat} (h : ykg kd = true) : ∃ p, kd = p + 4 ∧ Nat.ble 100000 p = true := by
  unfold ykg at h
  split at h
  · exact ⟨_, rfl, h⟩
  · cases h
noncomputable def yga (l : yN) (w : yW) : yW := match w with
  | (k, E, F, H, N) => (k, E, F, H, l ++ N)
theorem yga_ok {l : yN} (g : yWo tx w ρ τ h) (hl : ∀ q ∈ l, yLn tx h ρ w.1 q) : yWo tx (yga l w) ρ τ h ∧ (yga l w).1 = w.1 := by
  obtain ⟨k, E, F, H, N⟩ := w
  refine ⟨⟨g.1, g.2.1, g.2.2.1, fun q hq => ?_⟩, rfl⟩
  rcases List.mem_append.mp hq with hq | hq
  · exact hl q hq
  · exact g.2.2.2 q hq
/-- what a store leaves -/
noncomputable def yhs (TG : List Nat) (w : yW) (t f : Nat) : yW := match w with
  | (k, E, F, H, N) => (k, E, F, ydrp TG t f H, yng N)
noncomputable def ydq (TG : List Nat) (t kd : Nat) : Bool := match kd with
  | p + 4 => bif Nat.ble 100000 p then true else (match yix TG p with
    | some t' => Nat.beq t' t
    | none => true)
  | _ => false
noncomputable def ydn (TG : List Nat) (t : Nat) : yN → yN
  | [] => []
  | (v, l) :: r => bif ydq TG t v.1 then ydn TG t r else (v, l) :: ydn TG t r
theorem ydn_mem {TG : List Nat} {t : Nat} {q : yV × yL} : ∀ {N : yN}, q ∈ ydn TG t N → q ∈ N ∧ ydq TG t q.1.1 = false
  | (v, l) :: r, h => by
    unfold ydn at h
    cases hb : ydq TG t v.1 with
    | true =>
      rw [hb, cond_true] at h
      obtain ⟨a, b⟩ := ydn_mem h
      exact ⟨List.mem_cons_of_mem _ a, b⟩
    | false =>
      rw [hb, cond_false] at h
      rcases List.mem_cons.mp h with rfl | h
      · exact ⟨List.mem_cons_self, hb⟩
      · obtain ⟨a, b⟩ := ydn_mem h
        exact ⟨List.mem_cons_of_mem _ a, b⟩
/-- behind a store into an array: what is remembered of its elements; the new one, where the array is known -/
noncomputable def yns (TG : List Nat) (w : yW) (t : Nat) : yW := match w with
  | (k, E, F, H, N) => (k, E, F, H, ydn TG t N)
noncomputable def ytn (w : yW) (r i l : yL) : yW := match r, w with
  | (p, []), (k, E, F, H, N) => (k, E, F, H, bif Nat.ble 100000 p.toNat then N else ((Nat.add p.toNat 4, i), l) :: N)
  | _, w => w
end YH
section YT
variable {tx : yTx} {w : yW} {ρ : yR} {τ : List Nat} {h : zH}
theorem yln_set {r : Nat} {c c2 : zC} (hr : h[r]? = some c) {W : Nat → Bool} (hc : yCf W c c2) {k : Nat} {q : yV × yL} (hne : ∀ p, q.1.1 = p + 4 → p = r → ∀ x, c ≠ .inl x) (hkg : ykg q.1.1 = false) (g : yLn tx h ρ k q) : yLn tx (h.set r c2) ρ k q := by
  obtain ⟨v, l⟩ := q
  obtain ⟨kd, a⟩ := v
  obtain ⟨g1, g2, g3⟩ := g
  refine ⟨g1, g2, ?_⟩
  dsimp only at g3 hne hkg ⊢
  split at g3
  · exact g3
  · rename_i p
    have hkg' : Nat.ble 100000 p = false := hkg
    unfold yL4 at g3 ⊢
    rw [hkg'] at g3 ⊢
    dsimp only at g3 ⊢
    obtain ⟨kd', N, f, e1, e2⟩ := g3
    by_cases hq : r = p
    · subst hq
      rw [hr] at e1
      cases e1
      exact absurd rfl (hne r rfl rfl _)
    · exact ⟨kd', N, f, by rw [List.getElem?_set_ne hq]; exact e1, e2⟩
  · intro h0
    obtain ⟨kd', N, x, e1, e2⟩ := g3 h0
    by_cases hq : r = (yev ρ a).toNat
    · rw [← hq] at e1 ⊢
      rw [hr] at e1
      cases e1
      have hl : r < h.length := by
        rcases Nat.lt_or_ge r h.length with z | z
        · exact z
        · rw [List.getElem?_eq_none z] at hr; cases hr
      rw [List.getElem?_set_self hl]
      match c2, hc with
      | .inl (k2, N2, y), hc => obtain ⟨rfl, rfl, -⟩ := hc; exact ⟨_, _, _, rfl, e2⟩
    · rw [List.getElem?_set_ne hq]
      exact ⟨kd', N, x, e1, e2⟩
/-- a store into a cell of the kinds' heap -/
theorem yst_heap {TT : List yC} {r t : Nat} {c c2 : zC} {ct : yC} (hh : yHo TT τ h) (ht : τ[r]? = some t) (hT : TT[t]? = some ct) (hr : h[r]? = some c) (h2 : yCo τ ct c2) : yHo TT τ (h.set r c2) := by
  have hl : r < h.length := by
    rcases Nat.lt_or_ge r h.length with z | z
    · exact z
    · rw [List.getElem?_eq_none z] at hr; cases hr
  refine ⟨by rw [List.length_set]; exact hh.1, fun p t' hp => ?_⟩
  by_cases hq : r = p
  · subst hq
    rw [ht] at hp
    cases hp
    exact ⟨ct, c2, hT, List.getElem?_set_self hl, h2⟩
  · rw [List.getElem?_set_ne hq]
    exact hh.2 p t' hp
theorem yst_fr {W : Nat → Nat → Bool} {r t : Nat} {c c2 : zC} (ht : τ[r]? = some t) (hr : h[r]? = some c) (hc : yCf (W t) c c2) : yFr W τ h (h.set r c2) := by
  intro p t' x hp hx
  have hl : r < h.length := by
    rcases Nat.lt_or_ge r h.length with z | z
    · exact z
    · rw [List.getElem?_eq_none z] at hr; cases hr
  by_cases hq : r = p
  · subst hq
    rw [ht] at hp
    rw [hr] at hx
    cases hp
    cases hx
    exact ⟨c2, List.getElem?_set_self hl, hc⟩
  · rw [List.getElem?_set_ne hq]
    exact ⟨x, hx, yCf.rf _ _⟩
/-- what is known stays known over a store -/
theorem yst_wo {TG : List Nat} {W : Nat → Bool} {r t f : Nat} {c c2 : zC} (hob : ∀ x, c ≠ .inl x) (g : yWo tx w ρ τ h) (hp : yPre TG τ) (ht : τ[r]? = some t) (hr : h[r]? = some c) (hc : yCf W c c2) (hW : ∀ x, x ≠ f → W x = false) : yWo tx (yhs TG w t f) ρ τ (h.set r c2) ∧ (yhs TG w t f).1 = w.1 := by
  obtain ⟨k, E, F, H, N⟩ := w
  obtain ⟨g1, g2, g3, g4⟩ := g
  refine ⟨⟨g1, g2, fun q hq => ?_, fun q hq => yln_set hr hc (fun _ _ _ => hob) (yng_mem hq).2 (g4 q (yng_mem hq).1)⟩, rfl⟩
  obtain ⟨a1, a2⟩ := ydrp_mem hq
  obtain ⟨cls, fs, v, b1, b2, b3⟩ := g3 q a1
  by_cases hz : r = q.1
  · subst hz
    rw [hr] at b1
    cases b1
    match c2, hc with
    | .inr (cls2, gs), hc =>
      obtain ⟨rfl, d2, d3⟩ := hc
      have hl : q.1 < h.length := by
        rcases Nat.lt_or_ge q.1 h.length with z | z
        · exact z
        · rw [List.getElem?_eq_none z] at hr; cases hr
      refine ⟨_, gs, v, List.getElem?_set_self hl, ?_, b3⟩
      rw [d3 _ (hW _ (fun e => ?_)), b2]
      obtain ⟨t', e1, e2⟩ := a2 e
      have := hp _ _ e1
      rw [ht] at this
      cases this
      exact e2 rfl
  · exact ⟨cls, fs, v, by rw [List.getElem?_set_ne hz]; exact b1, b2, b3⟩
/-- a store into an array -/
theorem yst_woA {TG : List Nat} {r t kd N : Nat} {x y : yD} (g : yWo tx w ρ τ h) (hp : yPre TG τ) (ht : τ[r]? = some t) (hr : h[r]? = some (.inl (kd, N, x))) : yWo tx (yns TG w t) ρ τ (h.set r (.inl (kd, N, y))) ∧ (yns TG w t).1 = w.1 := by
  obtain ⟨k, E, F, H, NN⟩ := w
  obtain ⟨g1, g2, g3, g4⟩ := g
  refine ⟨⟨g1, g2, fun q hq => ?_, fun q hq => ?_⟩, rfl⟩
  · obtain ⟨cls, fs, v, b1, b2, b3⟩ := g3 q hq
    by_cases hz : r = q.1
    · subst hz
      rw [hr] at b1
      cases b1
    · exact ⟨cls, fs, v, by rw [List.getElem?_set_ne hz]; exact b1, b2, b3⟩
  · obtain ⟨a1, a2⟩ := ydn_mem hq
    have hkg : ykg q.1.1 = false := by
      unfold ydq at a2
      unfold ykg
      split at a2
      · rename_i p _
        cases hb : Nat.ble 100000 p with
        | false => simp only [hb]
        | true => rw [hb] at a2; cases a2
      · rfl
    refine yln_set (W := fun _ => true) (c2 := .inl (kd, N, y)) hr ⟨rfl, rfl, fun e => by cases e⟩ (fun p e1 e2 => ?_) hkg (g4 q a1)
    unfold ydq at a2
    rw [e1] at a2 hkg
    have hkg' : Nat.ble 100000 p = false := hkg
    dsimp only at a2
    rw [hkg', cond_false, yix_eq, e2] at a2
    split at a2
    · rename_i t' ht'
      have := hp _ _ ht'
      rw [ht] at this
      cases this
      rw [Nat.beq_refl] at a2
      cases a2
    · cases a2
theorem ytn_ok {r i l : yL} {kd N : Nat} {f : yD} (g : yWo tx w ρ τ h) (hi : ysp w.1 i) (hl : ysp w.1 l) (hr : h[(yev ρ r).toNat]? = some (.inl (kd, N, f))) (hv : yel f (yev ρ i).toNat = yev ρ l) : yWo tx (ytn w r i l) ρ τ h ∧ (ytn w r i l).1 = w.1 := by
  obtain ⟨k, E, F, H, NN⟩ := w
  unfold ytn
  split
  · rename_i p k E F H NN hr0
    cases hr0
    have e : yev ρ (p, []) = p := yev_con ρ p
    rw [e] at hr
    cases hb : Nat.ble 100000 p.toNat with
    | true => exact ⟨g, rfl⟩
    | false =>
      refine ⟨⟨g.1, g.2.1, g.2.2.1, fun q hq => ?_⟩, rfl⟩
      rcases List.mem_cons.mp hq with rfl | hq
      · refine ⟨hi, hl, ?_⟩
        show yL4 tx h p.toNat _ _
        unfold yL4
        rw [hb]
        exact ⟨kd, N, f, hr, hv⟩
      · exact g.2.2.2 q hq
  · exact ⟨g, rfl⟩
/-- an element of ints: remembered, or loaded and remembered -/
noncomputable def yle2 (w : yW) (vt : yT) (r i : yL) (K : yV → yW → Bool) : Bool := match r with
  | (p, []) => bif Nat.ble 100000 p.toNat then yld w vt K else (match ylnl w.2.2.2.2 (Nat.add p.toNat 4, i) with
    | some l => K (0, l) w
    | none => yld w vt fun v w => K v (ytn w r i v.2))
  | _ => yld w vt K
theorem yle2_ok {vt : yT} {r i : yL} {K : yV → yW → Bool} {kd N : Nat} {f : Nat → Int32} {m : Int32} (q : yle2 w vt r i K = true) (g : yWo tx w ρ τ h) (hi : ysp w.1 i) (hk : vt.1 = 0) (hr : h[(yev ρ r).toNat]? = some (.inl (kd, N, .inl f))) (hm : m = f (yev ρ i).toNat) (h1 : vt.2.1 ≤ m.toInt) (h2 : m.toInt ≤ vt.2.2.1) : ∃ (w' : yW) (ρ' : yR) (v : yV), K v w' = true ∧ ySt w.1 ρ w'.1 ρ' ∧ yWo tx w' ρ' τ h ∧ yVo ρ' w'.1 v (.int m) := by
  have hu : yvo τ vt (.int m) := by
    obtain ⟨kd, lo, hi, tg⟩ := vt
    dsimp only at hk
    subst hk
    exact ⟨m, rfl, h1, h2⟩
  unfold yle2 at q
  split at q
  · rename_i p
    cases hb : Nat.ble 100000 p.toNat with
    | true =>
      rw [hb, cond_true] at q
      obtain ⟨w', ρ', v', q1, s1, g1, v1, v2⟩ := yld_ok q g hu
      exact ⟨w', ρ', v', q1, s1, g1, v1⟩
    | false =>
    rw [hb, cond_false] at q
    split at q
    · rename_i l hl
      obtain ⟨v, m1, m2, m3⟩ := ylnl_mem hl
      obtain ⟨v1, v2⟩ := v
      dsimp only at m2 m3
      subst m2
      obtain ⟨x1, x2, x9⟩ := g.2.2.2 _ m1
      have x9' : yL4 tx h p.toNat (yev ρ v2) (yev ρ l) := x9
      unfold yL4 at x9'
      rw [hb] at x9'
      dsimp only at x9'
      obtain ⟨kd', N', f', x3, x4⟩ := x9'
      have e : yev ρ (p, []) = p := yev_con ρ p
      rw [e] at hr
      have x3' : h[p.toNat]? = some (.inl (kd', N', f')) := x3
      rw [hr] at x3'
      cases x3'
      have x4' : (f (yev ρ v2).toNat).toInt = yev ρ l := x4
      rw [m3, ← hm] at x4'
      exact ⟨w, ρ, _, q, ySt.rf _ _, g, x2, m, rfl, x4'⟩
    · obtain ⟨w', ρ', v', q1, s1, g1, v1, v2⟩ := yld_ok q g hu
      obtain ⟨kd', a⟩ := v'
      have v2' : kd' = 0 := v2.trans hk
      subst v2'
      obtain ⟨y1, m', y2, y3⟩ := v1
      cases y2
      have er : yev ρ' (p, []) = yev ρ (p, []) := (yev_con _ _).trans (yev_con _ _).symm
      obtain ⟨z1, z2⟩ := ytn_ok (r := (p, [])) (i := i) (l := a) g1 (s1.sp hi) y1 (by rw [er]; exact hr) (by rw [s1.ev hi]; show (f (yev ρ i).toNat).toInt = _; rw [← hm]; exact y3)
      exact ⟨_, ρ', _, q1, by rw [z2]; exact s1, z1, by rw [z2]; exact ⟨y1, m, rfl, y3⟩⟩
  · obtain ⟨w', ρ', v', q1, s1, g1, v1, v2⟩ := yld_ok q g hu
    exact ⟨w', ρ', v', q1, s1, g1, v1⟩
/-- an element that points to a cell: remembered, or loaded and remembered -/
noncomputable def yle3 (w : yW) (vt : yT) (r i : yL) (K : yV → yW → Bool) : Bool := match r with
  | (p, []) => bif Nat.ble 100000 p.toNat then yld w vt K else (match ylnl w.2.2.2.2 (Nat.add p.toNat 4, i) with
    | some l => K (2, l) w
    | none => yld w vt fun v w => K v (ytn w r i v.2))
  | _ => yld w vt K
theorem yle3_ok {vt : yT} {r i : yL} {K : yV → yW → Bool} {kd N : Nat} {f : Nat → Option Nat} (q : yle3 w vt r i K = true) (g : yWo tx w ρ τ h) (hi : ysp w.1 i) (hk : vt.1 = 2) (hr : h[(yev ρ r).toNat]? = some (.inl (kd, N, .inr (.inr (.inr (.inr f)))))) (h1 : vt.2.1 ≤ zoi (f (yev ρ i).toNat)) (h2 : zoi (f (yev ρ i).toNat) ≤ vt.2.2.1) (h3 : yTo τ (zoi (f (yev ρ i).toNat)) vt.2.2.2) : ∃ (w' : yW) (ρ' : yR) (v : yV), K v w' = true ∧ ySt w.1 ρ w'.1 ρ' ∧ yWo tx w' ρ' τ h ∧ yVo ρ' w'.1 v (zrn (zoi (f (yev ρ i).toNat))) := by
  have hld : ∀ {K : yV → yW → Bool}, yld w vt K = true → ∃ (w' : yW) (ρ' : yR) (a : yL), K (2, a) w' = true ∧ ySt w.1 ρ w'.1 ρ' ∧ yWo tx w' ρ' τ h ∧ ysp w'.1 a ∧ yev ρ' a = zoi (f (yev ρ i).toNat) := by
    intro K q
    obtain ⟨kd, lo, hi', tg⟩ := vt
    dsimp only at hk h1 h2 h3
    subst hk
    unfold yld at q
    dsimp only at q
    cases hq : ieq lo hi' with
    | true =>
      rw [hq, cond_true] at q
      have e := (ieq_iff _ _).mp hq
      exact ⟨w, ρ, _, q, ySt.rf _ _, g, ysp_con _ _, (yev_con ρ lo).trans (by omega)⟩
    | false =>
      rw [hq, cond_false] at q
      exact yfr_ok q g h1 h2 h3
  unfold yle3 at q
  split at q
  · rename_i p
    cases hb : Nat.ble 100000 p.toNat with
    | true =>
      rw [hb, cond_true] at q
      obtain ⟨w', ρ', a, q1, s1, g1, y1, y3⟩ := hld q
      exact ⟨w', ρ', _, q1, s1, g1, y1, by show zrn _ = zrn (yev ρ' a); rw [y3]⟩
    | false =>
    rw [hb, cond_false] at q
    split at q
    · rename_i l hl
      obtain ⟨v, m1, m2, m3⟩ := ylnl_mem hl
      obtain ⟨v1, v2⟩ := v
      dsimp only at m2 m3
      subst m2
      obtain ⟨x1, x2, x9⟩ := g.2.2.2 _ m1
      have x9' : yL4 tx h p.toNat (yev ρ v2) (yev ρ l) := x9
      unfold yL4 at x9'
      rw [hb] at x9'
      dsimp only at x9'
      obtain ⟨kd', N', f', x3, x4⟩ := x9'
      have e : yev ρ (p, []) = p := yev_con ρ p
      rw [e] at hr
      have x3' : h[p.toNat]? = some (.inl (kd', N', f')) := x3
      rw [hr] at x3'
      cases x3'
      have x4' : zoi (f (yev ρ v2).toNat) = yev ρ l := x4
      rw [m3] at x4'
      exact ⟨w, ρ, _, q, ySt.rf _ _, g, x2, by show zrn _ = zrn (yev ρ l); rw [x4']⟩
    · obtain ⟨w', ρ', a, q1, s1, g1, y1, y3⟩ := hld q
      have er : yev ρ' (p, []) = yev ρ (p, []) := (yev_con _ _).trans (yev_con _ _).symm
      obtain ⟨z1, z2⟩ := ytn_ok (r := (p, [])) (i := i) (l := a) g1 (s1.sp hi) y1 (by rw [er]; exact hr) (by rw [s1.ev hi]; exact y3.symm)
      exact ⟨_, ρ', _, q1, by rw [z2]; exact s1, z1, by rw [z2]; exact ⟨y1, by show zrn _ = zrn (yev ρ' a); rw [y3]⟩⟩
  · obtain ⟨w', ρ', a, q1, s1, g1, y1, y3⟩ := hld q
    exact ⟨w', ρ', _, q1, s1, g1, y1, by show zrn _ = zrn (yev ρ' a); rw [y3]⟩
end YT
