/-! what is known of the world, and how it grows -/
noncomputable abbrev yR : Type := Nat → Int
/-- the texts; what is remembered of the heap beside numbers: a relation of two numbers for each kind -/
noncomputable abbrev yTx : Type := (Nat → List Int32) × (Nat → zH → Int → Int → Prop)
noncomputable def yTo (τ : List Nat) (x : Int) (t : Nat) : Prop := t = 0 ∨ x < 0 ∨ τ[x.toNat]? = some t
noncomputable def zrn (x : Int) : Value := if x < 0 then .null else .ref x.toNat
noncomputable def yVo (ρ : yR) (k : Nat) (v : yV) (w : Value) : Prop := ysp k v.2 ∧ (match v.1 with
  | 0 => ∃ x : Int32, w = .int x ∧ x.toInt = yev ρ v.2
  | 1 => ∃ x : Int64, w = .long x ∧ x.toInt = yev ρ v.2
  | 2 => w = zrn (yev ρ v.2)
  | _ => w = .retAddr (yev ρ v.2).toNat)
noncomputable def zoi (x : Option Nat) : Int := match x with
  | some a => a
  | none => -1
noncomputable def yel (x : (Nat → Int32) ⊕ (Nat → Int64) ⊕ (Nat → UInt32) ⊕ (Nat → UInt64) ⊕ (Nat → Option Nat)) (i : Nat) : Int := match x with
  | .inl f => (f i).toInt
  | .inr (.inr (.inr (.inr f))) => zoi (f i)
  | _ => 0
/-- an element of an array (its place), or what is remembered beside -/
noncomputable def yL4 (tx : yTx) (h : zH) (p : Nat) (i v : Int) : Prop := match Nat.ble 100000 p with
  | true => tx.2 (Nat.sub p 100000) h i v
  | false => ∃ (kd N : Nat) (x : (Nat → Int32) ⊕ (Nat → Int64) ⊕ (Nat → UInt32) ⊕ (Nat → UInt64) ⊕ (Nat → Option Nat)), h[p]? = some (.inl (kd, N, x)) ∧ yel x i.toNat = v
noncomputable def yLn (tx : yTx) (h : zH) (ρ : yR) (k : Nat) (q : yV × yL) : Prop := ysp k q.1.2 ∧ ysp k q.2 ∧ (match q.1.1 with
  | 3 => (((tx.1 (yev ρ q.1.2).toNat).length : Nat) : Int) = yev ρ q.2
  | p + 4 => yL4 tx h p (yev ρ q.1.2) (yev ρ q.2)
  | _ => 0 ≤ yev ρ q.1.2 → ∃ (kd N : Nat) (x : (Nat → Int32) ⊕ (Nat → Int64) ⊕ (Nat → UInt32) ⊕ (Nat → UInt64) ⊕ (Nat → Option Nat)), h[(yev ρ q.1.2).toNat]? = some (.inl (kd, N, x)) ∧ (N : Int) = yev ρ q.2)
noncomputable def yHq (h : zH) (ρ : yR) (k : Nat) (q : Nat × Nat × yV) : Prop := ∃ (cls : Nat) (fs : List Value) (w : Value), h[q.1]? = some (.inr (cls, fs)) ∧ fs[q.2.1]? = some w ∧ yVo ρ k q.2.2 w
noncomputable def yEk (k : Nat) (ρ : yR) (τ : List Nat) (E : yE) : Prop := ∀ e ∈ E, e.1 < k ∧ e.2.1 ≤ ρ e.1 ∧ ρ e.1 ≤ e.2.2.1 ∧ yTo τ (ρ e.1) e.2.2.2
noncomputable def yFo (k : Nat) (ρ : yR) (F : List yL) : Prop := ∀ f ∈ F, ysp k f ∧ yev ρ f ≤ 0
noncomputable def yWo (tx : yTx) (w : yW) (ρ : yR) (τ : List Nat) (h : zH) : Prop :=
  yEk w.1 ρ τ w.2.1 ∧ yFo w.1 ρ w.2.2.1 ∧ (∀ q ∈ w.2.2.2.1, yHq h ρ w.1 q) ∧ (∀ q ∈ w.2.2.2.2, yLn tx h ρ w.1 q)
/-- names are added only -/
noncomputable def ySt (k : Nat) (ρ : yR) (k' : Nat) (ρ' : yR) : Prop := k ≤ k' ∧ ∀ i, i < k → ρ' i = ρ i
theorem ySt.rf (k : Nat) (ρ : yR) : ySt k ρ k ρ := ⟨Nat.le_refl _, fun _ _ => rfl⟩
theorem ySt.tr {k k' k'' : Nat} {ρ ρ' ρ'' : yR} (a : ySt k ρ k' ρ') (b : ySt k' ρ' k'' ρ'') : ySt k ρ k'' ρ'' := ⟨Nat.le_trans a.1 b.1, fun i hi => (b.2 i (Nat.lt_of_lt_of_le hi a.1)).trans (a.2 i hi)⟩
theorem ySt.ev {k k' : Nat} {ρ ρ' : yR} (s : ySt k ρ k' ρ') {a : yL} (h : ysp k a) : yev ρ' a = yev ρ a := yev_ext h s.2
theorem ySt.sp {k k' : Nat} {ρ ρ' : yR} (s : ySt k ρ k' ρ') {a : yL} (h : ysp k a) : ysp k' a := ysp_mono s.1 h
theorem ySt.vo {k k' : Nat} {ρ ρ' : yR} (s : ySt k ρ k' ρ') {v : yV} {w : Value} (h : yVo ρ k v w) : yVo ρ' k' v w := by
  refine ⟨s.sp h.1, ?_⟩
  have h2 := h.2
  rw [s.ev h.1]
  exact h2
theorem ySt.ln {tx : yTx} {h : zH} {k k' : Nat} {ρ ρ' : yR} (s : ySt k ρ k' ρ') {q : yV × yL} (g : yLn tx h ρ k q) : yLn tx h ρ' k' q := by
  refine ⟨s.sp g.1, s.sp g.2.1, ?_⟩
  have h2 := g.2.2
  rw [s.ev g.1, s.ev g.2.1]
  exact h2
theorem ySt.hq {h : zH} {k k' : Nat} {ρ ρ' : yR} (s : ySt k ρ k' ρ') {q : Nat × Nat × yV} (g : yHq h ρ k q) : yHq h ρ' k' q := by
  obtain ⟨cls, fs, w, a, b, c⟩ := g
  exact ⟨cls, fs, w, a, b, s.vo c⟩
theorem ySt.ek {τ : List Nat} {k k' : Nat} {ρ ρ' : yR} (s : ySt k ρ k' ρ') {E : yE} (g : yEk k ρ τ E) : yEk k' ρ' τ E := fun e he => by
  obtain ⟨a, b, c, d⟩ := g e he
  rw [s.2 _ a]
  exact ⟨Nat.lt_of_lt_of_le a s.1, b, c, d⟩
theorem ySt.fo {k k' : Nat} {ρ ρ' : yR} (s : ySt k ρ k' ρ') {F : List yL} (g : yFo k ρ F) : yFo k' ρ' F := fun f hf => by
  obtain ⟨a, b⟩ := g f hf
  rw [s.ev a]
  exact ⟨s.sp a, b⟩
theorem yEk.eo {k : Nat} {ρ : yR} {τ : List Nat} {E : yE} (h : yEk k ρ τ E) : yEo ρ E := fun e he => ⟨(h e he).2.1, (h e he).2.2.1⟩
theorem yFo.le {k : Nat} {ρ : yR} {F : List yL} (h : yFo k ρ F) : ∀ f ∈ F, yev ρ f ≤ 0 := fun f hf => (h f hf).2
theorem yWo.le {tx : yTx} {w : yW} {ρ : yR} {τ : List Nat} {h : zH} (g : yWo tx w ρ τ h) {a : yL} (q : yle w.2.1 w.2.2.1 a = true) : yev ρ a ≤ 0 := yle_ok g.1.eo g.2.1.le q
noncomputable def yin (w : yW) (lo hi : Int) (r : yL) : Bool := bif yle w.2.1 w.2.2.1 (ysub r (ycon hi)) then yle w.2.1 w.2.2.1 (ysub (ycon lo) r) else false
theorem yin_ok {tx : yTx} {w : yW} {ρ : yR} {τ : List Nat} {h : zH} (g : yWo tx w ρ τ h) {lo hi : Int} {r : yL} (q : yin w lo hi r = true) : lo ≤ yev ρ r ∧ yev ρ r ≤ hi := by
  unfold yin at q
  cases h1 : yle w.2.1 w.2.2.1 (ysub r (ycon hi)) with
  | false => rw [h1] at q; cases q
  | true =>
    rw [h1, cond_true] at q
    have a := g.le h1
    have b := g.le q
    rw [yev_sub, yev_con] at a b
    omega
noncomputable def yup (ρ : yR) (k : Nat) (x : Int) : yR := fun i => if i = k then x else ρ i
theorem yup_st (ρ : yR) (k : Nat) (x : Int) : ySt k ρ (k + 1) (yup ρ k x) := ⟨Nat.le_succ _, fun i hi => if_neg (Nat.ne_of_lt hi)⟩
/-- a name for a new number -/
noncomputable def yfr (w : yW) (kd : Nat) (lo hi : Int) (t : Nat) (K : yV → yW → Bool) : Bool := match w with
  | (k, E, F, H, N) => fN (Nat.succ k) fun k1 => K (kd, (0, [(k, 1)])) (k1, (k, lo, hi, t) :: E, F, H, N)
section YA
variable {tx : yTx} {w : yW} {ρ : yR} {τ : List Nat} {h : zH}
theorem yfr_ok {kd : Nat} {lo hi : Int} {t : Nat} {K : yV → yW → Bool} (q : yfr w kd lo hi t K = true) (g : yWo tx w ρ τ h) {x : Int} (h1 : lo ≤ x) (h2 : x ≤ hi) (h3 : yTo τ x t) : ∃ (w' : yW) (ρ' : yR) (a : yL), K (kd, a) w' = true ∧ ySt w.1 ρ w'.1 ρ' ∧ yWo tx w' ρ' τ h ∧ ysp w'.1 a ∧ yev ρ' a = x := by
  obtain ⟨k, E, F, H, N⟩ := w
  unfold yfr at q
  dsimp only at q
  rw [fN_eq] at q
  obtain ⟨gE, gF, gH, gN⟩ := g
  have s := yup_st ρ k x
  have e0 : yup ρ k x k = x := if_pos rfl
  refine ⟨_, yup ρ k x, _, q, s, ⟨?_, s.fo gF, fun q hq => s.hq (gH q hq), fun q hq => s.ln (gN q hq)⟩, ysp_var (i := k) (Nat.lt_succ_self k), ?_⟩
  · intro e he
    rcases List.mem_cons.mp he with rfl | he
    · dsimp only
      rw [e0]
      exact ⟨Nat.lt_succ_self k, h1, h2, h3⟩
    · exact s.ek gE e he
  · rw [show ((0, [(k, 1)]) : yL) = yvar k from rfl, yev_var]
    exact e0
/-- a number in its bounds is the sum itself, else a new one -/
noncomputable def yar (w : yW) (kd : Nat) (lo hi : Int) (r : yL) (K : yV → yW → Bool) : Bool := fL r fun r => bif yin w lo hi r then K (kd, r) w else yfr w kd lo hi 0 K
theorem yar_ok {kd : Nat} {lo hi : Int} {r : yL} {K : yV → yW → Bool} (q : yar w kd lo hi r K = true) (g : yWo tx w ρ τ h) (hr : ysp w.1 r) {x : Int} (h1 : lo ≤ x) (h2 : x ≤ hi) (h3 : lo ≤ yev ρ r → yev ρ r ≤ hi → x = yev ρ r) : ∃ (w' : yW) (ρ' : yR) (a : yL), K (kd, a) w' = true ∧ ySt w.1 ρ w'.1 ρ' ∧ yWo tx w' ρ' τ h ∧ ysp w'.1 a ∧ yev ρ' a = x := by
  unfold yar at q
  rw [fL_eq] at q
  cases hq : yin w lo hi r with
  | true =>
    rw [hq, cond_true] at q
    have hb := yin_ok g hq
    exact ⟨w, ρ, r, q, ySt.rf _ _, g, hr, (h3 hb.1 hb.2).symm⟩
  | false =>
    rw [hq, cond_false] at q
    exact yfr_ok q g h1 h2 (Or.inl rfl)
noncomputable def yprop (d : yL) : List (Nat × Int) → yE → (yE → Bool) → Bool
  | [], E, K => K E
  | (i, m) :: r, E, K => match yget E i with
    | none => yprop d r E K
    | some (lo, hi, t) => bif ieq m 1 then (match yub E (ysub (yvar i) d) with
        | none => yprop d r E K
        | some u => bif ile hi u then yprop d r E K else fI u fun u => yprop d r ((i, lo, u, t) :: E) K)
      else bif ieq m (-1) then (match yub E (ysub (yneg (yvar i)) d) with
        | none => yprop d r E K
        | some u => bif ile (Int.neg u) lo then yprop d r E K else fI (Int.neg u) fun l => yprop d r ((i, l, hi, t) :: E) K)
      else yprop d r E K
theorem yprop_ok {d : yL} {k : Nat} (hd : yev ρ d ≤ 0) : ∀ {ts : List (Nat × Int)} {E : yE} {K : yE → Bool}, yprop d ts E K = true → yEk k ρ τ E → ∃ E' : yE, K E' = true ∧ yEk k ρ τ E'
  | [], E, K, q, g => ⟨E, q, g⟩
  | (i, m) :: r, E, K, q, g => by
    unfold yprop at q
    split at q
    · exact yprop_ok hd q g
    · rename_i lo hi t hg
      have hm := g _ (yget_mem hg)
      dsimp only at hm
      cases h1 : ieq m 1 with
      | true =>
        rw [h1, cond_true] at q
        split at q
        · exact yprop_ok hd q g
        · rename_i u hu
          have hb := yub_ok g.eo hu
          rw [yev_sub, yev_var] at hb
          cases h2 : ile hi u with
          | true => rw [h2, cond_true] at q; exact yprop_ok hd q g
          | false =>
            rw [h2, cond_false, fI_eq] at q
            refine yprop_ok hd q (fun e he => ?_)
            rcases List.mem_cons.mp he with rfl | he
            · exact ⟨hm.1, hm.2.1, by dsimp only; omega, hm.2.2.2⟩
            · exact g e he
      | false =>
        rw [h1, cond_false] at q
        cases h3 : ieq m (-1) with
        | true =>
          rw [h3, cond_true] at q
          split at q
          · exact yprop_ok hd q g
          · rename_i u hu
            have hb := yub_ok g.eo hu
            rw [yev_sub, yev_neg, yev_var] at hb
            cases h2 : ile (Int.neg u) lo with
            | true => rw [h2, cond_true] at q; exact yprop_ok hd q g
            | false =>
              rw [h2, cond_false, fI_eq] at q
              refine yprop_ok hd q (fun e he => ?_)
              rcases List.mem_cons.mp he with rfl | he
              · exact ⟨hm.1, by dsimp only; have e1 : Int.neg u = - u := rfl; rw [e1]; omega, hm.2.2.1, hm.2.2.2⟩
              · exact g e he
        | false =>
          rw [h3, cond_false] at q
          exact yprop_ok hd q g
/-- a sum is not above 0: what follows -/
noncomputable def yasm (w : yW) (d : yL) (K : yW → Bool) : Bool := match w with
  | (k, E, F, H, N) => match d with
    | (c, []) => bif ile c 0 then K (k, E, F, H, N) else true
    | (c, [(i, m)]) => (match yget E i with
      | none => K (k, E, F, H, N)
      | some (lo, hi, t) => bif ieq m 1 then (bif ile hi (Int.neg c) then K (k, E, F, H, N) else bif ile lo (Int.neg c) then fI (Int.neg c) fun x => K (k, (i, lo, x, t) :: E, F, H, N) else true)
        else bif ieq m (-1) then (bif ile c lo then K (k, E, F, H, N) else bif ile c hi then fI c fun x => K (k, (i, x, hi, t) :: E, F, H, N) else true)
        else K (k, E, F, H, N))
    | (c, ts) => bif yle E F (ysub (ycon 1) (c, ts)) then true else yprop (c, ts) ts E fun E => K (k, E, (c, ts) :: F, H, N)
theorem yasm_ok {d : yL} {K : yW → Bool} (q : yasm w d K = true) (g : yWo tx w ρ τ h) (hs : ysp w.1 d) (hd : yev ρ d ≤ 0) : ∃ w' : yW, K w' = true ∧ w'.1 = w.1 ∧ yWo tx w' ρ τ h := by
  obtain ⟨k, E, F, H, N⟩ := w
  have g0 := g
  obtain ⟨gE, gF, gH, gN⟩ := g
  dsimp only at gE gF gH gN hs
  unfold yasm at q
  dsimp only at q
  split at q
  · rename_i c
    have e : yev ρ (c, []) = c := yev_con ρ c
    rw [e] at hd
    rw [(ile_iff c 0).mpr hd, cond_true] at q
    exact ⟨_, q, rfl, g0⟩
  · rename_i c i m
    split at q
    · exact ⟨_, q, rfl, g0⟩
    · rename_i lo hi t hg
      have hm := gE _ (yget_mem hg)
      dsimp only at hm
      have e : yev ρ (c, [(i, m)]) = c + (m * ρ i + 0) := rfl
      rw [e] at hd
      have en : Int.neg c = - c := rfl
      cases h1 : ieq m 1 with
      | true =>
        have hm1 := (ieq_iff _ _).mp h1
        subst hm1
        rw [h1, cond_true] at q
        cases h2 : ile hi (Int.neg c) with
        | true => rw [h2, cond_true] at q; exact ⟨_, q, rfl, g0⟩
        | false =>
          rw [h2, cond_false] at q
          have h3 : ile lo (Int.neg c) = true := (ile_iff _ _).mpr (by rw [en]; omega)
          rw [h3, cond_true, fI_eq] at q
          refine ⟨_, q, rfl, ?_, gF, gH, gN⟩
          intro e he
          rcases List.mem_cons.mp he with rfl | he
          · exact ⟨hm.1, hm.2.1, by dsimp only; rw [en]; omega, hm.2.2.2⟩
          · exact gE e he
      | false =>
        rw [h1, cond_false] at q
        cases h3 : ieq m (-1) with
        | true =>
          have hm1 := (ieq_iff _ _).mp h3
          subst hm1
          rw [h3, cond_true] at q
          cases h2 : ile c lo with
          | true => rw [h2, cond_true] at q; exact ⟨_, q, rfl, g0⟩
          | false =>
            rw [h2, cond_false] at q
            have h4 : ile c hi = true := (ile_iff _ _).mpr (by omega)
            rw [h4, cond_true, fI_eq] at q
            refine ⟨_, q, rfl, ?_, gF, gH, gN⟩
            intro e he
            rcases List.mem_cons.mp he with rfl | he
            · exact ⟨hm.1, by dsimp only; omega, hm.2.2.1, hm.2.2.2⟩
            · exact gE e he
        | false => rw [h3, cond_false] at q; exact ⟨_, q, rfl, g0⟩
  · rename_i c ts _ _
    cases h1 : yle E F (ysub (ycon 1) (c, ts)) with
    | true =>
      have h2 := yle_ok gE.eo gF.le h1
      rw [yev_sub, yev_con] at h2
      omega
    | false =>
      rw [h1, cond_false] at q
      obtain ⟨E', q', g'⟩ := yprop_ok (τ := τ) (k := k) hd q gE
      refine ⟨_, q', rfl, g', ?_, gH, gN⟩
      intro f hf
      rcases List.mem_cons.mp hf with rfl | hf
      · exact ⟨hs, hd⟩
      · exact gF f hf
/-- a sum is not 0 -/
noncomputable def yne (w : yW) (d : yL) (K : yW → Bool) : Bool := match w with
  | (k, E, F, H, N) => match d with
    | (c, []) => bif ieq0 c then true else K (k, E, F, H, N)
    | (c, [(i, m)]) => (match yget E i with
      | none => K (k, E, F, H, N)
      | some (lo, hi, t) => bif ieq (Int.add c (Int.mul m lo)) 0 then (bif ile hi lo then true else fI (Int.add lo 1) fun x => K (k, (i, x, hi, t) :: E, F, H, N))
        else bif ieq (Int.add c (Int.mul m hi)) 0 then fI (Int.sub hi 1) fun x => K (k, (i, lo, x, t) :: E, F, H, N)
        else bif ieq lo 2 && (ieq hi 14 && (ieq m 1 && ieq c (-10))) then K (k, (i, 2, 9, t) :: E, F, H, N) && K (k, (i, 11, 14, t) :: E, F, H, N) else bif ieq lo (Int.negSucc 2147483647) && (ieq hi (Int.ofNat 2147483647) && (ieq m 1 && ieq c 1)) then K (k, (i, Int.negSucc 2147483647, Int.negSucc 1, t) :: E, F, H, N) && K (k, (i, Int.ofNat 0, Int.ofNat 2147483647, t) :: E, F, H, N) else K (k, E, F, H, N))
    | _ => K (k, E, F, H, N)
theorem yne_ok {d : yL} {K : yW → Bool} (q : yne w d K = true) (g : yWo tx w ρ τ h) (hd : yev ρ d ≠ 0) : ∃ w' : yW, K w' = true ∧ w'.1 = w.1 ∧ yWo tx w' ρ τ h := by
  obtain ⟨k, E, F, H, N⟩ := w
  have g0 := g
  obtain ⟨gE, gF, gH, gN⟩ := g
  dsimp only at gE gF gH gN
  unfold yne at q
  dsimp only at q
  split at q
  · rename_i c
    have e : yev ρ (c, []) = c := yev_con ρ c
    rw [e] at hd
    cases h1 : ieq0 c with
    | true => exact absurd ((ieq0_iff _).mp h1) hd
    | false => rw [h1, cond_false] at q; exact ⟨_, q, rfl, g0⟩
  · rename_i c i m
    split at q
    · exact ⟨_, q, rfl, g0⟩
    · rename_i lo hi t hg
      have hm := gE _ (yget_mem hg)
      dsimp only at hm
      have e : yev ρ (c, [(i, m)]) = c + (m * ρ i + 0) := rfl
      rw [e] at hd
      have ea : ∀ z : Int, Int.add c (Int.mul m z) = c + m * z := fun _ => rfl
      cases h1 : ieq (Int.add c (Int.mul m lo)) 0 with
      | true =>
        have h2 := (ieq_iff _ _).mp h1
        rw [ea] at h2
        have hne : ρ i ≠ lo := fun q => hd (by rw [q]; omega)
        rw [h1, cond_true] at q
        cases h3 : ile hi lo with
        | true => have := (ile_iff _ _).mp h3; omega
        | false =>
          rw [h3, cond_false, fI_eq] at q
          refine ⟨_, q, rfl, ?_, gF, gH, gN⟩
          intro e he
          rcases List.mem_cons.mp he with rfl | he
          · refine ⟨hm.1, ?_, hm.2.2.1, hm.2.2.2⟩
            have e1 : Int.add lo 1 = lo + 1 := rfl
            dsimp only
            rw [e1]
            omega
          · exact gE e he
      | false =>
        rw [h1, cond_false] at q
        cases h4 : ieq (Int.add c (Int.mul m hi)) 0 with
        | true =>
          have h2 := (ieq_iff _ _).mp h4
          rw [ea] at h2
          have hne : ρ i ≠ hi := fun q => hd (by rw [q]; omega)
          rw [h4, cond_true, fI_eq] at q
          refine ⟨_, q, rfl, ?_, gF, gH, gN⟩
          intro e he
          rcases List.mem_cons.mp he with rfl | he
          · refine ⟨hm.1, hm.2.1, ?_, hm.2.2.2⟩
            have e1 : Int.sub hi 1 = hi - 1 := rfl
            dsimp only
            rw [e1]
            omega
          · exact gE e he
        | false =>
          rw [h4, cond_false] at q
          cases h5 : (ieq lo 2 && (ieq hi 14 && (ieq m 1 && ieq c (-10)))) with
          | false =>
            rw [h5, cond_false] at q
            cases h6 : (ieq lo (Int.negSucc 2147483647) && (ieq hi (Int.ofNat 2147483647) && (ieq m 1 && ieq c 1))) with
            | false => rw [h6, cond_false] at q; exact ⟨_, q, rfl, g0⟩
            | true =>
              rw [h6, cond_true, Bool.and_eq_true] at q
              simp only [Bool.and_eq_true, ieq_iff] at h6
              obtain ⟨e1, e2, rfl, rfl⟩ := h6
              have hz : ρ i ≤ -2 ∨ 0 ≤ ρ i := by omega
              have hm1 := hm.2.1
              have hm2 := hm.2.2.1
              rw [e1] at hm1
              rw [e2] at hm2
              rcases hz with hz | hz
              · refine ⟨_, q.1, rfl, ?_, gF, gH, gN⟩
                intro e he
                rcases List.mem_cons.mp he with rfl | he
                · exact ⟨hm.1, hm1, hz, hm.2.2.2⟩
                · exact gE e he
              · refine ⟨_, q.2, rfl, ?_, gF, gH, gN⟩
                intro e he
                rcases List.mem_cons.mp he with rfl | he
                · exact ⟨hm.1, hz, hm2, hm.2.2.2⟩
                · exact gE e he
          | true =>
            rw [h5, cond_true, Bool.and_eq_true] at q
            simp only [Bool.and_eq_true, ieq_iff] at h5
            obtain ⟨rfl, rfl, rfl, rfl⟩ := h5
            have hz : ρ i ≤ 9 ∨ 11 ≤ ρ i := by omega
            rcases hz with hz | hz
            · refine ⟨_, q.1, rfl, ?_, gF, gH, gN⟩
              intro e he
              rcases List.mem_cons.mp he with rfl | he
              · exact ⟨hm.1, hm.2.1, hz, hm.2.2.2⟩
              · exact gE e he
            · refine ⟨_, q.2, rfl, ?_, gF, gH, gN⟩
              intro e he
              rcases List.mem_cons.mp he with rfl | he
              · exact ⟨hm.1, hz, hm.2.2.1, hm.2.2.2⟩
              · exact gE e he
  · exact ⟨_, q, rfl, g0⟩
/-- d compared with 0 -/
noncomputable def ycnd (o : Jvm.ClassFile.Cond) (w : yW) (d : yL) (K1 K2 : yW → Bool) : Bool := fL d fun d => match o with
  | .eq => (yasm w d fun w => fL (yneg d) fun n => yasm w n K1) && yne w d K2
  | .ne => yne w d K1 && (yasm w d fun w => fL (yneg d) fun n => yasm w n K2)
  | .lt => (fL (yadd (ycon 1) d) fun x => yasm w x K1) && (fL (yneg d) fun x => yasm w x K2)
  | .ge => (fL (yneg d) fun x => yasm w x K1) && (fL (yadd (ycon 1) d) fun x => yasm w x K2)
  | .gt => (fL (ysub (ycon 1) d) fun x => yasm w x K1) && yasm w d K2
  | .le => yasm w d K1 && (fL (ysub (ycon 1) d) fun x => yasm w x K2)
noncomputable def ycmp (o : Jvm.ClassFile.Cond) (x : Int) : Prop := match o with
  | .eq => x = 0
  | .ne => ¬ x = 0
  | .lt => x < 0
  | .ge => 0 ≤ x
  | .gt => 0 < x
  | .le => x ≤ 0
theorem yeq_ok {d : yL} {K : yW → Bool} (q : (yasm w d fun w => fL (yneg d) fun n => yasm w n K) = true) (g : yWo tx w ρ τ h) (hs : ysp w.1 d) (hd : yev ρ d = 0) : ∃ w' : yW, K w' = true ∧ w'.1 = w.1 ∧ yWo tx w' ρ τ h := by
  obtain ⟨w1, q1, e1, g1⟩ := yasm_ok q g hs (by omega)
  rw [fL_eq] at q1
  obtain ⟨w2, q2, e2, g2⟩ := yasm_ok q1 g1 (by rw [e1]; exact ysp_neg hs) (by rw [yev_neg]; omega)
  exact ⟨w2, q2, e2.trans e1, g2⟩
theorem ycnd_ok {o : Jvm.ClassFile.Cond} {d : yL} {K1 K2 : yW → Bool} (q : ycnd o w d K1 K2 = true) (g : yWo tx w ρ τ h) (hs : ysp w.1 d) : (ycmp o (yev ρ d) → ∃ w' : yW, K1 w' = true ∧ w'.1 = w.1 ∧ yWo tx w' ρ τ h) ∧ (¬ ycmp o (yev ρ d) → ∃ w' : yW, K2 w' = true ∧ w'.1 = w.1 ∧ yWo tx w' ρ τ h) := by
  have s1 : ysp w.1 (yadd (ycon 1) d) := ysp_add (ysp_con _ _) hs
  have s2 : ysp w.1 (ysub (ycon 1) d) := ysp_sub (ysp_con _ _) hs
  have s3 : ysp w.1 (yneg d) := ysp_neg hs
  unfold ycnd at q
  rw [fL_eq] at q
  cases o <;> dsimp only at q <;> rw [Bool.and_eq_true] at q <;> obtain ⟨q1, q2⟩ := q <;> (try rw [fL_eq] at q1) <;> (try rw [fL_eq] at q2) <;> dsimp only [ycmp]
  · exact ⟨fun hd => yeq_ok q1 g hs hd, fun hd => yne_ok q2 g hd⟩
  · exact ⟨fun hd => yne_ok q1 g hd, fun hd => yeq_ok q2 g hs (by omega)⟩
  · exact ⟨fun hd => yasm_ok q1 g s1 (by rw [yev_add, yev_con]; omega), fun hd => yasm_ok q2 g s3 (by rw [yev_neg]; omega)⟩
  · exact ⟨fun hd => yasm_ok q1 g s3 (by rw [yev_neg]; omega), fun hd => yasm_ok q2 g s1 (by rw [yev_add, yev_con]; omega)⟩
  · exact ⟨fun hd => yasm_ok q1 g s2 (by rw [yev_sub, yev_con]; omega), fun hd => yasm_ok q2 g hs (by omega)⟩
  · exact ⟨fun hd => yasm_ok q1 g hs hd, fun hd => yasm_ok q2 g s2 (by rw [yev_sub, yev_con]; omega)⟩
end YA
