/-! what a call leaves, by its picture -/
noncomputable def ywf (l : List (Nat × Nat)) (t f : Nat) : Bool := match l with
  | [] => false
  | (a, b) :: r => bif Nat.beq a t && Nat.beq b f then true else ywf r t f
/-- a contract: what holds at the call, what it may write, its level, what holds behind it -/
noncomputable abbrev yCt : Type := yM × List (Nat × Nat) × yL × List yM
noncomputable def yvars : Nat → Nat → List yL
  | _, 0 => []
  | k, n + 1 => (0, [(k, 1)]) :: yvars (Nat.succ k) n
theorem yvars_len : ∀ (n k : Nat), (yvars k n).length = n
  | 0, _ => rfl
  | n + 1, k => by simp [yvars, yvars_len n]
theorem yvars_get : ∀ {n k i : Nat}, i < n → (yvars k n)[i]? = some (yvar (k + i))
  | 0, _, i, h => absurd h (Nat.not_lt_zero _)
  | n + 1, k, 0, _ => rfl
  | n + 1, k, i + 1, h => by
    have h9 := yvars_get (k := Nat.succ k) (Nat.lt_of_succ_lt_succ h)
    rw [show k + (i + 1) = Nat.succ k + i by omega]
    exact h9
/-- the bounds of the new names, moved -/
noncomputable def ynE (m k : Nat) : yE → yE → yE
  | [], R => R
  | (i, lo, hi, t) :: r, R => bif Nat.ble m i then fN (Nat.add k (Nat.sub i m)) fun i => (i, lo, hi, t) :: ynE m k r R else ynE m k r R
noncomputable def ysbV (θ : List yL) (v : yV) : Option yV := match ysb θ v.2 with
  | some b => some (v.1, b)
  | none => none
noncomputable def ysbF (θ : List yL) : List yL → Option (List yL)
  | [] => some []
  | f :: r => match ysb θ f, ysbF θ r with
    | some b, some c => some (b :: c)
    | _, _ => none
noncomputable def ysbH (θ : List yL) : yH → Option yH
  | [] => some []
  | (p, f, v) :: r => match ysbV θ v, ysbH θ r with
    | some b, some c => some ((p, f, b) :: c)
    | _, _ => none
noncomputable def ysbN (θ : List yL) : yN → Option yN
  | [] => some []
  | (v, l) :: r => match ysbV θ v, ysb θ l, ysbN θ r with
    | some b, some d, some c => some ((b, d) :: c)
    | _, _, _ => none
noncomputable def ysbS (θ : List yL) : List yV → Option (List yV)
  | [] => some []
  | v :: r => match ysbV θ v, ysbS θ r with
    | some b, some c => some (b :: c)
    | _, _ => none
noncomputable def ykeep (TG : List Nat) (W : List (Nat × Nat)) : yH → yH
  | [] => []
  | (p, f, v) :: r => (match yix TG p with
    | some t => bif ywf W t f then ykeep TG W r else (p, f, v) :: ykeep TG W r
    | none => ykeep TG W r)
noncomputable def ykq (TG : List Nat) (W : List (Nat × Nat)) (kd : Nat) : Bool := match kd with
  | p + 4 => bif Nat.ble 100000 p then true else (match yix TG p with
    | some t => ywf W t 0
    | none => true)
  | _ => false
/-- what a call leaves of the remembered relations -/
noncomputable def ytch (gx : Nat → Nat → Bool) : List (Nat × Nat) → Bool
  | [] => false
  | (t, f) :: r => bif gx t f then true else ytch gx r
noncomputable def yokn (gx : Nat → Nat → Bool) (W : List (Nat × Nat)) (N : yN) : yN := bif ytch gx W then [] else yogh N
theorem ytch_ok {gx : Nat → Nat → Bool} : ∀ {W : List (Nat × Nat)}, ytch gx W = false → ∀ t f, ywf W t f = true → gx t f = false
  | [], _, _, _, h => by cases h
  | (a, b) :: r, q, t, f, h => by
    unfold ytch at q
    unfold ywf at h
    cases hb : gx a b with
    | true => rw [hb] at q; cases q
    | false =>
      rw [hb, cond_false] at q
      cases hz : (Nat.beq a t && Nat.beq b f) with
      | true =>
        rw [Bool.and_eq_true] at hz
        rw [← Nat.eq_of_beq_eq_true hz.1, ← Nat.eq_of_beq_eq_true hz.2]
        exact hb
      | false => rw [hz, cond_false] at h; exact ytch_ok q t f h
noncomputable def ykn (TG : List Nat) (W : List (Nat × Nat)) : yN → yN
  | [] => []
  | (v, l) :: r => bif ykq TG W v.1 then ykn TG W r else (v, l) :: ykn TG W r
theorem ykn_mem {TG : List Nat} {W : List (Nat × Nat)} {q : yV × yL} : ∀ {N : yN}, q ∈ ykn TG W N → q ∈ N ∧ ykq TG W q.1.1 = false
  | (v, l) :: r, h => by
    unfold ykn at h
    cases hb : ykq TG W v.1 with
    | true =>
      rw [hb, cond_true] at h
      obtain ⟨a, b⟩ := ykn_mem h
      exact ⟨List.mem_cons_of_mem _ a, b⟩
    | false =>
      rw [hb, cond_false] at h
      rcases List.mem_cons.mp h with rfl | h
      · exact ⟨List.mem_cons_self, hb⟩
      · obtain ⟨a, b⟩ := ykn_mem h
        exact ⟨List.mem_cons_of_mem _ a, b⟩
noncomputable def yasms : List yL → yW → (yW → Bool) → Bool
  | [], w, K => K w
  | f :: r, w, K => fL f fun f => yasm w f fun w => yasms r w K
noncomputable def fSt {β : Type} : List yV → (List yV → β) → β
  | [], k => k []
  | v :: r, k => fV v fun v => fSt r fun r => k (v :: r)
theorem fSt_eq {β : Type} : ∀ (θ : List yV) (k : List yV → β), fSt θ k = k θ
  | [], k => rfl
  | v :: r, k => by simp only [fSt, fV_eq, fSt_eq r]
noncomputable def fEe {β : Type} : yE → (yE → β) → β
  | [], k => k []
  | x :: r, k => fEe r fun r => k (x :: r)
theorem fEe_eq {β : Type} : ∀ (θ : yE) (k : yE → β), fEe θ k = k θ
  | [], k => rfl
  | x :: r, k => by simp only [fEe, fEe_eq r]
noncomputable def yapp (TG : List Nat) (gx : Nat → Nat → Bool) (θ : List yL) (W : List (Nat × Nat)) (P : yM) (w : yW) (K : List yV → yW → Bool) : Bool := match P, w with
  | (sl, EP, FP, _, sP, HP, NP), (k, E, F, H, N) => fTh (θ ++ yvars k sl.length) fun θ2 => match ysbF θ2 FP, ysbH θ2 HP, ysbN θ2 NP, ysbS θ2 sP with
    | some F2, some H2, some N2, some s2 => fN (Nat.add k sl.length) fun k2 => fEe (ynE θ.length k EP E) fun E2 => fHh (H2 ++ ykeep TG W H) fun H3 => fNn (N2 ++ (yokn gx W N ++ ykn TG W N)) fun N3 => fSt s2 fun s3 => yasms F2 (k2, E2, F, H3, N3) fun w => K s3 w
    | _, _, _, _ => false
section YAP
variable {tx : yTx} {w : yW} {ρ : yR} {τ : List Nat} {h : zH} {TG : List Nat} {θ : List yL}
theorem yasms_ok : ∀ {F : List yL} {w : yW} {K : yW → Bool}, yasms F w K = true → yWo tx w ρ τ h → (∀ f ∈ F, ysp w.1 f ∧ yev ρ f ≤ 0) → ∃ w' : yW, K w' = true ∧ w'.1 = w.1 ∧ yWo tx w' ρ τ h
  | [], w, K, q, g, _ => ⟨w, q, rfl, g⟩
  | f :: r, w, K, q, g, hF => by
    unfold yasms at q
    rw [fL_eq] at q
    obtain ⟨w1, a1, a2, a3⟩ := yasm_ok q g (hF f List.mem_cons_self).1 (hF f List.mem_cons_self).2
    obtain ⟨w2, b1, b2, b3⟩ := yasms_ok a1 a3 (fun f hf => by rw [a2]; exact hF f (List.mem_cons_of_mem _ hf))
    exact ⟨w2, b1, b2.trans a2, b3⟩
theorem ykeep_ok {W : List (Nat × Nat)} {h2 : zH} (hp : yPre TG τ) (hf : yFr (ywf W) τ h h2) {k : Nat} : ∀ {H : yH}, (∀ q ∈ H, yHq h ρ k q) → ∀ q ∈ ykeep TG W H, yHq h2 ρ k q
  | [], _ => fun _ h => by cases h
  | (p, f, v) :: r, hH => by
    have ih := ykeep_ok hp hf (H := r) (fun q hq => hH q (List.mem_cons_of_mem _ hq))
    intro q hq
    unfold ykeep at hq
    split at hq
    · rename_i t ht
      rw [yix_eq] at ht
      cases hb : ywf W t f with
      | true => rw [hb, cond_true] at hq; exact ih q hq
      | false =>
        rw [hb, cond_false] at hq
        rcases List.mem_cons.mp hq with rfl | hq
        · obtain ⟨cls, fs, u, b1, b2, b3⟩ := hH _ List.mem_cons_self
          obtain ⟨c2, d1, d2⟩ := hf _ _ _ (hp _ _ ht) b1
          match c2, d1, d2 with
          | .inr (cls2, gs), d1, d2 =>
            obtain ⟨rfl, e2, e3⟩ := d2
            exact ⟨_, gs, u, d1, by rw [e3 f hb]; exact b2, b3⟩
        · exact ih q hq
    · exact ih q hq
theorem yln_fr {W : List (Nat × Nat)} {TT : List yC} {h2 : zH} (hp : yPre TG τ) (hh : yHo TT τ h) (hf : yFr (ywf W) τ h h2) {k : Nat} {q : yV × yL} (hq : ykq TG W q.1.1 = false) (g : yLn tx h ρ k q) : yLn tx h2 ρ k q := by
  obtain ⟨v, l⟩ := q
  obtain ⟨kd, a⟩ := v
  obtain ⟨g1, g2, g3⟩ := g
  refine ⟨g1, g2, ?_⟩
  dsimp only at g3 hq ⊢
  split at g3
  · exact g3
  · rename_i p
    unfold ykq at hq
    dsimp only at hq
    cases hkb : Nat.ble 100000 p with
    | true => rw [hkb] at hq; cases hq
    | false =>
    unfold yL4 at g3 ⊢
    rw [hkb] at g3 ⊢
    dsimp only at g3 ⊢
    obtain ⟨kd', N, f, e1, e2⟩ := g3
    rw [hkb, cond_false, yix_eq] at hq
    split at hq
    · rename_i t ht
      obtain ⟨c2, d1, d2⟩ := hf _ _ _ (hp _ _ ht) e1
      match c2, d1, d2 with
      | .inl (k2, N2, y), d1, d2 =>
        obtain ⟨rfl, rfl, d3⟩ := d2
        rw [d3 hq] at d1
        exact ⟨_, _, f, d1, e2⟩
    · cases hq
  · intro h0
    obtain ⟨kd', N, x, e1, e2⟩ := g3 h0
    have hlt : (yev ρ a).toNat < τ.length := by
      rw [hh.1]
      rcases Nat.lt_or_ge (yev ρ a).toNat h.length with z | z
      · exact z
      · rw [List.getElem?_eq_none z] at e1; cases e1
    obtain ⟨c2, d1, d2⟩ := hf _ _ _ (List.getElem?_eq_getElem hlt) e1
    match c2, d1, d2 with
    | .inl (k2, N2, y), d1, d2 =>
      obtain ⟨rfl, rfl, -⟩ := d2
      exact ⟨_, _, _, d1, e2⟩
theorem ynE_mem {m k : Nat} {R : yE} {e : Nat × Int × Int × Nat} : ∀ {E : yE}, e ∈ ynE m k E R → e ∈ R ∨ ∃ i, m ≤ i ∧ (i, e.2) ∈ E ∧ e.1 = k + (i - m)
  | [], h => Or.inl h
  | (i, x) :: r, h => by
    unfold ynE at h
    cases hb : Nat.ble m i with
    | true =>
      rw [hb, cond_true, fN_eq] at h
      rcases List.mem_cons.mp h with rfl | h
      · exact Or.inr ⟨i, Nat.le_of_ble_eq_true hb, List.mem_cons_self, rfl⟩
      · rcases ynE_mem h with h | ⟨j, a, b, c⟩
        · exact Or.inl h
        · exact Or.inr ⟨j, a, List.mem_cons_of_mem _ b, c⟩
    | false =>
      rw [hb, cond_false] at h
      rcases ynE_mem h with h | ⟨j, a, b, c⟩
      · exact Or.inl h
      · exact Or.inr ⟨j, a, List.mem_cons_of_mem _ b, c⟩
theorem ysbV_ok {k : Nat} (hθ : yths k θ) {v b : yV} (q : ysbV θ v = some b) {x : Value} (hx : yVo (yrh ρ θ) θ.length v x) : yVo ρ k b x := by
  unfold ysbV at q
  split at q
  · rename_i b2 hb
    cases q
    obtain ⟨e1, e2, e3⟩ := ysb_ok (ρ := ρ) hθ hb
    refine ⟨e2, ?_⟩
    have h2 := hx.2
    dsimp only
    rw [e1]
    exact h2
  · cases q
theorem ysbF_ok {k : Nat} (hθ : yths k θ) : ∀ {F F2 : List yL}, ysbF θ F = some F2 → (∀ f ∈ F, yev (yrh ρ θ) f ≤ 0) → ∀ f ∈ F2, ysp k f ∧ yev ρ f ≤ 0
  | [], F2, q, _ => by cases q; exact fun _ h => by cases h
  | f :: r, F2, q, hF => by
    unfold ysbF at q
    split at q
    · rename_i b c hb hc
      cases q
      intro x hx
      rcases List.mem_cons.mp hx with rfl | hx
      · obtain ⟨e1, e2, e3⟩ := ysb_ok (ρ := ρ) hθ hb
        have := hF f List.mem_cons_self
        exact ⟨e2, by omega⟩
      · exact ysbF_ok hθ hc (fun f hf => hF f (List.mem_cons_of_mem _ hf)) x hx
    · cases q
theorem ysbH_ok {k : Nat} (hθ : yths k θ) : ∀ {H H2 : yH}, ysbH θ H = some H2 → (∀ q ∈ H, yHq h (yrh ρ θ) θ.length q) → ∀ q ∈ H2, yHq h ρ k q
  | [], F2, q, _ => by cases q; exact fun _ h => by cases h
  | (p, f, v) :: r, F2, q, hF => by
    unfold ysbH at q
    split at q
    · rename_i b c hb hc
      cases q
      intro x hx
      rcases List.mem_cons.mp hx with rfl | hx
      · obtain ⟨cls, fs, u, b1, b2, b3⟩ := hF _ List.mem_cons_self
        exact ⟨cls, fs, u, b1, b2, ysbV_ok hθ hb b3⟩
      · exact ysbH_ok hθ hc (fun f hf => hF f (List.mem_cons_of_mem _ hf)) x hx
    · cases q
theorem ysbN_ok {k : Nat} (hθ : yths k θ) : ∀ {H H2 : yN}, ysbN θ H = some H2 → (∀ q ∈ H, yLn tx h (yrh ρ θ) θ.length q) → ∀ q ∈ H2, yLn tx h ρ k q
  | [], F2, q, _ => by cases q; exact fun _ h => by cases h
  | (v, l) :: r, F2, q, hF => by
    unfold ysbN at q
    split at q
    · rename_i b d c hb hd hc
      cases q
      intro x hx
      rcases List.mem_cons.mp hx with rfl | hx
      · obtain ⟨a1, a2, a3⟩ := hF _ List.mem_cons_self
        unfold ysbV at hb
        split at hb
        · rename_i b2 hb2
          cases hb
          obtain ⟨e1, e2, e3⟩ := ysb_ok (ρ := ρ) hθ hb2
          obtain ⟨f1, f2, f3⟩ := ysb_ok (ρ := ρ) hθ hd
          refine ⟨e2, f2, ?_⟩
          dsimp only at a3 ⊢
          rw [e1, f1]
          exact a3
        · cases hb
      · exact ysbN_ok hθ hc (fun f hf => hF f (List.mem_cons_of_mem _ hf)) x hx
    · cases q
theorem ysbS_ok {k : Nat} (hθ : yths k θ) : ∀ {s s2 : List yV} {t : List Value}, ysbS θ s = some s2 → ySo (yrh ρ θ) θ.length s t → ySo ρ k s2 t
  | [], s2, t, q, g => by
    cases q
    cases t with
    | nil => trivial
    | cons => exact g.elim
  | v :: r, s2, t, q, g => by
    unfold ysbS at q
    split at q
    · rename_i b c hb hc
      cases q
      cases t with
      | nil => exact g.elim
      | cons x t => exact ⟨ysbV_ok hθ hb g.1, ysbS_ok hθ hc g.2⟩
    · cases q
/-- behind a call: the post's names are the caller's new ones -/
theorem yapp_ok {TT : List yC} {Gd : yGS} {W : List (Nat × Nat)} {P : yM} {K : List yV → yW → Bool} {τ2 : List Nat} {h2 : zH} {ρP : yR} {sc : List Value} (hGf : yGfr tx TG TT Gd) (q : yapp TG Gd.2.1 θ W P w K = true) (g : yWo tx w ρ τ h) (hp : yPre TG τ) (hh : yHo TT τ h) (hf : yFr (ywf W) τ h h2) (hτ : yPre τ τ2) (hθ : yths w.1 θ) (hρ : ∀ i, i < θ.length → ρP i = yrh ρ θ i) (gP : yWo tx (yMw (θ.length + P.1.length) P) ρP τ2 h2) (sP : ySo ρP (θ.length + P.1.length) P.2.2.2.2.1 sc) : ∃ (w' : yW) (ρ' : yR) (s : List yV), K s w' = true ∧ ySt w.1 ρ w'.1 ρ' ∧ yWo tx w' ρ' τ2 h2 ∧ ySo ρ' w'.1 s sc := by
  obtain ⟨sl, EP, FP, LP, sP2, HP, NP⟩ := P
  obtain ⟨k, E, F, H, N⟩ := w
  unfold yapp at q
  dsimp only at q
  rw [fTh_eq] at q
  split at q
  · rename_i F2 H2 N2 s2 hF2 hH2 hN2 hs2
    rw [fN_eq, fEe_eq, fHh_eq, fNn_eq, fSt_eq] at q
    have s : ySt k ρ (k + sl.length) (fun i => if i < k then ρ i else ρP (θ.length + (i - k))) := ⟨Nat.le_add_right _ _, fun i hi => if_pos hi⟩
    generalize hρn : (fun i => if i < k then ρ i else ρP (θ.length + (i - k))) = ρn at s
    have hθ2 : yths (k + sl.length) (θ ++ yvars k sl.length) := by
      intro a ha
      rcases List.mem_append.mp ha with ha | ha
      · exact s.sp (hθ a ha)
      · obtain ⟨i, hi⟩ := List.getElem?_of_mem ha
        have hlt : i < sl.length := by
          rcases Nat.lt_or_ge i (yvars k sl.length).length with z | z
          · rwa [yvars_len] at z
          · rw [List.getElem?_eq_none z] at hi; cases hi
        rw [yvars_get hlt] at hi
        cases hi
        exact ysp_var (by omega)
    have hl2 : (θ ++ yvars k sl.length).length = θ.length + sl.length := by rw [List.length_append, yvars_len]
    have hrr : ∀ i, i < θ.length + sl.length → ρP i = yrh ρn (θ ++ yvars k sl.length) i := by
      intro i hi
      by_cases hz : i < θ.length
      · rw [hρ i hz, yrh_at (List.getElem?_eq_getElem hz), yrh_at (a := θ[i]) (by rw [List.getElem?_append_left hz]; exact List.getElem?_eq_getElem hz)]
        exact (s.ev (hθ _ (List.getElem_mem hz))).symm
      · rw [yrh_at (a := yvar (k + (i - θ.length))) (by rw [List.getElem?_append_right (by omega)]; exact yvars_get (by omega)), yev_var, ← hρn]
        dsimp only
        rw [if_neg (by omega), show θ.length + (k + (i - θ.length) - k) = i by omega]
    have sR : ySt (θ.length + sl.length) ρP (θ.length + sl.length) (yrh ρn (θ ++ yvars k sl.length)) := ⟨Nat.le_refl _, fun i hi => (hrr i hi).symm⟩
    obtain ⟨p1, p2, p3, p4⟩ := gP
    have gN : yWo tx (k + sl.length, ynE θ.length k EP E, F, H2 ++ ykeep TG W H, N2 ++ (yokn Gd.2.1 W N ++ ykn TG W N)) ρn τ2 h2 := by
      refine ⟨?_, s.fo g.2.1, ?_, ?_⟩
      · intro e he
        rcases ynE_mem he with he | ⟨i, a, b, c⟩
        · exact s.ek (g.1.pre hτ) e he
        · obtain ⟨d1, d2, d3, d4⟩ := p1 _ b
          dsimp only [yMw] at d1 d2 d3 d4
          have ei : ρn e.1 = ρP i := by
            rw [← hρn, c]
            dsimp only
            rw [if_neg (by omega), show θ.length + (k + (i - θ.length) - k) = i by omega]
          dsimp only
          rw [ei]
          exact ⟨by omega, d2, d3, d4⟩
      · intro z hz
        rcases List.mem_append.mp hz with hz | hz
        · exact ysbH_ok (ρ := ρn) hθ2 hH2 (fun q hq => by rw [hl2]; exact sR.hq (p3 q hq)) z hz
        · exact s.hq (ykeep_ok hp hf g.2.2.1 z hz)
      · intro z hz
        rcases List.mem_append.mp hz with hz | hz
        · exact ysbN_ok (ρ := ρn) hθ2 hN2 (fun q hq => by rw [hl2]; exact sR.ln (p4 q hq)) z hz
        · rcases List.mem_append.mp hz with hz | hz
          · unfold yokn at hz
            cases htc : ytch Gd.2.1 W with
            | true => rw [htc] at hz; cases hz
            | false =>
              rw [htc, cond_false] at hz
              refine s.ln (yog_fr g (hGf τ h h2 hp hh (hf.mono fun t f e => ?_)) z hz)
              cases hw : ywf W t f with
              | false => rfl
              | true => rw [ytch_ok htc t f hw] at e; cases e
          obtain ⟨z1, z2⟩ := ykn_mem hz
          exact s.ln (yln_fr hp hh hf z2 (g.2.2.2 z z1))
    obtain ⟨w', q1, q2, q3⟩ := yasms_ok q gN (ysbF_ok (ρ := ρn) hθ2 hF2 (fun f hf => ((sR.fo p2) f hf).2))
    refine ⟨w', ρn, s2, q1, ?_, q3, ?_⟩
    · rw [q2]; exact s
    · rw [q2]
      exact ysbS_ok hθ2 hs2 (by rw [hl2]; exact sR.so sP)
  · cases q
end YAP
