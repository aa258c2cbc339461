/-! pictures: what holds at a call, at an end, at a loop's head -/
/-- new names' places, bounds, sums not above 0, locals, stack, fields, lengths -/
noncomputable abbrev yM : Type := List (Nat × Nat × Nat) × yE × List yL × yLs × List yV × yH × yN
noncomputable def ysbT (θ : List yL) : List (Nat × Int) → Option yL
  | [] => some (0, [])
  | (i, c) :: r => match yix θ i with
    | none => none
    | some a => (match ysbT θ r with
      | none => none
      | some b => some (yadd (yscl c a) b))
noncomputable def ysb (θ : List yL) (a : yL) : Option yL := match ysbT θ a.2 with
  | none => none
  | some b => some (yadd (a.1, []) b)
noncomputable def yrh (ρ : yR) (θ : List yL) : yR := fun i => match θ[i]? with
  | some a => yev ρ a
  | none => 0
noncomputable def yths (k : Nat) (θ : List yL) : Prop := ∀ a ∈ θ, ysp k a
theorem ysbT_ok {k : Nat} {ρ : yR} {θ : List yL} (hθ : yths k θ) : ∀ {t : List (Nat × Int)} {b : yL}, ysbT θ t = some b → yev ρ b = ytev (yrh ρ θ) t ∧ ysp k b ∧ ∀ q ∈ t, q.1 < θ.length
  | [], b, h => by
    cases h
    exact ⟨rfl, (fun _ h => by cases h), (fun _ h => by cases h)⟩
  | (i, c) :: r, b, h => by
    unfold ysbT at h
    split at h
    · cases h
    · rename_i a ha
      rw [yix_eq] at ha
      split at h
      · cases h
      · rename_i b2 hb
        cases h
        obtain ⟨e1, e2, e3⟩ := ysbT_ok hθ hb
        have hlt : i < θ.length := by
          rcases Nat.lt_or_ge i θ.length with z | z
          · exact z
          · rw [List.getElem?_eq_none z] at ha; cases ha
        refine ⟨?_, ysp_add (ysp_scl (hθ a (List.mem_of_getElem? ha))) e2, fun q hq => ?_⟩
        · rw [yev_add, yev_scl, e1]
          have : yrh ρ θ i = yev ρ a := by unfold yrh; rw [ha]
          simp only [ytev]
          rw [this]
        · rcases List.mem_cons.mp hq with rfl | hq
          · exact hlt
          · exact e3 q hq
theorem ysb_ok {k : Nat} {ρ : yR} {θ : List yL} (hθ : yths k θ) {a b : yL} (h : ysb θ a = some b) : yev ρ b = yev (yrh ρ θ) a ∧ ysp k b ∧ ysp θ.length a := by
  unfold ysb at h
  split at h
  · cases h
  · rename_i b2 hb
    cases h
    obtain ⟨e1, e2, e3⟩ := ysbT_ok (ρ := ρ) hθ hb
    refine ⟨?_, ysp_add (ysp_con _ _) e2, e3⟩
    rw [yev_add, e1, show yev ρ (a.1, []) = a.1 from yev_con ρ a.1]
    rfl
/-- what is first remembered of a kind -/
noncomputable def yfst (k : Nat) : yN → Option (yV × yL)
  | [] => none
  | (v, l) :: r => bif Nat.beq v.1 k then some (v, l) else yfst k r
theorem yfst_mem {k : Nat} {q : yV × yL} : ∀ {N : yN}, yfst k N = some q → q ∈ N
  | (v, l) :: r, h => by
    unfold yfst at h
    cases hb : Nat.beq v.1 k with
    | true =>
      rw [hb, cond_true] at h
      cases h
      exact List.mem_cons_self
    | false =>
      rw [hb, cond_false] at h
      exact List.mem_cons_of_mem _ (yfst_mem h)
noncomputable def yslot (L : yLs) (st : List yV) (w : yW) (s : Nat × Nat × Nat) : Option yL := match s with
  | (0, i, _) => (match ygl L i with
    | some v => some v.2
    | none => none)
  | (1, p, f) => (match yhg w.2.2.2.1 p f with
    | some v => some v.2
    | none => none)
  | (2, i, _) => (match yix st i with
    | some v => some v.2
    | none => none)
  | (3, p, t) => ylnl w.2.2.2.2 (Nat.add p 4, (0, [(t, 1)]))
  | (5, p, _) => (match yfst p w.2.2.2.2 with
    | some q => some q.1.2
    | none => none)
  | (6, p, _) => (match yfst p w.2.2.2.2 with
    | some q => some q.2
    | none => none)
  | (_, p, t) => (match ylnl w.2.2.2.2 (Nat.add p 4, (0, [(t, 1)])) with
    | some r => ylnl w.2.2.2.2 (2, r)
    | none => none)
noncomputable def yslots (L : yLs) (st : List yV) (w : yW) : List (Nat × Nat × Nat) → Option (List yL)
  | [] => some []
  | s :: r => match yslot L st w s with
    | none => none
    | some a => (match yslots L st w r with
      | none => none
      | some b => some (a :: b))
/-- a value points to a kind of cell, if it points -/
noncomputable def ytg (TG : List Nat) (E : yE) (a : yL) (t : Nat) : Bool := match t with
  | 0 => true
  | _ => match a with
    | (c, []) => bif ile 0 c then (match yix TG c.toNat with
      | some t' => Nat.beq t' t
      | none => false) else true
    | (c, [(i, m)]) => ieq0 c && (ieq m 1 && (match yget E i with
      | some (_, _, t') => Nat.beq t' t
      | none => false))
    | _ => false
noncomputable def ymE (TG : List Nat) (θ : List yL) (w : yW) : yE → Bool
  | [] => true
  | (i, lo, hi, t) :: r => (match yix θ i with
    | some a => yin w lo hi a && ytg TG w.2.1 a t
    | none => false) && ymE TG θ w r
noncomputable def ymF (θ : List yL) (w : yW) : List yL → Bool
  | [] => true
  | f :: r => (match ysb θ f with
    | some b => yle w.2.1 w.2.2.1 b
    | none => false) && ymF θ w r
noncomputable def ymV (θ : List yL) (v u : yV) : Bool := Nat.beq v.1 u.1 && (match ysb θ v.2 with
  | some b => yzero (ysub u.2 b)
  | none => false)
noncomputable def ymL (θ : List yL) : yLs → yLs → Bool
  | [], [] => true
  | none :: r, _ :: s => ymL θ r s
  | some v :: r, some u :: s => ymV θ v u && ymL θ r s
  | _, _ => false
noncomputable def ymS (θ : List yL) : List yV → List yV → Bool
  | [], [] => true
  | v :: r, u :: s => ymV θ v u && ymS θ r s
  | _, _ => false
noncomputable def ymH (θ : List yL) (H : yH) : yH → Bool
  | [] => true
  | (p, f, v) :: r => (match yhg H p f with
    | some u => ymV θ v u
    | none => false) && ymH θ H r
noncomputable def ymN (θ : List yL) (N : yN) : yN → Bool
  | [] => true
  | ((kd, a), l) :: r => (match ysb θ a with
    | some b => (match ylnl N (kd, b) with
      | some l' => (match ysb θ l with
        | some b' => yzero (ysub l' b')
        | none => false)
      | none => false)
    | none => false) && ymN θ N r
noncomputable def fTh {β : Type} : List yL → (List yL → β) → β
  | [], k => k []
  | a :: r, k => fL a fun a => fTh r fun r => k (a :: r)
theorem fTh_eq {β : Type} : ∀ (θ : List yL) (k : List yL → β), fTh θ k = k θ
  | [], k => rfl
  | a :: r, k => by simp only [fTh, fL_eq, fTh_eq r]
noncomputable def ymt (TG : List Nat) (θ0 : List yL) (M : yM) (L : yLs) (st : List yV) (w : yW) (K : List yL → Bool) : Bool := match M with
  | (sl, E, F, L2, st2, H, N) => match yslots L st w sl with
    | none => false
    | some θ1 => fTh (θ0 ++ θ1) fun θ => ymE TG θ w E && (ymF θ w F && (ymL θ L2 L && (ymS θ st2 st && (ymH θ w.2.2.2.1 H && (ymN θ w.2.2.2.2 N && K θ)))))
section YM
variable {tx : yTx} {w : yW} {ρ : yR} {τ : List Nat} {h : zH} {TG : List Nat} {θ : List yL}
theorem yrh_at {ρ : yR} {θ : List yL} {i : Nat} {a : yL} (h : θ[i]? = some a) : yrh ρ θ i = yev ρ a := by unfold yrh; rw [h]
theorem ytg_ok {a : yL} {t : Nat} (q : ytg TG w.2.1 a t = true) (g : yWo tx w ρ τ h) (hp : yPre TG τ) : yTo τ (yev ρ a) t := by
  unfold ytg at q
  split at q
  · exact Or.inl rfl
  · split at q
    · rename_i c
      have e : yev ρ (c, []) = c := yev_con ρ c
      rw [e]
      cases hc : ile 0 c with
      | true =>
        rw [hc, cond_true] at q
        split at q
        · rename_i t' ht
          rw [yix_eq] at ht
          rw [← Nat.eq_of_beq_eq_true q]
          exact Or.inr (Or.inr (hp _ _ ht))
        · cases q
      | false =>
        refine Or.inr (Or.inl ?_)
        have : ¬ 0 ≤ c := fun z => by rw [(ile_iff _ _).mpr z] at hc; cases hc
        omega
    · rename_i c i m
      simp only [Bool.and_eq_true] at q
      obtain ⟨q1, q2, q3⟩ := q
      have e1 := (ieq0_iff _).mp q1
      have e2 := (ieq_iff _ _).mp q2
      subst e1
      subst e2
      have e : yev ρ (0, [(i, 1)]) = ρ i := yev_var ρ i
      rw [e]
      split at q3
      · rename_i lo hi t' hg
        rw [← Nat.eq_of_beq_eq_true q3]
        exact (g.1 _ (yget_mem hg)).2.2.2
      · cases q3
    · cases q
theorem ymE_ok (g : yWo tx w ρ τ h) (hp : yPre TG τ) : ∀ {E : yE}, ymE TG θ w E = true → yEk θ.length (yrh ρ θ) τ E
  | [], _ => fun _ h => by cases h
  | (i, lo, hi, t) :: r, q => by
    unfold ymE at q
    rw [Bool.and_eq_true] at q
    intro e he
    rcases List.mem_cons.mp he with rfl | he
    · have q1 := q.1
      split at q1
      · rename_i a ha
        rw [yix_eq] at ha
        rw [Bool.and_eq_true] at q1
        have b := yin_ok g q1.1
        dsimp only
        rw [yrh_at ha]
        refine ⟨?_, b.1, b.2, ytg_ok q1.2 g hp⟩
        rcases Nat.lt_or_ge i θ.length with z | z
        · exact z
        · rw [List.getElem?_eq_none z] at ha; cases ha
      · cases q1
    · exact ymE_ok g hp q.2 e he
theorem ymF_ok (g : yWo tx w ρ τ h) (hθ : yths w.1 θ) : ∀ {F : List yL}, ymF θ w F = true → yFo θ.length (yrh ρ θ) F
  | [], _ => fun _ h => by cases h
  | f :: r, q => by
    unfold ymF at q
    rw [Bool.and_eq_true] at q
    intro e he
    rcases List.mem_cons.mp he with rfl | he
    · have q1 := q.1
      split at q1
      · rename_i b hb
        obtain ⟨e1, e2, e3⟩ := ysb_ok (ρ := ρ) hθ hb
        have := g.le q1
        exact ⟨e3, by omega⟩
      · cases q1
    · exact ymF_ok g hθ q.2 e he
theorem ymV_ok {k : Nat} (hθ : yths k θ) {v u : yV} {x : Value} (q : ymV θ v u = true) (hu : yVo ρ k u x) : yVo (yrh ρ θ) θ.length v x := by
  unfold ymV at q
  rw [Bool.and_eq_true] at q
  obtain ⟨q1, q2⟩ := q
  split at q2
  · rename_i b hb
    obtain ⟨e1, e2, e3⟩ := ysb_ok (ρ := ρ) hθ hb
    have e4 := yzero_ev (ρ := ρ) q2
    rw [yev_sub] at e4
    obtain ⟨v1, v2⟩ := v
    obtain ⟨u1, u2⟩ := u
    have e5 : v1 = u1 := Nat.eq_of_beq_eq_true q1
    subst e5
    refine ⟨e3, ?_⟩
    have h2 := hu.2
    dsimp only at h2 e1 e4 ⊢
    rw [show yev (yrh ρ θ) v2 = yev ρ u2 by omega]
    exact h2
  · cases q2
theorem ymL_ok {k : Nat} (hθ : yths k θ) : ∀ {A B : yLs} {C : zL}, ymL θ A B = true → yLo ρ k B C → yLo (yrh ρ θ) θ.length A C
  | [], [], [], _, _ => trivial
  | [], [], _ :: _, _, g => g.elim
  | [], _ :: _, _, q, _ => by cases q
  | none :: r, [], _, q, _ => by cases q
  | some v :: r, [], _, q, _ => by cases q
  | none :: r, b :: s, [], _, g => g.elim
  | some v :: r, b :: s, [], _, g => g.elim
  | some v :: r, none :: s, c :: C, q, _ => by cases q
  | none :: r, b :: s, c :: C, q, g => ⟨(fun _ h => by cases h), ymL_ok hθ (by unfold ymL at q; exact q) g.2⟩
  | some v :: r, some u :: s, c :: C, q, g => by
    unfold ymL at q
    rw [Bool.and_eq_true] at q
    refine ⟨fun x hx => ?_, ymL_ok hθ q.2 g.2⟩
    cases hx
    obtain ⟨y, e1, e2⟩ := g.1 u rfl
    exact ⟨y, e1, ymV_ok hθ q.1 e2⟩
theorem ymS_ok {k : Nat} (hθ : yths k θ) : ∀ {A B : List yV} {C : List Value}, ymS θ A B = true → ySo ρ k B C → ySo (yrh ρ θ) θ.length A C
  | [], [], [], _, _ => trivial
  | [], [], _ :: _, _, g => g.elim
  | [], _ :: _, _, q, _ => by cases q
  | _ :: _, [], _, q, _ => by cases q
  | v :: r, u :: s, [], _, g => g.elim
  | v :: r, u :: s, c :: C, q, g => by
    unfold ymS at q
    rw [Bool.and_eq_true] at q
    exact ⟨ymV_ok hθ q.1 g.1, ymS_ok hθ q.2 g.2⟩
theorem ymH_ok (g : yWo tx w ρ τ h) (hθ : yths w.1 θ) : ∀ {H : yH}, ymH θ w.2.2.2.1 H = true → ∀ q ∈ H, yHq h (yrh ρ θ) θ.length q
  | [], _ => fun _ h => by cases h
  | (p, f, v) :: r, q => by
    unfold ymH at q
    rw [Bool.and_eq_true] at q
    intro e he
    rcases List.mem_cons.mp he with rfl | he
    · have q1 := q.1
      split at q1
      · rename_i u hu
        obtain ⟨cls, fs, x, b1, b2, b3⟩ := g.2.2.1 _ (yhg_mem hu)
        exact ⟨cls, fs, x, b1, b2, ymV_ok hθ q1 b3⟩
      · cases q1
    · exact ymH_ok g hθ q.2 e he
theorem ymN_ok (g : yWo tx w ρ τ h) (hθ : yths w.1 θ) : ∀ {N : yN}, ymN θ w.2.2.2.2 N = true → ∀ q ∈ N, yLn tx h (yrh ρ θ) θ.length q
  | [], _ => fun _ h => by cases h
  | ((kd, a), l) :: r, q => by
    unfold ymN at q
    rw [Bool.and_eq_true] at q
    intro e he
    rcases List.mem_cons.mp he with rfl | he
    · have q1 := q.1
      split at q1
      · rename_i b hb
        split at q1
        · rename_i l' hl
          split at q1
          · rename_i b' hb'
            obtain ⟨e1, e2, e3⟩ := ysb_ok (ρ := ρ) hθ hb
            obtain ⟨f1, f2, f3⟩ := ysb_ok (ρ := ρ) hθ hb'
            have e4 := yzero_ev (ρ := ρ) q1
            rw [yev_sub] at e4
            obtain ⟨v, m1, m2, m3⟩ := ylnl_mem hl
            obtain ⟨-, -, g3⟩ := g.2.2.2 _ m1
            obtain ⟨v1, v2⟩ := v
            dsimp only at m2 m3 g3
            subst m2
            rw [m3, e1, show yev ρ l' = yev (yrh ρ θ) l by omega] at g3
            exact ⟨e3, f3, g3⟩
          · cases q1
        · cases q1
      · cases q1
    · exact ymN_ok g hθ q.2 e he
theorem yslot_sp {L : yLs} {st : List yV} {Lc : zL} {sc : List Value} (g : yWo tx w ρ τ h) (hL : yLo ρ w.1 L Lc) (hS : ySo ρ w.1 st sc) {s : Nat × Nat × Nat} {a : yL} (q : yslot L st w s = some a) : ysp w.1 a := by
  unfold yslot at q
  split at q
  · split at q
    · rename_i v hv
      cases q
      obtain ⟨x, -, b⟩ := hL.get hv
      exact b.1
    · cases q
  · split at q
    · rename_i v hv
      cases q
      obtain ⟨cls, fs, x, b1, b2, b3⟩ := g.2.2.1 _ (yhg_mem hv)
      exact b3.1
    · cases q
  · split at q
    · rename_i v hv
      cases q
      have : ∀ {s : List yV} {t : List Value} {i : Nat} {v : yV}, ySo ρ w.1 s t → yix s i = some v → ysp w.1 v.2 := by
        intro s
        induction s with
        | nil => intro t i v _ h; cases h
        | cons x s ih =>
          intro t i v g h
          cases t with
          | nil => exact g.elim
          | cons y t =>
            cases i with
            | zero => cases h; exact g.1.1
            | succ i => exact ih g.2 h
      exact this hS hv
    · cases q
  · obtain ⟨v, m1, -⟩ := ylnl_mem q
    exact (g.2.2.2 _ m1).2.1
  · split at q
    · rename_i v hv
      cases q
      exact (g.2.2.2 _ (yfst_mem hv)).1
    · cases q
  · split at q
    · rename_i v hv
      cases q
      exact (g.2.2.2 _ (yfst_mem hv)).2.1
    · cases q
  · split at q
    · obtain ⟨v, m1, -⟩ := ylnl_mem q
      exact (g.2.2.2 _ m1).2.1
    · cases q
theorem yslots_sp {L : yLs} {st : List yV} {Lc : zL} {sc : List Value} (g : yWo tx w ρ τ h) (hL : yLo ρ w.1 L Lc) (hS : ySo ρ w.1 st sc) : ∀ {sl : List (Nat × Nat × Nat)} {θ : List yL}, yslots L st w sl = some θ → yths w.1 θ ∧ θ.length = sl.length
  | [], θ, q => by cases q; exact ⟨(fun _ h => by cases h), rfl⟩
  | s :: r, θ, q => by
    unfold yslots at q
    split at q
    · cases q
    · rename_i a ha
      split at q
      · cases q
      · rename_i b hb
        cases q
        obtain ⟨e1, e2⟩ := yslots_sp g hL hS hb
        refine ⟨fun x hx => ?_, by simp [e2]⟩
        rcases List.mem_cons.mp hx with rfl | hx
        · exact yslot_sp g hL hS ha
        · exact e1 x hx
/-- the world of a picture -/
noncomputable def yMw (k : Nat) (M : yM) : yW := (k, M.2.1, M.2.2.1, M.2.2.2.2.2.1, M.2.2.2.2.2.2)
theorem ymt_ok {θ0 : List yL} {M : yM} {L : yLs} {st : List yV} {Lc : zL} {sc : List Value} {K : List yL → Bool} (q : ymt TG θ0 M L st w K = true) (g : yWo tx w ρ τ h) (hp : yPre TG τ) (hL : yLo ρ w.1 L Lc) (hS : ySo ρ w.1 st sc) (h0 : yths w.1 θ0) : ∃ θ1 : List yL, K (θ0 ++ θ1) = true ∧ θ1.length = M.1.length ∧ yths w.1 (θ0 ++ θ1) ∧ yWo tx (yMw (θ0.length + M.1.length) M) (yrh ρ (θ0 ++ θ1)) τ h ∧ yLo (yrh ρ (θ0 ++ θ1)) (θ0.length + M.1.length) M.2.2.2.1 Lc ∧ ySo (yrh ρ (θ0 ++ θ1)) (θ0.length + M.1.length) M.2.2.2.2.1 sc := by
  obtain ⟨sl, E, F, L2, st2, H, N⟩ := M
  unfold ymt at q
  dsimp only at q
  split at q
  · cases q
  · rename_i θ1 hθ
    obtain ⟨e1, e2⟩ := yslots_sp g hL hS hθ
    rw [fTh_eq] at q
    simp only [Bool.and_eq_true] at q
    obtain ⟨q1, q2, q3, q4, q5, q6, q7⟩ := q
    have hθ' : yths w.1 (θ0 ++ θ1) := fun a ha => (List.mem_append.mp ha).elim (h0 a) (e1 a)
    have el : θ0.length + sl.length = (θ0 ++ θ1).length := by rw [List.length_append, e2]
    refine ⟨θ1, q7, e2, hθ', ?_, ?_, ?_⟩
    · dsimp only
      rw [el]
      exact ⟨ymE_ok g hp q1, ymF_ok g hθ' q2, ymH_ok g hθ' q5, ymN_ok g hθ' q6⟩
    · dsimp only
      rw [el]
      exact ymL_ok hθ' q3 hL
    · dsimp only
      rw [el]
      exact ymS_ok hθ' q4 hS
end YM
