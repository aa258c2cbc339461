/-! the heap behind the two makers is of its kinds -/
noncomputable def dvok (τ : List Nat) (vt : yT) (w : Value) : Bool := match vt, w with
  | (0, lo, hi, _), .int x => decide (lo ≤ x.toInt) && decide (x.toInt ≤ hi)
  | (1, lo, hi, _), .long x => decide (lo ≤ x.toInt) && decide (x.toInt ≤ hi)
  | (2, lo, hi, tg), .ref q => decide (lo ≤ (q : Int)) && (decide ((q : Int) ≤ hi) && (Nat.beq tg 0 || decide (τ[q]? = some tg)))
  | (2, lo, hi, _), .null => decide (lo ≤ -1) && decide (-1 ≤ hi)
  | _, _ => false
theorem dvok_ok {τ : List Nat} {vt : yT} {w : Value} (h : dvok τ vt w = true) : yvo τ vt w := by
  unfold dvok at h
  split at h
  · rw [Bool.and_eq_true, decide_eq_true_eq, decide_eq_true_eq] at h
    exact ⟨_, rfl, h.1, h.2⟩
  · rw [Bool.and_eq_true, decide_eq_true_eq, decide_eq_true_eq] at h
    exact ⟨_, rfl, h.1, h.2⟩
  · rename_i lo hi tg q
    rw [Bool.and_eq_true, Bool.and_eq_true, Bool.or_eq_true, decide_eq_true_eq, decide_eq_true_eq, decide_eq_true_eq] at h
    refine ⟨(q : Int), ?_, h.1, h.2.1, ?_⟩
    · unfold zrn
      rw [if_neg (by omega)]
      rfl
    · exact h.2.2.imp Nat.eq_of_beq_eq_true Or.inr
  · rw [Bool.and_eq_true, decide_eq_true_eq, decide_eq_true_eq] at h
    exact ⟨-1, rfl, h.1, h.2, Or.inr (Or.inl (by decide))⟩
  · cases h
theorem dfi_all {P : Int32 → Prop} (h0 : P 0) : ∀ {u : List (Nat × Int32)}, (∀ q ∈ u, P q.2) → ∀ i, P (dfi u i)
  | [], _, i => h0
  | q :: r, h, i => by
    unfold dfi upd
    by_cases e : i = q.1
    · rw [if_pos e]; exact h q List.mem_cons_self
    · rw [if_neg e]; exact dfi_all h0 (fun z hz => h z (List.mem_cons_of_mem _ hz)) i
theorem dfl_all {P : Int64 → Prop} (h0 : P 0) : ∀ {u : List (Nat × Int64)}, (∀ q ∈ u, P q.2) → ∀ i, P (dfl u i)
  | [], _, i => h0
  | q :: r, h, i => by
    unfold dfl vp_updL
    by_cases e : i = q.1
    · rw [if_pos e]; exact h q List.mem_cons_self
    · rw [if_neg e]; exact dfl_all h0 (fun z hz => h z (List.mem_cons_of_mem _ hz)) i
noncomputable def daz (N : Nat) (x : dA) : yD := match x with
  | .inl u => .inl (dfi u)
  | .inr (.inl u) => .inr (.inl (dfl u))
  | .inr (.inr (b, u)) => .inr (.inr (.inr (.inr (dfq N b u))))
theorem dz_arr (k N : Nat) (x : dA) : dz (.inl (k, N, x)) = .inl (k, N, daz N x) := by
  match x with
  | .inl u => rfl
  | .inr (.inl u) => rfl
  | .inr (.inr (b, u)) => rfl
noncomputable def dinb (lo hi x : Int) : Bool := decide (lo ≤ x) && decide (x ≤ hi)
noncomputable def daok (τ : List Nat) (N : Nat) (vt : yT) (x : dA) : Bool := match vt, x with
  | (0, lo, hi, _), .inl u => (dinb lo hi 0 && u.all (fun q => dinb lo hi q.2.toInt)) || (List.range N).all (fun i => dinb lo hi (dfi u i).toInt)
  | (1, lo, hi, _), .inr (.inl u) => dinb lo hi 0 && u.all (fun q => dinb lo hi q.2.toInt)
  | (2, lo, hi, tg), .inr (.inr (b, u)) => (List.range N).all (fun i => dinb lo hi (zoi (dfq N b u i)) && (Nat.beq tg 0 || (decide (zoi (dfq N b u i) < 0) || decide (τ[(zoi (dfq N b u i)).toNat]? = some tg))))
  | _, _ => false
theorem dinb_ok {lo hi x : Int} (h : dinb lo hi x = true) : lo ≤ x ∧ x ≤ hi := by
  unfold dinb at h
  rw [Bool.and_eq_true, decide_eq_true_eq, decide_eq_true_eq] at h
  exact h
theorem daok_ok {τ : List Nat} {N : Nat} {vt : yT} {x : dA} (h : daok τ N vt x = true) : yAo τ N vt (daz N x) := by
  unfold daok at h
  split at h
  · rename_i lo hi tg u
    refine ⟨dfi u, rfl, fun i hi => ?_⟩
    rw [Bool.or_eq_true, Bool.and_eq_true, List.all_eq_true, List.all_eq_true] at h
    rcases h with h | h
    · exact dfi_all (P := fun z => lo ≤ z.toInt ∧ z.toInt ≤ _) (dinb_ok h.1) (fun q hq => dinb_ok (h.2 q hq)) i
    · exact dinb_ok (h i (List.mem_range.mpr hi))
  · rename_i lo hi tg u
    refine ⟨dfl u, rfl, fun i hi => ?_⟩
    rw [Bool.and_eq_true, List.all_eq_true] at h
    exact dfl_all (P := fun z => lo ≤ z.toInt ∧ z.toInt ≤ _) (dinb_ok h.1) (fun q hq => dinb_ok (h.2 q hq)) i
  · rename_i lo hi tg b u
    refine ⟨dfq N b u, rfl, fun i hi => ?_⟩
    rw [List.all_eq_true] at h
    have := h i (List.mem_range.mpr hi)
    rw [Bool.and_eq_true, Bool.or_eq_true, Bool.or_eq_true, decide_eq_true_eq, decide_eq_true_eq] at this
    exact ⟨(dinb_ok this.1).1, (dinb_ok this.1).2, this.2.imp Nat.eq_of_beq_eq_true id⟩
  · cases h
noncomputable def dall (τ : List Nat) : List yT → List Value → Bool
  | [], [] => true
  | t :: r, w :: s => dvok τ t w && dall τ r s
  | _, _ => false
theorem dall_ok {τ : List Nat} : ∀ {vts : List yT} {fs : List Value}, dall τ vts fs = true → fs.length = vts.length ∧ ∀ (i : Nat) (vt : yT), vts[i]? = some vt → ∃ w : Value, fs[i]? = some w ∧ yvo τ vt w
  | [], [], _ => ⟨rfl, fun i vt h => by cases h⟩
  | t :: r, w :: s, h => by
    unfold dall at h
    rw [Bool.and_eq_true] at h
    obtain ⟨e1, e2⟩ := dall_ok h.2
    refine ⟨by rw [List.length_cons, List.length_cons, e1], fun i vt hi => ?_⟩
    match i, hi with
    | 0, hi => cases hi; exact ⟨w, rfl, dvok_ok h.1⟩
    | i + 1, hi => exact e2 i vt hi
  | [], _ :: _, h => by cases h
  | _ :: _, [], h => by cases h
noncomputable def dcok (τ : List Nat) (ct : yC) (c : dC) : Bool := match ct, c with
  | .inl (cls, vts), .inr (cl, fs) => Nat.beq cl cls && dall τ vts fs
  | .inr (kd, nlo, nhi, vt), .inl (k, N, x) => Nat.beq k kd && (Nat.ble nlo N && (Nat.ble N nhi && daok τ N vt x))
  | _, _ => false
theorem dcok_ok {τ : List Nat} {ct : yC} {c : dC} (h : dcok τ ct c = true) : yCo τ ct (dz c) := by
  unfold dcok at h
  split at h
  · rename_i cls vts cl fs
    rw [Bool.and_eq_true] at h
    have e := Nat.eq_of_beq_eq_true h.1
    subst e
    obtain ⟨e1, e2⟩ := dall_ok h.2
    exact ⟨fs, rfl, e1, e2⟩
  · rename_i kd nlo nhi vt k N x
    simp only [Bool.and_eq_true] at h
    obtain ⟨h1, h2, h3, h4⟩ := h
    have e := Nat.eq_of_beq_eq_true h1
    subst e
    exact ⟨N, daz N x, dz_arr _ _ _, Nat.le_of_ble_eq_true h2, Nat.le_of_ble_eq_true h3, daok_ok h4⟩
  · cases h
noncomputable def dhok (TT : List yC) (τ : List Nat) : List Nat → dH → Bool
  | [], [] => true
  | t :: r, c :: s => (match TT[t]? with
    | some ct => dcok τ ct c
    | none => false) && dhok TT τ r s
  | _, _ => false
theorem dhok_ok {TT : List yC} {τ : List Nat} : ∀ {l : List Nat} {h : dH}, dhok TT τ l h = true → l.length = h.length ∧ ∀ (p t : Nat), l[p]? = some t → ∃ (ct : yC) (c : dC), TT[t]? = some ct ∧ h[p]? = some c ∧ yCo τ ct (dz c)
  | [], [], _ => ⟨rfl, fun p t h => by cases h⟩
  | t :: r, c :: s, h => by
    unfold dhok at h
    rw [Bool.and_eq_true] at h
    obtain ⟨e1, e2⟩ := dhok_ok h.2
    refine ⟨by rw [List.length_cons, List.length_cons, e1], fun p t9 hp => ?_⟩
    match p, hp with
    | 0, hp =>
      cases hp
      have h1 := h.1
      split at h1
      · rename_i ct hct
        exact ⟨ct, c, hct, rfl, dcok_ok h1⟩
      · cases h1
    | p + 1, hp => exact e2 p t9 hp
  | [], _ :: _, h => by cases h
  | _ :: _, [], h => by cases h
theorem zH0_ok : yHo zTTy zTG (dzH dH0) := by
  have h : dhok zTTy zTG zTG dH0 = true := by decide +kernel
  obtain ⟨e1, e2⟩ := dhok_ok h
  refine ⟨by rw [dzH_len]; exact e1, fun p t hp => ?_⟩
  obtain ⟨ct, c, q1, q2, q3⟩ := e2 p t hp
  exact ⟨ct, dz c, q1, dzH_get q2, q3⟩
theorem zH0_I : zKI (dzH dH0) := by
  have e1 : zfi (dzH dH0) 48 3 = 0 := by decide +kernel
  have e2 : zfi (dzH dH0) 36 4 = 0 := by decide +kernel
  have e3 : (dzH dH0).length = 182 := by rw [dzH_len]; decide +kernel
  unfold zKI
  rw [e1, e2, e3]
  exact ⟨fun i hi => by omega, by decide⟩
theorem zH0_4 {xs : Nat → Int32} {x v : Int} : zgp xs 4 (dzH dH0) x v := by
  have e1 : zfi (dzH dH0) 111 30 = 0 := by decide +kernel
  show zR4 _ _ _ _ _ _ _
  rw [e1]
  exact fun r hr => by omega
