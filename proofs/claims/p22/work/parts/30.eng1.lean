/-! THE CHECKED RUN WITH NAMES FOR NUMBERS: linear sums over named numbers, their bounds, what is known of them. -/
noncomputable abbrev yL : Type := Int × List (Nat × Int)
/-- a value: 0 int, 1 long, 2 null or a cell (below 0: null), 3 a text -/
noncomputable abbrev yV : Type := Nat × yL
/-- what is known of a named number: least, greatest, the kind of cell that it points to (0: none) -/
noncomputable abbrev yE : Type := List (Nat × Int × Int × Nat)
noncomputable abbrev yH : Type := List (Nat × Nat × yV)
noncomputable abbrev yN : Type := List (yV × yL)
/-- names given so far, bounds, sums not above 0, fields known, lengths known -/
noncomputable abbrev yW : Type := Nat × yE × List yL × yH × yN
/-- kind, least, greatest, kind of cell -/
noncomputable abbrev yT : Type := Nat × Int × Int × Nat
/-- a kind of cell: an object (its class, its fields), an array (its kind, least and greatest length, its elements) -/
noncomputable abbrev yC : Type := (Nat × List yT) ⊕ (Nat × Nat × Nat × yT)
noncomputable def fN {β : Type} (n : Nat) (k : Nat → β) : β := match n with
  | 0 => k 0
  | m + 1 => k (Nat.succ m)
noncomputable def fI {β : Type} (x : Int) (k : Int → β) : β := match x with
  | .ofNat a => fN a (fun a => k (.ofNat a))
  | .negSucc a => fN a (fun a => k (.negSucc a))
noncomputable def fT {β : Type} : List (Nat × Int) → (List (Nat × Int) → β) → β
  | [], k => k []
  | (i, c) :: r, k => fN i fun i => fI c fun c => fT r fun r => k ((i, c) :: r)
noncomputable def fL {β : Type} (a : yL) (k : yL → β) : β := match a with
  | (c, t) => fI c fun c => fT t fun t => k (c, t)
noncomputable def fV {β : Type} (a : yV) (k : yV → β) : β := match a with
  | (d, a) => fN d fun d => fL a fun a => k (d, a)
theorem fN_eq {β : Type} (n : Nat) (k : Nat → β) : fN n k = k n := by cases n <;> rfl
theorem fI_eq {β : Type} (x : Int) (k : Int → β) : fI x k = k x := by cases x <;> simp [fI, fN_eq]
theorem fT_eq {β : Type} : ∀ (t : List (Nat × Int)) (k : List (Nat × Int) → β), fT t k = k t
  | [], k => rfl
  | (i, c) :: r, k => by simp only [fT, fN_eq, fI_eq, fT_eq r]
theorem fL_eq {β : Type} (a : yL) (k : yL → β) : fL a k = k a := by
  obtain ⟨c, t⟩ := a
  simp only [fL, fI_eq, fT_eq]
theorem fV_eq {β : Type} (a : yV) (k : yV → β) : fV a k = k a := by
  obtain ⟨d, a⟩ := a
  simp only [fV, fN_eq, fL_eq]
/-- above 0 -/
noncomputable def ig0 (x : Int) : Bool := match x with
  | .ofNat 0 => false
  | .ofNat (_ + 1) => true
  | .negSucc _ => false
noncomputable def ieq0 (x : Int) : Bool := match x with
  | .ofNat 0 => true
  | .ofNat (_ + 1) => false
  | .negSucc _ => false
noncomputable def ile (a b : Int) : Bool := !(ig0 (Int.sub a b))
noncomputable def ieq (a b : Int) : Bool := ieq0 (Int.sub a b)
theorem ig0_iff (x : Int) : ig0 x = true ↔ 0 < x := by
  match x with
  | .ofNat 0 => simp [ig0]
  | .ofNat (n + 1) => simp [ig0] <;> omega
  | .negSucc n => simp [ig0]
theorem ieq0_iff (x : Int) : ieq0 x = true ↔ x = 0 := by
  match x with
  | .ofNat 0 => simp [ieq0]
  | .ofNat (n + 1) => simp [ieq0] <;> omega
  | .negSucc n => simp [ieq0]
theorem ile_iff (a b : Int) : ile a b = true ↔ a ≤ b := by
  unfold ile
  have h := ig0_iff (Int.sub a b)
  have e : Int.sub a b = a - b := rfl
  rw [e] at h ⊢
  cases hq : ig0 (a - b) with
  | true =>
    rw [hq] at h
    have := h.mp rfl
    simp
    omega
  | false =>
    rw [hq] at h
    have h2 : ¬ 0 < a - b := fun q => by simpa using h.mpr q
    simp
    omega
theorem ieq_iff (a b : Int) : ieq a b = true ↔ a = b := by
  unfold ieq
  rw [ieq0_iff]
  have e : Int.sub a b = a - b := rfl
  rw [e]
  omega
noncomputable def yins (i : Nat) (c : Int) : List (Nat × Int) → List (Nat × Int)
  | [] => [(i, c)]
  | (j, d) :: r => bif Nat.beq i j then (bif ieq0 (Int.add c d) then r else (j, Int.add c d) :: r) else (j, d) :: yins i c r
noncomputable def yaddT : List (Nat × Int) → List (Nat × Int) → List (Nat × Int)
  | [], b => b
  | (i, c) :: a, b => yaddT a (yins i c b)
noncomputable def yadd (a b : yL) : yL := (Int.add a.1 b.1, yaddT a.2 b.2)
noncomputable def ysclT (m : Int) : List (Nat × Int) → List (Nat × Int)
  | [] => []
  | (i, c) :: r => (i, Int.mul m c) :: ysclT m r
noncomputable def yscl (m : Int) (a : yL) : yL := bif ieq0 m then (0, []) else (Int.mul m a.1, ysclT m a.2)
noncomputable def yneg (a : yL) : yL := (Int.neg a.1, ysclT (-1) a.2)
noncomputable def ysub (a b : yL) : yL := yadd a (yneg b)
noncomputable def ycon (c : Int) : yL := (c, [])
noncomputable def yvar (i : Nat) : yL := (0, [(i, 1)])
noncomputable def yzero (a : yL) : Bool := match a with
  | (c, []) => ieq0 c
  | _ => false
noncomputable def ytev (ρ : Nat → Int) : List (Nat × Int) → Int
  | [] => 0
  | (i, c) :: r => c * ρ i + ytev ρ r
noncomputable def yev (ρ : Nat → Int) (a : yL) : Int := a.1 + ytev ρ a.2
theorem ytev_ins (ρ : Nat → Int) (i : Nat) (c : Int) : ∀ t : List (Nat × Int), ytev ρ (yins i c t) = c * ρ i + ytev ρ t
  | [] => rfl
  | (j, d) :: r => by
    unfold yins
    cases hq : Nat.beq i j with
    | false =>
      simp only [cond_false, ytev, ytev_ins ρ i c r]
      omega
    | true =>
      have hij : i = j := Nat.eq_of_beq_eq_true hq
      subst hij
      have e : Int.add c d = c + d := rfl
      cases hz : ieq0 (Int.add c d) with
      | true =>
        have h0 := (ieq0_iff _).mp hz
        rw [e] at h0
        simp only [cond_true, ytev]
        rw [← Int.add_assoc, ← Int.add_mul, h0]
        simp
      | false =>
        simp only [cond_true, cond_false, ytev, e, Int.add_mul]
        omega
theorem ytev_add (ρ : Nat → Int) : ∀ a b : List (Nat × Int), ytev ρ (yaddT a b) = ytev ρ a + ytev ρ b
  | [], b => by simp [yaddT, ytev]
  | (i, c) :: a, b => by
    simp only [yaddT, ytev, ytev_add ρ a, ytev_ins]
    omega
theorem yev_add (ρ : Nat → Int) (a b : yL) : yev ρ (yadd a b) = yev ρ a + yev ρ b := by
  simp only [yev, yadd, ytev_add]
  have e : Int.add a.1 b.1 = a.1 + b.1 := rfl
  rw [e]
  omega
theorem ytev_scl (ρ : Nat → Int) (m : Int) : ∀ t : List (Nat × Int), ytev ρ (ysclT m t) = m * ytev ρ t
  | [] => by simp [ysclT, ytev]
  | (i, c) :: r => by
    simp only [ysclT, ytev, ytev_scl ρ m r]
    have e : Int.mul m c = m * c := rfl
    rw [e, Int.mul_add, Int.mul_assoc]
theorem yev_scl (ρ : Nat → Int) (m : Int) (a : yL) : yev ρ (yscl m a) = m * yev ρ a := by
  unfold yscl
  cases hz : ieq0 m with
  | true =>
    rw [(ieq0_iff _).mp hz]
    simp [yev, ytev]
  | false =>
    simp only [cond_false, yev, ytev_scl]
    have e : Int.mul m a.1 = m * a.1 := rfl
    rw [e, Int.mul_add]
theorem yev_neg (ρ : Nat → Int) (a : yL) : yev ρ (yneg a) = - yev ρ a := by
  simp only [yev, yneg, ytev_scl]
  have e : Int.neg a.1 = - a.1 := rfl
  rw [e]
  omega
theorem yev_sub (ρ : Nat → Int) (a b : yL) : yev ρ (ysub a b) = yev ρ a - yev ρ b := by
  unfold ysub
  rw [yev_add, yev_neg]
  omega
theorem yev_con (ρ : Nat → Int) (c : Int) : yev ρ (ycon c) = c := by simp [yev, ycon, ytev]
theorem yev_var (ρ : Nat → Int) (i : Nat) : yev ρ (yvar i) = ρ i := by simp [yev, yvar, ytev]
theorem yzero_ev {ρ : Nat → Int} {a : yL} (h : yzero a = true) : yev ρ a = 0 := by
  obtain ⟨c, t⟩ := a
  cases t with
  | nil =>
    have := (ieq0_iff c).mp h
    simp [yev, ytev, this]
  | cons => cases h
/-- only names given so far -/
noncomputable def ysp (k : Nat) (a : yL) : Prop := ∀ t ∈ a.2, t.1 < k
theorem ysp_con (k : Nat) (c : Int) : ysp k (ycon c) := fun t h => by cases h
theorem ysp_var {k i : Nat} (h : i < k) : ysp k (yvar i) := fun t ht => by
  cases ht with
  | head => exact h
  | tail _ h => cases h
theorem ysp_ins {k : Nat} {i : Nat} {c : Int} (hi : i < k) : ∀ {t : List (Nat × Int)}, (∀ q ∈ t, q.1 < k) → ∀ q ∈ yins i c t, q.1 < k
  | [], _, q, hq => by
    cases hq with
    | head => exact hi
    | tail _ h => cases h
  | (j, d) :: r, h, q, hq => by
    unfold yins at hq
    cases hb : Nat.beq i j with
    | false =>
      rw [hb, cond_false] at hq
      rcases List.mem_cons.mp hq with rfl | hq
      · exact h _ List.mem_cons_self
      · exact ysp_ins hi (fun q hq => h q (List.mem_cons_of_mem _ hq)) q hq
    | true =>
      rw [hb, cond_true] at hq
      cases hz : ieq0 (Int.add c d) with
      | true =>
        rw [hz, cond_true] at hq
        exact h q (List.mem_cons_of_mem _ hq)
      | false =>
        rw [hz, cond_false] at hq
        rcases List.mem_cons.mp hq with rfl | hq
        · exact h (j, d) List.mem_cons_self
        · exact h q (List.mem_cons_of_mem _ hq)
theorem ysp_addT {k : Nat} : ∀ {a b : List (Nat × Int)}, (∀ q ∈ a, q.1 < k) → (∀ q ∈ b, q.1 < k) → ∀ q ∈ yaddT a b, q.1 < k
  | [], b, _, hb => hb
  | (i, c) :: a, b, ha, hb => ysp_addT (a := a) (fun q hq => ha q (List.mem_cons_of_mem _ hq)) (ysp_ins (ha (i, c) List.mem_cons_self) hb)
theorem ysp_add {k : Nat} {a b : yL} (ha : ysp k a) (hb : ysp k b) : ysp k (yadd a b) := ysp_addT ha hb
theorem ysp_sclT {k : Nat} {m : Int} : ∀ {t : List (Nat × Int)}, (∀ q ∈ t, q.1 < k) → ∀ q ∈ ysclT m t, q.1 < k
  | [], _, q, hq => by cases hq
  | (i, c) :: r, h, q, hq => by
    unfold ysclT at hq
    rcases List.mem_cons.mp hq with rfl | hq
    · exact h (i, c) List.mem_cons_self
    · exact ysp_sclT (fun q hq => h q (List.mem_cons_of_mem _ hq)) q hq
theorem ysp_scl {k : Nat} {m : Int} {a : yL} (h : ysp k a) : ysp k (yscl m a) := by
  unfold yscl
  cases ieq0 m with
  | true => intro q hq; cases hq
  | false => exact ysp_sclT h
theorem ysp_neg {k : Nat} {a : yL} (h : ysp k a) : ysp k (yneg a) := ysp_sclT h
theorem ysp_sub {k : Nat} {a b : yL} (ha : ysp k a) (hb : ysp k b) : ysp k (ysub a b) := ysp_add ha (ysp_neg hb)
theorem ysp_mono {k k' : Nat} {a : yL} (hk : k ≤ k') (h : ysp k a) : ysp k' a := fun t ht => Nat.lt_of_lt_of_le (h t ht) hk
theorem yev_ext {k : Nat} {ρ ρ' : Nat → Int} {a : yL} (h : ysp k a) (hρ : ∀ i, i < k → ρ' i = ρ i) : yev ρ' a = yev ρ a := by
  obtain ⟨c, t⟩ := a
  have : ∀ t : List (Nat × Int), (∀ q ∈ t, q.1 < k) → ytev ρ' t = ytev ρ t := by
    intro t
    induction t with
    | nil => intro _; rfl
    | cons q r ih =>
      intro hq
      obtain ⟨i, c⟩ := q
      simp only [ytev]
      rw [ih (fun q h => hq q (List.mem_cons_of_mem _ h)), hρ i (hq (i, c) List.mem_cons_self)]
  simp only [yev, this t h]
noncomputable def yget : yE → Nat → Option (Int × Int × Nat)
  | [], _ => none
  | (j, x) :: r, i => bif Nat.beq i j then some x else yget r i
theorem yget_mem : ∀ {E : yE} {i : Nat} {x : Int × Int × Nat}, yget E i = some x → (i, x) ∈ E
  | (j, y) :: r, i, x, h => by
    unfold yget at h
    cases hb : Nat.beq i j with
    | true =>
      rw [hb, cond_true] at h
      cases h
      rw [Nat.eq_of_beq_eq_true hb]
      exact List.mem_cons_self
    | false =>
      rw [hb, cond_false] at h
      exact List.mem_cons_of_mem _ (yget_mem h)
noncomputable def yubT (E : yE) : List (Nat × Int) → Option Int
  | [] => some 0
  | (i, c) :: r => match yget E i with
    | none => none
    | some (lo, hi, _) => match yubT E r with
      | none => none
      | some u => some (Int.add (Int.mul c (bif ile 0 c then hi else lo)) u)
noncomputable def yub (E : yE) (a : yL) : Option Int := match yubT E a.2 with
  | none => none
  | some u => some (Int.add a.1 u)
/-- the bounds hold -/
noncomputable def yEo (ρ : Nat → Int) (E : yE) : Prop := ∀ e ∈ E, e.2.1 ≤ ρ e.1 ∧ ρ e.1 ≤ e.2.2.1
theorem yubT_ok {ρ : Nat → Int} {E : yE} (hE : yEo ρ E) : ∀ {t : List (Nat × Int)} {u : Int}, yubT E t = some u → ytev ρ t ≤ u
  | [], u, h => by
    cases h
    exact Int.le_refl _
  | (i, c) :: r, u, h => by
    unfold yubT at h
    split at h
    · cases h
    · rename_i lo hi tg hg
      split at h
      · cases h
      · rename_i u2 hu
        cases h
        have h1 := yubT_ok hE hu
        have h2 : lo ≤ ρ i ∧ ρ i ≤ hi := hE _ (yget_mem hg)
        have e1 : ∀ z : Int, Int.add (Int.mul c z) u2 = c * z + u2 := fun _ => rfl
        rw [e1]
        simp only [ytev]
        cases hc : ile 0 c with
        | true =>
          have h3 := (ile_iff _ _).mp hc
          have h4 := Int.mul_le_mul_of_nonneg_left h2.2 h3
          simp only [cond_true]
          omega
        | false =>
          have h3 : ¬ 0 ≤ c := fun q => by rw [(ile_iff _ _).mpr q] at hc; cases hc
          have h4 := Int.mul_le_mul_of_nonpos_left (a := c) (by omega) h2.1
          simp only [cond_false]
          omega
theorem yub_ok {ρ : Nat → Int} {E : yE} (hE : yEo ρ E) {a : yL} {u : Int} (h : yub E a = some u) : yev ρ a ≤ u := by
  unfold yub at h
  split at h
  · cases h
  · rename_i u2 hu
    cases h
    have h1 := yubT_ok hE hu
    have e : Int.add a.1 u2 = a.1 + u2 := rfl
    rw [e]
    unfold yev
    omega
noncomputable def ynp (u : Option Int) : Bool := match u with
  | some x => ile x 0
  | none => false
/-- a sum that may help: a name with the same sign -/
noncomputable def yrl1 (i : Nat) (c : Int) : List (Nat × Int) → Bool
  | [] => false
  | (j, d) :: r => bif Nat.beq i j then ig0 (Int.mul c d) else yrl1 i c r
noncomputable def yrl (g : List (Nat × Int)) : List (Nat × Int) → Bool
  | [] => false
  | (i, c) :: r => bif yrl1 i c g then true else yrl g r
noncomputable def yany (E : yE) (g : yL) : List yL → Bool
  | [] => false
  | f :: r => bif (bif yrl g.2 f.2 then ynp (yub E (ysub g f)) else false) then true else yany E g r
noncomputable def yany2 (E : yE) (F : List yL) (g : yL) : List yL → Bool
  | [] => false
  | f :: r => bif (bif yrl g.2 f.2 then fL (ysub g f) (fun h => yany E h F) else false) then true else yany2 E F g r
/-- not above 0 -/
noncomputable def yle (E : yE) (F : List yL) (g : yL) : Bool := bif ynp (yub E g) then true else bif yany E g F then true else yany2 E F g F
theorem ynp_ok {ρ : Nat → Int} {E : yE} (hE : yEo ρ E) {a : yL} (h : ynp (yub E a) = true) : yev ρ a ≤ 0 := by
  unfold ynp at h
  split at h
  · rename_i u hu
    have h1 := yub_ok hE hu
    have h2 := (ile_iff _ _).mp h
    omega
  · cases h
theorem yany_ok {ρ : Nat → Int} {E : yE} (hE : yEo ρ E) {g : yL} : ∀ {F : List yL}, (∀ f ∈ F, yev ρ f ≤ 0) → yany E g F = true → yev ρ g ≤ 0
  | f :: r, hF, h => by
    unfold yany at h
    cases hq : (bif yrl g.2 f.2 then ynp (yub E (ysub g f)) else false) with
    | true =>
      have hq1 : ynp (yub E (ysub g f)) = true := by
        cases hr : yrl g.2 f.2 with
        | true => rw [hr, cond_true] at hq; exact hq
        | false => rw [hr] at hq; cases hq
      have h1 := ynp_ok hE hq1
      have h2 := hF f List.mem_cons_self
      rw [yev_sub] at h1
      omega
    | false =>
      rw [hq, cond_false] at h
      exact yany_ok hE (fun f hf => hF f (List.mem_cons_of_mem _ hf)) h
theorem yany2_ok {ρ : Nat → Int} {E : yE} (hE : yEo ρ E) {F : List yL} (hF : ∀ f ∈ F, yev ρ f ≤ 0) {g : yL} : ∀ {F2 : List yL}, (∀ f ∈ F2, yev ρ f ≤ 0) → yany2 E F g F2 = true → yev ρ g ≤ 0
  | f :: r, hF2, h => by
    unfold yany2 at h
    cases hq : (bif yrl g.2 f.2 then fL (ysub g f) (fun h => yany E h F) else false) with
    | true =>
      have hq1 : yany E (ysub g f) F = true := by
        cases hr : yrl g.2 f.2 with
        | true => rw [hr, cond_true, fL_eq] at hq; exact hq
        | false => rw [hr] at hq; cases hq
      have h1 := yany_ok hE hF hq1
      have h2 := hF2 f List.mem_cons_self
      rw [yev_sub] at h1
      omega
    | false =>
      rw [hq, cond_false] at h
      exact yany2_ok hE hF (fun f hf => hF2 f (List.mem_cons_of_mem _ hf)) h
theorem yle_ok {ρ : Nat → Int} {E : yE} (hE : yEo ρ E) {F : List yL} (hF : ∀ f ∈ F, yev ρ f ≤ 0) {g : yL} (h : yle E F g = true) : yev ρ g ≤ 0 := by
  unfold yle at h
  cases hq : ynp (yub E g) with
  | true => exact ynp_ok hE hq
  | false =>
    rw [hq, cond_false] at h
    cases hq2 : yany E g F with
    | true => exact yany_ok hE hF hq2
    | false =>
      rw [hq2, cond_false] at h
      exact yany2_ok hE hF hF h
