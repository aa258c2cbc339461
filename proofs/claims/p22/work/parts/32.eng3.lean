/-! instructions of numbers, the stack and the locals, by names -/
noncomputable abbrev yLs : Type := List (Option yV)
noncomputable def ygl : yLs → Nat → Option yV
  | [], _ => none
  | x :: _, 0 => x
  | _ :: r, i + 1 => ygl r i
noncomputable def ycat (v : yV) : Nat := match v.1 with
  | 1 => 2
  | _ => 1
noncomputable def ykp (i : Nat) (x : Option yV) : Option yV := match i with
  | 0 => (match x with
    | some v => (match v.1 with
      | 1 => none
      | _ => some v)
    | none => none)
  | _ + 1 => x
noncomputable def yst : yLs → Nat → yV → yLs
  | [], _, _ => []
  | _ :: xs, 0, v => some v :: (match v.1 with
    | 1 => (match xs with
      | [] => []
      | _ :: ys => none :: ys)
    | _ => xs)
  | x :: xs, i + 1, v => ykp i x :: yst xs i v
noncomputable def fLs {β : Type} : yLs → (yLs → β) → β
  | [], k => k []
  | none :: r, k => fLs r fun r => k (none :: r)
  | some v :: r, k => fLs r fun r => k (some v :: r)
theorem fLs_eq {β : Type} : ∀ (L : yLs) (k : yLs → β), fLs L k = k L
  | [], k => rfl
  | none :: r, k => by simp only [fLs, fLs_eq r]
  | some v :: r, k => by simp only [fLs, fLs_eq r]
noncomputable def yOo (ρ : yR) (k : Nat) (x : Option yV) (c : Option Value) : Prop := ∀ v, x = some v → ∃ w, c = some w ∧ yVo ρ k v w
noncomputable def yLo (ρ : yR) (k : Nat) : yLs → zL → Prop
  | [], [] => True
  | x :: S, c :: C => yOo ρ k x c ∧ yLo ρ k S C
  | [], _ :: _ => False
  | _ :: _, [] => False
noncomputable def ySo (ρ : yR) (k : Nat) : List yV → List Value → Prop
  | [], [] => True
  | v :: s, w :: t => yVo ρ k v w ∧ ySo ρ k s t
  | [], _ :: _ => False
  | _ :: _, [] => False
theorem ySt.lo {k k' : Nat} {ρ ρ' : yR} (s : ySt k ρ k' ρ') : ∀ {S : yLs} {C : zL}, yLo ρ k S C → yLo ρ' k' S C
  | [], [], _ => trivial
  | x :: S, c :: C, h => ⟨fun v hv => by
    obtain ⟨w, a, b⟩ := h.1 v hv
    exact ⟨w, a, s.vo b⟩, s.lo h.2⟩
  | [], _ :: _, h => h.elim
  | _ :: _, [], h => h.elim
theorem ySt.so {k k' : Nat} {ρ ρ' : yR} (s : ySt k ρ k' ρ') : ∀ {S : List yV} {C : List Value}, ySo ρ k S C → ySo ρ' k' S C
  | [], [], _ => trivial
  | x :: S, c :: C, h => ⟨s.vo h.1, s.so h.2⟩
  | [], _ :: _, h => h.elim
  | _ :: _, [], h => h.elim
theorem yVo.cat {ρ : yR} {k : Nat} {v : yV} {w : Value} (h : yVo ρ k v w) : w.category = ycat v := by
  obtain ⟨kd, a⟩ := v
  obtain ⟨h1, h2⟩ := h
  unfold ycat
  dsimp only at h2 ⊢
  split at h2
  · obtain ⟨x, rfl, -⟩ := h2; rfl
  · obtain ⟨x, rfl, -⟩ := h2; rfl
  · subst h2
    unfold zrn
    split <;> rfl
  · rename_i h0 h1' h2'
    subst h2
    have e : ∀ q : Nat, q ≠ 1 → (match q with | 1 => 2 | _ => 1) = 1 := fun q hq => by
      match q, hq with
      | 0, _ => rfl
      | q + 2, _ => rfl
    exact (e kd (fun q => h1' q)).symm
theorem yLo.len {ρ : yR} {k : Nat} : ∀ {S : yLs} {C : zL}, yLo ρ k S C → S.length = C.length
  | [], [], _ => rfl
  | x :: S, c :: C, h => by simp [yLo.len h.2]
  | [], _ :: _, h => h.elim
  | _ :: _, [], h => h.elim
theorem yLo.get {ρ : yR} {k : Nat} : ∀ {S : yLs} {C : zL} {i : Nat} {v : yV}, yLo ρ k S C → ygl S i = some v → ∃ w, C.getD i none = some w ∧ yVo ρ k v w
  | [], _, i, v, _, h => by cases h
  | x :: S, c :: C, 0, v, g, h => by
    obtain ⟨w, a, b⟩ := g.1 v h
    exact ⟨w, by rw [a]; rfl, b⟩
  | x :: S, c :: C, i + 1, v, g, h => by
    obtain ⟨w, a, b⟩ := yLo.get (i := i) g.2 h
    exact ⟨w, a, b⟩
  | _ :: _, [], _, _, g, _ => g.elim
theorem yOo.kp {ρ : yR} {k : Nat} {x : Option yV} {c : Option Value} (h : yOo ρ k x c) (i : Nat) : yOo ρ k (ykp i x) (zkp i c) := by
  cases i with
  | succ i => exact h
  | zero =>
    intro v hv
    unfold ykp at hv
    dsimp only at hv
    cases x with
    | none => cases hv
    | some u =>
      dsimp only at hv
      obtain ⟨w, a, b⟩ := h u rfl
      split at hv
      · cases hv
      · rename_i hne
        cases hv
        refine ⟨w, ?_, b⟩
        rw [a]
        unfold zkp
        have hc : w.category = ycat v := b.cat
        have h1 : ycat v = 1 := by
          unfold ycat
          split
          · rename_i q; exact absurd q hne
          · rfl
        rw [h1] at hc
        simp [hc]
theorem yLo.st {ρ : yR} {k : Nat} {v : yV} {w : Value} (hv : yVo ρ k v w) : ∀ {S : yLs} {C : zL} {i : Nat}, yLo ρ k S C → yLo ρ k (yst S i v) (zst C i w)
  | [], [], i, _ => by unfold yst zst; trivial
  | x :: S, c :: C, 0, g => by
    unfold yst zst
    refine ⟨fun u hu => by cases hu; exact ⟨w, rfl, hv⟩, ?_⟩
    have hc := hv.cat
    have g2 := g.2
    obtain ⟨kd, av⟩ := v
    match kd, hc with
    | 1, hc =>
      rw [show w.category = 2 from hc]
      match S, C, g2 with
      | [], [], _ => exact trivial
      | x :: S, c :: C, g2 => exact ⟨(fun u hu => by cases hu), g2.2⟩
      | [], _ :: _, g2 => exact g2.elim
      | _ :: _, [], g2 => exact g2.elim
    | 0, hc => rw [show w.category = 1 from hc]; exact g2
    | kd + 2, hc => rw [show w.category = 1 from hc]; exact g2
  | x :: S, c :: C, i + 1, g => ⟨g.1.kp i, yLo.st hv g.2⟩
  | [], _ :: _, _, g => g.elim
  | _ :: _, [], _, g => g.elim
section YS
variable {ρ : yR} {k : Nat}
theorem ySo.cons {v : yV} {s : List yV} {sc : List Value} (h : ySo ρ k (v :: s) sc) : ∃ w t, sc = w :: t ∧ yVo ρ k v w ∧ ySo ρ k s t := by
  cases sc with
  | nil => exact h.elim
  | cons w t => exact ⟨w, t, rfl, h.1, h.2⟩
theorem ySo.nil {sc : List Value} (h : ySo ρ k [] sc) : sc = [] := by
  cases sc with
  | nil => rfl
  | cons => exact h.elim
theorem ySo.int {a : yL} {s : List yV} {sc : List Value} (h : ySo ρ k ((0, a) :: s) sc) : ∃ (n : Int32) (t : List Value), sc = .int n :: t ∧ ysp k a ∧ n.toInt = yev ρ a ∧ ySo ρ k s t := by
  obtain ⟨w, t, rfl, ⟨h1, n, rfl, h2⟩, h3⟩ := h.cons
  exact ⟨n, t, rfl, h1, h2, h3⟩
theorem ySo.long {a : yL} {s : List yV} {sc : List Value} (h : ySo ρ k ((1, a) :: s) sc) : ∃ (n : Int64) (t : List Value), sc = .long n :: t ∧ ysp k a ∧ n.toInt = yev ρ a ∧ ySo ρ k s t := by
  obtain ⟨w, t, rfl, ⟨h1, n, rfl, h2⟩, h3⟩ := h.cons
  exact ⟨n, t, rfl, h1, h2, h3⟩
theorem ySo.ref {a : yL} {s : List yV} {sc : List Value} (h : ySo ρ k ((2, a) :: s) sc) : ∃ (t : List Value), sc = zrn (yev ρ a) :: t ∧ ysp k a ∧ ySo ρ k s t := by
  obtain ⟨w, t, rfl, ⟨h1, rfl⟩, h3⟩ := h.cons
  exact ⟨t, rfl, h1, h3⟩
theorem ySo.txt {a : yL} {s : List yV} {sc : List Value} (h : ySo ρ k ((3, a) :: s) sc) : ∃ (t : List Value), sc = .retAddr (yev ρ a).toNat :: t ∧ ysp k a ∧ ySo ρ k s t := by
  obtain ⟨w, t, rfl, ⟨h1, rfl⟩, h3⟩ := h.cons
  exact ⟨t, rfl, h1, h3⟩
end YS
noncomputable def iMn : Int := Int.negSucc 2147483647
noncomputable def iMx : Int := Int.ofNat 2147483647
noncomputable def lMn : Int := Int.negSucc 9223372036854775807
noncomputable def lMx : Int := Int.ofNat 9223372036854775807
theorem i32_b (n : Int32) : iMn ≤ n.toInt ∧ n.toInt ≤ iMx := by
  have a := Int32.le_toInt n
  have b := Int32.toInt_lt n
  have e1 : iMn = -2147483648 := rfl
  have e2 : iMx = 2147483647 := rfl
  omega
theorem i64_b (n : Int64) : lMn ≤ n.toInt ∧ n.toInt ≤ lMx := by
  have a := Int64.le_toInt n
  have b := Int64.toInt_lt n
  have e1 : lMn = -9223372036854775808 := rfl
  have e2 : lMx = 9223372036854775807 := rfl
  omega
theorem i32_m {x : Int} (h1 : iMn ≤ x) (h2 : x ≤ iMx) : x.bmod (2 ^ 32) = x := by
  have e1 : iMn = -2147483648 := rfl
  have e2 : iMx = 2147483647 := rfl
  exact Int.bmod_eq_of_le (by omega) (by omega)
theorem i64_m {x : Int} (h1 : lMn ≤ x) (h2 : x ≤ lMx) : x.bmod (2 ^ 64) = x := by
  have e1 : lMn = -9223372036854775808 := rfl
  have e2 : lMx = 9223372036854775807 := rfl
  exact Int.bmod_eq_of_le (by omega) (by omega)
section YB
variable {tx : yTx} {w : yW} {ρ : yR} {τ : List Nat} {h : zH}
theorem yar_i {r : yL} {K : yV → yW → Bool} (q : yar w 0 iMn iMx r K = true) (g : yWo tx w ρ τ h) (hr : ysp w.1 r) (n : Int32) (h3 : n.toInt = (yev ρ r).bmod (2 ^ 32)) : ∃ (w' : yW) (ρ' : yR) (v : yV), K v w' = true ∧ ySt w.1 ρ w'.1 ρ' ∧ yWo tx w' ρ' τ h ∧ yVo ρ' w'.1 v (.int n) := by
  obtain ⟨w', ρ', a, q1, q2, q3, q4, q5⟩ := yar_ok q g hr (i32_b n).1 (i32_b n).2 (fun a b => by rw [h3, i32_m a b])
  exact ⟨w', ρ', _, q1, q2, q3, q4, n, rfl, q5.symm⟩
theorem yar_l {r : yL} {K : yV → yW → Bool} (q : yar w 1 lMn lMx r K = true) (g : yWo tx w ρ τ h) (hr : ysp w.1 r) (n : Int64) (h3 : n.toInt = (yev ρ r).bmod (2 ^ 64)) : ∃ (w' : yW) (ρ' : yR) (v : yV), K v w' = true ∧ ySt w.1 ρ w'.1 ρ' ∧ yWo tx w' ρ' τ h ∧ yVo ρ' w'.1 v (.long n) := by
  obtain ⟨w', ρ', a, q1, q2, q3, q4, q5⟩ := yar_ok q g hr (i64_b n).1 (i64_b n).2 (fun a b => by rw [h3, i64_m a b])
  exact ⟨w', ρ', _, q1, q2, q3, q4, n, rfl, q5.symm⟩
theorem yfr_i {lo hi : Int} {K : yV → yW → Bool} (q : yfr w 0 lo hi 0 K = true) (g : yWo tx w ρ τ h) (n : Int32) (h1 : lo ≤ n.toInt) (h2 : n.toInt ≤ hi) : ∃ (w' : yW) (ρ' : yR) (v : yV), K v w' = true ∧ ySt w.1 ρ w'.1 ρ' ∧ yWo tx w' ρ' τ h ∧ yVo ρ' w'.1 v (.int n) := by
  obtain ⟨w', ρ', a, q1, q2, q3, q4, q5⟩ := yfr_ok q g h1 h2 (Or.inl rfl)
  exact ⟨w', ρ', _, q1, q2, q3, q4, n, rfl, q5.symm⟩
theorem yfr_l {lo hi : Int} {K : yV → yW → Bool} (q : yfr w 1 lo hi 0 K = true) (g : yWo tx w ρ τ h) (n : Int64) (h1 : lo ≤ n.toInt) (h2 : n.toInt ≤ hi) : ∃ (w' : yW) (ρ' : yR) (v : yV), K v w' = true ∧ ySt w.1 ρ w'.1 ρ' ∧ yWo tx w' ρ' τ h ∧ yVo ρ' w'.1 v (.long n) := by
  obtain ⟨w', ρ', a, q1, q2, q3, q4, q5⟩ := yfr_ok q g h1 h2 (Or.inl rfl)
  exact ⟨w', ρ', _, q1, q2, q3, q4, n, rfl, q5.symm⟩
/-- a product -/
noncomputable def ymul (w : yW) (kd : Nat) (lo hi : Int) (x y : yL) (K : yV → yW → Bool) : Bool := match x.2 with
  | [] => yar w kd lo hi (yscl x.1 y) K
  | _ => match y.2 with
    | [] => yar w kd lo hi (yscl y.1 x) K
    | _ => bif yle w.2.1 w.2.2.1 (yneg x) && yle w.2.1 w.2.2.1 (yneg y) then (match yub w.2.1 x, yub w.2.1 y with
      | some a, some b => bif ile (Int.mul a b) hi then fI (Int.mul a b) fun m => yfr w kd 0 m 0 K else yfr w kd lo hi 0 K
      | _, _ => yfr w kd lo hi 0 K) else yfr w kd lo hi 0 K
theorem ymul_ok {kd : Nat} {lo hi : Int} {x y : yL} {K : yV → yW → Bool} (q : ymul w kd lo hi x y K = true) (g : yWo tx w ρ τ h) (hx : ysp w.1 x) (hy : ysp w.1 y) {P : Int} (h1 : lo ≤ P) (h2 : P ≤ hi) (hlo : lo ≤ 0) (h3 : lo ≤ yev ρ x * yev ρ y → yev ρ x * yev ρ y ≤ hi → P = yev ρ x * yev ρ y) : ∃ (w' : yW) (ρ' : yR) (a : yL), K (kd, a) w' = true ∧ ySt w.1 ρ w'.1 ρ' ∧ yWo tx w' ρ' τ h ∧ ysp w'.1 a ∧ yev ρ' a = P := by
  obtain ⟨cx, tx'⟩ := x
  obtain ⟨cy, ty⟩ := y
  unfold ymul at q
  dsimp only at q
  have hfr : ∀ {z}, yfr w kd lo hi 0 z = true → ∃ (w' : yW) (ρ' : yR) (a : yL), z (kd, a) w' = true ∧ ySt w.1 ρ w'.1 ρ' ∧ yWo tx w' ρ' τ h ∧ ysp w'.1 a ∧ yev ρ' a = P := fun z => yfr_ok z g h1 h2 (Or.inl rfl)
  split at q
  · have e : yev ρ (cx, []) = cx := yev_con ρ cx
    refine yar_ok q g (ysp_scl hy) h1 h2 (fun a b => ?_)
    rw [yev_scl] at a b ⊢
    rw [e] at h3
    exact h3 a b
  · split at q
    · have e : yev ρ (cy, []) = cy := yev_con ρ cy
      refine yar_ok q g (ysp_scl hx) h1 h2 (fun a b => ?_)
      rw [yev_scl] at a b ⊢
      rw [e, Int.mul_comm] at h3
      exact h3 a b
    · cases hz : (yle w.2.1 w.2.2.1 (yneg (cx, tx')) && yle w.2.1 w.2.2.1 (yneg (cy, ty))) with
      | false => rw [hz, cond_false] at q; exact hfr q
      | true =>
        rw [hz, cond_true] at q
        rw [Bool.and_eq_true] at hz
        have n1 := g.le hz.1
        have n2 := g.le hz.2
        rw [yev_neg] at n1 n2
        split at q
        · rename_i a b ha hb
          have u1 := yub_ok g.1.eo ha
          have u2 := yub_ok g.1.eo hb
          have em : Int.mul a b = a * b := rfl
          cases hm : ile (Int.mul a b) hi with
          | false => rw [hm, cond_false] at q; exact hfr q
          | true =>
            rw [hm, cond_true, fI_eq] at q
            have hm2 := (ile_iff _ _).mp hm
            rw [em] at hm2
            have p0 : 0 ≤ yev ρ (cx, tx') * yev ρ (cy, ty) := Int.mul_nonneg (by omega) (by omega)
            have p1 : yev ρ (cx, tx') * yev ρ (cy, ty) ≤ a * b := Int.mul_le_mul u1 u2 (by omega) (by omega)
            have hP := h3 (by omega) (by omega)
            exact yfr_ok q g (by omega) (by rw [em]; omega) (Or.inl rfl)
        · exact hfr q
/-- a number between 0 and one that is known not to be below 0 -/
noncomputable def yund (w : yW) (kd : Nat) (lo hi : Int) (x y : yL) (K : yV → yW → Bool) : Bool := bif yle w.2.1 w.2.2.1 (yneg y) then (match yub w.2.1 y with
    | some u => fI u fun u => yfr w kd 0 u 0 K
    | none => yfr w kd lo hi 0 K)
  else bif yle w.2.1 w.2.2.1 (yneg x) then (match yub w.2.1 x with
    | some u => fI u fun u => yfr w kd 0 u 0 K
    | none => yfr w kd lo hi 0 K)
  else yfr w kd lo hi 0 K
theorem yund_ok {kd : Nat} {lo hi : Int} {x y : yL} {K : yV → yW → Bool} (q : yund w kd lo hi x y K = true) (g : yWo tx w ρ τ h) {P : Int} (h1 : lo ≤ P) (h2 : P ≤ hi) (h3 : 0 ≤ yev ρ y → 0 ≤ P ∧ P ≤ yev ρ y) (h4 : 0 ≤ yev ρ x → 0 ≤ P ∧ P ≤ yev ρ x) : ∃ (w' : yW) (ρ' : yR) (a : yL), K (kd, a) w' = true ∧ ySt w.1 ρ w'.1 ρ' ∧ yWo tx w' ρ' τ h ∧ ysp w'.1 a ∧ yev ρ' a = P := by
  unfold yund at q
  cases hz : yle w.2.1 w.2.2.1 (yneg y) with
  | true =>
    rw [hz, cond_true] at q
    have n1 := g.le hz
    rw [yev_neg] at n1
    have b := h3 (by omega)
    split at q
    · rename_i u hu
      rw [fI_eq] at q
      have u1 := yub_ok g.1.eo hu
      exact yfr_ok q g b.1 (by omega) (Or.inl rfl)
    · exact yfr_ok q g h1 h2 (Or.inl rfl)
  | false =>
    rw [hz, cond_false] at q
    cases hz2 : yle w.2.1 w.2.2.1 (yneg x) with
    | true =>
      rw [hz2, cond_true] at q
      have n1 := g.le hz2
      rw [yev_neg] at n1
      have b := h4 (by omega)
      split at q
      · rename_i u hu
        rw [fI_eq] at q
        have u1 := yub_ok g.1.eo hu
        exact yfr_ok q g b.1 (by omega) (Or.inl rfl)
      · exact yfr_ok q g h1 h2 (Or.inl rfl)
    | false =>
      rw [hz2, cond_false] at q
      exact yfr_ok q g h1 h2 (Or.inl rfl)
/-- a quotient -/
noncomputable def ydiv (w : yW) (kd : Nat) (lo hi : Int) (x y : yL) (K : yV → yW → Bool) : Bool := bif yle w.2.1 w.2.2.1 (ysub (ycon 1) y) then (bif yle w.2.1 w.2.2.1 (yneg x) then (match yub w.2.1 x with
      | some u => (match y with
        | (c, []) => fI (Int.tdiv u c) fun u => yfr w kd 0 u 0 K
        | _ => fI u fun u => yfr w kd 0 u 0 K)
      | none => yfr w kd lo hi 0 K)
    else yfr w kd lo hi 0 K)
  else bif yle w.2.1 w.2.2.1 (yadd (ycon 1) y) then yfr w kd lo hi 0 K else false
theorem ydiv_ok {kd : Nat} {lo hi : Int} {x y : yL} {K : yV → yW → Bool} (q : ydiv w kd lo hi x y K = true) (g : yWo tx w ρ τ h) : yev ρ y ≠ 0 ∧ ∀ {P : Int}, lo ≤ P → P ≤ hi → (0 ≤ yev ρ x → 1 ≤ yev ρ y → P = (yev ρ x).tdiv (yev ρ y)) → ∃ (w' : yW) (ρ' : yR) (a : yL), K (kd, a) w' = true ∧ ySt w.1 ρ w'.1 ρ' ∧ yWo tx w' ρ' τ h ∧ ysp w'.1 a ∧ yev ρ' a = P := by
  unfold ydiv at q
  cases hz : yle w.2.1 w.2.2.1 (ysub (ycon 1) y) with
  | true =>
    rw [hz, cond_true] at q
    have n1 := g.le hz
    rw [yev_sub, yev_con] at n1
    refine ⟨by omega, fun {P} h1 h2 h3 => ?_⟩
    cases hz2 : yle w.2.1 w.2.2.1 (yneg x) with
    | true =>
      rw [hz2, cond_true] at q
      have n2 := g.le hz2
      rw [yev_neg] at n2
      have hP := h3 (by omega) (by omega)
      have p0 : 0 ≤ P := by rw [hP]; exact Int.tdiv_nonneg (by omega) (by omega)
      split at q
      · rename_i u hu
        have u1 := yub_ok g.1.eo hu
        split at q
        · rename_i c
          have e : yev ρ (c, []) = c := yev_con ρ c
          rw [e] at hP n1
          rw [fI_eq] at q
          refine yfr_ok q g p0 ?_ (Or.inl rfl)
          rw [hP, Int.tdiv_eq_ediv_of_nonneg (by omega), Int.tdiv_eq_ediv_of_nonneg (by omega)]
          exact Int.ediv_le_ediv (by omega) u1
        · rw [fI_eq] at q
          refine yfr_ok q g p0 ?_ (Or.inl rfl)
          rw [hP, Int.tdiv_eq_ediv_of_nonneg (by omega)]
          have := Int.ediv_le_self (yev ρ y) (a := yev ρ x) (by omega)
          omega
      · exact yfr_ok q g h1 h2 (Or.inl rfl)
    | false =>
      rw [hz2, cond_false] at q
      exact yfr_ok q g h1 h2 (Or.inl rfl)
  | false =>
    rw [hz, cond_false] at q
    cases hz2 : yle w.2.1 w.2.2.1 (yadd (ycon 1) y) with
    | true =>
      rw [hz2, cond_true] at q
      have n1 := g.le hz2
      rw [yev_add, yev_con] at n1
      exact ⟨by omega, fun {P} h1 h2 _ => yfr_ok q g h1 h2 (Or.inl rfl)⟩
    | false => rw [hz2, cond_false] at q; cases q
end YB
