theorem pE_ty {T : Nat → Int32} {n m d : Nat} {s s2 : rS} (hm : m ≤ 10) (h : pE T n m d s (.inr s2)) : tyH (mIn m) (mOu m) s s2 := by
  obtain ⟨N, h⟩ := h
  exact rX_ty N m d s s2 hm (h N (Nat.le_refl _))
/-- a clause and the codes that it stands over -/
noncomputable def rOk (cs : List Nat) (c : rCt) : Prop := ∃ p e1 e2 q, cs = p ++ (e1 ++ (e2 ++ q)) ∧ c.2.1 = p.length ∧ c.2.2.1 = p.length + e1.length ∧ c.2.2.2 = p.length + e1.length + e2.length ∧ (c.1 ≠ 15 → tyL [] e1 = some [false]) ∧ (e2 = [] ∨ tyL [] e2 = some [true])
theorem rOk_m {cs e : List Nat} {c : rCt} (h : rOk cs c) : rOk (cs ++ e) c := by
  obtain ⟨p, e1, e2, q, h1, h2⟩ := h
  exact ⟨p, e1, e2, q ++ e, by rw [h1, List.append_assoc, List.append_assoc, List.append_assoc], h2⟩
noncomputable def rOi (s : rS) : Prop := nVl s.2.2 ≤ s.2.1 ∧ s.2.1 ≤ 80
theorem rOi_h {A B : List Bool → List Bool} {s s2 : rS} (h : tyH A B s s2) (i : rOi s) : rOi s2 := by
  obtain ⟨e, a1, a2, a3, -⟩ := h
  refine ⟨?_, a3 i.2⟩
  rw [a1, nVl_app]
  have := i.1
  omega
noncomputable def rOj (s : rS) (x : rS × rCt) : Prop := (∃ e, x.1.2.2 = s.2.2 ++ e) ∧ rOk x.1.2.2 x.2 ∧ (rOi s → rOi x.1)
theorem rCl3_ok {T : Nat → Int32} {n k th : Nat} {s s2 : rS} {e1 : List Nat} {x : rS × rCt} (hs : s2.2.2 = s.2.2 ++ e1) (hi : rOi s → rOi s2) (h1 : th ≠ 15 → tyL [] e1 = some [false]) (h : rCl3 T n k th s.2.2.length s2 (.inr x)) : rOj s x := by
  rcases h with ⟨-, ⟨e, -, h⟩ | ⟨s3, h, h9⟩⟩ | ⟨-, -, h⟩ | ⟨-, -, h9⟩
  · cases h
  · cases h9
    have ht := pE_ty (by decide) h
    obtain ⟨e2, b1, b2, b3, b4⟩ := ht
    have b1 : s3.2.2 = s2.2.2 ++ e2 := b1
    have b4 : tyL [] e2 = some [true] := b4 []
    refine ⟨⟨e1 ++ e2, by show s3.2.2 = _; rw [b1, hs, List.append_assoc]⟩, ⟨s.2.2, e1, e2, [], ?_, rfl, ?_, ?_, h1, Or.inr b4⟩, fun z => rOi_h (pE_ty (by decide) h) (hi z)⟩
    · show s3.2.2 = _
      rw [b1, hs, List.append_nil, List.append_assoc]
    · show s2.2.2.length = _
      rw [hs, List.length_append]
    · show s3.2.2.length = _
      rw [b1, hs, List.length_append, List.length_append]
  · cases h
  · cases h9
    refine ⟨⟨e1, hs⟩, ⟨s.2.2, e1, [], [], ?_, rfl, ?_, ?_, h1, Or.inl rfl⟩, hi⟩
    · show s2.2.2 = _
      rw [hs, List.append_nil, List.append_nil]
    · show s2.2.2.length = _
      rw [hs, List.length_append]
    · show s2.2.2.length = _
      rw [hs, List.length_append]
      rfl
theorem rCl2_ok {T : Nat → Int32} {n k th : Nat} {s : rS} {x : rS × rCt} (hk : k ≠ 15 → th ≠ 15) (hk2 : k = 15 → th = 15) (h : rCl2 T n k th s (.inr x)) : rOj s x := by
  rcases h with ⟨a, h⟩ | ⟨a, ⟨e, -, h⟩ | ⟨s2, h2, h⟩⟩
  · exact rCl3_ok (e1 := []) (List.append_nil _).symm id (fun z => absurd (hk2 a) z) h
  · cases h
  · have ht := pE_ty (by decide) h2
    have hi : rOi s → rOi s2 := rOi_h ht
    obtain ⟨e1, b1, b2, b3, b4⟩ := ht
    exact rCl3_ok b1 hi (fun _ => b4 []) h
theorem rCl_ok {T : Nat → Int32} {n c : Nat} {s : rS} {x : rS × rCt} (h : rCl T n c s (.inr x)) : rOj s x := by
  rcases h with ⟨-, h⟩ | ⟨k, -, -, -, ⟨-, h⟩ | ⟨-, h⟩⟩
  · cases h
  · cases h
  · rcases h with ⟨a, ⟨e, -, h⟩ | ⟨q, h1, h⟩⟩ | ⟨a, h⟩
    · cases h
    · have := rM_le h1
      have h := rCl2_ok (fun _ => by omega) (fun z => by omega) h
      exact h
    · have y := rCl2_ok (s := rA (rE T n (rB T n s.1)) s) id id h
      exact y
theorem rRu_ok {T : Nat → Int32} {n : Nat} : ∀ (f : Nat) (s : rS) (cl : List rCt) (x : rS × List rCt), rRu T n f s cl (.inr x) → rOi s → (∀ c ∈ cl, rOk s.2.2 c) → rOi x.1 ∧ ∀ c ∈ x.2, rOk x.1.2.2 c
  | 0, _, _, _, h, _, _ => h.elim
  | f + 1, s, cl, x, h, hi, hc => by
    rcases h with ⟨e, -, h⟩ | ⟨s1, c, h1, h⟩
    · cases h
    · obtain ⟨⟨e, a1⟩, a2, a3⟩ := rCl_ok h1
      have a1 : s1.2.2 = s.2.2 ++ e := a1
      have hc2 : ∀ c2 ∈ cl ++ [c], rOk s1.2.2 c2 := by
        intro c2 hm
        rcases List.mem_append.mp hm with z | z
        · rw [a1]; exact rOk_m (hc c2 z)
        · rcases List.mem_singleton.mp z with rfl
          exact a2
      rcases h with ⟨-, h⟩ | ⟨-, h⟩ | ⟨-, h⟩
      · cases h
        exact ⟨a3 hi, hc2⟩
      · exact rRu_ok f (rA _ s1) _ x h (a3 hi) hc2
      · cases h
/-! what codes are worth -/
noncomputable def b64 (p : Prop) [Decidable p] : Int64 := if p then 1 else 0
theorem b64_f (p : Prop) [Decidable p] : b64 p = 0 ∨ b64 p = 1 := by
  unfold b64
  by_cases h : p
  · rw [if_pos h]; exact Or.inr rfl
  · rw [if_neg h]; exact Or.inl rfl
theorem b64_1 {p : Prop} [Decidable p] (h : p) : b64 p = 1 := if_pos h
theorem b64_0 {p : Prop} [Decidable p] (h : ¬ p) : b64 p = 0 := if_neg h
noncomputable def vOf (W : Nat → Int64) (c : Nat) : Int64 := if 100000 ≤ c then W (c - 100000) else (Int32.ofNat c).toInt64
noncomputable def jo (c : Nat) (a b : Int64) : Int64 := if c = 100100 then a + b else if c = 100101 then a - b else if c = 100102 then a * b else if c = 100103 then b64 (a.toInt < b.toInt) else if c = 100104 then b64 (a.toInt ≤ b.toInt) else if c = 100105 then b64 (a = b) else if c = 100106 then b64 (b.toInt ≤ a.toInt) else if c = 100108 then a ||| b else if c = 100109 then a &&& b else b64 (b.toInt < a.toInt)
noncomputable def jp (c : Nat) (a b : Int64) : Int64 := if c = 100108 then b64 (a ≠ 0 ∨ b ≠ 0) else if c = 100109 then b64 (a ≠ 0 ∧ b ≠ 0) else jo c a b
theorem jp_o {c : Nat} {a b : Int64} (h1 : c ≠ 100108) (h2 : c ≠ 100109) : jp c a b = jo c a b := by
  unfold jp
  rw [if_neg h1, if_neg h2]
theorem jp_8 {a b : Int64} : jp 100108 a b = b64 (a ≠ 0 ∨ b ≠ 0) := by
  unfold jp
  rw [if_pos rfl]
theorem jp_9 {a b : Int64} : jp 100109 a b = b64 (a ≠ 0 ∧ b ≠ 0) := by
  unfold jp
  rw [if_neg (by decide), if_pos rfl]
theorem jo_8 {a b : Int64} : jo 100108 a b = a ||| b := by
  unfold jo
  rw [if_neg (by decide), if_neg (by decide), if_neg (by decide), if_neg (by decide), if_neg (by decide), if_neg (by decide), if_neg (by decide), if_pos rfl]
theorem jo_9 {a b : Int64} : jo 100109 a b = a &&& b := by
  unfold jo
  rw [if_neg (by decide), if_neg (by decide), if_neg (by decide), if_neg (by decide), if_neg (by decide), if_neg (by decide), if_neg (by decide), if_neg (by decide), if_pos rfl]
theorem jo_f {c : Nat} {a b : Int64} (h : 100103 ≤ c ∧ c < 100108) : jo c a b = 0 ∨ jo c a b = 1 := by
  unfold jo
  rw [if_neg (by omega), if_neg (by omega), if_neg (by omega)]
  repeat' split
  all_goals first | exact b64_f _ | (exfalso; omega)
noncomputable def ev1 (W : Nat → Int64) (c : Nat) (X : List Int64) : List Int64 :=
  if c < 100100 then vOf W c :: X
  else if c = 100110 then (match X with
    | x :: r => (1 - x) :: r
    | [] => [])
  else (match X with
    | b :: a :: r => jo c a b :: r
    | X => X)
noncomputable def et1 (W : Nat → Int64) (c : Nat) (X : List Int64) : List Int64 :=
  if c < 100100 then vOf W c :: X
  else if c = 100110 then (match X with
    | x :: r => b64 (x = 0) :: r
    | [] => [])
  else (match X with
    | b :: a :: r => jp c a b :: r
    | X => X)
noncomputable def ev (W : Nat → Int64) : List Nat → List Int64 → List Int64
  | [], X => X
  | c :: e, X => ev W e (ev1 W c X)
noncomputable def et (W : Nat → Int64) : List Nat → List Int64 → List Int64
  | [], X => X
  | c :: e, X => et W e (et1 W c X)
noncomputable def okS : List Bool → List Int64 → Prop
  | [], [] => True
  | t :: S, x :: r => (t = true → x = 0 ∨ x = 1) ∧ okS S r
  | _, _ => False
theorem okS_1 {t : Bool} {S : List Bool} {X : List Int64} (k : okS (t :: S) X) : ∃ x r, X = x :: r ∧ (t = true → x = 0 ∨ x = 1) ∧ okS S r := by
  cases X with
  | nil => exact False.elim k
  | cons x r => exact ⟨x, r, rfl, k.1, k.2⟩
theorem okS_2 {t u : Bool} {S : List Bool} {X : List Int64} (k : okS (t :: u :: S) X) : ∃ b a r, X = b :: a :: r ∧ (t = true → b = 0 ∨ b = 1) ∧ (u = true → a = 0 ∨ a = 1) ∧ okS S r := by
  obtain ⟨b, r, rfl, h1, h2⟩ := okS_1 k
  obtain ⟨a, r, rfl, h3, h4⟩ := okS_1 h2
  exact ⟨b, a, r, rfl, h1, h3, h4⟩
theorem ev_v {W : Nat → Int64} {c : Nat} {X : List Int64} (hc : c < 100100) : ev1 W c X = vOf W c :: X := by
  unfold ev1
  rw [if_pos hc]
theorem ev_n {W : Nat → Int64} {x : Int64} {X : List Int64} : ev1 W 100110 (x :: X) = (1 - x) :: X := rfl
theorem ev_j {W : Nat → Int64} {c : Nat} {a b : Int64} {X : List Int64} (h1 : ¬ c < 100100) (h2 : c ≠ 100110) : ev1 W c (b :: a :: X) = jo c a b :: X := by
  unfold ev1
  rw [if_neg h1, if_neg h2]
theorem et_v {W : Nat → Int64} {c : Nat} {X : List Int64} (hc : c < 100100) : et1 W c X = vOf W c :: X := by
  unfold et1
  rw [if_pos hc]
theorem et_n {W : Nat → Int64} {x : Int64} {X : List Int64} : et1 W 100110 (x :: X) = b64 (x = 0) :: X := rfl
theorem et_j {W : Nat → Int64} {c : Nat} {a b : Int64} {X : List Int64} (h1 : ¬ c < 100100) (h2 : c ≠ 100110) : et1 W c (b :: a :: X) = jp c a b :: X := by
  unfold et1
  rw [if_neg h1, if_neg h2]
/-- a step on a stack of its types: what is done, and what it needs -/
theorem ev1_ty {W : Nat → Int64} {c : Nat} {S S1 : List Bool} {X : List Int64} (h : tyS S c = some S1) (k : okS S X) : ev1 W c X = et1 W c X ∧ okS S1 (ev1 W c X) ∧ ((c < 100012 ∧ (ev1 W c X).length = X.length + 1) ∨ (c = 100110 ∧ ∃ x r, X = x :: r) ∨ (100100 ≤ c ∧ c < 100110 ∧ ∃ b a r, X = b :: a :: r)) := by
  unfold tyS at h
  split at h
  · rename_i h1
    cases h
    rw [ev_v (by omega), et_v (by omega)]
    exact ⟨rfl, ⟨(fun z => by cases z), k⟩, Or.inl ⟨h1, rfl⟩⟩
  · split at h
    · rename_i h1 h2
      subst h2
      match S, h, k with
      | true :: S, h, k =>
        cases h
        obtain ⟨x, r, rfl, hx, hr⟩ := okS_1 k
        rw [ev_n, et_n]
        refine ⟨?_, ⟨fun _ => ?_, hr⟩, Or.inr (Or.inl ⟨rfl, x, r, rfl⟩)⟩
        · rcases hx rfl with rfl | rfl
          · rw [b64_1 rfl]; rfl
          · rw [b64_0 (by decide)]; rfl
        · rcases hx rfl with rfl | rfl
          · exact Or.inr rfl
          · exact Or.inl rfl
    · split at h
      · rename_i h1 h2 h3
        match S, h, k with
        | true :: true :: S, h, k =>
          cases h
          obtain ⟨b, a, r, rfl, hb, ha, hr⟩ := okS_2 k
          rw [ev_j (by omega) h2, et_j (by omega) h2]
          have e : jo c a b = jp c a b ∧ (jo c a b = 0 ∨ jo c a b = 1) := by
            rcases h3 with rfl | rfl
            · rw [jo_8, jp_8]
              rcases hb rfl with rfl | rfl <;> rcases ha rfl with rfl | rfl <;> decide
            · rw [jo_9, jp_9]
              rcases hb rfl with rfl | rfl <;> rcases ha rfl with rfl | rfl <;> decide
          exact ⟨by rw [e.1], ⟨fun _ => e.2, hr⟩, Or.inr (Or.inr ⟨by omega, by omega, b, a, r, rfl⟩)⟩
      · split at h
        · rename_i h1 h2 h3 h4
          match S, h, k with
          | false :: false :: S, h, k =>
            cases h
            obtain ⟨b, a, r, rfl, hb, ha, hr⟩ := okS_2 k
            rw [ev_j (by omega) h2, et_j (by omega) h2]
            have e : jo c a b = jp c a b := (jp_o (by omega) (by omega)).symm
            exact ⟨by rw [e], ⟨(fun z => by cases z), hr⟩, Or.inr (Or.inr ⟨by omega, by omega, b, a, r, rfl⟩)⟩
        · split at h
          · rename_i h1 h2 h3 h4 h5
            match S, h, k with
            | false :: false :: S, h, k =>
              cases h
              obtain ⟨b, a, r, rfl, hb, ha, hr⟩ := okS_2 k
              rw [ev_j (by omega) h2, et_j (by omega) h2]
              have e : jo c a b = jp c a b ∧ (jo c a b = 0 ∨ jo c a b = 1) := ⟨(jp_o (by omega) (by omega)).symm, jo_f h5⟩
              exact ⟨by rw [e.1], ⟨fun _ => e.2, hr⟩, Or.inr (Or.inr ⟨by omega, by omega, b, a, r, rfl⟩)⟩
          · cases h
theorem ev_ty {W : Nat → Int64} {e : List Nat} {S S1 : List Bool} {X : List Int64} (h : tyL S e = some S1) (k : okS S X) : ev W e X = et W e X ∧ okS S1 (ev W e X) := by
  induction e generalizing S X with
  | nil =>
    have h : some S = some S1 := h
    cases h
    exact ⟨rfl, k⟩
  | cons c e ih =>
    have h : (match tyS S c with | none => none | some S1 => tyL S1 e) = some S1 := h
    cases hc : tyS S c with
    | none => rw [hc] at h; cases h
    | some S3 =>
      rw [hc] at h
      obtain ⟨a1, a2, -⟩ := ev1_ty hc k
      obtain ⟨b1, b2⟩ := ih h a2
      refine ⟨?_, b2⟩
      show ev W e (ev1 W c X) = et W e (et1 W c X)
      rw [b1, a1]
/-- what a clause's codes are worth -/
noncomputable def wv (W : Nat → Int64) (e : List Nat) : Int64 := (ev W e []).headD 0
theorem ev_one {W : Nat → Int64} {e : List Nat} {t : Bool} (h : tyL [] e = some [t]) : ev W e [] = [wv W e] ∧ et W e [] = [wv W e] := by
  obtain ⟨a, k⟩ := ev_ty (W := W) (X := []) h trivial
  obtain ⟨x, r, e1, -, k2⟩ := okS_1 k
  cases r with
  | cons y r => exact False.elim k2
  | nil =>
    have : wv W e = x := by unfold wv; rw [e1]; rfl
    rw [this, ← a, e1]
    exact ⟨rfl, rfl⟩
/-- a stack in an array -/
noncomputable def stk (g : Nat → Int64) : List Int64 → Prop
  | [] => True
  | x :: r => g r.length = x ∧ stk g r
theorem stk_n {g g2 : Nat → Int64} {X : List Int64} (k : stk g X) (h : ∀ i, i < X.length → g2 i = g i) : stk g2 X := by
  induction X with
  | nil => trivial
  | cons x r ih =>
    refine ⟨?_, ih k.2 (fun i hi => h i (Nat.lt_succ_of_lt hi))⟩
    rw [h r.length (Nat.lt_succ_self _)]
    exact k.1
theorem stk_p {g : Nat → Int64} {X : List Int64} {x : Int64} {m : Nat} (k : stk g X) (hm : m = X.length) : stk (fun j => if j = m then x else g j) (x :: X) := by
  subst hm
  refine ⟨if_pos rfl, stk_n k (fun i hi => if_neg (by omega))⟩
/-- where the codes stand that are still to come -/
noncomputable def cdAt (f : Nat → Nat) (b : Nat) : List Nat → Prop
  | [] => True
  | c :: e => f b = c ∧ cdAt f (b + 1) e
theorem cdAt_of {f : Nat → Nat} {N : Nat} : ∀ {p e q : List Nat}, (List.range N).map f = p ++ (e ++ q) → cdAt f p.length e := by
  intro p e
  induction e generalizing p with
  | nil => intro q _; trivial
  | cons c e ih =>
    intro q h
    refine ⟨?_, ?_⟩
    · have hl : p.length < N := by
        have := congrArg List.length h
        rw [List.length_map, List.length_range, List.length_append, List.length_append, List.length_cons] at this
        omega
      have h2 : ((List.range N).map f)[p.length]? = (p ++ (c :: e ++ q))[p.length]? := congrArg (fun l => l[p.length]?) h
      rw [List.getElem?_append_right (Nat.le_refl _), Nat.sub_self, List.getElem?_map, List.getElem?_range hl] at h2
      exact Option.some.inj h2
    · have := ih (p := p ++ [c]) (q := q) (by rw [h, List.append_assoc]; rfl)
      rw [List.length_append] at this
      exact this
/-- where the class and the reference stand in the codes -/
noncomputable def evA (W : Nat → Int64) (f : Nat → Nat) (g : Nat → Int64) (F : List Int64) (b : Nat) (top : Nat) (e : List Nat) (X : List Int64) (S : List Bool) : Prop := (cdAt f b e) ∧ (stk g X) ∧ (∃ S1, tyL S e = some S1) ∧ (okS S X) ∧ (ev W e X = F) ∧ (top = X.length) ∧ (X.length + nVl e ≤ 80)
theorem evA.at_ {W : Nat → Int64} {f : Nat → Nat} {g : Nat → Int64} {F : List Int64} {b : Nat} {top : Nat} {e : List Nat} {X : List Int64} {S : List Bool} (k : evA W f g F b top e X S) : cdAt f b e := k.1
theorem evA.st {W : Nat → Int64} {f : Nat → Nat} {g : Nat → Int64} {F : List Int64} {b : Nat} {top : Nat} {e : List Nat} {X : List Int64} {S : List Bool} (k : evA W f g F b top e X S) : stk g X := k.2.1
theorem evA.ty {W : Nat → Int64} {f : Nat → Nat} {g : Nat → Int64} {F : List Int64} {b : Nat} {top : Nat} {e : List Nat} {X : List Int64} {S : List Bool} (k : evA W f g F b top e X S) : ∃ S1, tyL S e = some S1 := k.2.2.1
theorem evA.ok {W : Nat → Int64} {f : Nat → Nat} {g : Nat → Int64} {F : List Int64} {b : Nat} {top : Nat} {e : List Nat} {X : List Int64} {S : List Bool} (k : evA W f g F b top e X S) : okS S X := k.2.2.2.1
theorem evA.out {W : Nat → Int64} {f : Nat → Nat} {g : Nat → Int64} {F : List Int64} {b : Nat} {top : Nat} {e : List Nat} {X : List Int64} {S : List Bool} (k : evA W f g F b top e X S) : ev W e X = F := k.2.2.2.2.1
theorem evA.len {W : Nat → Int64} {f : Nat → Nat} {g : Nat → Int64} {F : List Int64} {b : Nat} {top : Nat} {e : List Nat} {X : List Int64} {S : List Bool} (k : evA W f g F b top e X S) : top = X.length := k.2.2.2.2.2.1
theorem evA.few {W : Nat → Int64} {f : Nat → Nat} {g : Nat → Int64} {F : List Int64} {b : Nat} {top : Nat} {e : List Nat} {X : List Int64} {S : List Bool} (k : evA W f g F b top e X S) : X.length + nVl e ≤ 80 := k.2.2.2.2.2.2
theorem tyL_c {S S1 : List Bool} {c : Nat} {e : List Nat} (h : tyL S (c :: e) = some S1) : ∃ S2, tyS S c = some S2 ∧ tyL S2 e = some S1 := by
  have h : (match tyS S c with | none => none | some S1 => tyL S1 e) = some S1 := h
  cases hc : tyS S c with
  | none => rw [hc] at h; cases h
  | some S3 => rw [hc] at h; exact ⟨S3, rfl, h⟩
section EVA
variable {W : Nat → Int64} {f : Nat → Nat} {g : Nat → Int64} {F X : List Int64} {b top c : Nat} {e : List Nat} {S : List Bool}
/-- a value -/
theorem evA_v (k : evA W f g F b top (c :: e) X S) (h : c < 100100) : top < 80 ∧ c < 100012 ∧ ∃ X2 S2, evA W f (fun j => if j = top then vOf W c else g j) F (b + 1) (top + 1) e X2 S2 := by
  obtain ⟨S1, h1⟩ := k.ty
  obtain ⟨S2, h2, h3⟩ := tyL_c h1
  obtain ⟨a1, a2, a3⟩ := ev1_ty (W := W) h2 k.ok
  have hf := k.few
  have hn : nVl (c :: e) = 1 + nVl e := by
    show (if c < 100100 then 1 else 0) + nVl e = _
    rw [if_pos h]
  have ho := k.out
  have ho : ev W e (ev1 W c X) = F := ho
  rw [ev_v h] at a2 ho
  have hl := k.len
  refine ⟨by omega, ?_, vOf W c :: X, S2, ⟨k.at_.2, stk_p k.st k.len, ⟨S1, h3⟩, a2, ho, by rw [hl]; rfl, by show X.length + 1 + nVl e ≤ 80; omega⟩⟩
  rcases a3 with a3 | a3 | a3
  · exact a3.1
  · omega
  · omega
theorem nVl_k (h : ¬ c < 100100) : nVl (c :: e) = nVl e := by
  show (if c < 100100 then 1 else 0) + nVl e = _
  rw [if_neg h, Nat.zero_add]
/-- not -/
theorem evA_n (k : evA W f g F b top (c :: e) X S) (h : c = 100110) : 0 < top ∧ 1 - g (top - 1) = b64 (g (top - 1) = 0) ∧ ∃ X2 S2, evA W f (fun j => if j = top - 1 then 1 - g (top - 1) else g j) F (b + 1) top e X2 S2 := by
  subst h
  obtain ⟨S1, h1⟩ := k.ty
  obtain ⟨S2, h2, h3⟩ := tyL_c h1
  obtain ⟨a1, a2, a3⟩ := ev1_ty (W := W) h2 k.ok
  have hf := k.few
  have ho := k.out
  have ho : ev W e (ev1 W 100110 X) = F := ho
  have hl := k.len
  have hs := k.st
  have hn := nVl_k (e := e) (c := 100110) (by decide)
  rcases a3 with ⟨a3, -⟩ | ⟨-, x, r, rfl⟩ | ⟨-, a3, -⟩
  · omega
  · rw [ev_n] at a2 ho a1
    rw [et_n] at a1
    have hl : top = r.length + 1 := hl
    have e1 : top - 1 = r.length := by omega
    have e2 : g (top - 1) = x := by rw [e1]; exact hs.1
    refine ⟨by omega, ?_, (1 - x) :: r, S2, ⟨k.at_.2, ?_, ⟨S1, h3⟩, a2, ho, hl, by rw [hn] at hf; exact hf⟩⟩
    · rw [e2]
      exact (List.cons.inj a1).1
    · rw [e2]
      exact stk_p hs.2 e1
  · omega
/-- two into one -/
theorem evA_j (k : evA W f g F b top (c :: e) X S) (h1 : ¬ c < 100100) (h2 : c ≠ 100110) : 1 < top ∧ 100100 ≤ c ∧ c < 100110 ∧ jo c (g (top - 2)) (g (top - 1)) = jp c (g (top - 2)) (g (top - 1)) ∧ ∃ X2 S2, evA W f (fun j => if j = top - 2 then jo c (g (top - 2)) (g (top - 1)) else g j) F (b + 1) (top - 1) e X2 S2 := by
  obtain ⟨S1, t1⟩ := k.ty
  obtain ⟨S2, t2, t3⟩ := tyL_c t1
  obtain ⟨a1, a2, a3⟩ := ev1_ty (W := W) t2 k.ok
  have hf := k.few
  have ho := k.out
  have ho : ev W e (ev1 W c X) = F := ho
  have hl := k.len
  have hs := k.st
  have hn := nVl_k (e := e) h1
  rcases a3 with ⟨a3, -⟩ | ⟨a3, -⟩ | ⟨a3, a4, y, x, r, rfl⟩
  · omega
  · omega
  · rw [ev_j h1 h2] at a2 ho a1
    rw [et_j h1 h2] at a1
    have hl : top = r.length + 1 + 1 := hl
    have hf : r.length + 1 + 1 + nVl (c :: e) ≤ 80 := hf
    have e1 : top - 1 = (x :: r).length := by show top - 1 = r.length + 1; omega
    have e3 : top - 2 = r.length := by omega
    have e2 : g (top - 1) = y := by rw [e1]; exact hs.1
    have e4 : g (top - 2) = x := by rw [e3]; exact hs.2.1
    rw [e2, e4]
    refine ⟨by omega, a3, a4, (List.cons.inj a1).1, jo c x y :: r, S2, ⟨k.at_.2, ?_, ⟨S1, t3⟩, a2, ho, by show top - 1 = r.length + 1; omega, by show r.length + 1 + nVl e ≤ 80; omega⟩⟩
    exact stk_p hs.2.2 e3
theorem evA_0 {t : Bool} (h : cdAt f b e) (ht : tyL [] e = some [t]) (hn : nVl e ≤ 80) : evA W f g [wv W e] b 0 e [] [] := ⟨h, trivial, ⟨_, ht⟩, trivial, (ev_one ht).1, rfl, by show 0 + nVl e ≤ 80; omega⟩
theorem evA_e {x : Int64} (k : evA W f g [x] b top [] X S) : top = 1 ∧ g 0 = x := by
  have ho : X = [x] := k.out
  have hs := k.st
  have hl := k.len
  rw [ho] at hs hl
  exact ⟨hl, hs.1⟩
end EVA
/-! arrays by their tags -/
section TAGV
variable {xs : Nat → Int32} {τ : List Nat} {h h2 : zH} {W : Nat → Nat → Bool}
theorem tkd_v {p t k nlo nhi : Nat} {lo hi : Int} {tg : Nat} (hB : zBs xs τ h) (ht : τ[p]? = some t) (hT : zTTy[t]? = some (.inr (k, nlo, nhi, (0, lo, hi, tg)))) : nlo ≤ tN h p ∧ tN h p ≤ nhi ∧ ∀ i, i < tN h p → lo ≤ (tA h p i).toInt ∧ (tA h p i).toInt ≤ hi := by
  obtain ⟨ct, c, a1, a2, a3⟩ := hB.1.2 _ _ ht
  rw [hT] at a1
  cases a1
  obtain ⟨N, x, rfl, h1, h2, f, rfl, h3⟩ := a3
  unfold tN tA
  rw [a2]
  exact ⟨h1, h2, h3⟩
theorem tkd_j {p t k nlo nhi : Nat} {lo hi : Int} {tg : Nat} (hB : zBs xs τ h) (ht : zTG[p]? = some t) (hT : zTTy[t]? = some (.inr (k, nlo, nhi, (1, lo, hi, tg)))) : nlo ≤ tN h p ∧ tN h p ≤ nhi := by
  obtain ⟨ct, c, a1, a2, a3⟩ := hB.1.2 _ _ (hB.2.1 _ _ ht)
  rw [hT] at a1
  cases a1
  obtain ⟨N, x, rfl, h1, h2, -⟩ := a3
  unfold tN
  rw [a2]
  exact ⟨h1, h2⟩
theorem tfr_v {p t : Nat} (hB : zBs xs τ h) (hf : yFr W τ h h2) (ht : τ[p]? = some t) (hW : W t 0 = false) : tA h2 p = tA h p ∧ tN h2 p = tN h p := by
  obtain ⟨ct, c, a1, a2, -⟩ := hB.1.2 _ _ ht
  obtain ⟨c2, b1, b2⟩ := hf _ _ _ ht a2
  unfold tA tN
  constructor
  · funext i
    rw [a2, b1]
    match c, c2, b2 with
    | .inr (x, fs), .inr (y, gs), b2 => rfl
    | .inl (k, N, x), .inl (k2, N2, y), b2 =>
      have := b2.2.2 hW
      subst this
      cases y with
      | inl f => rfl
      | inr y => rfl
  · rw [a2, b1]
    match c, c2, b2 with
    | .inr (x, fs), .inr (y, gs), b2 => rfl
    | .inl (k, N, x), .inl (k2, N2, y), b2 => exact b2.2.1.symm
theorem arr_tag {p q a t k nlo nhi tg : Nat} {lo hi : Int} (hB : zBs xs τ h) (ht : zTG[p]? = some t) (hT : zTTy[t]? = some (.inr (k, nlo, nhi, (2, lo, hi, tg)))) (hq : q < nlo) (hg : tg ≠ 0) (ha : tO h p q = some a) : τ[a]? = some tg := by
  obtain ⟨a1, a2, a3⟩ := tkd_o hB ht hT
  obtain ⟨-, -, y⟩ := a3 q (by omega)
  rw [ha] at y
  rcases y with y | y | y
  · exact absurd y hg
  · exact absurd y (by show ¬ ((a : Int) < 0); omega)
  · exact y
end TAGV
theorem zsbM {x y : Int32} {a b : Nat} (hx : x.toInt = a) (hy : y.toInt = b) (ha : a ≤ 1000000) (hb : b ≤ 1000000) : (x - y).toInt = (a : Int) - b := by
  rw [Int32.toInt_sub, hx, hy]
  exact Int.bmod_eq_of_le (by show (-2147483648 : Int) ≤ (a : Int) - b; omega) (by show (a : Int) - b < (2147483648 : Int); omega)
/-! a long array is written, the rest stays -/
noncomputable def mJs (p i : Nat) (x : Int64) (h h3 : zH) : Prop := tSh h3 ∧ tF h3 = tF h ∧ tA h3 = tA h ∧ tO h3 = tO h ∧ tN h3 = tN h ∧ tJ h3 = fun q j => if q = p ∧ j = i then x else tJ h q j
noncomputable def wFr (p : Nat) (h h2 : zH) : Prop := tSh h2 ∧ tF h2 = tF h ∧ tA h2 = tA h ∧ tO h2 = tO h ∧ tN h2 = tN h ∧ ∀ q, q ≠ p → tJ h2 q = tJ h q
section WFR
variable {h h1 h2 h3 : zH} {p i : Nat} {x : Int64}
theorem wFr_r (hs : tSh h) : wFr p h h := ⟨hs, rfl, rfl, rfl, rfl, fun _ _ => rfl⟩
theorem wFr_t (a : wFr p h h1) (k : wFr p h1 h2) : wFr p h h2 := ⟨k.1, k.2.1.trans a.2.1, k.2.2.1.trans a.2.2.1, k.2.2.2.1.trans a.2.2.2.1, k.2.2.2.2.1.trans a.2.2.2.2.1, fun q hq => (k.2.2.2.2.2 q hq).trans (a.2.2.2.2.2 q hq)⟩
theorem wFr_s (a : wFr p h h1) (k : mJs p i x h1 h3) : wFr p h h3 := wFr_t a ⟨k.1, k.2.1, k.2.2.1, k.2.2.2.1, k.2.2.2.2.1, fun q hq => by rw [k.2.2.2.2.2]; funext j; exact if_neg (fun z => hq z.1)⟩
theorem mJs_g {g : Nat → Int64} (k : mJs p i x h1 h3) (e : tJ h1 p = g) : tJ h3 p = fun j => if j = i then x else g j := by
  rw [k.2.2.2.2.2]
  funext j
  dsimp only
  rw [e]
  by_cases z : j = i
  · rw [if_pos ⟨rfl, z⟩, if_pos z]
  · rw [if_neg (fun y => z y.2), if_neg z]
theorem tG_lst {tt : zT} {G : zG} {cd : zK} {bc bs : Nat} {rt : Option FieldType} {M : zM} {Q : zQ} {Z : zX} {f : Bool} {pc : Nat} {L : zL} {st : List Value} {c n : Nat} {i : Int32} (hf : tInJ h p i) (hs : tSh h) (k : ∀ h3, mJs p i.toNatClampNeg x h h3 → tG tt G cd bc bs rt M Q Z f pc L st h3 c n) : tG tt G cd bc bs rt M Q Z f pc L st (tSJ h p i.toNatClampNeg x) c n := by
  obtain ⟨N, g, e, -⟩ := hf
  exact k _ ⟨tSh_SJ hs, tF_tSJ _ _ _ _, tA_tSJ _ _ _ _, tO_tSJ _ _ _ _, tN_tSJ _ _ _ _, tJ_tSJ ⟨_, _, _, e⟩ _ _⟩
end WFR
/-! a rule in the class's arrays and in the reference's -/
noncomputable def slc (cs : List Nat) (p q : Nat) : List Nat := (cs.drop p).take (q - p)
theorem slc_m {p e q : List Nat} : slc (p ++ (e ++ q)) p.length (p.length + e.length) = e := by
  unfold slc
  rw [List.drop_left, show p.length + e.length - p.length = e.length by omega, List.take_left]
noncomputable def rDt (h : zH) (a b K : Nat) (cs : List Nat) (cl : Nat → rCt) : Prop := ((List.range (tN h a)).map (fun i => (tA h a i).toNatClampNeg) = cs) ∧ (tN h a ≤ 400) ∧ (∀ i, i < tN h a → 0 ≤ (tA h a i).toInt) ∧ (tN h b = 4 * K) ∧ (K ≤ 12) ∧ (∀ i, i < K → (tA h b (4 * i)).toInt = ((cl i).1 : Int) ∧ (tA h b (4 * i + 1)).toInt = ((cl i).2.1 : Int) ∧ (tA h b (4 * i + 2)).toInt = ((cl i).2.2.1 : Int) ∧ (tA h b (4 * i + 3)).toInt = ((cl i).2.2.2 : Int)) ∧ (∀ i, i < K → rOk cs (cl i)) ∧ (nVl cs ≤ 80)
theorem rDt.arr {h : zH} {a b K : Nat} {cs : List Nat} {cl : Nat → rCt} (k : rDt h a b K cs cl) : (List.range (tN h a)).map (fun i => (tA h a i).toNatClampNeg) = cs := k.1
theorem rDt.big {h : zH} {a b K : Nat} {cs : List Nat} {cl : Nat → rCt} (k : rDt h a b K cs cl) : tN h a ≤ 400 := k.2.1
theorem rDt.pos {h : zH} {a b K : Nat} {cs : List Nat} {cl : Nat → rCt} (k : rDt h a b K cs cl) : ∀ i, i < tN h a → 0 ≤ (tA h a i).toInt := k.2.2.1
theorem rDt.len {h : zH} {a b K : Nat} {cs : List Nat} {cl : Nat → rCt} (k : rDt h a b K cs cl) : tN h b = 4 * K := k.2.2.2.1
theorem rDt.few {h : zH} {a b K : Nat} {cs : List Nat} {cl : Nat → rCt} (k : rDt h a b K cs cl) : K ≤ 12 := k.2.2.2.2.1
theorem rDt.row {h : zH} {a b K : Nat} {cs : List Nat} {cl : Nat → rCt} (k : rDt h a b K cs cl) : ∀ i, i < K → (tA h b (4 * i)).toInt = ((cl i).1 : Int) ∧ (tA h b (4 * i + 1)).toInt = ((cl i).2.1 : Int) ∧ (tA h b (4 * i + 2)).toInt = ((cl i).2.2.1 : Int) ∧ (tA h b (4 * i + 3)).toInt = ((cl i).2.2.2 : Int) := k.2.2.2.2.2.1
theorem rDt.ok {h : zH} {a b K : Nat} {cs : List Nat} {cl : Nat → rCt} (k : rDt h a b K cs cl) : ∀ i, i < K → rOk cs (cl i) := k.2.2.2.2.2.2.1
theorem rDt.nv {h : zH} {a b K : Nat} {cs : List Nat} {cl : Nat → rCt} (k : rDt h a b K cs cl) : nVl cs ≤ 80 := k.2.2.2.2.2.2.2
theorem rDt.frame {h h2 : zH} {a b K p : Nat} {cs : List Nat} {cl : Nat → rCt} (D : rDt h a b K cs cl) (k : wFr p h h2) : rDt h2 a b K cs cl := by
  obtain ⟨h1, h2, h3, h4, h5, h6, h7, h8⟩ := D
  have eN := k.2.2.2.2.1
  have eA := k.2.2.1
  exact ⟨by rw [eN, eA]; exact h1, by rw [eN]; exact h2, by rw [eN, eA]; exact h3, by rw [eN]; exact h4, h5, by rw [eA]; exact h6, h7, h8⟩
/-- a clause tells its thing -/
noncomputable def hit (W : Nat → Int64) (cs : List Nat) (c : rCt) (th : Nat) : Prop := c.1 = th ∧ (c.2.2.1 = c.2.2.2 ∨ wv W (slc cs c.2.2.1 c.2.2.2) ≠ 0)
noncomputable def fTr (W : Nat → Int64) (cs : List Nat) (cl : Nat → rCt) (K th : Nat) (ix : Nat → Nat) (w : Option Value) : Prop := (w = some (.int (-1)) ∧ ∀ i, i < K → ¬ hit W cs (cl i) th) ∨ ∃ i, i < K ∧ hit W cs (cl i) th ∧ (∀ j, j < i → ¬ hit W cs (cl j) th) ∧ ∃ x : Int32, w = some (.int x) ∧ x.toInt = (ix i : Int)
theorem nVl_m {p e q : List Nat} : nVl e ≤ nVl (p ++ (e ++ q)) := by
  rw [nVl_app, nVl_app]
  omega
/-- the test of a clause, the sum of a clause -/
theorem rOk_t {cs : List Nat} {c : rCt} (h : rOk cs c) (hn : nVl cs ≤ 80) (hne : c.2.2.1 ≠ c.2.2.2) : c.2.2.2 = c.2.2.1 + (slc cs c.2.2.1 c.2.2.2).length ∧ c.2.2.2 ≤ cs.length ∧ tyL [] (slc cs c.2.2.1 c.2.2.2) = some [true] ∧ nVl (slc cs c.2.2.1 c.2.2.2) ≤ 80 ∧ ∃ p q, p.length = c.2.2.1 ∧ cs = p ++ (slc cs c.2.2.1 c.2.2.2 ++ q) := by
  obtain ⟨p, e1, e2, q, h1, h2, h3, h4, -, h6⟩ := h
  have e : cs = (p ++ e1) ++ (e2 ++ q) := by rw [h1, List.append_assoc]
  have es : slc cs c.2.2.1 c.2.2.2 = e2 := by
    rw [e, h3, h4, ← List.length_append]
    exact slc_m
  rw [es]
  have hl := congrArg List.length e
  rw [List.length_append, List.length_append, List.length_append] at hl
  refine ⟨by omega, by omega, ?_, ?_, p ++ e1, q, by rw [List.length_append, h3], e⟩
  · rcases h6 with h6 | h6
    · rw [h6] at h4
      exact absurd (h3.trans h4.symm) hne
    · exact h6
  · have := nVl_m (p := p ++ e1) (e := e2) (q := q)
    rw [← e] at this
    omega
theorem rOk_s {cs : List Nat} {c : rCt} (h : rOk cs c) (hn : nVl cs ≤ 80) (hne : c.1 ≠ 15) : c.2.2.1 = c.2.1 + (slc cs c.2.1 c.2.2.1).length ∧ c.2.2.1 ≤ cs.length ∧ tyL [] (slc cs c.2.1 c.2.2.1) = some [false] ∧ nVl (slc cs c.2.1 c.2.2.1) ≤ 80 ∧ ∃ p q, p.length = c.2.1 ∧ cs = p ++ (slc cs c.2.1 c.2.2.1 ++ q) := by
  obtain ⟨p, e1, e2, q, h1, h2, h3, h4, h5, -⟩ := h
  have es : slc cs c.2.1 c.2.2.1 = e1 := by
    rw [h1, h2, h3]
    exact slc_m
  rw [es]
  have hl := congrArg List.length h1
  rw [List.length_append, List.length_append, List.length_append] at hl
  refine ⟨by omega, by omega, h5 hne, ?_, p, e2 ++ q, h2.symm, h1⟩
  have := nVl_m (p := p) (e := e1) (q := e2 ++ q)
  rw [← h1] at this
  omega
theorem cdAt_c {cs p e q : List Nat} {f : Nat → Nat} {N b : Nat} (ha : (List.range N).map f = cs) (hc : cs = p ++ (e ++ q)) (hb : p.length = b) : cdAt f b e := by
  rw [← hb]
  exact cdAt_of (ha.trans hc)
theorem cs_len {cs : List Nat} {f : Nat → Nat} {N : Nat} (ha : (List.range N).map f = cs) : cs.length = N := by rw [← ha, List.length_map, List.length_range]
/-- a rule's codes and clauses in the reference's arrays -/
noncomputable def rDm (h : zH) (q K : Nat) (cs : List Nat) (cl : Nat → rCt) : Prop := (∀ i, i < cs.length → mCode (tA h 133 (500 * q + i)).toNatClampNeg (tA h 134 (500 * q + i)).toNatClampNeg = (cs[i]?).getD 0) ∧ (cs.length ≤ 400) ∧ ((tA h 140 q).toInt = (K : Int)) ∧ (K ≤ 12) ∧ (∀ i, i < K → mRow h (12 * q + i) = cl i) ∧ (∀ i, i < K → rOk cs (cl i)) ∧ (nVl cs ≤ 80)
theorem rDm.cod {h : zH} {q K : Nat} {cs : List Nat} {cl : Nat → rCt} (k : rDm h q K cs cl) : ∀ i, i < cs.length → mCode (tA h 133 (500 * q + i)).toNatClampNeg (tA h 134 (500 * q + i)).toNatClampNeg = (cs[i]?).getD 0 := k.1
theorem rDm.big {h : zH} {q K : Nat} {cs : List Nat} {cl : Nat → rCt} (k : rDm h q K cs cl) : cs.length ≤ 400 := k.2.1
theorem rDm.cnt {h : zH} {q K : Nat} {cs : List Nat} {cl : Nat → rCt} (k : rDm h q K cs cl) : (tA h 140 q).toInt = (K : Int) := k.2.2.1
theorem rDm.few {h : zH} {q K : Nat} {cs : List Nat} {cl : Nat → rCt} (k : rDm h q K cs cl) : K ≤ 12 := k.2.2.2.1
theorem rDm.row {h : zH} {q K : Nat} {cs : List Nat} {cl : Nat → rCt} (k : rDm h q K cs cl) : ∀ i, i < K → mRow h (12 * q + i) = cl i := k.2.2.2.2.1
theorem rDm.ok {h : zH} {q K : Nat} {cs : List Nat} {cl : Nat → rCt} (k : rDm h q K cs cl) : ∀ i, i < K → rOk cs (cl i) := k.2.2.2.2.2.1
theorem rDm.nv {h : zH} {q K : Nat} {cs : List Nat} {cl : Nat → rCt} (k : rDm h q K cs cl) : nVl cs ≤ 80 := k.2.2.2.2.2.2
theorem rDm.frame {h h2 : zH} {q K p : Nat} {cs : List Nat} {cl : Nat → rCt} (D : rDm h q K cs cl) (k : wFr p h h2) : rDm h2 q K cs cl := by
  obtain ⟨h1, h2, h3, h4, h5, h6, h7⟩ := D
  have eA := k.2.2.1
  exact ⟨by rw [eA]; exact h1, h2, by rw [eA]; exact h3, h4, fun i hi => by rw [← h5 i hi]; unfold mRow; rw [eA], h6, h7⟩
theorem cdAt_g {cs e : List Nat} {f : Nat → Nat} : ∀ {p q : List Nat}, cs = p ++ (e ++ q) → (∀ i, i < cs.length → f i = (cs[i]?).getD 0) → cdAt f p.length e := by
  induction e with
  | nil => intro p q _ _; trivial
  | cons c e ih =>
    intro p q h hf
    refine ⟨?_, ?_⟩
    · have hl : p.length < cs.length := by
        rw [h, List.length_append, List.length_append, List.length_cons]
        omega
      rw [hf _ hl, h, List.getElem?_append_right (Nat.le_refl _), Nat.sub_self]
      rfl
    · have := ih (p := p ++ [c]) (q := q) (by rw [h, List.append_assoc]; rfl) hf
      rw [List.length_append] at this
      exact this
theorem cdAt_h {cs p e q : List Nat} {f : Nat → Nat} {b : Nat} (hb : p.length = b) (h : cs = p ++ (e ++ q)) (hf : ∀ i, i < cs.length → f i = (cs[i]?).getD 0) : cdAt f b e := by
  rw [← hb]
  exact cdAt_g h hf
/-- which thing a row tells -/
noncomputable def thc (a b : Nat) : Nat := if a = 0 ∧ b < 12 then b else 12 + a + 100 * b
theorem thc_i {a b c d : Nat} (ha : a ≤ 3) (hc : c ≤ 3) : thc a b = thc c d ↔ a = c ∧ b = d := by
  unfold thc
  split <;> split <;> omega
theorem mRow_1 {h : zH} {i : Nat} : (mRow h i).1 = thc (tA h 135 i).toNatClampNeg (tA h 136 i).toNatClampNeg := rfl
/-- a code that is a value, not, or a sign -/
theorem mC_v {s v : Nat} {c : Nat} (e : mCode s v = c) (h : c < 100012) (hv : v ≤ 99999) : (s = 0 ∧ c = v) ∨ (s = 1 ∧ c = 100000 + v ∧ v < 12) := by
  unfold mCode at e
  split at e
  · exact Or.inl ⟨by omega, e.symm⟩
  · split at e
    · split at e
      · exact Or.inr ⟨by omega, e.symm, by omega⟩
      · omega
    · exfalso
      repeat' (split at e)
      all_goals omega
theorem mC_n {s v : Nat} {c : Nat} (e : mCode s v = c) (h : c = 100110) (hv : v ≤ 99999) (hs : s ≤ 14) : s = 10 := by
  unfold mCode at e
  repeat' (split at e)
  all_goals omega
theorem mC_t {s v : Nat} (h : 2 ≤ s) : mCode s v = mCode s 0 := by
  unfold mCode
  rw [if_neg (show ¬ s = 0 by omega), if_neg (show ¬ s = 1 by omega), if_neg (show ¬ s = 0 by omega), if_neg (show ¬ s = 1 by omega)]
theorem mC_j {s v : Nat} {c : Nat} (e : mCode s v = c) (h1 : 100100 ≤ c) (h2 : c < 100110) (hv : v ≤ 99999) : 2 ≤ s ∧ s ≤ 12 ∧ s ≠ 10 ∧ c = mCode s 0 := by
  have h : 2 ≤ s ∧ s ≤ 12 ∧ s ≠ 10 := by
    unfold mCode at e
    repeat' (split at e)
    all_goals omega
  exact ⟨h.1, h.2.1, h.2.2, e.symm.trans (mC_t h.1)⟩
theorem zmul5 {y : Int32} {q : Nat} (hy : y.toInt = q) (hq : q < 10) : (500 * y).toInt = ((500 * q : Nat) : Int) := by
  rw [Int32.toInt_mul, hy, show (500 : Int32).toInt = 500 from rfl]
  exact Int.bmod_eq_of_le (by show (-2147483648 : Int) ≤ 500 * (q : Int); omega) (by show 500 * (q : Int) < (2147483648 : Int); omega)
theorem zmul12 {y : Int32} {q : Nat} (hy : y.toInt = q) (hq : q < 10) : (12 * y).toInt = ((12 * q : Nat) : Int) := by
  rw [Int32.toInt_mul, hy, show (12 : Int32).toInt = 12 from rfl]
  exact Int.bmod_eq_of_le (by show (-2147483648 : Int) ≤ 12 * (q : Int); omega) (by show 12 * (q : Int) < (2147483648 : Int); omega)
theorem vOf_n {W : Nat → Int64} {y : Int32} {c : Nat} (h : c < 100000) (hy : y.toInt = c) : vOf W c = y.toInt64 := by
  unfold vOf
  rw [if_neg (by omega)]
  have e : Int32.ofNat c = y := Int32.toInt_inj.mp ((yofN (by omega)).trans hy.symm)
  rw [e]
theorem vOf_w {W : Nat → Int64} {c : Nat} (h : 100000 ≤ c) : vOf W c = W (c - 100000) := if_pos h
theorem f_valueOf {G : zG} (hG : G.1 = zProg) {h : zH} {y : Int32} {c : Nat} (hs : tSh h) (h52 : tN h 52 = 12) (hy : y.toInt = c) (hc : c < 100012) : tC zTt G 69 [.ref 48, .int y] h (fun w h2 => w = some (.long (vOf (tJ h 52) c)) ∧ h2 = h) := by
  refine tC_in (by rw [hG]; rfl) (fun dp => ?_)
  have hd : (y - 100000).toInt = (c : Int) - 100000 := zsbM hy rfl (by omega) (by decide)
  have h12 : (Int32.ofNat (tN h 52)).toInt = 12 := by rw [h52]; rfl
  refine tw_iload rfl rfl ?_
  refine tw_push rfl ?_
  refine tw_isub rfl ?_
  refine tw_istore rfl ?_
  refine tw_iload rfl rfl ?_
  refine tw_if_lt rfl (fun q928 => ?_) (fun q928 => ?_)
  · try dsimp only [tvI_i, tvJ_j, tvR_r] at q928
    refine tw_iload rfl rfl ?_
    refine tw_i2l rfl ?_
    exact tw_lret rfl ⟨by rw [vOf_n (by omega) hy]; rfl, rfl⟩
  · try dsimp only [tvI_i, tvJ_j, tvR_r] at q928
    refine tw_iload rfl rfl ?_
    refine tw_aload rfl rfl ?_
    refine tw_getS rfl (hs_48_4 hs) ?_
    refine tw_alen rfl ?_
    refine tw_ic_ge rfl (fun q929 => ?_) (fun q929 => ?_)
    · try dsimp only [tvI_i, tvJ_j, tvR_r] at q929
      exfalso
      omega
    · try dsimp only [tvI_i, tvJ_j, tvR_r] at q929
      refine tw_aload rfl rfl ?_
      refine tw_getS rfl (hs_48_4 hs) ?_
      refine tw_iload rfl rfl ?_
      refine tw_lald rfl (fun f930 => ?_)
      refine tw_goto rfl ?_
      have e9 : (y - 100000).toNatClampNeg = c - 100000 := zof_cl (by omega)
      exact tw_lret rfl ⟨congrArg (fun z => some (Value.long z)) (show tJ h 52 (y - 100000).toNatClampNeg = _ from by rw [e9, vOf_w (by omega)]), rfl⟩
theorem f_join {G : zG} (hG : G.1 = zProg) {h : zH} {y : Int32} {c : Nat} {a b : Int64} (hy : y.toInt = c) (h1 : 100100 ≤ c) (h2 : c < 100110) : tC zTt G 70 [.int y, .long a, .long b] h (fun w h2 => w = some (.long (jo c a b)) ∧ h2 = h) := by
  refine tC_in (by rw [hG]; rfl) (fun dp => ?_)
  refine tw_iload rfl rfl ?_
  refine tw_table rfl (fun q931 => ?_) (fun t9 q931a q931b q931c => ?_)
  · try dsimp only [tvI_i, tvJ_j, tvR_r] at q931
    exfalso
    omega
  · have q931d : (tvI (.int y)).toInt = 100100 ∨ (tvI (.int y)).toInt = 100101 ∨ (tvI (.int y)).toInt = 100102 ∨ (tvI (.int y)).toInt = 100103 ∨ (tvI (.int y)).toInt = 100104 ∨ (tvI (.int y)).toInt = 100105 ∨ (tvI (.int y)).toInt = 100106 ∨ (tvI (.int y)).toInt = 100107 ∨ (tvI (.int y)).toInt = 100108 ∨ (tvI (.int y)).toInt = 100109 := by omega
    rcases q931d with q931 | q931 | q931 | q931 | q931 | q931 | q931 | q931 | q931 | q931
    · obtain rfl : t9 = 56 := by rw [q931] at q931c; exact Option.some.inj (q931c.symm.trans rfl)
      try dsimp only [tvI_i, tvJ_j, tvR_r] at q931
      refine tw_lload rfl rfl ?_
      refine tw_lload rfl rfl ?_
      refine tw_ladd rfl ?_
      obtain rfl : c = 100100 := by omega
      exact tw_lret rfl ⟨rfl, rfl⟩
    · obtain rfl : t9 = 60 := by rw [q931] at q931c; exact Option.some.inj (q931c.symm.trans rfl)
      try dsimp only [tvI_i, tvJ_j, tvR_r] at q931
      refine tw_lload rfl rfl ?_
      refine tw_lload rfl rfl ?_
      refine tw_lsub rfl ?_
      obtain rfl : c = 100101 := by omega
      exact tw_lret rfl ⟨rfl, rfl⟩
    · obtain rfl : t9 = 64 := by rw [q931] at q931c; exact Option.some.inj (q931c.symm.trans rfl)
      try dsimp only [tvI_i, tvJ_j, tvR_r] at q931
      refine tw_lload rfl rfl ?_
      refine tw_lload rfl rfl ?_
      refine tw_lmul rfl ?_
      obtain rfl : c = 100102 := by omega
      exact tw_lret rfl ⟨rfl, rfl⟩
    · obtain rfl : t9 = 76 := by rw [q931] at q931c; exact Option.some.inj (q931c.symm.trans rfl)
      try dsimp only [tvI_i, tvJ_j, tvR_r] at q931
      refine tw_lload rfl rfl ?_
      refine tw_lload rfl rfl ?_
      refine tw_lc_ge rfl rfl (fun q932 => ?_) (fun q932 => ?_)
      · try dsimp only [tvI_i, tvJ_j, tvR_r] at q932
        refine tw_push rfl ?_
        obtain rfl : c = 100103 := by omega
        exact tw_lret rfl ⟨congrArg (fun z => some (Value.long z)) (b64_0 (p := a.toInt < b.toInt) (by omega)).symm, rfl⟩
      · try dsimp only [tvI_i, tvJ_j, tvR_r] at q932
        refine tw_push rfl ?_
        refine tw_goto rfl ?_
        obtain rfl : c = 100103 := by omega
        exact tw_lret rfl ⟨congrArg (fun z => some (Value.long z)) (b64_1 (p := a.toInt < b.toInt) (by omega)).symm, rfl⟩
    · obtain rfl : t9 = 88 := by rw [q931] at q931c; exact Option.some.inj (q931c.symm.trans rfl)
      try dsimp only [tvI_i, tvJ_j, tvR_r] at q931
      refine tw_lload rfl rfl ?_
      refine tw_lload rfl rfl ?_
      refine tw_lc_gt rfl rfl (fun q933 => ?_) (fun q933 => ?_)
      · try dsimp only [tvI_i, tvJ_j, tvR_r] at q933
        refine tw_push rfl ?_
        obtain rfl : c = 100104 := by omega
        exact tw_lret rfl ⟨congrArg (fun z => some (Value.long z)) (b64_0 (p := a.toInt ≤ b.toInt) (by omega)).symm, rfl⟩
      · try dsimp only [tvI_i, tvJ_j, tvR_r] at q933
        refine tw_push rfl ?_
        refine tw_goto rfl ?_
        obtain rfl : c = 100104 := by omega
        exact tw_lret rfl ⟨congrArg (fun z => some (Value.long z)) (b64_1 (p := a.toInt ≤ b.toInt) (by omega)).symm, rfl⟩
    · obtain rfl : t9 = 100 := by rw [q931] at q931c; exact Option.some.inj (q931c.symm.trans rfl)
      try dsimp only [tvI_i, tvJ_j, tvR_r] at q931
      refine tw_lload rfl rfl ?_
      refine tw_lload rfl rfl ?_
      refine tw_lc_ne rfl rfl (fun q934 => ?_) (fun q934 => ?_)
      · try dsimp only [tvI_i, tvJ_j, tvR_r] at q934
        refine tw_push rfl ?_
        obtain rfl : c = 100105 := by omega
        exact tw_lret rfl ⟨congrArg (fun z => some (Value.long z)) (b64_0 (p := a = b) q934).symm, rfl⟩
      · try dsimp only [tvI_i, tvJ_j, tvR_r] at q934
        refine tw_push rfl ?_
        refine tw_goto rfl ?_
        obtain rfl : c = 100105 := by omega
        exact tw_lret rfl ⟨congrArg (fun z => some (Value.long z)) (b64_1 (p := a = b) q934).symm, rfl⟩
    · obtain rfl : t9 = 112 := by rw [q931] at q931c; exact Option.some.inj (q931c.symm.trans rfl)
      try dsimp only [tvI_i, tvJ_j, tvR_r] at q931
      refine tw_lload rfl rfl ?_
      refine tw_lload rfl rfl ?_
      refine tw_lc_lt rfl rfl (fun q935 => ?_) (fun q935 => ?_)
      · try dsimp only [tvI_i, tvJ_j, tvR_r] at q935
        refine tw_push rfl ?_
        obtain rfl : c = 100106 := by omega
        exact tw_lret rfl ⟨congrArg (fun z => some (Value.long z)) (b64_0 (p := b.toInt ≤ a.toInt) (by omega)).symm, rfl⟩
      · try dsimp only [tvI_i, tvJ_j, tvR_r] at q935
        refine tw_push rfl ?_
        refine tw_goto rfl ?_
        obtain rfl : c = 100106 := by omega
        exact tw_lret rfl ⟨congrArg (fun z => some (Value.long z)) (b64_1 (p := b.toInt ≤ a.toInt) (by omega)).symm, rfl⟩
    · obtain rfl : t9 = 124 := by rw [q931] at q931c; exact Option.some.inj (q931c.symm.trans rfl)
      try dsimp only [tvI_i, tvJ_j, tvR_r] at q931
      refine tw_lload rfl rfl ?_
      refine tw_lload rfl rfl ?_
      refine tw_lc_le rfl rfl (fun q936 => ?_) (fun q936 => ?_)
      · try dsimp only [tvI_i, tvJ_j, tvR_r] at q936
        refine tw_push rfl ?_
        obtain rfl : c = 100107 := by omega
        exact tw_lret rfl ⟨congrArg (fun z => some (Value.long z)) (b64_0 (p := b.toInt < a.toInt) (by omega)).symm, rfl⟩
      · try dsimp only [tvI_i, tvJ_j, tvR_r] at q936
        refine tw_push rfl ?_
        refine tw_goto rfl ?_
        obtain rfl : c = 100107 := by omega
        exact tw_lret rfl ⟨congrArg (fun z => some (Value.long z)) (b64_1 (p := b.toInt < a.toInt) (by omega)).symm, rfl⟩
    · obtain rfl : t9 = 68 := by rw [q931] at q931c; exact Option.some.inj (q931c.symm.trans rfl)
      try dsimp only [tvI_i, tvJ_j, tvR_r] at q931
      refine tw_lload rfl rfl ?_
      refine tw_lload rfl rfl ?_
      refine tw_lor rfl ?_
      obtain rfl : c = 100108 := by omega
      exact tw_lret rfl ⟨rfl, rfl⟩
    · obtain rfl : t9 = 72 := by rw [q931] at q931c; exact Option.some.inj (q931c.symm.trans rfl)
      try dsimp only [tvI_i, tvJ_j, tvR_r] at q931
      refine tw_lload rfl rfl ?_
      refine tw_lload rfl rfl ?_
      refine tw_land rfl ?_
      obtain rfl : c = 100109 := by omega
      exact tw_lret rfl ⟨rfl, rfl⟩
theorem zdecM {x : Int32} {a : Nat} (hx : x.toInt = a) (h : 1 ≤ a) (ha : a ≤ 1000000) : (x + (-1)).toInt = (a : Int) - 1 := by
  rw [Int32.toInt_add, hx, show (-1 : Int32).toInt = -1 from rfl]
  exact Int.bmod_eq_of_le (by show (-2147483648 : Int) ≤ (a : Int) + -1; omega) (by show (a : Int) + -1 < (2147483648 : Int); omega)
theorem f_work {G : zG} (hG : G.1 = zProg) {h : zH} {a b : Nat} {x y : Int32} {e : List Nat} {t : Bool} (hs : tSh h) (h52 : tN h 52 = 12) (h53 : tN h 53 = 80) (hx : x.toInt = b) (hy : y.toInt = ((b + e.length : Nat) : Int)) (hN : b + e.length ≤ tN h a ∧ tN h a ≤ 400) (hv : ∀ i, i < tN h a → 0 ≤ (tA h a i).toInt) (hc : cdAt (fun i => (tA h a i).toNatClampNeg) b e) (ht : tyL [] e = some [t]) (hn : nVl e ≤ 80) : tC zTt G 68 [.ref 48, .ref a, .int x, .int y] h (fun w h2 => w = some (.long (wv (tJ h 52) e)) ∧ wFr 53 h h2) := by
  refine tC_in (by rw [hG]; rfl) (fun dp => ?_)
  refine tw_push rfl ?_
  refine tw_istore rfl ?_
  refine tw_iload rfl rfl ?_
  refine tw_istore rfl ?_
  refine tG_loop (zW_mono zTt G dp) (zW_conj zTt G dp) (V := fun pc L st h9 _ _ => pc = 6 ∧ st = [] ∧ ∃ (h1 : zH) (k top : Nat) (z u : Int32) (e2 : List Nat) (X : List Int64) (S : List Bool) (l6 : Option Value), h1 = h9 ∧ wFr 53 h h1 ∧ z.toInt = k ∧ u.toInt = top ∧ k + e2.length = b + e.length ∧ evA (tJ h 52) (fun i => (tA h a i).toNatClampNeg) (tJ h1 53) [wv (tJ h 52) e] k top e2 X S ∧ L = [some (.ref 48), some (.ref a), some (.int x), some (.int y), some (.int u), some (.int z), l6]) ?_ (⟨rfl, rfl, h, b, 0, x, 0, e, [], [], _, rfl, wFr_r hs, hx, rfl, rfl, evA_0 hc ht hn, rfl⟩)
  rintro _ _ _ _ _ _ ⟨rfl, rfl, h1, k, top, z, u, e2, X, S, l6, rfl, hF, hz, hu, hke, hE, rfl⟩
  have k19 : (1 : Int32).toInt = 1 := rfl
  have k29 : (100100 : Int32).toInt = 100100 := rfl
  have h80 : (Int32.ofNat (tN h1 53)).toInt = 80 := by rw [hF.2.2.2.2.1, h53]; rfl
  have hla : (Int32.ofNat (tN h1 a)).toInt = tN h a := by rw [hF.2.2.2.2.1]; exact yofN (by omega)
  refine tw_iload rfl rfl ?_
  refine tw_iload rfl rfl ?_
  refine tw_ic_ge rfl (fun q937 => ?_) (fun q937 => ?_)
  · try dsimp only [tvI_i, tvJ_j, tvR_r] at q937
    refine tw_iload rfl rfl ?_
    refine tw_if_le rfl (fun q938 => ?_) (fun q938 => ?_)
    · try dsimp only [tvI_i, tvJ_j, tvR_r] at q938
      exfalso
      have e2n : e2 = [] := List.length_eq_zero_iff.mp (by omega)
      subst e2n
      have y1 := evA_e hE
      omega
    · try dsimp only [tvI_i, tvJ_j, tvR_r] at q938
      refine tw_aload rfl rfl ?_
      refine tw_getS rfl (hs_48_5 hF.1) ?_
      refine tw_push rfl ?_
      refine tw_lald rfl (fun f939 => ?_)
      refine tw_goto rfl ?_
      have e2n : e2 = [] := List.length_eq_zero_iff.mp (by omega)
      subst e2n
      have y1 := evA_e hE
      exact tw_lret rfl ⟨congrArg (fun z => some (Value.long z)) (show tJ h1 53 0 = _ from y1.2), hF⟩
  · try dsimp only [tvI_i, tvJ_j, tvR_r] at q937
    refine tw_iload rfl rfl ?_
    refine tw_aload rfl rfl ?_
    refine tw_alen rfl ?_
    refine tw_ic_ge rfl (fun q940 => ?_) (fun q940 => ?_)
    · try dsimp only [tvI_i, tvJ_j, tvR_r] at q940
      exfalso
      omega
    · try dsimp only [tvI_i, tvJ_j, tvR_r] at q940
      rcases e2 with _ | ⟨c, e3⟩
      · exfalso; have hke : k + 0 = b + e.length := hke; omega
      have hke : k + (e3.length + 1) = b + e.length := hke
      have hcl : (tA h a k).toNatClampNeg = c := hE.at_.1
      have hcv : (tA h1 a z.toNatClampNeg).toInt = (c : Int) := by rw [hF.2.2.1, zof_cl hz]; have y1 := hv k (by omega); rw [zclE] at hcl; omega
      have hc0 : (tA h1 a z.toNatClampNeg).toInt = (c : Int) := hcv
      have h79 : top ≤ 80 := by have y1 := hE.few; have y2 := hE.len; omega
      refine tw_aload rfl rfl ?_
      refine tw_iload rfl rfl ?_
      refine tw_iald rfl (fun f941 => ?_)
      refine tw_istore rfl ?_
      refine tw_iload rfl rfl ?_
      refine tw_push rfl ?_
      refine tw_ic_ge rfl (fun q942 => ?_) (fun q942 => ?_)
      · try dsimp only [tvI_i, tvJ_j, tvR_r] at q942
        refine tw_iload rfl rfl ?_
        refine tw_push rfl ?_
        refine tw_ic_ne rfl (fun q943 => ?_) (fun q943 => ?_)
        · try dsimp only [tvI_i, tvJ_j, tvR_r] at q943
          have q943i := zneq (Y := 100110) (by decide) q943
          refine tw_iload rfl rfl ?_
          refine tw_push rfl ?_
          refine tw_ic_le rfl (fun q944 => ?_) (fun q944 => ?_)
          · try dsimp only [tvI_i, tvJ_j, tvR_r] at q944
            exfalso
            have y1 := (evA_j hE (by omega) (by omega)).1
            omega
          · try dsimp only [tvI_i, tvJ_j, tvR_r] at q944
            obtain ⟨y0, y1, y2, -, X2, S2, E2⟩ := evA_j hE (by omega) (by omega)
            have hd1 : (u + (-1)).toInt = ((top - 1 : Nat) : Int) := (zdecM hu (by omega) (by omega)).trans (by omega)
            have hd2 : (u + (-1) - 1).toNatClampNeg = top - 2 := zof_cl ((zsbM (b := 1) hd1 rfl (by omega) (by decide)).trans (by omega))
            have hd3 : (u + (-1)).toNatClampNeg = top - 1 := zof_cl hd1
            refine tw_iinc rfl rfl ?_
            refine tw_aload rfl rfl ?_
            refine tw_getS rfl (hs_48_5 hF.1) ?_
            refine tw_iload rfl rfl ?_
            refine tw_push rfl ?_
            refine tw_isub rfl ?_
            refine tw_iload rfl rfl ?_
            refine tw_aload rfl rfl ?_
            refine tw_getS rfl (hs_48_5 hF.1) ?_
            refine tw_iload rfl rfl ?_
            refine tw_push rfl ?_
            refine tw_isub rfl ?_
            refine tw_lald rfl (fun f945 => ?_)
            refine tw_aload rfl rfl ?_
            refine tw_getS rfl (hs_48_5 hF.1) ?_
            refine tw_iload rfl rfl ?_
            refine tw_lald rfl (fun f946 => ?_)
            refine tw_stat3 rfl (f_join hG hcv (by omega) (by omega)) (fun w9 h9 p947 => ?_)
            obtain ⟨rfl, e9⟩ := p947
            obtain rfl := e9.symm
            refine tw_last rfl (fun f948 => ?_)
            refine tG_lst f948 hF.1 (fun h3 a3 => ?_)
            try dsimp only [tvI_i, tvJ_j, tvR_r] at a3
            have hF3 := wFr_s hF a3
            refine tw_iinc rfl rfl ?_
            refine tw_goto rfl ?_
            have hk1 : (z + 1).toInt = ((k + 1 : Nat) : Int) := zincN hz (by omega)
            have hkl : k + 1 + e3.length = b + e.length := by omega
            rw [hd2, hd3] at a3
            have E3 : evA (tJ h 52) (fun i => (tA h a i).toNatClampNeg) (tJ h3 53) [wv (tJ h 52) e] (k + 1) (top - 1) e3 X2 S2 := by rw [mJs_g a3 rfl]; exact E2
            exact tG_cut (zW_mono zTt G dp) (Or.inr ⟨rfl, rfl, h3, k + 1, top - 1, z + 1, u + (-1), e3, X2, S2, _, rfl, hF3, hk1, hd1, hkl, E3, rfl⟩)
        · try dsimp only [tvI_i, tvJ_j, tvR_r] at q943
          have q943i := zeqi (Y := 100110) (by decide) q943
          refine tw_iload rfl rfl ?_
          refine tw_if_le rfl (fun q949 => ?_) (fun q949 => ?_)
          · try dsimp only [tvI_i, tvJ_j, tvR_r] at q949
            exfalso
            have y1 := (evA_n hE (by omega)).1
            omega
          · try dsimp only [tvI_i, tvJ_j, tvR_r] at q949
            obtain ⟨y0, -, X2, S2, E2⟩ := evA_n hE (by omega)
            have hu1 : (u - 1).toNatClampNeg = top - 1 := zof_cl ((zsbM (b := 1) hu rfl (by omega) (by decide)).trans (by omega))
            refine tw_aload rfl rfl ?_
            refine tw_getS rfl (hs_48_5 hF.1) ?_
            refine tw_iload rfl rfl ?_
            refine tw_push rfl ?_
            refine tw_isub rfl ?_
            refine tw_push rfl ?_
            refine tw_aload rfl rfl ?_
            refine tw_getS rfl (hs_48_5 hF.1) ?_
            refine tw_iload rfl rfl ?_
            refine tw_push rfl ?_
            refine tw_isub rfl ?_
            refine tw_lald rfl (fun f950 => ?_)
            refine tw_lsub rfl ?_
            refine tw_last rfl (fun f951 => ?_)
            refine tG_lst f951 hF.1 (fun h3 a3 => ?_)
            try dsimp only [tvI_i, tvJ_j, tvR_r] at a3
            have hF3 := wFr_s hF a3
            refine tw_goto rfl ?_
            refine tw_iinc rfl rfl ?_
            refine tw_goto rfl ?_
            have hk1 : (z + 1).toInt = ((k + 1 : Nat) : Int) := zincN hz (by omega)
            have hkl : k + 1 + e3.length = b + e.length := by omega
            rw [hu1] at a3
            have E3 : evA (tJ h 52) (fun i => (tA h a i).toNatClampNeg) (tJ h3 53) [wv (tJ h 52) e] (k + 1) top e3 X2 S2 := by rw [mJs_g a3 rfl]; exact E2
            exact tG_cut (zW_mono zTt G dp) (Or.inr ⟨rfl, rfl, h3, k + 1, top, z + 1, u, e3, X2, S2, _, rfl, hF3, hk1, hu, hkl, E3, rfl⟩)
      · try dsimp only [tvI_i, tvJ_j, tvR_r] at q942
        refine tw_iload rfl rfl ?_
        refine tw_aload rfl rfl ?_
        refine tw_getS rfl (hs_48_5 hF.1) ?_
        refine tw_alen rfl ?_
        refine tw_ic_ge rfl (fun q952 => ?_) (fun q952 => ?_)
        · try dsimp only [tvI_i, tvJ_j, tvR_r] at q952
          exfalso
          have y1 := (evA_v hE (by omega)).1
          omega
        · try dsimp only [tvI_i, tvJ_j, tvR_r] at q952
          obtain ⟨y80, y12, X2, S2, E2⟩ := evA_v hE (by omega)
          refine tw_aload rfl rfl ?_
          refine tw_getS rfl (hs_48_5 hF.1) ?_
          refine tw_iload rfl rfl ?_
          refine tw_aload rfl rfl ?_
          refine tw_iload rfl rfl ?_
          refine tw_virt1 rfl (f_valueOf hG hF.1 (by rw [hF.2.2.2.2.1]; exact h52) hcv y12) (fun w9 h9 p953 => ?_)
          obtain ⟨rfl, e9⟩ := p953
          obtain rfl := e9.symm
          refine tw_last rfl (fun f954 => ?_)
          refine tG_lst f954 hF.1 (fun h3 a3 => ?_)
          try dsimp only [tvI_i, tvJ_j, tvR_r] at a3
          have hF3 := wFr_s hF a3
          refine tw_iinc rfl rfl ?_
          refine tw_goto rfl ?_
          refine tw_iinc rfl rfl ?_
          refine tw_goto rfl ?_
          have hk1 : (z + 1).toInt = ((k + 1 : Nat) : Int) := zincN hz (by omega)
          have hkl : k + 1 + e3.length = b + e.length := by omega
          rw [zof_cl hu, hF.2.2.2.2.2 52 (by decide)] at a3
          have E3 : evA (tJ h 52) (fun i => (tA h a i).toNatClampNeg) (tJ h3 53) [wv (tJ h 52) e] (k + 1) (top + 1) e3 X2 S2 := by rw [mJs_g a3 rfl]; exact E2
          exact tG_cut (zW_mono zTt G dp) (Or.inr ⟨rfl, rfl, h3, k + 1, top + 1, z + 1, u + 1, e3, X2, S2, _, rfl, hF3, hk1, zincN hu (by omega), hkl, E3, rfl⟩)
theorem f_firstTrue {G : zG} (hG : G.1 = zProg) {h : zH} {a b q K th : Nat} {y t : Int32} {cs : List Nat} {cl : Nat → rCt} (hs : tSh h) (h52 : tN h 52 = 12) (h53 : tN h 53 = 80) (D : rDt h a b K cs cl) (hy : y.toInt = q) (hq : (q : Int) < (tvI (tF h 48 3)).toInt) (h50 : tO h 50 q = some a) (h51 : tO h 51 q = some b) (ht : t.toInt = th) : tC zTt G 66 [.ref 48, .int y, .int t] h (fun w h2 => wFr 53 h h2 ∧ fTr (tJ h 52) cs cl K th (fun i => 4 * i) w) := by
  refine tC_in (by rw [hG]; rfl) (fun dp => ?_)
  have hyq : y.toNatClampNeg = q := zof_cl hy
  have o50 : ∀ h1, wFr 53 h h1 → zrf (tO h1 50 y.toNatClampNeg) = .ref a := fun h1 k => by rw [k.2.2.2.1, hyq, h50]; rfl
  have o51 : zrf (tO h 51 y.toNatClampNeg) = .ref b := by rw [hyq, h51]; rfl
  refine tw_iload rfl rfl ?_
  refine tw_if_lt rfl (fun q955 => ?_) (fun q955 => ?_)
  · try dsimp only [tvI_i, tvJ_j, tvR_r] at q955
    exfalso
    omega
  · try dsimp only [tvI_i, tvJ_j, tvR_r] at q955
    refine tw_iload rfl rfl ?_
    refine tw_aload rfl rfl ?_
    refine tw_getS rfl (hi_48_3 hs) ?_
    refine tw_ic_lt rfl (fun q956 => ?_) (fun q956 => ?_)
    · try dsimp only [tvI_i, tvJ_j, tvR_r] at q956
      refine tw_aload rfl rfl ?_
      refine tw_getS rfl (hs_48_2 hs) ?_
      refine tw_iload rfl rfl ?_
      refine tw_aaldS rfl (fun _ => o51) ?_
      refine tw_astore rfl ?_
      refine tw_push rfl ?_
      refine tw_istore rfl ?_
      refine tG_loop (zW_mono zTt G dp) (zW_conj zTt G dp) (V := fun pc L st h9 _ _ => pc = 24 ∧ st = [] ∧ ∃ (h1 : zH) (i : Nat) (x : Int32) (l5 : Option Value), h1 = h9 ∧ wFr 53 h h1 ∧ i ≤ K ∧ x.toInt = ((4 * i : Nat) : Int) ∧ (∀ j, j < i → ¬ hit (tJ h 52) cs (cl j) th) ∧ L = [some (.ref 48), some (.int y), some (.int t), some (.ref b), some (.int x), l5]) ?_ (⟨rfl, rfl, h, 0, 0, _, rfl, wFr_r hs, Nat.zero_le _, rfl, fun j hj => absurd hj (Nat.not_lt_zero _), rfl⟩)
      rintro _ _ _ _ _ _ ⟨rfl, rfl, h1, i, x, l5, rfl, hF, hiK, hx, hall, rfl⟩
      have hlb : (Int32.ofNat (tN h1 b)).toInt = ((4 * K : Nat) : Int) := by rw [hF.2.2.2.2.1, D.len]; exact yofN (by have := D.few; omega)
      have hx4 : (x + 4).toInt = ((4 * i + 4 : Nat) : Int) := zadN (b := 4) hx rfl (by have := D.few; omega) (by decide)
      refine tw_iload rfl rfl ?_
      refine tw_push rfl ?_
      refine tw_iadd rfl ?_
      refine tw_aload rfl rfl ?_
      refine tw_alen rfl ?_
      refine tw_ic_gt rfl (fun q958 => ?_) (fun q958 => ?_)
      · try dsimp only [tvI_i, tvJ_j, tvR_r] at q958
        refine tw_push rfl ?_
        exact tw_iret rfl ⟨hF, Or.inl ⟨rfl, fun i9 h9 => hall i9 (by have y2 := hlb; omega)⟩⟩
      · try dsimp only [tvI_i, tvJ_j, tvR_r] at q958
        have hi : i < K := by have y1 := hx4; have y2 := hlb; omega
        obtain ⟨d0, d1, d2, d3⟩ := D.row i hi
        have x0 : x.toNatClampNeg = 4 * i := zof_cl hx
        have x2 : (x + 2).toNatClampNeg = 4 * i + 2 := zof_cl (zadN (b := 2) hx rfl (by have := D.few; omega) (by decide))
        have x3 : (x + 3).toNatClampNeg = 4 * i + 3 := zof_cl (zadN (b := 3) hx rfl (by have := D.few; omega) (by decide))
        have eA := hF.2.2.1
        have v0 : (tA h1 b x.toNatClampNeg).toInt = ((cl i).1 : Int) := by rw [eA, x0]; exact d0
        have v2 : (tA h1 b (x + 2).toNatClampNeg).toInt = ((cl i).2.2.1 : Int) := by rw [eA, x2]; exact d2
        have v3 : (tA h1 b (x + 3).toNatClampNeg).toInt = ((cl i).2.2.2 : Int) := by rw [eA, x3]; exact d3
        refine tw_aload rfl rfl ?_
        refine tw_iload rfl rfl ?_
        refine tw_push rfl ?_
        refine tw_iadd rfl ?_
        refine tw_iald rfl (fun f959 => ?_)
        refine tw_aload rfl rfl ?_
        refine tw_iload rfl rfl ?_
        refine tw_push rfl ?_
        refine tw_iadd rfl ?_
        refine tw_iald rfl (fun f960 => ?_)
        refine tw_ic_ne rfl (fun q961 => ?_) (fun q961 => ?_)
        · try dsimp only [tvI_i, tvJ_j, tvR_r] at q961
          have q961i := zneq rfl q961
          refine tw_push rfl ?_
          refine tw_istore rfl ?_
          refine tw_aload rfl rfl ?_
          refine tw_iload rfl rfl ?_
          refine tw_iald rfl (fun f962 => ?_)
          refine tw_iload rfl rfl ?_
          refine tw_ic_ne rfl (fun q963 => ?_) (fun q963 => ?_)
          · try dsimp only [tvI_i, tvJ_j, tvR_r] at q963
            have q963i := zneq rfl q963
            refine tw_iinc rfl rfl ?_
            refine tw_goto rfl ?_
            have hx9 : (x + 4).toInt = ((4 * (i + 1) : Nat) : Int) := (zadN (b := 4) hx rfl (by have := D.few; omega) (by decide)).trans (by omega)
            have hno : ¬ hit (tJ h 52) cs (cl i) th := (fun z => q963i (by have y1 := z.1; omega))
            exact tG_cut (zW_mono zTt G dp) (Or.inr ⟨rfl, rfl, _, i + 1, x + 4, _, rfl, hF, by omega, hx9, fun j hj => (Classical.em (j = i)).elim (fun z => by rw [z]; exact hno) (fun z => hall j (by omega)), rfl⟩)
          · try dsimp only [tvI_i, tvJ_j, tvR_r] at q963
            have q963i := zeqi rfl q963
            refine tw_iload rfl rfl ?_
            refine tw_if_ne rfl (fun z => absurd z (by decide)) (fun _ => ?_)
            refine tw_aload rfl rfl ?_
            refine tw_aload rfl rfl ?_
            refine tw_getS rfl (hs_48_1 hF.1) ?_
            refine tw_iload rfl rfl ?_
            refine tw_aaldS rfl (fun _ => o50 _ hF) ?_
            refine tw_aload rfl rfl ?_
            refine tw_iload rfl rfl ?_
            refine tw_push rfl ?_
            refine tw_iadd rfl ?_
            refine tw_iald rfl (fun f965 => ?_)
            refine tw_aload rfl rfl ?_
            refine tw_iload rfl rfl ?_
            refine tw_push rfl ?_
            refine tw_iadd rfl ?_
            refine tw_iald rfl (fun f966 => ?_)
            obtain ⟨s1, s2, s3, s4, p, qq, s5, s6⟩ := rOk_t (D.ok i hi) D.nv (fun z => q961 (Int32.toInt_inj.mp (by omega)))
            refine tw_virt3 rfl (f_work hG hF.1 (by rw [hF.2.2.2.2.1]; exact h52) (by rw [hF.2.2.2.2.1]; exact h53) v2 (e := slc cs (cl i).2.2.1 (cl i).2.2.2) (t := true) (v3.trans (congrArg Nat.cast s1)) ⟨by rw [← s1, hF.2.2.2.2.1, ← cs_len D.arr]; exact s2, by rw [hF.2.2.2.2.1]; exact D.big⟩ (by rw [hF.2.2.2.2.1, hF.2.2.1]; exact D.pos) (by rw [hF.2.2.1]; exact cdAt_c D.arr s6 s5) s3 s4) (fun wp967 hp967 p967 => ?_)
            obtain ⟨rfl, Fp967⟩ := p967
            have hF2 := wFr_t hF Fp967
            rw [hF.2.2.2.2.2 52 (by decide)]
            refine tw_push rfl ?_
            refine tw_lc_eq rfl rfl (fun q968 => ?_) (fun q968 => ?_)
            · try dsimp only [tvI_i, tvJ_j, tvR_r] at q968
              refine tw_iinc rfl rfl ?_
              refine tw_goto rfl ?_
              have hx9 : (x + 4).toInt = ((4 * (i + 1) : Nat) : Int) := (zadN (b := 4) hx rfl (by have := D.few; omega) (by decide)).trans (by omega)
              have s0 : ¬ (cl i).2.2.1 = (cl i).2.2.2 := fun z => q961 (Int32.toInt_inj.mp (by omega))
              have hno : ¬ hit (tJ h 52) cs (cl i) th := (fun z => z.2.elim (fun y => s0 y) (fun y => y q968))
              exact tG_cut (zW_mono zTt G dp) (Or.inr ⟨rfl, rfl, _, i + 1, x + 4, _, rfl, hF2, by omega, hx9, fun j hj => (Classical.em (j = i)).elim (fun z => by rw [z]; exact hno) (fun z => hall j (by omega)), rfl⟩)
            · try dsimp only [tvI_i, tvJ_j, tvR_r] at q968
              refine tw_iload rfl rfl ?_
              exact tw_iret rfl ⟨hF2, Or.inr ⟨i, hi, ⟨by have y1 := q963i; omega, Or.inr q968⟩, hall, _, rfl, hx⟩⟩
        · try dsimp only [tvI_i, tvJ_j, tvR_r] at q961
          have q961i := zeqi rfl q961
          refine tw_push rfl ?_
          refine tw_goto rfl ?_
          refine tw_istore rfl ?_
          refine tw_aload rfl rfl ?_
          refine tw_iload rfl rfl ?_
          refine tw_iald rfl (fun f969 => ?_)
          refine tw_iload rfl rfl ?_
          refine tw_ic_ne rfl (fun q970 => ?_) (fun q970 => ?_)
          · try dsimp only [tvI_i, tvJ_j, tvR_r] at q970
            have q970i := zneq rfl q970
            refine tw_iinc rfl rfl ?_
            refine tw_goto rfl ?_
            have hx9 : (x + 4).toInt = ((4 * (i + 1) : Nat) : Int) := (zadN (b := 4) hx rfl (by have := D.few; omega) (by decide)).trans (by omega)
            have hno : ¬ hit (tJ h 52) cs (cl i) th := (fun z => q970i (by have y1 := z.1; omega))
            exact tG_cut (zW_mono zTt G dp) (Or.inr ⟨rfl, rfl, _, i + 1, x + 4, _, rfl, hF, by omega, hx9, fun j hj => (Classical.em (j = i)).elim (fun z => by rw [z]; exact hno) (fun z => hall j (by omega)), rfl⟩)
          · try dsimp only [tvI_i, tvJ_j, tvR_r] at q970
            have q970i := zeqi rfl q970
            refine tw_iload rfl rfl ?_
            refine tw_if_ne rfl (fun _ => ?_) (fun z => absurd z (by decide))
            refine tw_iload rfl rfl ?_
            exact tw_iret rfl ⟨hF, Or.inr ⟨i, hi, ⟨by have y1 := q970i; omega, Or.inl (by have y1 := q961i; omega)⟩, hall, _, rfl, hx⟩⟩
    · try dsimp only [tvI_i, tvJ_j, tvR_r] at q956
      exfalso
      omega
theorem f_sumOf {G : zG} (hG : G.1 = zProg) {h : zH} {a b q K i : Nat} {y x : Int32} {cs : List Nat} {cl : Nat → rCt} (hs : tSh h) (h52 : tN h 52 = 12) (h53 : tN h 53 = 80) (D : rDt h a b K cs cl) (hy : y.toInt = q) (h50 : tO h 50 q = some a) (h51 : tO h 51 q = some b) (hx : x.toInt = ((4 * i : Nat) : Int)) (hi : i < K) (h15 : (cl i).1 ≠ 15) : tC zTt G 67 [.ref 48, .int y, .int x] h (fun w h2 => w = some (.long (wv (tJ h 52) (slc cs (cl i).2.1 (cl i).2.2.1))) ∧ wFr 53 h h2) := by
  refine tC_in (by rw [hG]; rfl) (fun dp => ?_)
  have hyq : y.toNatClampNeg = q := zof_cl hy
  have o50 : zrf (tO h 50 y.toNatClampNeg) = .ref a := by rw [hyq, h50]; rfl
  have o51 : zrf (tO h 51 y.toNatClampNeg) = .ref b := by rw [hyq, h51]; rfl
  have hK := D.few
  obtain ⟨d0, d1, d2, d3⟩ := D.row i hi
  have x1 : (x + 1).toNatClampNeg = 4 * i + 1 := zof_cl (zadN (b := 1) hx rfl (by omega) (by decide))
  have x2 : (x + 2).toNatClampNeg = 4 * i + 2 := zof_cl (zadN (b := 2) hx rfl (by omega) (by decide))
  have v1 : (tA h b (x + 1).toNatClampNeg).toInt = ((cl i).2.1 : Int) := by rw [x1]; exact d1
  have v2 : (tA h b (x + 2).toNatClampNeg).toInt = ((cl i).2.2.1 : Int) := by rw [x2]; exact d2
  obtain ⟨s1, s2, s3, s4, p, qq, s5, s6⟩ := rOk_s (D.ok i hi) D.nv h15
  refine tw_aload rfl rfl ?_
  refine tw_aload rfl rfl ?_
  refine tw_getS rfl (hs_48_1 hs) ?_
  refine tw_iload rfl rfl ?_
  refine tw_aaldS rfl (fun _ => o50) ?_
  refine tw_aload rfl rfl ?_
  refine tw_getS rfl (hs_48_2 hs) ?_
  refine tw_iload rfl rfl ?_
  refine tw_aaldS rfl (fun _ => o51) ?_
  refine tw_iload rfl rfl ?_
  refine tw_push rfl ?_
  refine tw_iadd rfl ?_
  refine tw_iald rfl (fun f973 => ?_)
  refine tw_aload rfl rfl ?_
  refine tw_getS rfl (hs_48_2 hs) ?_
  refine tw_iload rfl rfl ?_
  refine tw_aaldS rfl (fun _ => o51) ?_
  refine tw_iload rfl rfl ?_
  refine tw_push rfl ?_
  refine tw_iadd rfl ?_
  refine tw_iald rfl (fun f975 => ?_)
  refine tw_virt3 rfl (f_work hG hs h52 h53 v1 (e := slc cs (cl i).2.1 (cl i).2.2.1) (t := false) (v2.trans (congrArg Nat.cast s1)) ⟨by rw [← s1, ← cs_len D.arr]; exact s2, D.big⟩ D.pos (cdAt_c D.arr s6 s5) s3 s4) (fun wp976 hp976 p976 => ?_)
  obtain ⟨rfl, Fp976⟩ := p976
  exact tw_lret rfl ⟨rfl, Fp976⟩
theorem g_truth1 {G : zG} (hG : G.1 = zProg) {h : zH} : tC zTt G 229 [.int 1] h (fun w h2 => w = some (.long 1) ∧ h2 = h) := by
  refine tC_in (by rw [hG]; rfl) (fun dp => ?_)
  refine tw_iload rfl rfl ?_
  refine tw_if_eq rfl (fun z => absurd z (by decide)) (fun _ => ?_)
  refine tw_push rfl ?_
  refine tw_goto rfl ?_
  exact tw_lret rfl ⟨rfl, rfl⟩
theorem g_truth0 {G : zG} (hG : G.1 = zProg) {h : zH} : tC zTt G 229 [.int 0] h (fun w h2 => w = some (.long 0) ∧ h2 = h) := by
  refine tC_in (by rw [hG]; rfl) (fun dp => ?_)
  refine tw_iload rfl rfl ?_
  refine tw_if_eq rfl (fun _ => ?_) (fun z => absurd z (by decide))
  refine tw_push rfl ?_
  exact tw_lret rfl ⟨rfl, rfl⟩
theorem g_two {G : zG} (hG : G.1 = zProg) {h : zH} {y : Int32} {s : Nat} {a b : Int64} (hy : y.toInt = s) (h1 : 2 ≤ s) (h2 : s ≤ 12) (h3 : s ≠ 10) : tC zTt G 230 [.int y, .long a, .long b] h (fun w h2 => w = some (.long (jp (mCode s 0) a b)) ∧ h2 = h) := by
  refine tC_in (by rw [hG]; rfl) (fun dp => ?_)
  refine tw_iload rfl rfl ?_
  refine tw_table rfl (fun q977 => ?_) (fun t9 q977a q977b q977c => ?_)
  · try dsimp only [tvI_i, tvJ_j, tvR_r] at q977
    refine tw_lload rfl rfl ?_
    refine tw_push rfl ?_
    refine tw_lc_ne rfl rfl (fun q978 => ?_) (fun q978 => ?_)
    · try dsimp only [tvI_i, tvJ_j, tvR_r] at q978
      refine tw_push rfl ?_
      refine tw_goto rfl ?_
      refine tw_stat1 rfl (g_truth1 hG) (fun w9 h9 p979 => ?_)
      obtain ⟨rfl, e9⟩ := p979
      obtain rfl := e9.symm
      obtain rfl : s = 12 := by omega
      exact tw_lret rfl ⟨congrArg (fun z => some (Value.long z)) (b64_1 (p := a ≠ 0 ∨ b ≠ 0) (Or.inl q978)).symm, rfl⟩
    · try dsimp only [tvI_i, tvJ_j, tvR_r] at q978
      refine tw_lload rfl rfl ?_
      refine tw_push rfl ?_
      refine tw_lc_eq rfl rfl (fun q980 => ?_) (fun q980 => ?_)
      · try dsimp only [tvI_i, tvJ_j, tvR_r] at q980
        refine tw_push rfl ?_
        refine tw_stat1 rfl (g_truth0 hG) (fun w9 h9 p981 => ?_)
        obtain ⟨rfl, e9⟩ := p981
        obtain rfl := e9.symm
        obtain rfl : s = 12 := by omega
        exact tw_lret rfl ⟨congrArg (fun z => some (Value.long z)) (b64_0 (p := a ≠ 0 ∨ b ≠ 0) (fun z => z.elim (fun y => y q978) (fun y => y q980))).symm, rfl⟩
      · try dsimp only [tvI_i, tvJ_j, tvR_r] at q980
        refine tw_push rfl ?_
        refine tw_goto rfl ?_
        refine tw_stat1 rfl (g_truth1 hG) (fun w9 h9 p982 => ?_)
        obtain ⟨rfl, e9⟩ := p982
        obtain rfl := e9.symm
        obtain rfl : s = 12 := by omega
        exact tw_lret rfl ⟨congrArg (fun z => some (Value.long z)) (b64_1 (p := a ≠ 0 ∨ b ≠ 0) (Or.inr q980)).symm, rfl⟩
  · have q977d : (tvI (.int y)).toInt = 2 ∨ (tvI (.int y)).toInt = 3 ∨ (tvI (.int y)).toInt = 4 ∨ (tvI (.int y)).toInt = 5 ∨ (tvI (.int y)).toInt = 6 ∨ (tvI (.int y)).toInt = 7 ∨ (tvI (.int y)).toInt = 8 ∨ (tvI (.int y)).toInt = 9 ∨ (tvI (.int y)).toInt = 10 ∨ (tvI (.int y)).toInt = 11 := by omega
    rcases q977d with q977 | q977 | q977 | q977 | q977 | q977 | q977 | q977 | q977 | q977
    · obtain rfl : t9 = 56 := by rw [q977] at q977c; exact Option.some.inj (q977c.symm.trans rfl)
      try dsimp only [tvI_i, tvJ_j, tvR_r] at q977
      refine tw_lload rfl rfl ?_
      refine tw_lload rfl rfl ?_
      refine tw_lmul rfl ?_
      obtain rfl : s = 2 := by omega
      exact tw_lret rfl ⟨rfl, rfl⟩
    · obtain rfl : t9 = 60 := by rw [q977] at q977c; exact Option.some.inj (q977c.symm.trans rfl)
      try dsimp only [tvI_i, tvJ_j, tvR_r] at q977
      refine tw_lload rfl rfl ?_
      refine tw_lload rfl rfl ?_
      refine tw_ladd rfl ?_
      obtain rfl : s = 3 := by omega
      exact tw_lret rfl ⟨rfl, rfl⟩
    · obtain rfl : t9 = 64 := by rw [q977] at q977c; exact Option.some.inj (q977c.symm.trans rfl)
      try dsimp only [tvI_i, tvJ_j, tvR_r] at q977
      refine tw_lload rfl rfl ?_
      refine tw_lload rfl rfl ?_
      refine tw_lsub rfl ?_
      obtain rfl : s = 4 := by omega
      exact tw_lret rfl ⟨rfl, rfl⟩
    · obtain rfl : t9 = 68 := by rw [q977] at q977c; exact Option.some.inj (q977c.symm.trans rfl)
      try dsimp only [tvI_i, tvJ_j, tvR_r] at q977
      refine tw_lload rfl rfl ?_
      refine tw_lload rfl rfl ?_
      refine tw_lc_ge rfl rfl (fun q983 => ?_) (fun q983 => ?_)
      · try dsimp only [tvI_i, tvJ_j, tvR_r] at q983
        refine tw_push rfl ?_
        refine tw_stat1 rfl (g_truth0 hG) (fun w9 h9 p984 => ?_)
        obtain ⟨rfl, e9⟩ := p984
        obtain rfl := e9.symm
        obtain rfl : s = 5 := by omega
        exact tw_lret rfl ⟨congrArg (fun z => some (Value.long z)) (b64_0 (p := a.toInt < b.toInt) (by omega)).symm, rfl⟩
      · try dsimp only [tvI_i, tvJ_j, tvR_r] at q983
        refine tw_push rfl ?_
        refine tw_goto rfl ?_
        refine tw_stat1 rfl (g_truth1 hG) (fun w9 h9 p985 => ?_)
        obtain ⟨rfl, e9⟩ := p985
        obtain rfl := e9.symm
        obtain rfl : s = 5 := by omega
        exact tw_lret rfl ⟨congrArg (fun z => some (Value.long z)) (b64_1 (p := a.toInt < b.toInt) (by omega)).symm, rfl⟩
    · obtain rfl : t9 = 83 := by rw [q977] at q977c; exact Option.some.inj (q977c.symm.trans rfl)
      try dsimp only [tvI_i, tvJ_j, tvR_r] at q977
      refine tw_lload rfl rfl ?_
      refine tw_lload rfl rfl ?_
      refine tw_lc_gt rfl rfl (fun q986 => ?_) (fun q986 => ?_)
      · try dsimp only [tvI_i, tvJ_j, tvR_r] at q986
        refine tw_push rfl ?_
        refine tw_stat1 rfl (g_truth0 hG) (fun w9 h9 p987 => ?_)
        obtain ⟨rfl, e9⟩ := p987
        obtain rfl := e9.symm
        obtain rfl : s = 6 := by omega
        exact tw_lret rfl ⟨congrArg (fun z => some (Value.long z)) (b64_0 (p := a.toInt ≤ b.toInt) (by omega)).symm, rfl⟩
      · try dsimp only [tvI_i, tvJ_j, tvR_r] at q986
        refine tw_push rfl ?_
        refine tw_goto rfl ?_
        refine tw_stat1 rfl (g_truth1 hG) (fun w9 h9 p988 => ?_)
        obtain ⟨rfl, e9⟩ := p988
        obtain rfl := e9.symm
        obtain rfl : s = 6 := by omega
        exact tw_lret rfl ⟨congrArg (fun z => some (Value.long z)) (b64_1 (p := a.toInt ≤ b.toInt) (by omega)).symm, rfl⟩
    · obtain rfl : t9 = 98 := by rw [q977] at q977c; exact Option.some.inj (q977c.symm.trans rfl)
      try dsimp only [tvI_i, tvJ_j, tvR_r] at q977
      refine tw_lload rfl rfl ?_
      refine tw_lload rfl rfl ?_
      refine tw_lc_ne rfl rfl (fun q989 => ?_) (fun q989 => ?_)
      · try dsimp only [tvI_i, tvJ_j, tvR_r] at q989
        refine tw_push rfl ?_
        refine tw_stat1 rfl (g_truth0 hG) (fun w9 h9 p990 => ?_)
        obtain ⟨rfl, e9⟩ := p990
        obtain rfl := e9.symm
        obtain rfl : s = 7 := by omega
        exact tw_lret rfl ⟨congrArg (fun z => some (Value.long z)) (b64_0 (p := a = b) q989).symm, rfl⟩
      · try dsimp only [tvI_i, tvJ_j, tvR_r] at q989
        refine tw_push rfl ?_
        refine tw_goto rfl ?_
        refine tw_stat1 rfl (g_truth1 hG) (fun w9 h9 p991 => ?_)
        obtain ⟨rfl, e9⟩ := p991
        obtain rfl := e9.symm
        obtain rfl : s = 7 := by omega
        exact tw_lret rfl ⟨congrArg (fun z => some (Value.long z)) (b64_1 (p := a = b) q989).symm, rfl⟩
    · obtain rfl : t9 = 113 := by rw [q977] at q977c; exact Option.some.inj (q977c.symm.trans rfl)
      try dsimp only [tvI_i, tvJ_j, tvR_r] at q977
      refine tw_lload rfl rfl ?_
      refine tw_lload rfl rfl ?_
      refine tw_lc_lt rfl rfl (fun q992 => ?_) (fun q992 => ?_)
      · try dsimp only [tvI_i, tvJ_j, tvR_r] at q992
        refine tw_push rfl ?_
        refine tw_stat1 rfl (g_truth0 hG) (fun w9 h9 p993 => ?_)
        obtain ⟨rfl, e9⟩ := p993
        obtain rfl := e9.symm
        obtain rfl : s = 8 := by omega
        exact tw_lret rfl ⟨congrArg (fun z => some (Value.long z)) (b64_0 (p := b.toInt ≤ a.toInt) (by omega)).symm, rfl⟩
      · try dsimp only [tvI_i, tvJ_j, tvR_r] at q992
        refine tw_push rfl ?_
        refine tw_goto rfl ?_
        refine tw_stat1 rfl (g_truth1 hG) (fun w9 h9 p994 => ?_)
        obtain ⟨rfl, e9⟩ := p994
        obtain rfl := e9.symm
        obtain rfl : s = 8 := by omega
        exact tw_lret rfl ⟨congrArg (fun z => some (Value.long z)) (b64_1 (p := b.toInt ≤ a.toInt) (by omega)).symm, rfl⟩
    · obtain rfl : t9 = 128 := by rw [q977] at q977c; exact Option.some.inj (q977c.symm.trans rfl)
      try dsimp only [tvI_i, tvJ_j, tvR_r] at q977
      refine tw_lload rfl rfl ?_
      refine tw_lload rfl rfl ?_
      refine tw_lc_le rfl rfl (fun q995 => ?_) (fun q995 => ?_)
      · try dsimp only [tvI_i, tvJ_j, tvR_r] at q995
        refine tw_push rfl ?_
        refine tw_stat1 rfl (g_truth0 hG) (fun w9 h9 p996 => ?_)
        obtain ⟨rfl, e9⟩ := p996
        obtain rfl := e9.symm
        obtain rfl : s = 9 := by omega
        exact tw_lret rfl ⟨congrArg (fun z => some (Value.long z)) (b64_0 (p := b.toInt < a.toInt) (by omega)).symm, rfl⟩
      · try dsimp only [tvI_i, tvJ_j, tvR_r] at q995
        refine tw_push rfl ?_
        refine tw_goto rfl ?_
        refine tw_stat1 rfl (g_truth1 hG) (fun w9 h9 p997 => ?_)
        obtain ⟨rfl, e9⟩ := p997
        obtain rfl := e9.symm
        obtain rfl : s = 9 := by omega
        exact tw_lret rfl ⟨congrArg (fun z => some (Value.long z)) (b64_1 (p := b.toInt < a.toInt) (by omega)).symm, rfl⟩
    · obtain rfl : t9 = 164 := by rw [q977] at q977c; exact Option.some.inj (q977c.symm.trans rfl)
      try dsimp only [tvI_i, tvJ_j, tvR_r] at q977
      exfalso
      omega
    · obtain rfl : t9 = 143 := by rw [q977] at q977c; exact Option.some.inj (q977c.symm.trans rfl)
      try dsimp only [tvI_i, tvJ_j, tvR_r] at q977
      refine tw_lload rfl rfl ?_
      refine tw_push rfl ?_
      refine tw_lc_eq rfl rfl (fun q998 => ?_) (fun q998 => ?_)
      · try dsimp only [tvI_i, tvJ_j, tvR_r] at q998
        refine tw_push rfl ?_
        refine tw_stat1 rfl (g_truth0 hG) (fun w9 h9 p999 => ?_)
        obtain ⟨rfl, e9⟩ := p999
        obtain rfl := e9.symm
        obtain rfl : s = 11 := by omega
        exact tw_lret rfl ⟨congrArg (fun z => some (Value.long z)) (b64_0 (p := a ≠ 0 ∧ b ≠ 0) (fun z => z.1 q998)).symm, rfl⟩
      · try dsimp only [tvI_i, tvJ_j, tvR_r] at q998
        refine tw_lload rfl rfl ?_
        refine tw_push rfl ?_
        refine tw_lc_eq rfl rfl (fun q1000 => ?_) (fun q1000 => ?_)
        · try dsimp only [tvI_i, tvJ_j, tvR_r] at q1000
          refine tw_push rfl ?_
          refine tw_stat1 rfl (g_truth0 hG) (fun w9 h9 p1001 => ?_)
          obtain ⟨rfl, e9⟩ := p1001
          obtain rfl := e9.symm
          obtain rfl : s = 11 := by omega
          exact tw_lret rfl ⟨congrArg (fun z => some (Value.long z)) (b64_0 (p := a ≠ 0 ∧ b ≠ 0) (fun z => z.2 q1000)).symm, rfl⟩
        · try dsimp only [tvI_i, tvJ_j, tvR_r] at q1000
          refine tw_push rfl ?_
          refine tw_goto rfl ?_
          refine tw_stat1 rfl (g_truth1 hG) (fun w9 h9 p1002 => ?_)
          obtain ⟨rfl, e9⟩ := p1002
          obtain rfl := e9.symm
          obtain rfl : s = 11 := by omega
          exact tw_lret rfl ⟨congrArg (fun z => some (Value.long z)) (b64_1 (p := a ≠ 0 ∧ b ≠ 0) ⟨q998, q1000⟩).symm, rfl⟩
theorem mC_o {s v c : Nat} (e : mCode s v = c) (h : s ≠ 0 ∧ s ≠ 1 ∧ s ≠ 10) : 100100 ≤ c ∧ c ≠ 100110 := by
  unfold mCode at e
  repeat' (split at e)
  all_goals omega
theorem g_answer {G : zG} (hG : G.1 = zProg) {h : zH} {q b : Nat} {y x1 x2 : Int32} {e : List Nat} {t : Bool} (hs : tSh h) (hy : y.toInt = q) (hq : q < 10) (hx1 : x1.toInt = b) (hx2 : x2.toInt = ((b + e.length : Nat) : Int)) (hN : b + e.length ≤ 400) (h133 : ∀ i, i < 5000 → 0 ≤ (tA h 133 i).toInt ∧ (tA h 133 i).toInt ≤ 14) (h134 : ∀ i, i < 5000 → 0 ≤ (tA h 134 i).toInt ∧ (tA h 134 i).toInt ≤ 99999) (hc : cdAt (fun i => mCode (tA h 133 (500 * q + i)).toNatClampNeg (tA h 134 (500 * q + i)).toNatClampNeg) b e) (ht : tyL [] e = some [t]) (hn : nVl e ≤ 80) : tC zTt G 231 [.ref 111, .int y, .int x1, .int x2] h (fun w h2 => w = some (.long (wv (tJ h 143) e)) ∧ wFr 144 h h2) := by
  refine tC_in (by rw [hG]; rfl) (fun dp => ?_)
  have m5 : (500 * y).toInt = ((500 * q : Nat) : Int) := zmul5 hy hq
  refine tw_push rfl ?_
  refine tw_istore rfl ?_
  refine tw_push rfl ?_
  refine tw_iload rfl rfl ?_
  refine tw_imul rfl ?_
  refine tw_iload rfl rfl ?_
  refine tw_iadd rfl ?_
  refine tw_istore rfl ?_
  refine tG_loop (zW_mono zTt G dp) (zW_conj zTt G dp) (V := fun pc L st h9 _ _ => pc = 12 ∧ st = [] ∧ ∃ (h1 : zH) (k top : Nat) (z u : Int32) (e2 : List Nat) (X : List Int64) (S : List Bool), h1 = h9 ∧ wFr 144 h h1 ∧ z.toInt = ((500 * q + k : Nat) : Int) ∧ u.toInt = top ∧ k + e2.length = b + e.length ∧ evA (tJ h 143) (fun i => mCode (tA h 133 (500 * q + i)).toNatClampNeg (tA h 134 (500 * q + i)).toNatClampNeg) (tJ h1 144) [wv (tJ h 143) e] k top e2 X S ∧ L = [some (.ref 111), some (.int y), some (.int x1), some (.int x2), some (.int u), some (.int z)]) ?_ (⟨rfl, rfl, h, b, 0, _, 0, e, [], [], rfl, wFr_r hs, zadN m5 hx1 (by omega) (by omega), rfl, rfl, evA_0 hc ht hn, rfl⟩)
  rintro _ _ _ _ _ _ ⟨rfl, rfl, h1, k, top, z, u, e2, X, S, rfl, hF, hz, hu, hke, hE, rfl⟩
  have hto : (500 * y + x2).toInt = ((500 * q + (b + e.length) : Nat) : Int) := zadN m5 hx2 (by omega) (by omega)
  refine tw_iload rfl rfl ?_
  refine tw_push rfl ?_
  refine tw_iload rfl rfl ?_
  refine tw_imul rfl ?_
  refine tw_iload rfl rfl ?_
  refine tw_iadd rfl ?_
  refine tw_ic_ge rfl (fun q1003 => ?_) (fun q1003 => ?_)
  · try dsimp only [tvI_i, tvJ_j, tvR_r] at q1003
    refine tw_aload rfl rfl ?_
    refine tw_getS rfl (hs_111_49 hF.1) ?_
    refine tw_push rfl ?_
    refine tw_lald rfl (fun f1004 => ?_)
    have e2n : e2 = [] := List.length_eq_zero_iff.mp (by omega)
    subst e2n
    have y1 := evA_e hE
    exact tw_lret rfl ⟨congrArg (fun z => some (Value.long z)) (show tJ h1 144 0 = _ from y1.2), hF⟩
  · try dsimp only [tvI_i, tvJ_j, tvR_r] at q1003
    rcases e2 with _ | ⟨c, e3⟩
    · exfalso; have hke : k + 0 = b + e.length := hke; omega
    have hke : k + (e3.length + 1) = b + e.length := hke
    have hcl : mCode (tA h 133 (500 * q + k)).toNatClampNeg (tA h 134 (500 * q + k)).toNatClampNeg = c := hE.at_.1
    have b1 := h133 (500 * q + k) (by omega)
    have b2 := h134 (500 * q + k) (by omega)
    have zz : z.toNatClampNeg = 500 * q + k := zof_cl hz
    have e1 : tA h1 133 z.toNatClampNeg = tA h 133 (500 * q + k) := by rw [hF.2.2.1, zz]
    have e4 : tA h1 134 z.toNatClampNeg = tA h 134 (500 * q + k) := by rw [hF.2.2.1, zz]
    have hs0 : (tA h1 133 z.toNatClampNeg).toInt = (((tA h 133 (500 * q + k)).toNatClampNeg : Nat) : Int) := by rw [e1]; exact (zclx b1.1).symm
    have hv9 : (tA h 134 (500 * q + k)).toNatClampNeg ≤ 99999 := by rw [zclE]; omega
    have h79 : top ≤ 80 := by have y1 := hE.few; have y2 := hE.len; omega
    have hval : (tA h1 134 z.toNatClampNeg).toInt = (((tA h 134 (500 * q + k)).toNatClampNeg : Nat) : Int) := by rw [e4]; exact (zclx b2.1).symm
    refine tw_aload rfl rfl ?_
    refine tw_getS rfl (hs_111_36 hF.1) ?_
    refine tw_iload rfl rfl ?_
    refine tw_iald rfl (fun f1005 => ?_)
    refine tw_if_ne rfl (fun q1006 => ?_) (fun q1006 => ?_)
    · try dsimp only [tvI_i, tvJ_j, tvR_r] at q1006
      have q1006i := zneq (Y := 0) (by decide) q1006
      refine tw_aload rfl rfl ?_
      refine tw_getS rfl (hs_111_36 hF.1) ?_
      refine tw_iload rfl rfl ?_
      refine tw_iald rfl (fun f1007 => ?_)
      refine tw_push rfl ?_
      refine tw_ic_ne rfl (fun q1008 => ?_) (fun q1008 => ?_)
      · try dsimp only [tvI_i, tvJ_j, tvR_r] at q1008
        have q1008i := zneq (Y := 1) (by decide) q1008
        refine tw_aload rfl rfl ?_
        refine tw_getS rfl (hs_111_36 hF.1) ?_
        refine tw_iload rfl rfl ?_
        refine tw_iald rfl (fun f1009 => ?_)
        refine tw_push rfl ?_
        refine tw_ic_ne rfl (fun q1010 => ?_) (fun q1010 => ?_)
        · try dsimp only [tvI_i, tvJ_j, tvR_r] at q1010
          have q1010i := zneq (Y := 10) (by decide) q1010
          have hsn : (tA h 133 (500 * q + k)).toNatClampNeg ≠ 0 ∧ (tA h 133 (500 * q + k)).toNatClampNeg ≠ 1 ∧ (tA h 133 (500 * q + k)).toNatClampNeg ≠ 10 := by have z1 := q1006i; have z2 := q1008i; have z3 := q1010i; omega
          have hcj := mC_o hcl hsn
          obtain ⟨y0, y1, y2, ye, X2, S2, E2⟩ := evA_j hE (by omega) (by omega)
          obtain ⟨y3, y4, y5, y6⟩ := mC_j hcl y1 y2 hv9
          have hu1 : (u - 1).toNatClampNeg = top - 1 := zof_cl ((zsbM (b := 1) hu rfl (by omega) (by decide)).trans (by omega))
          have hu2 : (u - 2).toNatClampNeg = top - 2 := zof_cl ((zsbM (b := 2) hu rfl (by omega) (by decide)).trans (by omega))
          refine tw_aload rfl rfl ?_
          refine tw_getS rfl (hs_111_49 hF.1) ?_
          refine tw_iload rfl rfl ?_
          refine tw_push rfl ?_
          refine tw_isub rfl ?_
          refine tw_aload rfl rfl ?_
          refine tw_getS rfl (hs_111_36 hF.1) ?_
          refine tw_iload rfl rfl ?_
          refine tw_iald rfl (fun f1011 => ?_)
          refine tw_aload rfl rfl ?_
          refine tw_getS rfl (hs_111_49 hF.1) ?_
          refine tw_iload rfl rfl ?_
          refine tw_push rfl ?_
          refine tw_isub rfl ?_
          refine tw_lald rfl (fun f1012 => ?_)
          refine tw_aload rfl rfl ?_
          refine tw_getS rfl (hs_111_49 hF.1) ?_
          refine tw_iload rfl rfl ?_
          refine tw_push rfl ?_
          refine tw_isub rfl ?_
          refine tw_lald rfl (fun f1013 => ?_)
          refine tw_stat3 rfl (g_two hG hs0 y3 y4 y5) (fun w9 h9 p1014 => ?_)
          obtain ⟨rfl, e9⟩ := p1014
          obtain rfl := e9.symm
          refine tw_last rfl (fun f1015 => ?_)
          refine tG_lst f1015 hF.1 (fun h3 a3 => ?_)
          try dsimp only [tvI_i, tvJ_j, tvR_r] at a3
          have hF3 := wFr_s hF a3
          refine tw_iinc rfl rfl ?_
          refine tw_iinc rfl rfl ?_
          refine tw_goto rfl ?_
          have hk1 : (z + 1).toInt = ((500 * q + (k + 1) : Nat) : Int) := (zincN hz (by omega)).trans (by omega)
          have hkl : k + 1 + e3.length = b + e.length := by omega
          rw [hu1, hu2] at a3
          rw [← y6, ← ye] at a3
          have E3 : evA (tJ h 143) (fun i => mCode (tA h 133 (500 * q + i)).toNatClampNeg (tA h 134 (500 * q + i)).toNatClampNeg) (tJ h3 144) [wv (tJ h 143) e] (k + 1) (top - 1) e3 X2 S2 := by rw [mJs_g a3 rfl]; exact E2
          have hd1 : (u + (-1)).toInt = ((top - 1 : Nat) : Int) := (zdecM hu (by omega) (by omega)).trans (by omega)
          exact tG_cut (zW_mono zTt G dp) (Or.inr ⟨rfl, rfl, h3, k + 1, top - 1, z + 1, u + (-1), e3, X2, S2, rfl, hF3, hk1, hd1, hkl, E3, rfl⟩)
        · try dsimp only [tvI_i, tvJ_j, tvR_r] at q1010
          have q1010i := zeqi (Y := 10) (by decide) q1010
          have hs9 : (tA h 133 (500 * q + k)).toNatClampNeg = 10 := by have y0 := q1010i; omega
          have hc9 : c = 100110 := by rw [hs9] at hcl; exact hcl.symm
          obtain ⟨y0, ye, X2, S2, E2⟩ := evA_n hE hc9
          have hu1 : (u - 1).toNatClampNeg = top - 1 := zof_cl ((zsbM (b := 1) hu rfl (by omega) (by decide)).trans (by omega))
          refine tw_aload rfl rfl ?_
          refine tw_getS rfl (hs_111_49 hF.1) ?_
          refine tw_iload rfl rfl ?_
          refine tw_push rfl ?_
          refine tw_isub rfl ?_
          refine tw_aload rfl rfl ?_
          refine tw_getS rfl (hs_111_49 hF.1) ?_
          refine tw_iload rfl rfl ?_
          refine tw_push rfl ?_
          refine tw_isub rfl ?_
          refine tw_lald rfl (fun f1016 => ?_)
          refine tw_push rfl ?_
          refine tw_lc_ne rfl rfl (fun q1017 => ?_) (fun q1017 => ?_)
          · try dsimp only [tvI_i, tvJ_j, tvR_r] at q1017
            refine tw_push rfl ?_
            refine tw_stat1 rfl (g_truth0 hG) (fun w9 h9 p1018 => ?_)
            obtain ⟨rfl, e9⟩ := p1018
            obtain rfl := e9.symm
            refine tw_last rfl (fun f1019 => ?_)
            refine tG_lst f1019 hF.1 (fun h3 a3 => ?_)
            try dsimp only [tvI_i, tvJ_j, tvR_r] at a3
            have hF3 := wFr_s hF a3
            refine tw_goto rfl ?_
            refine tw_iinc rfl rfl ?_
            refine tw_goto rfl ?_
            have hk1 : (z + 1).toInt = ((500 * q + (k + 1) : Nat) : Int) := (zincN hz (by omega)).trans (by omega)
            have hkl : k + 1 + e3.length = b + e.length := by omega
            rw [hu1] at a3 q1017
            have a3 : mJs 144 (top - 1) (1 - tJ h1 144 (top - 1)) h1 h3 := by rw [ye, b64_0 q1017]; exact a3
            have E3 : evA (tJ h 143) (fun i => mCode (tA h 133 (500 * q + i)).toNatClampNeg (tA h 134 (500 * q + i)).toNatClampNeg) (tJ h3 144) [wv (tJ h 143) e] (k + 1) top e3 X2 S2 := by rw [mJs_g a3 rfl]; exact E2
            exact tG_cut (zW_mono zTt G dp) (Or.inr ⟨rfl, rfl, h3, k + 1, top, z + 1, u, e3, X2, S2, rfl, hF3, hk1, hu, hkl, E3, rfl⟩)
          · try dsimp only [tvI_i, tvJ_j, tvR_r] at q1017
            refine tw_push rfl ?_
            refine tw_goto rfl ?_
            refine tw_stat1 rfl (g_truth1 hG) (fun w9 h9 p1020 => ?_)
            obtain ⟨rfl, e9⟩ := p1020
            obtain rfl := e9.symm
            refine tw_last rfl (fun f1021 => ?_)
            refine tG_lst f1021 hF.1 (fun h3 a3 => ?_)
            try dsimp only [tvI_i, tvJ_j, tvR_r] at a3
            have hF3 := wFr_s hF a3
            refine tw_goto rfl ?_
            refine tw_iinc rfl rfl ?_
            refine tw_goto rfl ?_
            have hk1 : (z + 1).toInt = ((500 * q + (k + 1) : Nat) : Int) := (zincN hz (by omega)).trans (by omega)
            have hkl : k + 1 + e3.length = b + e.length := by omega
            rw [hu1] at a3 q1017
            have a3 : mJs 144 (top - 1) (1 - tJ h1 144 (top - 1)) h1 h3 := by rw [ye, b64_1 q1017]; exact a3
            have E3 : evA (tJ h 143) (fun i => mCode (tA h 133 (500 * q + i)).toNatClampNeg (tA h 134 (500 * q + i)).toNatClampNeg) (tJ h3 144) [wv (tJ h 143) e] (k + 1) top e3 X2 S2 := by rw [mJs_g a3 rfl]; exact E2
            exact tG_cut (zW_mono zTt G dp) (Or.inr ⟨rfl, rfl, h3, k + 1, top, z + 1, u, e3, X2, S2, rfl, hF3, hk1, hu, hkl, E3, rfl⟩)
      · try dsimp only [tvI_i, tvJ_j, tvR_r] at q1008
        have q1008i := zeqi (Y := 1) (by decide) q1008
        have hs9 : (tA h 133 (500 * q + k)).toNatClampNeg = 1 := by have y0 := q1008i; omega
        have hc8 : (if (tA h 134 (500 * q + k)).toNatClampNeg < 12 then 100000 + (tA h 134 (500 * q + k)).toNatClampNeg else 200000 + (tA h 134 (500 * q + k)).toNatClampNeg) = c := by rw [hs9] at hcl; exact hcl
        have hc7 : (tA h 134 (500 * q + k)).toNatClampNeg < 12 := by
          refine Classical.byContradiction (fun y => ?_)
          rw [if_neg y] at hc8
          have y2 := (evA_j hE (by omega) (by omega)).2.2.1
          omega
        rw [if_pos hc7] at hc8
        obtain ⟨y80, y12, X2, S2, E2⟩ := evA_v hE (by omega)
        refine tw_aload rfl rfl ?_
        refine tw_getS rfl (hs_111_49 hF.1) ?_
        refine tw_iload rfl rfl ?_
        refine tw_aload rfl rfl ?_
        refine tw_getS rfl (hs_111_48 hF.1) ?_
        refine tw_aload rfl rfl ?_
        refine tw_getS rfl (hs_111_37 hF.1) ?_
        refine tw_iload rfl rfl ?_
        refine tw_iald rfl (fun f1022 => ?_)
        refine tw_lald rfl (fun f1023 => ?_)
        refine tw_last rfl (fun f1024 => ?_)
        refine tG_lst f1024 hF.1 (fun h3 a3 => ?_)
        try dsimp only [tvI_i, tvJ_j, tvR_r] at a3
        have hF3 := wFr_s hF a3
        refine tw_iinc rfl rfl ?_
        refine tw_goto rfl ?_
        refine tw_iinc rfl rfl ?_
        refine tw_goto rfl ?_
        have hk1 : (z + 1).toInt = ((500 * q + (k + 1) : Nat) : Int) := (zincN hz (by omega)).trans (by omega)
        have hkl : k + 1 + e3.length = b + e.length := by omega
        rw [zof_cl hu, hF.2.2.2.2.2 143 (by decide), e4, show (tA h 134 (500 * q + k)).toNatClampNeg = c - 100000 by omega, ← vOf_w (W := (tJ h 143)) (by omega)] at a3
        have E3 : evA (tJ h 143) (fun i => mCode (tA h 133 (500 * q + i)).toNatClampNeg (tA h 134 (500 * q + i)).toNatClampNeg) (tJ h3 144) [wv (tJ h 143) e] (k + 1) (top + 1) e3 X2 S2 := by rw [mJs_g a3 rfl]; exact E2
        exact tG_cut (zW_mono zTt G dp) (Or.inr ⟨rfl, rfl, h3, k + 1, top + 1, z + 1, u + 1, e3, X2, S2, rfl, hF3, hk1, zincN hu (by omega), hkl, E3, rfl⟩)
    · try dsimp only [tvI_i, tvJ_j, tvR_r] at q1006
      have q1006i := zeqi (Y := 0) (by decide) q1006
      have hs9 : (tA h 133 (500 * q + k)).toNatClampNeg = 0 := by have y0 := q1006i; omega
      have hc9 : c = (tA h 134 (500 * q + k)).toNatClampNeg := by rw [hs9] at hcl; exact hcl.symm
      obtain ⟨y80, y12, X2, S2, E2⟩ := evA_v hE (by omega)
      refine tw_aload rfl rfl ?_
      refine tw_getS rfl (hs_111_49 hF.1) ?_
      refine tw_iload rfl rfl ?_
      refine tw_aload rfl rfl ?_
      refine tw_getS rfl (hs_111_37 hF.1) ?_
      refine tw_iload rfl rfl ?_
      refine tw_iald rfl (fun f1025 => ?_)
      refine tw_i2l rfl ?_
      refine tw_last rfl (fun f1026 => ?_)
      refine tG_lst f1026 hF.1 (fun h3 a3 => ?_)
      try dsimp only [tvI_i, tvJ_j, tvR_r] at a3
      have hF3 := wFr_s hF a3
      refine tw_iinc rfl rfl ?_
      refine tw_goto rfl ?_
      refine tw_iinc rfl rfl ?_
      refine tw_goto rfl ?_
      have hk1 : (z + 1).toInt = ((500 * q + (k + 1) : Nat) : Int) := (zincN hz (by omega)).trans (by omega)
      have hkl : k + 1 + e3.length = b + e.length := by omega
      rw [zof_cl hu, ← vOf_n (W := (tJ h 143)) (c := c) (by omega) (by rw [hval, hc9])] at a3
      have E3 : evA (tJ h 143) (fun i => mCode (tA h 133 (500 * q + i)).toNatClampNeg (tA h 134 (500 * q + i)).toNatClampNeg) (tJ h3 144) [wv (tJ h 143) e] (k + 1) (top + 1) e3 X2 S2 := by rw [mJs_g a3 rfl]; exact E2
      exact tG_cut (zW_mono zTt G dp) (Or.inr ⟨rfl, rfl, h3, k + 1, top + 1, z + 1, u + 1, e3, X2, S2, rfl, hF3, hk1, zincN hu (by omega), hkl, E3, rfl⟩)
theorem g_tells {G : zG} (hG : G.1 = zProg) {h : zH} {q K kd t0 : Nat} {y k9 t9 : Int32} {cs : List Nat} {cl : Nat → rCt} (hs : tSh h) (D : rDm h q K cs cl) (hy : y.toInt = q) (hq : q < 10) (hk9 : k9.toInt = kd) (hkd : kd ≤ 3) (ht9 : t9.toInt = t0) (h133 : ∀ i, i < 5000 → 0 ≤ (tA h 133 i).toInt ∧ (tA h 133 i).toInt ≤ 14) (h134 : ∀ i, i < 5000 → 0 ≤ (tA h 134 i).toInt ∧ (tA h 134 i).toInt ≤ 99999) (h135 : ∀ i, i < 120 → 0 ≤ (tA h 135 i).toInt ∧ (tA h 135 i).toInt ≤ 3) (h136 : ∀ i, i < 120 → 0 ≤ (tA h 136 i).toInt ∧ (tA h 136 i).toInt ≤ 99999) (h138 : ∀ i, i < 120 → 0 ≤ (tA h 138 i).toInt ∧ (tA h 138 i).toInt ≤ 410) (h139 : ∀ i, i < 120 → 0 ≤ (tA h 139 i).toInt ∧ (tA h 139 i).toInt ≤ 410) : tC zTt G 232 [.ref 111, .int y, .int k9, .int t9] h (fun w h2 => wFr 144 h h2 ∧ fTr (tJ h 143) cs cl K (thc kd t0) (fun i => 12 * q + i) w) := by
  refine tC_in (by rw [hG]; rfl) (fun dp => ?_)
  have m12 : (12 * y).toInt = ((12 * q : Nat) : Int) := zmul12 hy hq
  have hyq : y.toNatClampNeg = q := zof_cl hy
  have hK12 := D.few
  refine tw_push rfl ?_
  refine tw_istore rfl ?_
  refine tG_loop (zW_mono zTt G dp) (zW_conj zTt G dp) (V := fun pc L st h9 _ _ => pc = 3 ∧ st = [] ∧ ∃ (h1 : zH) (i : Nat) (x : Int32) (l5 l6 : Option Value), h1 = h9 ∧ wFr 144 h h1 ∧ i ≤ K ∧ x.toInt = (i : Int) ∧ (∀ j, j < i → ¬ hit (tJ h 143) cs (cl j) (thc kd t0)) ∧ L = [some (.ref 111), some (.int y), some (.int k9), some (.int t9), some (.int x), l5, l6]) ?_ (⟨rfl, rfl, h, 0, 0, _, _, rfl, wFr_r hs, Nat.zero_le _, rfl, fun j hj => absurd hj (Nat.not_lt_zero _), rfl⟩)
  rintro _ _ _ _ _ _ ⟨rfl, rfl, h1, i, x, l5, l6, rfl, hF, hiK, hx, hall, rfl⟩
  have hcK : (tA h1 140 y.toNatClampNeg).toInt = (K : Int) := by rw [hF.2.2.1, hyq]; exact D.cnt
  refine tw_iload rfl rfl ?_
  refine tw_aload rfl rfl ?_
  refine tw_getS rfl (hs_111_43 hF.1) ?_
  refine tw_iload rfl rfl ?_
  refine tw_iald rfl (fun f1027 => ?_)
  refine tw_ic_ge rfl (fun q1028 => ?_) (fun q1028 => ?_)
  · try dsimp only [tvI_i, tvJ_j, tvR_r] at q1028
    refine tw_push rfl ?_
    exact tw_iret rfl ⟨hF, Or.inl ⟨rfl, fun i9 h9 => hall i9 (by have y2 := hcK; omega)⟩⟩
  · try dsimp only [tvI_i, tvJ_j, tvR_r] at q1028
    have eA := hF.2.2.1
    have hi : i < K := by have y1 := hcK; omega
    have hrow : (12 * y + x).toInt = ((12 * q + i : Nat) : Int) := zadN m12 hx (by omega) (by omega)
    have zz : (12 * y + x).toNatClampNeg = 12 * q + i := zof_cl hrow
    have hr := D.row i hi
    have c1 := h135 (12 * q + i) (by omega)
    have c2 := h136 (12 * q + i) (by omega)
    have c3 : ((cl i).1, (cl i).2.1, (cl i).2.2.1, (cl i).2.2.2) = (thc (tA h 135 (12 * q + i)).toNatClampNeg (tA h 136 (12 * q + i)).toNatClampNeg, (tA h 137 (12 * q + i)).toNatClampNeg, (tA h 138 (12 * q + i)).toNatClampNeg, (tA h 139 (12 * q + i)).toNatClampNeg) := by rw [← hr]; rfl
    have c4 := congrArg (fun z : rCt => z.1) c3
    have c6 := congrArg (fun z : rCt => z.2.2.1) c3
    have c7 := congrArg (fun z : rCt => z.2.2.2) c3
    dsimp only at c4 c6 c7
    have w1 : tA h1 135 (12 * y + x).toNatClampNeg = tA h 135 (12 * q + i) := by rw [eA, zz]
    have w2 : tA h1 136 (12 * y + x).toNatClampNeg = tA h 136 (12 * q + i) := by rw [eA, zz]
    have w3 : (tA h1 138 (12 * y + x).toNatClampNeg).toInt = ((cl i).2.2.1 : Int) := by rw [eA, zz, c6]; exact (zclx (h138 (12 * q + i) (by omega)).1).symm
    have w4 : (tA h1 139 (12 * y + x).toNatClampNeg).toInt = ((cl i).2.2.2 : Int) := by rw [eA, zz, c7]; exact (zclx (h139 (12 * q + i) (by omega)).1).symm
    have hth : (cl i).1 = thc kd t0 ↔ tA h1 135 (12 * y + x).toNatClampNeg = k9 ∧ tA h1 136 (12 * y + x).toNatClampNeg = t9 := by
      rw [c4, thc_i (by rw [zclE]; omega) hkd, w1, w2]
      constructor
      · rintro ⟨u1, u2⟩
        exact ⟨Int32.toInt_inj.mp (by rw [hk9, ← u1]; exact (zclx c1.1).symm), Int32.toInt_inj.mp (by rw [ht9, ← u2]; exact (zclx c2.1).symm)⟩
      · rintro ⟨u1, u2⟩
        exact ⟨by rw [u1]; exact zof_cl hk9, by rw [u2]; exact zof_cl ht9⟩
    refine tw_push rfl ?_
    refine tw_iload rfl rfl ?_
    refine tw_imul rfl ?_
    refine tw_iload rfl rfl ?_
    refine tw_iadd rfl ?_
    refine tw_istore rfl ?_
    refine tw_aload rfl rfl ?_
    refine tw_getS rfl (hs_111_38 hF.1) ?_
    refine tw_iload rfl rfl ?_
    refine tw_iald rfl (fun f1029 => ?_)
    refine tw_iload rfl rfl ?_
    refine tw_ic_ne rfl (fun q1030 => ?_) (fun q1030 => ?_)
    · try dsimp only [tvI_i, tvJ_j, tvR_r] at q1030
      have q1030i := zneq rfl q1030
      refine tw_push rfl ?_
      refine tw_istore rfl ?_
      refine tw_iload rfl rfl ?_
      refine tw_if_eq rfl (fun _ => ?_) (fun z => absurd z (by decide))
      refine tw_iinc rfl rfl ?_
      refine tw_goto rfl ?_
      have hx9 : (x + 1).toInt = ((i + 1 : Nat) : Int) := zincN hx (by omega)
      have hno : ¬ hit (tJ h 143) cs (cl i) (thc kd t0) := (fun z => q1030 (hth.mp z.1).1)
      exact tG_cut (zW_mono zTt G dp) (Or.inr ⟨rfl, rfl, _, i + 1, x + 1, _, _, rfl, hF, by omega, hx9, fun j hj => (Classical.em (j = i)).elim (fun z => by rw [z]; exact hno) (fun z => hall j (by omega)), rfl⟩)
    · try dsimp only [tvI_i, tvJ_j, tvR_r] at q1030
      have q1030i := zeqi rfl q1030
      refine tw_aload rfl rfl ?_
      refine tw_getS rfl (hs_111_39 hF.1) ?_
      refine tw_iload rfl rfl ?_
      refine tw_iald rfl (fun f1031 => ?_)
      refine tw_iload rfl rfl ?_
      refine tw_ic_ne rfl (fun q1032 => ?_) (fun q1032 => ?_)
      · try dsimp only [tvI_i, tvJ_j, tvR_r] at q1032
        have q1032i := zneq rfl q1032
        refine tw_push rfl ?_
        refine tw_istore rfl ?_
        refine tw_iload rfl rfl ?_
        refine tw_if_eq rfl (fun _ => ?_) (fun z => absurd z (by decide))
        refine tw_iinc rfl rfl ?_
        refine tw_goto rfl ?_
        have hx9 : (x + 1).toInt = ((i + 1 : Nat) : Int) := zincN hx (by omega)
        have hno : ¬ hit (tJ h 143) cs (cl i) (thc kd t0) := (fun z => q1032 (hth.mp z.1).2)
        exact tG_cut (zW_mono zTt G dp) (Or.inr ⟨rfl, rfl, _, i + 1, x + 1, _, _, rfl, hF, by omega, hx9, fun j hj => (Classical.em (j = i)).elim (fun z => by rw [z]; exact hno) (fun z => hall j (by omega)), rfl⟩)
      · try dsimp only [tvI_i, tvJ_j, tvR_r] at q1032
        have q1032i := zeqi rfl q1032
        refine tw_push rfl ?_
        refine tw_goto rfl ?_
        refine tw_istore rfl ?_
        refine tw_iload rfl rfl ?_
        refine tw_if_eq rfl (fun z => absurd z (by decide)) (fun _ => ?_)
        refine tw_aload rfl rfl ?_
        refine tw_getS rfl (hs_111_41 hF.1) ?_
        refine tw_iload rfl rfl ?_
        refine tw_iald rfl (fun f1033 => ?_)
        refine tw_aload rfl rfl ?_
        refine tw_getS rfl (hs_111_42 hF.1) ?_
        refine tw_iload rfl rfl ?_
        refine tw_iald rfl (fun f1034 => ?_)
        refine tw_ic_eq rfl (fun q1035 => ?_) (fun q1035 => ?_)
        · try dsimp only [tvI_i, tvJ_j, tvR_r] at q1035
          have q1035i := zeqi rfl q1035
          refine tw_iload rfl rfl ?_
          exact tw_iret rfl ⟨hF, Or.inr ⟨i, hi, ⟨(hth.mpr ⟨q1030, q1032⟩), Or.inl (by have y1 := q1035i; omega)⟩, hall, _, rfl, hrow⟩⟩
        · try dsimp only [tvI_i, tvJ_j, tvR_r] at q1035
          have q1035i := zneq rfl q1035
          refine tw_aload rfl rfl ?_
          refine tw_iload rfl rfl ?_
          refine tw_aload rfl rfl ?_
          refine tw_getS rfl (hs_111_41 hF.1) ?_
          refine tw_iload rfl rfl ?_
          refine tw_iald rfl (fun f1036 => ?_)
          refine tw_aload rfl rfl ?_
          refine tw_getS rfl (hs_111_42 hF.1) ?_
          refine tw_iload rfl rfl ?_
          refine tw_iald rfl (fun f1037 => ?_)
          obtain ⟨s1, s2, s3, s4, p, qq, s5, s6⟩ := rOk_t (D.ok i hi) D.nv (fun z => q1035 (Int32.toInt_inj.mp (by omega)))
          refine tw_virt3 rfl (g_answer hG hF.1 hy hq w3 (e := slc cs (cl i).2.2.1 (cl i).2.2.2) (t := true) (w4.trans (congrArg Nat.cast s1)) (by rw [← s1]; have := D.big; omega) (by rw [hF.2.2.1]; exact h133) (by rw [hF.2.2.1]; exact h134) (by rw [hF.2.2.1]; exact cdAt_h s5 s6 D.cod) s3 s4) (fun wp1038 hp1038 p1038 => ?_)
          obtain ⟨rfl, Fp1038⟩ := p1038
          have hF2 := wFr_t hF Fp1038
          rw [hF.2.2.2.2.2 143 (by decide)]
          refine tw_push rfl ?_
          refine tw_lc_eq rfl rfl (fun q1039 => ?_) (fun q1039 => ?_)
          · try dsimp only [tvI_i, tvJ_j, tvR_r] at q1039
            refine tw_iinc rfl rfl ?_
            refine tw_goto rfl ?_
            have hx9 : (x + 1).toInt = ((i + 1 : Nat) : Int) := zincN hx (by omega)
            have s0 : ¬ (cl i).2.2.1 = (cl i).2.2.2 := fun z => q1035 (Int32.toInt_inj.mp (by omega))
            have hno : ¬ hit (tJ h 143) cs (cl i) (thc kd t0) := (fun z => z.2.elim (fun y => s0 y) (fun y => y q1039))
            exact tG_cut (zW_mono zTt G dp) (Or.inr ⟨rfl, rfl, _, i + 1, x + 1, _, _, rfl, hF2, by omega, hx9, fun j hj => (Classical.em (j = i)).elim (fun z => by rw [z]; exact hno) (fun z => hall j (by omega)), rfl⟩)
          · try dsimp only [tvI_i, tvJ_j, tvR_r] at q1039
            refine tw_iload rfl rfl ?_
            exact tw_iret rfl ⟨hF2, Or.inr ⟨i, hi, ⟨(hth.mpr ⟨q1030, q1032⟩), Or.inr q1039⟩, hall, _, rfl, hrow⟩⟩
/-! a rule as it is kept, in the class and in the reference -/
noncomputable def cQd (h : zH) (b i : Nat) : rCt := ((tA h b (4 * i)).toNatClampNeg, (tA h b (4 * i + 1)).toNatClampNeg, (tA h b (4 * i + 2)).toNatClampNeg, (tA h b (4 * i + 3)).toNatClampNeg)
noncomputable def rCd (h : zH) (q a : Nat) : Prop := cArr h a = mEk h q (tN h a) ∧ tN h (a + 1) = 4 * (tA h 140 q).toNatClampNeg ∧ (∀ i, i < (tA h 140 q).toNatClampNeg → cQd h (a + 1) i = mRow h (12 * q + i) ∧ rOk (cArr h a) (mRow h (12 * q + i))) ∧ nVl (cArr h a) ≤ 80
theorem cArr_e {h h2 : zH} {a : Nat} (e1 : 0 < tN h a → tA h2 a = tA h a) (e2 : tN h2 a = tN h a) : cArr h2 a = cArr h a := by
  unfold cArr
  rw [e2]
  refine List.map_congr_left (fun i hi => ?_)
  have hi := List.mem_range.mp hi
  rw [e1 (by omega)]
theorem mEk_e {h h2 : zH} {q k : Nat} (e : ∀ i, i < 500 → tA h2 133 (500 * q + i) = tA h 133 (500 * q + i) ∧ tA h2 134 (500 * q + i) = tA h 134 (500 * q + i)) (hk : k ≤ 500) : mEk h2 q k = mEk h q k := by
  unfold mEk
  refine List.map_congr_left (fun i hi => ?_)
  have hi := List.mem_range.mp hi
  rw [(e i (by omega)).1, (e i (by omega)).2]
theorem cArr_len {h : zH} {a : Nat} : (cArr h a).length = tN h a := by unfold cArr; rw [List.length_map, List.length_range]
theorem rCd_fr {h h2 : zH} {q a : Nat} (k : rCd h q a) (hN : tN h a ≤ 400) (e1 : 0 < tN h a → tA h2 a = tA h a) (e2 : tN h2 a = tN h a) (e3 : 0 < tN h (a + 1) → tA h2 (a + 1) = tA h (a + 1)) (e4 : tN h2 (a + 1) = tN h (a + 1)) (o : ∀ i, i < 500 → tA h2 133 (500 * q + i) = tA h 133 (500 * q + i) ∧ tA h2 134 (500 * q + i) = tA h 134 (500 * q + i)) (o2 : tA h2 140 q = tA h 140 q) (o3 : ∀ i, i < (tA h 140 q).toNatClampNeg → mRow h2 (12 * q + i) = mRow h (12 * q + i)) : rCd h2 q a := by
  obtain ⟨k1, k2, k3, k4⟩ := k
  have eC := cArr_e e1 e2
  refine ⟨?_, ?_, fun i hi => ?_, ?_⟩
  · rw [eC, e2, k1]
    exact (mEk_e o (by omega)).symm
  · rw [e4, o2]
    exact k2
  · rw [o2] at hi
    rw [o3 i hi, eC]
    have y := k3 i hi
    refine ⟨?_, y.2⟩
    rw [← y.1]
    unfold cQd
    rw [e3 (by omega)]
  · rw [eC]
    exact k4
theorem mRow_e {h h2 : zH} {i : Nat} (o : ∀ p, 135 ≤ p → p ≤ 139 → tA h2 p i = tA h p i) : mRow h2 i = mRow h i := by
  unfold mRow
  rw [o 135 (by decide) (by decide), o 136 (by decide) (by decide), o 137 (by decide) (by decide), o 138 (by decide) (by decide), o 139 (by decide) (by decide)]
/-- what the two evaluators stand on -/
theorem rCd_D {xs : Nat → Int32} {τ : List Nat} {h : zH} {q a : Nat} (hB : zBs xs τ h) (hq : q < 10) (h50 : tO h 50 q = some a) (h51 : tO h 51 q = some (a + 1)) (k : rCd h q a) : rDt h a (a + 1) (tA h 140 q).toNatClampNeg (cArr h a) (fun i => mRow h (12 * q + i)) ∧ rDm h q (tA h 140 q).toNatClampNeg (cArr h a) (fun i => mRow h (12 * q + i)) := by
  obtain ⟨k1, k2, k3, k4⟩ := k
  have t1 := arr_tag hB (p := 50) (q := q) rfl rfl hq (by decide) h50
  have t2 := arr_tag hB (p := 51) (q := q) rfl rfl hq (by decide) h51
  obtain ⟨-, b2, b3⟩ := tkd_v hB t1 rfl
  obtain ⟨-, -, c3⟩ := tkd_v hB t2 rfl
  have d := (ka_140 hB).2 q hq
  have hK : (tA h 140 q).toNatClampNeg ≤ 12 := by rw [zclE]; omega
  refine ⟨⟨rfl, b2, fun i hi => (b3 i hi).1, k2, hK, fun i hi => ?_, fun i hi => (k3 i hi).2, k4⟩, ⟨fun i hi => ?_, by rw [cArr_len]; exact b2, (zclx d.1).symm, hK, fun i hi => rfl, fun i hi => (k3 i hi).2, k4⟩⟩
  · have y := (k3 i hi).1
    dsimp only
    rw [← y]
    exact ⟨(zclx (c3 _ (by omega)).1).symm, (zclx (c3 _ (by omega)).1).symm, (zclx (c3 _ (by omega)).1).symm, (zclx (c3 _ (by omega)).1).symm⟩
  · rw [cArr_len] at hi
    rw [k1]
    unfold mEk
    rw [List.getElem?_map, List.getElem?_range hi]
    rfl
theorem tfr_vn {xs : Nat → Int32} {τ : List Nat} {h h2 : zH} {W : Nat → Nat → Bool} {p t : Nat} (hB : zBs xs τ h) (hf : yFr W τ h h2) (ht : τ[p]? = some t) : tN h2 p = tN h p := by
  obtain ⟨ct, c, a1, a2, -⟩ := hB.1.2 _ _ ht
  obtain ⟨c2, b1, b2⟩ := hf _ _ _ ht a2
  unfold tN
  rw [a2, b1]
  match c, c2, b2 with
  | .inr (x, fs), .inr (y, gs), b2 => rfl
  | .inl (k, N, x), .inl (k2, N2, y), b2 => exact b2.2.1.symm
theorem cCls_at {h : zH} {b : Nat} {l : List rCt} (e : cCls h b l.length = l) {i : Nat} (hi : i < l.length) : l[i]? = some (cQd h b i) := by
  rw [← e]
  unfold cCls
  rw [List.getElem?_map, List.getElem?_range hi]
  rfl
noncomputable def R_rcd (h : zH) : Prop := ∀ q : Nat, (q : Int) < (tvI (tF h 48 3)).toInt → q < 10 → ∃ a, 182 ≤ a ∧ tO h 50 q = some a ∧ tO h 51 q = some (a + 1) ∧ rCd h q a
/-- rules stay what they were, and one may come -/
theorem a_rcd {xs : Nat → Int32} {τ τ2 τ3 : List Nat} {y : Int32} {h h2 h3 : zH} {w w2 : Option Value} {W1 W2 : Nat → Nat → Bool} (hB : zBs xs τ h) (hB2 : zBs xs τ2 h2) (hB3 : zBs xs τ3 h3) (r1 : yFr W1 τ h h2) (r2 : yFr W2 τ2 h2 h3) (v1 : W2 152 0 = false) (v2 : W2 153 0 = false) (hN : R_rules h) (hR : R_rcd h) (e2 : tF h2 111 30 = tF h 111 30) (oc : ∀ p, 133 ≤ p → p ≤ 140 → tA h2 p = tA h p) (t2 : tF h3 48 3 = tF h2 48 3) (t3 : tO h3 50 = tO h2 50) (t4 : tO h3 51 = tO h2 51) (k2 : ph_rum y h w h2 w2 h3) : R_rcd h3 := by
  have hN0 := hN
  unfold R_rules at hN0
  have i48 := hi_48_3 (zBs_sh hB)
  rcases k2 with ⟨-, rfl, -, rfl⟩ | ⟨r, ⟨f, hr⟩, k1, k2⟩
  · exact hR
  · obtain ⟨m1, m2, k2⟩ := k2
    have E30 : tvI (tF h2 111 30) = tvI (tF h 48 3) := by rw [e2, ← hN0]
    have b48 := kb_48_3 hB
    have hcl : (((tvI (tF h 48 3)).toNatClampNeg : Nat) : Int) = (tvI (tF h 48 3)).toInt := zclx b48.1
    -- an old rule
    have old : ∀ q a : Nat, (q : Int) < (tvI (tF h 48 3)).toInt → q < 10 → 182 ≤ a → tO h 50 q = some a → tO h 51 q = some (a + 1) → rCd h q a → (∀ p, 182 ≤ p → 0 < tN h p → tA h2 p = tA h p) → tO h2 50 q = some a → tO h2 51 q = some (a + 1) → tA h3 140 q = tA h2 140 q → rCd h3 q a := by
      intro q a hq h10 a1 a2 a3 k hfr b2 b3 m6
      have s1 := arr_tag hB (p := 50) (q := q) rfl rfl h10 (by decide) a2
      have s2 := arr_tag hB (p := 51) (q := q) rfl rfl h10 (by decide) a3
      have s3 := arr_tag hB2 (p := 50) (q := q) rfl rfl h10 (by decide) b2
      have s4 := arr_tag hB2 (p := 51) (q := q) rfl rfl h10 (by decide) b3
      have n1 := tfr_vn hB r1 s1
      have n2 := tfr_vn hB r1 s2
      have n3 := tfr_v hB2 r2 s3 v1
      have n4 := tfr_v hB2 r2 s4 v2
      have d := (ka_140 hB).2 q h10
      refine rCd_fr k (tkd_v hB s1 rfl).2.1 (fun z => n3.1.trans (hfr a a1 z)) (n3.2.trans n1) (fun z => n4.1.trans (hfr (a + 1) (by omega) z)) (n4.2.trans n2) (fun i hi => ?_) ?_ (fun i hi => mRow_e (fun p p1 p2 => ?_))
      · have z := m1.2.2.2.2.1 (500 * q + i) (by rw [E30]; omega)
        rw [z.1, z.2, oc 133 (by decide) (by decide), oc 134 (by decide) (by decide)]
        exact ⟨rfl, rfl⟩
      · rw [m6, oc 140 (by decide) (by decide)]
      · rw [m1.2.2.2.2.2 p (12 * q + i) p1 p2 (by rw [E30]; rw [zclE] at hi; omega), oc p (by omega) (by omega)]
    cases r with
    | inl e =>
      obtain ⟨m3, -, m4, m6, -⟩ := k2
      rcases k1 with k1 | ⟨k1, -, k3, k4, k5, k6, k7⟩
      · exact absurd m3 (Nat.not_lt_of_le k1)
      · intro q hq h10
        rw [t2, k3] at hq
        obtain ⟨a, a1, a2, a3, k⟩ := hR q hq h10
        have b2 : tO h2 50 q = some a := by rw [k6]; exact a2
        have b3 : tO h2 51 q = some (a + 1) := by rw [k7]; exact a3
        exact ⟨a, a1, by rw [t3]; exact b2, by rw [t4]; exact b3, old q a hq h10 a1 a2 a3 k (fun p hp _ => k5 p hp) b2 b3 (congrFun m6 q)⟩
    | inr x =>
      obtain ⟨-, m4, m5, -, m7, m8, m9⟩ := k2
      obtain ⟨k1, -, k3, k4, a0, g1, g2, g3, g4, g5, g6, g7⟩ := k1
      rw [E30] at m5 m7 m8 m9
      obtain ⟨i1, i2⟩ := rRu_ok f _ _ _ hr ⟨Nat.zero_le _, Nat.zero_le _⟩ (fun c hc => by cases hc)
      have n1 : (tvI (tF h 48 3) + 1).toInt = (tvI (tF h 48 3)).toInt + 1 := (zincN (n := (tvI (tF h 48 3)).toNatClampNeg) hcl.symm (by omega)).trans (by omega)
      intro q hq h10
      rw [t2, k3] at hq
      have hq : (q : Int) < (tvI (tF h 48 3) + 1).toInt := hq
      by_cases z : q = (tvI (tF h 48 3)).toNatClampNeg
      · have b2 : tO h2 50 q = some a0 := by rw [g2]; exact if_pos z
        have b3 : tO h2 51 q = some (a0 + 1) := by rw [g3]; exact if_pos z
        have s3 := arr_tag hB2 (p := 50) (q := q) rfl rfl h10 (by decide) b2
        have s4 := arr_tag hB2 (p := 51) (q := q) rfl rfl h10 (by decide) b3
        have n3 := tfr_v hB2 r2 s3 v1
        have n4 := tfr_v hB2 r2 s4 v2
        have eC : cArr h3 a0 = x.1.2.2 := (cArr_e (fun _ => n3.1) n3.2).trans g4
        have eL : tN h3 a0 = x.1.2.2.length := by rw [← eC, cArr_len]
        rw [← z] at m5 m8 m9
        refine ⟨a0, g1, by rw [t3]; exact b2, by rw [t4]; exact b3, ?_, ?_, fun i hi => ?_, ?_⟩
        · rw [eC, eL]
          exact m9
        · rw [n4.2, g5, m5]
        · rw [m5] at hi
          have y1 := m8 i hi
          have y2 := cCls_at g6 hi
          have y3 : cQd h3 (a0 + 1) i = cQd h2 (a0 + 1) i := by
            unfold cQd
            rw [n4.1]
          rw [y1] at y2
          have y4 := Option.some.inj y2
          refine ⟨by rw [y3, ← y4], ?_⟩
          rw [eC]
          exact i2 _ (List.mem_of_getElem? y1)
        · rw [eC]
          have := i1.1
          have := i1.2
          omega
      · have hq2 : (q : Int) < (tvI (tF h 48 3)).toInt := by rw [n1] at hq; omega
        obtain ⟨a, a1, a2, a3, k⟩ := hR q hq2 h10
        have b2 : tO h2 50 q = some a := by rw [g2]; exact (if_neg z).trans a2
        have b3 : tO h2 51 q = some (a + 1) := by rw [g3]; exact (if_neg z).trans a3
        exact ⟨a, a1, by rw [t3]; exact b2, by rw [t4]; exact b3, old q a hq2 h10 a1 a2 a3 k g7 b2 b3 (m7 q z).1⟩
theorem and_5 {A B C D E : Prop} (x : A ∧ B ∧ C ∧ D) (y : E) : A ∧ B ∧ C ∧ D ∧ E := ⟨x.1, x.2.1, x.2.2.1, x.2.2.2, y⟩
/-! counting by months -/
noncomputable def cN (w tl : Nat → Int) : Nat → Nat → Int
  | 0, _ => 0
  | n + 1, t => cN w tl n t + (if tl n = (t : Int) then w n else 0)
noncomputable def bN (w tl : Nat → Int) : Nat → Int → Int
  | 0, _ => 0
  | n + 1, t => bN w tl n t + (if tl n ≤ t then w n else 0)
noncomputable def aU (f : Nat → Int) : Nat → Int
  | 0 => f 0
  | t + 1 => aU f t + f (t + 1)
theorem aU_add (f g : Nat → Int) (m : Nat) : aU (fun t => f t + g t) m = aU f m + aU g m := by
  induction m with
  | zero => rfl
  | succ m ih =>
    show aU (fun t => f t + g t) m + (f (m + 1) + g (m + 1)) = aU f m + f (m + 1) + (aU g m + g (m + 1))
    rw [ih]
    omega
theorem aU_ite {c x : Int} (hc : 0 ≤ c) (m : Nat) : aU (fun t => if c = (t : Int) then x else 0) m = if c ≤ (m : Int) then x else 0 := by
  induction m with
  | zero =>
    show (if c = ((0 : Nat) : Int) then x else 0) = _
    by_cases h : c = ((0 : Nat) : Int)
    · rw [if_pos h, if_pos (by omega)]
    · rw [if_neg h, if_neg (by omega)]
  | succ m ih =>
    show aU (fun t => if c = (t : Int) then x else 0) m + (if c = ((m + 1 : Nat) : Int) then x else 0) = _
    rw [ih]
    by_cases h : c ≤ (m : Int)
    · rw [if_pos h, if_neg (by omega), if_pos (by omega), Int.add_zero]
    · rw [if_neg h]
      by_cases h2 : c = ((m + 1 : Nat) : Int)
      · rw [if_pos h2, if_pos (by omega), Int.zero_add]
      · rw [if_neg h2, if_neg (by omega), Int.zero_add]
theorem aU_0 (m : Nat) : aU (fun _ => 0) m = 0 := by
  induction m with
  | zero => rfl
  | succ m ih =>
    show aU (fun _ => 0) m + 0 = 0
    rw [ih]
    rfl
theorem aU_cN {w tl : Nat → Int} {n : Nat} (h : ∀ i, i < n → 0 ≤ tl i) (m : Nat) : aU (cN w tl n) m = bN w tl n m := by
  induction n with
  | zero => exact aU_0 m
  | succ n ih =>
    show aU (fun t => cN w tl n t + (if tl n = (t : Int) then w n else 0)) m = bN w tl n m + (if tl n ≤ (m : Int) then w n else 0)
    rw [aU_add, ih (fun i hi => h i (by omega)), aU_ite (h n (by omega))]
theorem bN_b {w tl : Nat → Int} {B : Int} {n : Nat} (h : ∀ i, i < n → 0 ≤ w i ∧ w i ≤ B) (hB : 0 ≤ B) (m : Int) : 0 ≤ bN w tl n m ∧ bN w tl n m ≤ B * n := by
  induction n with
  | zero => exact ⟨Int.le_refl _, by rw [Int.mul_comm]; show (0 : Int) ≤ 0 * B; rw [Int.zero_mul]; exact Int.le_refl _⟩
  | succ n ih =>
    have y := ih (fun i hi => h i (by omega))
    have z := h n (by omega)
    have e : B * ((n + 1 : Nat) : Int) = B * n + B := by rw [Int.natCast_add, Int.mul_add]; show _ + B * 1 = _; rw [Int.mul_one]
    show 0 ≤ bN w tl n m + (if tl n ≤ m then w n else 0) ∧ bN w tl n m + (if tl n ≤ m then w n else 0) ≤ _
    rw [e]
    by_cases q : tl n ≤ m
    · rw [if_pos q]; omega
    · rw [if_neg q]; omega
theorem cN_b {w tl : Nat → Int} {B : Int} {n : Nat} (h : ∀ i, i < n → 0 ≤ w i ∧ w i ≤ B) (hB : 0 ≤ B) (m : Nat) : 0 ≤ cN w tl n m ∧ cN w tl n m ≤ B * n := by
  induction n with
  | zero => exact ⟨Int.le_refl _, by rw [Int.mul_comm]; show (0 : Int) ≤ 0 * B; rw [Int.zero_mul]; exact Int.le_refl _⟩
  | succ n ih =>
    have y := ih (fun i hi => h i (by omega))
    have z := h n (by omega)
    have e : B * ((n + 1 : Nat) : Int) = B * n + B := by rw [Int.natCast_add, Int.mul_add]; show _ + B * 1 = _; rw [Int.mul_one]
    show 0 ≤ cN w tl n m + (if tl n = (m : Int) then w n else 0) ∧ cN w tl n m + (if tl n = (m : Int) then w n else 0) ≤ _
    rw [e]
    by_cases q : tl n = (m : Int)
    · rw [if_pos q]; omega
    · rw [if_neg q]; omega
theorem cN_y {w tl : Nat → Int} {n t : Nat} (h : tl n = (t : Int)) : cN w tl (n + 1) t = cN w tl n t + w n := by
  show cN w tl n t + (if tl n = (t : Int) then w n else 0) = _
  rw [if_pos h]
theorem cN_n {w tl : Nat → Int} {n t : Nat} (h : tl n = (t : Int) → w n = 0) : cN w tl (n + 1) t = cN w tl n t := by
  show cN w tl n t + (if tl n = (t : Int) then w n else 0) = _
  by_cases q : tl n = (t : Int)
  · rw [if_pos q, h q, Int.add_zero]
  · rw [if_neg q, Int.add_zero]
theorem bN_e {w w2 tl tl2 : Nat → Int} {n : Nat} {t : Int} (h : ∀ i, i < n → w i = w2 i ∧ tl i = tl2 i) : bN w tl n t = bN w2 tl2 n t := by
  induction n with
  | zero => rfl
  | succ n ih =>
    show bN w tl n t + (if tl n ≤ t then w n else 0) = bN w2 tl2 n t + (if tl2 n ≤ t then w2 n else 0)
    rw [ih (fun i hi => h i (by omega)), (h n (by omega)).1, (h n (by omega)).2]
/-! an int array is written, the rest stays -/
noncomputable def mIs (p i : Nat) (x : Int32) (h h3 : zH) : Prop := tSh h3 ∧ tF h3 = tF h ∧ tJ h3 = tJ h ∧ tO h3 = tO h ∧ tN h3 = tN h ∧ tA h3 = fun q j => if q = p ∧ j = i then x else tA h q j
noncomputable def aFr (P : Nat → Prop) (h h2 : zH) : Prop := tSh h2 ∧ tF h2 = tF h ∧ tJ h2 = tJ h ∧ tO h2 = tO h ∧ tN h2 = tN h ∧ ∀ q, ¬ P q → tA h2 q = tA h q
section AFR
variable {h h1 h2 h3 : zH} {P : Nat → Prop} {p i : Nat} {x : Int32}
theorem aFr_r (hs : tSh h) : aFr P h h := ⟨hs, rfl, rfl, rfl, rfl, fun _ _ => rfl⟩
theorem aFr_t (a : aFr P h h1) (k : aFr P h1 h2) : aFr P h h2 := ⟨k.1, k.2.1.trans a.2.1, k.2.2.1.trans a.2.2.1, k.2.2.2.1.trans a.2.2.2.1, k.2.2.2.2.1.trans a.2.2.2.2.1, fun q hq => (k.2.2.2.2.2 q hq).trans (a.2.2.2.2.2 q hq)⟩
theorem aFr_m {R : Nat → Prop} (a : aFr P h h1) (hR : ∀ q, P q → R q) : aFr R h h1 := ⟨a.1, a.2.1, a.2.2.1, a.2.2.2.1, a.2.2.2.2.1, fun q hq => a.2.2.2.2.2 q (fun z => hq (hR q z))⟩
theorem aFr_s (a : aFr P h h1) (k : mIs p i x h1 h3) (hp : P p) : aFr P h h3 := aFr_t a ⟨k.1, k.2.1, k.2.2.1, k.2.2.2.1, k.2.2.2.2.1, fun q hq => by rw [k.2.2.2.2.2]; funext j; exact if_neg (fun z => hq (by rw [z.1]; exact hp))⟩
theorem mIs_x (k : mIs p i x h1 h3) : tA h3 p i = x := by rw [k.2.2.2.2.2]; exact if_pos ⟨rfl, rfl⟩
theorem mIs_o {q j : Nat} (k : mIs p i x h1 h3) (hn : q ≠ p ∨ j ≠ i) : tA h3 q j = tA h1 q j := by rw [k.2.2.2.2.2]; exact if_neg (fun z => hn.elim (fun y => y z.1) (fun y => y z.2))
theorem tG_lsi {tt : zT} {G : zG} {cd : zK} {bc bs : Nat} {rt : Option FieldType} {M : zM} {Q : zQ} {Z : zX} {f : Bool} {pc : Nat} {L : zL} {st : List Value} {c n kd : Nat} {i : Int32} (hf : tIn h p kd i) (hs : tSh h) (k : ∀ h3, mIs p i.toNatClampNeg x h h3 → tG tt G cd bc bs rt M Q Z f pc L st h3 c n) : tG tt G cd bc bs rt M Q Z f pc L st (tSA h p i.toNatClampNeg x) c n := k _ ⟨tSh_SA hs, tF_tSA _ _ _ _, tJ_tSA _ _ _ _, tO_tSA _ _ _ _, tN_tSA _ _ _ _, tA_tSA hf.cell _ _⟩
end AFR
theorem zadI {x y : Int32} (h : -2147483648 ≤ x.toInt + y.toInt ∧ x.toInt + y.toInt ≤ 2147483647) : (x + y).toInt = x.toInt + y.toInt := by
  rw [Int32.toInt_add]
  exact Int.bmod_eq_of_le (by show (-2147483648 : Int) ≤ x.toInt + y.toInt; omega) (by show x.toInt + y.toInt < (2147483648 : Int); omega)
theorem aU_i (f : Nat → Int) (t : Nat) : f t = if t ≤ 0 then aU f t else f t := by
  by_cases h : t ≤ 0
  · rw [if_pos h]
    obtain rfl : t = 0 := by omega
    rfl
  · rw [if_neg h]
theorem wIte {p : Prop} [Decidable p] {x B : Int} (h : 0 ≤ x ∧ x ≤ B) : 0 ≤ (if p then x else 0) ∧ (if p then x else 0) ≤ B := by
  by_cases q : p
  · rw [if_pos q]; exact h
  · rw [if_neg q]; omega
/-- cars of a kind; fires and deaths of a kind -/
noncomputable def wK (h : zH) (k : Int32) (i : Nat) : Int := if tA h 121 i = k then 1 else 0
noncomputable def tK9 (h : zH) (i : Nat) : Int := (tA h 123 i).toInt
noncomputable def wF (h : zH) (k : Int32) (i : Nat) : Int := if tA h 65 i = k ∧ ¬ tA h 71 i = 0 then 1 else 0
noncomputable def wD (h : zH) (k : Int32) (i : Nat) : Int := if tA h 65 i = k ∧ ¬ tA h 71 i = 0 then (tA h 70 i).toInt else 0
noncomputable def tF9 (h : zH) (i : Nat) : Int := (tA h 67 i).toInt
theorem zadU {x y : Int32} {a b : Int} (hx : x.toInt = a) (hy : y.toInt = b) (h : 0 ≤ a ∧ a ≤ 100000000 ∧ 0 ≤ b ∧ b ≤ 100000000) : (x + y).toInt = a + b := by rw [zadI (by omega), hx, hy]
theorem f_fillI {G : zG} (hG : G.1 = zProg) {h : zH} {p : Nat} {x : Int32} (hs : tSh h) (hN : tN h p ≤ 1000) : tC zTt G 282 [.ref p, .int x] h (fun w h2 => w = none ∧ aFr (fun r => r = p) h h2 ∧ ∀ t, t < tN h p → tA h2 p t = x) := by
  refine tC_in (by rw [hG]; rfl) (fun dp => ?_)
  have hl : (Int32.ofNat (tN h p)).toInt = ((tN h p : Nat) : Int) := yofN (by omega)
  refine tw_push rfl ?_
  refine tw_istore rfl ?_
  refine tw_aload rfl rfl ?_
  refine tw_alen rfl ?_
  refine tw_istore rfl ?_
  refine tG_loop (zW_mono zTt G dp) (zW_conj zTt G dp) (V := fun pc L st h9 _ _ => pc = 5 ∧ st = [] ∧ ∃ (h1 : zH) (k : Nat) (z : Int32), h1 = h9 ∧ aFr (fun r => r = p) h h1 ∧ z.toInt = (k : Int) ∧ (∀ t, t < k → tA h1 p t = x) ∧ L = [some (.ref p), some (.int x), some (.int z), some (.int (Int32.ofNat (tN h p)))]) ?_ (⟨rfl, rfl, h, 0, 0, rfl, aFr_r hs, rfl, fun t ht => absurd ht (Nat.not_lt_zero _), rfl⟩)
  rintro _ _ _ _ _ _ ⟨rfl, rfl, h1, k, z, rfl, hF, hz, hall, rfl⟩
  refine tw_iload rfl rfl ?_
  refine tw_iload rfl rfl ?_
  refine tw_ic_ge rfl (fun q1040 => ?_) (fun q1040 => ?_)
  · try dsimp only [tvI_i, tvJ_j, tvR_r] at q1040
    exact tw_vret rfl ⟨rfl, hF, fun t ht => hall t (by omega)⟩
  · try dsimp only [tvI_i, tvJ_j, tvR_r] at q1040
    refine tw_aload rfl rfl ?_
    refine tw_iload rfl rfl ?_
    refine tw_iload rfl rfl ?_
    refine tw_iast rfl (fun f1041 => ?_)
    refine tG_lsi f1041 hF.1 (fun h3 a3 => ?_)
    try dsimp only [tvI_i, tvJ_j, tvR_r] at a3
    have hF3 := aFr_s hF a3 rfl
    refine tw_iinc rfl rfl ?_
    refine tw_goto rfl ?_
    have hk1 : (z + 1).toInt = ((k + 1 : Nat) : Int) := zincN hz (by omega)
    rw [zof_cl hz] at a3
    exact tG_cut (zW_mono zTt G dp) (Or.inr ⟨rfl, rfl, h3, k + 1, z + 1, rfl, hF3, hk1, fun t ht => (Classical.em (t = k)).elim (fun y => by rw [y]; exact mIs_x a3) (fun y => (mIs_o a3 (Or.inr y)).trans (hall t (by omega))), rfl⟩)
theorem f_addUp {G : zG} (hG : G.1 = zProg) {h : zH} {p : Nat} {f : Nat → Int} (hs : tSh h) (hN : 1 ≤ tN h p ∧ tN h p ≤ 1000) (hf : ∀ t, t < tN h p → (tA h p t).toInt = f t) (hb : ∀ t, t < tN h p → 0 ≤ aU f t ∧ aU f t ≤ 100000000) : tC zTt G 169 [.ref p] h (fun w h2 => w = none ∧ aFr (fun r => r = p) h h2 ∧ ∀ t, t < tN h p → (tA h2 p t).toInt = aU f t) := by
  refine tC_in (by rw [hG]; rfl) (fun dp => ?_)
  refine tw_push rfl ?_
  refine tw_istore rfl ?_
  refine tG_loop (zW_mono zTt G dp) (zW_conj zTt G dp) (V := fun pc L st h9 _ _ => pc = 2 ∧ st = [] ∧ ∃ (h1 : zH) (k : Nat) (z : Int32), h1 = h9 ∧ aFr (fun r => r = p) h h1 ∧ z.toInt = ((k + 1 : Nat) : Int) ∧ (∀ t, t < tN h p → (tA h1 p t).toInt = if t ≤ k then aU f t else f t) ∧ L = [some (.ref p), some (.int z)]) ?_ (⟨rfl, rfl, h, 0, 1, rfl, aFr_r hs, rfl, fun t ht => (hf t ht).trans (aU_i f t), rfl⟩)
  rintro _ _ _ _ _ _ ⟨rfl, rfl, h1, k, z, rfl, hF, hz, hall, rfl⟩
  have hl : (Int32.ofNat (tN h1 p)).toInt = ((tN h p : Nat) : Int) := by rw [hF.2.2.2.2.1]; exact yofN (by omega)
  refine tw_iload rfl rfl ?_
  refine tw_aload rfl rfl ?_
  refine tw_alen rfl ?_
  refine tw_ic_ge rfl (fun q1042 => ?_) (fun q1042 => ?_)
  · try dsimp only [tvI_i, tvJ_j, tvR_r] at q1042
    refine tw_vret rfl ⟨rfl, hF, fun t ht => ?_⟩
    rw [hall t ht, if_pos (by omega)]
  · try dsimp only [tvI_i, tvJ_j, tvR_r] at q1042
    have hk9 : k + 1 < tN h p := by omega
    have z0 : z.toNatClampNeg = k + 1 := zof_cl hz
    have z1 : (z - 1).toNatClampNeg = k := zof_cl ((zsbM (b := 1) hz rfl (by omega) (by decide)).trans (by omega))
    have u0 := hall (k + 1) hk9
    rw [if_neg (by omega)] at u0
    have u1 := hall k (by omega)
    rw [if_pos (Nat.le_refl _)] at u1
    have b1 := hb k (by omega)
    have b2 := hb (k + 1) hk9
    have b3 : aU f (k + 1) = aU f k + f (k + 1) := rfl
    refine tw_aload rfl rfl ?_
    refine tw_iload rfl rfl ?_
    refine tw_dup2 rfl ?_
    refine tw_iald rfl (fun f1043 => ?_)
    refine tw_aload rfl rfl ?_
    refine tw_iload rfl rfl ?_
    refine tw_push rfl ?_
    refine tw_isub rfl ?_
    refine tw_iald rfl (fun f1044 => ?_)
    refine tw_iadd rfl ?_
    refine tw_iast rfl (fun f1045 => ?_)
    refine tG_lsi f1045 hF.1 (fun h3 a3 => ?_)
    try dsimp only [tvI_i, tvJ_j, tvR_r] at a3
    have hF3 := aFr_s hF a3 rfl
    refine tw_iinc rfl rfl ?_
    refine tw_goto rfl ?_
    rw [z0, z1] at a3
    have hx9 : (tA h3 p (k + 1)).toInt = aU f (k + 1) := by rw [mIs_x a3, zadI (by omega)]; omega
    have hk1 : (z + 1).toInt = ((k + 1 + 1 : Nat) : Int) := zincN hz (by omega)
    refine tG_cut (zW_mono zTt G dp) (Or.inr ⟨rfl, rfl, h3, k + 1, z + 1, rfl, hF3, hk1, fun t ht => ?_, rfl⟩)
    by_cases y : t = k + 1
    · rw [y, hx9, if_pos (Nat.le_refl _)]
    · rw [mIs_o a3 (Or.inr y), hall t ht]
      by_cases y2 : t ≤ k
      · rw [if_pos y2, if_pos (by omega)]
      · rw [if_neg y2, if_neg (by omega)]
theorem f_countCars {G : zG} (hG : G.1 = zProg) {h : zH} {k : Int32} (hs : tSh h) (hL : R_cl h) (hg : ∀ i r : Nat, (i : Int) < (tvI (tF h 36 4)).toInt → tO h 39 i = some r → 182 ≤ r) (hK : R_ckind h) (hT : R_ctl h) (hn : tN h 107 = 600) (h123 : ∀ i, i < 300 → 0 ≤ (tA h 123 i).toInt ∧ (tA h 123 i).toInt ≤ 599) (h36 : 0 ≤ (tvI (tF h 36 4)).toInt ∧ (tvI (tF h 36 4)).toInt ≤ 300) : tC zTt G 23 [.ref 36, .int k, .ref 107] h (fun w h2 => w = none ∧ aFr (fun r => r = 107) h h2 ∧ ∀ t : Nat, t < 600 → (tA h2 107 t).toInt = bN (wK h k) (tK9 h) (tvI (tF h 36 4)).toNatClampNeg t) := by
  refine tC_in (by rw [hG]; rfl) (fun dp => ?_)
  have hNC : (((tvI (tF h 36 4)).toNatClampNeg : Nat) : Int) = (tvI (tF h 36 4)).toInt := zclx h36.1
  have hw1 : ∀ i, i < (tvI (tF h 36 4)).toNatClampNeg → 0 ≤ wK h k i ∧ wK h k i ≤ 1 := fun i _ => wIte ⟨by decide, by decide⟩
  have ht0 : ∀ i, i < (tvI (tF h 36 4)).toNatClampNeg → 0 ≤ tK9 h i := fun i hi => (h123 i (by rw [zclE] at hi; omega)).1
  refine tw_aload rfl rfl ?_
  refine tw_push rfl ?_
  refine tw_stat2 rfl (f_fillI hG hs (by rw [hn]; decide)) (fun wp1046 hp1046 p1046 => ?_)
  obtain ⟨rfl, Fp1046, Zp1046⟩ := p1046
  rw [hn] at Zp1046
  refine tw_push rfl ?_
  refine tw_istore rfl ?_
  refine tG_loop (zW_mono zTt G dp) (zW_conj zTt G dp) (V := fun pc L st h9 _ _ => pc = 7 ∧ st = [] ∧ ∃ (h1 : zH) (n : Nat) (z : Int32) (l4 : Option Value), h1 = h9 ∧ aFr (fun r => r = 107) h h1 ∧ z.toInt = (n : Int) ∧ (n : Int) ≤ (tvI (tF h 36 4)).toInt ∧ (∀ t, t < 600 → (tA h1 107 t).toInt = cN (wK h k) (tK9 h) n t) ∧ L = [some (.ref 36), some (.int k), some (.ref 107), some (.int z), l4]) ?_ (⟨rfl, rfl, _, 0, 0, none, rfl, Fp1046, rfl, h36.1, fun t ht => by rw [Zp1046 t ht]; rfl, rfl⟩)
  rintro _ _ _ _ _ _ ⟨rfl, rfl, h1, n, z, l4, rfl, hF, hz, hnn, hall, rfl⟩
  have hL1 : R_cl h1 := by unfold R_cl; rw [hF.2.1, hF.2.2.2.1]; exact hL
  have hg1 : ∀ i r : Nat, (i : Int) < (tvI (tF h1 36 4)).toInt → tO h1 39 i = some r → 182 ≤ r := by rw [hF.2.1, hF.2.2.2.1]; exact hg
  have hK1 : R_ckind h1 := fun i r hi hr => by rw [hF.2.1, hF.2.2.2.2.2 121 (by decide)]; rw [hF.2.1] at hi; rw [hF.2.2.2.1] at hr; exact hK i r hi hr
  have hT1 : R_ctl h1 := fun i r hi hr => by rw [hF.2.1, hF.2.2.2.2.2 123 (by decide)]; rw [hF.2.1] at hi; rw [hF.2.2.2.1] at hr; exact hT i r hi hr
  have e36 : (tvI (tF h1 36 4)).toInt = (tvI (tF h 36 4)).toInt := by rw [hF.2.1]
  refine tw_iload rfl rfl ?_
  refine tw_aload rfl rfl ?_
  refine tw_getS rfl (hi_36_4 hF.1) ?_
  refine tw_ic_ge rfl (fun q1047 => ?_) (fun q1047 => ?_)
  · try dsimp only [tvI_i, tvJ_j, tvR_r] at q1047
    refine tw_aload rfl rfl ?_
    have hnN : n = (tvI (tF h 36 4)).toNatClampNeg := by rw [zclE]; omega
    refine tw_stat1 rfl (f_addUp hG hF.1 (f := cN (wK h k) (tK9 h) (tvI (tF h 36 4)).toNatClampNeg) (by rw [hF.2.2.2.2.1, hn]; decide) (by rw [hF.2.2.2.2.1, hn]; exact fun t ht => (hall t ht).trans (by rw [hnN])) (by rw [hF.2.2.2.2.1, hn]; exact fun t ht => by rw [aU_cN ht0]; have y := bN_b (B := 1) (tl := tK9 h) (n := (tvI (tF h 36 4)).toNatClampNeg) hw1 (by decide) (t : Int); omega)) (fun wp1048 hp1048 p1048 => ?_)
    obtain ⟨rfl, Fp1048, Zp1048⟩ := p1048
    rw [hF.2.2.2.2.1, hn] at Zp1048
    exact tw_vret rfl ⟨rfl, aFr_t hF Fp1048, fun t ht => (Zp1048 t ht).trans (aU_cN ht0 t)⟩
  · try dsimp only [tvI_i, tvJ_j, tvR_r] at q1047
    refine tw_aload rfl rfl ?_
    refine tw_iload rfl rfl ?_
    refine tw_virt1 rfl (f_carAtR hG hF.1 hL1 hg1) (fun w9 h9 p1049 => ?_)
    obtain ⟨⟨rp1049, p1049, p1049r, p1049g, rfl⟩ | ⟨p1049, rfl⟩, e9⟩ := p1049
    · obtain rfl := e9.symm
      refine tw_astore rfl ?_
      refine tw_aload rfl rfl ?_
      refine tw_ifnull rfl (fun z => by cases z) (fun _ _ => ?_)
      refine tw_aload rfl rfl ?_
      refine tw_getS rfl (hK1 _ _ p1049.2 p1049r) ?_
      refine tw_iload rfl rfl ?_
      refine tw_ic_ne rfl (fun q1052 => ?_) (fun q1052 => ?_)
      · try dsimp only [tvI_i, tvJ_j, tvR_r] at q1052
        have q1052i := zneq rfl q1052
        refine tw_iinc rfl rfl ?_
        refine tw_goto rfl ?_
        have hz1 : (z + 1).toInt = ((n + 1 : Nat) : Int) := zincN hz (by omega)
        have zn := zof_cl hz
        have e0 : tA h1 121 n = tA h 121 n := congrFun (hF.2.2.2.2.2 121 (by decide)) n
        rw [zn, e0] at q1052
        refine tG_cut (zW_mono zTt G dp) (Or.inr ⟨rfl, rfl, h1, n + 1, z + 1, _, rfl, hF, hz1, by omega, fun t ht => ?_, rfl⟩)
        rw [hall t ht, cN_n (fun _ => if_neg q1052)]
      · try dsimp only [tvI_i, tvJ_j, tvR_r] at q1052
        have q1052i := zeqi rfl q1052
        refine tw_aload rfl rfl ?_
        refine tw_aload rfl rfl ?_
        refine tw_getS rfl (hT1 _ _ p1049.2 p1049r) ?_
        refine tw_dup2 rfl ?_
        refine tw_iald rfl (fun f1053 => ?_)
        refine tw_push rfl ?_
        refine tw_iadd rfl ?_
        refine tw_iast rfl (fun f1054 => ?_)
        refine tG_lsi f1054 hF.1 (fun h3 a3 => ?_)
        try dsimp only [tvI_i, tvJ_j, tvR_r] at a3
        have hF3 := aFr_s hF a3 rfl
        refine tw_iinc rfl rfl ?_
        refine tw_goto rfl ?_
        have hz1 : (z + 1).toInt = ((n + 1 : Nat) : Int) := zincN hz (by omega)
        have zn := zof_cl hz
        have e0 : tA h1 121 n = tA h 121 n := congrFun (hF.2.2.2.2.2 121 (by decide)) n
        rw [zn, e0] at q1052
        have e1 : tA h1 123 n = tA h 123 n := congrFun (hF.2.2.2.2.2 123 (by decide)) n
        rw [zn, e1] at a3
        have b9 := h123 n (by omega)
        have t9 : (((tA h 123 n).toNatClampNeg : Nat) : Int) = tK9 h n := zclx b9.1
        refine tG_cut (zW_mono zTt G dp) (Or.inr ⟨rfl, rfl, h3, n + 1, z + 1, _, rfl, hF3, hz1, by omega, fun t ht => ?_, rfl⟩)
        by_cases y : t = (tA h 123 n).toNatClampNeg
        · rw [y, mIs_x a3, cN_y t9.symm, show wK h k n = 1 from if_pos q1052]
          have b8 := cN_b (B := 1) (tl := tK9 h) (n := n) (fun i hi => hw1 i (by rw [zclE]; omega)) (by decide) (tA h 123 n).toNatClampNeg
          exact zadU (hall _ (by omega)) rfl (by omega)
        · rw [mIs_o a3 (Or.inr y), hall t ht, cN_n (fun y2 => absurd (by omega) y)]
    · obtain rfl := e9.symm
      exact absurd ⟨by omega, by omega⟩ p1049
theorem f_countFires {G : zG} (hG : G.1 = zProg) {h : zH} {k : Int32} (hs : tSh h) (hn108 : tN h 108 = 600) (hn109 : tN h 109 = 600) (h67 : ∀ i, i < 200 → 0 ≤ (tA h 67 i).toInt ∧ (tA h 67 i).toInt ≤ 599) (h70 : ∀ i, i < 200 → 0 ≤ (tA h 70 i).toInt ∧ (tA h 70 i).toInt ≤ 9) (h63 : 0 ≤ (tvI (tF h 63 8)).toInt ∧ (tvI (tF h 63 8)).toInt ≤ 200) : tC zTt G 10 [.ref 63, .int k, .ref 108, .ref 109] h (fun w h2 => w = none ∧ aFr (fun r => r = 108 ∨ r = 109) h h2 ∧ (∀ t : Nat, t < 600 → (tA h2 108 t).toInt = bN (wF h k) (tF9 h) (tvI (tF h 63 8)).toNatClampNeg t) ∧ (∀ t : Nat, t < 600 → (tA h2 109 t).toInt = bN (wD h k) (tF9 h) (tvI (tF h 63 8)).toNatClampNeg t)) := by
  refine tC_in (by rw [hG]; rfl) (fun dp => ?_)
  have hNC : (((tvI (tF h 63 8)).toNatClampNeg : Nat) : Int) = (tvI (tF h 63 8)).toInt := zclx h63.1
  have hw108 : ∀ i, i < (tvI (tF h 63 8)).toNatClampNeg → 0 ≤ wF h k i ∧ wF h k i ≤ 1 := fun i _ => wIte ⟨by decide, by decide⟩
  have hw109 : ∀ i, i < (tvI (tF h 63 8)).toNatClampNeg → 0 ≤ wD h k i ∧ wD h k i ≤ 9 := fun i hi => wIte (h70 i (by rw [zclE] at hi; omega))
  have ht0 : ∀ i, i < (tvI (tF h 63 8)).toNatClampNeg → 0 ≤ tF9 h i := fun i hi => (h67 i (by rw [zclE] at hi; omega)).1
  refine tw_aload rfl rfl ?_
  refine tw_push rfl ?_
  refine tw_stat2 rfl (f_fillI hG hs (by rw [hn108]; decide)) (fun wp1055 hp1055 p1055 => ?_)
  obtain ⟨rfl, FF, Zp1055⟩ := p1055
  rw [hn108] at Zp1055
  refine tw_aload rfl rfl ?_
  refine tw_push rfl ?_
  refine tw_stat2 rfl (f_fillI hG FF.1 (by rw [FF.2.2.2.2.1]; rw [hn109]; decide)) (fun wp1056 hp1056 p1056 => ?_)
  obtain ⟨rfl, Fp1056, Zp1056⟩ := p1056
  rw [FF.2.2.2.2.1, hn109] at Zp1056
  refine tw_push rfl ?_
  refine tw_istore rfl ?_
  refine tG_loop (zW_mono zTt G dp) (zW_conj zTt G dp) (V := fun pc L st h9 _ _ => pc = 13 ∧ st = [] ∧ ∃ (h1 : zH) (n : Nat) (z : Int32), h1 = h9 ∧ aFr (fun r => r = 108 ∨ r = 109) h h1 ∧ z.toInt = (n : Int) ∧ (n : Int) ≤ (tvI (tF h 63 8)).toInt ∧ (∀ t, t < 600 → (tA h1 108 t).toInt = cN (wF h k) (tF9 h) n t) ∧ (∀ t, t < 600 → (tA h1 109 t).toInt = cN (wD h k) (tF9 h) n t) ∧ L = [some (.ref 63), some (.int k), some (.ref 108), some (.ref 109), some (.int z)]) ?_ (⟨rfl, rfl, _, 0, 0, rfl, aFr_t (aFr_m FF (fun _ y => Or.inl y)) (aFr_m Fp1056 (fun _ y => Or.inr y)), rfl, h63.1, fun t ht => by rw [congrFun (Fp1056.2.2.2.2.2 108 (by decide)) t, Zp1055 t ht]; rfl, fun t ht => by rw [Zp1056 t ht]; rfl, rfl⟩)
  rintro _ _ _ _ _ _ ⟨rfl, rfl, h1, n, z, rfl, hF, hz, hnn, hal8, hal9, rfl⟩
  have e63 : (tvI (tF h1 63 8)).toInt = (tvI (tF h 63 8)).toInt := by rw [hF.2.1]
  refine tw_iload rfl rfl ?_
  refine tw_aload rfl rfl ?_
  refine tw_getS rfl (hi_63_8 hF.1) ?_
  refine tw_ic_ge rfl (fun q1057 => ?_) (fun q1057 => ?_)
  · try dsimp only [tvI_i, tvJ_j, tvR_r] at q1057
    refine tw_aload rfl rfl ?_
    have hnN : n = (tvI (tF h 63 8)).toNatClampNeg := by rw [zclE]; omega
    refine tw_stat1 rfl (f_addUp hG hF.1 (f := cN (wF h k) (tF9 h) (tvI (tF h 63 8)).toNatClampNeg) (by rw [hF.2.2.2.2.1, hn108]; decide) (by rw [hF.2.2.2.2.1, hn108]; exact fun t ht => (hal8 t ht).trans (by rw [hnN])) (by rw [hF.2.2.2.2.1, hn108]; exact fun t ht => by rw [aU_cN ht0]; have y := bN_b (B := 1) (tl := tF9 h) (n := (tvI (tF h 63 8)).toNatClampNeg) hw108 (by decide) (t : Int); omega)) (fun wp1058 hp1058 p1058 => ?_)
    obtain ⟨rfl, FB, Z8⟩ := p1058
    rw [hF.2.2.2.2.1, hn108] at Z8
    have FA := aFr_t hF (aFr_m FB (fun _ y => Or.inl y))
    refine tw_aload rfl rfl ?_
    refine tw_stat1 rfl (f_addUp hG FA.1 (f := cN (wD h k) (tF9 h) (tvI (tF h 63 8)).toNatClampNeg) (by rw [FA.2.2.2.2.1, hn109]; decide) (by rw [FA.2.2.2.2.1, hn109]; exact fun t ht => ((congrArg Int32.toInt (congrFun (FB.2.2.2.2.2 109 (by decide)) t)).trans (hal9 t ht)).trans (by rw [hnN])) (by rw [FA.2.2.2.2.1, hn109]; exact fun t ht => by rw [aU_cN ht0]; have y := bN_b (B := 9) (tl := tF9 h) (n := (tvI (tF h 63 8)).toNatClampNeg) hw109 (by decide) (t : Int); omega)) (fun wp1059 hp1059 p1059 => ?_)
    obtain ⟨rfl, FC, Z9⟩ := p1059
    rw [FA.2.2.2.2.1, hn109] at Z9
    exact tw_vret rfl ⟨rfl, aFr_t FA (aFr_m FC (fun _ y => Or.inr y)), fun t ht => (congrArg Int32.toInt (congrFun (FC.2.2.2.2.2 108 (by decide)) t)).trans ((Z8 t ht).trans (aU_cN ht0 t)), fun t ht => (Z9 t ht).trans (aU_cN ht0 t)⟩
  · try dsimp only [tvI_i, tvJ_j, tvR_r] at q1057
    have zn := zof_cl hz
    have e65 : tA h1 65 n = tA h 65 n := congrFun (hF.2.2.2.2.2 65 (by decide)) n
    have e67 : tA h1 67 n = tA h 67 n := congrFun (hF.2.2.2.2.2 67 (by decide)) n
    have e70 : tA h1 70 n = tA h 70 n := congrFun (hF.2.2.2.2.2 70 (by decide)) n
    have e71 : tA h1 71 n = tA h 71 n := congrFun (hF.2.2.2.2.2 71 (by decide)) n
    have b9 := h67 n (by omega)
    have b7 := h70 n (by omega)
    have t9 : (((tA h 67 n).toNatClampNeg : Nat) : Int) = tF9 h n := zclx b9.1
    have hz1 : (z + 1).toInt = ((n + 1 : Nat) : Int) := zincN hz (by omega)
    refine tw_aload rfl rfl ?_
    refine tw_getS rfl (hs_63_1 hF.1) ?_
    refine tw_iload rfl rfl ?_
    refine tw_iald rfl (fun f1060 => ?_)
    refine tw_iload rfl rfl ?_
    refine tw_ic_ne rfl (fun q1061 => ?_) (fun q1061 => ?_)
    · try dsimp only [tvI_i, tvJ_j, tvR_r] at q1061
      have q1061i := zneq rfl q1061
      refine tw_iinc rfl rfl ?_
      refine tw_goto rfl ?_
      rw [zn, e65] at q1061
      refine tG_cut (zW_mono zTt G dp) (Or.inr ⟨rfl, rfl, h1, n + 1, z + 1, rfl, hF, hz1, by omega, fun t ht => ?_, fun t ht => ?_, rfl⟩)
      · rw [hal8 t ht, cN_n (fun _ => if_neg (fun y => q1061 y.1))]
      · rw [hal9 t ht, cN_n (fun _ => if_neg (fun y => q1061 y.1))]
    · try dsimp only [tvI_i, tvJ_j, tvR_r] at q1061
      have q1061i := zeqi rfl q1061
      refine tw_aload rfl rfl ?_
      refine tw_getS rfl (hs_63_7 hF.1) ?_
      refine tw_iload rfl rfl ?_
      refine tw_bald rfl (fun f1062 => ?_)
      refine tw_if_eq rfl (fun q1063 => ?_) (fun q1063 => ?_)
      · try dsimp only [tvI_i, tvJ_j, tvR_r] at q1063
        have q1063i := zeqi (Y := 0) (by decide) q1063
        refine tw_iinc rfl rfl ?_
        refine tw_goto rfl ?_
        rw [zn, e65] at q1061
        rw [zn, e71] at q1063
        refine tG_cut (zW_mono zTt G dp) (Or.inr ⟨rfl, rfl, h1, n + 1, z + 1, rfl, hF, hz1, by omega, fun t ht => ?_, fun t ht => ?_, rfl⟩)
        · rw [hal8 t ht, cN_n (fun _ => if_neg (fun y => y.2 q1063))]
        · rw [hal9 t ht, cN_n (fun _ => if_neg (fun y => y.2 q1063))]
      · try dsimp only [tvI_i, tvJ_j, tvR_r] at q1063
        have q1063i := zneq (Y := 0) (by decide) q1063
        refine tw_aload rfl rfl ?_
        refine tw_aload rfl rfl ?_
        refine tw_getS rfl (hs_63_3 hF.1) ?_
        refine tw_iload rfl rfl ?_
        refine tw_iald rfl (fun f1064 => ?_)
        refine tw_dup2 rfl ?_
        refine tw_iald rfl (fun f1065 => ?_)
        refine tw_push rfl ?_
        refine tw_iadd rfl ?_
        refine tw_iast rfl (fun f1066 => ?_)
        refine tG_lsi f1066 hF.1 (fun h3 a3 => ?_)
        try dsimp only [tvI_i, tvJ_j, tvR_r] at a3
        have hF3 := aFr_s hF a3 (Or.inl rfl)
        refine tw_aload rfl rfl ?_
        refine tw_aload rfl rfl ?_
        refine tw_getS rfl (hs_63_3 hF3.1) ?_
        refine tw_iload rfl rfl ?_
        refine tw_iald rfl (fun f1067 => ?_)
        refine tw_dup2 rfl ?_
        refine tw_iald rfl (fun f1068 => ?_)
        refine tw_aload rfl rfl ?_
        refine tw_getS rfl (hs_63_6 hF3.1) ?_
        refine tw_iload rfl rfl ?_
        refine tw_iald rfl (fun f1069 => ?_)
        refine tw_iadd rfl ?_
        refine tw_iast rfl (fun f1070 => ?_)
        refine tG_lsi f1070 hF3.1 (fun h4 a4 => ?_)
        try dsimp only [tvI_i, tvJ_j, tvR_r] at a4
        have hF4 := aFr_s hF3 a4 (Or.inr rfl)
        refine tw_iinc rfl rfl ?_
        refine tw_goto rfl ?_
        rw [zn, e65] at q1061
        rw [zn, e71] at q1063
        have hw8 : wF h k n = 1 := if_pos ⟨q1061, q1063⟩
        have hw9 : wD h k n = (tA h 70 n).toInt := if_pos ⟨q1061, q1063⟩
        rw [zn, e67] at a3
        have f67 : tA h3 67 n = tA h 67 n := (congrFun (hF3.2.2.2.2.2 67 (by decide)) n)
        have f70 : tA h3 70 n = tA h 70 n := (congrFun (hF3.2.2.2.2.2 70 (by decide)) n)
        rw [zn, f67, f70] at a4
        have b8 := cN_b (B := 1) (tl := tF9 h) (n := n) (fun i hi => hw108 i (by rw [zclE]; omega)) (by decide) (tA h 67 n).toNatClampNeg
        have b6 := cN_b (B := 9) (tl := tF9 h) (n := n) (fun i hi => hw109 i (by rw [zclE]; omega)) (by decide) (tA h 67 n).toNatClampNeg
        refine tG_cut (zW_mono zTt G dp) (Or.inr ⟨rfl, rfl, h4, n + 1, z + 1, rfl, hF4, hz1, by omega, fun t ht => ?_, fun t ht => ?_, rfl⟩)
        · rw [mIs_o a4 (Or.inl (by decide))]
          by_cases y : t = (tA h 67 n).toNatClampNeg
          · rw [y, mIs_x a3, cN_y t9.symm, hw8]
            exact zadU (hal8 _ (by omega)) rfl (by omega)
          · rw [mIs_o a3 (Or.inr y), hal8 t ht, cN_n (fun y2 => absurd (by omega) y)]
        · by_cases y : t = (tA h 67 n).toNatClampNeg
          · rw [y, mIs_x a4, cN_y t9.symm, hw9]
            exact zadU ((congrArg Int32.toInt (mIs_o a3 (Or.inl (by decide)))).trans (hal9 _ (by omega))) rfl (by omega)
          · rw [mIs_o a4 (Or.inr y), mIs_o a3 (Or.inl (by decide)), hal9 t ht, cN_n (fun y2 => absurd (by omega) y)]
theorem f_fillJ {G : zG} (hG : G.1 = zProg) {h : zH} {p : Nat} {x : Int64} (hs : tSh h) (hN : tN h p ≤ 1000) : tC zTt G 281 [.ref p, .long x] h (fun w h2 => w = none ∧ wFr p h h2 ∧ ∀ t, t < tN h p → tJ h2 p t = x) := by
  refine tC_in (by rw [hG]; rfl) (fun dp => ?_)
  have hl : (Int32.ofNat (tN h p)).toInt = ((tN h p : Nat) : Int) := yofN (by omega)
  refine tw_push rfl ?_
  refine tw_istore rfl ?_
  refine tw_aload rfl rfl ?_
  refine tw_alen rfl ?_
  refine tw_istore rfl ?_
  refine tG_loop (zW_mono zTt G dp) (zW_conj zTt G dp) (V := fun pc L st h9 _ _ => pc = 6 ∧ st = [] ∧ ∃ (h1 : zH) (k : Nat) (z : Int32), h1 = h9 ∧ wFr p h h1 ∧ z.toInt = (k : Int) ∧ (∀ t, t < k → tJ h1 p t = x) ∧ L = [some (.ref p), some (.long x), none, some (.int z), some (.int (Int32.ofNat (tN h p)))]) ?_ (⟨rfl, rfl, h, 0, 0, rfl, wFr_r hs, rfl, fun t ht => absurd ht (Nat.not_lt_zero _), rfl⟩)
  rintro _ _ _ _ _ _ ⟨rfl, rfl, h1, k, z, rfl, hF, hz, hall, rfl⟩
  refine tw_iload rfl rfl ?_
  refine tw_iload rfl rfl ?_
  refine tw_ic_ge rfl (fun q1071 => ?_) (fun q1071 => ?_)
  · try dsimp only [tvI_i, tvJ_j, tvR_r] at q1071
    exact tw_vret rfl ⟨rfl, hF, fun t ht => hall t (by omega)⟩
  · try dsimp only [tvI_i, tvJ_j, tvR_r] at q1071
    refine tw_aload rfl rfl ?_
    refine tw_iload rfl rfl ?_
    refine tw_lload rfl rfl ?_
    refine tw_last rfl (fun f1072 => ?_)
    refine tG_lst f1072 hF.1 (fun h3 a3 => ?_)
    try dsimp only [tvI_i, tvJ_j, tvR_r] at a3
    have hF3 := wFr_s hF a3
    refine tw_iinc rfl rfl ?_
    refine tw_goto rfl ?_
    have hk1 : (z + 1).toInt = ((k + 1 : Nat) : Int) := zincN hz (by omega)
    rw [zof_cl hz] at a3
    have ea := mJs_g a3 rfl
    exact tG_cut (zW_mono zTt G dp) (Or.inr ⟨rfl, rfl, h3, k + 1, z + 1, rfl, hF3, hk1, fun t ht => (congrFun ea t).trans ((Classical.em (t = k)).elim (fun y => if_pos y) (fun y => (if_neg y).trans (hall t (by omega)))), rfl⟩)
theorem wF_e {h h2 : zH} {k : Int32} (e1 : tA h2 65 = tA h 65) (e2 : tA h2 71 = tA h 71) : wF h2 k = wF h k := by
  funext i
  unfold wF
  rw [e1, e2]
theorem wD_e {h h2 : zH} {k : Int32} (e1 : tA h2 65 = tA h 65) (e2 : tA h2 71 = tA h 71) (e3 : tA h2 70 = tA h 70) : wD h2 k = wD h k := by
  funext i
  unfold wD
  rw [e1, e2, e3]
theorem tF9_e {h h2 : zH} (e1 : tA h2 67 = tA h 67) : tF9 h2 = tF9 h := by
  funext i
  unfold tF9
  rw [e1]
/-- what the class counts of a kind -/
noncomputable def tly (k : Int32) (h h2 : zH) : Prop := (∀ t : Nat, t < 600 → (tA h2 107 t).toInt = bN (wK h k) (tK9 h) (tvI (tF h 36 4)).toNatClampNeg t) ∧ (∀ t : Nat, t < 600 → (tA h2 108 t).toInt = bN (wF h k) (tF9 h) (tvI (tF h 63 8)).toNatClampNeg t) ∧ ∀ t : Nat, t < 600 → (tA h2 109 t).toInt = bN (wD h k) (tF9 h) (tvI (tF h 63 8)).toNatClampNeg t
theorem f_tally {G : zG} (hG : G.1 = zProg) {h : zH} {k : Int32} (hs : tSh h) (hL : R_cl h) (hg : ∀ i r : Nat, (i : Int) < (tvI (tF h 36 4)).toInt → tO h 39 i = some r → 182 ≤ r) (hK : R_ckind h) (hT : R_ctl h) (hn107 : tN h 107 = 600) (hn108 : tN h 108 = 600) (hn109 : tN h 109 = 600) (h123 : ∀ i, i < 300 → 0 ≤ (tA h 123 i).toInt ∧ (tA h 123 i).toInt ≤ 599) (h36 : 0 ≤ (tvI (tF h 36 4)).toInt ∧ (tvI (tF h 36 4)).toInt ≤ 300) (h67 : ∀ i, i < 200 → 0 ≤ (tA h 67 i).toInt ∧ (tA h 67 i).toInt ≤ 599) (h70 : ∀ i, i < 200 → 0 ≤ (tA h 70 i).toInt ∧ (tA h 70 i).toInt ≤ 9) (h63 : 0 ≤ (tvI (tF h 63 8)).toInt ∧ (tvI (tF h 63 8)).toInt ≤ 200) : tC zTt G 164 [.ref 0, .int k] h (fun w h2 => w = none ∧ aFr (fun r => r = 107 ∨ r = 108 ∨ r = 109) h h2 ∧ tly k h h2) := by
  refine tC_in (by rw [hG]; rfl) (fun dp => ?_)
  refine tw_aload rfl rfl ?_
  refine tw_getS rfl (hs_0_1 hs) ?_
  refine tw_iload rfl rfl ?_
  refine tw_aload rfl rfl ?_
  refine tw_getS rfl (hs_0_10 hs) ?_
  refine tw_virt2 rfl (f_countCars hG hs hL hg hK hT hn107 h123 h36) (fun wp1073 hp1073 p1073 => ?_)
  obtain ⟨rfl, FA, Z7⟩ := p1073
  have eA : ∀ p, p ≠ 107 → tA hp1073 p = tA h p := fun p hp => FA.2.2.2.2.2 p hp
  have eF : tF hp1073 = tF h := FA.2.1
  refine tw_aload rfl rfl ?_
  refine tw_getS rfl (hs_0_5 FA.1) ?_
  refine tw_iload rfl rfl ?_
  refine tw_aload rfl rfl ?_
  refine tw_getS rfl (hs_0_11 FA.1) ?_
  refine tw_aload rfl rfl ?_
  refine tw_getS rfl (hs_0_12 FA.1) ?_
  refine tw_virt3 rfl (f_countFires hG FA.1 (by rw [FA.2.2.2.2.1]; exact hn108) (by rw [FA.2.2.2.2.1]; exact hn109) (by rw [eA 67 (by decide)]; exact h67) (by rw [eA 70 (by decide)]; exact h70) (by rw [eF]; exact h63)) (fun wp1074 hp1074 p1074 => ?_)
  obtain ⟨rfl, FB, Z8, Z9⟩ := p1074
  rw [eF] at Z8 Z9
  rw [wF_e (eA 65 (by decide)) (eA 71 (by decide)), tF9_e (eA 67 (by decide))] at Z8
  rw [wD_e (eA 65 (by decide)) (eA 71 (by decide)) (eA 70 (by decide)), tF9_e (eA 67 (by decide))] at Z9
  exact tw_vret rfl ⟨rfl, aFr_t (aFr_m FA (fun _ y => Or.inl y)) (aFr_m FB (fun _ y => Or.inr y)), fun t ht => (congrArg Int32.toInt (congrFun (FB.2.2.2.2.2 107 (by decide)) t)).trans (Z7 t ht), Z8, Z9⟩
/-- the words of a kind in a month -/
noncomputable def qW (a b c d e f g : Int64) : Nat → Int64
  | 0 => a
  | 1 => b
  | 2 => c
  | 3 => d
  | 4 => e
  | 5 => f
  | 6 => g
  | _ => 0
theorem mJs_7 {h b0 b1 b2 b3 b4 b5 b6 b7 : zH} {x0 x1 x2 x3 x4 x5 x6 : Int64} {p : Nat} (k0 : ∀ t, t < 12 → tJ b0 p t = 0) (k1 : mJs p 0 x0 b0 b1) (k2 : mJs p 1 x1 b1 b2) (k3 : mJs p 2 x2 b2 b3) (k4 : mJs p 3 x3 b3 b4) (k5 : mJs p 4 x4 b4 b5) (k6 : mJs p 5 x5 b5 b6) (k7 : mJs p 6 x6 b6 b7) : ∀ i, i < 12 → tJ b7 p i = qW x0 x1 x2 x3 x4 x5 x6 i := by
  intro i hi
  rw [mJs_g k7 (mJs_g k6 (mJs_g k5 (mJs_g k4 (mJs_g k3 (mJs_g k2 (mJs_g k1 rfl))))))]
  have z := k0 i hi
  rcases (by omega : i = 0 ∨ i = 1 ∨ i = 2 ∨ i = 3 ∨ i = 4 ∨ i = 5 ∨ i = 6 ∨ (7 ≤ i ∧ i < 12)) with rfl | rfl | rfl | rfl | rfl | rfl | rfl | hi7
  · rfl
  · rfl
  · rfl
  · rfl
  · rfl
  · rfl
  · rfl
  · dsimp only
    rw [if_neg (by omega), if_neg (by omega), if_neg (by omega), if_neg (by omega), if_neg (by omega), if_neg (by omega), if_neg (by omega), z]
    rcases (by omega : i = 7 ∨ i = 8 ∨ i = 9 ∨ i = 10 ∨ i = 11) with rfl | rfl | rfl | rfl | rfl <;> rfl
theorem f_askOfKind {G : zG} (hG : G.1 = zProg) {h : zH} {k m y : Int32} (hs : tSh h) (h52 : tN h 52 = 12) : tC zTt G 165 [.ref 0, .int k, .int m, .int y] h (fun w h2 => w = none ∧ wFr 52 h h2 ∧ ∀ i, i < 12 → tJ h2 52 i = (qW m.toInt64 k.toInt64 (tA h 3 k.toNatClampNeg).toInt64 y.toInt64 (tA h 107 m.toNatClampNeg).toInt64 (tA h 108 m.toNatClampNeg).toInt64 (tA h 109 m.toNatClampNeg).toInt64) i) := by
  refine tC_in (by rw [hG]; rfl) (fun dp => ?_)
  refine tw_aload rfl rfl ?_
  refine tw_getS rfl (hs_0_3 hs) ?_
  refine tw_getS rfl (hs_48_4 hs) ?_
  refine tw_astore rfl ?_
  refine tw_aload rfl rfl ?_
  refine tw_push rfl ?_
  refine tw_stat2 rfl (f_fillJ hG hs (by rw [h52]; decide)) (fun wp1075 hp1075 p1075 => ?_)
  obtain ⟨rfl, G0, Z0⟩ := p1075
  rw [h52] at Z0
  refine tw_aload rfl rfl ?_
  refine tw_push rfl ?_
  refine tw_iload rfl rfl ?_
  refine tw_i2l rfl ?_
  refine tw_last rfl (fun f1076 => ?_)
  refine tG_lst f1076 G0.1 (fun b1 a1 => ?_)
  try dsimp only [tvI_i, tvJ_j, tvR_r] at a1
  have G1 := wFr_s G0 a1
  refine tw_aload rfl rfl ?_
  refine tw_push rfl ?_
  refine tw_iload rfl rfl ?_
  refine tw_i2l rfl ?_
  refine tw_last rfl (fun f1077 => ?_)
  refine tG_lst f1077 G1.1 (fun b2 a2 => ?_)
  try dsimp only [tvI_i, tvJ_j, tvR_r] at a2
  have G2 := wFr_s G1 a2
  refine tw_aload rfl rfl ?_
  refine tw_push rfl ?_
  refine tw_aload rfl rfl ?_
  refine tw_getS rfl (hs_0_0 G2.1) ?_
  refine tw_getS rfl (hs_1_1 G2.1) ?_
  refine tw_iload rfl rfl ?_
  refine tw_iald rfl (fun f1078 => ?_)
  refine tw_i2l rfl ?_
  refine tw_last rfl (fun f1079 => ?_)
  refine tG_lst f1079 G2.1 (fun b3 a3 => ?_)
  try dsimp only [tvI_i, tvJ_j, tvR_r] at a3
  have G3 := wFr_s G2 a3
  refine tw_aload rfl rfl ?_
  refine tw_push rfl ?_
  refine tw_iload rfl rfl ?_
  refine tw_i2l rfl ?_
  refine tw_last rfl (fun f1080 => ?_)
  refine tG_lst f1080 G3.1 (fun b4 a4 => ?_)
  try dsimp only [tvI_i, tvJ_j, tvR_r] at a4
  have G4 := wFr_s G3 a4
  refine tw_aload rfl rfl ?_
  refine tw_push rfl ?_
  refine tw_aload rfl rfl ?_
  refine tw_getS rfl (hs_0_10 G4.1) ?_
  refine tw_iload rfl rfl ?_
  refine tw_iald rfl (fun f1081 => ?_)
  refine tw_i2l rfl ?_
  refine tw_last rfl (fun f1082 => ?_)
  refine tG_lst f1082 G4.1 (fun b5 a5 => ?_)
  try dsimp only [tvI_i, tvJ_j, tvR_r] at a5
  have G5 := wFr_s G4 a5
  refine tw_aload rfl rfl ?_
  refine tw_push rfl ?_
  refine tw_aload rfl rfl ?_
  refine tw_getS rfl (hs_0_11 G5.1) ?_
  refine tw_iload rfl rfl ?_
  refine tw_iald rfl (fun f1083 => ?_)
  refine tw_i2l rfl ?_
  refine tw_last rfl (fun f1084 => ?_)
  refine tG_lst f1084 G5.1 (fun b6 a6 => ?_)
  try dsimp only [tvI_i, tvJ_j, tvR_r] at a6
  have G6 := wFr_s G5 a6
  refine tw_aload rfl rfl ?_
  refine tw_push rfl ?_
  refine tw_aload rfl rfl ?_
  refine tw_getS rfl (hs_0_12 G6.1) ?_
  refine tw_iload rfl rfl ?_
  refine tw_iald rfl (fun f1085 => ?_)
  refine tw_i2l rfl ?_
  refine tw_last rfl (fun f1086 => ?_)
  refine tG_lst f1086 G6.1 (fun b7 a7 => ?_)
  try dsimp only [tvI_i, tvJ_j, tvR_r] at a7
  have G7 := wFr_s G6 a7
  rw [congrFun G2.2.2.1 3] at a3
  rw [congrFun G4.2.2.1 107] at a5
  rw [congrFun G5.2.2.1 108] at a6
  rw [congrFun G6.2.2.1 109] at a7
  exact tw_vret rfl ⟨rfl, G7, mJs_7 (h := h) Z0 a1 a2 a3 a4 a5 a6 a7⟩
/-- the rule in force among the first n -/
noncomputable def sRI (fm : Nat → Int32) (m : Int32) : Nat → Int32
  | 0 => -1
  | n + 1 => if (fm n).toInt ≤ m.toInt ∧ (sRI fm m n = -1 ∨ (fm (sRI fm m n).toNatClampNeg).toInt ≤ (fm n).toInt) then Int32.ofNat n else sRI fm m n
section RI9
variable {fm : Nat → Int32} {m x y : Int32} {n : Nat}
theorem sRI_u : sRI fm m (n + 1) = if (fm n).toInt ≤ m.toInt ∧ (sRI fm m n = -1 ∨ (fm (sRI fm m n).toNatClampNeg).toInt ≤ (fm n).toInt) then Int32.ofNat n else sRI fm m n := rfl
theorem sRI_y (hx : x.toInt = n) (hy : y = sRI fm m n) (h1 : (fm x.toNatClampNeg).toInt ≤ m.toInt) (h2 : y = -1 ∨ (fm y.toNatClampNeg).toInt ≤ (fm x.toNatClampNeg).toInt) : x = sRI fm m (n + 1) := by
  rw [zof_cl hx] at h1 h2
  rw [sRI_u, ← hy, if_pos ⟨h1, h2⟩]
  exact zof hx
theorem sRI_n (hx : x.toInt = n) (hy : y = sRI fm m n) (h : ¬ ((fm x.toNatClampNeg).toInt ≤ m.toInt ∧ (y = -1 ∨ (fm y.toNatClampNeg).toInt ≤ (fm x.toNatClampNeg).toInt))) : y = sRI fm m (n + 1) := by
  rw [zof_cl hx] at h
  rw [sRI_u, ← hy, if_neg h]
end RI9
theorem f_ruleIn {G : zG} (hG : G.1 = zProg) {h : zH} {m : Int32} (hs : tSh h) (hn : 0 ≤ (tvI (tF h 48 3)).toInt) : tC zTt G 65 [.ref 48, .int m] h (fun w h2 => w = some (.int (sRI (tA h 49) m (tvI (tF h 48 3)).toNatClampNeg)) ∧ h2 = h) := by
  refine tC_in (by rw [hG]; rfl) (fun dp => ?_)
  refine tw_push rfl ?_
  refine tw_istore rfl ?_
  refine tw_push rfl ?_
  refine tw_istore rfl ?_
  refine tG_loop (zW_mono zTt G dp) (zW_conj zTt G dp) (V := fun pc L st h9 _ _ => pc = 4 ∧ st = [] ∧ h = h9 ∧ ∃ (n : Nat) (x y : Int32), x.toInt = n ∧ (n : Int) ≤ (tvI (tF h 48 3)).toInt ∧ y = sRI (tA h 49) m n ∧ L = [some (.ref 48), some (.int m), some (.int y), some (.int x)]) ?_ (⟨rfl, rfl, rfl, 0, 0, -1, rfl, hn, rfl, rfl⟩)
  rintro _ _ _ _ _ _ ⟨rfl, rfl, rfl, n, x, y, hx, hn, hy, rfl⟩
  refine tw_iload rfl rfl ?_
  refine tw_aload rfl rfl ?_
  refine tw_getS rfl (hi_48_3 hs) ?_
  refine tw_ic_ge rfl (fun q1087 => ?_) (fun q1087 => ?_)
  · try dsimp only [tvI_i, tvJ_j, tvR_r] at q1087
    refine tw_iload rfl rfl ?_
    exact tw_iret rfl ⟨(by rw [show n = (tvI (tF h 48 3)).toNatClampNeg from by rw [zclE]; omega] at hy; exact congrArg (fun z => some (Value.int z)) hy), rfl⟩
  · try dsimp only [tvI_i, tvJ_j, tvR_r] at q1087
    refine tw_aload rfl rfl ?_
    refine tw_getS rfl (hs_48_0 hs) ?_
    refine tw_iload rfl rfl ?_
    refine tw_iald rfl (fun f1088 => ?_)
    refine tw_iload rfl rfl ?_
    refine tw_ic_gt rfl (fun q1089 => ?_) (fun q1089 => ?_)
    · try dsimp only [tvI_i, tvJ_j, tvR_r] at q1089
      refine tw_iinc rfl rfl ?_
      refine tw_goto rfl ?_
      exact tG_cut (zW_mono zTt G dp) (Or.inr ⟨rfl, rfl, rfl, n + 1, x + 1, _, zincL hx q1087, by omega, sRI_n hx hy (fun z => absurd z.1 (by omega)), rfl⟩)
    · try dsimp only [tvI_i, tvJ_j, tvR_r] at q1089
      refine tw_iload rfl rfl ?_
      refine tw_push rfl ?_
      refine tw_ic_eq rfl (fun q1090 => ?_) (fun q1090 => ?_)
      · try dsimp only [tvI_i, tvJ_j, tvR_r] at q1090
        have q1090i := zeqi (Y := (-1)) (by decide) q1090
        refine tw_iload rfl rfl ?_
        refine tw_istore rfl ?_
        refine tw_iinc rfl rfl ?_
        refine tw_goto rfl ?_
        exact tG_cut (zW_mono zTt G dp) (Or.inr ⟨rfl, rfl, rfl, n + 1, x + 1, _, zincL hx q1087, by omega, sRI_y hx hy (by omega) (Or.inl q1090), rfl⟩)
      · try dsimp only [tvI_i, tvJ_j, tvR_r] at q1090
        have q1090i := zneq (Y := (-1)) (by decide) q1090
        refine tw_aload rfl rfl ?_
        refine tw_getS rfl (hs_48_0 hs) ?_
        refine tw_iload rfl rfl ?_
        refine tw_iald rfl (fun f1091 => ?_)
        refine tw_aload rfl rfl ?_
        refine tw_getS rfl (hs_48_0 hs) ?_
        refine tw_iload rfl rfl ?_
        refine tw_iald rfl (fun f1092 => ?_)
        refine tw_ic_lt rfl (fun q1093 => ?_) (fun q1093 => ?_)
        · try dsimp only [tvI_i, tvJ_j, tvR_r] at q1093
          refine tw_iinc rfl rfl ?_
          refine tw_goto rfl ?_
          exact tG_cut (zW_mono zTt G dp) (Or.inr ⟨rfl, rfl, rfl, n + 1, x + 1, _, zincL hx q1087, by omega, sRI_n hx hy (fun z => z.2.elim q1090 (fun z => absurd z (by omega))), rfl⟩)
        · try dsimp only [tvI_i, tvJ_j, tvR_r] at q1093
          refine tw_iload rfl rfl ?_
          refine tw_istore rfl ?_
          refine tw_iinc rfl rfl ?_
          refine tw_goto rfl ?_
          exact tG_cut (zW_mono zTt G dp) (Or.inr ⟨rfl, rfl, rfl, n + 1, x + 1, _, zincL hx q1087, by omega, sRI_y hx hy (by omega) (Or.inr (by omega)), rfl⟩)
theorem g_inForceIn {G : zG} (hG : G.1 = zProg) {h : zH} {m : Int32} (hs : tSh h) (hn : 0 ≤ (tvI (tF h 111 30)).toInt) : tC zTt G 226 [.ref 111, .int m] h (fun w h2 => w = some (.int (sRI (tA h 141) m (tvI (tF h 111 30)).toNatClampNeg)) ∧ h2 = h) := by
  refine tC_in (by rw [hG]; rfl) (fun dp => ?_)
  refine tw_push rfl ?_
  refine tw_istore rfl ?_
  refine tw_push rfl ?_
  refine tw_istore rfl ?_
  refine tG_loop (zW_mono zTt G dp) (zW_conj zTt G dp) (V := fun pc L st h9 _ _ => pc = 4 ∧ st = [] ∧ h = h9 ∧ ∃ (n : Nat) (x y : Int32), x.toInt = n ∧ (n : Int) ≤ (tvI (tF h 111 30)).toInt ∧ y = sRI (tA h 141) m n ∧ L = [some (.ref 111), some (.int m), some (.int y), some (.int x)]) ?_ (⟨rfl, rfl, rfl, 0, 0, -1, rfl, hn, rfl, rfl⟩)
  rintro _ _ _ _ _ _ ⟨rfl, rfl, rfl, n, x, y, hx, hn, hy, rfl⟩
  refine tw_iload rfl rfl ?_
  refine tw_aload rfl rfl ?_
  refine tw_getS rfl (hi_111_30 hs) ?_
  refine tw_ic_ge rfl (fun q1094 => ?_) (fun q1094 => ?_)
  · try dsimp only [tvI_i, tvJ_j, tvR_r] at q1094
    refine tw_iload rfl rfl ?_
    exact tw_iret rfl ⟨(by rw [show n = (tvI (tF h 111 30)).toNatClampNeg from by rw [zclE]; omega] at hy; exact congrArg (fun z => some (Value.int z)) hy), rfl⟩
  · try dsimp only [tvI_i, tvJ_j, tvR_r] at q1094
    refine tw_aload rfl rfl ?_
    refine tw_getS rfl (hs_111_44 hs) ?_
    refine tw_iload rfl rfl ?_
    refine tw_iald rfl (fun f1095 => ?_)
    refine tw_iload rfl rfl ?_
    refine tw_ic_gt rfl (fun q1096 => ?_) (fun q1096 => ?_)
    · try dsimp only [tvI_i, tvJ_j, tvR_r] at q1096
      refine tw_iload rfl rfl ?_
      refine tw_istore rfl ?_
      refine tw_iinc rfl rfl ?_
      refine tw_goto rfl ?_
      exact tG_cut (zW_mono zTt G dp) (Or.inr ⟨rfl, rfl, rfl, n + 1, x + 1, _, zincL hx q1094, by omega, sRI_n hx hy (fun z => absurd z.1 (by omega)), rfl⟩)
    · try dsimp only [tvI_i, tvJ_j, tvR_r] at q1096
      refine tw_iload rfl rfl ?_
      refine tw_push rfl ?_
      refine tw_ic_eq rfl (fun q1097 => ?_) (fun q1097 => ?_)
      · try dsimp only [tvI_i, tvJ_j, tvR_r] at q1097
        have q1097i := zeqi (Y := (-1)) (by decide) q1097
        refine tw_iload rfl rfl ?_
        refine tw_goto rfl ?_
        refine tw_istore rfl ?_
        refine tw_iinc rfl rfl ?_
        refine tw_goto rfl ?_
        exact tG_cut (zW_mono zTt G dp) (Or.inr ⟨rfl, rfl, rfl, n + 1, x + 1, _, zincL hx q1094, by omega, sRI_y hx hy (by omega) (Or.inl q1097), rfl⟩)
      · try dsimp only [tvI_i, tvJ_j, tvR_r] at q1097
        have q1097i := zneq (Y := (-1)) (by decide) q1097
        refine tw_aload rfl rfl ?_
        refine tw_getS rfl (hs_111_44 hs) ?_
        refine tw_iload rfl rfl ?_
        refine tw_iald rfl (fun f1098 => ?_)
        refine tw_aload rfl rfl ?_
        refine tw_getS rfl (hs_111_44 hs) ?_
        refine tw_iload rfl rfl ?_
        refine tw_iald rfl (fun f1099 => ?_)
        refine tw_ic_lt rfl (fun q1100 => ?_) (fun q1100 => ?_)
        · try dsimp only [tvI_i, tvJ_j, tvR_r] at q1100
          refine tw_iload rfl rfl ?_
          refine tw_istore rfl ?_
          refine tw_iinc rfl rfl ?_
          refine tw_goto rfl ?_
          exact tG_cut (zW_mono zTt G dp) (Or.inr ⟨rfl, rfl, rfl, n + 1, x + 1, _, zincL hx q1094, by omega, sRI_n hx hy (fun z => z.2.elim q1097 (fun z => absurd z (by omega))), rfl⟩)
        · try dsimp only [tvI_i, tvJ_j, tvR_r] at q1100
          refine tw_iload rfl rfl ?_
          refine tw_goto rfl ?_
          refine tw_istore rfl ?_
          refine tw_iinc rfl rfl ?_
          refine tw_goto rfl ?_
          exact tG_cut (zW_mono zTt G dp) (Or.inr ⟨rfl, rfl, rfl, n + 1, x + 1, _, zincL hx q1094, by omega, sRI_y hx hy (by omega) (Or.inr (by omega)), rfl⟩)
/-! what a rule tells, whichever words they are -/
theorem ev_w {W W2 : Nat → Int64} (hW : ∀ i, i < 12 → W i = W2 i) {e : List Nat} {S S1 : List Bool} {X : List Int64} (h : tyL S e = some S1) : ev W e X = ev W2 e X := by
  induction e generalizing S X with
  | nil => rfl
  | cons c e ih =>
    obtain ⟨S2, h1, h2⟩ := tyL_c h
    show ev W e (ev1 W c X) = ev W2 e (ev1 W2 c X)
    have e1 : ev1 W c X = ev1 W2 c X := by
      by_cases z : c < 100100
      · rw [ev_v z, ev_v z]
        have hc : c < 100012 := by
          unfold tyS at h1
          split at h1
          · assumption
          · repeat' (split at h1)
            all_goals first | omega | cases h1
        unfold vOf
        by_cases y : 100000 ≤ c
        · rw [if_pos y, if_pos y, hW _ (by omega)]
        · rw [if_neg y, if_neg y]
      · unfold ev1
        rw [if_neg z, if_neg z]
    rw [e1]
    exact ih h2
theorem wv_w {W W2 : Nat → Int64} (hW : ∀ i, i < 12 → W i = W2 i) {e : List Nat} {S1 : List Bool} (h : tyL [] e = some S1) : wv W e = wv W2 e := by
  unfold wv
  rw [ev_w hW h]
theorem hit_w {W W2 : Nat → Int64} (hW : ∀ i, i < 12 → W i = W2 i) {cs : List Nat} {c : rCt} {th : Nat} (ok : rOk cs c) (nv : nVl cs ≤ 80) : hit W cs c th ↔ hit W2 cs c th := by
  unfold hit
  by_cases z : c.2.2.1 = c.2.2.2
  · exact ⟨fun y => ⟨y.1, Or.inl z⟩, fun y => ⟨y.1, Or.inl z⟩⟩
  · rw [wv_w hW (rOk_t ok nv z).2.2.1]
noncomputable def clI (z : Int) : Int := if z < 0 then 0 else if 200 < z then 200 else z
/-- what the first clause of a thing tells, held between 0 and 200; -1 without one -/
noncomputable def muO (W : Nat → Int64) (cs : List Nat) (cl : Nat → rCt) (K th : Nat) (r : Int32) : Prop := (r = -1 ∧ ∀ i, i < K → ¬ hit W cs (cl i) th) ∨ ∃ i, i < K ∧ hit W cs (cl i) th ∧ (∀ j, j < i → ¬ hit W cs (cl j) th) ∧ r.toInt = clI (wv W (slc cs (cl i).2.1 (cl i).2.2.1)).toInt
theorem muO_u {W W2 : Nat → Int64} (hW : ∀ i, i < 12 → W i = W2 i) {cs : List Nat} {cl : Nat → rCt} {K th : Nat} {r r2 : Int32} (ok : ∀ i, i < K → rOk cs (cl i)) (nv : nVl cs ≤ 80) (h15 : th ≠ 15) (h1 : muO W cs cl K th r) (h2 : muO W2 cs cl K th r2) : r2 = r := by
  rcases h1 with ⟨rfl, a1⟩ | ⟨i, a1, a2, a3, a4⟩ <;> rcases h2 with ⟨rfl, b1⟩ | ⟨j, b1, b2, b3, b4⟩
  · rfl
  · exact absurd ((hit_w hW (ok j b1) nv).mpr b2) (a1 j b1)
  · exact absurd ((hit_w hW (ok i a1) nv).mp a2) (b1 i a1)
  · have e : i = j := by
      rcases Nat.lt_trichotomy i j with z | z | z
      · exact absurd ((hit_w hW (ok i a1) nv).mp a2) (b3 i z)
      · exact z
      · exact absurd ((hit_w hW (ok j b1) nv).mpr b2) (a3 j z)
    subst e
    have h15 : (cl i).1 ≠ 15 := fun z => h15 (a2.1.symm.trans z)
    refine Int32.toInt_inj.mp ?_
    rw [a4, b4, wv_w hW (rOk_s (ok i a1) nv h15).2.2.1]
theorem zl2i {x : Int64} (h : 0 ≤ x.toInt ∧ x.toInt ≤ 1000) : x.toInt32.toInt = x.toInt := by
  rw [Int64.toInt_toInt32]
  exact Int.bmod_eq_of_le (by show (-2147483648 : Int) ≤ x.toInt; omega) (by show x.toInt < (2147483648 : Int); omega)
theorem clI_c {S : Int64} : ((if (if S < 200 then S else 200) < 0 then 0 else if S < 200 then S else 200 : Int64)).toInt32.toInt = clI S.toInt := by
  have k2 : (200 : Int64).toInt = 200 := by decide
  have k0 : (0 : Int64).toInt = 0 := by decide
  unfold clI
  by_cases a : S < 200
  · have a2 := Int64.lt_iff_toInt_lt.mp a
    rw [if_pos a]
    by_cases b : S < 0
    · have b2 := Int64.lt_iff_toInt_lt.mp b
      rw [if_pos b, if_pos (by omega)]
      rfl
    · have b2 : ¬ S.toInt < 0 := fun z => b (Int64.lt_iff_toInt_lt.mpr (by omega))
      rw [if_neg b, if_neg b2, if_neg (by omega)]
      exact zl2i (by omega)
  · have a2 : ¬ S.toInt < 200 := fun z => a (Int64.lt_iff_toInt_lt.mpr (by omega))
    rw [if_neg a, if_neg (by decide), if_neg (by omega)]
    by_cases b : 200 < S.toInt
    · rw [if_pos b]; rfl
    · rw [if_neg b, show S.toInt = 200 by omega]; rfl
/-- only words and stacks have changed -/
noncomputable def lFr (h h2 : zH) : Prop := tSh h2 ∧ tF h2 = tF h ∧ tA h2 = tA h ∧ tO h2 = tO h ∧ tN h2 = tN h
theorem lFr_w {h h2 : zH} {p : Nat} (k : wFr p h h2) : lFr h h2 := ⟨k.1, k.2.1, k.2.2.1, k.2.2.2.1, k.2.2.2.2.1⟩
theorem lFr_t {h h1 h2 : zH} (a : lFr h h1) (k : lFr h1 h2) : lFr h h2 := ⟨k.1, k.2.1.trans a.2.1, k.2.2.1.trans a.2.2.1, k.2.2.2.1.trans a.2.2.2.1, k.2.2.2.2.trans a.2.2.2.2⟩
theorem rDt.fr {h h2 : zH} {a b K : Nat} {cs : List Nat} {cl : Nat → rCt} (D : rDt h a b K cs cl) (k : lFr h h2) : rDt h2 a b K cs cl := by
  obtain ⟨h1, h2, h3, h4, h5, h6, h7, h8⟩ := D
  have eN := k.2.2.2.2
  have eA := k.2.2.1
  exact ⟨by rw [eN, eA]; exact h1, by rw [eN]; exact h2, by rw [eN, eA]; exact h3, by rw [eN]; exact h4, h5, by rw [eA]; exact h6, h7, h8⟩
theorem rDm.fr {h h2 : zH} {q K : Nat} {cs : List Nat} {cl : Nat → rCt} (D : rDm h q K cs cl) (k : lFr h h2) : rDm h2 q K cs cl := by
  obtain ⟨h1, h2, h3, h4, h5, h6, h7⟩ := D
  have eA := k.2.2.1
  exact ⟨by rw [eA]; exact h1, h2, by rw [eA]; exact h3, h4, fun i hi => by rw [← h5 i hi]; unfold mRow; rw [eA], h6, h7⟩
/-- the rule that is in force, in the class's arrays -/
noncomputable def rIc (h : zH) (y : Int32) (K : Nat) (cs : List Nat) (cl : Nat → rCt) : Prop := (y = -1 ∧ K = 0) ∨ ∃ q a b : Nat, y.toInt = (q : Int) ∧ (q : Int) < (tvI (tF h 48 3)).toInt ∧ tO h 50 q = some a ∧ tO h 51 q = some b ∧ (182 ≤ a ∧ 182 ≤ b) ∧ rDt h a b K cs cl
theorem rIc.fr {h h2 : zH} {y : Int32} {K : Nat} {cs : List Nat} {cl : Nat → rCt} (D : rIc h y K cs cl) (k : lFr h h2) : rIc h2 y K cs cl := by
  rcases D with D | ⟨q, a, b, h1, h2, h3, h4, h6, h5⟩
  · exact Or.inl D
  · exact Or.inr ⟨q, a, b, h1, by rw [k.2.1]; exact h2, by rw [k.2.2.2.1]; exact h3, by rw [k.2.2.2.1]; exact h4, h6, h5.fr k⟩
theorem rIc_af {h h2 : zH} {P : Nat → Prop} {y : Int32} {K : Nat} {cs : List Nat} {cl : Nat → rCt} (D : rIc h y K cs cl) (k : aFr P h h2) (hP : ∀ q, P q → q < 182) : rIc h2 y K cs cl := by
  rcases D with D | ⟨q, a, b, h1, h2, h3, h4, h6, d1, d2, d3, d4, d5, d6, d7, d8⟩
  · exact Or.inl D
  · have ea := k.2.2.2.2.2 a (fun z => by have := hP a z; omega)
    have eb := k.2.2.2.2.2 b (fun z => by have := hP b z; omega)
    have eN := k.2.2.2.2.1
    refine Or.inr ⟨q, a, b, h1, by rw [k.2.1]; exact h2, by rw [k.2.2.2.1]; exact h3, by rw [k.2.2.2.1]; exact h4, h6, ?_, ?_, ?_, ?_, d5, ?_, d7, d8⟩
    · rw [eN, ea]; exact d1
    · rw [eN]; exact d2
    · rw [eN, ea]; exact d3
    · rw [eN]; exact d4
    · rw [eb]; exact d6
/-- the same in the reference's -/
noncomputable def rIm (h : zH) (y : Int32) (K : Nat) (cs : List Nat) (cl : Nat → rCt) : Prop := (y = -1 ∧ K = 0) ∨ ∃ q : Nat, y.toInt = (q : Int) ∧ q < 10 ∧ rDm h q K cs cl
/-! the reference's words -/
noncomputable def qS (g : Nat → Int64) (a b c d : Int64) (e f i : Int) : Prop := g 0 = a ∧ g 1 = b ∧ g 2 = c ∧ g 3 = d ∧ (g 4).toInt = e ∧ (g 5).toInt = f ∧ (g 6).toInt = i ∧ ∀ t, 7 ≤ t → t < 12 → g t = 0
section QS
variable {g : Nat → Int64} {a b c d x : Int64} {e f i e2 : Int}
theorem qS_0 (h : ∀ t, t < 12 → g t = 0) : qS (fun j => if j = 3 then d else if j = 2 then c else if j = 1 then b else if j = 0 then a else g j) a b c d 0 0 0 := by
  refine ⟨rfl, rfl, rfl, rfl, ?_, ?_, ?_, fun t h1 h2 => ?_⟩
  · show (g 4).toInt = 0
    rw [h 4 (by decide)]; rfl
  · show (g 5).toInt = 0
    rw [h 5 (by decide)]; rfl
  · show (g 6).toInt = 0
    rw [h 6 (by decide)]; rfl
  · dsimp only
    rw [if_neg (by omega), if_neg (by omega), if_neg (by omega), if_neg (by omega)]
    exact h t h2
theorem qS_4 (k : qS g a b c d e f i) (hx : x.toInt = e2) : qS (fun j => if j = 4 then x else g j) a b c d e2 f i := by
  obtain ⟨k0, k1, k2, k3, k4, k5, k6, k7⟩ := k
  exact ⟨k0, k1, k2, k3, hx, k5, k6, fun t h1 h2 => (if_neg (by omega)).trans (k7 t h1 h2)⟩
theorem qS_5 (k : qS g a b c d e f i) (hx : x.toInt = e2) : qS (fun j => if j = 5 then x else g j) a b c d e e2 i := by
  obtain ⟨k0, k1, k2, k3, k4, k5, k6, k7⟩ := k
  exact ⟨k0, k1, k2, k3, k4, hx, k6, fun t h1 h2 => (if_neg (by omega)).trans (k7 t h1 h2)⟩
theorem qS_6 (k : qS g a b c d e f i) (hx : x.toInt = e2) : qS (fun j => if j = 6 then x else g j) a b c d e f e2 := by
  obtain ⟨k0, k1, k2, k3, k4, k5, k6, k7⟩ := k
  exact ⟨k0, k1, k2, k3, k4, k5, hx, fun t h1 h2 => (if_neg (by omega)).trans (k7 t h1 h2)⟩
theorem qS_W {e3 f3 i3 : Int64} (k : qS g a b c d e f i) (h4 : e3.toInt = e) (h5 : f3.toInt = f) (h6 : i3.toInt = i) : ∀ t, t < 12 → qW a b c d e3 f3 i3 t = g t := by
  obtain ⟨k0, k1, k2, k3, k4, k5, k6, k7⟩ := k
  intro t ht
  rcases (by omega : t = 0 ∨ t = 1 ∨ t = 2 ∨ t = 3 ∨ t = 4 ∨ t = 5 ∨ t = 6 ∨ (7 ≤ t ∧ t < 12)) with rfl | rfl | rfl | rfl | rfl | rfl | rfl | h7
  · exact k0.symm
  · exact k1.symm
  · exact k2.symm
  · exact k3.symm
  · exact Int64.toInt_inj.mp (h4.trans k4.symm)
  · exact Int64.toInt_inj.mp (h5.trans k5.symm)
  · exact Int64.toInt_inj.mp (h6.trans k6.symm)
  · rw [k7 t h7.1 h7.2]
    rcases (by omega : t = 7 ∨ t = 8 ∨ t = 9 ∨ t = 10 ∨ t = 11) with rfl | rfl | rfl | rfl | rfl <;> rfl
end QS
theorem zLadJ {x y : Int64} {a b : Int} (hx : x.toInt = a) (hy : y.toInt = b) (h : 0 ≤ a ∧ a ≤ 100000000 ∧ 0 ≤ b ∧ b ≤ 100000000) : (x + y).toInt = a + b := by
  rw [Int64.toInt_add, hx, hy]
  exact Int.bmod_eq_of_le (by show (-9223372036854775808 : Int) ≤ a + b; omega) (by show a + b < (9223372036854775808 : Int); omega)
theorem bN_y {w tl : Nat → Int} {n : Nat} {t x : Int} (h : tl n ≤ t) (hx : w n = x) : bN w tl (n + 1) t = bN w tl n t + x := by
  show bN w tl n t + (if tl n ≤ t then w n else 0) = _
  rw [if_pos h, hx]
theorem bN_n {w tl : Nat → Int} {n : Nat} {t : Int} (h : tl n ≤ t → w n = 0) : bN w tl (n + 1) t = bN w tl n t := by
  show bN w tl n t + (if tl n ≤ t then w n else 0) = _
  by_cases q : tl n ≤ t
  · rw [if_pos q, h q, Int.add_zero]
  · rw [if_neg q, Int.add_zero]
theorem bN_e2 {w w2 tl tl2 : Nat → Int} {n : Nat} {t : Int} (h : ∀ i, i < n → tl i = tl2 i ∧ (tl i ≤ t → w i = w2 i)) : bN w tl n t = bN w2 tl2 n t := by
  induction n with
  | zero => rfl
  | succ n ih =>
    show bN w tl n t + (if tl n ≤ t then w n else 0) = bN w2 tl2 n t + (if tl2 n ≤ t then w2 n else 0)
    rw [ih (fun i hi => h i (by omega)), ← (h n (by omega)).1]
    by_cases q : tl n ≤ t
    · rw [if_pos q, if_pos q, (h n (by omega)).2 q]
    · rw [if_neg q, if_neg q]
/-- the reference's cars of a kind made by a month; its fires and deaths -/
noncomputable def mK9 (h : zH) (k m : Int32) (i : Nat) : Int := if tA h 121 i = k ∧ (tA h 122 i).toInt ≤ m.toInt then 1 else 0
noncomputable def mF9 (h : zH) (k : Int32) (i : Nat) : Int := if tA h 121 (tA h 152 i).toNatClampNeg = k ∧ ¬ tA h 158 i = 0 then 1 else 0
noncomputable def mD9 (h : zH) (k : Int32) (i : Nat) : Int := if tA h 121 (tA h 152 i).toNatClampNeg = k ∧ ¬ tA h 158 i = 0 then (tA h 156 i).toInt else 0
noncomputable def mT9 (h : zH) (i : Nat) : Int := (tA h 157 i).toInt
theorem f_firstTrueN {G : zG} (hG : G.1 = zProg) {h : zH} {y t : Int32} (hy : y = -1) : tC zTt G 66 [.ref 48, .int y, .int t] h (fun w h2 => w = some (.int (-1)) ∧ h2 = h) := by
  refine tC_in (by rw [hG]; rfl) (fun dp => ?_)
  refine tw_iload rfl rfl ?_
  refine tw_if_lt rfl (fun _ => ?_) (fun z => absurd z (by rw [hy]; decide))
  refine tw_push rfl ?_
  exact tw_iret rfl ⟨rfl, rfl⟩
theorem f_firstTrueA {G : zG} (hG : G.1 = zProg) {h : zH} {K th : Nat} {y t : Int32} {cs : List Nat} {cl : Nat → rCt} (hs : tSh h) (h52 : tN h 52 = 12) (h53 : tN h 53 = 80) (D : rIc h y K cs cl) (ht : t.toInt = th) : tC zTt G 66 [.ref 48, .int y, .int t] h (fun w h2 => wFr 53 h h2 ∧ fTr (tJ h 52) cs cl K th (fun i => 4 * i) w) := by
  rcases D with ⟨D, k0⟩ | ⟨q, a, b, d1, d2, d3, d4, -, d5⟩
  · refine (f_firstTrueN hG D).mono (fun w h2 z => ?_)
    obtain ⟨rfl, rfl⟩ := z
    exact ⟨wFr_r hs, Or.inl ⟨rfl, fun i hi => by omega⟩⟩
  · exact f_firstTrue hG hs h52 h53 d5 d1 d2 d3 d4 ht
theorem f_sumOfA {G : zG} (hG : G.1 = zProg) {h : zH} {K i : Nat} {y x : Int32} {cs : List Nat} {cl : Nat → rCt} (hs : tSh h) (h52 : tN h 52 = 12) (h53 : tN h 53 = 80) (D : rIc h y K cs cl) (hx : x.toInt = ((4 * i : Nat) : Int)) (hi : i < K) (h15 : (cl i).1 ≠ 15) : tC zTt G 67 [.ref 48, .int y, .int x] h (fun w h2 => w = some (.long (wv (tJ h 52) (slc cs (cl i).2.1 (cl i).2.2.1))) ∧ wFr 53 h h2) := by
  rcases D with ⟨D, k0⟩ | ⟨q, a, b, d1, d2, d3, d4, -, d5⟩
  · omega
  · exact f_sumOf hG hs h52 h53 d5 d1 d3 d4 hx hi h15
theorem f_mustOf {G : zG} (hG : G.1 = zProg) {h : zH} {k s m : Int32} {K th : Nat} {cs : List Nat} {cl : Nat → rCt} (hs : tSh h) (hn : 0 ≤ (tvI (tF h 48 3)).toInt) (h52 : tN h 52 = 12) (h53 : tN h 53 = 80) (D : rIc h (sRI (tA h 49) m (tvI (tF h 48 3)).toNatClampNeg) K cs cl) (hth : s.toInt = th) (h15 : th ≠ 15) : tC zTt G 167 [.ref 0, .int k, .int s, .int m] h (fun w h2 => lFr h h2 ∧ ∃ (r : Int32) (W : Nat → Int64), w = some (.int r) ∧ (∀ i, i < 12 → W i = (qW m.toInt64 k.toInt64 (tA h 3 k.toNatClampNeg).toInt64 m.toInt64 (tA h 107 m.toNatClampNeg).toInt64 (tA h 108 m.toNatClampNeg).toInt64 (tA h 109 m.toNatClampNeg).toInt64) i) ∧ muO W cs cl K th r) := by
  refine tC_in (by rw [hG]; rfl) (fun dp => ?_)
  refine tw_aload rfl rfl ?_
  refine tw_getS rfl (hs_0_3 hs) ?_
  refine tw_iload rfl rfl ?_
  refine tw_virt1 rfl (f_ruleIn hG hs hn) (fun w9 h9 p1101 => ?_)
  obtain ⟨rfl, e9⟩ := p1101
  obtain rfl := e9.symm
  refine tw_istore rfl ?_
  refine tw_aload rfl rfl ?_
  refine tw_iload rfl rfl ?_
  refine tw_iload rfl rfl ?_
  refine tw_iload rfl rfl ?_
  refine tw_virt3 rfl (f_askOfKind hG hs h52) (fun wp1102 hp1102 p1102 => ?_)
  obtain ⟨rfl, FA, ZW⟩ := p1102
  have LA := lFr_w FA
  refine tw_aload rfl rfl ?_
  refine tw_getS rfl (hs_0_3 FA.1) ?_
  refine tw_iload rfl rfl ?_
  refine tw_iload rfl rfl ?_
  refine tw_virt2 rfl (f_firstTrueA hG FA.1 (by rw [LA.2.2.2.2]; exact h52) (by rw [LA.2.2.2.2]; exact h53) (D.fr LA) hth) (fun w9 hp1103 p1103 => ?_)
  obtain ⟨FB, ⟨rfl, hno⟩ | ⟨i, hi, hit1, hfst, x9, rfl, hx9⟩⟩ := p1103
  · refine tw_istore rfl ?_
    refine tw_iload rfl rfl ?_
    refine tw_push rfl ?_
    refine tw_ic_ne rfl (fun z => absurd z (by decide)) (fun _ => ?_)
    refine tw_push rfl ?_
    exact tw_iret rfl ⟨lFr_t LA (lFr_w FB), -1, _, rfl, ZW, Or.inl ⟨rfl, hno⟩⟩
  · have LB := lFr_t LA (lFr_w FB)
    refine tw_istore rfl ?_
    refine tw_iload rfl rfl ?_
    refine tw_push rfl ?_
    refine tw_ic_ne rfl (fun q1104 => ?_) (fun q1104 => ?_)
    · try dsimp only [tvI_i, tvJ_j, tvR_r] at q1104
      have q1104i := zneq (Y := (-1)) (by decide) q1104
      refine tw_push rfl ?_
      refine tw_push rfl ?_
      refine tw_aload rfl rfl ?_
      refine tw_getS rfl (hs_0_3 FB.1) ?_
      refine tw_iload rfl rfl ?_
      refine tw_iload rfl rfl ?_
      refine tw_virt2 rfl (f_sumOfA hG FB.1 (by rw [LB.2.2.2.2]; exact h52) (by rw [LB.2.2.2.2]; exact h53) (D.fr LB) hx9 hi (fun z => h15 (hit1.1.symm.trans z))) (fun wp1105 hp1105 p1105 => ?_)
      obtain ⟨rfl, FC⟩ := p1105
      refine tw_lmin rfl ?_
      refine tw_lmax rfl ?_
      refine tw_l2i rfl ?_
      rw [FB.2.2.2.2.2 52 (by decide)]
      exact tw_iret rfl ⟨lFr_t LB (lFr_w FC), _, _, rfl, ZW, Or.inr ⟨i, hi, hit1, hfst, clI_c⟩⟩
    · try dsimp only [tvI_i, tvJ_j, tvR_r] at q1104
      have q1104i := zeqi (Y := (-1)) (by decide) q1104
      exfalso
      have k9 : (-1 : Int32).toInt = -1 := rfl
      omega
theorem g_asks {G : zG} (hG : G.1 = zProg) {h : zH} {k m y : Int32} (hs : tSh h) (h5 : 0 ≤ (tvI (tF h 111 5)).toInt ∧ (tvI (tF h 111 5)).toInt ≤ 300) (h59 : 0 ≤ (tvI (tF h 111 59)).toInt ∧ (tvI (tF h 111 59)).toInt ≤ 200) (h156 : ∀ i, i < 200 → 0 ≤ (tA h 156 i).toInt ∧ (tA h 156 i).toInt ≤ 9) : tC zTt G 228 [.ref 111, .int k, .int m, .int y] h (fun w h2 => w = none ∧ wFr 143 h h2 ∧ qS (tJ h2 143) m.toInt64 k.toInt64 (tA h 114 k.toNatClampNeg).toInt64 y.toInt64 (bN (mK9 h k m) (tK9 h) (tvI (tF h 111 5)).toNatClampNeg m.toInt) (bN (mF9 h k) (mT9 h) (tvI (tF h 111 59)).toNatClampNeg m.toInt) (bN (mD9 h k) (mT9 h) (tvI (tF h 111 59)).toNatClampNeg m.toInt)) := by
  refine tC_in (by rw [hG]; rfl) (fun dp => ?_)
  refine tw_push rfl ?_
  refine tw_istore rfl ?_
  refine tG_loop (zW_mono zTt G dp) (zW_conj zTt G dp) (V := fun pc L st h9 _ _ => pc = 3 ∧ st = [] ∧ ∃ (h1 : zH) (n : Nat) (z : Int32) (l5 : Option Value), h1 = h9 ∧ wFr 143 h h1 ∧ z.toInt = (n : Int) ∧ n ≤ 12 ∧ (∀ t, t < n → tJ h1 143 t = 0) ∧ L = [some (.ref 111), some (.int k), some (.int m), some (.int y), some (.int z), l5]) ?_ (⟨rfl, rfl, h, 0, 0, none, rfl, wFr_r hs, rfl, by decide, fun t ht => absurd ht (Nat.not_lt_zero _), rfl⟩)
  rintro _ _ _ _ _ _ ⟨rfl, rfl, h1, n, z, l5, rfl, hF, hz, hn12, hall, rfl⟩
  have k12 : (12 : Int32).toInt = 12 := rfl
  refine tw_iload rfl rfl ?_
  refine tw_push rfl ?_
  refine tw_ic_ge rfl (fun q1106 => ?_) (fun q1106 => ?_)
  · try dsimp only [tvI_i, tvJ_j, tvR_r] at q1106
    refine tw_aload rfl rfl ?_
    refine tw_getS rfl (hs_111_48 hF.1) ?_
    refine tw_push rfl ?_
    refine tw_iload rfl rfl ?_
    refine tw_i2l rfl ?_
    refine tw_last rfl (fun f1107 => ?_)
    refine tG_lst f1107 hF.1 (fun hs0 as0 => ?_)
    try dsimp only [tvI_i, tvJ_j, tvR_r] at as0
    have Fs0 := wFr_s hF as0
    refine tw_aload rfl rfl ?_
    refine tw_getS rfl (hs_111_48 Fs0.1) ?_
    refine tw_push rfl ?_
    refine tw_iload rfl rfl ?_
    refine tw_i2l rfl ?_
    refine tw_last rfl (fun f1108 => ?_)
    refine tG_lst f1108 Fs0.1 (fun hs1 as1 => ?_)
    try dsimp only [tvI_i, tvJ_j, tvR_r] at as1
    have Fs1 := wFr_s Fs0 as1
    refine tw_aload rfl rfl ?_
    refine tw_getS rfl (hs_111_48 Fs1.1) ?_
    refine tw_push rfl ?_
    refine tw_aload rfl rfl ?_
    refine tw_getS rfl (hs_111_9 Fs1.1) ?_
    refine tw_iload rfl rfl ?_
    refine tw_iald rfl (fun f1109 => ?_)
    refine tw_i2l rfl ?_
    refine tw_last rfl (fun f1110 => ?_)
    refine tG_lst f1110 Fs1.1 (fun hs2 as2 => ?_)
    try dsimp only [tvI_i, tvJ_j, tvR_r] at as2
    have Fs2 := wFr_s Fs1 as2
    refine tw_aload rfl rfl ?_
    refine tw_getS rfl (hs_111_48 Fs2.1) ?_
    refine tw_push rfl ?_
    refine tw_iload rfl rfl ?_
    refine tw_i2l rfl ?_
    refine tw_last rfl (fun f1111 => ?_)
    refine tG_lst f1111 Fs2.1 (fun hs3 as3 => ?_)
    try dsimp only [tvI_i, tvJ_j, tvR_r] at as3
    have Fs3 := wFr_s Fs2 as3
    rw [congrFun Fs1.2.2.1 114] at as2
    have qq0 : qS (tJ hs3 143) m.toInt64 k.toInt64 (tA h 114 k.toNatClampNeg).toInt64 y.toInt64 (bN (mK9 h k m) (tK9 h) 0 m.toInt) 0 0 := by rw [mJs_g as3 (mJs_g as2 (mJs_g as1 (mJs_g as0 rfl)))]; exact qS_0 (fun t ht => hall t (by omega))
    refine tw_push rfl ?_
    refine tw_istore rfl ?_
    refine tG_loop (zW_mono zTt G dp) (zW_conj zTt G dp) (V := fun pc L st h9 _ _ => pc = 64 ∧ st = [] ∧ ∃ (h1 : zH) (n : Nat) (z : Int32) (l5 : Option Value), h1 = h9 ∧ wFr 143 h h1 ∧ z.toInt = (n : Int) ∧ (n : Int) ≤ (tvI (tF h 111 5)).toInt ∧ qS (tJ h1 143) m.toInt64 k.toInt64 (tA h 114 k.toNatClampNeg).toInt64 y.toInt64 (bN (mK9 h k m) (tK9 h) n m.toInt) 0 0 ∧ L = [some (.ref 111), some (.int k), some (.int m), some (.int y), some (.int z), l5]) ?_ (⟨rfl, rfl, _, 0, 0, _, rfl, Fs3, rfl, h5.1, qq0, rfl⟩)
    rintro _ _ _ _ _ _ ⟨rfl, rfl, h1, n, z, l5, rfl, hF, hz, hnn, hQ, rfl⟩
    have e5 : (tvI (tF h1 111 5)).toInt = (tvI (tF h 111 5)).toInt := by rw [hF.2.1]
    refine tw_iload rfl rfl ?_
    refine tw_aload rfl rfl ?_
    refine tw_getS rfl (hi_111_5 hF.1) ?_
    refine tw_ic_ge rfl (fun q1112 => ?_) (fun q1112 => ?_)
    · try dsimp only [tvI_i, tvJ_j, tvR_r] at q1112
      have nN : n = (tvI (tF h 111 5)).toNatClampNeg := by rw [zclE]; omega
      have qq3 : qS (tJ h1 143) m.toInt64 k.toInt64 (tA h 114 k.toNatClampNeg).toInt64 y.toInt64 (bN (mK9 h k m) (tK9 h) (tvI (tF h 111 5)).toNatClampNeg m.toInt) (bN (mF9 h k) (mT9 h) 0 m.toInt) (bN (mD9 h k) (mT9 h) 0 m.toInt) := by rw [← nN]; exact hQ
      refine tw_push rfl ?_
      refine tw_istore rfl ?_
      refine tG_loop (zW_mono zTt G dp) (zW_conj zTt G dp) (V := fun pc L st h9 _ _ => pc = 129 ∧ st = [] ∧ ∃ (h1 : zH) (n : Nat) (z : Int32) (l5 : Option Value), h1 = h9 ∧ wFr 143 h h1 ∧ z.toInt = (n : Int) ∧ (n : Int) ≤ (tvI (tF h 111 59)).toInt ∧ qS (tJ h1 143) m.toInt64 k.toInt64 (tA h 114 k.toNatClampNeg).toInt64 y.toInt64 (bN (mK9 h k m) (tK9 h) (tvI (tF h 111 5)).toNatClampNeg m.toInt) (bN (mF9 h k) (mT9 h) n m.toInt) (bN (mD9 h k) (mT9 h) n m.toInt) ∧ L = [some (.ref 111), some (.int k), some (.int m), some (.int y), some (.int z), l5]) ?_ (⟨rfl, rfl, _, 0, 0, _, rfl, hF, rfl, h59.1, qq3, rfl⟩)
      rintro _ _ _ _ _ _ ⟨rfl, rfl, h1, n, z, l5, rfl, hF, hz, hnn, hQ, rfl⟩
      have e59 : (tvI (tF h1 111 59)).toInt = (tvI (tF h 111 59)).toInt := by rw [hF.2.1]
      refine tw_iload rfl rfl ?_
      refine tw_aload rfl rfl ?_
      refine tw_getS rfl (hi_111_59 hF.1) ?_
      refine tw_ic_ge rfl (fun q1113 => ?_) (fun q1113 => ?_)
      · try dsimp only [tvI_i, tvJ_j, tvR_r] at q1113
        have nN : n = (tvI (tF h 111 59)).toNatClampNeg := by rw [zclE]; omega
        rw [nN] at hQ
        exact tw_vret rfl ⟨rfl, hF, hQ⟩
      · try dsimp only [tvI_i, tvJ_j, tvR_r] at q1113
        have zn := zof_cl hz
        have hz1 : (z + 1).toInt = ((n + 1 : Nat) : Int) := zincN hz (by omega)
        have e121 : tA h1 121 = tA h 121 := congrFun hF.2.2.1 121
        have e152 : tA h1 152 = tA h 152 := congrFun hF.2.2.1 152
        have e156 : tA h1 156 = tA h 156 := congrFun hF.2.2.1 156
        have e157 : tA h1 157 = tA h 157 := congrFun hF.2.2.1 157
        have e158 : tA h1 158 = tA h 158 := congrFun hF.2.2.1 158
        have b7 := h156 n (by omega)
        have b5 := bN_b (w := mF9 h k) (B := 1) (tl := mT9 h) (n := n) (fun i hi => (wIte ⟨by decide, by decide⟩ : 0 ≤ mF9 h k i ∧ mF9 h k i ≤ 1)) (by decide) m.toInt
        have b6 := bN_b (w := mD9 h k) (B := 9) (tl := mT9 h) (n := n) (fun i hi => (wIte (h156 i (by omega)) : 0 ≤ mD9 h k i ∧ mD9 h k i ≤ 9)) (by decide) m.toInt
        refine tw_aload rfl rfl ?_
        refine tw_getS rfl (hs_111_16 hF.1) ?_
        refine tw_aload rfl rfl ?_
        refine tw_getS rfl (hs_111_60 hF.1) ?_
        refine tw_iload rfl rfl ?_
        refine tw_iald rfl (fun f1114 => ?_)
        refine tw_iald rfl (fun f1115 => ?_)
        refine tw_iload rfl rfl ?_
        refine tw_ic_ne rfl (fun q1116 => ?_) (fun q1116 => ?_)
        · try dsimp only [tvI_i, tvJ_j, tvR_r] at q1116
          have q1116i := zneq rfl q1116
          refine tw_push rfl ?_
          refine tw_istore rfl ?_
          refine tw_aload rfl rfl ?_
          refine tw_getS rfl (hs_111_48 hF.1) ?_
          refine tw_push rfl ?_
          refine tw_dup2 rfl ?_
          refine tw_lald rfl (fun f1117 => ?_)
          refine tw_iload rfl rfl ?_
          refine tw_if_eq rfl (fun _ => ?_) (fun z => absurd z (by decide))
          refine tw_push rfl ?_
          refine tw_ladd rfl ?_
          refine tw_last rfl (fun f1118 => ?_)
          refine tG_lst f1118 hF.1 (fun h5 a5 => ?_)
          try dsimp only [tvI_i, tvJ_j, tvR_r] at a5
          have F5 := wFr_s hF a5
          refine tw_aload rfl rfl ?_
          refine tw_getS rfl (hs_111_48 F5.1) ?_
          refine tw_push rfl ?_
          refine tw_dup2 rfl ?_
          refine tw_lald rfl (fun f1119 => ?_)
          refine tw_iload rfl rfl ?_
          refine tw_if_eq rfl (fun _ => ?_) (fun z => absurd z (by decide))
          refine tw_push rfl ?_
          refine tw_ladd rfl ?_
          refine tw_last rfl (fun f1120 => ?_)
          refine tG_lst f1120 F5.1 (fun h6 a6 => ?_)
          try dsimp only [tvI_i, tvJ_j, tvR_r] at a6
          have F6 := wFr_s F5 a6
          refine tw_iinc rfl rfl ?_
          refine tw_goto rfl ?_
          rw [zn, e121, e152] at q1116
          have hq5 : qS (tJ h5 143) m.toInt64 k.toInt64 (tA h 114 k.toNatClampNeg).toInt64 y.toInt64 (bN (mK9 h k m) (tK9 h) (tvI (tF h 111 5)).toNatClampNeg m.toInt) (bN (mF9 h k) (mT9 h) (n + 1) m.toInt) (bN (mD9 h k) (mT9 h) n m.toInt) := by
            rw [mJs_g a5 rfl]
            exact qS_5 hQ (by rw [(bN_n (fun _ => if_neg (fun y => q1116 y.1))).trans (Int.add_zero _).symm]; exact zLadJ hQ.2.2.2.2.2.1 rfl (by omega))
          have hq6 : qS (tJ h6 143) m.toInt64 k.toInt64 (tA h 114 k.toNatClampNeg).toInt64 y.toInt64 (bN (mK9 h k m) (tK9 h) (tvI (tF h 111 5)).toNatClampNeg m.toInt) (bN (mF9 h k) (mT9 h) (n + 1) m.toInt) (bN (mD9 h k) (mT9 h) (n + 1) m.toInt) := by
            rw [mJs_g a6 rfl]
            exact qS_6 hq5 (by rw [(bN_n (fun _ => if_neg (fun y => q1116 y.1))).trans (Int.add_zero _).symm]; exact zLadJ hq5.2.2.2.2.2.2.1 rfl (by omega))
          exact tG_cut (zW_mono zTt G dp) (Or.inr ⟨rfl, rfl, h6, n + 1, z + 1, _, rfl, F6, hz1, by omega, hq6, rfl⟩)
        · try dsimp only [tvI_i, tvJ_j, tvR_r] at q1116
          have q1116i := zeqi rfl q1116
          refine tw_aload rfl rfl ?_
          refine tw_getS rfl (hs_111_65 hF.1) ?_
          refine tw_iload rfl rfl ?_
          refine tw_iald rfl (fun f1121 => ?_)
          refine tw_iload rfl rfl ?_
          refine tw_ic_gt rfl (fun q1122 => ?_) (fun q1122 => ?_)
          · try dsimp only [tvI_i, tvJ_j, tvR_r] at q1122
            refine tw_push rfl ?_
            refine tw_istore rfl ?_
            refine tw_aload rfl rfl ?_
            refine tw_getS rfl (hs_111_48 hF.1) ?_
            refine tw_push rfl ?_
            refine tw_dup2 rfl ?_
            refine tw_lald rfl (fun f1123 => ?_)
            refine tw_iload rfl rfl ?_
            refine tw_if_eq rfl (fun _ => ?_) (fun z => absurd z (by decide))
            refine tw_push rfl ?_
            refine tw_ladd rfl ?_
            refine tw_last rfl (fun f1124 => ?_)
            refine tG_lst f1124 hF.1 (fun h5 a5 => ?_)
            try dsimp only [tvI_i, tvJ_j, tvR_r] at a5
            have F5 := wFr_s hF a5
            refine tw_aload rfl rfl ?_
            refine tw_getS rfl (hs_111_48 F5.1) ?_
            refine tw_push rfl ?_
            refine tw_dup2 rfl ?_
            refine tw_lald rfl (fun f1125 => ?_)
            refine tw_iload rfl rfl ?_
            refine tw_if_eq rfl (fun _ => ?_) (fun z => absurd z (by decide))
            refine tw_push rfl ?_
            refine tw_ladd rfl ?_
            refine tw_last rfl (fun f1126 => ?_)
            refine tG_lst f1126 F5.1 (fun h6 a6 => ?_)
            try dsimp only [tvI_i, tvJ_j, tvR_r] at a6
            have F6 := wFr_s F5 a6
            refine tw_iinc rfl rfl ?_
            refine tw_goto rfl ?_
            rw [zn, e121, e152] at q1116
            rw [zn, e157] at q1122
            have hq5 : qS (tJ h5 143) m.toInt64 k.toInt64 (tA h 114 k.toNatClampNeg).toInt64 y.toInt64 (bN (mK9 h k m) (tK9 h) (tvI (tF h 111 5)).toNatClampNeg m.toInt) (bN (mF9 h k) (mT9 h) (n + 1) m.toInt) (bN (mD9 h k) (mT9 h) n m.toInt) := by
              rw [mJs_g a5 rfl]
              exact qS_5 hQ (by rw [(bN_n (fun y => absurd (show (tA h 157 n).toInt ≤ m.toInt from y) (by omega))).trans (Int.add_zero _).symm]; exact zLadJ hQ.2.2.2.2.2.1 rfl (by omega))
            have hq6 : qS (tJ h6 143) m.toInt64 k.toInt64 (tA h 114 k.toNatClampNeg).toInt64 y.toInt64 (bN (mK9 h k m) (tK9 h) (tvI (tF h 111 5)).toNatClampNeg m.toInt) (bN (mF9 h k) (mT9 h) (n + 1) m.toInt) (bN (mD9 h k) (mT9 h) (n + 1) m.toInt) := by
              rw [mJs_g a6 rfl]
              exact qS_6 hq5 (by rw [(bN_n (fun y => absurd (show (tA h 157 n).toInt ≤ m.toInt from y) (by omega))).trans (Int.add_zero _).symm]; exact zLadJ hq5.2.2.2.2.2.2.1 rfl (by omega))
            exact tG_cut (zW_mono zTt G dp) (Or.inr ⟨rfl, rfl, h6, n + 1, z + 1, _, rfl, F6, hz1, by omega, hq6, rfl⟩)
          · try dsimp only [tvI_i, tvJ_j, tvR_r] at q1122
            refine tw_aload rfl rfl ?_
            refine tw_getS rfl (hs_111_66 hF.1) ?_
            refine tw_iload rfl rfl ?_
            refine tw_bald rfl (fun f1127 => ?_)
            refine tw_if_eq rfl (fun q1128 => ?_) (fun q1128 => ?_)
            · try dsimp only [tvI_i, tvJ_j, tvR_r] at q1128
              have q1128i := zeqi (Y := 0) (by decide) q1128
              refine tw_push rfl ?_
              refine tw_istore rfl ?_
              refine tw_aload rfl rfl ?_
              refine tw_getS rfl (hs_111_48 hF.1) ?_
              refine tw_push rfl ?_
              refine tw_dup2 rfl ?_
              refine tw_lald rfl (fun f1129 => ?_)
              refine tw_iload rfl rfl ?_
              refine tw_if_eq rfl (fun _ => ?_) (fun z => absurd z (by decide))
              refine tw_push rfl ?_
              refine tw_ladd rfl ?_
              refine tw_last rfl (fun f1130 => ?_)
              refine tG_lst f1130 hF.1 (fun h5 a5 => ?_)
              try dsimp only [tvI_i, tvJ_j, tvR_r] at a5
              have F5 := wFr_s hF a5
              refine tw_aload rfl rfl ?_
              refine tw_getS rfl (hs_111_48 F5.1) ?_
              refine tw_push rfl ?_
              refine tw_dup2 rfl ?_
              refine tw_lald rfl (fun f1131 => ?_)
              refine tw_iload rfl rfl ?_
              refine tw_if_eq rfl (fun _ => ?_) (fun z => absurd z (by decide))
              refine tw_push rfl ?_
              refine tw_ladd rfl ?_
              refine tw_last rfl (fun f1132 => ?_)
              refine tG_lst f1132 F5.1 (fun h6 a6 => ?_)
              try dsimp only [tvI_i, tvJ_j, tvR_r] at a6
              have F6 := wFr_s F5 a6
              refine tw_iinc rfl rfl ?_
              refine tw_goto rfl ?_
              rw [zn, e121, e152] at q1116
              rw [zn, e157] at q1122
              rw [zn, e158] at q1128
              have hq5 : qS (tJ h5 143) m.toInt64 k.toInt64 (tA h 114 k.toNatClampNeg).toInt64 y.toInt64 (bN (mK9 h k m) (tK9 h) (tvI (tF h 111 5)).toNatClampNeg m.toInt) (bN (mF9 h k) (mT9 h) (n + 1) m.toInt) (bN (mD9 h k) (mT9 h) n m.toInt) := by
                rw [mJs_g a5 rfl]
                exact qS_5 hQ (by rw [(bN_n (fun _ => if_neg (fun y => y.2 q1128))).trans (Int.add_zero _).symm]; exact zLadJ hQ.2.2.2.2.2.1 rfl (by omega))
              have hq6 : qS (tJ h6 143) m.toInt64 k.toInt64 (tA h 114 k.toNatClampNeg).toInt64 y.toInt64 (bN (mK9 h k m) (tK9 h) (tvI (tF h 111 5)).toNatClampNeg m.toInt) (bN (mF9 h k) (mT9 h) (n + 1) m.toInt) (bN (mD9 h k) (mT9 h) (n + 1) m.toInt) := by
                rw [mJs_g a6 rfl]
                exact qS_6 hq5 (by rw [(bN_n (fun _ => if_neg (fun y => y.2 q1128))).trans (Int.add_zero _).symm]; exact zLadJ hq5.2.2.2.2.2.2.1 rfl (by omega))
              exact tG_cut (zW_mono zTt G dp) (Or.inr ⟨rfl, rfl, h6, n + 1, z + 1, _, rfl, F6, hz1, by omega, hq6, rfl⟩)
            · try dsimp only [tvI_i, tvJ_j, tvR_r] at q1128
              have q1128i := zneq (Y := 0) (by decide) q1128
              refine tw_push rfl ?_
              refine tw_goto rfl ?_
              refine tw_istore rfl ?_
              refine tw_aload rfl rfl ?_
              refine tw_getS rfl (hs_111_48 hF.1) ?_
              refine tw_push rfl ?_
              refine tw_dup2 rfl ?_
              refine tw_lald rfl (fun f1133 => ?_)
              refine tw_iload rfl rfl ?_
              refine tw_if_eq rfl (fun z => absurd z (by decide)) (fun _ => ?_)
              refine tw_push rfl ?_
              refine tw_goto rfl ?_
              refine tw_ladd rfl ?_
              refine tw_last rfl (fun f1134 => ?_)
              refine tG_lst f1134 hF.1 (fun h5 a5 => ?_)
              try dsimp only [tvI_i, tvJ_j, tvR_r] at a5
              have F5 := wFr_s hF a5
              refine tw_aload rfl rfl ?_
              refine tw_getS rfl (hs_111_48 F5.1) ?_
              refine tw_push rfl ?_
              refine tw_dup2 rfl ?_
              refine tw_lald rfl (fun f1135 => ?_)
              refine tw_iload rfl rfl ?_
              refine tw_if_eq rfl (fun z => absurd z (by decide)) (fun _ => ?_)
              refine tw_aload rfl rfl ?_
              refine tw_getS rfl (hs_111_64 F5.1) ?_
              refine tw_iload rfl rfl ?_
              refine tw_iald rfl (fun f1136 => ?_)
              refine tw_i2l rfl ?_
              refine tw_goto rfl ?_
              refine tw_ladd rfl ?_
              refine tw_last rfl (fun f1137 => ?_)
              refine tG_lst f1137 F5.1 (fun h6 a6 => ?_)
              try dsimp only [tvI_i, tvJ_j, tvR_r] at a6
              have F6 := wFr_s F5 a6
              refine tw_iinc rfl rfl ?_
              refine tw_goto rfl ?_
              rw [zn, e121, e152] at q1116
              rw [zn, e157] at q1122
              rw [zn, e158] at q1128
              rw [zn, show tA h5 156 = tA h 156 from congrFun F5.2.2.1 156] at a6
              have hq5 : qS (tJ h5 143) m.toInt64 k.toInt64 (tA h 114 k.toNatClampNeg).toInt64 y.toInt64 (bN (mK9 h k m) (tK9 h) (tvI (tF h 111 5)).toNatClampNeg m.toInt) (bN (mF9 h k) (mT9 h) (n + 1) m.toInt) (bN (mD9 h k) (mT9 h) n m.toInt) := by
                rw [mJs_g a5 rfl]
                exact qS_5 hQ (by rw [bN_y (show mT9 h n ≤ m.toInt from q1122) (x := 1) (if_pos ⟨q1116, q1128⟩)]; exact zLadJ hQ.2.2.2.2.2.1 rfl (by omega))
              have hq6 : qS (tJ h6 143) m.toInt64 k.toInt64 (tA h 114 k.toNatClampNeg).toInt64 y.toInt64 (bN (mK9 h k m) (tK9 h) (tvI (tF h 111 5)).toNatClampNeg m.toInt) (bN (mF9 h k) (mT9 h) (n + 1) m.toInt) (bN (mD9 h k) (mT9 h) (n + 1) m.toInt) := by
                rw [mJs_g a6 rfl]
                exact qS_6 hq5 (by rw [bN_y (show mT9 h n ≤ m.toInt from q1122) (x := (tA h 156 n).toInt) (if_pos ⟨q1116, q1128⟩)]; exact zLadJ hq5.2.2.2.2.2.2.1 (Int32.toInt_toInt64 _) (by omega))
              exact tG_cut (zW_mono zTt G dp) (Or.inr ⟨rfl, rfl, h6, n + 1, z + 1, _, rfl, F6, hz1, by omega, hq6, rfl⟩)
    · try dsimp only [tvI_i, tvJ_j, tvR_r] at q1112
      have zn := zof_cl hz
      have hz1 : (z + 1).toInt = ((n + 1 : Nat) : Int) := zincN hz (by omega)
      have e121 : tA h1 121 n = tA h 121 n := congrFun (congrFun hF.2.2.1 121) n
      have e122 : tA h1 122 n = tA h 122 n := congrFun (congrFun hF.2.2.1 122) n
      have e123 : tA h1 123 n = tA h 123 n := congrFun (congrFun hF.2.2.1 123) n
      have b4 := bN_b (w := mK9 h k m) (B := 1) (tl := tK9 h) (n := n) (fun i hi => (wIte ⟨by decide, by decide⟩ : 0 ≤ mK9 h k m i ∧ mK9 h k m i ≤ 1)) (by decide) m.toInt
      refine tw_aload rfl rfl ?_
      refine tw_getS rfl (hs_111_48 hF.1) ?_
      refine tw_push rfl ?_
      refine tw_dup2 rfl ?_
      refine tw_lald rfl (fun f1138 => ?_)
      refine tw_aload rfl rfl ?_
      refine tw_getS rfl (hs_111_16 hF.1) ?_
      refine tw_iload rfl rfl ?_
      refine tw_iald rfl (fun f1139 => ?_)
      refine tw_iload rfl rfl ?_
      refine tw_ic_ne rfl (fun q1140 => ?_) (fun q1140 => ?_)
      · try dsimp only [tvI_i, tvJ_j, tvR_r] at q1140
        have q1140i := zneq rfl q1140
        refine tw_push rfl ?_
        refine tw_ladd rfl ?_
        refine tw_last rfl (fun f1141 => ?_)
        refine tG_lst f1141 hF.1 (fun h2 a2 => ?_)
        try dsimp only [tvI_i, tvJ_j, tvR_r] at a2
        have F2 := wFr_s hF a2
        refine tw_iinc rfl rfl ?_
        refine tw_goto rfl ?_
        rw [zn, e121] at q1140
        have hq2 : qS (tJ h2 143) m.toInt64 k.toInt64 (tA h 114 k.toNatClampNeg).toInt64 y.toInt64 (bN (mK9 h k m) (tK9 h) (n + 1) m.toInt) 0 0 := by
          rw [mJs_g a2 rfl]
          exact qS_4 hQ (by rw [(bN_n (fun _ => if_neg (fun y => q1140 y.1))).trans (Int.add_zero _).symm]; exact zLadJ hQ.2.2.2.2.1 rfl (by omega))
        exact tG_cut (zW_mono zTt G dp) (Or.inr ⟨rfl, rfl, h2, n + 1, z + 1, _, rfl, F2, hz1, by omega, hq2, rfl⟩)
      · try dsimp only [tvI_i, tvJ_j, tvR_r] at q1140
        have q1140i := zeqi rfl q1140
        refine tw_aload rfl rfl ?_
        refine tw_getS rfl (hs_111_17 hF.1) ?_
        refine tw_iload rfl rfl ?_
        refine tw_iald rfl (fun f1142 => ?_)
        refine tw_iload rfl rfl ?_
        refine tw_ic_gt rfl (fun q1143 => ?_) (fun q1143 => ?_)
        · try dsimp only [tvI_i, tvJ_j, tvR_r] at q1143
          refine tw_push rfl ?_
          refine tw_ladd rfl ?_
          refine tw_last rfl (fun f1144 => ?_)
          refine tG_lst f1144 hF.1 (fun h2 a2 => ?_)
          try dsimp only [tvI_i, tvJ_j, tvR_r] at a2
          have F2 := wFr_s hF a2
          refine tw_iinc rfl rfl ?_
          refine tw_goto rfl ?_
          rw [zn, e121] at q1140
          rw [zn, e122] at q1143
          have hq2 : qS (tJ h2 143) m.toInt64 k.toInt64 (tA h 114 k.toNatClampNeg).toInt64 y.toInt64 (bN (mK9 h k m) (tK9 h) (n + 1) m.toInt) 0 0 := by
            rw [mJs_g a2 rfl]
            exact qS_4 hQ (by rw [(bN_n (fun _ => if_neg (fun y => absurd y.2 (by omega)))).trans (Int.add_zero _).symm]; exact zLadJ hQ.2.2.2.2.1 rfl (by omega))
          exact tG_cut (zW_mono zTt G dp) (Or.inr ⟨rfl, rfl, h2, n + 1, z + 1, _, rfl, F2, hz1, by omega, hq2, rfl⟩)
        · try dsimp only [tvI_i, tvJ_j, tvR_r] at q1143
          refine tw_aload rfl rfl ?_
          refine tw_getS rfl (hs_111_18 hF.1) ?_
          refine tw_iload rfl rfl ?_
          refine tw_iald rfl (fun f1145 => ?_)
          refine tw_iload rfl rfl ?_
          refine tw_ic_gt rfl (fun q1146 => ?_) (fun q1146 => ?_)
          · try dsimp only [tvI_i, tvJ_j, tvR_r] at q1146
            refine tw_push rfl ?_
            refine tw_ladd rfl ?_
            refine tw_last rfl (fun f1147 => ?_)
            refine tG_lst f1147 hF.1 (fun h2 a2 => ?_)
            try dsimp only [tvI_i, tvJ_j, tvR_r] at a2
            have F2 := wFr_s hF a2
            refine tw_iinc rfl rfl ?_
            refine tw_goto rfl ?_
            rw [zn, e121] at q1140
            rw [zn, e122] at q1143
            rw [zn, e123] at q1146
            have hq2 : qS (tJ h2 143) m.toInt64 k.toInt64 (tA h 114 k.toNatClampNeg).toInt64 y.toInt64 (bN (mK9 h k m) (tK9 h) (n + 1) m.toInt) 0 0 := by
              rw [mJs_g a2 rfl]
              exact qS_4 hQ (by rw [(bN_n (fun y => absurd (show (tA h 123 n).toInt ≤ m.toInt from y) (by omega))).trans (Int.add_zero _).symm]; exact zLadJ hQ.2.2.2.2.1 rfl (by omega))
            exact tG_cut (zW_mono zTt G dp) (Or.inr ⟨rfl, rfl, h2, n + 1, z + 1, _, rfl, F2, hz1, by omega, hq2, rfl⟩)
          · try dsimp only [tvI_i, tvJ_j, tvR_r] at q1146
            refine tw_push rfl ?_
            refine tw_goto rfl ?_
            refine tw_ladd rfl ?_
            refine tw_last rfl (fun f1148 => ?_)
            refine tG_lst f1148 hF.1 (fun h2 a2 => ?_)
            try dsimp only [tvI_i, tvJ_j, tvR_r] at a2
            have F2 := wFr_s hF a2
            refine tw_iinc rfl rfl ?_
            refine tw_goto rfl ?_
            rw [zn, e121] at q1140
            rw [zn, e122] at q1143
            rw [zn, e123] at q1146
            have hq2 : qS (tJ h2 143) m.toInt64 k.toInt64 (tA h 114 k.toNatClampNeg).toInt64 y.toInt64 (bN (mK9 h k m) (tK9 h) (n + 1) m.toInt) 0 0 := by
              rw [mJs_g a2 rfl]
              exact qS_4 hQ (by rw [bN_y (show tK9 h n ≤ m.toInt from q1146) (x := 1) (if_pos ⟨q1140, q1143⟩)]; exact zLadJ hQ.2.2.2.2.1 rfl (by omega))
            exact tG_cut (zW_mono zTt G dp) (Or.inr ⟨rfl, rfl, h2, n + 1, z + 1, _, rfl, F2, hz1, by omega, hq2, rfl⟩)
  · try dsimp only [tvI_i, tvJ_j, tvR_r] at q1106
    refine tw_aload rfl rfl ?_
    refine tw_getS rfl (hs_111_48 hF.1) ?_
    refine tw_iload rfl rfl ?_
    refine tw_push rfl ?_
    refine tw_last rfl (fun f1149 => ?_)
    refine tG_lst f1149 hF.1 (fun h1 a1 => ?_)
    try dsimp only [tvI_i, tvJ_j, tvR_r] at a1
    have F1 := wFr_s hF a1
    refine tw_iinc rfl rfl ?_
    refine tw_goto rfl ?_
    have hz1 : (z + 1).toInt = ((n + 1 : Nat) : Int) := zincN hz (by omega)
    rw [zof_cl hz] at a1
    have ea := mJs_g a1 rfl
    exact tG_cut (zW_mono zTt G dp) (Or.inr ⟨rfl, rfl, _, n + 1, z + 1, _, rfl, F1, hz1, by omega, fun t ht => (congrFun ea t).trans ((Classical.em (t = n)).elim (fun y => if_pos y) (fun y => (if_neg y).trans (hall t (by omega)))), rfl⟩)
theorem thc_0 {s : Nat} (h : s < 12) : thc 0 s = s := by
  unfold thc
  rw [if_pos ⟨rfl, h⟩]
theorem thc_k {k : Nat} (h : k ≠ 0) : thc k 0 = 12 + k := by
  unfold thc
  rw [if_neg (fun z => h z.1), Nat.mul_zero, Nat.add_zero]
theorem clI_0 {S : Int64} (h : S.toInt < 0) : (0 : Int32).toInt = clI S.toInt := by
  unfold clI
  rw [if_pos h]
  rfl
theorem clI_2 {S : Int64} (h : ¬ S.toInt < 0) (h2 : 200 < S.toInt) : (200 : Int32).toInt = clI S.toInt := by
  unfold clI
  rw [if_neg h, if_pos h2]
  rfl
theorem clI_m {S : Int64} (h : ¬ S.toInt < 0) (h2 : ¬ 200 < S.toInt) : S.toInt32.toInt = clI S.toInt := by
  unfold clI
  rw [if_neg h, if_neg h2]
  exact zl2i (by omega)
theorem g_mustOf {G : zG} (hG : G.1 = zProg) {h : zH} {k s m : Int32} {K th : Nat} {cs : List Nat} {cl : Nat → rCt} (hs : tSh h) (hn : 0 ≤ (tvI (tF h 111 30)).toInt) (D : rIm h (sRI (tA h 141) m (tvI (tF h 111 30)).toNatClampNeg) K cs cl) (hth : s.toInt = th) (hth2 : th ≤ 2) (h5 : 0 ≤ (tvI (tF h 111 5)).toInt ∧ (tvI (tF h 111 5)).toInt ≤ 300) (h59 : 0 ≤ (tvI (tF h 111 59)).toInt ∧ (tvI (tF h 111 59)).toInt ≤ 200) (h156 : ∀ i, i < 200 → 0 ≤ (tA h 156 i).toInt ∧ (tA h 156 i).toInt ≤ 9) (h133 : ∀ i, i < 5000 → 0 ≤ (tA h 133 i).toInt ∧ (tA h 133 i).toInt ≤ 14) (h134 : ∀ i, i < 5000 → 0 ≤ (tA h 134 i).toInt ∧ (tA h 134 i).toInt ≤ 99999) (h135 : ∀ i, i < 120 → 0 ≤ (tA h 135 i).toInt ∧ (tA h 135 i).toInt ≤ 3) (h136 : ∀ i, i < 120 → 0 ≤ (tA h 136 i).toInt ∧ (tA h 136 i).toInt ≤ 99999) (h137 : ∀ i, i < 120 → 0 ≤ (tA h 137 i).toInt ∧ (tA h 137 i).toInt ≤ 410) (h138 : ∀ i, i < 120 → 0 ≤ (tA h 138 i).toInt ∧ (tA h 138 i).toInt ≤ 410) (h139 : ∀ i, i < 120 → 0 ≤ (tA h 139 i).toInt ∧ (tA h 139 i).toInt ≤ 410) : tC zTt G 233 [.ref 111, .int k, .int s, .int m] h (fun w h2 => lFr h h2 ∧ ∃ r : Int32, w = some (.int r) ∧ ((K = 0 ∧ r = -1) ∨ ∃ W, qS W m.toInt64 k.toInt64 (tA h 114 k.toNatClampNeg).toInt64 m.toInt64 (bN (mK9 h k m) (tK9 h) (tvI (tF h 111 5)).toNatClampNeg m.toInt) (bN (mF9 h k) (mT9 h) (tvI (tF h 111 59)).toNatClampNeg m.toInt) (bN (mD9 h k) (mT9 h) (tvI (tF h 111 59)).toNatClampNeg m.toInt) ∧ muO W cs cl K th r)) := by
  refine tC_in (by rw [hG]; rfl) (fun dp => ?_)
  have h15 : th ≠ 15 := by omega
  refine tw_aload rfl rfl ?_
  refine tw_iload rfl rfl ?_
  refine tw_virt1 rfl (g_inForceIn hG hs hn) (fun w9 h9 p1150 => ?_)
  obtain ⟨rfl, e9⟩ := p1150
  obtain rfl := e9.symm
  refine tw_istore rfl ?_
  refine tw_iload rfl rfl ?_
  refine tw_push rfl ?_
  refine tw_ic_ne rfl (fun q1151 => ?_) (fun q1151 => ?_)
  · try dsimp only [tvI_i, tvJ_j, tvR_r] at q1151
    have q1151i := zneq (Y := (-1)) (by decide) q1151
    obtain ⟨q9, d1, d2, d3⟩ := D.resolve_left (fun z => q1151 z.1)
    refine tw_aload rfl rfl ?_
    refine tw_iload rfl rfl ?_
    refine tw_iload rfl rfl ?_
    refine tw_iload rfl rfl ?_
    refine tw_virt3 rfl (g_asks hG hs h5 h59 h156) (fun wp1152 hp1152 p1152 => ?_)
    obtain ⟨rfl, FA, hQ⟩ := p1152
    have LA := lFr_w FA
    have eA := FA.2.2.1
    refine tw_aload rfl rfl ?_
    refine tw_iload rfl rfl ?_
    refine tw_push rfl ?_
    refine tw_iload rfl rfl ?_
    refine tw_virt3 rfl (g_tells hG FA.1 (d3.frame FA) d1 d2 (kd := 0) rfl (by decide) hth (by rw [eA]; exact h133) (by rw [eA]; exact h134) (by rw [eA]; exact h135) (by rw [eA]; exact h136) (by rw [eA]; exact h138) (by rw [eA]; exact h139)) (fun w9 hp1153 p1153 => ?_)
    obtain ⟨FB, ⟨rfl, hno⟩ | ⟨i, hi, hit1, hfst, x9, rfl, hx9⟩⟩ := p1153
    · rw [thc_0 (by omega)] at hno
      refine tw_istore rfl ?_
      refine tw_iload rfl rfl ?_
      refine tw_push rfl ?_
      refine tw_ic_ne rfl (fun z => absurd z (by decide)) (fun _ => ?_)
      refine tw_push rfl ?_
      exact tw_iret rfl ⟨lFr_t LA (lFr_w FB), -1, rfl, Or.inr ⟨_, hQ, Or.inl ⟨rfl, hno⟩⟩⟩
    · rw [thc_0 (by omega)] at hit1 hfst
      have LB := lFr_t LA (lFr_w FB)
      have eB := LB.2.2.1
      have x9n := zof_cl hx9
      obtain ⟨s1, s2, s3, s4, p, qq, s5, s6⟩ := rOk_s (d3.ok i hi) d3.nv (fun z => h15 (hit1.1.symm.trans z))
      have hK12 := d3.few
      have c3 : ((cl i).1, (cl i).2.1, (cl i).2.2.1, (cl i).2.2.2) = (thc (tA h 135 (12 * q9 + i)).toNatClampNeg (tA h 136 (12 * q9 + i)).toNatClampNeg, (tA h 137 (12 * q9 + i)).toNatClampNeg, (tA h 138 (12 * q9 + i)).toNatClampNeg, (tA h 139 (12 * q9 + i)).toNatClampNeg) := by rw [← d3.row i hi]; rfl
      have c5 := congrArg (fun z : rCt => z.2.1) c3
      have c6 := congrArg (fun z : rCt => z.2.2.1) c3
      dsimp only at c5 c6
      have v1 : (tA hp1153 137 x9.toNatClampNeg).toInt = ((cl i).2.1 : Int) := by rw [eB, x9n, c5]; exact (zclx (h137 (12 * q9 + i) (by omega)).1).symm
      have v2 : (tA hp1153 138 x9.toNatClampNeg).toInt = ((cl i).2.2.1 : Int) := by rw [eB, x9n, c6]; exact (zclx (h138 (12 * q9 + i) (by omega)).1).symm
      refine tw_istore rfl ?_
      refine tw_iload rfl rfl ?_
      refine tw_push rfl ?_
      refine tw_ic_ne rfl (fun q1154 => ?_) (fun q1154 => ?_)
      · try dsimp only [tvI_i, tvJ_j, tvR_r] at q1154
        have q1154i := zneq (Y := (-1)) (by decide) q1154
        refine tw_aload rfl rfl ?_
        refine tw_iload rfl rfl ?_
        refine tw_aload rfl rfl ?_
        refine tw_getS rfl (hs_111_40 FB.1) ?_
        refine tw_iload rfl rfl ?_
        refine tw_iald rfl (fun f1155 => ?_)
        refine tw_aload rfl rfl ?_
        refine tw_getS rfl (hs_111_41 FB.1) ?_
        refine tw_iload rfl rfl ?_
        refine tw_iald rfl (fun f1156 => ?_)
        refine tw_virt3 rfl (g_answer hG FB.1 d1 d2 v1 (e := slc cs (cl i).2.1 (cl i).2.2.1) (t := false) (v2.trans (congrArg Nat.cast s1)) (by rw [← s1]; have := d3.big; omega) (by rw [eB]; exact h133) (by rw [eB]; exact h134) (by rw [eB]; exact cdAt_h s5 s6 d3.cod) s3 s4) (fun wp1157 hp1157 p1157 => ?_)
        obtain ⟨rfl, FC⟩ := p1157
        rw [FB.2.2.2.2.2 143 (by decide)]
        have k200 : (200 : Int64).toInt = 200 := by decide
        have k0 : (0 : Int64).toInt = 0 := by decide
        refine tw_lstore rfl ?_
        refine tw_lload rfl rfl ?_
        refine tw_push rfl ?_
        refine tw_lc_ge rfl rfl (fun q1158 => ?_) (fun q1158 => ?_)
        · try dsimp only [tvI_i, tvJ_j, tvR_r] at q1158
          refine tw_lload rfl rfl ?_
          refine tw_push rfl ?_
          refine tw_lc_le rfl rfl (fun q1159 => ?_) (fun q1159 => ?_)
          · try dsimp only [tvI_i, tvJ_j, tvR_r] at q1159
            refine tw_lload rfl rfl ?_
            refine tw_l2i rfl ?_
            exact tw_iret rfl ⟨lFr_t LB (lFr_w FC), _, rfl, Or.inr ⟨_, hQ, Or.inr ⟨i, hi, hit1, hfst, clI_m (S := wv _ (slc cs (cl i).2.1 (cl i).2.2.1)) (by omega) (by omega)⟩⟩⟩
          · try dsimp only [tvI_i, tvJ_j, tvR_r] at q1159
            refine tw_push rfl ?_
            refine tw_goto rfl ?_
            exact tw_iret rfl ⟨lFr_t LB (lFr_w FC), _, rfl, Or.inr ⟨_, hQ, Or.inr ⟨i, hi, hit1, hfst, clI_2 (S := wv _ (slc cs (cl i).2.1 (cl i).2.2.1)) (by omega) (by omega)⟩⟩⟩
        · try dsimp only [tvI_i, tvJ_j, tvR_r] at q1158
          refine tw_push rfl ?_
          refine tw_goto rfl ?_
          exact tw_iret rfl ⟨lFr_t LB (lFr_w FC), _, rfl, Or.inr ⟨_, hQ, Or.inr ⟨i, hi, hit1, hfst, clI_0 q1158⟩⟩⟩
      · try dsimp only [tvI_i, tvJ_j, tvR_r] at q1154
        have q1154i := zeqi (Y := (-1)) (by decide) q1154
        exfalso
        have k9 : (-1 : Int32).toInt = -1 := rfl
        omega
  · try dsimp only [tvI_i, tvJ_j, tvR_r] at q1151
    have q1151i := zeqi (Y := (-1)) (by decide) q1151
    refine tw_push rfl ?_
    exact tw_iret rfl ⟨⟨hs, rfl, rfl, rfl, rfl⟩, -1, rfl, Or.inl ⟨(D.resolve_right (fun z => by obtain ⟨q9, z1, -⟩ := z; rw [q1151] at z1; have k9 : (-1 : Int32).toInt = -1 := rfl; omega)).2, rfl⟩⟩
/-- the rule in force as both hold it: how many clauses, the codes, the clauses -/
noncomputable def rKn (h : zH) (y : Int32) : Nat := if y = -1 then 0 else (tA h 140 y.toNatClampNeg).toNatClampNeg
noncomputable def rCn (h : zH) (y : Int32) : List Nat := cArr h ((tO h 50 y.toNatClampNeg).getD 0)
noncomputable def rLn (h : zH) (y : Int32) (i : Nat) : rCt := mRow h (12 * y.toNatClampNeg + i)
theorem sRI_r {fm : Nat → Int32} {m : Int32} {n : Nat} (hn : n ≤ 10) : sRI fm m n = -1 ∨ ∃ q : Nat, q < n ∧ (sRI fm m n).toInt = (q : Int) := by
  induction n with
  | zero => exact Or.inl rfl
  | succ n ih =>
    rw [sRI_u]
    by_cases c : (fm n).toInt ≤ m.toInt ∧ (sRI fm m n = -1 ∨ (fm (sRI fm m n).toNatClampNeg).toInt ≤ (fm n).toInt)
    · rw [if_pos c]
      exact Or.inr ⟨n, Nat.lt_succ_self _, yofN (by omega)⟩
    · rw [if_neg c]
      rcases ih (by omega) with z | ⟨q, z1, z2⟩
      · exact Or.inl z
      · exact Or.inr ⟨q, by omega, z2⟩
theorem rIn_D {xs : Nat → Int32} {τ : List Nat} {h : zH} {m : Int32} (hB : zBs xs τ h) (hR : R_rcd h) : rIc h (sRI (tA h 49) m (tvI (tF h 48 3)).toNatClampNeg) (rKn h (sRI (tA h 49) m (tvI (tF h 48 3)).toNatClampNeg)) (rCn h (sRI (tA h 49) m (tvI (tF h 48 3)).toNatClampNeg)) (rLn h (sRI (tA h 49) m (tvI (tF h 48 3)).toNatClampNeg)) ∧ rIm h (sRI (tA h 49) m (tvI (tF h 48 3)).toNatClampNeg) (rKn h (sRI (tA h 49) m (tvI (tF h 48 3)).toNatClampNeg)) (rCn h (sRI (tA h 49) m (tvI (tF h 48 3)).toNatClampNeg)) (rLn h (sRI (tA h 49) m (tvI (tF h 48 3)).toNatClampNeg)) := by
  have b := kb_48_3 hB
  have hc : (((tvI (tF h 48 3)).toNatClampNeg : Nat) : Int) = (tvI (tF h 48 3)).toInt := zclx b.1
  generalize hy : sRI (tA h 49) m (tvI (tF h 48 3)).toNatClampNeg = y
  have z := sRI_r (fm := tA h 49) (m := m) (n := (tvI (tF h 48 3)).toNatClampNeg) (by omega)
  rw [hy] at z
  rcases z with z | ⟨q, z1, z2⟩
  · have k0 : rKn h y = 0 := if_pos z
    exact ⟨Or.inl ⟨z, k0⟩, Or.inl ⟨z, k0⟩⟩
  · have zn : y.toNatClampNeg = q := zof_cl z2
    have hne : ¬ y = -1 := fun w => by
      have k9 : (-1 : Int32).toInt = -1 := rfl
      rw [w] at z2
      omega
    obtain ⟨a, a1, a2, a3, k⟩ := hR q (by omega) (by omega)
    have D := rCd_D hB (by omega) a2 a3 k
    have e1 : rKn h y = (tA h 140 q).toNatClampNeg := by unfold rKn; rw [if_neg hne, zn]
    have e2 : rCn h y = cArr h a := by unfold rCn; rw [zn, a2]; rfl
    have e3 : rLn h y = fun i => mRow h (12 * q + i) := by funext i; unfold rLn; rw [zn]
    rw [e1, e2, e3]
    exact ⟨Or.inr ⟨q, a, a + 1, z2, by omega, a2, a3, ⟨a1, by omega⟩, D.1⟩, Or.inr ⟨q, z2, by omega, D.2⟩⟩
theorem rIm_fr {h h2 : zH} {y : Int32} {K : Nat} {cs : List Nat} {cl : Nat → rCt} (D : rIm h y K cs cl) (o : ∀ p, 133 ≤ p → p ≤ 140 → tA h2 p = tA h p) : rIm h2 y K cs cl := by
  rcases D with D | ⟨q, z1, z2, h1, h2, h3, h4, h5, h6, h7⟩
  · exact Or.inl D
  · refine Or.inr ⟨q, z1, z2, ?_, h2, ?_, h4, fun i hi => ?_, h6, h7⟩
    · rw [o 133 (by decide) (by decide), o 134 (by decide) (by decide)]; exact h1
    · rw [o 140 (by decide) (by decide)]; exact h3
    · rw [← h5 i hi]
      exact mRow_e (fun p p1 p2 => congrFun (o p (by omega) (by omega)) _)
theorem rIc_ok {h : zH} {y : Int32} {K : Nat} {cs : List Nat} {cl : Nat → rCt} (D : rIc h y K cs cl) : (K = 0 ∨ nVl cs ≤ 80) ∧ ∀ i, i < K → rOk cs (cl i) := by
  rcases D with ⟨-, k0⟩ | ⟨q, a, b, -, -, -, -, -, d⟩
  · exact ⟨Or.inl k0, fun i hi => by omega⟩
  · exact ⟨Or.inr d.nv, d.ok⟩
theorem qS_u {g1 g2 : Nat → Int64} {a b c d : Int64} {e f i : Int} (k1 : qS g1 a b c d e f i) (k2 : qS g2 a b c d e f i) : ∀ t, t < 12 → g1 t = g2 t := by
  intro t ht
  obtain ⟨k0, k1, k2', k3, k4, k5, k6, k7⟩ := k1
  obtain ⟨l0, l1, l2, l3, l4, l5, l6, l7⟩ := k2
  rcases (by omega : t = 0 ∨ t = 1 ∨ t = 2 ∨ t = 3 ∨ t = 4 ∨ t = 5 ∨ t = 6 ∨ (7 ≤ t ∧ t < 12)) with rfl | rfl | rfl | rfl | rfl | rfl | rfl | h7
  · rw [k0, l0]
  · rw [k1, l1]
  · rw [k2', l2]
  · rw [k3, l3]
  · exact Int64.toInt_inj.mp (k4.trans l4.symm)
  · exact Int64.toInt_inj.mp (k5.trans l5.symm)
  · exact Int64.toInt_inj.mp (k6.trans l6.symm)
  · rw [k7 t h7.1 h7.2, l7 t h7.1 h7.2]
theorem qS_of {W : Nat → Int64} {a b c d e3 f3 i3 : Int64} {e f i : Int} (k : ∀ t, t < 12 → W t = qW a b c d e3 f3 i3 t) (h4 : e3.toInt = e) (h5 : f3.toInt = f) (h6 : i3.toInt = i) : qS W a b c d e f i := by
  refine ⟨k 0 (by decide), k 1 (by decide), k 2 (by decide), k 3 (by decide), ?_, ?_, ?_, fun t h1 h2 => ?_⟩
  · rw [k 4 (by decide)]; exact h4
  · rw [k 5 (by decide)]; exact h5
  · rw [k 6 (by decide)]; exact h6
  · rw [k t h2]
    rcases (by omega : t = 7 ∨ t = 8 ∨ t = 9 ∨ t = 10 ∨ t = 11) with rfl | rfl | rfl | rfl | rfl <;> rfl
/-- the two's counts agree -/
theorem cnt_K {h h2 : zH} {k m : Int32} {n : Nat} (e1 : tA h2 121 = tA h 121) (e2 : tA h2 122 = tA h 122) (e3 : tA h2 123 = tA h 123) (hm : ∀ i, i < n → (tA h 122 i).toInt ≤ (tA h 123 i).toInt) : bN (wK h k) (tK9 h) n m.toInt = bN (mK9 h2 k m) (tK9 h2) n m.toInt := by
  refine bN_e2 (fun i hi => ⟨?_, fun hle => ?_⟩)
  · unfold tK9; rw [e3]
  · unfold wK mK9
    rw [e1, e2]
    have hle : (tA h 123 i).toInt ≤ m.toInt := hle
    have hm := hm i hi
    by_cases z : tA h 121 i = k
    · rw [if_pos z, if_pos ⟨z, by omega⟩]
    · rw [if_neg z, if_neg (fun y => z y.1)]
theorem cnt_F {h h2 : zH} {k : Int32} {t : Int} {n : Nat} (e1 : ∀ i, i < n → tA h 65 i = tA h2 121 (tA h2 152 i).toNatClampNeg) (e2 : tA h2 158 = tA h 71) (e3 : tA h2 157 = tA h 67) (e4 : tA h2 156 = tA h 70) : bN (wF h k) (tF9 h) n t = bN (mF9 h2 k) (mT9 h2) n t ∧ bN (wD h k) (tF9 h) n t = bN (mD9 h2 k) (mT9 h2) n t := by
  have et : ∀ i, tF9 h i = mT9 h2 i := fun i => by unfold tF9 mT9; rw [e3]
  constructor
  · refine bN_e (fun i hi => ⟨?_, et i⟩)
    unfold wF mF9
    rw [e1 i hi, e2]
  · refine bN_e (fun i hi => ⟨?_, et i⟩)
    unfold wD mD9
    rw [e1 i hi, e2, e4]
/-- what is counted and said has changed, nothing else -/
noncomputable def qFr (h h2 : zH) : Prop := tSh h2 ∧ tF h2 = tF h ∧ tO h2 = tO h ∧ tN h2 = tN h ∧ ∀ p, ¬ (p = 107 ∨ p = 108 ∨ p = 109) → tA h2 p = tA h p
theorem qFr_r {h : zH} (hs : tSh h) : qFr h h := ⟨hs, rfl, rfl, rfl, fun _ _ => rfl⟩
theorem qFr_of {h h1 h2 : zH} (a : aFr (fun r => r = 107 ∨ r = 108 ∨ r = 109) h h1) (l : lFr h1 h2) : qFr h h2 := ⟨l.1, l.2.1.trans a.2.1, l.2.2.2.1.trans a.2.2.2.1, l.2.2.2.2.trans a.2.2.2.2.1, fun p hp => (congrFun l.2.2.1 p).trans (a.2.2.2.2.2 p hp)⟩
theorem muO_b {W : Nat → Int64} {cs : List Nat} {cl : Nat → rCt} {K th : Nat} {r : Int32} (h : muO W cs cl K th r) : r = -1 ∨ (0 ≤ r.toInt ∧ r.toInt ≤ 200) := by
  rcases h with ⟨h, -⟩ | ⟨i, -, -, -, h⟩
  · exact Or.inl h
  · right
    unfold clI at h
    split at h
    · omega
    · split at h <;> omega
section TN9
variable {xs : Nat → Int32} {τ : List Nat} {h : zH}
theorem tn_107 (hB : zBs xs τ h) : tN h 107 = 600 := by
  obtain ⟨a, b, -⟩ := tkd_a hB (p := 107) (t := 75) rfl rfl
  omega
theorem tn_108 (hB : zBs xs τ h) : tN h 108 = 600 := by
  obtain ⟨a, b, -⟩ := tkd_a hB (p := 108) (t := 75) rfl rfl
  omega
theorem tn_109 (hB : zBs xs τ h) : tN h 109 = 600 := by
  obtain ⟨a, b, -⟩ := tkd_a hB (p := 109) (t := 75) rfl rfl
  omega
theorem tn_52 (hB : zBs xs τ h) : tN h 52 = 12 := by
  obtain ⟨a, b⟩ := tkd_j hB (p := 52) (t := 28) rfl rfl
  omega
theorem tn_53 (hB : zBs xs τ h) : tN h 53 = 80 := by
  obtain ⟨a, b⟩ := tkd_j hB (p := 53) (t := 29) rfl rfl
  omega
end TN9
theorem f_must {G : zG} (hG : G.1 = zProg) {h : zH} {k s m : Int32} {K : Nat} {cs : List Nat} {cl : Nat → rCt} (hs : tSh h) (hL : R_cl h) (hg : ∀ i r : Nat, (i : Int) < (tvI (tF h 36 4)).toInt → tO h 39 i = some r → 182 ≤ r) (hK : R_ckind h) (hT : R_ctl h) (hn107 : tN h 107 = 600) (hn108 : tN h 108 = 600) (hn109 : tN h 109 = 600) (h123 : ∀ i, i < 300 → 0 ≤ (tA h 123 i).toInt ∧ (tA h 123 i).toInt ≤ 599) (h36 : 0 ≤ (tvI (tF h 36 4)).toInt ∧ (tvI (tF h 36 4)).toInt ≤ 300) (h67 : ∀ i, i < 200 → 0 ≤ (tA h 67 i).toInt ∧ (tA h 67 i).toInt ≤ 599) (h70 : ∀ i, i < 200 → 0 ≤ (tA h 70 i).toInt ∧ (tA h 70 i).toInt ≤ 9) (h63 : 0 ≤ (tvI (tF h 63 8)).toInt ∧ (tvI (tF h 63 8)).toInt ≤ 200) (hn : 0 ≤ (tvI (tF h 48 3)).toInt) (h52 : tN h 52 = 12) (h53 : tN h 53 = 80) (D : rIc h (sRI (tA h 49) m (tvI (tF h 48 3)).toNatClampNeg) K cs cl) : tC zTt G 126 [.ref 0, .int k, .int s, .int m] h (fun w h2 => qFr h h2 ∧ ((((0 ≤ k.toInt ∧ k.toInt < (tvI (tF h 1 6)).toInt) ∧ (0 ≤ s.toInt ∧ s.toInt ≤ 2) ∧ (0 ≤ m.toInt ∧ m.toInt ≤ 599)) ∧ ∃ r W, w = some (.int r) ∧ qS W m.toInt64 k.toInt64 (tA h 3 k.toNatClampNeg).toInt64 m.toInt64 (bN (wK h k) (tK9 h) (tvI (tF h 36 4)).toNatClampNeg m.toInt) (bN (wF h k) (tF9 h) (tvI (tF h 63 8)).toNatClampNeg m.toInt) (bN (wD h k) (tF9 h) (tvI (tF h 63 8)).toNatClampNeg m.toInt) ∧ muO W cs cl K s.toNatClampNeg r) ∨ (¬ ((0 ≤ k.toInt ∧ k.toInt < (tvI (tF h 1 6)).toInt) ∧ (0 ≤ s.toInt ∧ s.toInt ≤ 2) ∧ (0 ≤ m.toInt ∧ m.toInt ≤ 599)) ∧ w = some (.int (-2))))) := by
  refine tC_in (by rw [hG]; rfl) (fun dp => ?_)
  refine tw_aload rfl rfl ?_
  refine tw_getS rfl (hs_0_0 hs) ?_
  refine tw_iload rfl rfl ?_
  refine tw_virt1 rfl (f_hasKind hG hs) (fun w9 h9 p1160 => ?_)
  obtain ⟨⟨p1160, rfl⟩ | ⟨p1160, rfl⟩, e9⟩ := p1160
  · try dsimp only [tvI_i, tvJ_j, tvR_r] at p1160
    obtain rfl := e9.symm
    refine tw_if_eq rfl (fun z => absurd z (by decide)) (fun _ => ?_)
    refine tw_iload rfl rfl ?_
    refine tw_stat1 rfl (f_isSort hG) (fun w9 h9 p1161 => ?_)
    obtain ⟨⟨p1161, rfl⟩ | ⟨p1161, rfl⟩, e9⟩ := p1161
    · try dsimp only [tvI_i, tvJ_j, tvR_r] at p1161
      obtain rfl := e9.symm
      refine tw_if_eq rfl (fun z => absurd z (by decide)) (fun _ => ?_)
      refine tw_iload rfl rfl ?_
      refine tw_stat1 rfl (f_isMonth hG) (fun w9 h9 p1162 => ?_)
      obtain ⟨⟨p1162, rfl⟩ | ⟨p1162, rfl⟩, e9⟩ := p1162
      · try dsimp only [tvI_i, tvJ_j, tvR_r] at p1162
        obtain rfl := e9.symm
        refine tw_if_ne rfl (fun _ => ?_) (fun z => absurd z (by decide))
        refine tw_aload rfl rfl ?_
        refine tw_iload rfl rfl ?_
        refine tw_virt1 rfl (f_tally hG hs hL hg hK hT hn107 hn108 hn109 h123 h36 h67 h70 h63) (fun wp1163 hp1163 p1163 => ?_)
        obtain ⟨rfl, FT, T7, T8, T9⟩ := p1163
        have eA : ∀ p, (p = 3 ∨ p = 49) → tA hp1163 p = tA h p := fun p hp => FT.2.2.2.2.2 p (fun z => by omega)
        have eF : tF hp1163 = tF h := FT.2.1
        refine tw_aload rfl rfl ?_
        refine tw_iload rfl rfl ?_
        refine tw_iload rfl rfl ?_
        refine tw_iload rfl rfl ?_
        refine tw_virt3 rfl (f_mustOf hG FT.1 (by rw [eF]; exact hn) (by rw [FT.2.2.2.2.1]; exact h52) (by rw [FT.2.2.2.2.1]; exact h53) (K := K) (cs := cs) (cl := cl) (th := s.toNatClampNeg) (by rw [eA 49 (Or.inr rfl), eF]; exact rIc_af D FT (fun q z => by omega)) (zclx (by omega)).symm (by rw [zclE]; omega)) (fun wp1164 hp1164 p1164 => ?_)
        obtain ⟨LM, r, W, rfl, hW, hm⟩ := p1164
        rw [eA 3 (Or.inl rfl)] at hW
        have hmc : ((m.toNatClampNeg : Nat) : Int) = m.toInt := zclx (by omega)
        have hmn : m.toNatClampNeg < 600 := by omega
        have u7 := T7 m.toNatClampNeg hmn
        have u8 := T8 m.toNatClampNeg hmn
        have u9 := T9 m.toNatClampNeg hmn
        rw [hmc] at u7 u8 u9
        have hQ : qS W m.toInt64 k.toInt64 (tA h 3 k.toNatClampNeg).toInt64 m.toInt64 (bN (wK h k) (tK9 h) (tvI (tF h 36 4)).toNatClampNeg m.toInt) (bN (wF h k) (tF9 h) (tvI (tF h 63 8)).toNatClampNeg m.toInt) (bN (wD h k) (tF9 h) (tvI (tF h 63 8)).toNatClampNeg m.toInt) := qS_of hW ((Int32.toInt_toInt64 _).trans u7) ((Int32.toInt_toInt64 _).trans u8) ((Int32.toInt_toInt64 _).trans u9)
        exact tw_iret rfl ⟨qFr_of FT LM, Or.inl ⟨by omega, r, W, rfl, hQ, hm⟩⟩
      · try dsimp only [tvI_i, tvJ_j, tvR_r] at p1162
        obtain rfl := e9.symm
        refine tw_if_ne rfl (fun z => absurd z (by decide)) (fun _ => ?_)
        refine tw_push rfl ?_
        exact tw_iret rfl ⟨qFr_r hs, Or.inr ⟨by omega, rfl⟩⟩
    · try dsimp only [tvI_i, tvJ_j, tvR_r] at p1161
      obtain rfl := e9.symm
      refine tw_if_eq rfl (fun _ => ?_) (fun z => absurd z (by decide))
      refine tw_push rfl ?_
      exact tw_iret rfl ⟨qFr_r hs, Or.inr ⟨by omega, rfl⟩⟩
  · try dsimp only [tvI_i, tvJ_j, tvR_r] at p1160
    obtain rfl := e9.symm
    refine tw_if_eq rfl (fun _ => ?_) (fun z => absurd z (by decide))
    refine tw_push rfl ?_
    exact tw_iret rfl ⟨qFr_r hs, Or.inr ⟨by omega, rfl⟩⟩
theorem g_isAsked {G : zG} (hG : G.1 = zProg) {h : zH} {k s m : Int32} (hs : tSh h) (hk3 : 0 ≤ (tvI (tF h 111 3)).toInt) : tC zTt G 234 [.ref 111, .int k, .int s, .int m] h (fun w h2 => tBo ((0 ≤ k.toInt ∧ k.toInt < (tvI (tF h 111 3)).toInt) ∧ (0 ≤ s.toInt ∧ s.toInt ≤ 2) ∧ (0 ≤ m.toInt ∧ m.toInt ≤ 599)) w ∧ h2 = h) := by
  refine tC_in (by rw [hG]; rfl) (fun dp => ?_)
  refine tw_aload rfl rfl ?_
  refine tw_iload rfl rfl ?_
  refine tw_virt1 rfl (g_isKind hG hs hk3) (fun w9 h9 p1165 => ?_)
  obtain ⟨⟨p1165, rfl⟩ | ⟨p1165, rfl⟩, e9⟩ := p1165
  · try dsimp only [tvI_i, tvJ_j, tvR_r] at p1165
    obtain rfl := e9.symm
    refine tw_if_eq rfl (fun z => absurd z (by decide)) (fun _ => ?_)
    refine tw_iload rfl rfl ?_
    refine tw_stat1 rfl (g_isSort hG) (fun w9 h9 p1166 => ?_)
    obtain ⟨⟨p1166, rfl⟩ | ⟨p1166, rfl⟩, e9⟩ := p1166
    · try dsimp only [tvI_i, tvJ_j, tvR_r] at p1166
      obtain rfl := e9.symm
      refine tw_if_eq rfl (fun z => absurd z (by decide)) (fun _ => ?_)
      refine tw_iload rfl rfl ?_
      refine tw_stat1 rfl (g_isMonth hG) (fun w9 h9 p1167 => ?_)
      obtain ⟨⟨p1167, rfl⟩ | ⟨p1167, rfl⟩, e9⟩ := p1167
      · try dsimp only [tvI_i, tvJ_j, tvR_r] at p1167
        obtain rfl := e9.symm
        refine tw_if_eq rfl (fun z => absurd z (by decide)) (fun _ => ?_)
        refine tw_push rfl ?_
        refine tw_goto rfl ?_
        exact tw_iret rfl ⟨Or.inl ⟨by omega, rfl⟩, rfl⟩
      · try dsimp only [tvI_i, tvJ_j, tvR_r] at p1167
        obtain rfl := e9.symm
        refine tw_if_eq rfl (fun _ => ?_) (fun z => absurd z (by decide))
        refine tw_push rfl ?_
        exact tw_iret rfl ⟨Or.inr ⟨by omega, rfl⟩, rfl⟩
    · try dsimp only [tvI_i, tvJ_j, tvR_r] at p1166
      obtain rfl := e9.symm
      refine tw_if_eq rfl (fun _ => ?_) (fun z => absurd z (by decide))
      refine tw_push rfl ?_
      exact tw_iret rfl ⟨Or.inr ⟨by omega, rfl⟩, rfl⟩
  · try dsimp only [tvI_i, tvJ_j, tvR_r] at p1165
    obtain rfl := e9.symm
    refine tw_if_eq rfl (fun _ => ?_) (fun z => absurd z (by decide))
    refine tw_push rfl ?_
    exact tw_iret rfl ⟨Or.inr ⟨by omega, rfl⟩, rfl⟩
theorem g_must {G : zG} (hG : G.1 = zProg) {h : zH} {k s m : Int32} {K : Nat} {cs : List Nat} {cl : Nat → rCt} (hs : tSh h) (hk3 : 0 ≤ (tvI (tF h 111 3)).toInt) (hn : 0 ≤ (tvI (tF h 111 30)).toInt) (D : rIm h (sRI (tA h 141) m (tvI (tF h 111 30)).toNatClampNeg) K cs cl) (h5 : 0 ≤ (tvI (tF h 111 5)).toInt ∧ (tvI (tF h 111 5)).toInt ≤ 300) (h59 : 0 ≤ (tvI (tF h 111 59)).toInt ∧ (tvI (tF h 111 59)).toInt ≤ 200) (h156 : ∀ i, i < 200 → 0 ≤ (tA h 156 i).toInt ∧ (tA h 156 i).toInt ≤ 9) (h133 : ∀ i, i < 5000 → 0 ≤ (tA h 133 i).toInt ∧ (tA h 133 i).toInt ≤ 14) (h134 : ∀ i, i < 5000 → 0 ≤ (tA h 134 i).toInt ∧ (tA h 134 i).toInt ≤ 99999) (h135 : ∀ i, i < 120 → 0 ≤ (tA h 135 i).toInt ∧ (tA h 135 i).toInt ≤ 3) (h136 : ∀ i, i < 120 → 0 ≤ (tA h 136 i).toInt ∧ (tA h 136 i).toInt ≤ 99999) (h137 : ∀ i, i < 120 → 0 ≤ (tA h 137 i).toInt ∧ (tA h 137 i).toInt ≤ 410) (h138 : ∀ i, i < 120 → 0 ≤ (tA h 138 i).toInt ∧ (tA h 138 i).toInt ≤ 410) (h139 : ∀ i, i < 120 → 0 ≤ (tA h 139 i).toInt ∧ (tA h 139 i).toInt ≤ 410) : tC zTt G 235 [.ref 111, .int k, .int s, .int m] h (fun w h2 => (((0 ≤ k.toInt ∧ k.toInt < (tvI (tF h 111 3)).toInt) ∧ (0 ≤ s.toInt ∧ s.toInt ≤ 2) ∧ (0 ≤ m.toInt ∧ m.toInt ≤ 599)) ∧ ∃ r, w = some (.int r) ∧ ((K = 0 ∧ r = -1) ∨ ∃ W, qS W m.toInt64 k.toInt64 (tA h 114 k.toNatClampNeg).toInt64 m.toInt64 (bN (mK9 h k m) (tK9 h) (tvI (tF h 111 5)).toNatClampNeg m.toInt) (bN (mF9 h k) (mT9 h) (tvI (tF h 111 59)).toNatClampNeg m.toInt) (bN (mD9 h k) (mT9 h) (tvI (tF h 111 59)).toNatClampNeg m.toInt) ∧ muO W cs cl K s.toNatClampNeg r)) ∨ (¬ ((0 ≤ k.toInt ∧ k.toInt < (tvI (tF h 111 3)).toInt) ∧ (0 ≤ s.toInt ∧ s.toInt ≤ 2) ∧ (0 ≤ m.toInt ∧ m.toInt ≤ 599)) ∧ w = some (.int (-2)))) := by
  refine tC_in (by rw [hG]; rfl) (fun dp => ?_)
  refine tw_aload rfl rfl ?_
  refine tw_iload rfl rfl ?_
  refine tw_iload rfl rfl ?_
  refine tw_iload rfl rfl ?_
  refine tw_virt3 rfl (g_isAsked hG hs hk3) (fun w9 h9 p1168 => ?_)
  obtain ⟨⟨p1168, rfl⟩ | ⟨p1168, rfl⟩, e9⟩ := p1168
  · try dsimp only [tvI_i, tvJ_j, tvR_r] at p1168
    obtain rfl := e9.symm
    refine tw_if_eq rfl (fun z => absurd z (by decide)) (fun _ => ?_)
    refine tw_aload rfl rfl ?_
    refine tw_iload rfl rfl ?_
    refine tw_iload rfl rfl ?_
    refine tw_iload rfl rfl ?_
    refine tw_virt3 rfl (g_mustOf hG hs hn D (zclx (by omega)).symm (by rw [zclE]; omega) h5 h59 h156 h133 h134 h135 h136 h137 h138 h139) (fun wp1169 hp1169 p1169 => ?_)
    obtain ⟨LM, r, rfl, hm⟩ := p1169
    refine tw_goto rfl ?_
    exact tw_iret rfl (Or.inl ⟨by omega, r, rfl, hm⟩)
  · try dsimp only [tvI_i, tvJ_j, tvR_r] at p1168
    obtain rfl := e9.symm
    refine tw_if_eq rfl (fun _ => ?_) (fun z => absurd z (by decide))
    refine tw_push rfl ?_
    exact tw_iret rfl (Or.inr ⟨by omega, rfl⟩)
noncomputable def ph_muc (k s m : Int32) (h : zH) (w : Option Value) (_h2 : zH) : Prop := ((((0 ≤ k.toInt ∧ k.toInt < (tvI (tF h 1 6)).toInt) ∧ (0 ≤ s.toInt ∧ s.toInt ≤ 2) ∧ (0 ≤ m.toInt ∧ m.toInt ≤ 599)) ∧ ∃ r W, w = some (.int r) ∧ qS W m.toInt64 k.toInt64 (tA h 3 k.toNatClampNeg).toInt64 m.toInt64 (bN (wK h k) (tK9 h) (tvI (tF h 36 4)).toNatClampNeg m.toInt) (bN (wF h k) (tF9 h) (tvI (tF h 63 8)).toNatClampNeg m.toInt) (bN (wD h k) (tF9 h) (tvI (tF h 63 8)).toNatClampNeg m.toInt) ∧ muO W (rCn h (sRI (tA h 49) m (tvI (tF h 48 3)).toNatClampNeg)) (rLn h (sRI (tA h 49) m (tvI (tF h 48 3)).toNatClampNeg)) (rKn h (sRI (tA h 49) m (tvI (tF h 48 3)).toNatClampNeg)) s.toNatClampNeg r) ∨ (¬ ((0 ≤ k.toInt ∧ k.toInt < (tvI (tF h 1 6)).toInt) ∧ (0 ≤ s.toInt ∧ s.toInt ≤ 2) ∧ (0 ≤ m.toInt ∧ m.toInt ≤ 599)) ∧ w = some (.int (-2))))
noncomputable def ph_mum (k s m : Int32) (h : zH) (_w : Option Value) (h2 : zH) (w : Option Value) (_h3 : zH) : Prop := (((0 ≤ k.toInt ∧ k.toInt < (tvI (tF h2 111 3)).toInt) ∧ (0 ≤ s.toInt ∧ s.toInt ≤ 2) ∧ (0 ≤ m.toInt ∧ m.toInt ≤ 599)) ∧ ∃ r, w = some (.int r) ∧ ((rKn h (sRI (tA h 49) m (tvI (tF h 48 3)).toNatClampNeg) = 0 ∧ r = -1) ∨ ∃ W, qS W m.toInt64 k.toInt64 (tA h2 114 k.toNatClampNeg).toInt64 m.toInt64 (bN (mK9 h2 k m) (tK9 h2) (tvI (tF h2 111 5)).toNatClampNeg m.toInt) (bN (mF9 h2 k) (mT9 h2) (tvI (tF h2 111 59)).toNatClampNeg m.toInt) (bN (mD9 h2 k) (mT9 h2) (tvI (tF h2 111 59)).toNatClampNeg m.toInt) ∧ muO W (rCn h (sRI (tA h 49) m (tvI (tF h 48 3)).toNatClampNeg)) (rLn h (sRI (tA h 49) m (tvI (tF h 48 3)).toNatClampNeg)) (rKn h (sRI (tA h 49) m (tvI (tF h 48 3)).toNatClampNeg)) s.toNatClampNeg r)) ∨ (¬ ((0 ≤ k.toInt ∧ k.toInt < (tvI (tF h2 111 3)).toInt) ∧ (0 ≤ s.toInt ∧ s.toInt ≤ 2) ∧ (0 ≤ m.toInt ∧ m.toInt ≤ 599)) ∧ w = some (.int (-2)))
theorem g_mustD {G : zG} (hG : G.1 = zProg) {k s m : Int32} {τ τ2 : List Nat} {h h2 : zH} {w : Option Value} (hB : zBs G.2.2.2 τ h) (hB2 : zBs G.2.2.2 τ2 h2) (hR : R_rcd h) (hN : R_rules h) (hF : R_froms h) (e30 : tF h2 111 30 = tF h 111 30) (e141 : tA h2 141 = tA h 141) (o133 : ∀ p, 133 ≤ p → p ≤ 140 → tA h2 p = tA h p) : tC zTt G 235 [.ref 111, .int k, .int s, .int m] h2 (fun w2 h3 => ph_mum k s m h w h2 w2 h3) := by
  unfold R_rules at hN
  unfold R_froms at hF
  have D := rIm_fr (rIn_D (m := m) hB hR).2 o133
  have ey : sRI (tA h2 141) m (tvI (tF h2 111 30)).toNatClampNeg = (sRI (tA h 49) m (tvI (tF h 48 3)).toNatClampNeg) := by rw [e30, e141, ← hN, ← hF]
  rw [← ey] at D
  refine (g_must hG (zBs_sh hB2) (kb_111_3 hB2).1 (kb_111_30 hB2).1 D (kb_111_5 hB2) (kb_111_59 hB2) (ka_156 hB2).2 (ka_133 hB2).2 (ka_134 hB2).2 (ka_135 hB2).2 (ka_136 hB2).2 (ka_137 hB2).2 (ka_138 hB2).2 (ka_139 hB2).2).mono (fun w2 h3 z => ?_)
  unfold ph_mum
  rw [← ey]
  exact z
theorem a_must {xs : Nat → Int32} {τ : List Nat} {k s m : Int32} {h h2 h3 : zH} {w w2 : Option Value} (hB : zBs xs τ h) (hR : R_rcd h) (hK : R_kinds h) (hC : R_cars h) (hX : R_crashes h) (hf : R_kfirm h) (hM : R_cmt h) (h2k : R_ck2 h) (hct : R_ctold h) (hcd : R_cdead h) (hcb : R_cburn h) (e3 : tF h2 111 3 = tF h 111 3) (e5 : tF h2 111 5 = tF h 111 5) (e59 : tF h2 111 59 = tF h 111 59) (o114 : tA h2 114 = tA h 114) (o121 : tA h2 121 = tA h 121) (o122 : tA h2 122 = tA h 122) (o123 : tA h2 123 = tA h 123) (o152 : tA h2 152 = tA h 152) (o156 : tA h2 156 = tA h 156) (o157 : tA h2 157 = tA h 157) (o158 : tA h2 158 = tA h 158) (k1 : ph_muc k s m h w h2) (k2 : ph_mum k s m h w h2 w2 h3) : w2 = w := by
  unfold R_kinds at hK
  unfold R_cars at hC
  unfold R_crashes at hX
  unfold R_kfirm at hf
  unfold R_ctold at hct
  unfold R_cdead at hcd
  unfold R_cburn at hcb
  unfold ph_mum at k2
  rw [e3, e5, e59, o114, ← hK, ← hC, ← hX, ← hf] at k2
  have b4 := kb_36_4 hB
  have b8 := kb_63_8 hB
  have c1 := cnt_K (h := h) (h2 := h2) (k := k) (m := m) (n := (tvI (tF h 36 4)).toNatClampNeg) o121 o122 o123 (fun i hi => hM i (by rw [← hC]; rw [zclE] at hi; omega))
  have c2 := cnt_F (h := h) (h2 := h2) (k := k) (t := m.toInt) (n := (tvI (tF h 63 8)).toNatClampNeg) (fun i hi => by rw [o121, o152]; exact (h2k i (by rw [← hX]; rw [zclE] at hi; omega)).1) (o158.trans hcb.symm) (o157.trans hct.symm) (o156.trans hcd.symm)
  rw [← c1, ← c2.1, ← c2.2] at k2
  have D := (rIn_D (m := m) hB hR).1
  rcases k1 with ⟨a1, r, W, rfl, a2, a3⟩ | ⟨a1, rfl⟩ <;> rcases k2 with ⟨d1, r2, rfl, d2⟩ | ⟨d1, rfl⟩
  · have e : r2 = r := by
      rcases d2 with ⟨k0, d2⟩ | ⟨W2, d2, d3⟩
      · rcases a3 with ⟨a3, -⟩ | ⟨i, hi, -⟩
        · rw [d2, a3]
        · omega
      · by_cases k0 : rKn h (sRI (tA h 49) m (tvI (tF h 48 3)).toNatClampNeg) = 0
        · rcases a3 with ⟨a3, -⟩ | ⟨i, hi, -⟩
          · rcases d3 with ⟨d3, -⟩ | ⟨j, hj, -⟩
            · rw [d3, a3]
            · omega
          · omega
        · exact muO_u (qS_u a2 d2) (rIc_ok D).2 ((rIc_ok D).1.resolve_left k0) (by rw [zclE]; omega) a3 d3
    rw [e]
  · exact absurd a1 d1
  · exact absurd d1 a1
  · rfl
theorem f_partsFitted {G : zG} (hG : G.1 = zProg) {h : zH} {k m : Int32} (hs : tSh h) (hr : tRw h) (hp : 0 ≤ (tvI (tF h 1 7)).toInt) : tC zTt G 32 [.ref 1, .int k, .int m] h (fun w h2 => w = some (.int (sPB (tA h (28 + k.toNatClampNeg)) m (tvI (tF h 1 7)).toNatClampNeg)) ∧ h2 = h) := by
  refine tC_in (by rw [hG]; rfl) (fun dp => ?_)
  refine tw_push rfl ?_
  refine tw_istore rfl ?_
  refine tw_push rfl ?_
  refine tw_istore rfl ?_
  refine tG_loop (zW_mono zTt G dp) (zW_conj zTt G dp) (V := fun pc L st h9 _ _ => pc = 5 ∧ st = [] ∧ h = h9 ∧ ∃ (n : Nat) (x y : Int32), x.toInt = n ∧ (n : Int) ≤ (tvI (tF h 1 7)).toInt ∧ y = sPB (tA h (28 + k.toNatClampNeg)) m n ∧ L = [some (.ref 1), some (.int k), some (.int m), some (.int y), some (.int x)]) ?_ (⟨rfl, rfl, rfl, 0, 0, 0, rfl, hp, rfl, rfl⟩)
  rintro _ _ _ _ _ _ ⟨rfl, rfl, rfl, n, x, y, hx, hn, hy, rfl⟩
  refine tw_iload rfl rfl ?_
  refine tw_aload rfl rfl ?_
  refine tw_getS rfl (hi_1_7 hs) ?_
  refine tw_ic_ge rfl (fun q1170 => ?_) (fun q1170 => ?_)
  · try dsimp only [tvI_i, tvJ_j, tvR_r] at q1170
    refine tw_iload rfl rfl ?_
    exact tw_iret rfl ⟨(by rw [show n = (tvI (tF h 1 7)).toNatClampNeg from by rw [zclE]; omega] at hy; exact congrArg (fun z => some (Value.int z)) hy), rfl⟩
  · try dsimp only [tvI_i, tvJ_j, tvR_r] at q1170
    refine tw_aload rfl rfl ?_
    refine tw_getS rfl (hs_1_5 hs) ?_
    refine tw_iload rfl rfl ?_
    refine tw_aaldS rfl (fun z => tRw_at hr (p := 27) (q := 28) (by decide) z) ?_
    refine tw_iload rfl rfl ?_
    refine tw_iald rfl (fun f1172 => ?_)
    refine tw_iload rfl rfl ?_
    refine tw_ic_gt rfl (fun q1173 => ?_) (fun q1173 => ?_)
    · try dsimp only [tvI_i, tvJ_j, tvR_r] at q1173
      refine tw_iinc rfl rfl ?_
      refine tw_goto rfl ?_
      rw [zof_cl hx] at q1173
      exact tG_cut (zW_mono zTt G dp) (Or.inr ⟨rfl, rfl, rfl, n + 1, x + 1, _, zincL hx q1170, by omega, sPB_n hy q1173, rfl⟩)
    · try dsimp only [tvI_i, tvJ_j, tvR_r] at q1173
      refine tw_iload rfl rfl ?_
      refine tw_push rfl ?_
      refine tw_iload rfl rfl ?_
      refine tw_ishl rfl ?_
      refine tw_ior rfl ?_
      refine tw_istore rfl ?_
      refine tw_iinc rfl rfl ?_
      refine tw_goto rfl ?_
      rw [zof_cl hx] at q1173
      exact tG_cut (zW_mono zTt G dp) (Or.inr ⟨rfl, rfl, rfl, n + 1, x + 1, _, zincL hx q1170, by omega, sPB_y hx hy q1173, rfl⟩)
theorem g_partsOf {G : zG} (hG : G.1 = zProg) {h : zH} {k m : Int32} (hs : tSh h) (hm4 : 0 ≤ (tvI (tF h 111 4)).toInt ∧ (tvI (tF h 111 4)).toInt ≤ 12) (hk : 0 ≤ k.toInt ∧ k.toInt ≤ 7) : tC zTt G 188 [.ref 111, .int k, .int m] h (fun w h2 => w = some (.int (sPB (fun p => tA h 118 (12 * k.toNatClampNeg + p)) m (tvI (tF h 111 4)).toNatClampNeg)) ∧ h2 = h) := by
  refine tC_in (by rw [hG]; rfl) (fun dp => ?_)
  refine tw_push rfl ?_
  refine tw_istore rfl ?_
  refine tw_push rfl ?_
  refine tw_istore rfl ?_
  refine tG_loop (zW_mono zTt G dp) (zW_conj zTt G dp) (V := fun pc L st h9 _ _ => pc = 5 ∧ st = [] ∧ h = h9 ∧ ∃ (n : Nat) (x y : Int32), x.toInt = n ∧ (n : Int) ≤ (tvI (tF h 111 4)).toInt ∧ y = sPB (fun p => tA h 118 (12 * k.toNatClampNeg + p)) m n ∧ L = [some (.ref 111), some (.int k), some (.int m), some (.int y), some (.int x)]) ?_ (⟨rfl, rfl, rfl, 0, 0, 0, rfl, hm4.1, rfl, rfl⟩)
  rintro _ _ _ _ _ _ ⟨rfl, rfl, rfl, n, x, y, hx, hn, hy, rfl⟩
  refine tw_iload rfl rfl ?_
  refine tw_aload rfl rfl ?_
  refine tw_getS rfl (hi_111_4 hs) ?_
  refine tw_ic_ge rfl (fun q1174 => ?_) (fun q1174 => ?_)
  · try dsimp only [tvI_i, tvJ_j, tvR_r] at q1174
    refine tw_iload rfl rfl ?_
    exact tw_iret rfl ⟨(by rw [show n = (tvI (tF h 111 4)).toNatClampNeg from by rw [zclE]; omega] at hy; exact congrArg (fun z => some (Value.int z)) hy), rfl⟩
  · try dsimp only [tvI_i, tvJ_j, tvR_r] at q1174
    refine tw_iload rfl rfl ?_
    refine tw_aload rfl rfl ?_
    refine tw_getS rfl (hs_111_13 hs) ?_
    refine tw_push rfl ?_
    refine tw_iload rfl rfl ?_
    refine tw_imul rfl ?_
    refine tw_iload rfl rfl ?_
    refine tw_iadd rfl ?_
    refine tw_iald rfl (fun f1175 => ?_)
    refine tw_iload rfl rfl ?_
    refine tw_ic_gt rfl (fun q1176 => ?_) (fun q1176 => ?_)
    · try dsimp only [tvI_i, tvJ_j, tvR_r] at q1176
      refine tw_push rfl ?_
      refine tw_ior rfl ?_
      refine tw_istore rfl ?_
      refine tw_iinc rfl rfl ?_
      refine tw_goto rfl ?_
      have e9 := (zmulc (c := 12) (K := 12) (k := k) (p := x) rfl (by decide) (by omega) (by omega)).1
      rw [zof_cl hx] at e9
      rw [e9] at q1176
      exact tG_cut (zW_mono zTt G dp) (Or.inr ⟨rfl, rfl, rfl, n + 1, x + 1, _, zincL hx q1174, by omega, sPB_0 hy q1176, rfl⟩)
    · try dsimp only [tvI_i, tvJ_j, tvR_r] at q1176
      refine tw_push rfl ?_
      refine tw_iload rfl rfl ?_
      refine tw_ishl rfl ?_
      refine tw_goto rfl ?_
      refine tw_ior rfl ?_
      refine tw_istore rfl ?_
      refine tw_iinc rfl rfl ?_
      refine tw_goto rfl ?_
      have e9 := (zmulc (c := 12) (K := 12) (k := k) (p := x) rfl (by decide) (by omega) (by omega)).1
      rw [zof_cl hx] at e9
      rw [e9] at q1176
      exact tG_cut (zW_mono zTt G dp) (Or.inr ⟨rfl, rfl, rfl, n + 1, x + 1, _, zincL hx q1174, by omega, sPB_y hx hy q1176, rfl⟩)
theorem f_forceAt {G : zG} (hG : G.1 = zProg) {h : zH} {s v : Int32} (hs : tSh h) : tC zTt G 33 [.ref 1, .int s, .int v] h (fun w h2 => w = some (.int (v * v * tA h 2 s.toNatClampNeg / 100)) ∧ h2 = h) := by
  refine tC_in (by rw [hG]; rfl) (fun dp => ?_)
  refine tw_iload rfl rfl ?_
  refine tw_iload rfl rfl ?_
  refine tw_imul rfl ?_
  refine tw_aload rfl rfl ?_
  refine tw_getS rfl (hs_1_0 hs) ?_
  refine tw_iload rfl rfl ?_
  refine tw_iald rfl (fun f1177 => ?_)
  refine tw_imul rfl ?_
  refine tw_push rfl ?_
  refine tw_idiv rfl (fun _ => ?_)
  exact tw_iret rfl ⟨rfl, rfl⟩
theorem g_forceOf {G : zG} (hG : G.1 = zProg) {h : zH} {s v : Int32} (hs : tSh h) : tC zTt G 190 [.ref 111, .int s, .int v] h (fun w h2 => w = some (.int (v * v * tA h 113 s.toNatClampNeg / 100)) ∧ h2 = h) := by
  refine tC_in (by rw [hG]; rfl) (fun dp => ?_)
  refine tw_iload rfl rfl ?_
  refine tw_iload rfl rfl ?_
  refine tw_imul rfl ?_
  refine tw_aload rfl rfl ?_
  refine tw_getS rfl (hs_111_8 hs) ?_
  refine tw_iload rfl rfl ?_
  refine tw_iald rfl (fun f1178 => ?_)
  refine tw_imul rfl ?_
  refine tw_push rfl ?_
  refine tw_idiv rfl (fun _ => ?_)
  exact tw_iret rfl ⟨rfl, rfl⟩
theorem f_burnsWith {G : zG} (hG : G.1 = zProg) {h : zH} {k b s v : Int32} (hs : tSh h) (hr : tRw h) (hp : 0 ≤ (tvI (tF h 1 7)).toInt) : tC zTt G 34 [.ref 1, .int k, .int b, .int s, .int v] h (fun w h2 => tBo ((sBn (fun p => tA h (15 + p) s.toNatClampNeg) b (tA h (5 + k.toNatClampNeg) s.toNatClampNeg) (tvI (tF h 1 7)).toNatClampNeg).toInt < (v * v * tA h 2 s.toNatClampNeg / 100).toInt) w ∧ h2 = h) := by
  refine tC_in (by rw [hG]; rfl) (fun dp => ?_)
  refine tw_aload rfl rfl ?_
  refine tw_getS rfl (hs_1_2 hs) ?_
  refine tw_iload rfl rfl ?_
  refine tw_aaldS rfl (fun z => tRw_at hr (p := 4) (q := 5) (by decide) z) ?_
  refine tw_iload rfl rfl ?_
  refine tw_iald rfl (fun f1180 => ?_)
  refine tw_istore rfl ?_
  refine tw_push rfl ?_
  refine tw_istore rfl ?_
  refine tG_loop (zW_mono zTt G dp) (zW_conj zTt G dp) (V := fun pc L st h9 _ _ => pc = 13 ∧ st = [] ∧ h = h9 ∧ ∃ (n : Nat) (x y : Int32), x.toInt = n ∧ (n : Int) ≤ (tvI (tF h 1 7)).toInt ∧ y = sBn (fun p => tA h (15 + p) s.toNatClampNeg) b (tA h (5 + k.toNatClampNeg) s.toNatClampNeg) n ∧ L = [some (.ref 1), some (.int k), some (.int b), some (.int s), some (.int v), some (.int y), some (.int x)]) ?_ (⟨rfl, rfl, rfl, 0, 0, _, rfl, hp, rfl, rfl⟩)
  rintro _ _ _ _ _ _ ⟨rfl, rfl, rfl, n, x, y, hx, hn, hy, rfl⟩
  refine tw_iload rfl rfl ?_
  refine tw_aload rfl rfl ?_
  refine tw_getS rfl (hi_1_7 hs) ?_
  refine tw_ic_ge rfl (fun q1181 => ?_) (fun q1181 => ?_)
  · try dsimp only [tvI_i, tvJ_j, tvR_r] at q1181
    refine tw_aload rfl rfl ?_
    refine tw_iload rfl rfl ?_
    refine tw_iload rfl rfl ?_
    refine tw_virt2 rfl (f_forceAt hG hs) (fun w9 h9 p1182 => ?_)
    obtain ⟨rfl, e9⟩ := p1182
    obtain rfl := e9.symm
    refine tw_iload rfl rfl ?_
    refine tw_ic_le rfl (fun q1183 => ?_) (fun q1183 => ?_)
    · try dsimp only [tvI_i, tvJ_j, tvR_r] at q1183
      refine tw_push rfl ?_
      rw [show n = (tvI (tF h 1 7)).toNatClampNeg from by rw [zclE]; omega] at hy
      rw [hy] at q1183
      exact tw_iret rfl ⟨Or.inr ⟨fun z => absurd z (by omega), rfl⟩, rfl⟩
    · try dsimp only [tvI_i, tvJ_j, tvR_r] at q1183
      refine tw_push rfl ?_
      refine tw_goto rfl ?_
      rw [show n = (tvI (tF h 1 7)).toNatClampNeg from by rw [zclE]; omega] at hy
      rw [hy] at q1183
      exact tw_iret rfl ⟨Or.inl ⟨q1183, rfl⟩, rfl⟩
  · try dsimp only [tvI_i, tvJ_j, tvR_r] at q1181
    refine tw_iload rfl rfl ?_
    refine tw_iload rfl rfl ?_
    refine tw_ishr rfl ?_
    refine tw_push rfl ?_
    refine tw_iand rfl ?_
    refine tw_push rfl ?_
    refine tw_ic_ne rfl (fun q1184 => ?_) (fun q1184 => ?_)
    · try dsimp only [tvI_i, tvJ_j, tvR_r] at q1184
      have q1184i := zneq (Y := 1) (by decide) q1184
      refine tw_iinc rfl rfl ?_
      refine tw_goto rfl ?_
      exact tG_cut (zW_mono zTt G dp) (Or.inr ⟨rfl, rfl, rfl, n + 1, x + 1, _, zincL hx q1181, by omega, sBn_n hx hy q1184, rfl⟩)
    · try dsimp only [tvI_i, tvJ_j, tvR_r] at q1184
      have q1184i := zeqi (Y := 1) (by decide) q1184
      refine tw_iload rfl rfl ?_
      refine tw_aload rfl rfl ?_
      refine tw_getS rfl (hs_1_4 hs) ?_
      refine tw_iload rfl rfl ?_
      refine tw_aaldS rfl (fun z => tRw_at hr (p := 14) (q := 15) (by decide) z) ?_
      refine tw_iload rfl rfl ?_
      refine tw_iald rfl (fun f1186 => ?_)
      refine tw_iadd rfl ?_
      refine tw_istore rfl ?_
      refine tw_iinc rfl rfl ?_
      refine tw_goto rfl ?_
      exact tG_cut (zW_mono zTt G dp) (Or.inr ⟨rfl, rfl, rfl, n + 1, x + 1, _, zincL hx q1181, by omega, sBn_y hx hy q1184 (by show tA h (15 + x.toNatClampNeg) s.toNatClampNeg = _; rw [zof_cl hx]), rfl⟩)
theorem g_burnsWith {G : zG} (hG : G.1 = zProg) {h : zH} {k b s v : Int32} (hs : tSh h) (hm4 : 0 ≤ (tvI (tF h 111 4)).toInt ∧ (tvI (tF h 111 4)).toInt ≤ 12) (hk : 0 ≤ k.toInt ∧ k.toInt ≤ 7) (hS : 0 ≤ s.toInt ∧ s.toInt ≤ 2) : tC zTt G 191 [.ref 111, .int k, .int b, .int s, .int v] h (fun w h2 => tBo ((sBn (fun p => tA h 117 (3 * p + s.toNatClampNeg)) b (tA h 115 (3 * k.toNatClampNeg + s.toNatClampNeg)) (tvI (tF h 111 4)).toNatClampNeg).toInt < (v * v * tA h 113 s.toNatClampNeg / 100).toInt) w ∧ h2 = h) := by
  refine tC_in (by rw [hG]; rfl) (fun dp => ?_)
  refine tw_aload rfl rfl ?_
  refine tw_getS rfl (hs_111_10 hs) ?_
  refine tw_push rfl ?_
  refine tw_iload rfl rfl ?_
  refine tw_imul rfl ?_
  refine tw_iload rfl rfl ?_
  refine tw_iadd rfl ?_
  refine tw_iald rfl (fun f1187 => ?_)
  refine tw_istore rfl ?_
  refine tw_push rfl ?_
  refine tw_istore rfl ?_
  refine tG_loop (zW_mono zTt G dp) (zW_conj zTt G dp) (V := fun pc L st h9 _ _ => pc = 15 ∧ st = [] ∧ h = h9 ∧ ∃ (n : Nat) (x y : Int32), x.toInt = n ∧ (n : Int) ≤ (tvI (tF h 111 4)).toInt ∧ y = sBn (fun p => tA h 117 (3 * p + s.toNatClampNeg)) b (tA h 115 (3 * k.toNatClampNeg + s.toNatClampNeg)) n ∧ L = [some (.ref 111), some (.int k), some (.int b), some (.int s), some (.int v), some (.int y), some (.int x)]) ?_ (⟨rfl, rfl, rfl, 0, 0, _, rfl, hm4.1, (by show tA h 115 (3 * k + s).toNatClampNeg = _; rw [(zmulc (c := 3) (K := 3) (k := k) (p := s) rfl (by decide) (by omega) (by omega)).1]; rfl), rfl⟩)
  rintro _ _ _ _ _ _ ⟨rfl, rfl, rfl, n, x, y, hx, hn, hy, rfl⟩
  refine tw_iload rfl rfl ?_
  refine tw_aload rfl rfl ?_
  refine tw_getS rfl (hi_111_4 hs) ?_
  refine tw_ic_ge rfl (fun q1188 => ?_) (fun q1188 => ?_)
  · try dsimp only [tvI_i, tvJ_j, tvR_r] at q1188
    refine tw_aload rfl rfl ?_
    refine tw_iload rfl rfl ?_
    refine tw_iload rfl rfl ?_
    refine tw_virt2 rfl (g_forceOf hG hs) (fun w9 h9 p1189 => ?_)
    obtain ⟨rfl, e9⟩ := p1189
    obtain rfl := e9.symm
    refine tw_iload rfl rfl ?_
    refine tw_ic_le rfl (fun q1190 => ?_) (fun q1190 => ?_)
    · try dsimp only [tvI_i, tvJ_j, tvR_r] at q1190
      refine tw_push rfl ?_
      rw [show n = (tvI (tF h 111 4)).toNatClampNeg from by rw [zclE]; omega] at hy
      rw [hy] at q1190
      exact tw_iret rfl ⟨Or.inr ⟨fun z => absurd z (by omega), rfl⟩, rfl⟩
    · try dsimp only [tvI_i, tvJ_j, tvR_r] at q1190
      refine tw_push rfl ?_
      refine tw_goto rfl ?_
      rw [show n = (tvI (tF h 111 4)).toNatClampNeg from by rw [zclE]; omega] at hy
      rw [hy] at q1190
      exact tw_iret rfl ⟨Or.inl ⟨q1190, rfl⟩, rfl⟩
  · try dsimp only [tvI_i, tvJ_j, tvR_r] at q1188
    refine tw_iload rfl rfl ?_
    refine tw_iload rfl rfl ?_
    refine tw_iload rfl rfl ?_
    refine tw_ishr rfl ?_
    refine tw_push rfl ?_
    refine tw_iand rfl ?_
    refine tw_push rfl ?_
    refine tw_ic_ne rfl (fun q1191 => ?_) (fun q1191 => ?_)
    · try dsimp only [tvI_i, tvJ_j, tvR_r] at q1191
      have q1191i := zneq (Y := 1) (by decide) q1191
      refine tw_push rfl ?_
      refine tw_iadd rfl ?_
      refine tw_istore rfl ?_
      refine tw_iinc rfl rfl ?_
      refine tw_goto rfl ?_
      exact tG_cut (zW_mono zTt G dp) (Or.inr ⟨rfl, rfl, rfl, n + 1, x + 1, _, zincL hx q1188, by omega, sBn_0 hx hy q1191, rfl⟩)
    · try dsimp only [tvI_i, tvJ_j, tvR_r] at q1191
      have q1191i := zeqi (Y := 1) (by decide) q1191
      refine tw_aload rfl rfl ?_
      refine tw_getS rfl (hs_111_12 hs) ?_
      refine tw_push rfl ?_
      refine tw_iload rfl rfl ?_
      refine tw_imul rfl ?_
      refine tw_iload rfl rfl ?_
      refine tw_iadd rfl ?_
      refine tw_iald rfl (fun f1192 => ?_)
      refine tw_goto rfl ?_
      refine tw_iadd rfl ?_
      refine tw_istore rfl ?_
      refine tw_iinc rfl rfl ?_
      refine tw_goto rfl ?_
      exact tG_cut (zW_mono zTt G dp) (Or.inr ⟨rfl, rfl, rfl, n + 1, x + 1, _, zincL hx q1188, by omega, sBn_y hx hy q1191 (by show tA h 117 (3 * x + s).toNatClampNeg = _; rw [(zmulc (c := 3) (K := 3) (k := x) (p := s) rfl (by decide) (by omega) (by omega)).1, zof_cl hx]), rfl⟩)
theorem burn_eq {xs : Nat → Int32} {τ : List Nat} {h : zH} {k s v b b2 : Int32} (hB : zBs xs τ h) (hP : R_parts h) (hE : R_bears h) (hA : R_adds h) (hF : R_factor h) (hk : 0 ≤ k.toInt ∧ k.toInt ≤ 7) (hs : 0 ≤ s.toInt ∧ s.toInt ≤ 2) (e : b = b2) : ((sBn (fun p => tA h (15 + p) s.toNatClampNeg) b (tA h (5 + k.toNatClampNeg) s.toNatClampNeg) (tvI (tF h 1 7)).toNatClampNeg).toInt < (v * v * tA h 2 s.toNatClampNeg / 100).toInt) ↔ ((sBn (fun p => tA h 117 (3 * p + s.toNatClampNeg)) b2 (tA h 115 (3 * k.toNatClampNeg + s.toNatClampNeg)) (tvI (tF h 111 4)).toNatClampNeg).toInt < (v * v * tA h 113 s.toNatClampNeg / 100).toInt) := by
  subst e
  have h7 := kb_1_7 hB
  have hs3 : s.toNatClampNeg < 3 := by rw [zclE]; omega
  unfold R_parts at hP
  rw [hE _ (by rw [zclE]; omega) _ hs3, hF _ hs3, hP, sBn_congr (ad := fun p => tA h (15 + p) s.toNatClampNeg) (ad2 := fun p => tA h 117 (3 * p + s.toNatClampNeg)) (fun i hi => by
    rw [← hP, zclE] at hi
    exact hA i (by omega) _ hs3)]
theorem f_fails {G : zG} (hG : G.1 = zProg) {h : zH} {k s m : Int32} {K : Nat} {cs : List Nat} {cl : Nat → rCt} (hs : tSh h) (hL : R_cl h) (hg : ∀ i r : Nat, (i : Int) < (tvI (tF h 36 4)).toInt → tO h 39 i = some r → 182 ≤ r) (hK : R_ckind h) (hT : R_ctl h) (hn107 : tN h 107 = 600) (hn108 : tN h 108 = 600) (hn109 : tN h 109 = 600) (h123 : ∀ i, i < 300 → 0 ≤ (tA h 123 i).toInt ∧ (tA h 123 i).toInt ≤ 599) (h36 : 0 ≤ (tvI (tF h 36 4)).toInt ∧ (tvI (tF h 36 4)).toInt ≤ 300) (h67 : ∀ i, i < 200 → 0 ≤ (tA h 67 i).toInt ∧ (tA h 67 i).toInt ≤ 599) (h70 : ∀ i, i < 200 → 0 ≤ (tA h 70 i).toInt ∧ (tA h 70 i).toInt ≤ 9) (h63 : 0 ≤ (tvI (tF h 63 8)).toInt ∧ (tvI (tF h 63 8)).toInt ≤ 200) (hn : 0 ≤ (tvI (tF h 48 3)).toInt) (h52 : tN h 52 = 12) (h53 : tN h 53 = 80) (hrw0 : tRw h) (hp0 : 0 ≤ (tvI (tF h 1 7)).toInt) (hp12 : (tvI (tF h 1 7)).toInt ≤ 12) (hk8 : (tvI (tF h 1 6)).toInt ≤ 8) (D : rIc h (sRI (tA h 49) m (tvI (tF h 48 3)).toNatClampNeg) K cs cl) : tC zTt G 127 [.ref 0, .int k, .int s, .int m] h (fun w h2 => (((0 ≤ k.toInt ∧ k.toInt < (tvI (tF h 1 6)).toInt) ∧ (0 ≤ s.toInt ∧ s.toInt ≤ 2) ∧ (0 ≤ m.toInt ∧ m.toInt ≤ 599)) ∧ ∃ r W, qS W m.toInt64 k.toInt64 (tA h 3 k.toNatClampNeg).toInt64 m.toInt64 (bN (wK h k) (tK9 h) (tvI (tF h 36 4)).toNatClampNeg m.toInt) (bN (wF h k) (tF9 h) (tvI (tF h 63 8)).toNatClampNeg m.toInt) (bN (wD h k) (tF9 h) (tvI (tF h 63 8)).toNatClampNeg m.toInt) ∧ muO W cs cl K s.toNatClampNeg r ∧ ((r = -1 ∧ w = some (.int 0)) ∨ (¬ r = -1 ∧ tBo ((sBn (fun p => tA h (15 + p) s.toNatClampNeg) (sPB (tA h (28 + k.toNatClampNeg)) m (tvI (tF h 1 7)).toNatClampNeg) (tA h (5 + k.toNatClampNeg) s.toNatClampNeg) (tvI (tF h 1 7)).toNatClampNeg).toInt < (r * r * tA h 2 s.toNatClampNeg / 100).toInt) w))) ∨ (¬ ((0 ≤ k.toInt ∧ k.toInt < (tvI (tF h 1 6)).toInt) ∧ (0 ≤ s.toInt ∧ s.toInt ≤ 2) ∧ (0 ≤ m.toInt ∧ m.toInt ≤ 599)) ∧ w = some (.int (-1)))) := by
  refine tC_in (by rw [hG]; rfl) (fun dp => ?_)
  refine tw_aload rfl rfl ?_
  refine tw_iload rfl rfl ?_
  refine tw_iload rfl rfl ?_
  refine tw_iload rfl rfl ?_
  refine tw_virt3 rfl (f_must hG hs hL hg hK hT hn107 hn108 hn109 h123 h36 h67 h70 h63 hn h52 h53 D) (fun w9 hp1193 p1193 => ?_)
  obtain ⟨QF, p1193 | p1193⟩ := p1193
  · obtain ⟨hcd, r, W, rfl, hQ, hm⟩ := p1193
    have hr9 := muO_b hm
    have eA : ∀ p, p < 100 → tA hp1193 p = tA h p := fun p hp => QF.2.2.2.2 p (fun z => by omega)
    have e17 : tF hp1193 1 7 = tF h 1 7 := by rw [QF.2.1]
    have hrw : tRw hp1193 := by unfold tRw; rw [QF.2.2.1, QF.2.2.2.1]; exact hrw0
    have hp9 : 0 ≤ (tvI (tF hp1193 1 7)).toInt := by rw [e17]; exact hp0
    refine tw_istore rfl ?_
    refine tw_iload rfl rfl ?_
    refine tw_push rfl ?_
    refine tw_ic_ne rfl (fun q1194 => ?_) (fun q1194 => ?_)
    · try dsimp only [tvI_i, tvJ_j, tvR_r] at q1194
      have q1194i := zneq (Y := (-2)) (by decide) q1194
      refine tw_iload rfl rfl ?_
      refine tw_push rfl ?_
      refine tw_ic_eq rfl (fun q1195 => ?_) (fun q1195 => ?_)
      · try dsimp only [tvI_i, tvJ_j, tvR_r] at q1195
        have q1195i := zeqi (Y := (-1)) (by decide) q1195
        refine tw_push rfl ?_
        exact tw_iret rfl (Or.inl ⟨hcd, r, W, hQ, hm, Or.inl ⟨q1195, rfl⟩⟩)
      · try dsimp only [tvI_i, tvJ_j, tvR_r] at q1195
        have q1195i := zneq (Y := (-1)) (by decide) q1195
        refine tw_aload rfl rfl ?_
        refine tw_getS rfl (hs_0_0 QF.1) ?_
        refine tw_iload rfl rfl ?_
        refine tw_aload rfl rfl ?_
        refine tw_getS rfl (hs_0_0 QF.1) ?_
        refine tw_iload rfl rfl ?_
        refine tw_iload rfl rfl ?_
        refine tw_virt2 rfl (f_partsFitted hG QF.1 hrw hp9) (fun wp1196 hp1196 p1196 => ?_)
        obtain ⟨rfl, e9⟩ := p1196
        obtain rfl := e9.symm
        rw [eA (28 + k.toNatClampNeg) (by rw [zclE]; omega), e17]
        refine tw_iload rfl rfl ?_
        refine tw_iload rfl rfl ?_
        refine tw_virt4 rfl (f_burnsWith hG QF.1 hrw hp9) (fun w9 h9 p1197 => ?_)
        obtain ⟨⟨p1197, rfl⟩ | ⟨p1197, rfl⟩, e9⟩ := p1197
        · try dsimp only [tvI_i, tvJ_j, tvR_r] at p1197
          obtain rfl := e9.symm
          refine tw_if_eq rfl (fun z => absurd z (by decide)) (fun _ => ?_)
          refine tw_push rfl ?_
          refine tw_goto rfl ?_
          have y9 := p1197
          rw [e17, eA 2 (by decide), eA (5 + k.toNatClampNeg) (by rw [zclE]; omega)] at y9
          rw [sBn_congr (ad2 := fun p => tA h (15 + p) s.toNatClampNeg) (fun i hi => by rw [eA (15 + i) (by rw [zclE] at hi; omega)])] at y9
          exact tw_iret rfl (Or.inl ⟨hcd, r, W, hQ, hm, Or.inr ⟨q1195, Or.inl ⟨y9, rfl⟩⟩⟩)
        · try dsimp only [tvI_i, tvJ_j, tvR_r] at p1197
          obtain rfl := e9.symm
          refine tw_if_eq rfl (fun _ => ?_) (fun z => absurd z (by decide))
          refine tw_push rfl ?_
          have y9 := p1197
          rw [e17, eA 2 (by decide), eA (5 + k.toNatClampNeg) (by rw [zclE]; omega)] at y9
          rw [sBn_congr (ad2 := fun p => tA h (15 + p) s.toNatClampNeg) (fun i hi => by rw [eA (15 + i) (by rw [zclE] at hi; omega)])] at y9
          exact tw_iret rfl (Or.inl ⟨hcd, r, W, hQ, hm, Or.inr ⟨q1195, Or.inr ⟨y9, rfl⟩⟩⟩)
    · try dsimp only [tvI_i, tvJ_j, tvR_r] at q1194
      have q1194i := zeqi (Y := (-2)) (by decide) q1194
      exfalso
      rcases hr9 with z | z
      · rw [z] at q1194; exact absurd q1194 (by decide)
      · rw [q1194] at z; exact absurd z.1 (by decide)
  · obtain ⟨hcd, rfl⟩ := p1193
    refine tw_istore rfl ?_
    refine tw_iload rfl rfl ?_
    refine tw_push rfl ?_
    refine tw_ic_ne rfl (fun z => absurd z (by decide)) (fun _ => ?_)
    refine tw_push rfl ?_
    exact tw_iret rfl (Or.inr ⟨hcd, rfl⟩)
theorem g_failsQ {G : zG} (hG : G.1 = zProg) {h : zH} {k s m : Int32} {K : Nat} {cs : List Nat} {cl : Nat → rCt} (hs : tSh h) (hk3 : 0 ≤ (tvI (tF h 111 3)).toInt) (hk8 : (tvI (tF h 111 3)).toInt ≤ 8) (hm4 : 0 ≤ (tvI (tF h 111 4)).toInt ∧ (tvI (tF h 111 4)).toInt ≤ 12) (hn : 0 ≤ (tvI (tF h 111 30)).toInt) (D : rIm h (sRI (tA h 141) m (tvI (tF h 111 30)).toNatClampNeg) K cs cl) (h5 : 0 ≤ (tvI (tF h 111 5)).toInt ∧ (tvI (tF h 111 5)).toInt ≤ 300) (h59 : 0 ≤ (tvI (tF h 111 59)).toInt ∧ (tvI (tF h 111 59)).toInt ≤ 200) (h156 : ∀ i, i < 200 → 0 ≤ (tA h 156 i).toInt ∧ (tA h 156 i).toInt ≤ 9) (h133 : ∀ i, i < 5000 → 0 ≤ (tA h 133 i).toInt ∧ (tA h 133 i).toInt ≤ 14) (h134 : ∀ i, i < 5000 → 0 ≤ (tA h 134 i).toInt ∧ (tA h 134 i).toInt ≤ 99999) (h135 : ∀ i, i < 120 → 0 ≤ (tA h 135 i).toInt ∧ (tA h 135 i).toInt ≤ 3) (h136 : ∀ i, i < 120 → 0 ≤ (tA h 136 i).toInt ∧ (tA h 136 i).toInt ≤ 99999) (h137 : ∀ i, i < 120 → 0 ≤ (tA h 137 i).toInt ∧ (tA h 137 i).toInt ≤ 410) (h138 : ∀ i, i < 120 → 0 ≤ (tA h 138 i).toInt ∧ (tA h 138 i).toInt ≤ 410) (h139 : ∀ i, i < 120 → 0 ≤ (tA h 139 i).toInt ∧ (tA h 139 i).toInt ≤ 410) : tC zTt G 236 [.ref 111, .int k, .int s, .int m] h (fun w h2 => (((0 ≤ k.toInt ∧ k.toInt < (tvI (tF h 111 3)).toInt) ∧ (0 ≤ s.toInt ∧ s.toInt ≤ 2) ∧ (0 ≤ m.toInt ∧ m.toInt ≤ 599)) ∧ ∃ r, ((K = 0 ∧ r = -1) ∨ ∃ W, qS W m.toInt64 k.toInt64 (tA h 114 k.toNatClampNeg).toInt64 m.toInt64 (bN (mK9 h k m) (tK9 h) (tvI (tF h 111 5)).toNatClampNeg m.toInt) (bN (mF9 h k) (mT9 h) (tvI (tF h 111 59)).toNatClampNeg m.toInt) (bN (mD9 h k) (mT9 h) (tvI (tF h 111 59)).toNatClampNeg m.toInt) ∧ muO W cs cl K s.toNatClampNeg r) ∧ ((r = -1 ∧ w = some (.int 0)) ∨ (¬ r = -1 ∧ tBo ((sBn (fun p => tA h 117 (3 * p + s.toNatClampNeg)) (sPB (fun p => tA h 118 (12 * k.toNatClampNeg + p)) m (tvI (tF h 111 4)).toNatClampNeg) (tA h 115 (3 * k.toNatClampNeg + s.toNatClampNeg)) (tvI (tF h 111 4)).toNatClampNeg).toInt < (r * r * tA h 113 s.toNatClampNeg / 100).toInt) w))) ∨ (¬ ((0 ≤ k.toInt ∧ k.toInt < (tvI (tF h 111 3)).toInt) ∧ (0 ≤ s.toInt ∧ s.toInt ≤ 2) ∧ (0 ≤ m.toInt ∧ m.toInt ≤ 599)) ∧ w = some (.int (-1)))) := by
  refine tC_in (by rw [hG]; rfl) (fun dp => ?_)
  refine tw_aload rfl rfl ?_
  refine tw_iload rfl rfl ?_
  refine tw_iload rfl rfl ?_
  refine tw_iload rfl rfl ?_
  refine tw_virt3 rfl (g_isAsked hG hs hk3) (fun w9 h9 p1198 => ?_)
  obtain ⟨⟨p1198, rfl⟩ | ⟨p1198, rfl⟩, e9⟩ := p1198
  · try dsimp only [tvI_i, tvJ_j, tvR_r] at p1198
    obtain rfl := e9.symm
    refine tw_if_ne rfl (fun _ => ?_) (fun z => absurd z (by decide))
    refine tw_aload rfl rfl ?_
    refine tw_iload rfl rfl ?_
    refine tw_iload rfl rfl ?_
    refine tw_iload rfl rfl ?_
    refine tw_virt3 rfl (g_mustOf hG hs hn D (zclx (by omega)).symm (by rw [zclE]; omega) h5 h59 h156 h133 h134 h135 h136 h137 h138 h139) (fun wp1199 hp1199 p1199 => ?_)
    obtain ⟨LM, r, rfl, hm⟩ := p1199
    have eM := LM.2.2.1
    have e4 : tF hp1199 111 4 = tF h 111 4 := by rw [LM.2.1]
    have hm4b : 0 ≤ (tvI (tF hp1199 111 4)).toInt ∧ (tvI (tF hp1199 111 4)).toInt ≤ 12 := by rw [e4]; exact hm4
    refine tw_istore rfl ?_
    refine tw_iload rfl rfl ?_
    refine tw_push rfl ?_
    refine tw_ic_eq rfl (fun q1200 => ?_) (fun q1200 => ?_)
    · try dsimp only [tvI_i, tvJ_j, tvR_r] at q1200
      have q1200i := zeqi (Y := (-1)) (by decide) q1200
      refine tw_push rfl ?_
      exact tw_iret rfl (Or.inl ⟨by omega, r, hm, Or.inl ⟨q1200, rfl⟩⟩)
    · try dsimp only [tvI_i, tvJ_j, tvR_r] at q1200
      have q1200i := zneq (Y := (-1)) (by decide) q1200
      refine tw_aload rfl rfl ?_
      refine tw_iload rfl rfl ?_
      refine tw_aload rfl rfl ?_
      refine tw_iload rfl rfl ?_
      refine tw_iload rfl rfl ?_
      refine tw_virt2 rfl (g_partsOf hG LM.1 hm4b (by omega)) (fun wp1201 hp1201 p1201 => ?_)
      obtain ⟨rfl, e9⟩ := p1201
      obtain rfl := e9.symm
      rw [eM, e4]
      refine tw_iload rfl rfl ?_
      refine tw_iload rfl rfl ?_
      refine tw_virt4 rfl (g_burnsWith hG LM.1 hm4b (by omega) (by omega)) (fun w9 h9 p1202 => ?_)
      obtain ⟨⟨p1202, rfl⟩ | ⟨p1202, rfl⟩, e9⟩ := p1202
      · try dsimp only [tvI_i, tvJ_j, tvR_r] at p1202
        obtain rfl := e9.symm
        refine tw_if_eq rfl (fun z => absurd z (by decide)) (fun _ => ?_)
        refine tw_push rfl ?_
        refine tw_goto rfl ?_
        have y9 := p1202
        rw [e4, eM] at y9
        exact tw_iret rfl (Or.inl ⟨by omega, r, hm, Or.inr ⟨q1200, Or.inl ⟨y9, rfl⟩⟩⟩)
      · try dsimp only [tvI_i, tvJ_j, tvR_r] at p1202
        obtain rfl := e9.symm
        refine tw_if_eq rfl (fun _ => ?_) (fun z => absurd z (by decide))
        refine tw_push rfl ?_
        have y9 := p1202
        rw [e4, eM] at y9
        exact tw_iret rfl (Or.inl ⟨by omega, r, hm, Or.inr ⟨q1200, Or.inr ⟨y9, rfl⟩⟩⟩)
  · try dsimp only [tvI_i, tvJ_j, tvR_r] at p1198
    obtain rfl := e9.symm
    refine tw_if_ne rfl (fun z => absurd z (by decide)) (fun _ => ?_)
    refine tw_push rfl ?_
    exact tw_iret rfl (Or.inr ⟨by omega, rfl⟩)
noncomputable def ph_fac (k s m : Int32) (h : zH) (w : Option Value) (_h2 : zH) : Prop := (((0 ≤ k.toInt ∧ k.toInt < (tvI (tF h 1 6)).toInt) ∧ (0 ≤ s.toInt ∧ s.toInt ≤ 2) ∧ (0 ≤ m.toInt ∧ m.toInt ≤ 599)) ∧ ∃ r W, qS W m.toInt64 k.toInt64 (tA h 3 k.toNatClampNeg).toInt64 m.toInt64 (bN (wK h k) (tK9 h) (tvI (tF h 36 4)).toNatClampNeg m.toInt) (bN (wF h k) (tF9 h) (tvI (tF h 63 8)).toNatClampNeg m.toInt) (bN (wD h k) (tF9 h) (tvI (tF h 63 8)).toNatClampNeg m.toInt) ∧ muO W (rCn h (sRI (tA h 49) m (tvI (tF h 48 3)).toNatClampNeg)) (rLn h (sRI (tA h 49) m (tvI (tF h 48 3)).toNatClampNeg)) (rKn h (sRI (tA h 49) m (tvI (tF h 48 3)).toNatClampNeg)) s.toNatClampNeg r ∧ ((r = -1 ∧ w = some (.int 0)) ∨ (¬ r = -1 ∧ tBo ((sBn (fun p => tA h (15 + p) s.toNatClampNeg) (sPB (tA h (28 + k.toNatClampNeg)) m (tvI (tF h 1 7)).toNatClampNeg) (tA h (5 + k.toNatClampNeg) s.toNatClampNeg) (tvI (tF h 1 7)).toNatClampNeg).toInt < (r * r * tA h 2 s.toNatClampNeg / 100).toInt) w))) ∨ (¬ ((0 ≤ k.toInt ∧ k.toInt < (tvI (tF h 1 6)).toInt) ∧ (0 ≤ s.toInt ∧ s.toInt ≤ 2) ∧ (0 ≤ m.toInt ∧ m.toInt ≤ 599)) ∧ w = some (.int (-1)))
noncomputable def ph_fam (k s m : Int32) (h : zH) (_w : Option Value) (h2 : zH) (w : Option Value) (_h3 : zH) : Prop := (((0 ≤ k.toInt ∧ k.toInt < (tvI (tF h2 111 3)).toInt) ∧ (0 ≤ s.toInt ∧ s.toInt ≤ 2) ∧ (0 ≤ m.toInt ∧ m.toInt ≤ 599)) ∧ ∃ r, ((rKn h (sRI (tA h 49) m (tvI (tF h 48 3)).toNatClampNeg) = 0 ∧ r = -1) ∨ ∃ W, qS W m.toInt64 k.toInt64 (tA h2 114 k.toNatClampNeg).toInt64 m.toInt64 (bN (mK9 h2 k m) (tK9 h2) (tvI (tF h2 111 5)).toNatClampNeg m.toInt) (bN (mF9 h2 k) (mT9 h2) (tvI (tF h2 111 59)).toNatClampNeg m.toInt) (bN (mD9 h2 k) (mT9 h2) (tvI (tF h2 111 59)).toNatClampNeg m.toInt) ∧ muO W (rCn h (sRI (tA h 49) m (tvI (tF h 48 3)).toNatClampNeg)) (rLn h (sRI (tA h 49) m (tvI (tF h 48 3)).toNatClampNeg)) (rKn h (sRI (tA h 49) m (tvI (tF h 48 3)).toNatClampNeg)) s.toNatClampNeg r) ∧ ((r = -1 ∧ w = some (.int 0)) ∨ (¬ r = -1 ∧ tBo ((sBn (fun p => tA h2 117 (3 * p + s.toNatClampNeg)) (sPB (fun p => tA h2 118 (12 * k.toNatClampNeg + p)) m (tvI (tF h2 111 4)).toNatClampNeg) (tA h2 115 (3 * k.toNatClampNeg + s.toNatClampNeg)) (tvI (tF h2 111 4)).toNatClampNeg).toInt < (r * r * tA h2 113 s.toNatClampNeg / 100).toInt) w))) ∨ (¬ ((0 ≤ k.toInt ∧ k.toInt < (tvI (tF h2 111 3)).toInt) ∧ (0 ≤ s.toInt ∧ s.toInt ≤ 2) ∧ (0 ≤ m.toInt ∧ m.toInt ≤ 599)) ∧ w = some (.int (-1)))
theorem g_failsD {G : zG} (hG : G.1 = zProg) {k s m : Int32} {τ τ2 : List Nat} {h h2 : zH} {w : Option Value} (hB : zBs G.2.2.2 τ h) (hB2 : zBs G.2.2.2 τ2 h2) (hR : R_rcd h) (hN : R_rules h) (hF : R_froms h) (e30 : tF h2 111 30 = tF h 111 30) (e141 : tA h2 141 = tA h 141) (o133 : ∀ p, 133 ≤ p → p ≤ 140 → tA h2 p = tA h p) : tC zTt G 236 [.ref 111, .int k, .int s, .int m] h2 (fun w2 h3 => ph_fam k s m h w h2 w2 h3) := by
  unfold R_rules at hN
  unfold R_froms at hF
  have D := rIm_fr (rIn_D (m := m) hB hR).2 o133
  have ey : sRI (tA h2 141) m (tvI (tF h2 111 30)).toNatClampNeg = (sRI (tA h 49) m (tvI (tF h 48 3)).toNatClampNeg) := by rw [e30, e141, ← hN, ← hF]
  rw [← ey] at D
  refine (g_failsQ hG (zBs_sh hB2) (kb_111_3 hB2).1 (kb_111_3 hB2).2 (kb_111_4 hB2) (kb_111_30 hB2).1 D (kb_111_5 hB2) (kb_111_59 hB2) (ka_156 hB2).2 (ka_133 hB2).2 (ka_134 hB2).2 (ka_135 hB2).2 (ka_136 hB2).2 (ka_137 hB2).2 (ka_138 hB2).2 (ka_139 hB2).2).mono (fun w2 h3 z => ?_)
  unfold ph_fam
  rw [← ey]
  exact z
theorem fit_eq {xs : Nat → Int32} {τ : List Nat} {h : zH} {k m : Int32} (hB : zBs xs τ h) (hP : R_parts h) (hF : R_fitted h) (hk : 0 ≤ k.toInt ∧ k.toInt ≤ 7) (hm : m.toInt ≤ 599) : sPB (tA h (28 + k.toNatClampNeg)) m (tvI (tF h 1 7)).toNatClampNeg = sPB (fun p => tA h 118 (12 * k.toNatClampNeg + p)) m (tvI (tF h 111 4)).toNatClampNeg := by
  have h7 := kb_1_7 hB
  unfold R_parts at hP
  rw [← hP]
  exact sPB_rel (by rw [zclE]; omega) (fun p hp => hF _ (by rw [zclE]; omega) p hp) hm
theorem a_fails {xs : Nat → Int32} {τ : List Nat} {k s m : Int32} {h h2 h3 : zH} {w w2 : Option Value} (hB : zBs xs τ h) (hR : R_rcd h) (hK : R_kinds h) (hC : R_cars h) (hX : R_crashes h) (hf : R_kfirm h) (hM : R_cmt h) (h2k : R_ck2 h) (hct : R_ctold h) (hcd : R_cdead h) (hcb : R_cburn h) (hP : R_parts h) (hFi : R_fitted h) (hE : R_bears h) (hA : R_adds h) (hFa : R_factor h) (e3 : tF h2 111 3 = tF h 111 3) (e4 : tF h2 111 4 = tF h 111 4) (e5 : tF h2 111 5 = tF h 111 5) (e59 : tF h2 111 59 = tF h 111 59) (o113 : tA h2 113 = tA h 113) (o114 : tA h2 114 = tA h 114) (o115 : tA h2 115 = tA h 115) (o117 : tA h2 117 = tA h 117) (o118 : tA h2 118 = tA h 118) (o121 : tA h2 121 = tA h 121) (o122 : tA h2 122 = tA h 122) (o123 : tA h2 123 = tA h 123) (o152 : tA h2 152 = tA h 152) (o156 : tA h2 156 = tA h 156) (o157 : tA h2 157 = tA h 157) (o158 : tA h2 158 = tA h 158) (k1 : ph_fac k s m h w h2) (k2 : ph_fam k s m h w h2 w2 h3) : w2 = w := by
  have hK0 := hK
  unfold R_kinds at hK
  unfold R_cars at hC
  unfold R_crashes at hX
  unfold R_kfirm at hf
  unfold R_ctold at hct
  unfold R_cdead at hcd
  unfold R_cburn at hcb
  unfold ph_fam at k2
  rw [e3, e4, e5, e59, o113, o114, o115, o117, o118, ← hK, ← hC, ← hX, ← hf] at k2
  have b4 := kb_36_4 hB
  have b8 := kb_63_8 hB
  have b16 := kb_1_6 hB
  have c1 := cnt_K (h := h) (h2 := h2) (k := k) (m := m) (n := (tvI (tF h 36 4)).toNatClampNeg) o121 o122 o123 (fun i hi => hM i (by rw [← hC]; rw [zclE] at hi; omega))
  have c2 := cnt_F (h := h) (h2 := h2) (k := k) (t := m.toInt) (n := (tvI (tF h 63 8)).toNatClampNeg) (fun i hi => by rw [o121, o152]; exact (h2k i (by rw [← hX]; rw [zclE] at hi; omega)).1) (o158.trans hcb.symm) (o157.trans hct.symm) (o156.trans hcd.symm)
  rw [← c1, ← c2.1, ← c2.2] at k2
  have D := (rIn_D (m := m) hB hR).1
  rcases k1 with ⟨a1, r, W, a2, a3, a4⟩ | ⟨a1, rfl⟩ <;> rcases k2 with ⟨d1, r2, d2, d4⟩ | ⟨d1, rfl⟩
  · have e : r2 = r := by
      rcases d2 with ⟨k0, d2⟩ | ⟨W2, d2, d3⟩
      · rcases a3 with ⟨a3, -⟩ | ⟨i, hi, -⟩
        · rw [d2, a3]
        · omega
      · by_cases k0 : rKn h (sRI (tA h 49) m (tvI (tF h 48 3)).toNatClampNeg) = 0
        · rcases a3 with ⟨a3, -⟩ | ⟨i, hi, -⟩
          · rcases d3 with ⟨d3, -⟩ | ⟨j, hj, -⟩
            · rw [d3, a3]
            · omega
          · omega
        · exact muO_u (qS_u a2 d2) (rIc_ok D).2 ((rIc_ok D).1.resolve_left k0) (by rw [zclE]; omega) a3 d3
    subst e
    rcases a4 with ⟨a4, rfl⟩ | ⟨a4, a5⟩ <;> rcases d4 with ⟨d4, rfl⟩ | ⟨d4, d5⟩
    · rfl
    · exact absurd a4 d4
    · exact absurd d4 a4
    · exact tBo_u a5 d5 (burn_eq hB hP hE hA hFa (by omega) a1.2.1 (fit_eq hB hP hFi (by omega) a1.2.2.2))
  · exact absurd a1 d1
  · exact absurd d1 a1
  · rfl
theorem f_put {G : zG} (hG : G.1 = zProg) {h : zH} {x : Int32} (hs : tSh h) (hk : tK h 45 = 2) (hl : 0 ≤ (tvI (tF h 44 1)).toInt ∧ (tvI (tF h 44 1)).toInt ≤ 396) : tC zTt G 73 [.ref 44, .int x] h (fun w h2 => w = none ∧ tSh h2 ∧ tF h2 44 1 = .int (z4 (tvI (tF h 44 1))) ∧ tA h2 45 = f4 (tA h 45) (tvI (tF h 44 1)) x ∧ tK h2 45 = 2) := by
  refine tC_in (by rw [hG]; rfl) (fun dp => ?_)
  have e0 : (tvI (tF h 44 1)).toInt = (tvI (tF h 44 1)).toInt := rfl
  have e1 := zi1n e0 (by omega)
  have e2 := zi1n e1 (by omega)
  have e3 := zi1n e2 (by omega)
  have h4 : (400 : Int32).toInt = 400 := rfl
  refine tw_push rfl ?_
  refine tw_istore rfl ?_
  refine tw_iload rfl rfl ?_
  refine tw_if_lt rfl (fun z => absurd z (by decide)) (fun _ => ?_)
  refine tw_aload rfl rfl ?_
  refine tw_getS rfl (hi_44_1 hs) ?_
  refine tw_push rfl ?_
  refine tw_ic_ge rfl (fun q1203 => ?_) (fun q1203 => ?_)
  · try dsimp only [tvI_i, tvJ_j, tvR_r] at q1203
    exact absurd q1203 (by omega)
  · try dsimp only [tvI_i, tvJ_j, tvR_r] at q1203
    refine tw_aload rfl rfl ?_
    refine tw_getS rfl (hs_44_0 hs) ?_
    refine tw_aload rfl rfl ?_
    refine tw_getS rfl (hi_44_1 hs) ?_
    refine tw_iload rfl rfl ?_
    refine tw_iload rfl rfl ?_
    refine tw_ishr rfl ?_
    refine tw_i2b rfl ?_
    refine tw_bast rfl (fun kf1204 zf1204 f1204 => ?_)
    rw [bst_k hk f1204]
    refine tw_aload rfl rfl ?_
    refine tw_dup rfl ?_
    refine tw_getS rfl (tF_a (hi_44_1 hs)) ?_
    refine tw_push rfl ?_
    refine tw_iadd rfl ?_
    refine tw_put rfl (fun f1205 => ?_)
    refine tw_iinc rfl rfl ?_
    refine tw_goto rfl ?_
    refine tw_iload rfl rfl ?_
    refine tw_if_lt rfl (fun z => absurd z (by decide)) (fun _ => ?_)
    refine tw_aload rfl rfl ?_
    refine tw_getS rfl (tF_same f1205) ?_
    refine tw_push rfl ?_
    refine tw_ic_ge rfl (fun q1206 => ?_) (fun q1206 => ?_)
    · try dsimp only [tvI_i, tvJ_j, tvR_r] at q1206
      exact absurd q1206 (by omega)
    · try dsimp only [tvI_i, tvJ_j, tvR_r] at q1206
      refine tw_aload rfl rfl ?_
      refine tw_getS rfl (hs_44_0 (hw_44_1 f1205 (tSh_SA hs))) ?_
      refine tw_aload rfl rfl ?_
      refine tw_getS rfl (tF_same f1205) ?_
      refine tw_iload rfl rfl ?_
      refine tw_iload rfl rfl ?_
      refine tw_ishr rfl ?_
      refine tw_i2b rfl ?_
      refine tw_bast rfl (fun kf1207 zf1207 f1207 => ?_)
      rw [bst_k (by rw [tK_tSF]; exact (by rw [tK_tSA]; exact hk)) f1207]
      refine tw_aload rfl rfl ?_
      refine tw_dup rfl ?_
      refine tw_getS rfl (tF_a (tF_same f1205)) ?_
      refine tw_push rfl ?_
      refine tw_iadd rfl ?_
      refine tw_put rfl (fun f1208 => ?_)
      refine tw_iinc rfl rfl ?_
      refine tw_goto rfl ?_
      refine tw_iload rfl rfl ?_
      refine tw_if_lt rfl (fun z => absurd z (by decide)) (fun _ => ?_)
      refine tw_aload rfl rfl ?_
      refine tw_getS rfl (tF_same f1208) ?_
      refine tw_push rfl ?_
      refine tw_ic_ge rfl (fun q1209 => ?_) (fun q1209 => ?_)
      · try dsimp only [tvI_i, tvJ_j, tvR_r] at q1209
        exact absurd q1209 (by omega)
      · try dsimp only [tvI_i, tvJ_j, tvR_r] at q1209
        refine tw_aload rfl rfl ?_
        refine tw_getS rfl (hs_44_0 (hw_44_1 f1208 (tSh_SA (hw_44_1 f1205 (tSh_SA hs))))) ?_
        refine tw_aload rfl rfl ?_
        refine tw_getS rfl (tF_same f1208) ?_
        refine tw_iload rfl rfl ?_
        refine tw_iload rfl rfl ?_
        refine tw_ishr rfl ?_
        refine tw_i2b rfl ?_
        refine tw_bast rfl (fun kf1210 zf1210 f1210 => ?_)
        rw [bst_k (by rw [tK_tSF]; exact (by rw [tK_tSA]; exact (by rw [tK_tSF]; exact (by rw [tK_tSA]; exact hk)))) f1210]
        refine tw_aload rfl rfl ?_
        refine tw_dup rfl ?_
        refine tw_getS rfl (tF_a (tF_same f1208)) ?_
        refine tw_push rfl ?_
        refine tw_iadd rfl ?_
        refine tw_put rfl (fun f1211 => ?_)
        refine tw_iinc rfl rfl ?_
        refine tw_goto rfl ?_
        refine tw_iload rfl rfl ?_
        refine tw_if_lt rfl (fun z => absurd z (by decide)) (fun _ => ?_)
        refine tw_aload rfl rfl ?_
        refine tw_getS rfl (tF_same f1211) ?_
        refine tw_push rfl ?_
        refine tw_ic_ge rfl (fun q1212 => ?_) (fun q1212 => ?_)
        · try dsimp only [tvI_i, tvJ_j, tvR_r] at q1212
          exact absurd q1212 (by omega)
        · try dsimp only [tvI_i, tvJ_j, tvR_r] at q1212
          refine tw_aload rfl rfl ?_
          refine tw_getS rfl (hs_44_0 (hw_44_1 f1211 (tSh_SA (hw_44_1 f1208 (tSh_SA (hw_44_1 f1205 (tSh_SA hs))))))) ?_
          refine tw_aload rfl rfl ?_
          refine tw_getS rfl (tF_same f1211) ?_
          refine tw_iload rfl rfl ?_
          refine tw_iload rfl rfl ?_
          refine tw_ishr rfl ?_
          refine tw_i2b rfl ?_
          refine tw_bast rfl (fun kf1213 zf1213 f1213 => ?_)
          rw [bst_k (by rw [tK_tSF]; exact (by rw [tK_tSA]; exact (by rw [tK_tSF]; exact (by rw [tK_tSA]; exact (by rw [tK_tSF]; exact (by rw [tK_tSA]; exact hk)))))) f1213]
          refine tw_aload rfl rfl ?_
          refine tw_dup rfl ?_
          refine tw_getS rfl (tF_a (tF_same f1211)) ?_
          refine tw_push rfl ?_
          refine tw_iadd rfl ?_
          refine tw_put rfl (fun f1214 => ?_)
          refine tw_iinc rfl rfl ?_
          refine tw_goto rfl ?_
          refine tw_iload rfl rfl ?_
          refine tw_if_lt rfl (fun _ => ?_) (fun z => absurd z (by decide))
          exact tw_vret rfl ⟨rfl, (hw_44_1 f1214 (tSh_SA (hw_44_1 f1211 (tSh_SA (hw_44_1 f1208 (tSh_SA (hw_44_1 f1205 (tSh_SA hs)))))))), (tF_same f1214), (tA_ff (tA_st f1213 (tA_ff (tA_st f1210 (tA_ff (tA_st f1207 (tA_ff (tA_st f1204 rfl)))))))), (by rw [tK_tSF]; exact (by rw [tK_tSA]; exact (by rw [tK_tSF]; exact (by rw [tK_tSA]; exact (by rw [tK_tSF]; exact (by rw [tK_tSA]; exact (by rw [tK_tSF]; exact (by rw [tK_tSA]; exact hk))))))))⟩
theorem g_put {G : zG} (hG : G.1 = zProg) {h : zH} {x : Int32} (hs : tSh h) (hk : tK h 132 = 2) (hl : 0 ≤ (tvI (tF h 111 27)).toInt ∧ (tvI (tF h 111 27)).toInt ≤ 396) : tC zTt G 197 [.ref 111, .int x] h (fun w h2 => w = none ∧ tSh h2 ∧ tF h2 111 27 = .int (z4 (tvI (tF h 111 27))) ∧ tA h2 132 = f4 (tA h 132) (tvI (tF h 111 27)) x ∧ tK h2 132 = 2) := by
  refine tC_in (by rw [hG]; rfl) (fun dp => ?_)
  have e0 : (tvI (tF h 111 27)).toInt = (tvI (tF h 111 27)).toInt := rfl
  have e1 := zi1n e0 (by omega)
  have e2 := zi1n e1 (by omega)
  have e3 := zi1n e2 (by omega)
  have h4 : (400 : Int32).toInt = 400 := rfl
  refine tw_push rfl ?_
  refine tw_istore rfl ?_
  refine tw_iload rfl rfl ?_
  refine tw_if_lt rfl (fun z => absurd z (by decide)) (fun _ => ?_)
  refine tw_aload rfl rfl ?_
  refine tw_getS rfl (hs_111_35 hs) ?_
  refine tw_aload rfl rfl ?_
  refine tw_getS rfl (hi_111_27 hs) ?_
  refine tw_iload rfl rfl ?_
  refine tw_iload rfl rfl ?_
  refine tw_ishr rfl ?_
  refine tw_i2b rfl ?_
  refine tw_bast rfl (fun kf1215 zf1215 f1215 => ?_)
  rw [bst_k hk f1215]
  refine tw_aload rfl rfl ?_
  refine tw_dup rfl ?_
  refine tw_getS rfl (tF_a (hi_111_27 hs)) ?_
  refine tw_push rfl ?_
  refine tw_iadd rfl ?_
  refine tw_put rfl (fun f1216 => ?_)
  refine tw_iinc rfl rfl ?_
  refine tw_goto rfl ?_
  refine tw_iload rfl rfl ?_
  refine tw_if_lt rfl (fun z => absurd z (by decide)) (fun _ => ?_)
  refine tw_aload rfl rfl ?_
  refine tw_getS rfl (hs_111_35 (hw_111_27 f1216 (tSh_SA hs))) ?_
  refine tw_aload rfl rfl ?_
  refine tw_getS rfl (tF_same f1216) ?_
  refine tw_iload rfl rfl ?_
  refine tw_iload rfl rfl ?_
  refine tw_ishr rfl ?_
  refine tw_i2b rfl ?_
  refine tw_bast rfl (fun kf1217 zf1217 f1217 => ?_)
  rw [bst_k (by rw [tK_tSF]; exact (by rw [tK_tSA]; exact hk)) f1217]
  refine tw_aload rfl rfl ?_
  refine tw_dup rfl ?_
  refine tw_getS rfl (tF_a (tF_same f1216)) ?_
  refine tw_push rfl ?_
  refine tw_iadd rfl ?_
  refine tw_put rfl (fun f1218 => ?_)
  refine tw_iinc rfl rfl ?_
  refine tw_goto rfl ?_
  refine tw_iload rfl rfl ?_
  refine tw_if_lt rfl (fun z => absurd z (by decide)) (fun _ => ?_)
  refine tw_aload rfl rfl ?_
  refine tw_getS rfl (hs_111_35 (hw_111_27 f1218 (tSh_SA (hw_111_27 f1216 (tSh_SA hs))))) ?_
  refine tw_aload rfl rfl ?_
  refine tw_getS rfl (tF_same f1218) ?_
  refine tw_iload rfl rfl ?_
  refine tw_iload rfl rfl ?_
  refine tw_ishr rfl ?_
  refine tw_i2b rfl ?_
  refine tw_bast rfl (fun kf1219 zf1219 f1219 => ?_)
  rw [bst_k (by rw [tK_tSF]; exact (by rw [tK_tSA]; exact (by rw [tK_tSF]; exact (by rw [tK_tSA]; exact hk)))) f1219]
  refine tw_aload rfl rfl ?_
  refine tw_dup rfl ?_
  refine tw_getS rfl (tF_a (tF_same f1218)) ?_
  refine tw_push rfl ?_
  refine tw_iadd rfl ?_
  refine tw_put rfl (fun f1220 => ?_)
  refine tw_iinc rfl rfl ?_
  refine tw_goto rfl ?_
  refine tw_iload rfl rfl ?_
  refine tw_if_lt rfl (fun z => absurd z (by decide)) (fun _ => ?_)
  refine tw_aload rfl rfl ?_
  refine tw_getS rfl (hs_111_35 (hw_111_27 f1220 (tSh_SA (hw_111_27 f1218 (tSh_SA (hw_111_27 f1216 (tSh_SA hs))))))) ?_
  refine tw_aload rfl rfl ?_
  refine tw_getS rfl (tF_same f1220) ?_
  refine tw_iload rfl rfl ?_
  refine tw_iload rfl rfl ?_
  refine tw_ishr rfl ?_
  refine tw_i2b rfl ?_
  refine tw_bast rfl (fun kf1221 zf1221 f1221 => ?_)
  rw [bst_k (by rw [tK_tSF]; exact (by rw [tK_tSA]; exact (by rw [tK_tSF]; exact (by rw [tK_tSA]; exact (by rw [tK_tSF]; exact (by rw [tK_tSA]; exact hk)))))) f1221]
  refine tw_aload rfl rfl ?_
  refine tw_dup rfl ?_
  refine tw_getS rfl (tF_a (tF_same f1220)) ?_
  refine tw_push rfl ?_
  refine tw_iadd rfl ?_
  refine tw_put rfl (fun f1222 => ?_)
  refine tw_iinc rfl rfl ?_
  refine tw_goto rfl ?_
  refine tw_iload rfl rfl ?_
  refine tw_if_lt rfl (fun _ => ?_) (fun z => absurd z (by decide))
  exact tw_vret rfl ⟨rfl, (hw_111_27 f1222 (tSh_SA (hw_111_27 f1220 (tSh_SA (hw_111_27 f1218 (tSh_SA (hw_111_27 f1216 (tSh_SA hs)))))))), (tF_same f1222), (tA_ff (tA_st f1221 (tA_ff (tA_st f1219 (tA_ff (tA_st f1217 (tA_ff (tA_st f1215 rfl)))))))), (by rw [tK_tSF]; exact (by rw [tK_tSA]; exact (by rw [tK_tSF]; exact (by rw [tK_tSA]; exact (by rw [tK_tSF]; exact (by rw [tK_tSA]; exact (by rw [tK_tSF]; exact (by rw [tK_tSA]; exact hk))))))))⟩
theorem f_hasRoom {G : zG} (hG : G.1 = zProg) {h : zH} {n : Int32} (hs : tSh h) : tC zTt G 72 [.ref 44, .int n] h (fun w h2 => tBo ((tvI (tF h 44 1) + n).toInt ≤ 400) w ∧ h2 = h) := by
  refine tC_in (by rw [hG]; rfl) (fun dp => ?_)
  have h4 : (400 : Int32).toInt = 400 := rfl
  refine tw_aload rfl rfl ?_
  refine tw_getS rfl (hi_44_1 hs) ?_
  refine tw_iload rfl rfl ?_
  refine tw_iadd rfl ?_
  refine tw_push rfl ?_
  refine tw_ic_gt rfl (fun q1223 => ?_) (fun q1223 => ?_)
  · try dsimp only [tvI_i, tvJ_j, tvR_r] at q1223
    refine tw_push rfl ?_
    exact tw_iret rfl ⟨Or.inr ⟨by omega, rfl⟩, rfl⟩
  · try dsimp only [tvI_i, tvJ_j, tvR_r] at q1223
    refine tw_push rfl ?_
    refine tw_goto rfl ?_
    exact tw_iret rfl ⟨Or.inl ⟨by omega, rfl⟩, rfl⟩
theorem f_feed {G : zG} (hG : G.1 = zProg) {h : zH} {a b c d e : Int32} (hs : tSh h) (hk : tK h 45 = 2) (hl : 0 ≤ (tvI (tF h 44 1)).toInt ∧ (tvI (tF h 44 1)).toInt ≤ 400) : tC zTt G 122 [.ref 0, .int a, .int b, .int c, .int d, .int e] h (fun w h2 => ((tvI (tF h 44 1)).toInt ≤ 380 ∧ w = some (.int (z20 (tvI (tF h 44 1)))) ∧ tF h2 44 1 = .int (z20 (tvI (tF h 44 1))) ∧ tA h2 45 = f20 (tA h 45) (tvI (tF h 44 1)) a b c d e) ∨ (¬ (tvI (tF h 44 1)).toInt ≤ 380 ∧ w = some (.int (-1)) ∧ h2 = h)) := by
  refine tC_in (by rw [hG]; rfl) (fun dp => ?_)
  have n0 : (tvI (tF h 44 1)).toInt = (tvI (tF h 44 1)).toInt := rfl
  have n20 := z20n (x := tvI (tF h 44 1)) (by omega)
  have h4 : (400 : Int32).toInt = 400 := rfl
  have n1 : (tvI (tF h 44 1)).toInt ≤ 380 → (z4 (tvI (tF h 44 1))).toInt = (tvI (tF h 44 1)).toInt + 4 := fun z => z4n n0 (by omega)
  have n2 : (tvI (tF h 44 1)).toInt ≤ 380 → (z4 (z4 (tvI (tF h 44 1)))).toInt = (tvI (tF h 44 1)).toInt + 8 := fun z => (z4n (n1 z) (by omega)).trans (by omega)
  have n3 : (tvI (tF h 44 1)).toInt ≤ 380 → (z4 (z4 (z4 (tvI (tF h 44 1))))).toInt = (tvI (tF h 44 1)).toInt + 12 := fun z => (z4n (n2 z) (by omega)).trans (by omega)
  have n4 : (tvI (tF h 44 1)).toInt ≤ 380 → (z4 (z4 (z4 (z4 (tvI (tF h 44 1)))))).toInt = (tvI (tF h 44 1)).toInt + 16 := fun z => (z4n (n3 z) (by omega)).trans (by omega)
  have n5 : (tvI (tF h 44 1)).toInt ≤ 380 → (z4 (z4 (z4 (z4 (z4 (tvI (tF h 44 1))))))).toInt = (tvI (tF h 44 1)).toInt + 20 := fun z => (z4n (n4 z) (by omega)).trans (by omega)
  refine tw_aload rfl rfl ?_
  refine tw_getS rfl (hs_0_2 hs) ?_
  refine tw_push rfl ?_
  refine tw_virt1 rfl (f_hasRoom hG hs) (fun w9 h9 p1224 => ?_)
  obtain ⟨⟨p1224, rfl⟩ | ⟨p1224, rfl⟩, rfl⟩ := p1224
  · try dsimp only [tvI_i, tvJ_j, tvR_r] at p1224
    refine tw_if_ne rfl (fun _ => ?_) (fun z => absurd z (by decide))
    refine tw_aload rfl rfl ?_
    refine tw_getS rfl (hs_0_2 hs) ?_
    refine tw_iload rfl rfl ?_
    refine tw_virt1 rfl (f_put hG hs hk (by omega)) (fun wp1225 hp1225 p1225 => ?_)
    obtain ⟨rfl, sp1225, lp1225, tp1225, kp1225⟩ := p1225
    refine tw_aload rfl rfl ?_
    refine tw_getS rfl (hs_0_2 sp1225) ?_
    refine tw_iload rfl rfl ?_
    refine tw_virt1 rfl (f_put hG sp1225 kp1225 (by rw [lp1225, tvI_i, n1 (by omega)]; omega)) (fun wp1226 hp1226 p1226 => ?_)
    obtain ⟨rfl, sp1226, lp1226, tp1226, kp1226⟩ := p1226
    rw [lp1225, tp1225] at tp1226
    rw [lp1225] at lp1226
    rw [tvI_i] at lp1226 tp1226
    refine tw_aload rfl rfl ?_
    refine tw_getS rfl (hs_0_2 sp1226) ?_
    refine tw_iload rfl rfl ?_
    refine tw_virt1 rfl (f_put hG sp1226 kp1226 (by rw [lp1226, tvI_i, n2 (by omega)]; omega)) (fun wp1227 hp1227 p1227 => ?_)
    obtain ⟨rfl, sp1227, lp1227, tp1227, kp1227⟩ := p1227
    rw [lp1226, tp1226] at tp1227
    rw [lp1226] at lp1227
    rw [tvI_i] at lp1227 tp1227
    refine tw_aload rfl rfl ?_
    refine tw_getS rfl (hs_0_2 sp1227) ?_
    refine tw_iload rfl rfl ?_
    refine tw_virt1 rfl (f_put hG sp1227 kp1227 (by rw [lp1227, tvI_i, n3 (by omega)]; omega)) (fun wp1228 hp1228 p1228 => ?_)
    obtain ⟨rfl, sp1228, lp1228, tp1228, kp1228⟩ := p1228
    rw [lp1227, tp1227] at tp1228
    rw [lp1227] at lp1228
    rw [tvI_i] at lp1228 tp1228
    refine tw_aload rfl rfl ?_
    refine tw_getS rfl (hs_0_2 sp1228) ?_
    refine tw_iload rfl rfl ?_
    refine tw_virt1 rfl (f_put hG sp1228 kp1228 (by rw [lp1228, tvI_i, n4 (by omega)]; omega)) (fun wp1229 hp1229 p1229 => ?_)
    obtain ⟨rfl, sp1229, lp1229, tp1229, kp1229⟩ := p1229
    rw [lp1228, tp1228] at tp1229
    rw [lp1228] at lp1229
    rw [tvI_i] at lp1229 tp1229
    refine tw_aload rfl rfl ?_
    refine tw_getS rfl (hs_0_2 sp1229) ?_
    refine tw_getS rfl (hi_44_1 sp1229) ?_
    exact tw_iret rfl (Or.inl ⟨by omega, by rw [lp1229]; rfl, lp1229, tp1229⟩)
  · try dsimp only [tvI_i, tvJ_j, tvR_r] at p1224
    refine tw_if_ne rfl (fun z => absurd z (by decide)) (fun _ => ?_)
    refine tw_push rfl ?_
    exact tw_iret rfl (Or.inr ⟨by omega, rfl, rfl⟩)
theorem g_feed {G : zG} (hG : G.1 = zProg) {h : zH} {a b c d e : Int32} (hs : tSh h) (hk : tK h 132 = 2) (hl : 0 ≤ (tvI (tF h 111 27)).toInt ∧ (tvI (tF h 111 27)).toInt ≤ 400) : tC zTt G 196 [.ref 111, .int a, .int b, .int c, .int d, .int e] h (fun w h2 => ((tvI (tF h 111 27)).toInt ≤ 380 ∧ w = some (.int (z20 (tvI (tF h 111 27)))) ∧ tF h2 111 27 = .int (z20 (tvI (tF h 111 27))) ∧ tA h2 132 = f20 (tA h 132) (tvI (tF h 111 27)) a b c d e) ∨ (¬ (tvI (tF h 111 27)).toInt ≤ 380 ∧ w = some (.int (-1)) ∧ h2 = h)) := by
  refine tC_in (by rw [hG]; rfl) (fun dp => ?_)
  have n0 : (tvI (tF h 111 27)).toInt = (tvI (tF h 111 27)).toInt := rfl
  have n20 := z20n (x := tvI (tF h 111 27)) (by omega)
  have h4 : (400 : Int32).toInt = 400 := rfl
  have n1 : (tvI (tF h 111 27)).toInt ≤ 380 → (z4 (tvI (tF h 111 27))).toInt = (tvI (tF h 111 27)).toInt + 4 := fun z => z4n n0 (by omega)
  have n2 : (tvI (tF h 111 27)).toInt ≤ 380 → (z4 (z4 (tvI (tF h 111 27)))).toInt = (tvI (tF h 111 27)).toInt + 8 := fun z => (z4n (n1 z) (by omega)).trans (by omega)
  have n3 : (tvI (tF h 111 27)).toInt ≤ 380 → (z4 (z4 (z4 (tvI (tF h 111 27))))).toInt = (tvI (tF h 111 27)).toInt + 12 := fun z => (z4n (n2 z) (by omega)).trans (by omega)
  have n4 : (tvI (tF h 111 27)).toInt ≤ 380 → (z4 (z4 (z4 (z4 (tvI (tF h 111 27)))))).toInt = (tvI (tF h 111 27)).toInt + 16 := fun z => (z4n (n3 z) (by omega)).trans (by omega)
  have n5 : (tvI (tF h 111 27)).toInt ≤ 380 → (z4 (z4 (z4 (z4 (z4 (tvI (tF h 111 27))))))).toInt = (tvI (tF h 111 27)).toInt + 20 := fun z => (z4n (n4 z) (by omega)).trans (by omega)
  refine tw_aload rfl rfl ?_
  refine tw_getS rfl (hi_111_27 hs) ?_
  refine tw_push rfl ?_
  refine tw_iadd rfl ?_
  refine tw_push rfl ?_
  refine tw_ic_le rfl (fun q1230 => ?_) (fun q1230 => ?_)
  · try dsimp only [tvI_i, tvJ_j, tvR_r] at q1230
    refine tw_aload rfl rfl ?_
    refine tw_iload rfl rfl ?_
    refine tw_virt1 rfl (g_put hG hs hk (by omega)) (fun wp1231 hp1231 p1231 => ?_)
    obtain ⟨rfl, sp1231, lp1231, tp1231, kp1231⟩ := p1231
    refine tw_aload rfl rfl ?_
    refine tw_iload rfl rfl ?_
    refine tw_virt1 rfl (g_put hG sp1231 kp1231 (by rw [lp1231, tvI_i, n1 (by omega)]; omega)) (fun wp1232 hp1232 p1232 => ?_)
    obtain ⟨rfl, sp1232, lp1232, tp1232, kp1232⟩ := p1232
    rw [lp1231, tp1231] at tp1232
    rw [lp1231] at lp1232
    rw [tvI_i] at lp1232 tp1232
    refine tw_aload rfl rfl ?_
    refine tw_iload rfl rfl ?_
    refine tw_virt1 rfl (g_put hG sp1232 kp1232 (by rw [lp1232, tvI_i, n2 (by omega)]; omega)) (fun wp1233 hp1233 p1233 => ?_)
    obtain ⟨rfl, sp1233, lp1233, tp1233, kp1233⟩ := p1233
    rw [lp1232, tp1232] at tp1233
    rw [lp1232] at lp1233
    rw [tvI_i] at lp1233 tp1233
    refine tw_aload rfl rfl ?_
    refine tw_iload rfl rfl ?_
    refine tw_virt1 rfl (g_put hG sp1233 kp1233 (by rw [lp1233, tvI_i, n3 (by omega)]; omega)) (fun wp1234 hp1234 p1234 => ?_)
    obtain ⟨rfl, sp1234, lp1234, tp1234, kp1234⟩ := p1234
    rw [lp1233, tp1233] at tp1234
    rw [lp1233] at lp1234
    rw [tvI_i] at lp1234 tp1234
    refine tw_aload rfl rfl ?_
    refine tw_iload rfl rfl ?_
    refine tw_virt1 rfl (g_put hG sp1234 kp1234 (by rw [lp1234, tvI_i, n4 (by omega)]; omega)) (fun wp1235 hp1235 p1235 => ?_)
    obtain ⟨rfl, sp1235, lp1235, tp1235, kp1235⟩ := p1235
    rw [lp1234, tp1234] at tp1235
    rw [lp1234] at lp1235
    rw [tvI_i] at lp1235 tp1235
    refine tw_aload rfl rfl ?_
    refine tw_getS rfl (hi_111_27 sp1235) ?_
    exact tw_iret rfl (Or.inl ⟨by omega, by rw [lp1235]; rfl, lp1235, tp1235⟩)
  · try dsimp only [tvI_i, tvJ_j, tvR_r] at q1230
    refine tw_push rfl ?_
    exact tw_iret rfl (Or.inr ⟨by omega, rfl, rfl⟩)
theorem a_feed {a b c d e : Int32} {h h2 h3 : zH} {w w2 : Option Value} (hL : R_tlen h) (hT : R_tape h) (e1 : tF h2 111 27 = tF h 111 27) (o1 : tA h2 132 = tA h 132) (e2 : tF h3 44 1 = tF h2 44 1) (t1 : tA h3 45 = tA h2 45) (k1 : (fun a b c d e h w h2 => ((tvI (tF h 44 1)).toInt ≤ 380 ∧ w = some (.int (z20 (tvI (tF h 44 1)))) ∧ tF h2 44 1 = .int (z20 (tvI (tF h 44 1))) ∧ tA h2 45 = f20 (tA h 45) (tvI (tF h 44 1)) a b c d e) ∨ (¬ (tvI (tF h 44 1)).toInt ≤ 380 ∧ w = some (.int (-1)) ∧ h2 = h)) a b c d e h w h2) (k2 : (fun a b c d e h w h2 => ((tvI (tF h 111 27)).toInt ≤ 380 ∧ w = some (.int (z20 (tvI (tF h 111 27)))) ∧ tF h2 111 27 = .int (z20 (tvI (tF h 111 27))) ∧ tA h2 132 = f20 (tA h 132) (tvI (tF h 111 27)) a b c d e) ∨ (¬ (tvI (tF h 111 27)).toInt ≤ 380 ∧ w = some (.int (-1)) ∧ h2 = h)) a b c d e h2 w2 h3) : w2 = w ∧ R_tlen h3 ∧ R_tape h3 := by
  try dsimp only at k1 k2
  unfold R_tlen R_tape at *
  rw [e1, o1, ← hL, ← hT] at k2
  rcases k1 with ⟨c1, rfl, f1, g1⟩ | ⟨c1, rfl, rfl⟩ <;> rcases k2 with ⟨c2, rfl, f2, g2⟩ | ⟨c2, rfl, rfl⟩
  · exact ⟨rfl, by rw [e2, f1, f2], by rw [t1, g1, g2]⟩
  · exact absurd c1 c2
  · exact absurd c2 c1
  · exact ⟨rfl, hL, hT⟩
theorem f_cutTo {G : zG} (hG : G.1 = zProg) {h : zH} {n : Int32} (hs : tSh h) : tC zTt G 74 [.ref 44, .int n] h (fun w h2 => w = some (.int n) ∧ tF h2 44 1 = .int n) := by
  refine tC_in (by rw [hG]; rfl) (fun dp => ?_)
  refine tw_aload rfl rfl ?_
  refine tw_iload rfl rfl ?_
  refine tw_put rfl (fun f1236 => ?_)
  refine tw_iload rfl rfl ?_
  exact tw_iret rfl ⟨rfl, (tF_same f1236)⟩
theorem f_end {G : zG} (hG : G.1 = zProg) {h : zH} {n : Int32} (hs : tSh h) : tC zTt G 123 [.ref 0, .int n] h (fun w h2 => (fun n h w h2 => ((0 ≤ n.toInt ∧ n.toInt ≤ (tvI (tF h 44 1)).toInt) ∧ w = some (.int n) ∧ tF h2 44 1 = .int n) ∨ (¬ (0 ≤ n.toInt ∧ n.toInt ≤ (tvI (tF h 44 1)).toInt) ∧ w = some (.int (-1)) ∧ h2 = h)) n h w h2) := by
  refine tC_in (by rw [hG]; rfl) (fun dp => ?_)
  refine tw_iload rfl rfl ?_
  refine tw_push rfl ?_
  refine tw_aload rfl rfl ?_
  refine tw_getS rfl (hs_0_2 hs) ?_
  refine tw_getS rfl (hi_44_1 hs) ?_
  refine tw_stat3 rfl (f_isWithin hG (LO := 0)  (by decide) rfl) (fun w9 h9 p1237 => ?_)
  obtain ⟨⟨p1237, rfl⟩ | ⟨p1237, rfl⟩, rfl⟩ := p1237
  · try dsimp only [tvI_i, tvJ_j, tvR_r] at p1237
    refine tw_if_eq rfl (fun z => absurd z (by decide)) (fun _ => ?_)
    refine tw_aload rfl rfl ?_
    refine tw_getS rfl (hs_0_2 hs) ?_
    refine tw_iload rfl rfl ?_
    refine tw_virt1 rfl (f_cutTo hG hs) (fun wp1238 hp1238 p1238 => ?_)
    obtain ⟨rfl, lp1238⟩ := p1238
    refine tw_goto rfl ?_
    exact tw_iret rfl (Or.inl ⟨by omega, rfl, lp1238⟩)
  · try dsimp only [tvI_i, tvJ_j, tvR_r] at p1237
    refine tw_if_eq rfl (fun _ => ?_) (fun z => absurd z (by decide))
    refine tw_push rfl ?_
    exact tw_iret rfl (Or.inr ⟨by omega, rfl, rfl⟩)
theorem g_end {G : zG} (hG : G.1 = zProg) {h : zH} {n : Int32} (hs : tSh h) : tC zTt G 198 [.ref 111, .int n] h (fun w h2 => (fun n h w h2 => ((0 ≤ n.toInt ∧ n.toInt ≤ (tvI (tF h 111 27)).toInt) ∧ w = some (.int n) ∧ tF h2 111 27 = .int n) ∨ (¬ (0 ≤ n.toInt ∧ n.toInt ≤ (tvI (tF h 111 27)).toInt) ∧ w = some (.int (-1)) ∧ h2 = h)) n h w h2) := by
  refine tC_in (by rw [hG]; rfl) (fun dp => ?_)
  refine tw_iload rfl rfl ?_
  refine tw_if_lt rfl (fun q1239 => ?_) (fun q1239 => ?_)
  · try dsimp only [tvI_i, tvJ_j, tvR_r] at q1239
    refine tw_push rfl ?_
    exact tw_iret rfl (Or.inr ⟨by omega, rfl, rfl⟩)
  · try dsimp only [tvI_i, tvJ_j, tvR_r] at q1239
    refine tw_iload rfl rfl ?_
    refine tw_aload rfl rfl ?_
    refine tw_getS rfl (hi_111_27 hs) ?_
    refine tw_ic_le rfl (fun q1240 => ?_) (fun q1240 => ?_)
    · try dsimp only [tvI_i, tvJ_j, tvR_r] at q1240
      refine tw_aload rfl rfl ?_
      refine tw_iload rfl rfl ?_
      refine tw_put rfl (fun f1241 => ?_)
      refine tw_iload rfl rfl ?_
      exact tw_iret rfl (Or.inl ⟨by omega, rfl, (tF_same f1241)⟩)
    · try dsimp only [tvI_i, tvJ_j, tvR_r] at q1240
      refine tw_push rfl ?_
      exact tw_iret rfl (Or.inr ⟨by omega, rfl, rfl⟩)
theorem a_end {n : Int32} {h h2 h3 : zH} {w w2 : Option Value} (hL : R_tlen h) (e1 : tF h2 111 27 = tF h 111 27) (e2 : tF h3 44 1 = tF h2 44 1) (k1 : (fun n h w h2 => ((0 ≤ n.toInt ∧ n.toInt ≤ (tvI (tF h 44 1)).toInt) ∧ w = some (.int n) ∧ tF h2 44 1 = .int n) ∨ (¬ (0 ≤ n.toInt ∧ n.toInt ≤ (tvI (tF h 44 1)).toInt) ∧ w = some (.int (-1)) ∧ h2 = h)) n h w h2) (k2 : (fun n h w h2 => ((0 ≤ n.toInt ∧ n.toInt ≤ (tvI (tF h 111 27)).toInt) ∧ w = some (.int n) ∧ tF h2 111 27 = .int n) ∨ (¬ (0 ≤ n.toInt ∧ n.toInt ≤ (tvI (tF h 111 27)).toInt) ∧ w = some (.int (-1)) ∧ h2 = h)) n h2 w2 h3) : w2 = w ∧ R_tlen h3 := by
  try dsimp only at k1 k2
  unfold R_tlen at *
  rw [e1, ← hL] at k2
  rcases k1 with ⟨c1, rfl, f1⟩ | ⟨c1, rfl, rfl⟩ <;> rcases k2 with ⟨c2, rfl, f2⟩ | ⟨c2, rfl, rfl⟩
  · exact ⟨rfl, by rw [e2, f1, f2]⟩
  · exact absurd c1 c2
  · exact absurd c2 c1
  · exact ⟨rfl, hL⟩
