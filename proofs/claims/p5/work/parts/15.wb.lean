theorem zPok_G {tx : Nat → List Int32} {N : Nat} {xs : Nat → Int32} : zPok zTabs zCl zNm zKm (zProg, tx, N, xs) := fun j y bytes np hj cd nL rt mc ms hi => by
  obtain ⟨i, ps, h1, h2, h3, h4⟩ := zPL_at zNm zProg zKm zP_0 j _ hj
  have hi' : zProg[j]? = some (cd, nL, rt, mc, ms) := hi
  rw [h1] at hi'
  cases hi'
  unfold zmok1 at h2
  simp only [Bool.and_eq_true, decide_eq_true_eq] at h2
  exact ⟨h2.2.1, h4⟩
theorem zMok_G {tx : Nat → List Int32} {N : Nat} {xs : Nat → Int32} : zMok zTs zNm zKm (zProg, tx, N, xs) := fun j y bytes np hj => by
  obtain ⟨⟨cd, nL, rt, mc, ms⟩, ps, h1, h2, h3, h4⟩ := zPL_at zNm zProg zKm zP_0 j _ hj
  unfold zmok1 at h2
  simp only [Bool.and_eq_true, decide_eq_true_eq] at h2
  obtain ⟨a1, a2, a3, a5, a6⟩ := h2
  refine ⟨cd, nL, rt, mc, ms, h1, a1, zin_mem a3, List.mem_filter.mpr ⟨h3, rfl⟩, a5, fun e => ?_, fun e => ?_, fun e => ?_⟩
  · rw [e] at a6
    exact zin_mem a6
  · rw [e] at a6
    simp only [Bool.and_eq_true] at a6
    exact ⟨zin_mem a6.1, zin_mem a6.2⟩
  · rw [e] at a6
    simp only [Bool.and_eq_true, decide_eq_true_eq] at a6
    exact ⟨zin_mem a6.1, a6.2⟩
theorem zGood : GoodIn zTs zTs := fun w hw => ⟨hw, good_of_word (List.mem_filter.mp hw).2⟩
def zwall : List Jvm.Cond → List Nat → Bool
  | w :: r, p :: ps => zin zTabs p w && zwall r ps
  | [], _ => true
  | _ :: _, [] => false
theorem zwall_ok : ∀ (ws : List Jvm.Cond) (ps : List Nat), zwall ws ps = true → ∀ w ∈ ws, w ∈ zTs
  | [], _, _, w, h => absurd h List.not_mem_nil
  | w0 :: r, p :: ps, h, w, hw => by
    unfold zwall at h
    rw [Bool.and_eq_true] at h
    rcases List.mem_cons.mp hw with rfl | hw
    · exact zin_mem h.1
    · exact zwall_ok r ps h.2 w hw
