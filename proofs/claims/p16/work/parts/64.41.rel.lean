theorem cRst {h a b c d e : zH} (hs : tSh h) (hl : 0 ≤ (tvI (tF h 44 1)).toInt ∧ (tvI (tF h 44 1)).toInt ≤ 400) (hT : ∀ i, i < 400 → -128 ≤ (tA h 45 i).toInt ∧ (tA h 45 i).toInt ≤ 127) (h46 : tN h 46 = 400) (h47 : tN h 47 = 48) (e2 : cSet 2 0 h a) (e5 : cSet 5 0 a b) (e7 : cSet 7 0 b c) (e8 : cSet 8 0 c d) (e9 : cSet 9 (-1) d e) : cFq h e ∧ cs e = (0, 0, []) ∧ cCl e = [] ∧ cP e ∧ cQ e := by
  have F : ∀ p q, ¬ (p = 44 ∧ (q = 2 ∨ q = 3 ∨ q = 5 ∨ q = 7 ∨ q = 8 ∨ q = 9)) → tF e p q = tF h p q := fun p q z =>
    (e9.2.2.1 p q (fun w => z ⟨w.1, by omega⟩)).trans ((e8.2.2.1 p q (fun w => z ⟨w.1, by omega⟩)).trans ((e7.2.2.1 p q (fun w => z ⟨w.1, by omega⟩)).trans ((e5.2.2.1 p q (fun w => z ⟨w.1, by omega⟩)).trans (e2.2.2.1 p q (fun w => z ⟨w.1, by omega⟩)))))
  have A : tA e = tA h := e9.2.2.2.1.trans (e8.2.2.2.1.trans (e7.2.2.2.1.trans (e5.2.2.2.1.trans e2.2.2.2.1)))
  have N : tN e = tN h := e9.2.2.2.2.trans (e8.2.2.2.2.trans (e7.2.2.2.2.trans (e5.2.2.2.2.trans e2.2.2.2.2)))
  have f8 : tF e 44 8 = .int 0 := (e9.2.2.1 44 8 (by decide)).trans e8.2.1
  have f7 : tF e 44 7 = .int 0 := (e9.2.2.1 44 7 (by decide)).trans ((e8.2.2.1 44 7 (by decide)).trans e7.2.1)
  have f5 : tF e 44 5 = .int 0 := (e9.2.2.1 44 5 (by decide)).trans ((e8.2.2.1 44 5 (by decide)).trans ((e7.2.2.1 44 5 (by decide)).trans e5.2.1))
  have f2 : tF e 44 2 = .int 0 := (e9.2.2.1 44 2 (by decide)).trans ((e8.2.2.1 44 2 (by decide)).trans ((e7.2.2.1 44 2 (by decide)).trans ((e5.2.2.1 44 2 (by decide)).trans e2.2.1)))
  have f1 : tF e 44 1 = tF h 44 1 := F 44 1 (by decide)
  refine ⟨⟨e9.1, F, fun p _ _ => congrFun A p, N⟩, ?_, ?_, ⟨?_, ?_, ?_, ?_, ?_, e9.2.1⟩, ⟨?_, ?_, ?_⟩⟩
  · unfold cs cCo
    rw [f2, f8, f5]
    rfl
  · unfold cCl
    rw [f7]
    rfl
  · rw [f2, f1]
    refine ⟨by decide, ?_, hl.2⟩
    show (0 : Int) ≤ _
    exact hl.1
  · rw [f8]; decide
  · rw [f5, f2]; decide
  · rw [A]; exact hT
  · rw [N]; exact h46
  · rw [f7]; decide
  · rw [f7]; decide
  · rw [N]; exact h47
theorem cFtv {h : zH} {e : Nat} (u : cFt h e) : tF h 44 9 = .int (Int32.ofNat e) := u
theorem rTon {T : Nat → Int32} {n : Nat} {c : Int32} {s s2 : rS} (h : rT T n c s = some (.inr s2)) : (rB T n s.1 < n ∧ T (rB T n s.1) = c) ∧ s2 = rA (rB T n s.1 + 1) s := by
  unfold rT at h
  by_cases z : rB T n s.1 < n ∧ T (rB T n s.1) = c
  · rw [if_pos z] at h; cases h; exact ⟨z, rfl⟩
  · rw [if_neg z] at h; cases h
theorem rToff {T : Nat → Int32} {n e : Nat} {c : Int32} {s : rS} (h : rT T n c s = some (.inl e)) : ¬ (rB T n s.1 < n ∧ T (rB T n s.1) = c) ∧ e = 1 + 8 * rB T n s.1 + 0 := by
  unfold rT at h
  by_cases z : rB T n s.1 < n ∧ T (rB T n s.1) = c
  · rw [if_pos z] at h; cases h
  · rw [if_neg z] at h; cases h; exact ⟨z, rfl⟩
theorem rCl_12 {T : Nat → Int32} {n c : Nat} {s : rS} {x : rS × rCt} (h : rCl T n c s (.inr x)) : c ≠ 12 := by
  rcases h with ⟨-, h⟩ | ⟨k, -, -, -, ⟨-, h⟩ | ⟨h, -⟩⟩
  · cases h
  · cases h
  · exact h
theorem f_readRule {G : zG} (hG : G.1 = zProg) (hX : G.2.1 = ztx) {h : zH} {T : Nat → Int32} {n : Nat} (hs : tSh h) (hT : tA h 45 = T) (hN : cn h = n) (hl : 0 ≤ (tvI (tF h 44 1)).toInt ∧ (tvI (tF h 44 1)).toInt ≤ 400) (hT9 : ∀ i, i < 400 → -128 ≤ (tA h 45 i).toInt ∧ (tA h 45 i).toInt ≤ 127) (h46 : tN h 46 = 400) (h47 : tN h 47 = 48) : tC zTt G 75 [.ref 44] h (fun w h2 => cFq h h2 ∧ ((∃ f, rRu T n f (0, 0, []) [] (.inr (cs h2, cCl h2)) ∧ w = some (.int (-1)) ∧ cP h2 ∧ cQ h2) ∨ ∃ e f, rRu T n f (0, 0, []) [] (.inl e) ∧ w = some (.int (Int32.ofNat e)))) := by
  refine tC_in (by rw [hG]; rfl) (fun dp => ?_)
  refine tw_aload rfl rfl ?_
  refine tw_push rfl ?_
  refine tw_put rfl (fun f239 => ?_)
  refine tG_set f239 (hw_44_2 f239 hs) (fun hf239 ef239 => ?_)
  try dsimp only [tvI_i] at ef239
  refine tw_aload rfl rfl ?_
  refine tw_push rfl ?_
  refine tw_put rfl (fun f240 => ?_)
  refine tG_set f240 (hw_44_5 f240 ef239.1) (fun hf240 ef240 => ?_)
  try dsimp only [tvI_i] at ef240
  refine tw_aload rfl rfl ?_
  refine tw_push rfl ?_
  refine tw_put rfl (fun f241 => ?_)
  refine tG_set f241 (hw_44_7 f241 ef240.1) (fun hf241 ef241 => ?_)
  try dsimp only [tvI_i] at ef241
  refine tw_aload rfl rfl ?_
  refine tw_push rfl ?_
  refine tw_put rfl (fun f242 => ?_)
  refine tG_set f242 (hw_44_8 f242 ef241.1) (fun hf242 ef242 => ?_)
  try dsimp only [tvI_i] at ef242
  refine tw_aload rfl rfl ?_
  refine tw_push rfl ?_
  refine tw_put rfl (fun f243 => ?_)
  refine tG_set f243 (hw_44_9 f243 ef242.1) (fun hf243 ef243 => ?_)
  try dsimp only [tvI_i] at ef243
  refine tw_push rfl ?_
  refine tw_istore rfl ?_
  refine tG_loop (zW_mono zTt G dp) (zW_conj zTt G dp) (V := fun pc L st h9 _ _ => pc = 27 ∧ st = [] ∧ ∃ (h1 : zH) (k : Nat) (x : Int32), h1 = h9 ∧ x.toInt = k ∧ cFq h h1 ∧ cP h1 ∧ cQ h1 ∧ (cCl h1).length = k ∧ (∀ r, (∃ f, rRu T n f (cs h1) (cCl h1) r) → ∃ f, rRu T n f (0, 0, []) [] r) ∧ L = [some (.ref 44), some (.int x)]) ?_ (⟨rfl, rfl, _, 0, 0, rfl, rfl, (cRst hs hl hT9 h46 h47 ef239 ef240 ef241 ef242 ef243).1, (cRst hs hl hT9 h46 h47 ef239 ef240 ef241 ef242 ef243).2.2.2.1, (cRst hs hl hT9 h46 h47 ef239 ef240 ef241 ef242 ef243).2.2.2.2, (by rw [(cRst hs hl hT9 h46 h47 ef239 ef240 ef241 ef242 ef243).2.2.1]; rfl), (fun r z => by rw [(cRst hs hl hT9 h46 h47 ef239 ef240 ef241 ef242 ef243).2.1, (cRst hs hl hT9 h46 h47 ef239 ef240 ef241 ef242 ef243).2.2.1] at z; exact z), rfl⟩)
  rintro _ _ _ _ _ _ ⟨rfl, rfl, h1, k, x, rfl, hx, gF, p1, q1, hk, hR, rfl⟩
  have g1 := cFr_r gF.1
  refine tw_iload rfl rfl ?_
  refine tw_push rfl ?_
  refine tw_ic_gt rfl (fun q244 => ?_) (fun q244 => ?_)
  · try dsimp only [tvI_i, tvJ_j, tvR_r] at q244
    refine tw_aload rfl rfl ?_
    refine tw_getS rfl (hi_44_9 g1.1) ?_
    exfalso
    have := q1.1
    have := q1.2.1
    rw [cCl_len, zclE] at hk
    have c129 : (12 : Int32).toInt = 12 := rfl
    have z := q244
    omega
  · try dsimp only [tvI_i, tvJ_j, tvR_r] at q244
    refine tw_aload rfl rfl ?_
    refine tw_virt0 rfl (f_readClause hG hX g1.1 p1 ((cFq_T gF).trans hT) ((cFq_n gF).trans hN) q1) (fun w9 hp245 p245 => ?_)
    obtain ⟨gqp245, qqp245, ⟨rfl, cp245, p245, clp245, ppp245⟩ | ⟨rfl, xp245, p245, up245⟩⟩ := p245
    · have gzp245 := cFr_r gqp245.1
      refine tw_if_eq rfl (fun z => absurd z (by decide)) (fun _ => ?_)
      refine tw_aload rfl rfl ?_
      refine tw_virt0 rfl (f_signHere hG hX (gzp245).1 ppp245 ((cFq_T (cFq_t gF gqp245)).trans hT) ((cFq_n (cFq_t gF gqp245)).trans hN)) (fun wp246 hp246 p246 => ?_)
      obtain ⟨gp246, ppp246, ssp246, t3p246, cp246, rfl, kp246⟩ := p246
      have ggp246 := cFr_t gzp245 gp246
      refine tw_push rfl ?_
      refine tw_ic_eq rfl (fun q247 => ?_) (fun q247 => ?_)
      · try dsimp only [tvI_i, tvJ_j, tvR_r] at q247
        have q247i := zeqi (Y := (-1)) (by decide) q247
        refine tw_aload rfl rfl ?_
        refine tw_getS rfl (hi_44_9 ggp246.1) ?_
        have hne : ¬ rB T n (cs hp245).1 < n := kp246.2.mp q247
        obtain ⟨f9, z⟩ := hR _ ⟨1, Or.inr ⟨_, _, p245, Or.inl ⟨hne, rfl⟩⟩⟩
        have hcc : cCl hp246 = cCl h1 ++ [cp245] := (cCl_f gp246).trans clp245
        rw [← hcc, ← ssp246] at z
        exact tw_iret rfl ⟨cFq_t (cFq_t gF gqp245) (cFq_f gp246), Or.inl ⟨f9, z, by rw [ppp246.2.2.2.2.2]; rfl, ppp246, cQ_f gp246 qqp245⟩⟩
      · try dsimp only [tvI_i, tvJ_j, tvR_r] at q247
        have q247i := zneq (Y := (-1)) (by decide) q247
        refine tw_aload rfl rfl ?_
        refine tw_push rfl ?_
        refine tw_virt1 rfl (f_takeSign hG hX (ggp246).1 ppp246 ((cFr_T ggp246).trans ((cFq_T (cFq_t gF gqp245)).trans hT)) ((cFr_n ggp246).trans ((cFq_n (cFq_t gF gqp245)).trans hN)) (y := 59) (by decide)) (fun w9 hp248 p248 => ?_)
        obtain ⟨gp248, ⟨rfl, p248, ppp248⟩ | ⟨rfl, xp248, p248, up248⟩⟩ := p248
        · have ggp248 := cFr_t ggp246 gp248
          refine tw_if_ne rfl (fun _ => ?_) (fun z => absurd z (by decide))
          refine tw_iinc rfl rfl ?_
          refine tw_goto rfl ?_
          have hcl : (cCl h1).length < 12 := by have z := rCl_12 (T := T) p245; have y := q1; rw [cCl_len, zclE] at *; have := q1.1; have := q1.2.1; omega
          have hts := rTon p248
          rw [ssp246, show (rA (rB T n (cs hp245).1) (cs hp245)).1 = rB T n (cs hp245).1 from rfl, rB_2] at hts
          have hcc : cCl hp248 = cCl h1 ++ [cp245] := (cCl_f (cFr_t (cFr_t (cFr_r gqp245.1) gp246) gp248)).trans clp245
          refine tG_cut (zW_mono zTt G dp) (Or.inr ⟨rfl, rfl, _, k + 1, x + 1, rfl, zincN hx (by omega), cFq_t (cFq_t gF gqp245) (cFq_f (cFr_t gp246 gp248)), ppp248, cQ_f (cFr_t gp246 gp248) qqp245, (by rw [hcc, List.length_append, hk]; rfl), (fun r z => ?_), rfl⟩)
          rw [hcc, hts.2] at z
          obtain ⟨f9, z⟩ := z
          exact hR r ⟨f9 + 1, Or.inr ⟨_, _, p245, Or.inr (Or.inl ⟨hts.1, z⟩)⟩⟩
        · have ggp248 := cFr_t ggp246 gp248
          refine tw_if_ne rfl (fun z => absurd z (by decide)) (fun _ => ?_)
          refine tw_goto rfl ?_
          refine tw_aload rfl rfl ?_
          refine tw_getS rfl (hi_44_9 ggp248.1) ?_
          have hts := rToff p248
          rw [ssp246, show (rA (rB T n (cs hp245).1) (cs hp245)).1 = rB T n (cs hp245).1 from rfl, rB_2] at hts
          have hlt : rB T n (cs hp245).1 < n := Classical.byContradiction (fun z => q247 (kp246.2.mpr z))
          obtain ⟨f9, z⟩ := hR _ ⟨1, Or.inr ⟨_, _, p245, Or.inr (Or.inr ⟨⟨hlt, fun z => hts.1 ⟨hlt, z⟩⟩, rfl⟩)⟩⟩
          exact tw_iret rfl ⟨cFq_t (cFq_t gF gqp245) (cFq_f (cFr_t gp246 gp248)), Or.inr ⟨_, f9, z, by rw [cFtv up248, hts.2]; rfl⟩⟩
    · refine tw_if_eq rfl (fun _ => ?_) (fun z => absurd z (by decide))
      refine tw_aload rfl rfl ?_
      refine tw_getS rfl (hi_44_9 gqp245.1) ?_
      obtain ⟨f9, z⟩ := hR _ ⟨1, Or.inl ⟨_, p245, rfl⟩⟩
      exact tw_iret rfl ⟨cFq_t gF gqp245, Or.inr ⟨_, f9, z, by rw [cFtv up245]; rfl⟩⟩
/-! the reader with a pile, as it stands in the object 111 -/
noncomputable def mCode (s v : Nat) : Nat := if s = 0 then v else if s = 1 then (if v < 12 then 100000 + v else 200000 + v) else if s = 2 then 100102 else if s = 3 then 100100 else if s = 4 then 100101 else if s = 10 then 100110 else if s = 11 then 100109 else if s = 12 then 100108 else 100098 + s
theorem mCode_1 {v : Nat} (h : v < 12) : mCode 1 v = 100000 + v := by
  show (if v < 12 then 100000 + v else 200000 + v) = _
  rw [if_pos h]
noncomputable def mEn (h : zH) : List Nat := (List.range (tvI (tF h 111 31)).toNatClampNeg).map (fun i => mCode (tA h 133 (500 * (tvI (tF h 111 30)).toNatClampNeg + i)).toNatClampNeg (tA h 134 (500 * (tvI (tF h 111 30)).toNatClampNeg + i)).toNatClampNeg)
noncomputable def mSk (h : zH) : List Nat := ((List.range (tvI (tF h 111 34)).toNatClampNeg).map (fun i => (tA h 142 i).toNatClampNeg)).reverse
noncomputable def ms (h : zH) : rS := ((tvI (tF h 111 28)).toNatClampNeg, (tvI (tF h 111 33)).toNatClampNeg, mEn h)
noncomputable abbrev mn (h : zH) : Nat := (tvI (tF h 111 27)).toNatClampNeg
noncomputable def mFs (b : Nat) : Prop := b = 28 ∨ b = 29 ∨ b = 31 ∨ b = 32 ∨ b = 33 ∨ b = 34
/-- what is told of the rules before stays -/
noncomputable def mLo (h h2 : zH) : Prop := ∀ q, q < 500 * (tvI (tF h 111 30)).toNatClampNeg → tA h2 133 q = tA h 133 q ∧ tA h2 134 q = tA h 134 q
theorem mLo_r {h : zH} : mLo h h := fun _ _ => ⟨rfl, rfl⟩
theorem mLo_t {h h1 h2 : zH} (e : tF h1 111 30 = tF h 111 30) (a : mLo h h1) (k : mLo h1 h2) : mLo h h2 := fun q hq =>
  have y := k q (by rw [e]; exact hq)
  ⟨y.1.trans (a q hq).1, y.2.trans (a q hq).2⟩
theorem mLo_A {h h1 h2 : zH} (e : tA h2 = tA h1) (a : mLo h h1) : mLo h h2 := fun q hq => by rw [e]; exact a q hq
theorem mLo_p {h h2 : zH} (a : tA h2 133 = tA h 133) (b : tA h2 134 = tA h 134) : mLo h h2 := fun q _ => ⟨by rw [a], by rw [b]⟩
noncomputable def mFr (h h2 : zH) : Prop := tSh h2 ∧ (∀ p b, ¬ (p = 111 ∧ mFs b) → tF h2 p b = tF h p b) ∧ (∀ p, p ≠ 133 → p ≠ 134 → p ≠ 142 → tA h2 p = tA h p) ∧ tN h2 = tN h ∧ mLo h h2
/-- no fault so far -/
noncomputable def mP (h : zH) : Prop := tF h 111 29 = .int 0 ∧ (0 ≤ (tvI (tF h 111 28)).toInt ∧ (tvI (tF h 111 28)).toInt ≤ (tvI (tF h 111 27)).toInt ∧ (tvI (tF h 111 27)).toInt ≤ 400) ∧ (0 ≤ (tvI (tF h 111 33)).toInt ∧ (tvI (tF h 111 33)).toInt ≤ 80) ∧ (0 ≤ (tvI (tF h 111 31)).toInt ∧ (tvI (tF h 111 31)).toInt ≤ 100000) ∧ 0 ≤ (tvI (tF h 111 34)).toInt ∧ (0 ≤ (tvI (tF h 111 30)).toInt ∧ (tvI (tF h 111 30)).toInt ≤ 10) ∧ (∀ i, i < tN h 142 → 0 ≤ (tA h 142 i).toInt) ∧ (∀ i : Nat, i = i) ∧ tN h 133 ≤ 100000 ∧ tN h 142 ≤ 100000
noncomputable def mD (h : zH) : Prop := (tvI (tF h 111 32)).toInt = mDp (mSk h)
noncomputable def mSet (b : Nat) (X : Int32) (h h3 : zH) : Prop := tSh h3 ∧ tF h3 111 b = .int X ∧ (∀ p q, ¬ (p = 111 ∧ q = b) → tF h3 p q = tF h p q) ∧ tA h3 = tA h ∧ tN h3 = tN h
/-- a fault stands -/
noncomputable def mFt (h : zH) (e : Nat) : Prop := tF h 111 29 = .int (Int32.ofNat e) ∧ 0 < e ∧ e < 100000
section MF
variable {h h1 h2 h3 : zH} {b e : Nat} {X : Int32}
theorem mSet_of (hf : tFd h 111 b) (hs : tSh (tSF h 111 b (.int X))) : mSet b X h (tSF h 111 b (.int X)) := ⟨hs, tF_same hf, fun _ _ hn => tF_nz hn, tA_tSF _ _ _ _, tN_tSF _ _ _ _⟩
theorem tG_setm {tt : zT} {G : zG} {cd : zK} {bc bs : Nat} {rt : Option FieldType} {M : zM} {Q : zQ} {Z : zX} {f : Bool} {pc : Nat} {L : zL} {st : List Value} {c n : Nat} (hf : tFd h 111 b) (hs : tSh (tSF h 111 b (.int X))) (k : ∀ h3, mSet b X h h3 → tG tt G cd bc bs rt M Q Z f pc L st h3 c n) : tG tt G cd bc bs rt M Q Z f pc L st (tSF h 111 b (.int X)) c n := k _ (mSet_of hf hs)
theorem mFr_r (hs : tSh h) : mFr h h := ⟨hs, fun _ _ _ => rfl, fun _ _ _ _ => rfl, rfl, mLo_r⟩
theorem mFr_t (a : mFr h h1) (k : mFr h1 h2) : mFr h h2 := ⟨k.1, fun p q z => (k.2.1 p q z).trans (a.2.1 p q z), fun p z w y => (k.2.2.1 p z w y).trans (a.2.2.1 p z w y), k.2.2.2.1.trans a.2.2.2.1, mLo_t (a.2.1 111 30 (fun z => by have z := z.2; unfold mFs at z; omega)) a.2.2.2.2 k.2.2.2.2⟩
theorem mFr_s (a : mFr h h1) (k : mSet b X h1 h2) (hb : mFs b) : mFr h h2 := ⟨k.1, fun p q z => (k.2.2.1 p q (fun w => z ⟨w.1, w.2.symm ▸ hb⟩)).trans (a.2.1 p q z), fun p z w y => (congrFun k.2.2.2.1 p).trans (a.2.2.1 p z w y), k.2.2.2.2.trans a.2.2.2.1, mLo_A k.2.2.2.1 a.2.2.2.2⟩
theorem nFs {q : Nat} (h : q = 27 ∨ q = 30 ∨ q = 1 ∨ q = 46 ∨ q = 47) : ¬ ((111 : Nat) = 111 ∧ mFs q) := fun z => by
  have z := z.2
  unfold mFs at z
  omega
theorem mFr_T (a : mFr h h1) : tA h1 132 = tA h 132 := a.2.2.1 132 (by decide) (by decide) (by decide)
theorem mFr_27 (a : mFr h h1) : tF h1 111 27 = tF h 111 27 := a.2.1 111 27 (nFs (by decide))
theorem mFr_30 (a : mFr h h1) : tF h1 111 30 = tF h 111 30 := a.2.1 111 30 (nFs (by decide))
theorem mFr_n (a : mFr h h1) : mn h1 = mn h := by unfold mn; rw [mFr_27 a]
theorem mFr_46 (a : mFr h h1) : tF h1 111 46 = tF h 111 46 := a.2.1 111 46 (nFs (by decide))
theorem mFr_47 (a : mFr h h1) : tF h1 111 47 = tF h 111 47 := a.2.1 111 47 (nFs (by decide))
theorem mI_x (k : mSet b X h h3) : tvI (tF h3 111 b) = X := congrArg tvI k.2.1
theorem mI_o {q : Nat} (k : mSet b X h h3) (hq : q ≠ b) : tF h3 111 q = tF h 111 q := k.2.2.1 111 q (fun z => hq z.2)
theorem mEn_o (k : mSet b X h h3) (h1 : b ≠ 31) (h2 : b ≠ 30) : mEn h3 = mEn h := by
  unfold mEn
  rw [mI_o k (fun z => h1 z.symm), mI_o k (fun z => h2 z.symm), k.2.2.2.1]
theorem mSk_o (k : mSet b X h h3) (h1 : b ≠ 34) : mSk h3 = mSk h := by
  unfold mSk
  rw [mI_o k (fun z => h1 z.symm), k.2.2.2.1]
theorem mSk_len : (mSk h).length = (tvI (tF h 111 34)).toNatClampNeg := by unfold mSk; rw [List.length_reverse, List.length_map, List.length_range]
/-- the fault stays over other fields -/
theorem mFt_s (k : mFt h e) (s : mSet b X h h3) (hb : b ≠ 29) : mFt h3 e := ⟨(mI_o s (fun z => hb z.symm)).trans k.1, k.2⟩
theorem mFt_n (k : mFt h e) : ¬ tvI (tF h 111 29) = 0 := by
  rw [k.1]
  intro z
  have z : Int32.ofNat e = 0 := z
  have y := zofI (e := e) (by have := k.2; omega)
  rw [z] at y
  have : ((0 : Int32)).toInt = 0 := rfl
  have := k.2
  omega
theorem mP_0 (p : mP h) : tvI (tF h 111 29) = 0 := by rw [p.1]; rfl
theorem mPl (p : mP h) : (tvI (tF h 111 28)).toInt = ((ms h).1 : Int) := by
  show _ = ((tvI (tF h 111 28)).toNatClampNeg : Int)
  rw [zclE]
  have := p.2.1
  omega
theorem mNl {n : Nat} (p : mP h) (hn : mn h = n) : (tvI (tF h 111 27)).toInt = (n : Int) := by
  rw [← hn]
  show _ = ((tvI (tF h 111 27)).toNatClampNeg : Int)
  rw [zclE]
  have := p.2.1
  omega
theorem mCl (p : mP h) : (tvI (tF h 111 33)).toInt = ((ms h).2.1 : Int) := by
  show _ = ((tvI (tF h 111 33)).toNatClampNeg : Int)
  rw [zclE]
  have := p.2.2.1
  omega
theorem mPle {n : Nat} (p : mP h) (hn : mn h = n) : (ms h).1 ≤ n := by
  have := mPl p
  have := mNl p hn
  have := p.2.1
  omega
/-- the place was set -/
theorem mTo {n v : Nat} (p : mP h) (hn : mn h = n) (s : mSet 28 X h h3) (hx : X.toInt = v) (hv : v ≤ n) : mP h3 ∧ ms h3 = rA v (ms h) ∧ mSk h3 = mSk h := by
  have e1 := mNl p hn
  obtain ⟨a, b, c, d, e, g, i, j, t1, t2⟩ := p
  have NN : tN h3 = tN h := s.2.2.2.2
  refine ⟨⟨(mI_o s (by decide)).trans a, ?_, ?_, ?_, ?_, ?_, ?_, ?_, by rw [NN]; exact t1, by rw [NN]; exact t2⟩, ?_, mSk_o s (by decide)⟩
  · rw [mI_x s, mI_o s (by decide)]; omega
  · rw [mI_o s (by decide)]; exact c
  · rw [mI_o s (by decide)]; exact d
  · rw [mI_o s (by decide)]; exact e
  · rw [mI_o s (by decide)]; exact g
  · rw [s.2.2.2.1, s.2.2.2.2]; exact i
  · exact j
  · unfold ms
    rw [mI_x s, mI_o s (by decide), mEn_o s (by decide) (by decide), zof_cl hx]
    rfl
/-- one more is counted -/
theorem mCnt (p : mP h) (h8 : (ms h).2.1 ≠ 80) (s : mSet 33 (tvI (tF h 111 33) + 1) h h3) : mP h3 ∧ ms h3 = ((ms h).1, (ms h).2.1 + 1, (ms h).2.2) ∧ mSk h3 = mSk h := by
  have e1 := mCl p
  have e2 : (tvI (tF h 111 33) + 1).toInt = (((ms h).2.1 + 1 : Nat) : Int) := zincN e1 (by have := p.2.2.1; omega)
  obtain ⟨a, b, c, d, e, g, i, j, t1, t2⟩ := p
  have NN : tN h3 = tN h := s.2.2.2.2
  refine ⟨⟨(mI_o s (by decide)).trans a, ?_, ?_, ?_, ?_, ?_, ?_, ?_, by rw [NN]; exact t1, by rw [NN]; exact t2⟩, ?_, mSk_o s (by decide)⟩
  · rw [mI_o s (by decide), mI_o s (by decide)]; exact b
  · rw [mI_x s]; omega
  · rw [mI_o s (by decide)]; exact d
  · rw [mI_o s (by decide)]; exact e
  · rw [mI_o s (by decide)]; exact g
  · rw [s.2.2.2.1, s.2.2.2.2]; exact i
  · exact j
  · unfold ms
    rw [mI_x s, mI_o s (by decide), mEn_o s (by decide) (by decide), zof_cl e2]
    rfl
theorem mSte (p : mP h) (s : mSet 46 X h h3) : mP h3 ∧ ms h3 = ms h ∧ mSk h3 = mSk h := by
  obtain ⟨a, b, c, d, e, g, i, j, t1, t2⟩ := p
  have e1 := mEn_o s (by decide) (by decide)
  have e2 := mSk_o s (by decide)
  have NN : tN h3 = tN h := s.2.2.2.2
  refine ⟨⟨(mI_o s (by decide)).trans a, ?_, ?_, ?_, ?_, ?_, ?_, ?_, by rw [NN]; exact t1, by rw [NN]; exact t2⟩, ?_, e2⟩
  · rw [mI_o s (by decide), mI_o s (by decide)]; exact b
  · rw [mI_o s (by decide)]; exact c
  · rw [mI_o s (by decide)]; exact d
  · rw [mI_o s (by decide)]; exact e
  · rw [mI_o s (by decide)]; exact g
  · rw [s.2.2.2.1, s.2.2.2.2]; exact i
  · exact j
  · unfold ms
    rw [mI_o s (by decide), mI_o s (by decide), e1]
/-- a fault is set -/
theorem mFt_of {a y : Int32} {k w : Nat} (s : mSet 29 (1 + 8 * a + y) h h3) (ha : a.toInt = k) (hk : k ≤ 400) (hy : y.toInt = w) (hw : w ≤ 7) : mFt h3 (1 + 8 * k + w) := ⟨by rw [s.2.1, zfa ha hk hy hw], by omega, by omega⟩
/-- the top, and off with it: the depth follows by the caller -/
theorem mSk_top (hk : 0 < (tvI (tF h 111 34)).toNatClampNeg) : mSk h = (tA h 142 ((tvI (tF h 111 34)).toNatClampNeg - 1)).toNatClampNeg :: ((List.range ((tvI (tF h 111 34)).toNatClampNeg - 1)).map (fun i => (tA h 142 i).toNatClampNeg)).reverse := by
  unfold mSk
  obtain ⟨k, e⟩ : ∃ k, (tvI (tF h 111 34)).toNatClampNeg = k + 1 := ⟨_, (Nat.sub_add_cancel hk).symm⟩
  rw [e, List.range_succ, List.map_append, List.reverse_append]
  rfl
theorem mSk_nil (hk : (tvI (tF h 111 34)).toNatClampNeg = 0) : mSk h = [] := by
  unfold mSk
  rw [hk]
  rfl
theorem mD_o (k : mSet b X h h3) (h1 : b ≠ 32) (h2 : b ≠ 34) (d : mD h) : mD h3 := by
  unfold mD
  rw [mI_o k (fun z => h1 z.symm), mSk_o k h2]
  exact d
theorem mSk_pop (p : mP h) (hne : mSk h ≠ []) (s : mSet 34 (tvI (tF h 111 34) - 1) h h3) : mP h3 ∧ mSk h3 = (mSk h).tail ∧ ms h3 = ms h ∧ tF h3 111 32 = tF h 111 32 := by
  have hk : 0 < (tvI (tF h 111 34)).toNatClampNeg := by
    rcases Nat.eq_zero_or_pos (tvI (tF h 111 34)).toNatClampNeg with z | z
    · exact absurd (mSk_nil z) hne
    · exact z
  have e0 : (tvI (tF h 111 34)).toInt = ((tvI (tF h 111 34)).toNatClampNeg : Int) := by rw [zclE]; have := p.2.2.2.2.1; omega
  have e1 : (tvI (tF h 111 34) - 1).toInt = (tvI (tF h 111 34)).toInt - 1 := zsub1 p.2.2.2.2.1
  have e2 : (tvI (tF h 111 34) - 1).toNatClampNeg = (tvI (tF h 111 34)).toNatClampNeg - 1 := by rw [zclE, e1]; omega
  obtain ⟨a, b, c, d, e, g, i, j, t1, t2⟩ := p
  have NN : tN h3 = tN h := s.2.2.2.2
  refine ⟨⟨(mI_o s (by decide)).trans a, ?_, ?_, ?_, ?_, ?_, ?_, ?_, by rw [NN]; exact t1, by rw [NN]; exact t2⟩, ?_, ?_, mI_o s (by decide)⟩
  · rw [mI_o s (by decide), mI_o s (by decide)]; exact b
  · rw [mI_o s (by decide)]; exact c
  · rw [mI_o s (by decide)]; exact d
  · rw [mI_x s, e1]; omega
  · rw [mI_o s (by decide)]; exact g
  · rw [s.2.2.2.1, s.2.2.2.2]; exact i
  · exact j
  · rw [mSk_top hk]
    unfold mSk
    rw [mI_x s, e2, s.2.2.2.1]
    rfl
  · unfold ms
    rw [mI_o s (by decide), mI_o s (by decide), mEn_o s (by decide) (by decide)]
/-- the depth goes down by one -/
theorem mDn (p : mP h) (s : mSet 32 (tvI (tF h 111 32) - 1) h h3) {k : Nat} (hd : (tvI (tF h 111 32)).toInt = ((k + 1 : Nat) : Int)) (hk : k = mDp (mSk h)) : mP h3 ∧ mSk h3 = mSk h ∧ ms h3 = ms h ∧ mD h3 := by
  have e1 : (tvI (tF h 111 32) - 1).toInt = (tvI (tF h 111 32)).toInt - 1 := zsub1 (by omega)
  have e2 := mSk_o s (by decide)
  obtain ⟨a, b, c, d, e, g, i, j, t1, t2⟩ := p
  have NN : tN h3 = tN h := s.2.2.2.2
  refine ⟨⟨(mI_o s (by decide)).trans a, ?_, ?_, ?_, ?_, ?_, ?_, ?_, by rw [NN]; exact t1, by rw [NN]; exact t2⟩, e2, ?_, ?_⟩
  · rw [mI_o s (by decide), mI_o s (by decide)]; exact b
  · rw [mI_o s (by decide)]; exact c
  · rw [mI_o s (by decide)]; exact d
  · rw [mI_o s (by decide)]; exact e
  · rw [mI_o s (by decide)]; exact g
  · rw [s.2.2.2.1, s.2.2.2.2]; exact i
  · exact j
  · unfold ms
    rw [mI_o s (by decide), mI_o s (by decide), mEn_o s (by decide) (by decide)]
  · unfold mD
    rw [mI_x s, e1, e2, hd, hk]
    omega
theorem mUp (p : mP h) (s : mSet 32 (tvI (tF h 111 32) + 1) h h3) {k : Nat} (hd : (tvI (tF h 111 32)).toInt = (k : Int)) (hk : k ≤ 1000) : mP h3 ∧ mSk h3 = mSk h ∧ ms h3 = ms h ∧ (tvI (tF h3 111 32)).toInt = ((k + 1 : Nat) : Int) := by
  have e1 := zincN hd (by omega)
  have e2 := mSk_o s (by decide)
  obtain ⟨a, b, c, d, e, g, i, j, t1, t2⟩ := p
  have NN : tN h3 = tN h := s.2.2.2.2
  refine ⟨⟨(mI_o s (by decide)).trans a, ?_, ?_, ?_, ?_, ?_, ?_, ?_, by rw [NN]; exact t1, by rw [NN]; exact t2⟩, e2, ?_, ?_⟩
  · rw [mI_o s (by decide), mI_o s (by decide)]; exact b
  · rw [mI_o s (by decide)]; exact c
  · rw [mI_o s (by decide)]; exact d
  · rw [mI_o s (by decide)]; exact e
  · rw [mI_o s (by decide)]; exact g
  · rw [s.2.2.2.1, s.2.2.2.2]; exact i
  · exact j
  · unfold ms
    rw [mI_o s (by decide), mI_o s (by decide), mEn_o s (by decide) (by decide)]
  · rw [mI_x s, e1]
/-- laid on the pile -/
theorem mPush {x : Int32} {kd : Nat} (hs : tSh h) (p : mP h) (hx : 0 ≤ x.toInt) (hf : tIn h 142 kd (tvI (tF h 111 34))) (hf2 : tFd (tSA h 142 (tvI (tF h 111 34)).toNatClampNeg x) 111 34) : mFr h (tSF (tSA h 142 (tvI (tF h 111 34)).toNatClampNeg x) 111 34 (.int (tvI (tF h 111 34) + 1))) ∧ mP (tSF (tSA h 142 (tvI (tF h 111 34)).toNatClampNeg x) 111 34 (.int (tvI (tF h 111 34) + 1))) ∧ mSk (tSF (tSA h 142 (tvI (tF h 111 34)).toNatClampNeg x) 111 34 (.int (tvI (tF h 111 34) + 1))) = x.toNatClampNeg :: mSk h ∧ ms (tSF (tSA h 142 (tvI (tF h 111 34)).toNatClampNeg x) 111 34 (.int (tvI (tF h 111 34) + 1))) = ms h ∧ tF (tSF (tSA h 142 (tvI (tF h 111 34)).toNatClampNeg x) 111 34 (.int (tvI (tF h 111 34) + 1))) 111 32 = tF h 111 32 := by
  have hw := hw_111_34 (x := tvI (tF h 111 34) + 1) hf2 (tSh_SA hs)
  have e := mSet_of hf2 hw
  generalize tSF (tSA h 142 (tvI (tF h 111 34)).toNatClampNeg x) 111 34 (.int (tvI (tF h 111 34) + 1)) = h3 at e
  have hF : ∀ b, b ≠ 34 → tF h3 111 b = tF h 111 b := fun b hb => (mI_o e hb).trans (by rw [tF_tSA])
  have h34 : tvI (tF h3 111 34) = tvI (tF h 111 34) + 1 := mI_x e
  have hA : tA h3 = fun p q => if p = 142 ∧ q = (tvI (tF h 111 34)).toNatClampNeg then x else tA h p q := e.2.2.2.1.trans (tA_tSA hf.cell _ _)
  have hr := hf.rg
  have e0 : (tvI (tF h 111 34)).toInt = ((tvI (tF h 111 34)).toNatClampNeg : Int) := by rw [zclE]; omega
  have hl := p.2.2.2.2.2.2.2.2.2
  have e1 := zincN e0 (by omega)
  have e2 : (tvI (tF h 111 34) + 1).toNatClampNeg = (tvI (tF h 111 34)).toNatClampNeg + 1 := zof_cl e1
  have hE : ∀ p, p ≠ 142 → tA h3 p = tA h p := fun p hp => by rw [hA]; funext q; exact if_neg (fun w => hp w.1)
  obtain ⟨a, b, c, d, e9, g, i, j, t1, t2⟩ := p
  have NN : tN h3 = tN h := e.2.2.2.2.trans (tN_tSA _ _ _ _)
  refine ⟨⟨e.1, fun p q z => (e.2.2.1 p q (fun w => z ⟨w.1, by unfold mFs; omega⟩)).trans (by rw [tF_tSA]), fun p _ _ z => hE p z, NN, mLo_p (hE 133 (by decide)) (hE 134 (by decide))⟩, ⟨(hF 29 (by decide)).trans a, ?_, ?_, ?_, ?_, ?_, ?_, ?_, by rw [NN]; exact t1, by rw [NN]; exact t2⟩, ?_, ?_, hF 32 (by decide)⟩
  · rw [hF 28 (by decide), hF 27 (by decide)]; exact b
  · rw [hF 33 (by decide)]; exact c
  · rw [hF 31 (by decide)]; exact d
  · rw [h34, e1]; omega
  · rw [hF 30 (by decide)]; exact g
  · intro q hq
    rw [NN] at hq
    rw [hA]
    show 0 ≤ (if 142 = 142 ∧ q = _ then x else tA h 142 q : Int32).toInt
    by_cases z : q = (tvI (tF h 111 34)).toNatClampNeg
    · rw [if_pos ⟨rfl, z⟩]; exact hx
    · rw [if_neg (fun w => z w.2)]; exact i q hq
  · exact j
  · unfold mSk
    rw [h34, e2, List.range_succ, List.map_append, List.reverse_append, hA]
    show [(if 142 = 142 ∧ (tvI (tF h 111 34)).toNatClampNeg = (tvI (tF h 111 34)).toNatClampNeg then x else _ : Int32).toNatClampNeg] ++ _ = _
    rw [if_pos ⟨rfl, rfl⟩]
    refine congrArg (fun z => x.toNatClampNeg :: z) (congrArg List.reverse (List.map_congr_left (fun i hi => ?_)))
    have hi := List.mem_range.mp hi
    show (if 142 = 142 ∧ i = _ then x else tA h 142 i : Int32).toNatClampNeg = _
    rw [if_neg (fun z => by omega)]
  · unfold ms mEn
    rw [hF 28 (by decide), hF 33 (by decide), hF 31 (by decide), hF 30 (by decide), hE 133 (by decide), hE 134 (by decide)]
/-- told on -/
theorem mEnt {s v : Int32} {k1 k2 : Nat} {i1 i2 : Int32} (hs : tSh h) (p : mP h) (h0 : 0 ≤ s.toInt ∧ 0 ≤ v.toInt) (hi1 : i1 = 500 * tvI (tF h 111 30) + tvI (tF h 111 31)) (hi2 : i2 = 500 * tvI (tF h 111 30) + tvI (tF h 111 31)) (f1 : tIn h 133 k1 i1) (f2 : tIn (tSA h 133 i1.toNatClampNeg s) 134 k2 i2) (f3 : tFd (tSA (tSA h 133 i1.toNatClampNeg s) 134 i2.toNatClampNeg v) 111 31) : mFr h (tSF (tSA (tSA h 133 i1.toNatClampNeg s) 134 i2.toNatClampNeg v) 111 31 (.int (tvI (tF h 111 31) + 1))) ∧ mP (tSF (tSA (tSA h 133 i1.toNatClampNeg s) 134 i2.toNatClampNeg v) 111 31 (.int (tvI (tF h 111 31) + 1))) ∧ mSk (tSF (tSA (tSA h 133 i1.toNatClampNeg s) 134 i2.toNatClampNeg v) 111 31 (.int (tvI (tF h 111 31) + 1))) = mSk h ∧ ms (tSF (tSA (tSA h 133 i1.toNatClampNeg s) 134 i2.toNatClampNeg v) 111 31 (.int (tvI (tF h 111 31) + 1))) = rU (mCode s.toNatClampNeg v.toNatClampNeg) (ms h) ∧ tF (tSF (tSA (tSA h 133 i1.toNatClampNeg s) 134 i2.toNatClampNeg v) 111 31 (.int (tvI (tF h 111 31) + 1))) 111 32 = tF h 111 32 := by
  have hw := hw_111_31 (x := tvI (tF h 111 31) + 1) f3 (tSh_SA (tSh_SA hs))
  have e := mSet_of f3 hw
  have hr := f1.rg
  generalize tSF (tSA (tSA h 133 i1.toNatClampNeg s) 134 i2.toNatClampNeg v) 111 31 (.int (tvI (tF h 111 31) + 1)) = h3 at e
  have hF : ∀ b, b ≠ 31 → tF h3 111 b = tF h 111 b := fun b hb => (mI_o e hb).trans (by rw [tF_tSA, tF_tSA])
  have h31 : tvI (tF h3 111 31) = tvI (tF h 111 31) + 1 := mI_x e
  have hA : tA h3 = fun p q => if p = 134 ∧ q = i2.toNatClampNeg then v else if p = 133 ∧ q = i1.toNatClampNeg then s else tA h p q := e.2.2.2.1.trans ((tA_tSA f2.cell _ _).trans (by rw [tA_tSA f1.cell]))
  obtain ⟨a, b, c, d, e9, g, i, j, t1, t2⟩ := p
  have n1 : (500 * tvI (tF h 111 30)).toInt = 500 * (tvI (tF h 111 30)).toInt := by
    rw [Int32.toInt_mul, show (500 : Int32).toInt = 500 from rfl]
    exact Int.bmod_eq_of_le (by show (-2147483648 : Int) ≤ 500 * (tvI (tF h 111 30)).toInt; omega) (by show 500 * (tvI (tF h 111 30)).toInt < (2147483648 : Int); omega)
  have n2 : i1.toInt = 500 * (tvI (tF h 111 30)).toInt + (tvI (tF h 111 31)).toInt := by
    rw [hi1, Int32.toInt_add, n1]
    exact Int.bmod_eq_of_le (by show (-2147483648 : Int) ≤ 500 * (tvI (tF h 111 30)).toInt + (tvI (tF h 111 31)).toInt; omega) (by show 500 * (tvI (tF h 111 30)).toInt + (tvI (tF h 111 31)).toInt < (2147483648 : Int); omega)
  have n3 : i1.toNatClampNeg = 500 * (tvI (tF h 111 30)).toNatClampNeg + (tvI (tF h 111 31)).toNatClampNeg := by
    rw [zclE, zclE, zclE, n2]
    omega
  have n4 : i2 = i1 := hi2.trans hi1.symm
  have e0 : (tvI (tF h 111 31)).toInt = ((tvI (tF h 111 31)).toNatClampNeg : Int) := by rw [zclE]; omega
  have e1 := zincN e0 (by omega)
  have e2 : (tvI (tF h 111 31) + 1).toNatClampNeg = (tvI (tF h 111 31)).toNatClampNeg + 1 := zof_cl e1
  have hE : ∀ p, p ≠ 133 → p ≠ 134 → tA h3 p = tA h p := fun p hp hq => by
    rw [hA]; funext q
    show (if p = 134 ∧ q = _ then v else if p = 133 ∧ q = _ then s else tA h p q) = _
    rw [if_neg (fun w => hq w.1), if_neg (fun w => hp w.1)]
  have hS : tA h3 133 = fun q => if q = i1.toNatClampNeg then s else tA h 133 q := by
    rw [hA]; funext q
    show (if 133 = 134 ∧ q = _ then v else if 133 = 133 ∧ q = _ then s else tA h 133 q) = _
    rw [if_neg (fun w => absurd w.1 (by decide))]
    by_cases z : q = i1.toNatClampNeg
    · rw [if_pos ⟨rfl, z⟩, if_pos z]
    · rw [if_neg (fun w => z w.2), if_neg z]
  have hV : tA h3 134 = fun q => if q = i1.toNatClampNeg then v else tA h 134 q := by
    rw [hA]; funext q
    show (if 134 = 134 ∧ q = i2.toNatClampNeg then v else if 134 = 133 ∧ q = _ then s else tA h 134 q) = _
    rw [n4]
    by_cases z : q = i1.toNatClampNeg
    · rw [if_pos ⟨rfl, z⟩, if_pos z]
    · rw [if_neg (fun w => z w.2), if_neg z, if_neg (fun w => absurd w.1 (by decide))]
  have NN : tN h3 = tN h := e.2.2.2.2.trans ((tN_tSA _ _ _ _).trans (tN_tSA _ _ _ _))
  refine ⟨⟨e.1, fun p q z => (e.2.2.1 p q (fun w => z ⟨w.1, by unfold mFs; omega⟩)).trans (by rw [tF_tSA, tF_tSA]), fun p z y _ => hE p z y, NN, fun q hq => ⟨by rw [hS]; exact if_neg (by rw [n3]; omega), by rw [hV]; exact if_neg (by rw [n3]; omega)⟩⟩, ⟨(hF 29 (by decide)).trans a, ?_, ?_, ?_, ?_, ?_, ?_, ?_, by rw [NN]; exact t1, by rw [NN]; exact t2⟩, ?_, ?_, hF 32 (by decide)⟩
  · rw [hF 28 (by decide), hF 27 (by decide)]; exact b
  · rw [hF 33 (by decide)]; exact c
  · rw [h31, e1]; constructor <;> omega
  · rw [hF 34 (by decide)]; exact e9
  · rw [hF 30 (by decide)]; exact g
  · rw [hE 142 (by decide) (by decide), NN]; exact i
  · exact j
  · unfold mSk
    rw [hF 34 (by decide), hE 142 (by decide) (by decide)]
  · unfold ms rU mEn
    rw [hF 28 (by decide), hF 33 (by decide), hF 30 (by decide), h31, e2, List.range_succ, List.map_append, hS, hV]
    refine Prod.ext rfl (Prod.ext rfl ?_)
    show List.map _ _ ++ [mCode _ _] = List.map _ _ ++ [_]
    refine congr (congrArg HAppend.hAppend (List.map_congr_left (fun i hi => ?_))) ?_
    · have hi := List.mem_range.mp hi
      dsimp only
      rw [if_neg (by rw [n3]; omega), if_neg (by rw [n3]; omega)]
    · show [mCode (if _ = i1.toNatClampNeg then s else _ : Int32).toNatClampNeg (if _ = i1.toNatClampNeg then v else _ : Int32).toNatClampNeg] = _
      rw [if_pos n3.symm, if_pos n3.symm]
/-- a whole step's frame -/
noncomputable def mFq (h h2 : zH) : Prop := tSh h2 ∧ (∀ p b, ¬ (p = 111 ∧ (mFs b ∨ b = 46)) → tF h2 p b = tF h p b) ∧ (∀ p, p ≠ 133 → p ≠ 134 → p ≠ 142 → tA h2 p = tA h p) ∧ tN h2 = tN h ∧ mLo h h2
theorem mFq_f (k : mFr h h2) : mFq h h2 := ⟨k.1, fun p b z => k.2.1 p b (fun w => z ⟨w.1, Or.inl w.2⟩), k.2.2.1, k.2.2.2⟩
theorem mFq_t (a : mFq h h1) (k : mFq h1 h2) : mFq h h2 := ⟨k.1, fun p q z => (k.2.1 p q z).trans (a.2.1 p q z), fun p z w y => (k.2.2.1 p z w y).trans (a.2.2.1 p z w y), k.2.2.2.1.trans a.2.2.2.1, mLo_t (a.2.1 111 30 (fun z => by have z := z.2; unfold mFs at z; omega)) a.2.2.2.2 k.2.2.2.2⟩
theorem mFq_s (a : mFq h h1) (k : mSet b X h1 h2) (hb : mFs b ∨ b = 46) : mFq h h2 := ⟨k.1, fun p q z => (k.2.2.1 p q (fun w => z ⟨w.1, w.2.symm ▸ hb⟩)).trans (a.2.1 p q z), fun p z w y => (congrFun k.2.2.2.1 p).trans (a.2.2.1 p z w y), k.2.2.2.2.trans a.2.2.2.1, mLo_A k.2.2.2.1 a.2.2.2.2⟩
theorem mFq_T (a : mFq h h1) : tA h1 132 = tA h 132 := a.2.2.1 132 (by decide) (by decide) (by decide)
theorem mFq_n (a : mFq h h1) : mn h1 = mn h := by
  unfold mn
  rw [a.2.1 111 27 (fun z => by have z := z.2; unfold mFs at z; omega)]
noncomputable def mFw (h h2 : zH) : Prop := tSh h2 ∧ (∀ p b, ¬ (p = 111 ∧ (mFs b ∨ b = 46 ∨ b = 47)) → tF h2 p b = tF h p b) ∧ (∀ p, p ≠ 133 → p ≠ 134 → p ≠ 142 → tA h2 p = tA h p) ∧ tN h2 = tN h ∧ mLo h h2
theorem mFw_q (k : mFq h h2) : mFw h h2 := ⟨k.1, fun p b z => k.2.1 p b (fun w => z ⟨w.1, w.2.elim Or.inl (fun y => Or.inr (Or.inl y))⟩), k.2.2.1, k.2.2.2⟩
theorem mFw_t (a : mFw h h1) (k : mFw h1 h2) : mFw h h2 := ⟨k.1, fun p q z => (k.2.1 p q z).trans (a.2.1 p q z), fun p z w y => (k.2.2.1 p z w y).trans (a.2.2.1 p z w y), k.2.2.2.1.trans a.2.2.2.1, mLo_t (a.2.1 111 30 (fun z => by have z := z.2; unfold mFs at z; omega)) a.2.2.2.2 k.2.2.2.2⟩
theorem mFw_s (a : mFw h h1) (k : mSet b X h1 h2) (hb : mFs b ∨ b = 46 ∨ b = 47) : mFw h h2 := ⟨k.1, fun p q z => (k.2.2.1 p q (fun w => z ⟨w.1, w.2.symm ▸ hb⟩)).trans (a.2.1 p q z), fun p z w y => (congrFun k.2.2.2.1 p).trans (a.2.2.1 p z w y), k.2.2.2.2.trans a.2.2.2.1, mLo_A k.2.2.2.1 a.2.2.2.2⟩
theorem mFw_T (a : mFw h h1) : tA h1 132 = tA h 132 := a.2.2.1 132 (by decide) (by decide) (by decide)
theorem mFw_i {q : Nat} (a : mFw h h1) (hq : ¬ (mFs q ∨ q = 46 ∨ q = 47)) : tF h1 111 q = tF h 111 q := a.2.1 111 q (fun z => hq z.2)
theorem mFq_47 (a : mFq h h1) : tF h1 111 47 = tF h 111 47 := a.2.1 111 47 (fun z => by have z := z.2; unfold mFs at z; omega)
theorem mFw_27 (a : mFw h h1) : tF h1 111 27 = tF h 111 27 := mFw_i a (fun z => by unfold mFs at z; omega)
theorem mFw_n (a : mFw h h1) : mn h1 = mn h := by
  unfold mn
  rw [mFw_27 a]
noncomputable def stN (x : Int32) : Nat := if x.toInt < 0 then 99 else x.toInt.toNat
noncomputable def mst (h : zH) : rMs := (stN (tvI (tF h 111 46)), mSk h, ms h)
end MF
/-- a byte, or -1 behind the end -/
noncomputable def sgm (T : Nat → Int32) (n p : Nat) (c : Int32) : Prop := (p < n ∧ c = T p) ∨ (¬ p < n ∧ c = -1)
theorem sgm_k {T : Nat → Int32} {n p : Nat} {c : Int32} (s : sgm T n p c) (k : Int32) (hk : 0 ≤ k.toInt) : c = k ↔ p < n ∧ T p = k := by
  rcases s with ⟨a, rfl⟩ | ⟨a, rfl⟩
  · exact ⟨fun z => ⟨a, z⟩, fun z => z.2⟩
  · exact ⟨fun z => by rw [← z] at hk; exact absurd hk (by decide), fun z => absurd z.1 a⟩
theorem sgm_d {T : Nat → Int32} {n p : Nat} {c : Int32} (s : sgm T n p c) : (48 ≤ c.toInt ∧ c.toInt ≤ 57) ↔ (p < n ∧ 48 ≤ (T p).toInt ∧ (T p).toInt ≤ 57) := by
  rcases s with ⟨a, rfl⟩ | ⟨a, rfl⟩
  · exact ⟨fun z => ⟨a, z⟩, fun z => z.2⟩
  · have : ((-1 : Int32)).toInt = -1 := by decide
    exact ⟨fun z => by omega, fun z => absurd z.1 a⟩
theorem mpos {h : zH} (hf : 0 ≤ (tvI (tF h 111 28)).toInt ∧ 0 ≤ (tvI (tF h 111 27)).toInt) : ((tvI (tF h 111 28)).toInt < (tvI (tF h 111 27)).toInt) ↔ (ms h).1 < mn h := by
  show _ ↔ (tvI (tF h 111 28)).toNatClampNeg < (tvI (tF h 111 27)).toNatClampNeg
  rw [zclE, zclE]
  omega
theorem g_sign {G : zG} (hG : G.1 = zProg) (hX : G.2.1 = ztx) {h : zH} {T : Nat → Int32} {n : Nat} (hs : tSh h) (hT : tA h 132 = T) (hN : mn h = n) (h0 : 0 ≤ (tvI (tF h 111 28)).toInt ∧ 0 ≤ (tvI (tF h 111 27)).toInt) : tC zTt G 202 [.ref 111] h (fun w h2 => (∃ c, w = some (.int c) ∧ sgm T n (ms h).1 c) ∧ h = h2) := by
  refine tC_in (by rw [hG]; rfl) (fun dp => ?_)
  have g0 := mFr_r hs
  refine tw_aload rfl rfl ?_
  refine tw_getS rfl (hi_111_28 hs) ?_
  refine tw_aload rfl rfl ?_
  refine tw_getS rfl (hi_111_27 hs) ?_
  refine tw_ic_ge rfl (fun q249 => ?_) (fun q249 => ?_)
  · try dsimp only [tvI_i, tvJ_j, tvR_r] at q249
    refine tw_push rfl ?_
    exact tw_iret rfl ⟨⟨_, rfl, Or.inr ⟨fun z => absurd ((mpos h0).mpr (by rw [hN]; exact z)) (Int.not_lt.mpr q249), rfl⟩⟩, rfl⟩
  · try dsimp only [tvI_i, tvJ_j, tvR_r] at q249
    refine tw_aload rfl rfl ?_
    refine tw_getS rfl (hs_111_35 hs) ?_
    refine tw_aload rfl rfl ?_
    refine tw_getS rfl (hi_111_28 hs) ?_
    refine tw_bald rfl (fun f250 => ?_)
    refine tw_goto rfl ?_
    exact tw_iret rfl ⟨⟨_, rfl, Or.inl ⟨by rw [← hN]; exact (mpos h0).mp q249, congrFun hT _⟩⟩, rfl⟩
theorem g_isDigit {G : zG} (hG : G.1 = zProg) {h : zH} {c : Int32} : tC zTt G 204 [.int c] h (fun w h2 => tBo (48 ≤ c.toInt ∧ c.toInt ≤ 57) w ∧ h = h2) := by
  refine tC_in (by rw [hG]; rfl) (fun dp => ?_)
  refine tw_iload rfl rfl ?_
  refine tw_push rfl ?_
  refine tw_ic_lt rfl (fun q251 => ?_) (fun q251 => ?_)
  · try dsimp only [tvI_i, tvJ_j, tvR_r] at q251
    refine tw_push rfl ?_
    have c489 : (48 : Int32).toInt = 48 := rfl
    have c579 : (57 : Int32).toInt = 57 := rfl
    exact tw_iret rfl ⟨Or.inr ⟨by omega, rfl⟩, rfl⟩
  · try dsimp only [tvI_i, tvJ_j, tvR_r] at q251
    refine tw_iload rfl rfl ?_
    refine tw_push rfl ?_
    refine tw_ic_gt rfl (fun q252 => ?_) (fun q252 => ?_)
    · try dsimp only [tvI_i, tvJ_j, tvR_r] at q252
      refine tw_push rfl ?_
      have c489 : (48 : Int32).toInt = 48 := rfl
      have c579 : (57 : Int32).toInt = 57 := rfl
      exact tw_iret rfl ⟨Or.inr ⟨by omega, rfl⟩, rfl⟩
    · try dsimp only [tvI_i, tvJ_j, tvR_r] at q252
      refine tw_push rfl ?_
      refine tw_goto rfl ?_
      have c489 : (48 : Int32).toInt = 48 := rfl
      have c579 : (57 : Int32).toInt = 57 := rfl
      exact tw_iret rfl ⟨Or.inl ⟨by omega, rfl⟩, rfl⟩
theorem g_blanks {G : zG} (hG : G.1 = zProg) (hX : G.2.1 = ztx) {h : zH} {T : Nat → Int32} {n : Nat} (hs : tSh h) (hp : mP h) (hT : tA h 132 = T) (hN : mn h = n)  : tC zTt G 203 [.ref 111] h (fun w h2 => w = none ∧ mFr h h2 ∧ mP h2 ∧ ms h2 = rA (rB T n (ms h).1) (ms h) ∧ mSk h2 = mSk h ∧ tF h2 111 32 = tF h 111 32) := by
  refine tC_in (by rw [hG]; rfl) (fun dp => ?_)
  have g0 := mFr_r hs
  have hpn : (ms h).1 ≤ n := mPle hp hN
  refine tG_loop (zW_mono zTt G dp) (zW_conj zTt G dp) (V := fun pc L st h9 _ _ => pc = 0 ∧ st = [] ∧ ∃ h1, h1 = h9 ∧ mFr h h1 ∧ mP h1 ∧ (ms h1).2 = (ms h).2 ∧ mSk h1 = mSk h ∧ tF h1 111 32 = tF h 111 32 ∧ rB T n (ms h1).1 = rB T n (ms h).1 ∧ L = [some (.ref 111)]) ?_ (⟨rfl, rfl, _, rfl, g0, hp, rfl, rfl, rfl, rfl, rfl⟩)
  rintro _ _ _ _ _ _ ⟨rfl, rfl, h1, rfl, g1, p1, e1, e2, e3, e4, rfl⟩
  refine tw_aload rfl rfl ?_
  refine tw_virt0 rfl (g_sign hG hX (g1).1 ((mFr_T g1).trans hT) ((mFr_n g1).trans hN) ⟨p1.2.1.1, by have := p1.2.1; omega⟩) (fun wp253 hp253 p253 => ?_)
  obtain ⟨⟨cp253, rfl, kp253⟩, rfl⟩ := p253
  refine tw_push rfl ?_
  refine tw_ic_ne rfl (fun q254 => ?_) (fun q254 => ?_)
  · try dsimp only [tvI_i, tvJ_j, tvR_r] at q254
    have q254i := zneq (Y := 32) (by decide) q254
    have hb : (ms h1).1 = rB T n (ms h).1 := by rw [← e4, rB_n (fun z => q254 ((sgm_k kp253 32 (by decide)).mpr z))]
    exact tw_vret rfl ⟨rfl, g1, p1, Prod.ext hb e1, e2, e3⟩
  · try dsimp only [tvI_i, tvJ_j, tvR_r] at q254
    have q254i := zeqi (Y := 32) (by decide) q254
    refine tw_aload rfl rfl ?_
    refine tw_dup rfl ?_
    refine tw_getS rfl (hi_111_28 (g1).1) ?_
    refine tw_push rfl ?_
    refine tw_iadd rfl ?_
    refine tw_put rfl (fun f255 => ?_)
    refine tG_setm f255 (hw_111_28 f255 (g1).1) (fun hf255 ef255 => ?_)
    try dsimp only [tvI_i] at ef255
    have gf255 := mFr_s g1 ef255 (by unfold mFs; omega)
    have wf255 := (sgm_k kp253 32 (by decide)).mp q254
    obtain ⟨pf255, sf255, tf255⟩ := mTo p1 ((mFr_n g1).trans hN) ef255 (v := (ms h1).1 + 1) (zincN (mPl p1) (by have := mPle p1 ((mFr_n g1).trans hN); have := p1.2.1; have := mNl p1 ((mFr_n g1).trans hN); omega)) wf255.1
    refine tw_goto rfl ?_
    exact tG_cut (zW_mono zTt G dp) (Or.inr ⟨rfl, rfl, _, rfl, gf255, pf255, (by rw [sf255]; exact e1), tf255.trans e2, (mI_o ef255 (by decide)).trans e3, (by rw [sf255]; exact (rB_y wf255).symm.trans e4), rfl⟩)
theorem z_blanks {G : zG} (hG : G.1 = zProg) (hX : G.2.1 = ztx) {h : zH} {T : Nat → Int32} {n : Nat} (hs : tSh h) {ef : Nat} (hp : mFt h ef) (hT : tA h 132 = T) (hN : mn h = n) (h0 : 0 ≤ (tvI (tF h 111 28)).toInt ∧ 0 ≤ (tvI (tF h 111 27)).toInt) : tC zTt G 203 [.ref 111] h (fun w h2 => w = none ∧ mFr h h2 ∧ mFt h2 ef ∧ (0 ≤ (tvI (tF h2 111 28)).toInt ∧ 0 ≤ (tvI (tF h2 111 27)).toInt)) := by
  refine tC_in (by rw [hG]; rfl) (fun dp => ?_)
  have g0 := mFr_r hs
  refine tG_loop (zW_mono zTt G dp) (zW_conj zTt G dp) (V := fun pc L st h9 _ _ => pc = 0 ∧ st = [] ∧ ∃ h1, h1 = h9 ∧ mFr h h1 ∧ mFt h1 ef ∧ (0 ≤ (tvI (tF h1 111 28)).toInt ∧ 0 ≤ (tvI (tF h1 111 27)).toInt) ∧ L = [some (.ref 111)]) ?_ (⟨rfl, rfl, _, rfl, g0, hp, h0, rfl⟩)
  rintro _ _ _ _ _ _ ⟨rfl, rfl, h1, rfl, g1, z1, h0, rfl⟩
  refine tw_aload rfl rfl ?_
  refine tw_virt0 rfl (g_sign hG hX (g1).1 ((mFr_T g1).trans hT) ((mFr_n g1).trans hN) h0) (fun wp256 hp256 p256 => ?_)
  obtain ⟨⟨cp256, rfl, kp256⟩, rfl⟩ := p256
  refine tw_push rfl ?_
  refine tw_ic_ne rfl (fun q257 => ?_) (fun q257 => ?_)
  · try dsimp only [tvI_i, tvJ_j, tvR_r] at q257
    have q257i := zneq (Y := 32) (by decide) q257
    exact tw_vret rfl ⟨rfl, g1, z1, h0⟩
  · try dsimp only [tvI_i, tvJ_j, tvR_r] at q257
    have q257i := zeqi (Y := 32) (by decide) q257
    refine tw_aload rfl rfl ?_
    refine tw_dup rfl ?_
    refine tw_getS rfl (hi_111_28 (g1).1) ?_
    refine tw_push rfl ?_
    refine tw_iadd rfl ?_
    refine tw_put rfl (fun f258 => ?_)
    refine tG_setm f258 (hw_111_28 f258 (g1).1) (fun hf258 ef258 => ?_)
    try dsimp only [tvI_i] at ef258
    have gf258 := mFr_s g1 ef258 (by unfold mFs; omega)
    have zf258 := mFt_s z1 ef258 (by decide)
    have wf258 := (sgm_k kp256 32 (by decide)).mp q257
    have if258 : 0 ≤ (tvI (tF hf258 111 28)).toInt ∧ 0 ≤ (tvI (tF hf258 111 27)).toInt := by rw [mI_x ef258, mI_o ef258 (by decide)]; have y := (mpos h0).mpr (by rw [((mFr_n g1).trans hN)]; exact wf258.1); exact ⟨by rw [zj1 h0.1 y]; omega, h0.2⟩
    refine tw_goto rfl ?_
    exact tG_cut (zW_mono zTt G dp) (Or.inr ⟨rfl, rfl, _, rfl, gf258, zf258, if258, rfl⟩)
theorem g_fails {G : zG} (hG : G.1 = zProg) (hX : G.2.1 = ztx) {h : zH} {T : Nat → Int32} {n : Nat} (hs : tSh h) (hp : mP h) (hT : tA h 132 = T) (hN : mn h = n) {y a : Int32} {w b : Nat} (hw : y.toInt = w) (hw7 : w ≤ 7) (hb : a.toInt = b) (hb4 : b ≤ 400) : tC zTt G 201 [.ref 111, .int y, .int a] h (fun w9 h2 => w9 = none ∧ mFr h h2 ∧ mFt h2 (1 + 8 * b + w) ∧ tF h2 111 28 = tF h 111 28 ∧ tF h2 111 27 = tF h 111 27) := by
  refine tC_in (by rw [hG]; rfl) (fun dp => ?_)
  have g0 := mFr_r hs
  have hpn : (ms h).1 ≤ n := mPle hp hN
  refine tw_aload rfl rfl ?_
  refine tw_aload rfl rfl ?_
  refine tw_getS rfl (hi_111_29 hs) ?_
  refine tw_if_ne rfl (fun q259 => ?_) (fun q259 => ?_)
  · try dsimp only [tvI_i, tvJ_j, tvR_r] at q259
    have q259i := zneq (Y := 0) (by decide) q259
    refine tw_aload rfl rfl ?_
    refine tw_getS rfl (hi_111_29 hs) ?_
    refine tw_put rfl (fun f260 => ?_)
    refine tG_setm f260 (hw_111_29 f260 (g0).1) (fun hf260 ef260 => ?_)
    try dsimp only [tvI_i] at ef260
    have gf260 := mFr_s g0 ef260 (by unfold mFs; omega)
    exact absurd (mP_0 hp) q259
  · try dsimp only [tvI_i, tvJ_j, tvR_r] at q259
    have q259i := zeqi (Y := 0) (by decide) q259
    refine tw_push rfl ?_
    refine tw_push rfl ?_
    refine tw_iload rfl rfl ?_
    refine tw_imul rfl ?_
    refine tw_iadd rfl ?_
    refine tw_iload rfl rfl ?_
    refine tw_iadd rfl ?_
    refine tw_goto rfl ?_
    refine tw_put rfl (fun f261 => ?_)
    refine tG_setm f261 (hw_111_29 f261 (g0).1) (fun hf261 ef261 => ?_)
    try dsimp only [tvI_i] at ef261
    have gf261 := mFr_s g0 ef261 (by unfold mFs; omega)
    exact tw_vret rfl ⟨rfl, gf261, mFt_of ef261 hb hb4 hw hw7, mI_o ef261 (by decide), mI_o ef261 (by decide)⟩
theorem z_fails {G : zG} (hG : G.1 = zProg) (hX : G.2.1 = ztx) {h : zH} {T : Nat → Int32} {n : Nat} (hs : tSh h) {ef : Nat} (hp : mFt h ef) (hT : tA h 132 = T) (hN : mn h = n) {y a : Int32} : tC zTt G 201 [.ref 111, .int y, .int a] h (fun w9 h2 => w9 = none ∧ mFr h h2 ∧ mFt h2 ef ∧ tF h2 111 28 = tF h 111 28 ∧ tF h2 111 27 = tF h 111 27) := by
  refine tC_in (by rw [hG]; rfl) (fun dp => ?_)
  have g0 := mFr_r hs
  refine tw_aload rfl rfl ?_
  refine tw_aload rfl rfl ?_
  refine tw_getS rfl (hi_111_29 hs) ?_
  refine tw_if_ne rfl (fun q262 => ?_) (fun q262 => ?_)
  · try dsimp only [tvI_i, tvJ_j, tvR_r] at q262
    have q262i := zneq (Y := 0) (by decide) q262
    refine tw_aload rfl rfl ?_
    refine tw_getS rfl (hi_111_29 hs) ?_
    refine tw_put rfl (fun f263 => ?_)
    refine tG_setm f263 (hw_111_29 f263 (g0).1) (fun hf263 ef263 => ?_)
    try dsimp only [tvI_i] at ef263
    have gf263 := mFr_s g0 ef263 (by unfold mFs; omega)
    have hz : mFt hf263 ef := ⟨ef263.2.1.trans ((hi_111_29 hs).symm.trans hp.1), hp.2⟩
    exact tw_vret rfl ⟨rfl, gf263, hz, mI_o ef263 (by decide), mI_o ef263 (by decide)⟩
  · try dsimp only [tvI_i, tvJ_j, tvR_r] at q262
    have q262i := zeqi (Y := 0) (by decide) q262
    refine tw_push rfl ?_
    refine tw_push rfl ?_
    refine tw_iload rfl rfl ?_
    refine tw_imul rfl ?_
    refine tw_iadd rfl ?_
    refine tw_iload rfl rfl ?_
    refine tw_iadd rfl ?_
    refine tw_goto rfl ?_
    refine tw_put rfl (fun f264 => ?_)
    refine tG_setm f264 (hw_111_29 f264 (g0).1) (fun hf264 ef264 => ?_)
    try dsimp only [tvI_i] at ef264
    have gf264 := mFr_s g0 ef264 (by unfold mFs; omega)
    exact absurd q262 (mFt_n hp)
theorem mpos_k {h h2 : zH} (h0 : 0 ≤ (tvI (tF h 111 28)).toInt ∧ 0 ≤ (tvI (tF h 111 27)).toInt) (a : tF h2 111 28 = tF h 111 28) (b : tF h2 111 27 = tF h 111 27) : 0 ≤ (tvI (tF h2 111 28)).toInt ∧ 0 ≤ (tvI (tF h2 111 27)).toInt := by rw [a, b]; exact h0
theorem mpos_p {h : zH} (p : mP h) : 0 ≤ (tvI (tF h 111 28)).toInt ∧ 0 ≤ (tvI (tF h 111 27)).toInt := by have := p.2.1; exact ⟨by omega, by omega⟩
theorem m80 {h : zH} (p : mP h) (q : tvI (tF h 111 33) = 80) : (ms h).2.1 = 80 := by
  have e := mCl p
  rw [q] at e
  have : (80 : Int32).toInt = 80 := rfl
  omega
theorem mn80 {h : zH} (p : mP h) (q : ¬ tvI (tF h 111 33) = 80) : (ms h).2.1 ≠ 80 := by
  intro z
  have e := mCl p
  refine q (Int32.toInt_inj.mp ?_)
  have : (80 : Int32).toInt = 80 := rfl
  omega
theorem g_entry {G : zG} (hG : G.1 = zProg) (hX : G.2.1 = ztx) {h : zH} {T : Nat → Int32} {n : Nat} (hs : tSh h) (hp : mP h) (hT : tA h 132 = T) (hN : mn h = n) {s v : Int32} (hv : 0 ≤ s.toInt ∧ 0 ≤ v.toInt) : tC zTt G 206 [.ref 111, .int s, .int v] h (fun w h2 => w = none ∧ mFr h h2 ∧ mP h2 ∧ ms h2 = rU (mCode s.toNatClampNeg v.toNatClampNeg) (ms h) ∧ mSk h2 = mSk h ∧ tF h2 111 32 = tF h 111 32) := by
  refine tC_in (by rw [hG]; rfl) (fun dp => ?_)
  have g0 := mFr_r hs
  have hpn : (ms h).1 ≤ n := mPle hp hN
  refine tw_aload rfl rfl ?_
  refine tw_getS rfl (hi_111_29 hs) ?_
  refine tw_if_ne rfl (fun q265 => ?_) (fun q265 => ?_)
  · try dsimp only [tvI_i, tvJ_j, tvR_r] at q265
    have q265i := zneq (Y := 0) (by decide) q265
    exact absurd (mP_0 hp) q265
  · try dsimp only [tvI_i, tvJ_j, tvR_r] at q265
    have q265i := zeqi (Y := 0) (by decide) q265
    refine tw_aload rfl rfl ?_
    refine tw_getS rfl (hs_111_36 hs) ?_
    refine tw_push rfl ?_
    refine tw_aload rfl rfl ?_
    refine tw_getS rfl (hi_111_30 hs) ?_
    refine tw_imul rfl ?_
    refine tw_aload rfl rfl ?_
    refine tw_getS rfl (hi_111_31 hs) ?_
    refine tw_iadd rfl ?_
    refine tw_iload rfl rfl ?_
    refine tw_iast rfl (fun f266 => ?_)
    refine tw_aload rfl rfl ?_
    refine tw_getS rfl (hs_111_37 (tSh_SA hs)) ?_
    refine tw_push rfl ?_
    refine tw_aload rfl rfl ?_
    refine tw_getS rfl (tF_a (hi_111_30 hs)) ?_
    refine tw_imul rfl ?_
    refine tw_aload rfl rfl ?_
    refine tw_getS rfl (tF_a (hi_111_31 hs)) ?_
    refine tw_iadd rfl ?_
    refine tw_iload rfl rfl ?_
    refine tw_iast rfl (fun f267 => ?_)
    refine tw_aload rfl rfl ?_
    refine tw_dup rfl ?_
    refine tw_getS rfl (tF_a (tF_a (hi_111_31 hs))) ?_
    refine tw_push rfl ?_
    refine tw_iadd rfl ?_
    refine tw_put rfl (fun f268 => ?_)
    have K := mEnt (s := s) (v := v) hs hp hv rfl rfl f266 f267 f268
    exact tw_vret rfl ⟨rfl, K.1, K.2.1, K.2.2.2.1, K.2.2.1, K.2.2.2.2⟩
theorem z_entry {G : zG} (hG : G.1 = zProg) (hX : G.2.1 = ztx) {h : zH} {T : Nat → Int32} {n : Nat} (hs : tSh h) {ef : Nat} (hp : mFt h ef) (hT : tA h 132 = T) (hN : mn h = n) {s v : Int32} : tC zTt G 206 [.ref 111, .int s, .int v] h (fun w h2 => w = none ∧ h2 = h) := by
  refine tC_in (by rw [hG]; rfl) (fun dp => ?_)
  have g0 := mFr_r hs
  refine tw_aload rfl rfl ?_
  refine tw_getS rfl (hi_111_29 hs) ?_
  refine tw_if_ne rfl (fun q269 => ?_) (fun q269 => ?_)
  · try dsimp only [tvI_i, tvJ_j, tvR_r] at q269
    have q269i := zneq (Y := 0) (by decide) q269
    exact tw_vret rfl ⟨rfl, rfl⟩
  · try dsimp only [tvI_i, tvJ_j, tvR_r] at q269
    have q269i := zeqi (Y := 0) (by decide) q269
    refine tw_aload rfl rfl ?_
    refine tw_getS rfl (hs_111_36 hs) ?_
    refine tw_push rfl ?_
    refine tw_aload rfl rfl ?_
    refine tw_getS rfl (hi_111_30 hs) ?_
    refine tw_imul rfl ?_
    refine tw_aload rfl rfl ?_
    refine tw_getS rfl (hi_111_31 hs) ?_
    refine tw_iadd rfl ?_
    refine tw_iload rfl rfl ?_
    refine tw_iast rfl (fun f270 => ?_)
    refine tw_aload rfl rfl ?_
    refine tw_getS rfl (hs_111_37 (tSh_SA hs)) ?_
    refine tw_push rfl ?_
    refine tw_aload rfl rfl ?_
    refine tw_getS rfl (tF_a (hi_111_30 hs)) ?_
    refine tw_imul rfl ?_
    refine tw_aload rfl rfl ?_
    refine tw_getS rfl (tF_a (hi_111_31 hs)) ?_
    refine tw_iadd rfl ?_
    refine tw_iload rfl rfl ?_
    refine tw_iast rfl (fun f271 => ?_)
    refine tw_aload rfl rfl ?_
    refine tw_dup rfl ?_
    refine tw_getS rfl (tF_a (tF_a (hi_111_31 hs))) ?_
    refine tw_push rfl ?_
    refine tw_iadd rfl ?_
    refine tw_put rfl (fun f272 => ?_)
    exact absurd q269 (mFt_n hp)
theorem g_counts {G : zG} (hG : G.1 = zProg) (hX : G.2.1 = ztx) {h : zH} {T : Nat → Int32} {n : Nat} (hs : tSh h) (hp : mP h) (hT : tA h 132 = T) (hN : mn h = n) {a : Int32} {b : Nat} (hb : a.toInt = b) (hb4 : b ≤ 400) : tC zTt G 207 [.ref 111, .int a] h (fun w h2 => w = none ∧ mFr h h2 ∧ (((ms h).2.1 ≠ 80 ∧ mP h2 ∧ ms h2 = ((ms h).1, (ms h).2.1 + 1, (ms h).2.2) ∧ mSk h2 = mSk h ∧ tF h2 111 32 = tF h 111 32) ∨ ((ms h).2.1 = 80 ∧ mFt h2 (1 + 8 * b + 3))) ∧ tF h2 111 28 = tF h 111 28 ∧ tF h2 111 27 = tF h 111 27) := by
  refine tC_in (by rw [hG]; rfl) (fun dp => ?_)
  have g0 := mFr_r hs
  have hpn : (ms h).1 ≤ n := mPle hp hN
  refine tw_aload rfl rfl ?_
  refine tw_getS rfl (hi_111_33 hs) ?_
  refine tw_push rfl ?_
  refine tw_ic_ne rfl (fun q273 => ?_) (fun q273 => ?_)
  · try dsimp only [tvI_i, tvJ_j, tvR_r] at q273
    have q273i := zneq (Y := 80) (by decide) q273
    refine tw_aload rfl rfl ?_
    refine tw_dup rfl ?_
    refine tw_getS rfl (hi_111_33 hs) ?_
    refine tw_push rfl ?_
    refine tw_iadd rfl ?_
    refine tw_put rfl (fun f274 => ?_)
    refine tG_setm f274 (hw_111_33 f274 (g0).1) (fun hf274 ef274 => ?_)
    try dsimp only [tvI_i] at ef274
    have gf274 := mFr_s g0 ef274 (by unfold mFs; omega)
    obtain ⟨pf274, sf274, tf274⟩ := mCnt hp (mn80 hp q273) ef274
    exact tw_vret rfl ⟨rfl, gf274, Or.inl ⟨mn80 hp q273, pf274, sf274, tf274, mI_o ef274 (by decide)⟩, mI_o ef274 (by decide), mI_o ef274 (by decide)⟩
  · try dsimp only [tvI_i, tvJ_j, tvR_r] at q273
    have q273i := zeqi (Y := 80) (by decide) q273
    refine tw_aload rfl rfl ?_
    refine tw_push rfl ?_
    refine tw_iload rfl rfl ?_
    refine tw_virt2 rfl (g_fails hG hX (g0).1 hp ((mFr_T g0).trans hT) ((mFr_n g0).trans hN) (w := 3) (b := b) rfl (by decide) hb hb4) (fun wp275 hp275 p275 => ?_)
    obtain ⟨rfl, gp275, Fp275, ip275, jp275⟩ := p275
    have ggp275 := mFr_t g0 gp275
    refine tw_aload rfl rfl ?_
    refine tw_dup rfl ?_
    refine tw_getS rfl (hi_111_33 ggp275.1) ?_
    refine tw_push rfl ?_
    refine tw_iadd rfl ?_
    refine tw_put rfl (fun f276 => ?_)
    refine tG_setm f276 (hw_111_33 f276 (ggp275).1) (fun hf276 ef276 => ?_)
    try dsimp only [tvI_i] at ef276
    have gf276 := mFr_s ggp275 ef276 (by unfold mFs; omega)
    have zf276 := mFt_s Fp275 ef276 (by decide)
    exact tw_vret rfl ⟨rfl, gf276, Or.inr ⟨m80 hp q273, zf276⟩, (mI_o ef276 (by decide)).trans ip275, (mI_o ef276 (by decide)).trans jp275⟩
theorem z_counts {G : zG} (hG : G.1 = zProg) (hX : G.2.1 = ztx) {h : zH} {T : Nat → Int32} {n : Nat} (hs : tSh h) {ef : Nat} (hp : mFt h ef) (hT : tA h 132 = T) (hN : mn h = n) {a : Int32} : tC zTt G 207 [.ref 111, .int a] h (fun w h2 => w = none ∧ mFr h h2 ∧ mFt h2 ef ∧ tF h2 111 28 = tF h 111 28 ∧ tF h2 111 27 = tF h 111 27) := by
  refine tC_in (by rw [hG]; rfl) (fun dp => ?_)
  have g0 := mFr_r hs
  refine tw_aload rfl rfl ?_
  refine tw_getS rfl (hi_111_33 hs) ?_
  refine tw_push rfl ?_
  refine tw_ic_ne rfl (fun q277 => ?_) (fun q277 => ?_)
  · try dsimp only [tvI_i, tvJ_j, tvR_r] at q277
    have q277i := zneq (Y := 80) (by decide) q277
    refine tw_aload rfl rfl ?_
    refine tw_dup rfl ?_
    refine tw_getS rfl (hi_111_33 hs) ?_
    refine tw_push rfl ?_
    refine tw_iadd rfl ?_
    refine tw_put rfl (fun f278 => ?_)
    refine tG_setm f278 (hw_111_33 f278 (g0).1) (fun hf278 ef278 => ?_)
    try dsimp only [tvI_i] at ef278
    have gf278 := mFr_s g0 ef278 (by unfold mFs; omega)
    have zf278 := mFt_s hp ef278 (by decide)
    exact tw_vret rfl ⟨rfl, gf278, zf278, mI_o ef278 (by decide), mI_o ef278 (by decide)⟩
  · try dsimp only [tvI_i, tvJ_j, tvR_r] at q277
    have q277i := zeqi (Y := 80) (by decide) q277
    refine tw_aload rfl rfl ?_
    refine tw_push rfl ?_
    refine tw_iload rfl rfl ?_
    refine tw_virt2 rfl (z_fails hG hX (g0).1 hp ((mFr_T g0).trans hT) ((mFr_n g0).trans hN)) (fun wp279 hp279 p279 => ?_)
    obtain ⟨rfl, gp279, Fp279, ip279, jp279⟩ := p279
    have ggp279 := mFr_t g0 gp279
    refine tw_aload rfl rfl ?_
    refine tw_dup rfl ?_
    refine tw_getS rfl (hi_111_33 ggp279.1) ?_
    refine tw_push rfl ?_
    refine tw_iadd rfl ?_
    refine tw_put rfl (fun f280 => ?_)
    refine tG_setm f280 (hw_111_33 f280 (ggp279).1) (fun hf280 ef280 => ?_)
    try dsimp only [tvI_i] at ef280
    have gf280 := mFr_s ggp279 ef280 (by unfold mFs; omega)
    have zf280 := mFt_s Fp279 ef280 (by decide)
    exact tw_vret rfl ⟨rfl, gf280, zf280, (mI_o ef280 (by decide)).trans ip279, (mI_o ef280 (by decide)).trans jp279⟩
theorem g_opens {G : zG} (hG : G.1 = zProg) (hX : G.2.1 = ztx) {h : zH} {T : Nat → Int32} {n : Nat} (hs : tSh h) (hp : mP h) (hT : tA h 132 = T) (hN : mn h = n) {x : Int32} (hx0 : 0 ≤ x.toInt) : tC zTt G 208 [.ref 111, .int x] h (fun w h2 => w = none ∧ mFr h h2 ∧ mP h2 ∧ mSk h2 = x.toNatClampNeg :: mSk h ∧ ms h2 = ms h ∧ tF h2 111 32 = tF h 111 32) := by
  refine tC_in (by rw [hG]; rfl) (fun dp => ?_)
  have g0 := mFr_r hs
  have hpn : (ms h).1 ≤ n := mPle hp hN
  refine tw_aload rfl rfl ?_
  refine tw_getS rfl (hs_111_45 hs) ?_
  refine tw_aload rfl rfl ?_
  refine tw_getS rfl (hi_111_34 hs) ?_
  refine tw_iload rfl rfl ?_
  refine tw_iast rfl (fun f281 => ?_)
  refine tw_aload rfl rfl ?_
  refine tw_dup rfl ?_
  refine tw_getS rfl (tF_a (hi_111_34 hs)) ?_
  refine tw_push rfl ?_
  refine tw_iadd rfl ?_
  refine tw_put rfl (fun f282 => ?_)
  have K := mPush (x := x) hs hp hx0 f281 f282
  exact tw_vret rfl ⟨rfl, K.1, K.2.1, K.2.2.1, K.2.2.2.1, K.2.2.2.2⟩
theorem mPushz {h : zH} {x : Int32} {kd ef : Nat} (hs : tSh h) (z : mFt h ef) (hf : tIn h 142 kd (tvI (tF h 111 34))) (hf2 : tFd (tSA h 142 (tvI (tF h 111 34)).toNatClampNeg x) 111 34) : mFr h (tSF (tSA h 142 (tvI (tF h 111 34)).toNatClampNeg x) 111 34 (.int (tvI (tF h 111 34) + 1))) ∧ mFt (tSF (tSA h 142 (tvI (tF h 111 34)).toNatClampNeg x) 111 34 (.int (tvI (tF h 111 34) + 1))) ef ∧ tF (tSF (tSA h 142 (tvI (tF h 111 34)).toNatClampNeg x) 111 34 (.int (tvI (tF h 111 34) + 1))) 111 28 = tF h 111 28 ∧ tF (tSF (tSA h 142 (tvI (tF h 111 34)).toNatClampNeg x) 111 34 (.int (tvI (tF h 111 34) + 1))) 111 27 = tF h 111 27 := by
  have hw := hw_111_34 (x := tvI (tF h 111 34) + 1) hf2 (tSh_SA hs)
  have e := mSet_of hf2 hw
  generalize tSF (tSA h 142 (tvI (tF h 111 34)).toNatClampNeg x) 111 34 (.int (tvI (tF h 111 34) + 1)) = h3 at e
  have hF : ∀ b, b ≠ 34 → tF h3 111 b = tF h 111 b := fun b hb => (mI_o e hb).trans (by rw [tF_tSA])
  refine ⟨⟨e.1, fun p q z => (e.2.2.1 p q (fun w => z ⟨w.1, by unfold mFs; omega⟩)).trans (by rw [tF_tSA]), fun p _ _ y => (congrFun e.2.2.2.1 p).trans (tA_nz y), e.2.2.2.2.trans (tN_tSA _ _ _ _), mLo_p ((congrFun e.2.2.2.1 133).trans (tA_nz (by decide))) ((congrFun e.2.2.2.1 134).trans (tA_nz (by decide)))⟩, ⟨(hF 29 (by decide)).trans z.1, z.2⟩, hF 28 (by decide), hF 27 (by decide)⟩
theorem z_opens {G : zG} (hG : G.1 = zProg) (hX : G.2.1 = ztx) {h : zH} {T : Nat → Int32} {n : Nat} (hs : tSh h) {ef : Nat} (hp : mFt h ef) (hT : tA h 132 = T) (hN : mn h = n) {x : Int32} : tC zTt G 208 [.ref 111, .int x] h (fun w h2 => w = none ∧ mFr h h2 ∧ mFt h2 ef ∧ tF h2 111 28 = tF h 111 28 ∧ tF h2 111 27 = tF h 111 27) := by
  refine tC_in (by rw [hG]; rfl) (fun dp => ?_)
  have g0 := mFr_r hs
  refine tw_aload rfl rfl ?_
  refine tw_getS rfl (hs_111_45 hs) ?_
  refine tw_aload rfl rfl ?_
  refine tw_getS rfl (hi_111_34 hs) ?_
  refine tw_iload rfl rfl ?_
  refine tw_iast rfl (fun f283 => ?_)
  refine tw_aload rfl rfl ?_
  refine tw_dup rfl ?_
  refine tw_getS rfl (tF_a (hi_111_34 hs)) ?_
  refine tw_push rfl ?_
  refine tw_iadd rfl ?_
  refine tw_put rfl (fun f284 => ?_)
  have K := mPushz (x := x) hs hp f283 f284
  exact tw_vret rfl ⟨rfl, K.1, K.2.1, K.2.2.1, K.2.2.2⟩
theorem mD10 {h : zH} (d : mD h) : tvI (tF h 111 32) = 10 ↔ mDp (mSk h) = 10 := by
  have d : (tvI (tF h 111 32)).toInt = (mDp (mSk h) : Int) := d
  have e : (10 : Int32).toInt = 10 := rfl
  constructor
  · intro z
    rw [z] at d
    omega
  · intro z
    refine Int32.toInt_inj.mp ?_
    omega
theorem mDp_c {c : Nat} {S : List Nat} (h : c = 50 ∨ c = 10 ∨ c = 13) : mDp (c :: S) = mDp S + 1 := if_pos h
theorem mDp_e {c : Nat} {S : List Nat} (h : ¬ (c = 50 ∨ c = 10 ∨ c = 13)) : mDp (c :: S) = mDp S := if_neg h
theorem g_opensDeep {G : zG} (hG : G.1 = zProg) (hX : G.2.1 = ztx) {h : zH} {T : Nat → Int32} {n : Nat} (hs : tSh h) (hp : mP h) (hT : tA h 132 = T) (hN : mn h = n) {x a : Int32} {b : Nat} (hx0 : 0 ≤ x.toInt) (hx : x.toNatClampNeg = 50 ∨ x.toNatClampNeg = 10 ∨ x.toNatClampNeg = 13) (hb : a.toInt = b) (hb4 : b ≤ 400) (hD : mD h) (hd10 : mDp (mSk h) ≤ 1000) : tC zTt G 209 [.ref 111, .int x, .int a] h (fun w h2 => w = none ∧ mFr h h2 ∧ ((mDp (mSk h) ≠ 10 ∧ mP h2 ∧ mSk h2 = x.toNatClampNeg :: mSk h ∧ ms h2 = ms h ∧ mD h2) ∨ (mDp (mSk h) = 10 ∧ mFt h2 (1 + 8 * b + 2) ∧ tF h2 111 28 = tF h 111 28 ∧ tF h2 111 27 = tF h 111 27))) := by
  refine tC_in (by rw [hG]; rfl) (fun dp => ?_)
  have g0 := mFr_r hs
  have hpn : (ms h).1 ≤ n := mPle hp hN
  refine tw_aload rfl rfl ?_
  refine tw_getS rfl (hi_111_32 hs) ?_
  refine tw_push rfl ?_
  refine tw_ic_ne rfl (fun q285 => ?_) (fun q285 => ?_)
  · try dsimp only [tvI_i, tvJ_j, tvR_r] at q285
    have q285i := zneq (Y := 10) (by decide) q285
    refine tw_aload rfl rfl ?_
    refine tw_dup rfl ?_
    refine tw_getS rfl (hi_111_32 hs) ?_
    refine tw_push rfl ?_
    refine tw_iadd rfl ?_
    refine tw_put rfl (fun f286 => ?_)
    refine tG_setm f286 (hw_111_32 f286 (g0).1) (fun hf286 ef286 => ?_)
    try dsimp only [tvI_i] at ef286
    have gf286 := mFr_s g0 ef286 (by unfold mFs; omega)
    obtain ⟨pf286, tf286, sf286, df286⟩ := mUp hp ef286 hD hd10
    refine tw_aload rfl rfl ?_
    refine tw_iload rfl rfl ?_
    refine tw_virt1 rfl (g_opens hG hX (gf286).1 pf286 ((mFr_T gf286).trans hT) ((mFr_n gf286).trans hN) hx0) (fun wp287 hp287 p287 => ?_)
    obtain ⟨rfl, gp287, pp287e, tp287, sp287, dp287⟩ := p287
    have ggp287 := mFr_t gf286 gp287
    have hne : mDp (mSk h) ≠ 10 := fun z => q285 ((mD10 hD).mpr z)
    exact tw_vret rfl ⟨rfl, ggp287, Or.inl ⟨hne, pp287e, by rw [tp287, tf286], sp287.trans sf286, by unfold mD; rw [dp287, tp287, tf286, mDp_c hx]; exact df286⟩⟩
  · try dsimp only [tvI_i, tvJ_j, tvR_r] at q285
    have q285i := zeqi (Y := 10) (by decide) q285
    refine tw_aload rfl rfl ?_
    refine tw_push rfl ?_
    refine tw_iload rfl rfl ?_
    refine tw_virt2 rfl (g_fails hG hX (g0).1 hp ((mFr_T g0).trans hT) ((mFr_n g0).trans hN) (w := 2) (b := b) rfl (by decide) hb hb4) (fun wp288 hp288 p288 => ?_)
    obtain ⟨rfl, gp288, Fp288, ip288, jp288⟩ := p288
    have ggp288 := mFr_t g0 gp288
    refine tw_aload rfl rfl ?_
    refine tw_dup rfl ?_
    refine tw_getS rfl (hi_111_32 ggp288.1) ?_
    refine tw_push rfl ?_
    refine tw_iadd rfl ?_
    refine tw_put rfl (fun f289 => ?_)
    refine tG_setm f289 (hw_111_32 f289 (ggp288).1) (fun hf289 ef289 => ?_)
    try dsimp only [tvI_i] at ef289
    have gf289 := mFr_s ggp288 ef289 (by unfold mFs; omega)
    have zf289 := mFt_s Fp288 ef289 (by decide)
    refine tw_aload rfl rfl ?_
    refine tw_iload rfl rfl ?_
    refine tw_virt1 rfl (z_opens hG hX (gf289).1 zf289 ((mFr_T gf289).trans hT) ((mFr_n gf289).trans hN)) (fun wp290 hp290 p290 => ?_)
    obtain ⟨rfl, gp290, Fp290, ip290, jp290⟩ := p290
    have ggp290 := mFr_t gf289 gp290
    exact tw_vret rfl ⟨rfl, ggp290, Or.inr ⟨(mD10 hD).mp q285, Fp290, ip290.trans ((mI_o ef289 (by decide)).trans ip288), jp290.trans ((mI_o ef289 (by decide)).trans jp288)⟩⟩
noncomputable def tpm (S : List Nat) (c : Int32) : Prop := (S = [] ∧ c = -1) ∨ (S ≠ [] ∧ c.toInt = ((S.headD 0 : Nat) : Int))
theorem tpm_k {S : List Nat} {c : Int32} (t : tpm S c) {k : Int32} {K : Nat} (hk : k.toInt = K) (h0 : 0 < K) : c = k ↔ S.headD 0 = K := by
  rcases t with ⟨rfl, rfl⟩ | ⟨h, e⟩
  · have : ((-1 : Int32)).toInt = -1 := by decide
    exact ⟨fun z => by rw [← z] at hk; omega, fun z => by have z : 0 = K := z; omega⟩
  · exact ⟨fun z => by rw [z] at e; omega, fun z => Int32.toInt_inj.mp (by omega)⟩
theorem tpm_i {S : List Nat} {c : Int32} (t : tpm S c) (hc : 0 ≤ c.toInt) : S ≠ [] ∧ c.toInt = ((S.headD 0 : Nat) : Int) := by
  rcases t with ⟨rfl, rfl⟩ | t
  · exact absurd hc (by decide)
  · exact t
theorem tpm_e {S : List Nat} {c : Int32} (t : tpm S c) : c.toInt = ((S.headD 0 : Nat) : Int) ∨ (S.headD 0 = 0 ∧ c.toInt = -1) := by
  rcases t with ⟨rfl, rfl⟩ | t
  · exact Or.inr ⟨rfl, by decide⟩
  · exact Or.inl t.2
theorem g_top {G : zG} (hG : G.1 = zProg) (hX : G.2.1 = ztx) {h : zH} {T : Nat → Int32} {n : Nat} (hs : tSh h) (hp : mP h) (hT : tA h 132 = T) (hN : mn h = n)  : tC zTt G 210 [.ref 111] h (fun w h2 => (∃ c, w = some (.int c) ∧ tpm (mSk h) c) ∧ h = h2) := by
  refine tC_in (by rw [hG]; rfl) (fun dp => ?_)
  have g0 := mFr_r hs
  have hpn : (ms h).1 ≤ n := mPle hp hN
  refine tw_aload rfl rfl ?_
  refine tw_getS rfl (hi_111_34 hs) ?_
  refine tw_if_ne rfl (fun q291 => ?_) (fun q291 => ?_)
  · try dsimp only [tvI_i, tvJ_j, tvR_r] at q291
    have q291i := zneq (Y := 0) (by decide) q291
    refine tw_aload rfl rfl ?_
    refine tw_getS rfl (hs_111_45 hs) ?_
    refine tw_aload rfl rfl ?_
    refine tw_getS rfl (hi_111_34 hs) ?_
    refine tw_push rfl ?_
    refine tw_isub rfl ?_
    refine tw_iald rfl (fun f292 => ?_)
    have hk : 0 < (tvI (tF h 111 34)).toNatClampNeg := by rw [zclE]; have := hp.2.2.2.2.1; omega
    have e2 : (tvI (tF h 111 34) - 1).toNatClampNeg = (tvI (tF h 111 34)).toNatClampNeg - 1 := by rw [zclE, zclE, zsub1 hp.2.2.2.2.1]; omega
    refine tw_iret rfl ⟨⟨_, rfl, Or.inr ?_⟩, rfl⟩
    rw [mSk_top hk]
    refine ⟨List.cons_ne_nil _ _, ?_⟩
    show (tA h 142 (tvI (tF h 111 34) - 1).toNatClampNeg).toInt = _
    have hl9 : (tvI (tF h 111 34) - 1).toNatClampNeg < tN h 142 := f292.rg.2
    rw [e2] at hl9
    rw [e2]
    exact (zclx (hp.2.2.2.2.2.2.1 _ hl9)).symm
  · try dsimp only [tvI_i, tvJ_j, tvR_r] at q291
    have q291i := zeqi (Y := 0) (by decide) q291
    refine tw_push rfl ?_
    refine tw_goto rfl ?_
    exact tw_iret rfl ⟨⟨_, rfl, Or.inl ⟨mSk_nil (by rw [q291]; rfl), rfl⟩⟩, rfl⟩
theorem rQ_at {T : Nat → Int32} : ∀ (w : List Int32) (p k : Nat), rQ T p w = true → k < w.length → T (p + k) = w.getD k 0
  | c :: w, p, 0, h, _ => by
    have h : (decide (T p = c) && rQ T (p + 1) w) = true := h
    rw [Bool.and_eq_true] at h
    exact of_decide_eq_true h.1
  | c :: w, p, k + 1, h, hk => by
    have h : (decide (T p = c) && rQ T (p + 1) w) = true := h
    rw [Bool.and_eq_true] at h
    have z := rQ_at w (p + 1) k h.2 (by rw [List.length_cons] at hk; omega)
    rw [show p + 1 + k = p + (k + 1) by omega] at z
    exact z
theorem rQ_of {T : Nat → Int32} : ∀ (w : List Int32) (p : Nat), (∀ k, k < w.length → T (p + k) = w.getD k 0) → rQ T p w = true
  | [], _, _ => rfl
  | c :: w, p, h => by
    show (decide (T p = c) && rQ T (p + 1) w) = true
    rw [Bool.and_eq_true]
    refine ⟨decide_eq_true (h 0 (by rw [List.length_cons]; omega)), rQ_of w (p + 1) (fun k hk => ?_)⟩
    have z := h (k + 1) (by rw [List.length_cons]; omega)
    rw [show p + (k + 1) = p + 1 + k by omega] at z
    exact z
theorem mPz {h : zH} (h0 : 0 ≤ (tvI (tF h 111 28)).toInt) : (tvI (tF h 111 28)).toInt = ((ms h).1 : Int) := by
  show _ = ((tvI (tF h 111 28)).toNatClampNeg : Int)
  rw [zclE]
  omega
theorem mNz {h : zH} {n : Nat} (h0 : 0 ≤ (tvI (tF h 111 27)).toInt) (hN : mn h = n) : (tvI (tF h 111 27)).toInt = (n : Int) := by
  rw [← hN]
  show _ = ((tvI (tF h 111 27)).toNatClampNeg : Int)
  rw [zclE]
  omega
theorem zadN {x y : Int32} {a b : Nat} (hx : x.toInt = a) (hy : y.toInt = b) (ha : a ≤ 100000) (hb : b ≤ 100000) : (x + y).toInt = ((a + b : Nat) : Int) := by
  rw [Int32.toInt_add, hx, hy]
  exact (Int.bmod_eq_of_le (by show (-2147483648 : Int) ≤ (a : Int) + b; omega) (by show (a : Int) + b < (2147483648 : Int); omega)).trans (by omega)
theorem g_stands {G : zG} (hG : G.1 = zProg) (hX : G.2.1 = ztx) {h : zH} {T : Nat → Int32} {n : Nat} (hs : tSh h) (hT : tA h 132 = T) (hN : mn h = n) {q : Nat} (hq1 : (ztx q).length ≤ 200) (h0 : 0 ≤ (tvI (tF h 111 28)).toInt ∧ 0 ≤ (tvI (tF h 111 27)).toInt) (h4 : (tvI (tF h 111 28)).toInt ≤ 1000 ∧ (tvI (tF h 111 27)).toInt ≤ 400) : tC zTt G 205 [.ref 111, .retAddr q] h (fun w h2 => tBo (rW T n (ms h).1 (ztx q) = true) w ∧ h = h2) := by
  refine tC_in (by rw [hG]; rfl) (fun dp => ?_)
  have g0 := mFr_r hs
  have c979 : (97 : Int32).toInt = 97 := rfl
  have c1229 : (122 : Int32).toInt = 122 := rfl
  have hn4 := mNz h0.2 hN
  have hp4 := mPz h0.1
  refine tw_aload rfl rfl ?_
  refine tw_getS rfl (hi_111_28 hs) ?_
  refine tw_istore rfl ?_
  refine tG_loop (zW_mono zTt G dp) (zW_conj zTt G dp) (V := fun pc L st h9 _ _ => pc = 5 ∧ st = [] ∧ h = h9 ∧ ∃ (k : Nat) (x : Int32) (l3 l4 : Option Value), x.toInt = (((ms h).1 + k : Nat) : Int) ∧ rE T n ((ms h).1 + k) = rE T n (ms h).1 ∧ (ms h).1 + k ≤ 1400 ∧ L = [some (.ref 111), some (.retAddr q), some (.int x), l3, l4]) ?_ (⟨rfl, rfl, rfl, 0, _, _, _, mPz h0.1, rfl, by have := mPz h0.1; omega, rfl⟩)
  rintro _ _ _ _ _ _ ⟨rfl, rfl, rfl, k, x, l3, l4, hx, he, hk14, rfl⟩
  refine tw_iload rfl rfl ?_
  refine tw_aload rfl rfl ?_
  refine tw_getS rfl (hi_111_27 hs) ?_
  refine tw_ic_ge rfl (fun q293 => ?_) (fun q293 => ?_)
  · try dsimp only [tvI_i, tvJ_j, tvR_r] at q293
    refine tw_iload rfl rfl ?_
    refine tw_aload rfl rfl ?_
    refine tw_getS rfl (hi_111_28 hs) ?_
    refine tw_isub rfl ?_
    refine tw_aload rfl rfl ?_
    refine tw_tlen rfl ?_
    refine tw_ic_ne rfl (fun q294 => ?_) (fun q294 => ?_)
    · try dsimp only [tvI_i, tvJ_j, tvR_r] at q294
      have q294i := zneq rfl q294
      refine tw_push rfl ?_
      refine tw_istore rfl ?_
      refine tw_push rfl ?_
      refine tw_istore rfl ?_
      have hix : x.toNatClampNeg = (ms h).1 + k := zof_cl hx
      have hTx : tA h 132 x.toNatClampNeg = T ((ms h).1 + k) := by rw [hix, hT]
      have hnd : ¬ ((ms h).1 + k < n ∧ 97 ≤ (T ((ms h).1 + k)).toInt ∧ (T ((ms h).1 + k)).toInt ≤ 122) := by
        have z0 := q293
        try rw [hTx] at z1
        try rw [hTx] at z2
        omega
      have hE9 : rE T n (ms h).1 = (ms h).1 + k := he.symm.trans (rE_n hnd)
      have hsb : (x - tvI (tF h 111 28)).toInt = ((((ms h).1 + k : Nat) : Int)) - (((ms h).1 : Nat) : Int) := zsb hx (mPz h0.1) (by omega) (by omega)
      have hLn : (Int32.ofNat (G.2.1 q).length).toInt = ((ztx q).length : Int) := by rw [hX]; exact zofI (by omega)
      have hEL : x - tvI (tF h 111 28) = Int32.ofNat (G.2.1 q).length ↔ rE T n (ms h).1 = (ms h).1 + (ztx q).length := ⟨fun z => by rw [z, hLn] at hsb; omega, fun z => Int32.toInt_inj.mp (by rw [hsb, hLn]; omega)⟩
      refine tG_loop (zW_mono zTt G dp) (zW_conj zTt G dp) (V := fun pc L st h9 _ _ => pc = 63 ∧ st = [] ∧ h = h9 ∧ ∃ (j : Nat) (y is : Int32), y.toInt = j ∧ j ≤ (ztx q).length ∧ ((is = 1 ∧ rE T n (ms h).1 = (ms h).1 + (ztx q).length ∧ ∀ i, i < j → T ((ms h).1 + i) = (ztx q).getD i 0) ∨ (is = 0 ∧ ¬ rW T n (ms h).1 (ztx q) = true)) ∧ L = [some (.ref 111), some (.retAddr q), some (.int x), some (.int is), some (.int y)]) ?_ (⟨rfl, rfl, rfl, 0, 0, _, rfl, Nat.zero_le _, Or.inr ⟨rfl, fun z => q294 (hEL.mpr (rW_e z))⟩, rfl⟩)
      rintro _ _ _ _ _ _ ⟨rfl, rfl, rfl, j, y, is, hy, hjn, his, rfl⟩
      refine tw_iload rfl rfl ?_
      refine tw_aload rfl rfl ?_
      refine tw_tlen rfl ?_
      refine tw_ic_ge rfl (fun q295 => ?_) (fun q295 => ?_)
      · try dsimp only [tvI_i, tvJ_j, tvR_r] at q295
        refine tw_iload rfl rfl ?_
        have hlen : (Int32.ofNat (G.2.1 q).length).toInt = ((ztx q).length : Int) := by rw [hX]; exact zofI (by omega)
        have hj : j = (ztx q).length := by have z := q295; omega
        rcases his with ⟨e1, e2, e3⟩ | ⟨e1, e2⟩
        · exact tw_iret rfl ⟨Or.inl ⟨rW_i.mpr ⟨e2, rQ_of _ _ (fun k hk => e3 k (by omega))⟩, congrArg (fun z => some (Value.int z)) e1⟩, rfl⟩
        · exact tw_iret rfl ⟨Or.inr ⟨e2, congrArg (fun z => some (Value.int z)) e1⟩, rfl⟩
      · try dsimp only [tvI_i, tvJ_j, tvR_r] at q295
        refine tw_iload rfl rfl ?_
        refine tw_if_eq rfl (fun q296 => ?_) (fun q296 => ?_)
        · try dsimp only [tvI_i, tvJ_j, tvR_r] at q296
          have q296i := zeqi (Y := 0) (by decide) q296
          refine tw_iload rfl rfl ?_
          have hlen : (Int32.ofNat (G.2.1 q).length).toInt = ((ztx q).length : Int) := by rw [hX]; exact zofI (by omega)
          rcases his with ⟨e1, -, -⟩ | ⟨e1, e2⟩
          · exact absurd (e1.symm.trans q296) (by decide)
          · exact tw_iret rfl ⟨Or.inr ⟨e2, congrArg (fun z => some (Value.int z)) e1⟩, rfl⟩
        · try dsimp only [tvI_i, tvJ_j, tvR_r] at q296
          have q296i := zneq (Y := 0) (by decide) q296
          refine tw_aload rfl rfl ?_
          refine tw_getS rfl (hs_111_35 hs) ?_
          refine tw_aload rfl rfl ?_
          refine tw_getS rfl (hi_111_28 hs) ?_
          refine tw_iload rfl rfl ?_
          refine tw_iadd rfl ?_
          refine tw_bald rfl (fun f297 => ?_)
          refine tw_aload rfl rfl ?_
          refine tw_iload rfl rfl ?_
          refine tw_chr rfl (fun _ => ?_)
          refine tw_ic_ne rfl (fun q298 => ?_) (fun q298 => ?_)
          · try dsimp only [tvI_i, tvJ_j, tvR_r] at q298
            have q298i := zneq rfl q298
            refine tw_push rfl ?_
            refine tw_istore rfl ?_
            refine tw_iinc rfl rfl ?_
            refine tw_goto rfl ?_
            have hlen : (Int32.ofNat (G.2.1 q).length).toInt = ((ztx q).length : Int) := by rw [hX]; exact zofI (by omega)
            have hjl : j < (ztx q).length := by have z := q295; omega
            rcases his with ⟨e1, e2, e3⟩ | ⟨e1, -⟩
            rotate_left
            · exact absurd e1 q296
            have hpy : (tvI (tF h 111 28) + y).toNatClampNeg = (ms h).1 + j := zof_cl (zadN (mPz h0.1) hy (by omega) (by omega))
            have hTy : tA h 132 (tvI (tF h 111 28) + y).toNatClampNeg = T ((ms h).1 + j) := by rw [hpy, hT]
            have ec : (G.2.1 q).getD y.toNatClampNeg 0 = (ztx q).getD j 0 := by rw [hX, zof_cl hy]
            have hc : ¬ T ((ms h).1 + j) = (ztx q).getD j 0 := fun z => q298 (hTy.trans (z.trans ec.symm))
            exact tG_cut (zW_mono zTt G dp) (Or.inr ⟨rfl, rfl, rfl, j + 1, y + 1, _, zincN hy (by omega), by omega, Or.inr ⟨rfl, fun z => hc (rQ_at _ _ _ (rW_i.mp z).2 hjl)⟩, rfl⟩)
          · try dsimp only [tvI_i, tvJ_j, tvR_r] at q298
            have q298i := zeqi rfl q298
            refine tw_push rfl ?_
            refine tw_goto rfl ?_
            refine tw_istore rfl ?_
            refine tw_iinc rfl rfl ?_
            refine tw_goto rfl ?_
            have hlen : (Int32.ofNat (G.2.1 q).length).toInt = ((ztx q).length : Int) := by rw [hX]; exact zofI (by omega)
            have hjl : j < (ztx q).length := by have z := q295; omega
            rcases his with ⟨e1, e2, e3⟩ | ⟨e1, -⟩
            rotate_left
            · exact absurd e1 q296
            have hpy : (tvI (tF h 111 28) + y).toNatClampNeg = (ms h).1 + j := zof_cl (zadN (mPz h0.1) hy (by omega) (by omega))
            have hTy : tA h 132 (tvI (tF h 111 28) + y).toNatClampNeg = T ((ms h).1 + j) := by rw [hpy, hT]
            have ec : (G.2.1 q).getD y.toNatClampNeg 0 = (ztx q).getD j 0 := by rw [hX, zof_cl hy]
            have hc : T ((ms h).1 + j) = (ztx q).getD j 0 := hTy.symm.trans (q298.trans ec)
            exact tG_cut (zW_mono zTt G dp) (Or.inr ⟨rfl, rfl, rfl, j + 1, y + 1, _, zincN hy (by omega), by omega, Or.inl ⟨rfl, e2, fun i hi => (Classical.em (i = j)).elim (fun z => by rw [z]; exact hc) (fun z => e3 i (by omega))⟩, rfl⟩)
    · try dsimp only [tvI_i, tvJ_j, tvR_r] at q294
      have q294i := zeqi rfl q294
      refine tw_push rfl ?_
      refine tw_goto rfl ?_
      refine tw_istore rfl ?_
      refine tw_push rfl ?_
      refine tw_istore rfl ?_
      have hix : x.toNatClampNeg = (ms h).1 + k := zof_cl hx
      have hTx : tA h 132 x.toNatClampNeg = T ((ms h).1 + k) := by rw [hix, hT]
      have hnd : ¬ ((ms h).1 + k < n ∧ 97 ≤ (T ((ms h).1 + k)).toInt ∧ (T ((ms h).1 + k)).toInt ≤ 122) := by
        have z0 := q293
        try rw [hTx] at z1
        try rw [hTx] at z2
        omega
      have hE9 : rE T n (ms h).1 = (ms h).1 + k := he.symm.trans (rE_n hnd)
      have hsb : (x - tvI (tF h 111 28)).toInt = ((((ms h).1 + k : Nat) : Int)) - (((ms h).1 : Nat) : Int) := zsb hx (mPz h0.1) (by omega) (by omega)
      have hLn : (Int32.ofNat (G.2.1 q).length).toInt = ((ztx q).length : Int) := by rw [hX]; exact zofI (by omega)
      have hEL : x - tvI (tF h 111 28) = Int32.ofNat (G.2.1 q).length ↔ rE T n (ms h).1 = (ms h).1 + (ztx q).length := ⟨fun z => by rw [z, hLn] at hsb; omega, fun z => Int32.toInt_inj.mp (by rw [hsb, hLn]; omega)⟩
      refine tG_loop (zW_mono zTt G dp) (zW_conj zTt G dp) (V := fun pc L st h9 _ _ => pc = 63 ∧ st = [] ∧ h = h9 ∧ ∃ (j : Nat) (y is : Int32), y.toInt = j ∧ j ≤ (ztx q).length ∧ ((is = 1 ∧ rE T n (ms h).1 = (ms h).1 + (ztx q).length ∧ ∀ i, i < j → T ((ms h).1 + i) = (ztx q).getD i 0) ∨ (is = 0 ∧ ¬ rW T n (ms h).1 (ztx q) = true)) ∧ L = [some (.ref 111), some (.retAddr q), some (.int x), some (.int is), some (.int y)]) ?_ (⟨rfl, rfl, rfl, 0, 0, _, rfl, Nat.zero_le _, Or.inl ⟨rfl, hEL.mp q294, fun i hi => by omega⟩, rfl⟩)
      rintro _ _ _ _ _ _ ⟨rfl, rfl, rfl, j, y, is, hy, hjn, his, rfl⟩
      refine tw_iload rfl rfl ?_
      refine tw_aload rfl rfl ?_
      refine tw_tlen rfl ?_
      refine tw_ic_ge rfl (fun q299 => ?_) (fun q299 => ?_)
      · try dsimp only [tvI_i, tvJ_j, tvR_r] at q299
        refine tw_iload rfl rfl ?_
        have hlen : (Int32.ofNat (G.2.1 q).length).toInt = ((ztx q).length : Int) := by rw [hX]; exact zofI (by omega)
        have hj : j = (ztx q).length := by have z := q299; omega
        rcases his with ⟨e1, e2, e3⟩ | ⟨e1, e2⟩
        · exact tw_iret rfl ⟨Or.inl ⟨rW_i.mpr ⟨e2, rQ_of _ _ (fun k hk => e3 k (by omega))⟩, congrArg (fun z => some (Value.int z)) e1⟩, rfl⟩
        · exact tw_iret rfl ⟨Or.inr ⟨e2, congrArg (fun z => some (Value.int z)) e1⟩, rfl⟩
      · try dsimp only [tvI_i, tvJ_j, tvR_r] at q299
        refine tw_iload rfl rfl ?_
        refine tw_if_eq rfl (fun q300 => ?_) (fun q300 => ?_)
        · try dsimp only [tvI_i, tvJ_j, tvR_r] at q300
          have q300i := zeqi (Y := 0) (by decide) q300
          refine tw_iload rfl rfl ?_
          have hlen : (Int32.ofNat (G.2.1 q).length).toInt = ((ztx q).length : Int) := by rw [hX]; exact zofI (by omega)
          rcases his with ⟨e1, -, -⟩ | ⟨e1, e2⟩
          · exact absurd (e1.symm.trans q300) (by decide)
          · exact tw_iret rfl ⟨Or.inr ⟨e2, congrArg (fun z => some (Value.int z)) e1⟩, rfl⟩
        · try dsimp only [tvI_i, tvJ_j, tvR_r] at q300
          have q300i := zneq (Y := 0) (by decide) q300
          refine tw_aload rfl rfl ?_
          refine tw_getS rfl (hs_111_35 hs) ?_
          refine tw_aload rfl rfl ?_
          refine tw_getS rfl (hi_111_28 hs) ?_
          refine tw_iload rfl rfl ?_
          refine tw_iadd rfl ?_
          refine tw_bald rfl (fun f301 => ?_)
          refine tw_aload rfl rfl ?_
          refine tw_iload rfl rfl ?_
          refine tw_chr rfl (fun _ => ?_)
          refine tw_ic_ne rfl (fun q302 => ?_) (fun q302 => ?_)
          · try dsimp only [tvI_i, tvJ_j, tvR_r] at q302
            have q302i := zneq rfl q302
            refine tw_push rfl ?_
            refine tw_istore rfl ?_
            refine tw_iinc rfl rfl ?_
            refine tw_goto rfl ?_
            have hlen : (Int32.ofNat (G.2.1 q).length).toInt = ((ztx q).length : Int) := by rw [hX]; exact zofI (by omega)
            have hjl : j < (ztx q).length := by have z := q299; omega
            rcases his with ⟨e1, e2, e3⟩ | ⟨e1, -⟩
            rotate_left
            · exact absurd e1 q300
            have hpy : (tvI (tF h 111 28) + y).toNatClampNeg = (ms h).1 + j := zof_cl (zadN (mPz h0.1) hy (by omega) (by omega))
            have hTy : tA h 132 (tvI (tF h 111 28) + y).toNatClampNeg = T ((ms h).1 + j) := by rw [hpy, hT]
            have ec : (G.2.1 q).getD y.toNatClampNeg 0 = (ztx q).getD j 0 := by rw [hX, zof_cl hy]
            have hc : ¬ T ((ms h).1 + j) = (ztx q).getD j 0 := fun z => q302 (hTy.trans (z.trans ec.symm))
            exact tG_cut (zW_mono zTt G dp) (Or.inr ⟨rfl, rfl, rfl, j + 1, y + 1, _, zincN hy (by omega), by omega, Or.inr ⟨rfl, fun z => hc (rQ_at _ _ _ (rW_i.mp z).2 hjl)⟩, rfl⟩)
          · try dsimp only [tvI_i, tvJ_j, tvR_r] at q302
            have q302i := zeqi rfl q302
            refine tw_push rfl ?_
            refine tw_goto rfl ?_
            refine tw_istore rfl ?_
            refine tw_iinc rfl rfl ?_
            refine tw_goto rfl ?_
            have hlen : (Int32.ofNat (G.2.1 q).length).toInt = ((ztx q).length : Int) := by rw [hX]; exact zofI (by omega)
            have hjl : j < (ztx q).length := by have z := q299; omega
            rcases his with ⟨e1, e2, e3⟩ | ⟨e1, -⟩
            rotate_left
            · exact absurd e1 q300
            have hpy : (tvI (tF h 111 28) + y).toNatClampNeg = (ms h).1 + j := zof_cl (zadN (mPz h0.1) hy (by omega) (by omega))
            have hTy : tA h 132 (tvI (tF h 111 28) + y).toNatClampNeg = T ((ms h).1 + j) := by rw [hpy, hT]
            have ec : (G.2.1 q).getD y.toNatClampNeg 0 = (ztx q).getD j 0 := by rw [hX, zof_cl hy]
            have hc : T ((ms h).1 + j) = (ztx q).getD j 0 := hTy.symm.trans (q302.trans ec)
            exact tG_cut (zW_mono zTt G dp) (Or.inr ⟨rfl, rfl, rfl, j + 1, y + 1, _, zincN hy (by omega), by omega, Or.inl ⟨rfl, e2, fun i hi => (Classical.em (i = j)).elim (fun z => by rw [z]; exact hc) (fun z => e3 i (by omega))⟩, rfl⟩)
  · try dsimp only [tvI_i, tvJ_j, tvR_r] at q293
    refine tw_aload rfl rfl ?_
    refine tw_getS rfl (hs_111_35 hs) ?_
    refine tw_iload rfl rfl ?_
    refine tw_bald rfl (fun f303 => ?_)
    refine tw_push rfl ?_
    refine tw_ic_lt rfl (fun q304 => ?_) (fun q304 => ?_)
    · try dsimp only [tvI_i, tvJ_j, tvR_r] at q304
      refine tw_iload rfl rfl ?_
      refine tw_aload rfl rfl ?_
      refine tw_getS rfl (hi_111_28 hs) ?_
      refine tw_isub rfl ?_
      refine tw_aload rfl rfl ?_
      refine tw_tlen rfl ?_
      refine tw_ic_ne rfl (fun q305 => ?_) (fun q305 => ?_)
      · try dsimp only [tvI_i, tvJ_j, tvR_r] at q305
        have q305i := zneq rfl q305
        refine tw_push rfl ?_
        refine tw_istore rfl ?_
        refine tw_push rfl ?_
        refine tw_istore rfl ?_
        have hix : x.toNatClampNeg = (ms h).1 + k := zof_cl hx
        have hTx : tA h 132 x.toNatClampNeg = T ((ms h).1 + k) := by rw [hix, hT]
        have hnd : ¬ ((ms h).1 + k < n ∧ 97 ≤ (T ((ms h).1 + k)).toInt ∧ (T ((ms h).1 + k)).toInt ≤ 122) := by
          have z0 := q293
          have z1 := q304
          try rw [hTx] at z1
          try rw [hTx] at z2
          omega
        have hE9 : rE T n (ms h).1 = (ms h).1 + k := he.symm.trans (rE_n hnd)
        have hsb : (x - tvI (tF h 111 28)).toInt = ((((ms h).1 + k : Nat) : Int)) - (((ms h).1 : Nat) : Int) := zsb hx (mPz h0.1) (by omega) (by omega)
        have hLn : (Int32.ofNat (G.2.1 q).length).toInt = ((ztx q).length : Int) := by rw [hX]; exact zofI (by omega)
        have hEL : x - tvI (tF h 111 28) = Int32.ofNat (G.2.1 q).length ↔ rE T n (ms h).1 = (ms h).1 + (ztx q).length := ⟨fun z => by rw [z, hLn] at hsb; omega, fun z => Int32.toInt_inj.mp (by rw [hsb, hLn]; omega)⟩
        refine tG_loop (zW_mono zTt G dp) (zW_conj zTt G dp) (V := fun pc L st h9 _ _ => pc = 63 ∧ st = [] ∧ h = h9 ∧ ∃ (j : Nat) (y is : Int32), y.toInt = j ∧ j ≤ (ztx q).length ∧ ((is = 1 ∧ rE T n (ms h).1 = (ms h).1 + (ztx q).length ∧ ∀ i, i < j → T ((ms h).1 + i) = (ztx q).getD i 0) ∨ (is = 0 ∧ ¬ rW T n (ms h).1 (ztx q) = true)) ∧ L = [some (.ref 111), some (.retAddr q), some (.int x), some (.int is), some (.int y)]) ?_ (⟨rfl, rfl, rfl, 0, 0, _, rfl, Nat.zero_le _, Or.inr ⟨rfl, fun z => q305 (hEL.mpr (rW_e z))⟩, rfl⟩)
        rintro _ _ _ _ _ _ ⟨rfl, rfl, rfl, j, y, is, hy, hjn, his, rfl⟩
        refine tw_iload rfl rfl ?_
        refine tw_aload rfl rfl ?_
        refine tw_tlen rfl ?_
        refine tw_ic_ge rfl (fun q306 => ?_) (fun q306 => ?_)
        · try dsimp only [tvI_i, tvJ_j, tvR_r] at q306
          refine tw_iload rfl rfl ?_
          have hlen : (Int32.ofNat (G.2.1 q).length).toInt = ((ztx q).length : Int) := by rw [hX]; exact zofI (by omega)
          have hj : j = (ztx q).length := by have z := q306; omega
          rcases his with ⟨e1, e2, e3⟩ | ⟨e1, e2⟩
          · exact tw_iret rfl ⟨Or.inl ⟨rW_i.mpr ⟨e2, rQ_of _ _ (fun k hk => e3 k (by omega))⟩, congrArg (fun z => some (Value.int z)) e1⟩, rfl⟩
          · exact tw_iret rfl ⟨Or.inr ⟨e2, congrArg (fun z => some (Value.int z)) e1⟩, rfl⟩
        · try dsimp only [tvI_i, tvJ_j, tvR_r] at q306
          refine tw_iload rfl rfl ?_
          refine tw_if_eq rfl (fun q307 => ?_) (fun q307 => ?_)
          · try dsimp only [tvI_i, tvJ_j, tvR_r] at q307
            have q307i := zeqi (Y := 0) (by decide) q307
            refine tw_iload rfl rfl ?_
            have hlen : (Int32.ofNat (G.2.1 q).length).toInt = ((ztx q).length : Int) := by rw [hX]; exact zofI (by omega)
            rcases his with ⟨e1, -, -⟩ | ⟨e1, e2⟩
            · exact absurd (e1.symm.trans q307) (by decide)
            · exact tw_iret rfl ⟨Or.inr ⟨e2, congrArg (fun z => some (Value.int z)) e1⟩, rfl⟩
          · try dsimp only [tvI_i, tvJ_j, tvR_r] at q307
            have q307i := zneq (Y := 0) (by decide) q307
            refine tw_aload rfl rfl ?_
            refine tw_getS rfl (hs_111_35 hs) ?_
            refine tw_aload rfl rfl ?_
            refine tw_getS rfl (hi_111_28 hs) ?_
            refine tw_iload rfl rfl ?_
            refine tw_iadd rfl ?_
            refine tw_bald rfl (fun f308 => ?_)
            refine tw_aload rfl rfl ?_
            refine tw_iload rfl rfl ?_
            refine tw_chr rfl (fun _ => ?_)
            refine tw_ic_ne rfl (fun q309 => ?_) (fun q309 => ?_)
            · try dsimp only [tvI_i, tvJ_j, tvR_r] at q309
              have q309i := zneq rfl q309
              refine tw_push rfl ?_
              refine tw_istore rfl ?_
              refine tw_iinc rfl rfl ?_
              refine tw_goto rfl ?_
              have hlen : (Int32.ofNat (G.2.1 q).length).toInt = ((ztx q).length : Int) := by rw [hX]; exact zofI (by omega)
              have hjl : j < (ztx q).length := by have z := q306; omega
              rcases his with ⟨e1, e2, e3⟩ | ⟨e1, -⟩
              rotate_left
              · exact absurd e1 q307
              have hpy : (tvI (tF h 111 28) + y).toNatClampNeg = (ms h).1 + j := zof_cl (zadN (mPz h0.1) hy (by omega) (by omega))
              have hTy : tA h 132 (tvI (tF h 111 28) + y).toNatClampNeg = T ((ms h).1 + j) := by rw [hpy, hT]
              have ec : (G.2.1 q).getD y.toNatClampNeg 0 = (ztx q).getD j 0 := by rw [hX, zof_cl hy]
              have hc : ¬ T ((ms h).1 + j) = (ztx q).getD j 0 := fun z => q309 (hTy.trans (z.trans ec.symm))
              exact tG_cut (zW_mono zTt G dp) (Or.inr ⟨rfl, rfl, rfl, j + 1, y + 1, _, zincN hy (by omega), by omega, Or.inr ⟨rfl, fun z => hc (rQ_at _ _ _ (rW_i.mp z).2 hjl)⟩, rfl⟩)
            · try dsimp only [tvI_i, tvJ_j, tvR_r] at q309
              have q309i := zeqi rfl q309
              refine tw_push rfl ?_
              refine tw_goto rfl ?_
              refine tw_istore rfl ?_
              refine tw_iinc rfl rfl ?_
              refine tw_goto rfl ?_
              have hlen : (Int32.ofNat (G.2.1 q).length).toInt = ((ztx q).length : Int) := by rw [hX]; exact zofI (by omega)
              have hjl : j < (ztx q).length := by have z := q306; omega
              rcases his with ⟨e1, e2, e3⟩ | ⟨e1, -⟩
              rotate_left
              · exact absurd e1 q307
              have hpy : (tvI (tF h 111 28) + y).toNatClampNeg = (ms h).1 + j := zof_cl (zadN (mPz h0.1) hy (by omega) (by omega))
              have hTy : tA h 132 (tvI (tF h 111 28) + y).toNatClampNeg = T ((ms h).1 + j) := by rw [hpy, hT]
              have ec : (G.2.1 q).getD y.toNatClampNeg 0 = (ztx q).getD j 0 := by rw [hX, zof_cl hy]
              have hc : T ((ms h).1 + j) = (ztx q).getD j 0 := hTy.symm.trans (q309.trans ec)
              exact tG_cut (zW_mono zTt G dp) (Or.inr ⟨rfl, rfl, rfl, j + 1, y + 1, _, zincN hy (by omega), by omega, Or.inl ⟨rfl, e2, fun i hi => (Classical.em (i = j)).elim (fun z => by rw [z]; exact hc) (fun z => e3 i (by omega))⟩, rfl⟩)
      · try dsimp only [tvI_i, tvJ_j, tvR_r] at q305
        have q305i := zeqi rfl q305
        refine tw_push rfl ?_
        refine tw_goto rfl ?_
        refine tw_istore rfl ?_
        refine tw_push rfl ?_
        refine tw_istore rfl ?_
        have hix : x.toNatClampNeg = (ms h).1 + k := zof_cl hx
        have hTx : tA h 132 x.toNatClampNeg = T ((ms h).1 + k) := by rw [hix, hT]
        have hnd : ¬ ((ms h).1 + k < n ∧ 97 ≤ (T ((ms h).1 + k)).toInt ∧ (T ((ms h).1 + k)).toInt ≤ 122) := by
          have z0 := q293
          have z1 := q304
          try rw [hTx] at z1
          try rw [hTx] at z2
          omega
        have hE9 : rE T n (ms h).1 = (ms h).1 + k := he.symm.trans (rE_n hnd)
        have hsb : (x - tvI (tF h 111 28)).toInt = ((((ms h).1 + k : Nat) : Int)) - (((ms h).1 : Nat) : Int) := zsb hx (mPz h0.1) (by omega) (by omega)
        have hLn : (Int32.ofNat (G.2.1 q).length).toInt = ((ztx q).length : Int) := by rw [hX]; exact zofI (by omega)
        have hEL : x - tvI (tF h 111 28) = Int32.ofNat (G.2.1 q).length ↔ rE T n (ms h).1 = (ms h).1 + (ztx q).length := ⟨fun z => by rw [z, hLn] at hsb; omega, fun z => Int32.toInt_inj.mp (by rw [hsb, hLn]; omega)⟩
        refine tG_loop (zW_mono zTt G dp) (zW_conj zTt G dp) (V := fun pc L st h9 _ _ => pc = 63 ∧ st = [] ∧ h = h9 ∧ ∃ (j : Nat) (y is : Int32), y.toInt = j ∧ j ≤ (ztx q).length ∧ ((is = 1 ∧ rE T n (ms h).1 = (ms h).1 + (ztx q).length ∧ ∀ i, i < j → T ((ms h).1 + i) = (ztx q).getD i 0) ∨ (is = 0 ∧ ¬ rW T n (ms h).1 (ztx q) = true)) ∧ L = [some (.ref 111), some (.retAddr q), some (.int x), some (.int is), some (.int y)]) ?_ (⟨rfl, rfl, rfl, 0, 0, _, rfl, Nat.zero_le _, Or.inl ⟨rfl, hEL.mp q305, fun i hi => by omega⟩, rfl⟩)
        rintro _ _ _ _ _ _ ⟨rfl, rfl, rfl, j, y, is, hy, hjn, his, rfl⟩
        refine tw_iload rfl rfl ?_
        refine tw_aload rfl rfl ?_
        refine tw_tlen rfl ?_
        refine tw_ic_ge rfl (fun q310 => ?_) (fun q310 => ?_)
        · try dsimp only [tvI_i, tvJ_j, tvR_r] at q310
          refine tw_iload rfl rfl ?_
          have hlen : (Int32.ofNat (G.2.1 q).length).toInt = ((ztx q).length : Int) := by rw [hX]; exact zofI (by omega)
          have hj : j = (ztx q).length := by have z := q310; omega
          rcases his with ⟨e1, e2, e3⟩ | ⟨e1, e2⟩
          · exact tw_iret rfl ⟨Or.inl ⟨rW_i.mpr ⟨e2, rQ_of _ _ (fun k hk => e3 k (by omega))⟩, congrArg (fun z => some (Value.int z)) e1⟩, rfl⟩
          · exact tw_iret rfl ⟨Or.inr ⟨e2, congrArg (fun z => some (Value.int z)) e1⟩, rfl⟩
        · try dsimp only [tvI_i, tvJ_j, tvR_r] at q310
          refine tw_iload rfl rfl ?_
          refine tw_if_eq rfl (fun q311 => ?_) (fun q311 => ?_)
          · try dsimp only [tvI_i, tvJ_j, tvR_r] at q311
            have q311i := zeqi (Y := 0) (by decide) q311
            refine tw_iload rfl rfl ?_
            have hlen : (Int32.ofNat (G.2.1 q).length).toInt = ((ztx q).length : Int) := by rw [hX]; exact zofI (by omega)
            rcases his with ⟨e1, -, -⟩ | ⟨e1, e2⟩
            · exact absurd (e1.symm.trans q311) (by decide)
            · exact tw_iret rfl ⟨Or.inr ⟨e2, congrArg (fun z => some (Value.int z)) e1⟩, rfl⟩
          · try dsimp only [tvI_i, tvJ_j, tvR_r] at q311
            have q311i := zneq (Y := 0) (by decide) q311
            refine tw_aload rfl rfl ?_
            refine tw_getS rfl (hs_111_35 hs) ?_
            refine tw_aload rfl rfl ?_
            refine tw_getS rfl (hi_111_28 hs) ?_
            refine tw_iload rfl rfl ?_
            refine tw_iadd rfl ?_
            refine tw_bald rfl (fun f312 => ?_)
            refine tw_aload rfl rfl ?_
            refine tw_iload rfl rfl ?_
            refine tw_chr rfl (fun _ => ?_)
            refine tw_ic_ne rfl (fun q313 => ?_) (fun q313 => ?_)
            · try dsimp only [tvI_i, tvJ_j, tvR_r] at q313
              have q313i := zneq rfl q313
              refine tw_push rfl ?_
              refine tw_istore rfl ?_
              refine tw_iinc rfl rfl ?_
              refine tw_goto rfl ?_
              have hlen : (Int32.ofNat (G.2.1 q).length).toInt = ((ztx q).length : Int) := by rw [hX]; exact zofI (by omega)
              have hjl : j < (ztx q).length := by have z := q310; omega
              rcases his with ⟨e1, e2, e3⟩ | ⟨e1, -⟩
              rotate_left
              · exact absurd e1 q311
              have hpy : (tvI (tF h 111 28) + y).toNatClampNeg = (ms h).1 + j := zof_cl (zadN (mPz h0.1) hy (by omega) (by omega))
              have hTy : tA h 132 (tvI (tF h 111 28) + y).toNatClampNeg = T ((ms h).1 + j) := by rw [hpy, hT]
              have ec : (G.2.1 q).getD y.toNatClampNeg 0 = (ztx q).getD j 0 := by rw [hX, zof_cl hy]
              have hc : ¬ T ((ms h).1 + j) = (ztx q).getD j 0 := fun z => q313 (hTy.trans (z.trans ec.symm))
              exact tG_cut (zW_mono zTt G dp) (Or.inr ⟨rfl, rfl, rfl, j + 1, y + 1, _, zincN hy (by omega), by omega, Or.inr ⟨rfl, fun z => hc (rQ_at _ _ _ (rW_i.mp z).2 hjl)⟩, rfl⟩)
            · try dsimp only [tvI_i, tvJ_j, tvR_r] at q313
              have q313i := zeqi rfl q313
              refine tw_push rfl ?_
              refine tw_goto rfl ?_
              refine tw_istore rfl ?_
              refine tw_iinc rfl rfl ?_
              refine tw_goto rfl ?_
              have hlen : (Int32.ofNat (G.2.1 q).length).toInt = ((ztx q).length : Int) := by rw [hX]; exact zofI (by omega)
              have hjl : j < (ztx q).length := by have z := q310; omega
              rcases his with ⟨e1, e2, e3⟩ | ⟨e1, -⟩
              rotate_left
              · exact absurd e1 q311
              have hpy : (tvI (tF h 111 28) + y).toNatClampNeg = (ms h).1 + j := zof_cl (zadN (mPz h0.1) hy (by omega) (by omega))
              have hTy : tA h 132 (tvI (tF h 111 28) + y).toNatClampNeg = T ((ms h).1 + j) := by rw [hpy, hT]
              have ec : (G.2.1 q).getD y.toNatClampNeg 0 = (ztx q).getD j 0 := by rw [hX, zof_cl hy]
              have hc : T ((ms h).1 + j) = (ztx q).getD j 0 := hTy.symm.trans (q313.trans ec)
              exact tG_cut (zW_mono zTt G dp) (Or.inr ⟨rfl, rfl, rfl, j + 1, y + 1, _, zincN hy (by omega), by omega, Or.inl ⟨rfl, e2, fun i hi => (Classical.em (i = j)).elim (fun z => by rw [z]; exact hc) (fun z => e3 i (by omega))⟩, rfl⟩)
    · try dsimp only [tvI_i, tvJ_j, tvR_r] at q304
      refine tw_aload rfl rfl ?_
      refine tw_getS rfl (hs_111_35 hs) ?_
      refine tw_iload rfl rfl ?_
      refine tw_bald rfl (fun f314 => ?_)
      refine tw_push rfl ?_
      refine tw_ic_gt rfl (fun q315 => ?_) (fun q315 => ?_)
      · try dsimp only [tvI_i, tvJ_j, tvR_r] at q315
        refine tw_iload rfl rfl ?_
        refine tw_aload rfl rfl ?_
        refine tw_getS rfl (hi_111_28 hs) ?_
        refine tw_isub rfl ?_
        refine tw_aload rfl rfl ?_
        refine tw_tlen rfl ?_
        refine tw_ic_ne rfl (fun q316 => ?_) (fun q316 => ?_)
        · try dsimp only [tvI_i, tvJ_j, tvR_r] at q316
          have q316i := zneq rfl q316
          refine tw_push rfl ?_
          refine tw_istore rfl ?_
          refine tw_push rfl ?_
          refine tw_istore rfl ?_
          have hix : x.toNatClampNeg = (ms h).1 + k := zof_cl hx
          have hTx : tA h 132 x.toNatClampNeg = T ((ms h).1 + k) := by rw [hix, hT]
          have hnd : ¬ ((ms h).1 + k < n ∧ 97 ≤ (T ((ms h).1 + k)).toInt ∧ (T ((ms h).1 + k)).toInt ≤ 122) := by
            have z0 := q293
            have z1 := q304
            have z2 := q315
            try rw [hTx] at z1
            try rw [hTx] at z2
            omega
          have hE9 : rE T n (ms h).1 = (ms h).1 + k := he.symm.trans (rE_n hnd)
          have hsb : (x - tvI (tF h 111 28)).toInt = ((((ms h).1 + k : Nat) : Int)) - (((ms h).1 : Nat) : Int) := zsb hx (mPz h0.1) (by omega) (by omega)
          have hLn : (Int32.ofNat (G.2.1 q).length).toInt = ((ztx q).length : Int) := by rw [hX]; exact zofI (by omega)
          have hEL : x - tvI (tF h 111 28) = Int32.ofNat (G.2.1 q).length ↔ rE T n (ms h).1 = (ms h).1 + (ztx q).length := ⟨fun z => by rw [z, hLn] at hsb; omega, fun z => Int32.toInt_inj.mp (by rw [hsb, hLn]; omega)⟩
          refine tG_loop (zW_mono zTt G dp) (zW_conj zTt G dp) (V := fun pc L st h9 _ _ => pc = 63 ∧ st = [] ∧ h = h9 ∧ ∃ (j : Nat) (y is : Int32), y.toInt = j ∧ j ≤ (ztx q).length ∧ ((is = 1 ∧ rE T n (ms h).1 = (ms h).1 + (ztx q).length ∧ ∀ i, i < j → T ((ms h).1 + i) = (ztx q).getD i 0) ∨ (is = 0 ∧ ¬ rW T n (ms h).1 (ztx q) = true)) ∧ L = [some (.ref 111), some (.retAddr q), some (.int x), some (.int is), some (.int y)]) ?_ (⟨rfl, rfl, rfl, 0, 0, _, rfl, Nat.zero_le _, Or.inr ⟨rfl, fun z => q316 (hEL.mpr (rW_e z))⟩, rfl⟩)
          rintro _ _ _ _ _ _ ⟨rfl, rfl, rfl, j, y, is, hy, hjn, his, rfl⟩
          refine tw_iload rfl rfl ?_
          refine tw_aload rfl rfl ?_
          refine tw_tlen rfl ?_
          refine tw_ic_ge rfl (fun q317 => ?_) (fun q317 => ?_)
          · try dsimp only [tvI_i, tvJ_j, tvR_r] at q317
            refine tw_iload rfl rfl ?_
            have hlen : (Int32.ofNat (G.2.1 q).length).toInt = ((ztx q).length : Int) := by rw [hX]; exact zofI (by omega)
            have hj : j = (ztx q).length := by have z := q317; omega
            rcases his with ⟨e1, e2, e3⟩ | ⟨e1, e2⟩
            · exact tw_iret rfl ⟨Or.inl ⟨rW_i.mpr ⟨e2, rQ_of _ _ (fun k hk => e3 k (by omega))⟩, congrArg (fun z => some (Value.int z)) e1⟩, rfl⟩
            · exact tw_iret rfl ⟨Or.inr ⟨e2, congrArg (fun z => some (Value.int z)) e1⟩, rfl⟩
          · try dsimp only [tvI_i, tvJ_j, tvR_r] at q317
            refine tw_iload rfl rfl ?_
            refine tw_if_eq rfl (fun q318 => ?_) (fun q318 => ?_)
            · try dsimp only [tvI_i, tvJ_j, tvR_r] at q318
              have q318i := zeqi (Y := 0) (by decide) q318
              refine tw_iload rfl rfl ?_
              have hlen : (Int32.ofNat (G.2.1 q).length).toInt = ((ztx q).length : Int) := by rw [hX]; exact zofI (by omega)
              rcases his with ⟨e1, -, -⟩ | ⟨e1, e2⟩
              · exact absurd (e1.symm.trans q318) (by decide)
              · exact tw_iret rfl ⟨Or.inr ⟨e2, congrArg (fun z => some (Value.int z)) e1⟩, rfl⟩
            · try dsimp only [tvI_i, tvJ_j, tvR_r] at q318
              have q318i := zneq (Y := 0) (by decide) q318
              refine tw_aload rfl rfl ?_
              refine tw_getS rfl (hs_111_35 hs) ?_
              refine tw_aload rfl rfl ?_
              refine tw_getS rfl (hi_111_28 hs) ?_
              refine tw_iload rfl rfl ?_
              refine tw_iadd rfl ?_
              refine tw_bald rfl (fun f319 => ?_)
              refine tw_aload rfl rfl ?_
              refine tw_iload rfl rfl ?_
              refine tw_chr rfl (fun _ => ?_)
              refine tw_ic_ne rfl (fun q320 => ?_) (fun q320 => ?_)
              · try dsimp only [tvI_i, tvJ_j, tvR_r] at q320
                have q320i := zneq rfl q320
                refine tw_push rfl ?_
                refine tw_istore rfl ?_
                refine tw_iinc rfl rfl ?_
                refine tw_goto rfl ?_
                have hlen : (Int32.ofNat (G.2.1 q).length).toInt = ((ztx q).length : Int) := by rw [hX]; exact zofI (by omega)
                have hjl : j < (ztx q).length := by have z := q317; omega
                rcases his with ⟨e1, e2, e3⟩ | ⟨e1, -⟩
                rotate_left
                · exact absurd e1 q318
                have hpy : (tvI (tF h 111 28) + y).toNatClampNeg = (ms h).1 + j := zof_cl (zadN (mPz h0.1) hy (by omega) (by omega))
                have hTy : tA h 132 (tvI (tF h 111 28) + y).toNatClampNeg = T ((ms h).1 + j) := by rw [hpy, hT]
                have ec : (G.2.1 q).getD y.toNatClampNeg 0 = (ztx q).getD j 0 := by rw [hX, zof_cl hy]
                have hc : ¬ T ((ms h).1 + j) = (ztx q).getD j 0 := fun z => q320 (hTy.trans (z.trans ec.symm))
                exact tG_cut (zW_mono zTt G dp) (Or.inr ⟨rfl, rfl, rfl, j + 1, y + 1, _, zincN hy (by omega), by omega, Or.inr ⟨rfl, fun z => hc (rQ_at _ _ _ (rW_i.mp z).2 hjl)⟩, rfl⟩)
              · try dsimp only [tvI_i, tvJ_j, tvR_r] at q320
                have q320i := zeqi rfl q320
                refine tw_push rfl ?_
                refine tw_goto rfl ?_
                refine tw_istore rfl ?_
                refine tw_iinc rfl rfl ?_
                refine tw_goto rfl ?_
                have hlen : (Int32.ofNat (G.2.1 q).length).toInt = ((ztx q).length : Int) := by rw [hX]; exact zofI (by omega)
                have hjl : j < (ztx q).length := by have z := q317; omega
                rcases his with ⟨e1, e2, e3⟩ | ⟨e1, -⟩
                rotate_left
                · exact absurd e1 q318
                have hpy : (tvI (tF h 111 28) + y).toNatClampNeg = (ms h).1 + j := zof_cl (zadN (mPz h0.1) hy (by omega) (by omega))
                have hTy : tA h 132 (tvI (tF h 111 28) + y).toNatClampNeg = T ((ms h).1 + j) := by rw [hpy, hT]
                have ec : (G.2.1 q).getD y.toNatClampNeg 0 = (ztx q).getD j 0 := by rw [hX, zof_cl hy]
                have hc : T ((ms h).1 + j) = (ztx q).getD j 0 := hTy.symm.trans (q320.trans ec)
                exact tG_cut (zW_mono zTt G dp) (Or.inr ⟨rfl, rfl, rfl, j + 1, y + 1, _, zincN hy (by omega), by omega, Or.inl ⟨rfl, e2, fun i hi => (Classical.em (i = j)).elim (fun z => by rw [z]; exact hc) (fun z => e3 i (by omega))⟩, rfl⟩)
        · try dsimp only [tvI_i, tvJ_j, tvR_r] at q316
          have q316i := zeqi rfl q316
          refine tw_push rfl ?_
          refine tw_goto rfl ?_
          refine tw_istore rfl ?_
          refine tw_push rfl ?_
          refine tw_istore rfl ?_
          have hix : x.toNatClampNeg = (ms h).1 + k := zof_cl hx
          have hTx : tA h 132 x.toNatClampNeg = T ((ms h).1 + k) := by rw [hix, hT]
          have hnd : ¬ ((ms h).1 + k < n ∧ 97 ≤ (T ((ms h).1 + k)).toInt ∧ (T ((ms h).1 + k)).toInt ≤ 122) := by
            have z0 := q293
            have z1 := q304
            have z2 := q315
            try rw [hTx] at z1
            try rw [hTx] at z2
            omega
          have hE9 : rE T n (ms h).1 = (ms h).1 + k := he.symm.trans (rE_n hnd)
          have hsb : (x - tvI (tF h 111 28)).toInt = ((((ms h).1 + k : Nat) : Int)) - (((ms h).1 : Nat) : Int) := zsb hx (mPz h0.1) (by omega) (by omega)
          have hLn : (Int32.ofNat (G.2.1 q).length).toInt = ((ztx q).length : Int) := by rw [hX]; exact zofI (by omega)
          have hEL : x - tvI (tF h 111 28) = Int32.ofNat (G.2.1 q).length ↔ rE T n (ms h).1 = (ms h).1 + (ztx q).length := ⟨fun z => by rw [z, hLn] at hsb; omega, fun z => Int32.toInt_inj.mp (by rw [hsb, hLn]; omega)⟩
          refine tG_loop (zW_mono zTt G dp) (zW_conj zTt G dp) (V := fun pc L st h9 _ _ => pc = 63 ∧ st = [] ∧ h = h9 ∧ ∃ (j : Nat) (y is : Int32), y.toInt = j ∧ j ≤ (ztx q).length ∧ ((is = 1 ∧ rE T n (ms h).1 = (ms h).1 + (ztx q).length ∧ ∀ i, i < j → T ((ms h).1 + i) = (ztx q).getD i 0) ∨ (is = 0 ∧ ¬ rW T n (ms h).1 (ztx q) = true)) ∧ L = [some (.ref 111), some (.retAddr q), some (.int x), some (.int is), some (.int y)]) ?_ (⟨rfl, rfl, rfl, 0, 0, _, rfl, Nat.zero_le _, Or.inl ⟨rfl, hEL.mp q316, fun i hi => by omega⟩, rfl⟩)
          rintro _ _ _ _ _ _ ⟨rfl, rfl, rfl, j, y, is, hy, hjn, his, rfl⟩
          refine tw_iload rfl rfl ?_
          refine tw_aload rfl rfl ?_
          refine tw_tlen rfl ?_
          refine tw_ic_ge rfl (fun q321 => ?_) (fun q321 => ?_)
          · try dsimp only [tvI_i, tvJ_j, tvR_r] at q321
            refine tw_iload rfl rfl ?_
            have hlen : (Int32.ofNat (G.2.1 q).length).toInt = ((ztx q).length : Int) := by rw [hX]; exact zofI (by omega)
            have hj : j = (ztx q).length := by have z := q321; omega
            rcases his with ⟨e1, e2, e3⟩ | ⟨e1, e2⟩
            · exact tw_iret rfl ⟨Or.inl ⟨rW_i.mpr ⟨e2, rQ_of _ _ (fun k hk => e3 k (by omega))⟩, congrArg (fun z => some (Value.int z)) e1⟩, rfl⟩
            · exact tw_iret rfl ⟨Or.inr ⟨e2, congrArg (fun z => some (Value.int z)) e1⟩, rfl⟩
          · try dsimp only [tvI_i, tvJ_j, tvR_r] at q321
            refine tw_iload rfl rfl ?_
            refine tw_if_eq rfl (fun q322 => ?_) (fun q322 => ?_)
            · try dsimp only [tvI_i, tvJ_j, tvR_r] at q322
              have q322i := zeqi (Y := 0) (by decide) q322
              refine tw_iload rfl rfl ?_
              have hlen : (Int32.ofNat (G.2.1 q).length).toInt = ((ztx q).length : Int) := by rw [hX]; exact zofI (by omega)
              rcases his with ⟨e1, -, -⟩ | ⟨e1, e2⟩
              · exact absurd (e1.symm.trans q322) (by decide)
              · exact tw_iret rfl ⟨Or.inr ⟨e2, congrArg (fun z => some (Value.int z)) e1⟩, rfl⟩
            · try dsimp only [tvI_i, tvJ_j, tvR_r] at q322
              have q322i := zneq (Y := 0) (by decide) q322
              refine tw_aload rfl rfl ?_
              refine tw_getS rfl (hs_111_35 hs) ?_
              refine tw_aload rfl rfl ?_
              refine tw_getS rfl (hi_111_28 hs) ?_
              refine tw_iload rfl rfl ?_
              refine tw_iadd rfl ?_
              refine tw_bald rfl (fun f323 => ?_)
              refine tw_aload rfl rfl ?_
              refine tw_iload rfl rfl ?_
              refine tw_chr rfl (fun _ => ?_)
              refine tw_ic_ne rfl (fun q324 => ?_) (fun q324 => ?_)
              · try dsimp only [tvI_i, tvJ_j, tvR_r] at q324
                have q324i := zneq rfl q324
                refine tw_push rfl ?_
                refine tw_istore rfl ?_
                refine tw_iinc rfl rfl ?_
                refine tw_goto rfl ?_
                have hlen : (Int32.ofNat (G.2.1 q).length).toInt = ((ztx q).length : Int) := by rw [hX]; exact zofI (by omega)
                have hjl : j < (ztx q).length := by have z := q321; omega
                rcases his with ⟨e1, e2, e3⟩ | ⟨e1, -⟩
                rotate_left
                · exact absurd e1 q322
                have hpy : (tvI (tF h 111 28) + y).toNatClampNeg = (ms h).1 + j := zof_cl (zadN (mPz h0.1) hy (by omega) (by omega))
                have hTy : tA h 132 (tvI (tF h 111 28) + y).toNatClampNeg = T ((ms h).1 + j) := by rw [hpy, hT]
                have ec : (G.2.1 q).getD y.toNatClampNeg 0 = (ztx q).getD j 0 := by rw [hX, zof_cl hy]
                have hc : ¬ T ((ms h).1 + j) = (ztx q).getD j 0 := fun z => q324 (hTy.trans (z.trans ec.symm))
                exact tG_cut (zW_mono zTt G dp) (Or.inr ⟨rfl, rfl, rfl, j + 1, y + 1, _, zincN hy (by omega), by omega, Or.inr ⟨rfl, fun z => hc (rQ_at _ _ _ (rW_i.mp z).2 hjl)⟩, rfl⟩)
              · try dsimp only [tvI_i, tvJ_j, tvR_r] at q324
                have q324i := zeqi rfl q324
                refine tw_push rfl ?_
                refine tw_goto rfl ?_
                refine tw_istore rfl ?_
                refine tw_iinc rfl rfl ?_
                refine tw_goto rfl ?_
                have hlen : (Int32.ofNat (G.2.1 q).length).toInt = ((ztx q).length : Int) := by rw [hX]; exact zofI (by omega)
                have hjl : j < (ztx q).length := by have z := q321; omega
                rcases his with ⟨e1, e2, e3⟩ | ⟨e1, -⟩
                rotate_left
                · exact absurd e1 q322
                have hpy : (tvI (tF h 111 28) + y).toNatClampNeg = (ms h).1 + j := zof_cl (zadN (mPz h0.1) hy (by omega) (by omega))
                have hTy : tA h 132 (tvI (tF h 111 28) + y).toNatClampNeg = T ((ms h).1 + j) := by rw [hpy, hT]
                have ec : (G.2.1 q).getD y.toNatClampNeg 0 = (ztx q).getD j 0 := by rw [hX, zof_cl hy]
                have hc : T ((ms h).1 + j) = (ztx q).getD j 0 := hTy.symm.trans (q324.trans ec)
                exact tG_cut (zW_mono zTt G dp) (Or.inr ⟨rfl, rfl, rfl, j + 1, y + 1, _, zincN hy (by omega), by omega, Or.inl ⟨rfl, e2, fun i hi => (Classical.em (i = j)).elim (fun z => by rw [z]; exact hc) (fun z => e3 i (by omega))⟩, rfl⟩)
      · try dsimp only [tvI_i, tvJ_j, tvR_r] at q315
        refine tw_iinc rfl rfl ?_
        refine tw_goto rfl ?_
        have hix : x.toNatClampNeg = (ms h).1 + k := zof_cl hx
        have hTx : tA h 132 x.toNatClampNeg = T ((ms h).1 + k) := by rw [hix, hT]
        have z1 := q304
        have z2 := q315
        rw [hTx] at z1 z2
        have hlt : (ms h).1 + k < n := by omega
        exact tG_cut (zW_mono zTt G dp) (Or.inr ⟨rfl, rfl, rfl, k + 1, x + 1, _, _, zincL hx q293, (rE_y ⟨hlt, by omega, by omega⟩).symm.trans he, by omega, rfl⟩)
/-- places that bear reading, fault or not -/
noncomputable def mZp (h : zH) : Prop := (0 ≤ (tvI (tF h 111 28)).toInt ∧ 0 ≤ (tvI (tF h 111 27)).toInt) ∧ (tvI (tF h 111 28)).toInt ≤ 500 ∧ (tvI (tF h 111 27)).toInt ≤ 400
theorem mZp_k {h h2 : zH} (z : mZp h) (a : tF h2 111 28 = tF h 111 28) (b : tF h2 111 27 = tF h 111 27) : mZp h2 := by unfold mZp; rw [a, b]; exact z
theorem mZp_p {h : zH} (p : mP h) : mZp h := by have := p.2.1; exact ⟨⟨by omega, by omega⟩, by omega, by omega⟩
theorem mZp_s {h h3 : zH} {X : Int32} (z : mZp h) (s : mSet 28 X h h3) (hX : 0 ≤ X.toInt ∧ X.toInt ≤ 500) : mZp h3 := by
  unfold mZp
  rw [mI_x s, mI_o s (by decide)]
  exact ⟨⟨hX.1, z.1.2⟩, hX.2, z.2.2⟩
theorem mZp_o {h h3 : zH} {X : Int32} {b : Nat} (z : mZp h) (s : mSet b X h h3) (hb : b ≠ 28 ∧ b ≠ 27) : mZp h3 := mZp_k z (mI_o s (fun w => hb.1 w.symm)) (mI_o s (fun w => hb.2 w.symm))
theorem cNum2 {y t : Int32} {V Q : Nat} (hy : y.toInt = (V : Int)) (hV : V + 1 ≤ Q) (hQ : Q ≤ 10000) (ht : 48 ≤ t.toInt ∧ t.toInt ≤ 57) : (10 * y + t - 48).toInt = ((10 * V + (t.toInt - 48).toNat : Nat) : Int) ∧ 10 * V + (t.toInt - 48).toNat + 1 ≤ Q * 10 := by
  have h1 : (10 * y).toInt = 10 * V := by
    rw [Int32.toInt_mul, hy, show (10 : Int32).toInt = 10 from rfl]
    exact Int.bmod_eq_of_le (by show (-2147483648 : Int) ≤ 10 * (V : Int); omega) (by show 10 * (V : Int) < (2147483648 : Int); omega)
  have h2 : (10 * y + t).toInt = 10 * V + t.toInt := by
    rw [Int32.toInt_add, h1]
    exact Int.bmod_eq_of_le (by show (-2147483648 : Int) ≤ 10 * (V : Int) + t.toInt; omega) (by show 10 * (V : Int) + t.toInt < (2147483648 : Int); omega)
  refine ⟨?_, by omega⟩
  rw [Int32.toInt_sub, h2, show (48 : Int32).toInt = 48 from rfl]
  exact (Int.bmod_eq_of_le (by show (-2147483648 : Int) ≤ 10 * (V : Int) + t.toInt - 48; omega) (by show 10 * (V : Int) + t.toInt - 48 < (2147483648 : Int); omega)).trans (by omega)
theorem g_digits {G : zG} (hG : G.1 = zProg) (hX : G.2.1 = ztx) {h : zH} {T : Nat → Int32} {n : Nat} (hs : tSh h) (hp : mP h) (hT : tA h 132 = T) (hN : mn h = n) {m : Int32} {M : Nat} (hm : m.toInt = M) (hM : M ≤ 99999) (hB : rB T n (ms h).1 = (ms h).1) : tC zTt G 211 [.ref 111, .int m] h (fun w h2 => mFr h h2 ∧ ((∃ q, rM T n M (ms h).1 = .inr q ∧ w = some (.int (Int32.ofNat q.2)) ∧ mP h2 ∧ ms h2 = rA q.1 (ms h) ∧ mSk h2 = mSk h ∧ tF h2 111 32 = tF h 111 32) ∨ (∃ e x, rM T n M (ms h).1 = .inl e ∧ w = some (.int x) ∧ 0 ≤ x.toInt ∧ mFt h2 e ∧ mZp h2))) := by
  refine tC_in (by rw [hG]; rfl) (fun dp => ?_)
  have g0 := mFr_r hs
  have hpn : (ms h).1 ≤ n := mPle hp hN
  have c59 : (5 : Int32).toInt = 5 := rfl
  have hn4 : n ≤ 400 := by have a := mNl hp hN; have b := hp.2.1; omega
  refine tw_aload rfl rfl ?_
  refine tw_getS rfl (hi_111_28 hs) ?_
  refine tw_istore rfl ?_
  refine tw_aload rfl rfl ?_
  refine tw_virt0 rfl (g_sign hG hX (g0).1 ((mFr_T g0).trans hT) ((mFr_n g0).trans hN) ⟨hp.2.1.1, by have := hp.2.1; omega⟩) (fun wp325 hp325 p325 => ?_)
  obtain ⟨⟨cp325, rfl, kp325⟩, rfl⟩ := p325
  refine tw_stat1 rfl (g_isDigit hG) (fun w9 h9 p326 => ?_)
  obtain ⟨⟨p326, rfl⟩ | ⟨p326, rfl⟩, rfl⟩ := p326
  · try dsimp only [tvI_i, tvJ_j, tvR_r] at p326
    refine tw_if_ne rfl (fun _ => ?_) (fun z => absurd z (by decide))
    refine tw_push rfl ?_
    refine tw_istore rfl ?_
    refine tw_push rfl ?_
    refine tw_istore rfl ?_
    refine tG_loop (zW_mono zTt G dp) (zW_conj zTt G dp) (V := fun pc L st h9 _ _ => pc = 31 ∧ st = [] ∧ ∃ (h1 : zH) (k : Nat) (x y : Int32), h1 = h9 ∧ mFr h h1 ∧ mP h1 ∧ ms h1 = rA ((ms h).1 + k) (ms h) ∧ mSk h1 = mSk h ∧ tF h1 111 32 = tF h 111 32 ∧ (ms h).1 + k ≤ n ∧ rD T n ((ms h).1 + k) = rD T n (ms h).1 ∧ x.toInt = k ∧ y.toInt = ((rV T (ms h).1 (min k 5) : Nat) : Int) ∧ rV T (ms h).1 (min k 5) + 1 ≤ 10 ^ (min k 5) ∧ L = [some (.ref 111), some (.int m), some (.int (tvI (tF h 111 28))), some (.int x), some (.int y)]) ?_ (⟨rfl, rfl, _, 0, 0, 0, rfl, g0, hp, rfl, rfl, rfl, hpn, rfl, rfl, rfl, Nat.le_refl 1, rfl⟩)
    rintro _ _ _ _ _ _ ⟨rfl, rfl, h1, k, x, y, rfl, g1, p1, hms, hsk, h32, hkn, hrd, hx, hy, hyb, rfl⟩
    refine tw_aload rfl rfl ?_
    refine tw_virt0 rfl (g_sign hG hX (g1).1 ((mFr_T g1).trans hT) ((mFr_n g1).trans hN) ⟨p1.2.1.1, by have := p1.2.1; omega⟩) (fun wp327 hp327 p327 => ?_)
    obtain ⟨⟨cp327, rfl, kp327⟩, rfl⟩ := p327
    refine tw_stat1 rfl (g_isDigit hG) (fun w9 h9 p328 => ?_)
    obtain ⟨⟨p328, rfl⟩ | ⟨p328, rfl⟩, rfl⟩ := p328
    · try dsimp only [tvI_i, tvJ_j, tvR_r] at p328
      refine tw_if_eq rfl (fun z => absurd z (by decide)) (fun _ => ?_)
      refine tw_iload rfl rfl ?_
      refine tw_push rfl ?_
      refine tw_ic_ge rfl (fun q329 => ?_) (fun q329 => ?_)
      · try dsimp only [tvI_i, tvJ_j, tvR_r] at q329
        refine tw_iload rfl rfl ?_
        refine tw_istore rfl ?_
        refine tw_iinc rfl rfl ?_
        refine tw_aload rfl rfl ?_
        refine tw_dup rfl ?_
        refine tw_getS rfl (hi_111_28 (g1).1) ?_
        refine tw_push rfl ?_
        refine tw_iadd rfl ?_
        refine tw_put rfl (fun f330 => ?_)
        refine tG_setm f330 (hw_111_28 f330 (g1).1) (fun hf330 ef330 => ?_)
        try dsimp only [tvI_i] at ef330
        have gf330 := mFr_s g1 ef330 (by unfold mFs; omega)
        have wf330 := (sgm_d kp327).mp p328
        rw [hms] at wf330
        have wf330 : (ms h).1 + k < n ∧ 48 ≤ (T ((ms h).1 + k)).toInt ∧ (T ((ms h).1 + k)).toInt ≤ 57 := wf330
        obtain ⟨pf330, sf330, tf330⟩ := mTo p1 ((mFr_n g1).trans hN) ef330 (v := (ms h).1 + (k + 1)) (zincN (n := (ms h).1 + k) (by rw [mPl p1, hms]; rfl) (by omega)) wf330.1
        refine tw_goto rfl ?_
        have hd2 := (rD_y wf330).symm.trans hrd
        have hk5 : 5 ≤ k := by have z := q329; omega
        have hm5 : min k 5 = 5 := by omega
        have hm6 : min (k + 1) 5 = 5 := by omega
        rw [hm5] at hy hyb
        exact tG_cut (zW_mono zTt G dp) (Or.inr ⟨rfl, rfl, _, k + 1, _, _, rfl, gf330, pf330, (by rw [sf330, hms]; rfl), tf330.trans hsk, (mI_o ef330 (by decide)).trans h32, (by omega), hd2, zincN hx (by omega), (by rw [hm6]; exact hy), (by rw [hm6]; exact hyb), rfl⟩)
      · try dsimp only [tvI_i, tvJ_j, tvR_r] at q329
        refine tw_push rfl ?_
        refine tw_iload rfl rfl ?_
        refine tw_imul rfl ?_
        refine tw_aload rfl rfl ?_
        refine tw_virt0 rfl (g_sign hG hX (g1).1 ((mFr_T g1).trans hT) ((mFr_n g1).trans hN) ⟨p1.2.1.1, by have := p1.2.1; omega⟩) (fun wp331 hp331 p331 => ?_)
        obtain ⟨⟨cp331, rfl, kp331⟩, rfl⟩ := p331
        refine tw_iadd rfl ?_
        refine tw_push rfl ?_
        refine tw_isub rfl ?_
        refine tw_goto rfl ?_
        refine tw_istore rfl ?_
        refine tw_iinc rfl rfl ?_
        refine tw_aload rfl rfl ?_
        refine tw_dup rfl ?_
        refine tw_getS rfl (hi_111_28 (g1).1) ?_
        refine tw_push rfl ?_
        refine tw_iadd rfl ?_
        refine tw_put rfl (fun f332 => ?_)
        refine tG_setm f332 (hw_111_28 f332 (g1).1) (fun hf332 ef332 => ?_)
        try dsimp only [tvI_i] at ef332
        have gf332 := mFr_s g1 ef332 (by unfold mFs; omega)
        have wf332 := (sgm_d kp327).mp p328
        rw [hms] at wf332
        have wf332 : (ms h).1 + k < n ∧ 48 ≤ (T ((ms h).1 + k)).toInt ∧ (T ((ms h).1 + k)).toInt ≤ 57 := wf332
        obtain ⟨pf332, sf332, tf332⟩ := mTo p1 ((mFr_n g1).trans hN) ef332 (v := (ms h).1 + (k + 1)) (zincN (n := (ms h).1 + k) (by rw [mPl p1, hms]; rfl) (by omega)) wf332.1
        refine tw_goto rfl ?_
        have hd2 := (rD_y wf332).symm.trans hrd
        have hk5 : k < 5 := by have z := q329; omega
        have hm5 : min k 5 = k := by omega
        have hm6 : min (k + 1) 5 = k + 1 := by omega
        rw [hm5] at hy hyb
        have hc2 : cp331 = T ((ms h).1 + k) := kp331.elim (fun z => by rw [z.2, hms]; rfl) (fun z => absurd (by rw [hms]; exact wf332.1) z.1)
        have hq4 : 10 ^ k ≤ 10000 := Nat.pow_le_pow_right (n := 10) (by omega) (show k ≤ 4 by omega)
        have hnn := cNum2 hy hyb hq4 (t := T ((ms h).1 + k)) ⟨wf332.2.1, wf332.2.2⟩
        exact tG_cut (zW_mono zTt G dp) (Or.inr ⟨rfl, rfl, _, k + 1, _, _, rfl, gf332, pf332, (by rw [sf332, hms]; rfl), tf332.trans hsk, (mI_o ef332 (by decide)).trans h32, (by omega), hd2, zincN hx (by omega), (by rw [hm6]; show (10 * y + cp331 - 48).toInt = _; rw [hc2]; exact hnn.1), (by rw [hm6, Nat.pow_succ]; exact hnn.2), rfl⟩)
    · try dsimp only [tvI_i, tvJ_j, tvR_r] at p328
      refine tw_if_eq rfl (fun _ => ?_) (fun z => absurd z (by decide))
      refine tw_iload rfl rfl ?_
      refine tw_push rfl ?_
      refine tw_ic_gt rfl (fun q333 => ?_) (fun q333 => ?_)
      · try dsimp only [tvI_i, tvJ_j, tvR_r] at q333
        refine tw_aload rfl rfl ?_
        refine tw_push rfl ?_
        refine tw_iload rfl rfl ?_
        refine tw_virt2 rfl (g_fails hG hX (g1).1 p1 ((mFr_T g1).trans hT) ((mFr_n g1).trans hN) (w := 1) (b := (ms h).1) rfl (by decide) (mPl hp) (by omega)) (fun wp334 hp334 p334 => ?_)
        obtain ⟨rfl, gp334, Fp334, ip334, jp334⟩ := p334
        have ggp334 := mFr_t g1 gp334
        refine tw_iload rfl rfl ?_
        have w0 := (sgm_d kp325).mp p326
        have hge := rD_ge (T := T) (n := n) (p := (ms h).1 + 1)
        rw [← rD_y w0] at hge
        have hnd : rD T n ((ms h).1 + k) = (ms h).1 + k := rD_n (fun z => p328 ((sgm_d kp327).mpr (by rw [hms]; exact z)))
        have hrb : rD T n (ms h).1 = (ms h).1 + k := hrd.symm.trans hnd
        have hk0 : k ≠ 0 := by omega
        have z0 := q333
        have hyn : 0 ≤ y.toInt := by omega
        have hbig : 5 < k ∨ M < rV T (ms h).1 k := by
          rcases Nat.lt_or_ge 5 k with a | a
          · exact Or.inl a
          · rw [show min k 5 = k by omega] at hy; exact Or.inr (by omega)
        exact tw_iret rfl ⟨ggp334, Or.inr ⟨_, _, rM_b hB hrb hk0 hbig, rfl, hyn, Fp334, mZp_k (mZp_p p1) ip334 jp334⟩⟩
      · try dsimp only [tvI_i, tvJ_j, tvR_r] at q333
        refine tw_iload rfl rfl ?_
        refine tw_iload rfl rfl ?_
        refine tw_ic_le rfl (fun q335 => ?_) (fun q335 => ?_)
        · try dsimp only [tvI_i, tvJ_j, tvR_r] at q335
          refine tw_iload rfl rfl ?_
          have w0 := (sgm_d kp325).mp p326
          have hge := rD_ge (T := T) (n := n) (p := (ms h).1 + 1)
          rw [← rD_y w0] at hge
          have hnd : rD T n ((ms h).1 + k) = (ms h).1 + k := rD_n (fun z => p328 ((sgm_d kp327).mpr (by rw [hms]; exact z)))
          have hrb : rD T n (ms h).1 = (ms h).1 + k := hrd.symm.trans hnd
          have hk0 : k ≠ 0 := by omega
          have z0 := q333
          have z1 := q335
          have hyn : 0 ≤ y.toInt := by omega
          have hk5 : k ≤ 5 := by omega
          rw [show min k 5 = k by omega] at hy
          exact tw_iret rfl ⟨g1, Or.inl ⟨_, rM_c hB hrb hk0 (by omega), congrArg (fun z => some (Value.int z)) (zof hy), p1, hms, hsk, h32⟩⟩
        · try dsimp only [tvI_i, tvJ_j, tvR_r] at q335
          refine tw_aload rfl rfl ?_
          refine tw_push rfl ?_
          refine tw_iload rfl rfl ?_
          refine tw_virt2 rfl (g_fails hG hX (g1).1 p1 ((mFr_T g1).trans hT) ((mFr_n g1).trans hN) (w := 1) (b := (ms h).1) rfl (by decide) (mPl hp) (by omega)) (fun wp336 hp336 p336 => ?_)
          obtain ⟨rfl, gp336, Fp336, ip336, jp336⟩ := p336
          have ggp336 := mFr_t g1 gp336
          refine tw_iload rfl rfl ?_
          have w0 := (sgm_d kp325).mp p326
          have hge := rD_ge (T := T) (n := n) (p := (ms h).1 + 1)
          rw [← rD_y w0] at hge
          have hnd : rD T n ((ms h).1 + k) = (ms h).1 + k := rD_n (fun z => p328 ((sgm_d kp327).mpr (by rw [hms]; exact z)))
          have hrb : rD T n (ms h).1 = (ms h).1 + k := hrd.symm.trans hnd
          have hk0 : k ≠ 0 := by omega
          have z0 := q333
          have z1 := q335
          have hyn : 0 ≤ y.toInt := by omega
          have hbig : 5 < k ∨ M < rV T (ms h).1 k := by
            rcases Nat.lt_or_ge 5 k with a | a
            · exact Or.inl a
            · rw [show min k 5 = k by omega] at hy; exact Or.inr (by omega)
          exact tw_iret rfl ⟨ggp336, Or.inr ⟨_, _, rM_b hB hrb hk0 hbig, rfl, hyn, Fp336, mZp_k (mZp_p p1) ip336 jp336⟩⟩
  · try dsimp only [tvI_i, tvJ_j, tvR_r] at p326
    refine tw_if_ne rfl (fun z => absurd z (by decide)) (fun _ => ?_)
    refine tw_aload rfl rfl ?_
    refine tw_push rfl ?_
    refine tw_aload rfl rfl ?_
    refine tw_getS rfl (hi_111_28 (g0).1) ?_
    refine tw_virt2 rfl (g_fails hG hX (g0).1 hp ((mFr_T g0).trans hT) ((mFr_n g0).trans hN) (w := 0) (b := (ms h).1) rfl (by decide) (mPl hp) (by omega)) (fun wp337 hp337 p337 => ?_)
    obtain ⟨rfl, gp337, Fp337, ip337, jp337⟩ := p337
    have ggp337 := mFr_t g0 gp337
    refine tw_push rfl ?_
    have hnd : rD T n (ms h).1 = (ms h).1 := rD_n (fun z => p326 ((sgm_d kp325).mpr z))
    exact tw_iret rfl ⟨ggp337, Or.inr ⟨_, _, rM_a hB hnd, rfl, by decide, Fp337, mZp_k (mZp_p hp) ip337 jp337⟩⟩
theorem mhead {S : List Nat} {k : Nat} (h : S.headD 0 = k + 1) : S = (k + 1) :: S.tail := by
  cases S with
  | nil => cases h
  | cons x r => rw [show x = k + 1 from h]; rfl
theorem mT_y (r o : List Nat) : mT (102 :: r) o = mT r (o ++ [100102]) := if_pos rfl
theorem mN_y (r o : List Nat) : mN (10 :: r) o = mN r (o ++ [100110]) := if_pos rfl
theorem mA_y (r o : List Nat) : mA (11 :: r) o = mA r (o ++ [100109]) := if_pos rfl
theorem mO_y (r o : List Nat) : mO1 (12 :: r) o = mO1 r (o ++ [100108]) := if_pos rfl
theorem mP_y (r o : List Nat) : mPm (103 :: r) o = mPm r (o ++ [100100]) := if_pos rfl
theorem mM_y (r o : List Nat) : mPm (104 :: r) o = mPm r (o ++ [100101]) := (if_neg (by decide)).trans (if_pos rfl)
theorem mne {S : List Nat} {k : Nat} (h : S.headD 0 = k + 1) : S ≠ [] := fun z => by rw [z] at h; cases h
theorem g_makesProducts {G : zG} (hG : G.1 = zProg) (hX : G.2.1 = ztx) {h : zH} {T : Nat → Int32} {n : Nat} (hs : tSh h) (hp : mP h) (hT : tA h 132 = T) (hN : mn h = n)  : tC zTt G 214 [.ref 111] h (fun w h2 => w = none ∧ mFr h h2 ∧ mP h2 ∧ (ms h2).1 = (ms h).1 ∧ (ms h2).2.1 = (ms h).2.1 ∧ (mSk h2, (ms h2).2.2) = mT (mSk h) (ms h).2.2 ∧ tF h2 111 32 = tF h 111 32) := by
  refine tC_in (by rw [hG]; rfl) (fun dp => ?_)
  have g0 := mFr_r hs
  have hpn : (ms h).1 ≤ n := mPle hp hN
  refine tG_loop (zW_mono zTt G dp) (zW_conj zTt G dp) (V := fun pc L st h9 _ _ => pc = 0 ∧ st = [] ∧ ∃ h1, h1 = h9 ∧ mFr h h1 ∧ mP h1 ∧ (ms h1).1 = (ms h).1 ∧ (ms h1).2.1 = (ms h).2.1 ∧ mT (mSk h1) (ms h1).2.2 = mT (mSk h) (ms h).2.2 ∧ tF h1 111 32 = tF h 111 32 ∧ L = [some (.ref 111)]) ?_ (⟨rfl, rfl, _, rfl, g0, hp, rfl, rfl, rfl, rfl, rfl⟩)
  rintro _ _ _ _ _ _ ⟨rfl, rfl, h1, rfl, g1, p1, e1, e2, hL, h32, rfl⟩
  refine tw_aload rfl rfl ?_
  refine tw_virt0 rfl (g_top hG hX (g1).1 p1 ((mFr_T g1).trans hT) ((mFr_n g1).trans hN)) (fun wp338 hp338 p338 => ?_)
  obtain ⟨⟨cp338, rfl, Tp338⟩, rfl⟩ := p338
  refine tw_push rfl ?_
  refine tw_ic_ne rfl (fun q339 => ?_) (fun q339 => ?_)
  · try dsimp only [tvI_i, tvJ_j, tvR_r] at q339
    have q339i := zneq (Y := 102) (by decide) q339
    have hfin : (mSk h1, (ms h1).2.2) = mT (mSk h) (ms h).2.2 := by rw [← hL, mT_n (fun z => q339 ((tpm_k Tp338 (k := 102) (K := 102) rfl (by decide)).mpr z))]
    exact tw_vret rfl ⟨rfl, g1, p1, e1, e2, hfin, h32⟩
  · try dsimp only [tvI_i, tvJ_j, tvR_r] at q339
    have q339i := zeqi (Y := 102) (by decide) q339
    refine tw_aload rfl rfl ?_
    refine tw_push rfl ?_
    refine tw_push rfl ?_
    have hhd : (mSk h1).headD 0 = 102 := (tpm_k Tp338 (k := 102) (K := 102) rfl (by decide)).mp q339
    have hne := mne (k := 101) hhd
    have hst : mSk h1 = 102 :: (mSk h1).tail := mhead (k := 101) hhd
    refine tw_virt2 rfl (g_entry hG hX (g1).1 p1 ((mFr_T g1).trans hT) ((mFr_n g1).trans hN) ⟨by decide, by decide⟩) (fun wp340 hp340 p340 => ?_)
    obtain ⟨rfl, gp340, pp340e, sp340, tp340, dp340⟩ := p340
    have ggp340 := mFr_t g1 gp340
    refine tw_aload rfl rfl ?_
    refine tw_dup rfl ?_
    refine tw_getS rfl (hi_111_34 ggp340.1) ?_
    refine tw_push rfl ?_
    refine tw_isub rfl ?_
    refine tw_put rfl (fun f341 => ?_)
    refine tG_setm f341 (hw_111_34 f341 (ggp340).1) (fun hf341 ef341 => ?_)
    try dsimp only [tvI_i] at ef341
    have gf341 := mFr_s ggp340 ef341 (by unfold mFs; omega)
    have hnef341 : mSk hp340 ≠ [] := by rw [tp340]; exact hne
    obtain ⟨pf341, tf341, sf341, df341⟩ := mSk_pop pp340e hnef341 ef341
    refine tw_goto rfl ?_
    have hst : mSk h1 = 102 :: (mSk h1).tail := mhead (k := 101) hhd
    have hsp : mSk hf341 = (mSk h1).tail := by rw [tf341, tp340]
    have hms2 : ms hf341 = rU 100102 (ms h1) := by rw [sf341, sp340]; rfl
    have hlp : mT (mSk hf341) (ms hf341).2.2 = mT (mSk h) (ms h).2.2 := by rw [hsp, hms2, ← hL, hst]; exact (mT_y (mSk h1).tail _).symm
    exact tG_cut (zW_mono zTt G dp) (Or.inr ⟨rfl, rfl, _, rfl, gf341, pf341, by rw [hms2]; exact e1, by rw [hms2]; exact e2, hlp, df341.trans (dp340.trans h32), rfl⟩)
theorem g_makesNots {G : zG} (hG : G.1 = zProg) (hX : G.2.1 = ztx) {h : zH} {T : Nat → Int32} {n : Nat} (hs : tSh h) (hp : mP h) (hT : tA h 132 = T) (hN : mn h = n) (hD : mD h) : tC zTt G 219 [.ref 111] h (fun w h2 => w = none ∧ mFr h h2 ∧ mP h2 ∧ (ms h2).1 = (ms h).1 ∧ (ms h2).2.1 = (ms h).2.1 ∧ (mSk h2, (ms h2).2.2) = mN (mSk h) (ms h).2.2 ∧ mD h2) := by
  refine tC_in (by rw [hG]; rfl) (fun dp => ?_)
  have g0 := mFr_r hs
  have hpn : (ms h).1 ≤ n := mPle hp hN
  refine tG_loop (zW_mono zTt G dp) (zW_conj zTt G dp) (V := fun pc L st h9 _ _ => pc = 0 ∧ st = [] ∧ ∃ h1, h1 = h9 ∧ mFr h h1 ∧ mP h1 ∧ (ms h1).1 = (ms h).1 ∧ (ms h1).2.1 = (ms h).2.1 ∧ mN (mSk h1) (ms h1).2.2 = mN (mSk h) (ms h).2.2 ∧ mD h1 ∧ L = [some (.ref 111)]) ?_ (⟨rfl, rfl, _, rfl, g0, hp, rfl, rfl, rfl, hD, rfl⟩)
  rintro _ _ _ _ _ _ ⟨rfl, rfl, h1, rfl, g1, p1, e1, e2, hL, hDn, rfl⟩
  refine tw_aload rfl rfl ?_
  refine tw_virt0 rfl (g_top hG hX (g1).1 p1 ((mFr_T g1).trans hT) ((mFr_n g1).trans hN)) (fun wp342 hp342 p342 => ?_)
  obtain ⟨⟨cp342, rfl, Tp342⟩, rfl⟩ := p342
  refine tw_push rfl ?_
  refine tw_ic_ne rfl (fun q343 => ?_) (fun q343 => ?_)
  · try dsimp only [tvI_i, tvJ_j, tvR_r] at q343
    have q343i := zneq (Y := 10) (by decide) q343
    have hfin : (mSk h1, (ms h1).2.2) = mN (mSk h) (ms h).2.2 := by rw [← hL, mN_n (fun z => q343 ((tpm_k Tp342 (k := 10) (K := 10) rfl (by decide)).mpr z))]
    exact tw_vret rfl ⟨rfl, g1, p1, e1, e2, hfin, hDn⟩
  · try dsimp only [tvI_i, tvJ_j, tvR_r] at q343
    have q343i := zeqi (Y := 10) (by decide) q343
    refine tw_aload rfl rfl ?_
    refine tw_push rfl ?_
    refine tw_push rfl ?_
    have hhd : (mSk h1).headD 0 = 10 := (tpm_k Tp342 (k := 10) (K := 10) rfl (by decide)).mp q343
    have hne := mne (k := 9) hhd
    have hst : mSk h1 = 10 :: (mSk h1).tail := mhead (k := 9) hhd
    refine tw_virt2 rfl (g_entry hG hX (g1).1 p1 ((mFr_T g1).trans hT) ((mFr_n g1).trans hN) ⟨by decide, by decide⟩) (fun wp344 hp344 p344 => ?_)
    obtain ⟨rfl, gp344, pp344e, sp344, tp344, dp344⟩ := p344
    have ggp344 := mFr_t g1 gp344
    refine tw_aload rfl rfl ?_
    refine tw_dup rfl ?_
    refine tw_getS rfl (hi_111_34 ggp344.1) ?_
    refine tw_push rfl ?_
    refine tw_isub rfl ?_
    refine tw_put rfl (fun f345 => ?_)
    refine tG_setm f345 (hw_111_34 f345 (ggp344).1) (fun hf345 ef345 => ?_)
    try dsimp only [tvI_i] at ef345
    have gf345 := mFr_s ggp344 ef345 (by unfold mFs; omega)
    have hnef345 : mSk hp344 ≠ [] := by rw [tp344]; exact hne
    obtain ⟨pf345, tf345, sf345, df345⟩ := mSk_pop pp344e hnef345 ef345
    refine tw_aload rfl rfl ?_
    refine tw_dup rfl ?_
    refine tw_getS rfl (hi_111_32 (gf345).1) ?_
    refine tw_push rfl ?_
    refine tw_isub rfl ?_
    refine tw_put rfl (fun f346 => ?_)
    refine tG_setm f346 (hw_111_32 f346 (gf345).1) (fun hf346 ef346 => ?_)
    try dsimp only [tvI_i] at ef346
    have gf346 := mFr_s gf345 ef346 (by unfold mFs; omega)
    have hdf346 : (tvI (tF hf345 111 32)).toInt = ((mDp (mSk hf345) + 1 : Nat) : Int) := by
      rw [df345, dp344]
      refine (show (tvI (tF h1 111 32)).toInt = (mDp (mSk h1) : Int) from hDn).trans ?_
      rw [tf345, tp344]
      exact congrArg (fun z : Nat => (z : Int)) ((congrArg mDp hst).trans (mDp_c (by decide)))
    obtain ⟨pf346, tf346, sf346, ddf346⟩ := mDn pf345 ef346 hdf346 rfl
    refine tw_goto rfl ?_
    have hst : mSk h1 = 10 :: (mSk h1).tail := mhead (k := 9) hhd
    have hsp : mSk hf346 = (mSk h1).tail := by rw [tf346, tf345, tp344]
    have hms2 : ms hf346 = rU 100110 (ms h1) := by rw [sf346, sf345, sp344]; rfl
    have hlp : mN (mSk hf346) (ms hf346).2.2 = mN (mSk h) (ms h).2.2 := by rw [hsp, hms2, ← hL, hst]; exact (mN_y (mSk h1).tail _).symm
    exact tG_cut (zW_mono zTt G dp) (Or.inr ⟨rfl, rfl, _, rfl, gf346, pf346, by rw [hms2]; exact e1, by rw [hms2]; exact e2, hlp, ddf346, rfl⟩)
theorem g_makesAnds {G : zG} (hG : G.1 = zProg) (hX : G.2.1 = ztx) {h : zH} {T : Nat → Int32} {n : Nat} (hs : tSh h) (hp : mP h) (hT : tA h 132 = T) (hN : mn h = n)  : tC zTt G 220 [.ref 111] h (fun w h2 => w = none ∧ mFr h h2 ∧ mP h2 ∧ (ms h2).1 = (ms h).1 ∧ (ms h2).2.1 = (ms h).2.1 ∧ (mSk h2, (ms h2).2.2) = mA (mSk h) (ms h).2.2 ∧ tF h2 111 32 = tF h 111 32) := by
  refine tC_in (by rw [hG]; rfl) (fun dp => ?_)
  have g0 := mFr_r hs
  have hpn : (ms h).1 ≤ n := mPle hp hN
  refine tG_loop (zW_mono zTt G dp) (zW_conj zTt G dp) (V := fun pc L st h9 _ _ => pc = 0 ∧ st = [] ∧ ∃ h1, h1 = h9 ∧ mFr h h1 ∧ mP h1 ∧ (ms h1).1 = (ms h).1 ∧ (ms h1).2.1 = (ms h).2.1 ∧ mA (mSk h1) (ms h1).2.2 = mA (mSk h) (ms h).2.2 ∧ tF h1 111 32 = tF h 111 32 ∧ L = [some (.ref 111)]) ?_ (⟨rfl, rfl, _, rfl, g0, hp, rfl, rfl, rfl, rfl, rfl⟩)
  rintro _ _ _ _ _ _ ⟨rfl, rfl, h1, rfl, g1, p1, e1, e2, hL, h32, rfl⟩
  refine tw_aload rfl rfl ?_
  refine tw_virt0 rfl (g_top hG hX (g1).1 p1 ((mFr_T g1).trans hT) ((mFr_n g1).trans hN)) (fun wp347 hp347 p347 => ?_)
  obtain ⟨⟨cp347, rfl, Tp347⟩, rfl⟩ := p347
  refine tw_push rfl ?_
  refine tw_ic_ne rfl (fun q348 => ?_) (fun q348 => ?_)
  · try dsimp only [tvI_i, tvJ_j, tvR_r] at q348
    have q348i := zneq (Y := 11) (by decide) q348
    have hfin : (mSk h1, (ms h1).2.2) = mA (mSk h) (ms h).2.2 := by rw [← hL, mA_n (fun z => q348 ((tpm_k Tp347 (k := 11) (K := 11) rfl (by decide)).mpr z))]
    exact tw_vret rfl ⟨rfl, g1, p1, e1, e2, hfin, h32⟩
  · try dsimp only [tvI_i, tvJ_j, tvR_r] at q348
    have q348i := zeqi (Y := 11) (by decide) q348
    refine tw_aload rfl rfl ?_
    refine tw_push rfl ?_
    refine tw_push rfl ?_
    have hhd : (mSk h1).headD 0 = 11 := (tpm_k Tp347 (k := 11) (K := 11) rfl (by decide)).mp q348
    have hne := mne (k := 10) hhd
    have hst : mSk h1 = 11 :: (mSk h1).tail := mhead (k := 10) hhd
    refine tw_virt2 rfl (g_entry hG hX (g1).1 p1 ((mFr_T g1).trans hT) ((mFr_n g1).trans hN) ⟨by decide, by decide⟩) (fun wp349 hp349 p349 => ?_)
    obtain ⟨rfl, gp349, pp349e, sp349, tp349, dp349⟩ := p349
    have ggp349 := mFr_t g1 gp349
    refine tw_aload rfl rfl ?_
    refine tw_dup rfl ?_
    refine tw_getS rfl (hi_111_34 ggp349.1) ?_
    refine tw_push rfl ?_
    refine tw_isub rfl ?_
    refine tw_put rfl (fun f350 => ?_)
    refine tG_setm f350 (hw_111_34 f350 (ggp349).1) (fun hf350 ef350 => ?_)
    try dsimp only [tvI_i] at ef350
    have gf350 := mFr_s ggp349 ef350 (by unfold mFs; omega)
    have hnef350 : mSk hp349 ≠ [] := by rw [tp349]; exact hne
    obtain ⟨pf350, tf350, sf350, df350⟩ := mSk_pop pp349e hnef350 ef350
    refine tw_goto rfl ?_
    have hst : mSk h1 = 11 :: (mSk h1).tail := mhead (k := 10) hhd
    have hsp : mSk hf350 = (mSk h1).tail := by rw [tf350, tp349]
    have hms2 : ms hf350 = rU 100109 (ms h1) := by rw [sf350, sp349]; rfl
    have hlp : mA (mSk hf350) (ms hf350).2.2 = mA (mSk h) (ms h).2.2 := by rw [hsp, hms2, ← hL, hst]; exact (mA_y (mSk h1).tail _).symm
    exact tG_cut (zW_mono zTt G dp) (Or.inr ⟨rfl, rfl, _, rfl, gf350, pf350, by rw [hms2]; exact e1, by rw [hms2]; exact e2, hlp, df350.trans (dp349.trans h32), rfl⟩)
theorem g_makesSums {G : zG} (hG : G.1 = zProg) (hX : G.2.1 = ztx) {h : zH} {T : Nat → Int32} {n : Nat} (hs : tSh h) (hp : mP h) (hT : tA h 132 = T) (hN : mn h = n)  : tC zTt G 215 [.ref 111] h (fun w h2 => w = none ∧ mFr h h2 ∧ mP h2 ∧ (ms h2).1 = (ms h).1 ∧ (ms h2).2.1 = (ms h).2.1 ∧ (mSk h2, (ms h2).2.2) = mS (mSk h) (ms h).2.2 ∧ tF h2 111 32 = tF h 111 32) := by
  refine tC_in (by rw [hG]; rfl) (fun dp => ?_)
  have g0 := mFr_r hs
  have hpn : (ms h).1 ≤ n := mPle hp hN
  refine tw_aload rfl rfl ?_
  refine tw_virt0 rfl (g_makesProducts hG hX (g0).1 hp ((mFr_T g0).trans hT) ((mFr_n g0).trans hN)) (fun wp351 hp351 p351 => ?_)
  obtain ⟨rfl, gp351, pp351e, ap351, bp351, mp351, dp351⟩ := p351
  have ggp351 := mFr_t g0 gp351
  refine tG_loop (zW_mono zTt G dp) (zW_conj zTt G dp) (V := fun pc L st h9 _ _ => pc = 4 ∧ st = [] ∧ ∃ h1, h1 = h9 ∧ mFr h h1 ∧ mP h1 ∧ (ms h1).1 = (ms h).1 ∧ (ms h1).2.1 = (ms h).2.1 ∧ mPm (mSk h1) (ms h1).2.2 = mS (mSk h) (ms h).2.2 ∧ tF h1 111 32 = tF h 111 32 ∧ L = [some (.ref 111)]) ?_ (⟨rfl, rfl, _, rfl, ggp351, pp351e, ap351, bp351, (by unfold mS; rw [← mp351]), dp351, rfl⟩)
  rintro _ _ _ _ _ _ ⟨rfl, rfl, h1, rfl, g1, p1, e1, e2, hL, h32, rfl⟩
  refine tw_aload rfl rfl ?_
  refine tw_virt0 rfl (g_top hG hX (g1).1 p1 ((mFr_T g1).trans hT) ((mFr_n g1).trans hN)) (fun wp352 hp352 p352 => ?_)
  obtain ⟨⟨cp352, rfl, Tp352⟩, rfl⟩ := p352
  refine tw_push rfl ?_
  refine tw_ic_eq rfl (fun q353 => ?_) (fun q353 => ?_)
  · try dsimp only [tvI_i, tvJ_j, tvR_r] at q353
    have q353i := zeqi (Y := 103) (by decide) q353
    refine tw_aload rfl rfl ?_
    refine tw_aload rfl rfl ?_
    refine tw_virt0 rfl (g_top hG hX (g1).1 p1 ((mFr_T g1).trans hT) ((mFr_n g1).trans hN)) (fun wp354 hp354 p354 => ?_)
    obtain ⟨⟨cp354, rfl, Tp354⟩, rfl⟩ := p354
    refine tw_push rfl ?_
    refine tw_isub rfl ?_
    refine tw_push rfl ?_
    have hhd : (mSk h1).headD 0 = 103 := (tpm_k Tp352 (k := 103) (K := 103) rfl (by decide)).mp q353
    have hne := mne (k := 102) hhd
    have hst : mSk h1 = 103 :: (mSk h1).tail := mhead (k := 102) hhd
    have hc9 := (tpm_k Tp354 (k := 103) (K := 103) rfl (by decide)).mpr hhd
    subst hc9
    refine tw_virt2 rfl (g_entry hG hX (g1).1 p1 ((mFr_T g1).trans hT) ((mFr_n g1).trans hN) ⟨by decide, by decide⟩) (fun wp355 hp355 p355 => ?_)
    obtain ⟨rfl, gp355, pp355e, sp355, tp355, dp355⟩ := p355
    have ggp355 := mFr_t g1 gp355
    refine tw_aload rfl rfl ?_
    refine tw_dup rfl ?_
    refine tw_getS rfl (hi_111_34 ggp355.1) ?_
    refine tw_push rfl ?_
    refine tw_isub rfl ?_
    refine tw_put rfl (fun f356 => ?_)
    refine tG_setm f356 (hw_111_34 f356 (ggp355).1) (fun hf356 ef356 => ?_)
    try dsimp only [tvI_i] at ef356
    have gf356 := mFr_s ggp355 ef356 (by unfold mFs; omega)
    have hnef356 : mSk hp355 ≠ [] := by rw [tp355]; exact hne
    obtain ⟨pf356, tf356, sf356, df356⟩ := mSk_pop pp355e hnef356 ef356
    refine tw_goto rfl ?_
    have hst : mSk h1 = 103 :: (mSk h1).tail := mhead (k := 102) hhd
    have hsp : mSk hf356 = (mSk h1).tail := by rw [tf356, tp355]
    have hms2 : ms hf356 = rU 100100 (ms h1) := by rw [sf356, sp355]; rfl
    have hlp : mPm (mSk hf356) (ms hf356).2.2 = mS (mSk h) (ms h).2.2 := by rw [hsp, hms2, ← hL, hst]; exact (mP_y (mSk h1).tail _).symm
    exact tG_cut (zW_mono zTt G dp) (Or.inr ⟨rfl, rfl, _, rfl, gf356, pf356, by rw [hms2]; exact e1, by rw [hms2]; exact e2, hlp, df356.trans (dp355.trans h32), rfl⟩)
  · try dsimp only [tvI_i, tvJ_j, tvR_r] at q353
    have q353i := zneq (Y := 103) (by decide) q353
    refine tw_aload rfl rfl ?_
    refine tw_virt0 rfl (g_top hG hX (g1).1 p1 ((mFr_T g1).trans hT) ((mFr_n g1).trans hN)) (fun wp357 hp357 p357 => ?_)
    obtain ⟨⟨cp357, rfl, Tp357⟩, rfl⟩ := p357
    refine tw_push rfl ?_
    refine tw_ic_ne rfl (fun q358 => ?_) (fun q358 => ?_)
    · try dsimp only [tvI_i, tvJ_j, tvR_r] at q358
      have q358i := zneq (Y := 104) (by decide) q358
      have hfin : (mSk h1, (ms h1).2.2) = mS (mSk h) (ms h).2.2 := by rw [← hL, mPm_n (fun z => q353 ((tpm_k Tp352 (k := 103) (K := 103) rfl (by decide)).mpr z)) (fun z => q358 ((tpm_k Tp357 (k := 104) (K := 104) rfl (by decide)).mpr z))]
      exact tw_vret rfl ⟨rfl, g1, p1, e1, e2, hfin, h32⟩
    · try dsimp only [tvI_i, tvJ_j, tvR_r] at q358
      have q358i := zeqi (Y := 104) (by decide) q358
      refine tw_aload rfl rfl ?_
      refine tw_aload rfl rfl ?_
      refine tw_virt0 rfl (g_top hG hX (g1).1 p1 ((mFr_T g1).trans hT) ((mFr_n g1).trans hN)) (fun wp359 hp359 p359 => ?_)
      obtain ⟨⟨cp359, rfl, Tp359⟩, rfl⟩ := p359
      refine tw_push rfl ?_
      refine tw_isub rfl ?_
      refine tw_push rfl ?_
      have hhd : (mSk h1).headD 0 = 104 := (tpm_k Tp357 (k := 104) (K := 104) rfl (by decide)).mp q358
      have hne := mne (k := 103) hhd
      have hst : mSk h1 = 104 :: (mSk h1).tail := mhead (k := 103) hhd
      have hc9 := (tpm_k Tp359 (k := 104) (K := 104) rfl (by decide)).mpr hhd
      subst hc9
      refine tw_virt2 rfl (g_entry hG hX (g1).1 p1 ((mFr_T g1).trans hT) ((mFr_n g1).trans hN) ⟨by decide, by decide⟩) (fun wp360 hp360 p360 => ?_)
      obtain ⟨rfl, gp360, pp360e, sp360, tp360, dp360⟩ := p360
      have ggp360 := mFr_t g1 gp360
      refine tw_aload rfl rfl ?_
      refine tw_dup rfl ?_
      refine tw_getS rfl (hi_111_34 ggp360.1) ?_
      refine tw_push rfl ?_
      refine tw_isub rfl ?_
      refine tw_put rfl (fun f361 => ?_)
      refine tG_setm f361 (hw_111_34 f361 (ggp360).1) (fun hf361 ef361 => ?_)
      try dsimp only [tvI_i] at ef361
      have gf361 := mFr_s ggp360 ef361 (by unfold mFs; omega)
      have hnef361 : mSk hp360 ≠ [] := by rw [tp360]; exact hne
      obtain ⟨pf361, tf361, sf361, df361⟩ := mSk_pop pp360e hnef361 ef361
      refine tw_goto rfl ?_
      have hst : mSk h1 = 104 :: (mSk h1).tail := mhead (k := 103) hhd
      have hsp : mSk hf361 = (mSk h1).tail := by rw [tf361, tp360]
      have hms2 : ms hf361 = rU 100101 (ms h1) := by rw [sf361, sp360]; rfl
      have hlp : mPm (mSk hf361) (ms hf361).2.2 = mS (mSk h) (ms h).2.2 := by rw [hsp, hms2, ← hL, hst]; exact (mM_y (mSk h1).tail _).symm
      exact tG_cut (zW_mono zTt G dp) (Or.inr ⟨rfl, rfl, _, rfl, gf361, pf361, by rw [hms2]; exact e1, by rw [hms2]; exact e2, hlp, df361.trans (dp360.trans h32), rfl⟩)
theorem g_makesOrs {G : zG} (hG : G.1 = zProg) (hX : G.2.1 = ztx) {h : zH} {T : Nat → Int32} {n : Nat} (hs : tSh h) (hp : mP h) (hT : tA h 132 = T) (hN : mn h = n)  : tC zTt G 221 [.ref 111] h (fun w h2 => w = none ∧ mFr h h2 ∧ mP h2 ∧ (ms h2).1 = (ms h).1 ∧ (ms h2).2.1 = (ms h).2.1 ∧ (mSk h2, (ms h2).2.2) = mO (mSk h) (ms h).2.2 ∧ tF h2 111 32 = tF h 111 32) := by
  refine tC_in (by rw [hG]; rfl) (fun dp => ?_)
  have g0 := mFr_r hs
  have hpn : (ms h).1 ≤ n := mPle hp hN
  refine tw_aload rfl rfl ?_
  refine tw_virt0 rfl (g_makesAnds hG hX (g0).1 hp ((mFr_T g0).trans hT) ((mFr_n g0).trans hN)) (fun wp362 hp362 p362 => ?_)
  obtain ⟨rfl, gp362, pp362e, ap362, bp362, mp362, dp362⟩ := p362
  have ggp362 := mFr_t g0 gp362
  refine tG_loop (zW_mono zTt G dp) (zW_conj zTt G dp) (V := fun pc L st h9 _ _ => pc = 4 ∧ st = [] ∧ ∃ h1, h1 = h9 ∧ mFr h h1 ∧ mP h1 ∧ (ms h1).1 = (ms h).1 ∧ (ms h1).2.1 = (ms h).2.1 ∧ mO1 (mSk h1) (ms h1).2.2 = mO (mSk h) (ms h).2.2 ∧ tF h1 111 32 = tF h 111 32 ∧ L = [some (.ref 111)]) ?_ (⟨rfl, rfl, _, rfl, ggp362, pp362e, ap362, bp362, (by unfold mO; rw [← mp362]), dp362, rfl⟩)
  rintro _ _ _ _ _ _ ⟨rfl, rfl, h1, rfl, g1, p1, e1, e2, hL, h32, rfl⟩
  refine tw_aload rfl rfl ?_
  refine tw_virt0 rfl (g_top hG hX (g1).1 p1 ((mFr_T g1).trans hT) ((mFr_n g1).trans hN)) (fun wp363 hp363 p363 => ?_)
  obtain ⟨⟨cp363, rfl, Tp363⟩, rfl⟩ := p363
  refine tw_push rfl ?_
  refine tw_ic_ne rfl (fun q364 => ?_) (fun q364 => ?_)
  · try dsimp only [tvI_i, tvJ_j, tvR_r] at q364
    have q364i := zneq (Y := 12) (by decide) q364
    have hfin : (mSk h1, (ms h1).2.2) = mO (mSk h) (ms h).2.2 := by rw [← hL, mO1_n (fun z => q364 ((tpm_k Tp363 (k := 12) (K := 12) rfl (by decide)).mpr z))]
    exact tw_vret rfl ⟨rfl, g1, p1, e1, e2, hfin, h32⟩
  · try dsimp only [tvI_i, tvJ_j, tvR_r] at q364
    have q364i := zeqi (Y := 12) (by decide) q364
    refine tw_aload rfl rfl ?_
    refine tw_push rfl ?_
    refine tw_push rfl ?_
    have hhd : (mSk h1).headD 0 = 12 := (tpm_k Tp363 (k := 12) (K := 12) rfl (by decide)).mp q364
    have hne := mne (k := 11) hhd
    have hst : mSk h1 = 12 :: (mSk h1).tail := mhead (k := 11) hhd
    refine tw_virt2 rfl (g_entry hG hX (g1).1 p1 ((mFr_T g1).trans hT) ((mFr_n g1).trans hN) ⟨by decide, by decide⟩) (fun wp365 hp365 p365 => ?_)
    obtain ⟨rfl, gp365, pp365e, sp365, tp365, dp365⟩ := p365
    have ggp365 := mFr_t g1 gp365
    refine tw_aload rfl rfl ?_
    refine tw_dup rfl ?_
    refine tw_getS rfl (hi_111_34 ggp365.1) ?_
    refine tw_push rfl ?_
    refine tw_isub rfl ?_
    refine tw_put rfl (fun f366 => ?_)
    refine tG_setm f366 (hw_111_34 f366 (ggp365).1) (fun hf366 ef366 => ?_)
    try dsimp only [tvI_i] at ef366
    have gf366 := mFr_s ggp365 ef366 (by unfold mFs; omega)
    have hnef366 : mSk hp365 ≠ [] := by rw [tp365]; exact hne
    obtain ⟨pf366, tf366, sf366, df366⟩ := mSk_pop pp365e hnef366 ef366
    refine tw_goto rfl ?_
    have hst : mSk h1 = 12 :: (mSk h1).tail := mhead (k := 11) hhd
    have hsp : mSk hf366 = (mSk h1).tail := by rw [tf366, tp365]
    have hms2 : ms hf366 = rU 100108 (ms h1) := by rw [sf366, sp365]; rfl
    have hlp : mO1 (mSk hf366) (ms hf366).2.2 = mO (mSk h) (ms h).2.2 := by rw [hsp, hms2, ← hL, hst]; exact (mO_y (mSk h1).tail _).symm
    exact tG_cut (zW_mono zTt G dp) (Or.inr ⟨rfl, rfl, _, rfl, gf366, pf366, by rw [hms2]; exact e1, by rw [hms2]; exact e2, hlp, df366.trans (dp365.trans h32), rfl⟩)
theorem zp0 {x : Int32} {k : Nat} (h : x.toInt = k) : (x + 0).toInt = ((k + 0 : Nat) : Int) := by
  rw [Int32.toInt_add, show (0 : Int32).toInt = 0 from rfl, Int.add_zero, h]
  have := Int32.toInt_lt x
  exact Int.bmod_eq_of_le (by show (-2147483648 : Int) ≤ (k : Int); omega) (by show (k : Int) < (2147483648 : Int); omega)
theorem cmw {K : Int32} {k : Nat} (hk : K.toInt = (k : Int)) {C p : Nat} (h : k + 100098 = C) : K.toInt + 100098 = (((C, p) : Nat × Nat).1 : Int) := by
  show K.toInt + 100098 = (C : Int)
  rw [hk, ← h]
  omega
theorem zp1 {x : Int32} {k : Nat} (h : x.toInt = k) (hk : k ≤ 1000) : (x + 1).toInt = ((k + 1 : Nat) : Int) := zincN h (by omega)
theorem g_compares {G : zG} (hG : G.1 = zProg) (hX : G.2.1 = ztx) {h : zH} {T : Nat → Int32} {n : Nat} (hs : tSh h) (hp : mP h) (hT : tA h 132 = T) (hN : mn h = n)  : tC zTt G 212 [.ref 111] h (fun w h2 => mFr h h2 ∧ ((rCm T n (ms h).1 = none ∧ w = some (.int 0) ∧ h2 = h) ∨ (∃ q, rCm T n (ms h).1 = some q ∧ (((ms h).2.1 ≠ 80 ∧ (∃ x : Int32, w = some (.int x) ∧ x.toInt + 100098 = (q.1 : Int)) ∧ mP h2 ∧ ms h2 = (q.2, (ms h).2.1 + 1, (ms h).2.2) ∧ mSk h2 = mSk h ∧ tF h2 111 32 = tF h 111 32) ∨ ((ms h).2.1 = 80 ∧ ∃ x, w = some (.int x) ∧ 5 ≤ x.toInt ∧ x.toInt ≤ 9 ∧ mFt h2 (1 + 8 * (ms h).1 + 3) ∧ mZp h2))))) := by
  refine tC_in (by rw [hG]; rfl) (fun dp => ?_)
  have g0 := mFr_r hs
  have hpn : (ms h).1 ≤ n := mPle hp hN
  have hn4 : n ≤ 400 := by have a := mNl hp hN; have b := hp.2.1; omega
  refine tw_aload rfl rfl ?_
  refine tw_virt0 rfl (g_sign hG hX (g0).1 ((mFr_T g0).trans hT) ((mFr_n g0).trans hN) ⟨hp.2.1.1, by have := hp.2.1; omega⟩) (fun wp367 hp367 p367 => ?_)
  obtain ⟨⟨cp367, rfl, kp367⟩, rfl⟩ := p367
  refine tw_istore rfl ?_
  refine tw_iload rfl rfl ?_
  refine tw_push rfl ?_
  refine tw_ic_eq rfl (fun q368 => ?_) (fun q368 => ?_)
  · try dsimp only [tvI_i, tvJ_j, tvR_r] at q368
    have q368i := zeqi (Y := 60) (by decide) q368
    refine tw_aload rfl rfl ?_
    refine tw_aload rfl rfl ?_
    refine tw_getS rfl (hi_111_28 (g0).1) ?_
    refine tw_virt1 rfl (g_counts hG hX (g0).1 hp ((mFr_T g0).trans hT) ((mFr_n g0).trans hN) (b := (ms h).1) (mPl hp) (by omega)) (fun w9 hp369 p369 => ?_)
    obtain ⟨rfl, gp369, ⟨np369, pp369e, sp369, tp369, dp369⟩ | ⟨np369, Fp369⟩, ip369, jp369⟩ := p369
    · have ggp369 := mFr_t g0 gp369
      refine tw_aload rfl rfl ?_
      refine tw_dup rfl ?_
      refine tw_getS rfl (hi_111_28 ggp369.1) ?_
      refine tw_push rfl ?_
      refine tw_iadd rfl ?_
      refine tw_put rfl (fun f370 => ?_)
      refine tG_setm f370 (hw_111_28 f370 (ggp369).1) (fun hf370 ef370 => ?_)
      try dsimp only [tvI_i] at ef370
      have gf370 := mFr_s ggp369 ef370 (by unfold mFs; omega)
      have wf370 := (sgm_k kp367 60 (by decide)).mp q368
      obtain ⟨pf370, sf370, tf370⟩ := mTo pp369e ((mFr_n ggp369).trans hN) ef370 (v := (ms h).1 + 1) (zincN (n := (ms h).1) (by rw [mPl pp369e, sp369]) (by omega)) wf370.1
      rw [sp369] at sf370
      refine tw_iload rfl rfl ?_
      refine tw_push rfl ?_
      refine tw_ic_eq rfl (fun q371 => ?_) (fun q371 => ?_)
      · try dsimp only [tvI_i, tvJ_j, tvR_r] at q371
        have q371i := zeqi (Y := 61) (by decide) q371
        exact absurd (q368.symm.trans q371) (by decide)
      · try dsimp only [tvI_i, tvJ_j, tvR_r] at q371
        have q371i := zneq (Y := 61) (by decide) q371
        refine tw_aload rfl rfl ?_
        refine tw_virt0 rfl (g_sign hG hX (gf370).1 ((mFr_T gf370).trans hT) ((mFr_n gf370).trans hN) ⟨pf370.2.1.1, by have := pf370.2.1; omega⟩) (fun wp372 hp372 p372 => ?_)
        obtain ⟨⟨cp372, rfl, kp372⟩, rfl⟩ := p372
        refine tw_push rfl ?_
        refine tw_ic_ne rfl (fun q373 => ?_) (fun q373 => ?_)
        · try dsimp only [tvI_i, tvJ_j, tvR_r] at q373
          have q373i := zneq (Y := 61) (by decide) q373
          refine tw_push rfl ?_
          refine tw_istore rfl ?_
          refine tw_aload rfl rfl ?_
          refine tw_dup rfl ?_
          refine tw_getS rfl (hi_111_28 (gf370).1) ?_
          refine tw_iload rfl rfl ?_
          refine tw_if_eq rfl (fun _ => ?_) (fun z => absurd z (by decide))
          refine tw_push rfl ?_
          refine tw_iadd rfl ?_
          refine tw_put rfl (fun f374 => ?_)
          refine tG_setm f374 (hw_111_28 f374 (gf370).1) (fun hf374 ef374 => ?_)
          try dsimp only [tvI_i] at ef374
          have gf374 := mFr_s gf370 ef374 (by unfold mFs; omega)
          obtain ⟨pf374, sf374, tf374⟩ := mTo pf370 ((mFr_n gf370).trans hN) ef374 (v := (ms h).1 + 1 + 0) (zp0 (by rw [mPl pf370, sf370]; rfl)) (by have z := mPle pf370 ((mFr_n gf370).trans hN); rw [sf370] at z; exact z)
          rw [sf370] at sf374
          refine tw_iload rfl rfl ?_
          refine tw_push rfl ?_
          refine tw_ic_ne rfl (fun q375 => ?_) (fun q375 => ?_)
          · try dsimp only [tvI_i, tvJ_j, tvR_r] at q375
            have q375i := zneq (Y := 61) (by decide) q375
            refine tw_iload rfl rfl ?_
            refine tw_push rfl ?_
            refine tw_ic_ne rfl (fun q376 => ?_) (fun q376 => ?_)
            · try dsimp only [tvI_i, tvJ_j, tvR_r] at q376
              have q376i := zneq (Y := 60) (by decide) q376
              exact absurd q368 q376
            · try dsimp only [tvI_i, tvJ_j, tvR_r] at q376
              have q376i := zeqi (Y := 60) (by decide) q376
              refine tw_iload rfl rfl ?_
              refine tw_if_eq rfl (fun _ => ?_) (fun z => absurd z (by decide))
              refine tw_push rfl ?_
              refine tw_goto rfl ?_
              have w9 := (sgm_k kp367 60 (by decide)).mp q368
              have hk2 := sgm_k kp372 61 (by decide)
              rw [sf370] at hk2
              have hk2 : _ ↔ ((ms h).1 + 1 < n ∧ T ((ms h).1 + 1) = 61) := hk2
              have hq9 := (cm60 w9).trans (if_neg (fun z => q373 (hk2.mpr z)))
              exact tw_iret rfl ⟨gf374, Or.inr ⟨(100103, (ms h).1 + 1), hq9, Or.inl ⟨np369, ⟨5, rfl, cmw (k := 5) (C := 100103) rfl rfl⟩, pf374, sf374, tf374.trans (tf370.trans tp369), (mI_o ef374 (by decide)).trans ((mI_o ef370 (by decide)).trans dp369)⟩⟩⟩
          · try dsimp only [tvI_i, tvJ_j, tvR_r] at q375
            have q375i := zeqi (Y := 61) (by decide) q375
            exact absurd (q368.symm.trans q375) (by decide)
        · try dsimp only [tvI_i, tvJ_j, tvR_r] at q373
          have q373i := zeqi (Y := 61) (by decide) q373
          refine tw_push rfl ?_
          refine tw_goto rfl ?_
          refine tw_istore rfl ?_
          refine tw_aload rfl rfl ?_
          refine tw_dup rfl ?_
          refine tw_getS rfl (hi_111_28 (gf370).1) ?_
          refine tw_iload rfl rfl ?_
          refine tw_if_eq rfl (fun z => absurd z (by decide)) (fun _ => ?_)
          refine tw_push rfl ?_
          refine tw_goto rfl ?_
          refine tw_iadd rfl ?_
          refine tw_put rfl (fun f377 => ?_)
          refine tG_setm f377 (hw_111_28 f377 (gf370).1) (fun hf377 ef377 => ?_)
          try dsimp only [tvI_i] at ef377
          have gf377 := mFr_s gf370 ef377 (by unfold mFs; omega)
          have vf377 := (sgm_k kp372 61 (by decide)).mp q373
          rw [sf370] at vf377
          have vf377 : (ms h).1 + 1 < n ∧ T ((ms h).1 + 1) = 61 := vf377
          obtain ⟨pf377, sf377, tf377⟩ := mTo pf370 ((mFr_n gf370).trans hN) ef377 (v := (ms h).1 + 1 + 1) (zincN (n := (ms h).1 + 1) (by rw [mPl pf370, sf370]; rfl) (by omega)) (by omega)
          rw [sf370] at sf377
          refine tw_iload rfl rfl ?_
          refine tw_push rfl ?_
          refine tw_ic_ne rfl (fun q378 => ?_) (fun q378 => ?_)
          · try dsimp only [tvI_i, tvJ_j, tvR_r] at q378
            have q378i := zneq (Y := 61) (by decide) q378
            refine tw_iload rfl rfl ?_
            refine tw_push rfl ?_
            refine tw_ic_ne rfl (fun q379 => ?_) (fun q379 => ?_)
            · try dsimp only [tvI_i, tvJ_j, tvR_r] at q379
              have q379i := zneq (Y := 60) (by decide) q379
              exact absurd q368 q379
            · try dsimp only [tvI_i, tvJ_j, tvR_r] at q379
              have q379i := zeqi (Y := 60) (by decide) q379
              refine tw_iload rfl rfl ?_
              refine tw_if_eq rfl (fun z => absurd z (by decide)) (fun _ => ?_)
              refine tw_push rfl ?_
              refine tw_goto rfl ?_
              have w9 := (sgm_k kp367 60 (by decide)).mp q368
              have hk2 := sgm_k kp372 61 (by decide)
              rw [sf370] at hk2
              have hk2 : _ ↔ ((ms h).1 + 1 < n ∧ T ((ms h).1 + 1) = 61) := hk2
              have hq9 := (cm60 w9).trans (if_pos (hk2.mp q373))
              exact tw_iret rfl ⟨gf377, Or.inr ⟨(100104, (ms h).1 + 2), hq9, Or.inl ⟨np369, ⟨6, rfl, cmw (k := 6) (C := 100104) rfl rfl⟩, pf377, sf377, tf377.trans (tf370.trans tp369), (mI_o ef377 (by decide)).trans ((mI_o ef370 (by decide)).trans dp369)⟩⟩⟩
          · try dsimp only [tvI_i, tvJ_j, tvR_r] at q378
            have q378i := zeqi (Y := 61) (by decide) q378
            exact absurd (q368.symm.trans q378) (by decide)
    · have ggp369 := mFr_t g0 gp369
      refine tw_aload rfl rfl ?_
      refine tw_dup rfl ?_
      refine tw_getS rfl (hi_111_28 ggp369.1) ?_
      refine tw_push rfl ?_
      refine tw_iadd rfl ?_
      refine tw_put rfl (fun f380 => ?_)
      refine tG_setm f380 (hw_111_28 f380 (ggp369).1) (fun hf380 ef380 => ?_)
      try dsimp only [tvI_i] at ef380
      have gf380 := mFr_s ggp369 ef380 (by unfold mFs; omega)
      have zf380 := mFt_s Fp369 ef380 (by decide)
      have ZBf380 : mZp hp369 := mZp_k (mZp_p hp) ip369 jp369
      have yf380 : (tvI (tF hp369 111 28) + 1).toInt = (((ms h).1 + 1 : Nat) : Int) := zp1 (by rw [ip369]; exact mPl hp) (by omega)
      have Zf380 : mZp hf380 := mZp_s ZBf380 ef380 (by omega)
      refine tw_iload rfl rfl ?_
      refine tw_push rfl ?_
      refine tw_ic_eq rfl (fun q381 => ?_) (fun q381 => ?_)
      · try dsimp only [tvI_i, tvJ_j, tvR_r] at q381
        have q381i := zeqi (Y := 61) (by decide) q381
        exact absurd (q368.symm.trans q381) (by decide)
      · try dsimp only [tvI_i, tvJ_j, tvR_r] at q381
        have q381i := zneq (Y := 61) (by decide) q381
        refine tw_aload rfl rfl ?_
        refine tw_virt0 rfl (g_sign hG hX (gf380).1 ((mFr_T gf380).trans hT) ((mFr_n gf380).trans hN) Zf380.1) (fun wp382 hp382 p382 => ?_)
        obtain ⟨⟨cp382, rfl, kp382⟩, rfl⟩ := p382
        refine tw_push rfl ?_
        refine tw_ic_ne rfl (fun q383 => ?_) (fun q383 => ?_)
        · try dsimp only [tvI_i, tvJ_j, tvR_r] at q383
          have q383i := zneq (Y := 61) (by decide) q383
          refine tw_push rfl ?_
          refine tw_istore rfl ?_
          refine tw_aload rfl rfl ?_
          refine tw_dup rfl ?_
          refine tw_getS rfl (hi_111_28 (gf380).1) ?_
          refine tw_iload rfl rfl ?_
          refine tw_if_eq rfl (fun _ => ?_) (fun z => absurd z (by decide))
          refine tw_push rfl ?_
          refine tw_iadd rfl ?_
          refine tw_put rfl (fun f384 => ?_)
          refine tG_setm f384 (hw_111_28 f384 (gf380).1) (fun hf384 ef384 => ?_)
          try dsimp only [tvI_i] at ef384
          have gf384 := mFr_s gf380 ef384 (by unfold mFs; omega)
          have zf384 := mFt_s zf380 ef384 (by decide)
          have xf384 : (tvI (tF hf380 111 28)).toInt = (((ms h).1 + 1 : Nat) : Int) := by rw [mI_x ef380]; exact yf380
          have Zf384 : mZp hf384 := mZp_s Zf380 ef384 (by have y := zp0 xf384; omega)
          refine tw_iload rfl rfl ?_
          refine tw_push rfl ?_
          refine tw_ic_ne rfl (fun q385 => ?_) (fun q385 => ?_)
          · try dsimp only [tvI_i, tvJ_j, tvR_r] at q385
            have q385i := zneq (Y := 61) (by decide) q385
            refine tw_iload rfl rfl ?_
            refine tw_push rfl ?_
            refine tw_ic_ne rfl (fun q386 => ?_) (fun q386 => ?_)
            · try dsimp only [tvI_i, tvJ_j, tvR_r] at q386
              have q386i := zneq (Y := 60) (by decide) q386
              exact absurd q368 q386
            · try dsimp only [tvI_i, tvJ_j, tvR_r] at q386
              have q386i := zeqi (Y := 60) (by decide) q386
              refine tw_iload rfl rfl ?_
              refine tw_if_eq rfl (fun _ => ?_) (fun z => absurd z (by decide))
              refine tw_push rfl ?_
              refine tw_goto rfl ?_
              have w9 := (sgm_k kp367 60 (by decide)).mp q368
              obtain ⟨q9, hq9⟩ := cm_s (Or.inr (Or.inl w9))
              exact tw_iret rfl ⟨gf384, Or.inr ⟨q9, hq9, Or.inr ⟨np369, _, rfl, by decide, by decide, zf384, Zf384⟩⟩⟩
          · try dsimp only [tvI_i, tvJ_j, tvR_r] at q385
            have q385i := zeqi (Y := 61) (by decide) q385
            exact absurd (q368.symm.trans q385) (by decide)
        · try dsimp only [tvI_i, tvJ_j, tvR_r] at q383
          have q383i := zeqi (Y := 61) (by decide) q383
          refine tw_push rfl ?_
          refine tw_goto rfl ?_
          refine tw_istore rfl ?_
          refine tw_aload rfl rfl ?_
          refine tw_dup rfl ?_
          refine tw_getS rfl (hi_111_28 (gf380).1) ?_
          refine tw_iload rfl rfl ?_
          refine tw_if_eq rfl (fun z => absurd z (by decide)) (fun _ => ?_)
          refine tw_push rfl ?_
          refine tw_goto rfl ?_
          refine tw_iadd rfl ?_
          refine tw_put rfl (fun f387 => ?_)
          refine tG_setm f387 (hw_111_28 f387 (gf380).1) (fun hf387 ef387 => ?_)
          try dsimp only [tvI_i] at ef387
          have gf387 := mFr_s gf380 ef387 (by unfold mFs; omega)
          have zf387 := mFt_s zf380 ef387 (by decide)
          have xf387 : (tvI (tF hf380 111 28)).toInt = (((ms h).1 + 1 : Nat) : Int) := by rw [mI_x ef380]; exact yf380
          have Zf387 : mZp hf387 := mZp_s Zf380 ef387 (by have y := zp1 xf387 (by omega); omega)
          refine tw_iload rfl rfl ?_
          refine tw_push rfl ?_
          refine tw_ic_ne rfl (fun q388 => ?_) (fun q388 => ?_)
          · try dsimp only [tvI_i, tvJ_j, tvR_r] at q388
            have q388i := zneq (Y := 61) (by decide) q388
            refine tw_iload rfl rfl ?_
            refine tw_push rfl ?_
            refine tw_ic_ne rfl (fun q389 => ?_) (fun q389 => ?_)
            · try dsimp only [tvI_i, tvJ_j, tvR_r] at q389
              have q389i := zneq (Y := 60) (by decide) q389
              exact absurd q368 q389
            · try dsimp only [tvI_i, tvJ_j, tvR_r] at q389
              have q389i := zeqi (Y := 60) (by decide) q389
              refine tw_iload rfl rfl ?_
              refine tw_if_eq rfl (fun z => absurd z (by decide)) (fun _ => ?_)
              refine tw_push rfl ?_
              refine tw_goto rfl ?_
              have w9 := (sgm_k kp367 60 (by decide)).mp q368
              obtain ⟨q9, hq9⟩ := cm_s (Or.inr (Or.inl w9))
              exact tw_iret rfl ⟨gf387, Or.inr ⟨q9, hq9, Or.inr ⟨np369, _, rfl, by decide, by decide, zf387, Zf387⟩⟩⟩
          · try dsimp only [tvI_i, tvJ_j, tvR_r] at q388
            have q388i := zeqi (Y := 61) (by decide) q388
            exact absurd (q368.symm.trans q388) (by decide)
  · try dsimp only [tvI_i, tvJ_j, tvR_r] at q368
    have q368i := zneq (Y := 60) (by decide) q368
    refine tw_iload rfl rfl ?_
    refine tw_push rfl ?_
    refine tw_ic_eq rfl (fun q390 => ?_) (fun q390 => ?_)
    · try dsimp only [tvI_i, tvJ_j, tvR_r] at q390
      have q390i := zeqi (Y := 62) (by decide) q390
      refine tw_aload rfl rfl ?_
      refine tw_aload rfl rfl ?_
      refine tw_getS rfl (hi_111_28 (g0).1) ?_
      refine tw_virt1 rfl (g_counts hG hX (g0).1 hp ((mFr_T g0).trans hT) ((mFr_n g0).trans hN) (b := (ms h).1) (mPl hp) (by omega)) (fun w9 hp391 p391 => ?_)
      obtain ⟨rfl, gp391, ⟨np391, pp391e, sp391, tp391, dp391⟩ | ⟨np391, Fp391⟩, ip391, jp391⟩ := p391
      · have ggp391 := mFr_t g0 gp391
        refine tw_aload rfl rfl ?_
        refine tw_dup rfl ?_
        refine tw_getS rfl (hi_111_28 ggp391.1) ?_
        refine tw_push rfl ?_
        refine tw_iadd rfl ?_
        refine tw_put rfl (fun f392 => ?_)
        refine tG_setm f392 (hw_111_28 f392 (ggp391).1) (fun hf392 ef392 => ?_)
        try dsimp only [tvI_i] at ef392
        have gf392 := mFr_s ggp391 ef392 (by unfold mFs; omega)
        have wf392 := (sgm_k kp367 62 (by decide)).mp q390
        obtain ⟨pf392, sf392, tf392⟩ := mTo pp391e ((mFr_n ggp391).trans hN) ef392 (v := (ms h).1 + 1) (zincN (n := (ms h).1) (by rw [mPl pp391e, sp391]) (by omega)) wf392.1
        rw [sp391] at sf392
        refine tw_iload rfl rfl ?_
        refine tw_push rfl ?_
        refine tw_ic_eq rfl (fun q393 => ?_) (fun q393 => ?_)
        · try dsimp only [tvI_i, tvJ_j, tvR_r] at q393
          have q393i := zeqi (Y := 61) (by decide) q393
          exact absurd (q390.symm.trans q393) (by decide)
        · try dsimp only [tvI_i, tvJ_j, tvR_r] at q393
          have q393i := zneq (Y := 61) (by decide) q393
          refine tw_aload rfl rfl ?_
          refine tw_virt0 rfl (g_sign hG hX (gf392).1 ((mFr_T gf392).trans hT) ((mFr_n gf392).trans hN) ⟨pf392.2.1.1, by have := pf392.2.1; omega⟩) (fun wp394 hp394 p394 => ?_)
          obtain ⟨⟨cp394, rfl, kp394⟩, rfl⟩ := p394
          refine tw_push rfl ?_
          refine tw_ic_ne rfl (fun q395 => ?_) (fun q395 => ?_)
          · try dsimp only [tvI_i, tvJ_j, tvR_r] at q395
            have q395i := zneq (Y := 61) (by decide) q395
            refine tw_push rfl ?_
            refine tw_istore rfl ?_
            refine tw_aload rfl rfl ?_
            refine tw_dup rfl ?_
            refine tw_getS rfl (hi_111_28 (gf392).1) ?_
            refine tw_iload rfl rfl ?_
            refine tw_if_eq rfl (fun _ => ?_) (fun z => absurd z (by decide))
            refine tw_push rfl ?_
            refine tw_iadd rfl ?_
            refine tw_put rfl (fun f396 => ?_)
            refine tG_setm f396 (hw_111_28 f396 (gf392).1) (fun hf396 ef396 => ?_)
            try dsimp only [tvI_i] at ef396
            have gf396 := mFr_s gf392 ef396 (by unfold mFs; omega)
            obtain ⟨pf396, sf396, tf396⟩ := mTo pf392 ((mFr_n gf392).trans hN) ef396 (v := (ms h).1 + 1 + 0) (zp0 (by rw [mPl pf392, sf392]; rfl)) (by have z := mPle pf392 ((mFr_n gf392).trans hN); rw [sf392] at z; exact z)
            rw [sf392] at sf396
            refine tw_iload rfl rfl ?_
            refine tw_push rfl ?_
            refine tw_ic_ne rfl (fun q397 => ?_) (fun q397 => ?_)
            · try dsimp only [tvI_i, tvJ_j, tvR_r] at q397
              have q397i := zneq (Y := 61) (by decide) q397
              refine tw_iload rfl rfl ?_
              refine tw_push rfl ?_
              refine tw_ic_ne rfl (fun q398 => ?_) (fun q398 => ?_)
              · try dsimp only [tvI_i, tvJ_j, tvR_r] at q398
                have q398i := zneq (Y := 60) (by decide) q398
                refine tw_iload rfl rfl ?_
                refine tw_if_eq rfl (fun _ => ?_) (fun z => absurd z (by decide))
                refine tw_push rfl ?_
                have w9 := (sgm_k kp367 62 (by decide)).mp q390
                have hk2 := sgm_k kp394 61 (by decide)
                rw [sf392] at hk2
                have hk2 : _ ↔ ((ms h).1 + 1 < n ∧ T ((ms h).1 + 1) = 61) := hk2
                have hq9 := (cm62 w9).trans (if_neg (fun z => q395 (hk2.mpr z)))
                exact tw_iret rfl ⟨gf396, Or.inr ⟨(100107, (ms h).1 + 1), hq9, Or.inl ⟨np391, ⟨9, rfl, cmw (k := 9) (C := 100107) rfl rfl⟩, pf396, sf396, tf396.trans (tf392.trans tp391), (mI_o ef396 (by decide)).trans ((mI_o ef392 (by decide)).trans dp391)⟩⟩⟩
              · try dsimp only [tvI_i, tvJ_j, tvR_r] at q398
                have q398i := zeqi (Y := 60) (by decide) q398
                exact absurd (q390.symm.trans q398) (by decide)
            · try dsimp only [tvI_i, tvJ_j, tvR_r] at q397
              have q397i := zeqi (Y := 61) (by decide) q397
              exact absurd (q390.symm.trans q397) (by decide)
          · try dsimp only [tvI_i, tvJ_j, tvR_r] at q395
            have q395i := zeqi (Y := 61) (by decide) q395
            refine tw_push rfl ?_
            refine tw_goto rfl ?_
            refine tw_istore rfl ?_
            refine tw_aload rfl rfl ?_
            refine tw_dup rfl ?_
            refine tw_getS rfl (hi_111_28 (gf392).1) ?_
            refine tw_iload rfl rfl ?_
            refine tw_if_eq rfl (fun z => absurd z (by decide)) (fun _ => ?_)
            refine tw_push rfl ?_
            refine tw_goto rfl ?_
            refine tw_iadd rfl ?_
            refine tw_put rfl (fun f399 => ?_)
            refine tG_setm f399 (hw_111_28 f399 (gf392).1) (fun hf399 ef399 => ?_)
            try dsimp only [tvI_i] at ef399
            have gf399 := mFr_s gf392 ef399 (by unfold mFs; omega)
            have vf399 := (sgm_k kp394 61 (by decide)).mp q395
            rw [sf392] at vf399
            have vf399 : (ms h).1 + 1 < n ∧ T ((ms h).1 + 1) = 61 := vf399
            obtain ⟨pf399, sf399, tf399⟩ := mTo pf392 ((mFr_n gf392).trans hN) ef399 (v := (ms h).1 + 1 + 1) (zincN (n := (ms h).1 + 1) (by rw [mPl pf392, sf392]; rfl) (by omega)) (by omega)
            rw [sf392] at sf399
            refine tw_iload rfl rfl ?_
            refine tw_push rfl ?_
            refine tw_ic_ne rfl (fun q400 => ?_) (fun q400 => ?_)
            · try dsimp only [tvI_i, tvJ_j, tvR_r] at q400
              have q400i := zneq (Y := 61) (by decide) q400
              refine tw_iload rfl rfl ?_
              refine tw_push rfl ?_
              refine tw_ic_ne rfl (fun q401 => ?_) (fun q401 => ?_)
              · try dsimp only [tvI_i, tvJ_j, tvR_r] at q401
                have q401i := zneq (Y := 60) (by decide) q401
                refine tw_iload rfl rfl ?_
                refine tw_if_eq rfl (fun z => absurd z (by decide)) (fun _ => ?_)
                refine tw_push rfl ?_
                refine tw_goto rfl ?_
                have w9 := (sgm_k kp367 62 (by decide)).mp q390
                have hk2 := sgm_k kp394 61 (by decide)
                rw [sf392] at hk2
                have hk2 : _ ↔ ((ms h).1 + 1 < n ∧ T ((ms h).1 + 1) = 61) := hk2
                have hq9 := (cm62 w9).trans (if_pos (hk2.mp q395))
                exact tw_iret rfl ⟨gf399, Or.inr ⟨(100106, (ms h).1 + 2), hq9, Or.inl ⟨np391, ⟨8, rfl, cmw (k := 8) (C := 100106) rfl rfl⟩, pf399, sf399, tf399.trans (tf392.trans tp391), (mI_o ef399 (by decide)).trans ((mI_o ef392 (by decide)).trans dp391)⟩⟩⟩
              · try dsimp only [tvI_i, tvJ_j, tvR_r] at q401
                have q401i := zeqi (Y := 60) (by decide) q401
                exact absurd (q390.symm.trans q401) (by decide)
            · try dsimp only [tvI_i, tvJ_j, tvR_r] at q400
              have q400i := zeqi (Y := 61) (by decide) q400
              exact absurd (q390.symm.trans q400) (by decide)
      · have ggp391 := mFr_t g0 gp391
        refine tw_aload rfl rfl ?_
        refine tw_dup rfl ?_
        refine tw_getS rfl (hi_111_28 ggp391.1) ?_
        refine tw_push rfl ?_
        refine tw_iadd rfl ?_
        refine tw_put rfl (fun f402 => ?_)
        refine tG_setm f402 (hw_111_28 f402 (ggp391).1) (fun hf402 ef402 => ?_)
        try dsimp only [tvI_i] at ef402
        have gf402 := mFr_s ggp391 ef402 (by unfold mFs; omega)
        have zf402 := mFt_s Fp391 ef402 (by decide)
        have ZBf402 : mZp hp391 := mZp_k (mZp_p hp) ip391 jp391
        have yf402 : (tvI (tF hp391 111 28) + 1).toInt = (((ms h).1 + 1 : Nat) : Int) := zp1 (by rw [ip391]; exact mPl hp) (by omega)
        have Zf402 : mZp hf402 := mZp_s ZBf402 ef402 (by omega)
        refine tw_iload rfl rfl ?_
        refine tw_push rfl ?_
        refine tw_ic_eq rfl (fun q403 => ?_) (fun q403 => ?_)
        · try dsimp only [tvI_i, tvJ_j, tvR_r] at q403
          have q403i := zeqi (Y := 61) (by decide) q403
          exact absurd (q390.symm.trans q403) (by decide)
        · try dsimp only [tvI_i, tvJ_j, tvR_r] at q403
          have q403i := zneq (Y := 61) (by decide) q403
          refine tw_aload rfl rfl ?_
          refine tw_virt0 rfl (g_sign hG hX (gf402).1 ((mFr_T gf402).trans hT) ((mFr_n gf402).trans hN) Zf402.1) (fun wp404 hp404 p404 => ?_)
          obtain ⟨⟨cp404, rfl, kp404⟩, rfl⟩ := p404
          refine tw_push rfl ?_
          refine tw_ic_ne rfl (fun q405 => ?_) (fun q405 => ?_)
          · try dsimp only [tvI_i, tvJ_j, tvR_r] at q405
            have q405i := zneq (Y := 61) (by decide) q405
            refine tw_push rfl ?_
            refine tw_istore rfl ?_
            refine tw_aload rfl rfl ?_
            refine tw_dup rfl ?_
            refine tw_getS rfl (hi_111_28 (gf402).1) ?_
            refine tw_iload rfl rfl ?_
            refine tw_if_eq rfl (fun _ => ?_) (fun z => absurd z (by decide))
            refine tw_push rfl ?_
            refine tw_iadd rfl ?_
            refine tw_put rfl (fun f406 => ?_)
            refine tG_setm f406 (hw_111_28 f406 (gf402).1) (fun hf406 ef406 => ?_)
            try dsimp only [tvI_i] at ef406
            have gf406 := mFr_s gf402 ef406 (by unfold mFs; omega)
            have zf406 := mFt_s zf402 ef406 (by decide)
            have xf406 : (tvI (tF hf402 111 28)).toInt = (((ms h).1 + 1 : Nat) : Int) := by rw [mI_x ef402]; exact yf402
            have Zf406 : mZp hf406 := mZp_s Zf402 ef406 (by have y := zp0 xf406; omega)
            refine tw_iload rfl rfl ?_
            refine tw_push rfl ?_
            refine tw_ic_ne rfl (fun q407 => ?_) (fun q407 => ?_)
            · try dsimp only [tvI_i, tvJ_j, tvR_r] at q407
              have q407i := zneq (Y := 61) (by decide) q407
              refine tw_iload rfl rfl ?_
              refine tw_push rfl ?_
              refine tw_ic_ne rfl (fun q408 => ?_) (fun q408 => ?_)
              · try dsimp only [tvI_i, tvJ_j, tvR_r] at q408
                have q408i := zneq (Y := 60) (by decide) q408
                refine tw_iload rfl rfl ?_
                refine tw_if_eq rfl (fun _ => ?_) (fun z => absurd z (by decide))
                refine tw_push rfl ?_
                have w9 := (sgm_k kp367 62 (by decide)).mp q390
                obtain ⟨q9, hq9⟩ := cm_s (Or.inr (Or.inr w9))
                exact tw_iret rfl ⟨gf406, Or.inr ⟨q9, hq9, Or.inr ⟨np391, _, rfl, by decide, by decide, zf406, Zf406⟩⟩⟩
              · try dsimp only [tvI_i, tvJ_j, tvR_r] at q408
                have q408i := zeqi (Y := 60) (by decide) q408
                exact absurd (q390.symm.trans q408) (by decide)
            · try dsimp only [tvI_i, tvJ_j, tvR_r] at q407
              have q407i := zeqi (Y := 61) (by decide) q407
              exact absurd (q390.symm.trans q407) (by decide)
          · try dsimp only [tvI_i, tvJ_j, tvR_r] at q405
            have q405i := zeqi (Y := 61) (by decide) q405
            refine tw_push rfl ?_
            refine tw_goto rfl ?_
            refine tw_istore rfl ?_
            refine tw_aload rfl rfl ?_
            refine tw_dup rfl ?_
            refine tw_getS rfl (hi_111_28 (gf402).1) ?_
            refine tw_iload rfl rfl ?_
            refine tw_if_eq rfl (fun z => absurd z (by decide)) (fun _ => ?_)
            refine tw_push rfl ?_
            refine tw_goto rfl ?_
            refine tw_iadd rfl ?_
            refine tw_put rfl (fun f409 => ?_)
            refine tG_setm f409 (hw_111_28 f409 (gf402).1) (fun hf409 ef409 => ?_)
            try dsimp only [tvI_i] at ef409
            have gf409 := mFr_s gf402 ef409 (by unfold mFs; omega)
            have zf409 := mFt_s zf402 ef409 (by decide)
            have xf409 : (tvI (tF hf402 111 28)).toInt = (((ms h).1 + 1 : Nat) : Int) := by rw [mI_x ef402]; exact yf402
            have Zf409 : mZp hf409 := mZp_s Zf402 ef409 (by have y := zp1 xf409 (by omega); omega)
            refine tw_iload rfl rfl ?_
            refine tw_push rfl ?_
            refine tw_ic_ne rfl (fun q410 => ?_) (fun q410 => ?_)
            · try dsimp only [tvI_i, tvJ_j, tvR_r] at q410
              have q410i := zneq (Y := 61) (by decide) q410
              refine tw_iload rfl rfl ?_
              refine tw_push rfl ?_
              refine tw_ic_ne rfl (fun q411 => ?_) (fun q411 => ?_)
              · try dsimp only [tvI_i, tvJ_j, tvR_r] at q411
                have q411i := zneq (Y := 60) (by decide) q411
                refine tw_iload rfl rfl ?_
                refine tw_if_eq rfl (fun z => absurd z (by decide)) (fun _ => ?_)
                refine tw_push rfl ?_
                refine tw_goto rfl ?_
                have w9 := (sgm_k kp367 62 (by decide)).mp q390
                obtain ⟨q9, hq9⟩ := cm_s (Or.inr (Or.inr w9))
                exact tw_iret rfl ⟨gf409, Or.inr ⟨q9, hq9, Or.inr ⟨np391, _, rfl, by decide, by decide, zf409, Zf409⟩⟩⟩
              · try dsimp only [tvI_i, tvJ_j, tvR_r] at q411
                have q411i := zeqi (Y := 60) (by decide) q411
                exact absurd (q390.symm.trans q411) (by decide)
            · try dsimp only [tvI_i, tvJ_j, tvR_r] at q410
              have q410i := zeqi (Y := 61) (by decide) q410
              exact absurd (q390.symm.trans q410) (by decide)
    · try dsimp only [tvI_i, tvJ_j, tvR_r] at q390
      have q390i := zneq (Y := 62) (by decide) q390
      refine tw_iload rfl rfl ?_
      refine tw_push rfl ?_
      refine tw_ic_eq rfl (fun q412 => ?_) (fun q412 => ?_)
      · try dsimp only [tvI_i, tvJ_j, tvR_r] at q412
        have q412i := zeqi (Y := 61) (by decide) q412
        refine tw_aload rfl rfl ?_
        refine tw_aload rfl rfl ?_
        refine tw_getS rfl (hi_111_28 (g0).1) ?_
        refine tw_virt1 rfl (g_counts hG hX (g0).1 hp ((mFr_T g0).trans hT) ((mFr_n g0).trans hN) (b := (ms h).1) (mPl hp) (by omega)) (fun w9 hp413 p413 => ?_)
        obtain ⟨rfl, gp413, ⟨np413, pp413e, sp413, tp413, dp413⟩ | ⟨np413, Fp413⟩, ip413, jp413⟩ := p413
        · have ggp413 := mFr_t g0 gp413
          refine tw_aload rfl rfl ?_
          refine tw_dup rfl ?_
          refine tw_getS rfl (hi_111_28 ggp413.1) ?_
          refine tw_push rfl ?_
          refine tw_iadd rfl ?_
          refine tw_put rfl (fun f414 => ?_)
          refine tG_setm f414 (hw_111_28 f414 (ggp413).1) (fun hf414 ef414 => ?_)
          try dsimp only [tvI_i] at ef414
          have gf414 := mFr_s ggp413 ef414 (by unfold mFs; omega)
          have wf414 := (sgm_k kp367 61 (by decide)).mp q412
          obtain ⟨pf414, sf414, tf414⟩ := mTo pp413e ((mFr_n ggp413).trans hN) ef414 (v := (ms h).1 + 1) (zincN (n := (ms h).1) (by rw [mPl pp413e, sp413]) (by omega)) wf414.1
          rw [sp413] at sf414
          refine tw_iload rfl rfl ?_
          refine tw_push rfl ?_
          refine tw_ic_eq rfl (fun q415 => ?_) (fun q415 => ?_)
          · try dsimp only [tvI_i, tvJ_j, tvR_r] at q415
            have q415i := zeqi (Y := 61) (by decide) q415
            refine tw_push rfl ?_
            refine tw_istore rfl ?_
            refine tw_aload rfl rfl ?_
            refine tw_dup rfl ?_
            refine tw_getS rfl (hi_111_28 (gf414).1) ?_
            refine tw_iload rfl rfl ?_
            refine tw_if_eq rfl (fun _ => ?_) (fun z => absurd z (by decide))
            refine tw_push rfl ?_
            refine tw_iadd rfl ?_
            refine tw_put rfl (fun f416 => ?_)
            refine tG_setm f416 (hw_111_28 f416 (gf414).1) (fun hf416 ef416 => ?_)
            try dsimp only [tvI_i] at ef416
            have gf416 := mFr_s gf414 ef416 (by unfold mFs; omega)
            obtain ⟨pf416, sf416, tf416⟩ := mTo pf414 ((mFr_n gf414).trans hN) ef416 (v := (ms h).1 + 1 + 0) (zp0 (by rw [mPl pf414, sf414]; rfl)) (by have z := mPle pf414 ((mFr_n gf414).trans hN); rw [sf414] at z; exact z)
            rw [sf414] at sf416
            refine tw_iload rfl rfl ?_
            refine tw_push rfl ?_
            refine tw_ic_ne rfl (fun q417 => ?_) (fun q417 => ?_)
            · try dsimp only [tvI_i, tvJ_j, tvR_r] at q417
              have q417i := zneq (Y := 61) (by decide) q417
              exact absurd q412 q417
            · try dsimp only [tvI_i, tvJ_j, tvR_r] at q417
              have q417i := zeqi (Y := 61) (by decide) q417
              refine tw_push rfl ?_
              refine tw_goto rfl ?_
              have w9 := (sgm_k kp367 61 (by decide)).mp q412
              have hq9 := cm61 w9
              exact tw_iret rfl ⟨gf416, Or.inr ⟨(100105, (ms h).1 + 1), hq9, Or.inl ⟨np413, ⟨7, rfl, cmw (k := 7) (C := 100105) rfl rfl⟩, pf416, sf416, tf416.trans (tf414.trans tp413), (mI_o ef416 (by decide)).trans ((mI_o ef414 (by decide)).trans dp413)⟩⟩⟩
          · try dsimp only [tvI_i, tvJ_j, tvR_r] at q415
            have q415i := zneq (Y := 61) (by decide) q415
            exact absurd q412 q415
        · have ggp413 := mFr_t g0 gp413
          refine tw_aload rfl rfl ?_
          refine tw_dup rfl ?_
          refine tw_getS rfl (hi_111_28 ggp413.1) ?_
          refine tw_push rfl ?_
          refine tw_iadd rfl ?_
          refine tw_put rfl (fun f418 => ?_)
          refine tG_setm f418 (hw_111_28 f418 (ggp413).1) (fun hf418 ef418 => ?_)
          try dsimp only [tvI_i] at ef418
          have gf418 := mFr_s ggp413 ef418 (by unfold mFs; omega)
          have zf418 := mFt_s Fp413 ef418 (by decide)
          have ZBf418 : mZp hp413 := mZp_k (mZp_p hp) ip413 jp413
          have yf418 : (tvI (tF hp413 111 28) + 1).toInt = (((ms h).1 + 1 : Nat) : Int) := zp1 (by rw [ip413]; exact mPl hp) (by omega)
          have Zf418 : mZp hf418 := mZp_s ZBf418 ef418 (by omega)
          refine tw_iload rfl rfl ?_
          refine tw_push rfl ?_
          refine tw_ic_eq rfl (fun q419 => ?_) (fun q419 => ?_)
          · try dsimp only [tvI_i, tvJ_j, tvR_r] at q419
            have q419i := zeqi (Y := 61) (by decide) q419
            refine tw_push rfl ?_
            refine tw_istore rfl ?_
            refine tw_aload rfl rfl ?_
            refine tw_dup rfl ?_
            refine tw_getS rfl (hi_111_28 (gf418).1) ?_
            refine tw_iload rfl rfl ?_
            refine tw_if_eq rfl (fun _ => ?_) (fun z => absurd z (by decide))
            refine tw_push rfl ?_
            refine tw_iadd rfl ?_
            refine tw_put rfl (fun f420 => ?_)
            refine tG_setm f420 (hw_111_28 f420 (gf418).1) (fun hf420 ef420 => ?_)
            try dsimp only [tvI_i] at ef420
            have gf420 := mFr_s gf418 ef420 (by unfold mFs; omega)
            have zf420 := mFt_s zf418 ef420 (by decide)
            have xf420 : (tvI (tF hf418 111 28)).toInt = (((ms h).1 + 1 : Nat) : Int) := by rw [mI_x ef418]; exact yf418
            have Zf420 : mZp hf420 := mZp_s Zf418 ef420 (by have y := zp0 xf420; omega)
            refine tw_iload rfl rfl ?_
            refine tw_push rfl ?_
            refine tw_ic_ne rfl (fun q421 => ?_) (fun q421 => ?_)
            · try dsimp only [tvI_i, tvJ_j, tvR_r] at q421
              have q421i := zneq (Y := 61) (by decide) q421
              exact absurd q412 q421
            · try dsimp only [tvI_i, tvJ_j, tvR_r] at q421
              have q421i := zeqi (Y := 61) (by decide) q421
              refine tw_push rfl ?_
              refine tw_goto rfl ?_
              have w9 := (sgm_k kp367 61 (by decide)).mp q412
              obtain ⟨q9, hq9⟩ := cm_s (Or.inl w9)
              exact tw_iret rfl ⟨gf420, Or.inr ⟨q9, hq9, Or.inr ⟨np413, _, rfl, by decide, by decide, zf420, Zf420⟩⟩⟩
          · try dsimp only [tvI_i, tvJ_j, tvR_r] at q419
            have q419i := zneq (Y := 61) (by decide) q419
            exact absurd q412 q419
      · try dsimp only [tvI_i, tvJ_j, tvR_r] at q412
        have q412i := zneq (Y := 61) (by decide) q412
        refine tw_push rfl ?_
        exact tw_iret rfl ⟨g0, Or.inl ⟨cm_n (fun z => q412 ((sgm_k kp367 61 (by decide)).mpr z)) (fun z => q368 ((sgm_k kp367 60 (by decide)).mpr z)) (fun z => q390 ((sgm_k kp367 62 (by decide)).mpr z)), rfl, rfl⟩⟩
theorem rWd_lo : ∀ k, k < 16 → rWd k = ztx (k + 2) := by
  have a : (List.range 16).all (fun k => Nat.beq (rWn k) (k + 2)) = true := by decide +kernel
  intro k hk
  have e := Nat.eq_of_beq_eq_true (List.all_eq_true.mp a k (List.mem_range.mpr hk))
  unfold rWd
  rw [e]
theorem zl_lo : ∀ k, k < 16 → (ztx (k + 2)).length ≤ 200 ∧ 0 < (ztx (k + 2)).length := by
  have a : (List.range 16).all (fun k => decide ((ztx (k + 2)).length ≤ 200 ∧ 0 < (ztx (k + 2)).length)) = true := by decide +kernel
  intro k hk
  exact of_decide_eq_true (List.all_eq_true.mp a k (List.mem_range.mpr hk))
noncomputable def mOut (y : rMo) (h2 : zH) : Prop := match y with
  | .inl e => mFt h2 e ∧ mZp h2
  | .inr x => mP h2 ∧ mD h2 ∧ mst h2 = x
theorem mOut_l {y : rMo} {h2 : zH} {e : Nat} (hy : y = .inl e) (k : mFt h2 e) (z : mZp h2) : mOut y h2 := by rw [hy]; exact ⟨k, z⟩
theorem mOut_r {y : rMo} {h2 : zH} {x : rMs} (hy : y = .inr x) (k : mP h2) (d : mD h2) (z : mst h2 = x) : mOut y h2 := by rw [hy]; exact ⟨k, d, z⟩
theorem mD_k {h h2 : zH} (d : mD h) (a : mSk h2 = mSk h) (b : tF h2 111 32 = tF h 111 32) : mD h2 := by
  unfold mD
  rw [a, b]
  exact d
theorem g_wordOf {G : zG} (hG : G.1 = zProg) {h : zH} {x : Int32} {k : Nat} (hx : x.toInt = k) (hk : k < 12) : tC zTt G 199 [.int x] h (fun w h2 => w = some (.retAddr (k + 2)) ∧ h = h2) := by
  refine tC_in (by rw [hG]; rfl) (fun dp => ?_)
  refine tw_iload rfl rfl ?_
  refine tw_table rfl (fun q422 => ?_) (fun t9 q422a q422b q422c => ?_)
  · try dsimp only [tvI_i, tvJ_j, tvR_r] at q422
    refine tw_push rfl ?_
    try dsimp only [tvI_i] at q422
    have hk9 : k = 11 := by omega
    subst hk9
    exact tw_aret rfl ⟨rfl, rfl⟩
  · have q422d : (tvI (.int x)).toInt = 0 ∨ (tvI (.int x)).toInt = 1 ∨ (tvI (.int x)).toInt = 2 ∨ (tvI (.int x)).toInt = 3 ∨ (tvI (.int x)).toInt = 4 ∨ (tvI (.int x)).toInt = 5 ∨ (tvI (.int x)).toInt = 6 ∨ (tvI (.int x)).toInt = 7 ∨ (tvI (.int x)).toInt = 8 ∨ (tvI (.int x)).toInt = 9 ∨ (tvI (.int x)).toInt = 10 := by omega
    rcases q422d with q422 | q422 | q422 | q422 | q422 | q422 | q422 | q422 | q422 | q422 | q422
    · obtain rfl : t9 = 60 := by rw [q422] at q422c; exact Option.some.inj (q422c.symm.trans rfl)
      try dsimp only [tvI_i, tvJ_j, tvR_r] at q422
      refine tw_push rfl ?_
      try dsimp only [tvI_i] at q422
      have hk9 : k = 0 := by omega
      subst hk9
      exact tw_aret rfl ⟨rfl, rfl⟩
    · obtain rfl : t9 = 64 := by rw [q422] at q422c; exact Option.some.inj (q422c.symm.trans rfl)
      try dsimp only [tvI_i, tvJ_j, tvR_r] at q422
      refine tw_push rfl ?_
      try dsimp only [tvI_i] at q422
      have hk9 : k = 1 := by omega
      subst hk9
      exact tw_aret rfl ⟨rfl, rfl⟩
    · obtain rfl : t9 = 68 := by rw [q422] at q422c; exact Option.some.inj (q422c.symm.trans rfl)
      try dsimp only [tvI_i, tvJ_j, tvR_r] at q422
      refine tw_push rfl ?_
      try dsimp only [tvI_i] at q422
      have hk9 : k = 2 := by omega
      subst hk9
      exact tw_aret rfl ⟨rfl, rfl⟩
    · obtain rfl : t9 = 72 := by rw [q422] at q422c; exact Option.some.inj (q422c.symm.trans rfl)
      try dsimp only [tvI_i, tvJ_j, tvR_r] at q422
      refine tw_push rfl ?_
      try dsimp only [tvI_i] at q422
      have hk9 : k = 3 := by omega
      subst hk9
      exact tw_aret rfl ⟨rfl, rfl⟩
    · obtain rfl : t9 = 76 := by rw [q422] at q422c; exact Option.some.inj (q422c.symm.trans rfl)
      try dsimp only [tvI_i, tvJ_j, tvR_r] at q422
      refine tw_push rfl ?_
      try dsimp only [tvI_i] at q422
      have hk9 : k = 4 := by omega
      subst hk9
      exact tw_aret rfl ⟨rfl, rfl⟩
    · obtain rfl : t9 = 80 := by rw [q422] at q422c; exact Option.some.inj (q422c.symm.trans rfl)
      try dsimp only [tvI_i, tvJ_j, tvR_r] at q422
      refine tw_push rfl ?_
      try dsimp only [tvI_i] at q422
      have hk9 : k = 5 := by omega
      subst hk9
      exact tw_aret rfl ⟨rfl, rfl⟩
    · obtain rfl : t9 = 84 := by rw [q422] at q422c; exact Option.some.inj (q422c.symm.trans rfl)
      try dsimp only [tvI_i, tvJ_j, tvR_r] at q422
      refine tw_push rfl ?_
      try dsimp only [tvI_i] at q422
      have hk9 : k = 6 := by omega
      subst hk9
      exact tw_aret rfl ⟨rfl, rfl⟩
    · obtain rfl : t9 = 88 := by rw [q422] at q422c; exact Option.some.inj (q422c.symm.trans rfl)
      try dsimp only [tvI_i, tvJ_j, tvR_r] at q422
      refine tw_push rfl ?_
      try dsimp only [tvI_i] at q422
      have hk9 : k = 7 := by omega
      subst hk9
      exact tw_aret rfl ⟨rfl, rfl⟩
    · obtain rfl : t9 = 92 := by rw [q422] at q422c; exact Option.some.inj (q422c.symm.trans rfl)
      try dsimp only [tvI_i, tvJ_j, tvR_r] at q422
      refine tw_push rfl ?_
      try dsimp only [tvI_i] at q422
      have hk9 : k = 8 := by omega
      subst hk9
      exact tw_aret rfl ⟨rfl, rfl⟩
    · obtain rfl : t9 = 96 := by rw [q422] at q422c; exact Option.some.inj (q422c.symm.trans rfl)
      try dsimp only [tvI_i, tvJ_j, tvR_r] at q422
      refine tw_push rfl ?_
      try dsimp only [tvI_i] at q422
      have hk9 : k = 9 := by omega
      subst hk9
      exact tw_aret rfl ⟨rfl, rfl⟩
    · obtain rfl : t9 = 100 := by rw [q422] at q422c; exact Option.some.inj (q422c.symm.trans rfl)
      try dsimp only [tvI_i, tvJ_j, tvR_r] at q422
      refine tw_push rfl ?_
      try dsimp only [tvI_i] at q422
      have hk9 : k = 10 := by omega
      subst hk9
      exact tw_aret rfl ⟨rfl, rfl⟩
theorem g_thingName {G : zG} (hG : G.1 = zProg) {h : zH} {x : Int32} {k : Nat} (hx : x.toInt = k) (hk : k < 4) : tC zTt G 200 [.int x] h (fun w h2 => w = some (.retAddr (k + 14)) ∧ h = h2) := by
  refine tC_in (by rw [hG]; rfl) (fun dp => ?_)
  refine tw_iload rfl rfl ?_
  refine tw_table rfl (fun q423 => ?_) (fun t9 q423a q423b q423c => ?_)
  · try dsimp only [tvI_i, tvJ_j, tvR_r] at q423
    refine tw_push rfl ?_
    try dsimp only [tvI_i] at q423
    have hk9 : k = 3 := by omega
    subst hk9
    exact tw_aret rfl ⟨rfl, rfl⟩
  · have q423d : (tvI (.int x)).toInt = 0 ∨ (tvI (.int x)).toInt = 1 ∨ (tvI (.int x)).toInt = 2 := by omega
    rcases q423d with q423 | q423 | q423
    · obtain rfl : t9 = 28 := by rw [q423] at q423c; exact Option.some.inj (q423c.symm.trans rfl)
      try dsimp only [tvI_i, tvJ_j, tvR_r] at q423
      refine tw_push rfl ?_
      try dsimp only [tvI_i] at q423
      have hk9 : k = 0 := by omega
      subst hk9
      exact tw_aret rfl ⟨rfl, rfl⟩
    · obtain rfl : t9 = 32 := by rw [q423] at q423c; exact Option.some.inj (q423c.symm.trans rfl)
      try dsimp only [tvI_i, tvJ_j, tvR_r] at q423
      refine tw_push rfl ?_
      try dsimp only [tvI_i] at q423
      have hk9 : k = 1 := by omega
      subst hk9
      exact tw_aret rfl ⟨rfl, rfl⟩
    · obtain rfl : t9 = 36 := by rw [q423] at q423c; exact Option.some.inj (q423c.symm.trans rfl)
      try dsimp only [tvI_i, tvJ_j, tvR_r] at q423
      refine tw_push rfl ?_
      try dsimp only [tvI_i] at q423
      have hk9 : k = 2 := by omega
      subst hk9
      exact tw_aret rfl ⟨rfl, rfl⟩
theorem g_value {G : zG} (hG : G.1 = zProg) (hX : G.2.1 = ztx) {h : zH} {T : Nat → Int32} {n : Nat} (hs : tSh h) (hp : mP h) (hT : tA h 132 = T) (hN : mn h = n) (hD : mD h) (hd : mDp (mSk h) ≤ 1000) (h46s : tvI (tF h 111 46) = 1) : tC zTt G 213 [.ref 111] h (fun w h2 => w = none ∧ mFq h h2 ∧ mOut (mS1 T n (mSk h) (ms h)) h2) := by
  refine tC_in (by rw [hG]; rfl) (fun dp => ?_)
  have g0 := mFr_r hs
  have hpn : (ms h).1 ≤ n := mPle hp hN
  have c129 : (12 : Int32).toInt = 12 := rfl
  have hn4 : n ≤ 400 := by have a := mNl hp hN; have b := hp.2.1; omega
  refine tw_aload rfl rfl ?_
  refine tw_virt0 rfl (g_blanks hG hX (g0).1 hp ((mFr_T g0).trans hT) ((mFr_n g0).trans hN)) (fun wp424 hp424 p424 => ?_)
  obtain ⟨rfl, gp424, pp424e, sp424, tp424, dp424⟩ := p424
  have ggp424 := mFr_t g0 gp424
  refine tw_aload rfl rfl ?_
  refine tw_getS rfl (hi_111_28 ggp424.1) ?_
  refine tw_istore rfl ?_
  refine tw_aload rfl rfl ?_
  refine tw_virt0 rfl (g_sign hG hX (ggp424).1 ((mFr_T ggp424).trans hT) ((mFr_n ggp424).trans hN) ⟨pp424e.2.1.1, by have := pp424e.2.1; omega⟩) (fun wp425 hp425 p425 => ?_)
  obtain ⟨⟨cp425, rfl, kp425⟩, rfl⟩ := p425
  refine tw_push rfl ?_
  refine tw_ic_ne rfl (fun q426 => ?_) (fun q426 => ?_)
  · try dsimp only [tvI_i, tvJ_j, tvR_r] at q426
    have q426i := zneq (Y := 40) (by decide) q426
    refine tw_aload rfl rfl ?_
    refine tw_virt0 rfl (g_sign hG hX (ggp424).1 ((mFr_T ggp424).trans hT) ((mFr_n ggp424).trans hN) ⟨pp424e.2.1.1, by have := pp424e.2.1; omega⟩) (fun wp427 hp427 p427 => ?_)
    obtain ⟨⟨cp427, rfl, kp427⟩, rfl⟩ := p427
    refine tw_stat1 rfl (g_isDigit hG) (fun w9 h9 p428 => ?_)
    obtain ⟨⟨p428, rfl⟩ | ⟨p428, rfl⟩, rfl⟩ := p428
    · try dsimp only [tvI_i, tvJ_j, tvR_r] at p428
      refine tw_if_eq rfl (fun z => absurd z (by decide)) (fun _ => ?_)
      refine tw_aload rfl rfl ?_
      refine tw_push rfl ?_
      refine tw_virt1 rfl (g_digits hG hX (ggp424).1 pp424e ((mFr_T ggp424).trans hT) ((mFr_n ggp424).trans hN) (m := 99999) (M := 99999) rfl (by decide) (by rw [sp424]; exact rB_2)) (fun w9 hp429 p429 => ?_)
      obtain ⟨gp429, ⟨vp429, Np429, rfl, pp429e, sp429, tp429, dp429⟩ | ⟨ep429, xp429, Np429, rfl, x0p429, Fp429, Zp429⟩⟩ := p429
      · have ggp429 := mFr_t ggp424 gp429
        refine tw_istore rfl ?_
        refine tw_aload rfl rfl ?_
        refine tw_iload rfl rfl ?_
        refine tw_virt1 rfl (g_counts hG hX (ggp429).1 pp429e ((mFr_T ggp429).trans hT) ((mFr_n ggp429).trans hN) (b := (rB T n (ms h).1)) ((mPl pp424e).trans (by rw [sp424]; rfl)) (by have := rB_le (T := T) hpn; omega)) (fun w9 hp430 p430 => ?_)
        obtain ⟨rfl, gp430, ⟨np430, pp430e, sp430, tp430, dp430⟩ | ⟨np430, Fp430⟩, ip430, jp430⟩ := p430
        · have ggp430 := mFr_t ggp429 gp430
          refine tw_aload rfl rfl ?_
          refine tw_push rfl ?_
          refine tw_iload rfl rfl ?_
          refine tw_virt2 rfl (g_entry hG hX (ggp430).1 pp430e ((mFr_T ggp430).trans hT) ((mFr_n ggp430).trans hN) ⟨by decide, by show 0 ≤ (Int32.ofNat vp429.2).toInt; have z := Np429; rw [sp424] at z; have := (rM_r (rB_le hpn) z).2.2; rw [zofI (by omega)]; omega⟩) (fun wp431 hp431 p431 => ?_)
          obtain ⟨rfl, gp431, pp431e, sp431, tp431, dp431⟩ := p431
          have ggp431 := mFr_t ggp430 gp431
          refine tw_aload rfl rfl ?_
          refine tw_push rfl ?_
          refine tw_put rfl (fun f432 => ?_)
          refine tG_setm f432 (hw_111_46 f432 (ggp431).1) (fun hf432 ef432 => ?_)
          try dsimp only [tvI_i] at ef432
          have gf432 := mFq_s (mFq_f ggp431) ef432 (Or.inr rfl)
          obtain ⟨pf432, sf432, tf432⟩ := mSte pp431e ef432
          refine tw_goto rfl ?_
          have hdg := (sgm_d kp427).mp p428
          rw [sp424] at hdg
          have hk12 : rK12 T n (rB T n (ms h).1) = none := rK12_n (fun k hk z => by have y := rW_l (by omega) z; have y2 : _ ∧ _ := hdg.2; have y3 : T (rB T n (ms h).1) = T (rA (rB T n (ms h).1) (ms h)).1 := rfl; rw [← y3] at y2; omega)
          have hrm : rM T n 99999 (rB T n (ms h).1) = .inr vp429 := by have z := Np429; rw [sp424] at z; exact z
          have h80 : (ms h).2.1 ≠ 80 := by have z := np430; rw [sp429, sp424] at z; exact z
          have hsk : mSk hf432 = mSk h := by rw [tf432, tp431, tp430, tp429, tp424]
          have h32 : tF hf432 111 32 = tF h 111 32 := (mI_o ef432 (by decide)).trans (dp431.trans (dp430.trans (dp429.trans dp424)))
          have hms : ms hf432 = (vp429.1, (ms h).2.1 + 1, (ms h).2.2 ++ [vp429.2]) := by rw [sf432, sp431, sp430, sp429, sp424]; show (_, _, _ ++ [mCode 0 (Int32.ofNat vp429.2).toNatClampNeg]) = _; rw [zoN (by have := (rM_r (rB_le hpn) hrm).2.2; omega)]; rfl
          exact tw_vret rfl ⟨rfl, gf432, mOut_r (by unfold mS1; rw [if_neg (fun z => q426 ((by have y := sgm_k kp425 40 (by decide); rw [sp424] at y; exact y.mpr z))), hk12]; (try dsimp only); rw [hrm]; (try dsimp only); rw [if_neg h80]) pf432 (mD_k hD hsk h32) (by unfold mst; rw [mI_x ef432, hsk, hms]; rfl)⟩
        · have ggp430 := mFr_t ggp429 gp430
          refine tw_aload rfl rfl ?_
          refine tw_push rfl ?_
          refine tw_iload rfl rfl ?_
          refine tw_virt2 rfl (z_entry hG hX (ggp430).1 Fp430 ((mFr_T ggp430).trans hT) ((mFr_n ggp430).trans hN)) (fun wp433 hp433 p433 => ?_)
          obtain ⟨rfl, e9⟩ := p433
          obtain rfl := e9.symm
          refine tw_aload rfl rfl ?_
          refine tw_push rfl ?_
          refine tw_put rfl (fun f434 => ?_)
          refine tG_setm f434 (hw_111_46 f434 (ggp430).1) (fun hf434 ef434 => ?_)
          try dsimp only [tvI_i] at ef434
          have gf434 := mFq_s (mFq_f ggp430) ef434 (Or.inr rfl)
          have zf434 := mFt_s Fp430 ef434 (by decide)
          refine tw_goto rfl ?_
          have hdg := (sgm_d kp427).mp p428
          rw [sp424] at hdg
          have hk12 : rK12 T n (rB T n (ms h).1) = none := rK12_n (fun k hk z => by have y := rW_l (by omega) z; have y2 : _ ∧ _ := hdg.2; have y3 : T (rB T n (ms h).1) = T (rA (rB T n (ms h).1) (ms h)).1 := rfl; rw [← y3] at y2; omega)
          have hrm : rM T n 99999 (rB T n (ms h).1) = .inr vp429 := by have z := Np429; rw [sp424] at z; exact z
          have h80 : (ms h).2.1 = 80 := by have z := np430; rw [sp429, sp424] at z; exact z
          have Zfin : mZp hf434 := mZp_o (mZp_k (mZp_p pp429e) ip430 jp430) ef434 (by decide)
          exact tw_vret rfl ⟨rfl, gf434, mOut_l (by unfold mS1; rw [if_neg (fun z => q426 ((by have y := sgm_k kp425 40 (by decide); rw [sp424] at y; exact y.mpr z))), hk12]; (try dsimp only); rw [hrm]; (try dsimp only); rw [if_pos h80]) zf434 Zfin⟩
      · have ggp429 := mFr_t ggp424 gp429
        refine tw_istore rfl ?_
        refine tw_aload rfl rfl ?_
        refine tw_iload rfl rfl ?_
        refine tw_virt1 rfl (z_counts hG hX (ggp429).1 Fp429 ((mFr_T ggp429).trans hT) ((mFr_n ggp429).trans hN)) (fun w9 hp435 p435 => ?_)
        obtain ⟨rfl, gp435, Fp435, ip435, jp435⟩ := p435
        · have ggp435 := mFr_t ggp429 gp435
          refine tw_aload rfl rfl ?_
          refine tw_push rfl ?_
          refine tw_iload rfl rfl ?_
          refine tw_virt2 rfl (z_entry hG hX (ggp435).1 Fp435 ((mFr_T ggp435).trans hT) ((mFr_n ggp435).trans hN)) (fun wp436 hp436 p436 => ?_)
          obtain ⟨rfl, e9⟩ := p436
          obtain rfl := e9.symm
          refine tw_aload rfl rfl ?_
          refine tw_push rfl ?_
          refine tw_put rfl (fun f437 => ?_)
          refine tG_setm f437 (hw_111_46 f437 (ggp435).1) (fun hf437 ef437 => ?_)
          try dsimp only [tvI_i] at ef437
          have gf437 := mFq_s (mFq_f ggp435) ef437 (Or.inr rfl)
          have zf437 := mFt_s Fp435 ef437 (by decide)
          refine tw_goto rfl ?_
          have hdg := (sgm_d kp427).mp p428
          rw [sp424] at hdg
          have hk12 : rK12 T n (rB T n (ms h).1) = none := rK12_n (fun k hk z => by have y := rW_l (by omega) z; have y2 : _ ∧ _ := hdg.2; have y3 : T (rB T n (ms h).1) = T (rA (rB T n (ms h).1) (ms h)).1 := rfl; rw [← y3] at y2; omega)
          have hrm : rM T n 99999 (rB T n (ms h).1) = .inl ep429 := by have z := Np429; rw [sp424] at z; exact z
          have Zfin : mZp hf437 := mZp_o (mZp_k Zp429 ip435 jp435) ef437 (by decide)
          exact tw_vret rfl ⟨rfl, gf437, mOut_l (by unfold mS1; rw [if_neg (fun z => q426 ((by have y := sgm_k kp425 40 (by decide); rw [sp424] at y; exact y.mpr z))), hk12]; (try dsimp only); rw [hrm]) zf437 Zfin⟩
    · try dsimp only [tvI_i, tvJ_j, tvR_r] at p428
      refine tw_if_eq rfl (fun _ => ?_) (fun z => absurd z (by decide))
      refine tw_push rfl ?_
      refine tw_istore rfl ?_
      refine tG_loop (zW_mono zTt G dp) (zW_conj zTt G dp) (V := fun pc L st h9 _ _ => pc = 82 ∧ st = [] ∧ hp424 = h9 ∧ ∃ (k : Nat) (x : Int32), x.toInt = k ∧ k ≤ 12 ∧ (∀ i, i < k → ¬ rW T n (rB T n (ms h).1) (rWd i) = true) ∧ L = [some (.ref 111), some (.int (tvI (tF hp424 111 28))), some (.int x)]) ?_ (⟨rfl, rfl, rfl, 0, 0, rfl, by omega, fun i hi => by omega, rfl⟩)
      rintro _ _ _ _ _ _ ⟨rfl, rfl, rfl, k, x, hx, hk, hall, rfl⟩
      refine tw_iload rfl rfl ?_
      refine tw_push rfl ?_
      refine tw_ic_ge rfl (fun q438 => ?_) (fun q438 => ?_)
      · try dsimp only [tvI_i, tvJ_j, tvR_r] at q438
        refine tw_iload rfl rfl ?_
        refine tw_push rfl ?_
        refine tw_ic_ne rfl (fun q439 => ?_) (fun q439 => ?_)
        · try dsimp only [tvI_i, tvJ_j, tvR_r] at q439
          have q439i := zneq (Y := 12) (by decide) q439
          exact absurd (show x.toInt = 12 by have z := q438; omega) (fun z => q439i z)
        · try dsimp only [tvI_i, tvJ_j, tvR_r] at q439
          have q439i := zeqi (Y := 12) (by decide) q439
          refine tw_aload rfl rfl ?_
          refine tw_push rfl ?_
          refine tw_iload rfl rfl ?_
          refine tw_virt2 rfl (g_fails hG hX (ggp424).1 pp424e ((mFr_T ggp424).trans hT) ((mFr_n ggp424).trans hN) (w := 0) (b := (rB T n (ms h).1)) rfl (by decide) ((mPl pp424e).trans (by rw [sp424]; rfl)) (by have := rB_le (T := T) hpn; omega)) (fun wp440 hp440 p440 => ?_)
          obtain ⟨rfl, gp440, Fp440, ip440, jp440⟩ := p440
          have ggp440 := mFr_t ggp424 gp440
          refine tw_goto rfl ?_
          have hk12 : rK12 T n (rB T n (ms h).1) = none := rK12_n (fun i hi => hall i (by have z := q439; have z2 : x.toInt = 12 := q439i; omega))
          have hnd : rD T n (rB T n (ms h).1) = (rB T n (ms h).1) := rD_n (fun z => p428 (by have y := sgm_d kp427; rw [sp424] at y; exact y.mpr z))
          have hrm := rM_a (M := 99999) (T := T) (n := n) (p := (rB T n (ms h).1)) (b := (rB T n (ms h).1)) rB_2 hnd
          have Zfin : mZp hp440 := mZp_k (mZp_p pp424e) ip440 jp440
          exact tw_vret rfl ⟨rfl, mFq_f ggp440, mOut_l (by unfold mS1; rw [if_neg (fun z => q426 ((by have y := sgm_k kp425 40 (by decide); rw [sp424] at y; exact y.mpr z))), hk12]; (try dsimp only); rw [hrm]) Fp440 Zfin⟩
      · try dsimp only [tvI_i, tvJ_j, tvR_r] at q438
        refine tw_aload rfl rfl ?_
        refine tw_iload rfl rfl ?_
        refine tw_stat1 rfl (g_wordOf hG (k := k) hx (by omega)) (fun wp441 hp441 p441 => ?_)
        obtain ⟨rfl, rfl⟩ := p441
        refine tw_virt1 rfl (g_stands hG hX (ggp424).1 ((mFr_T ggp424).trans hT) ((mFr_n ggp424).trans hN) (q := (k + 2)) (zl_lo k (by omega)).1 ⟨pp424e.2.1.1, by have := pp424e.2.1; omega⟩ ⟨by have := pp424e.2.1; omega, pp424e.2.1.2.2⟩) (fun w9 h9 p442 => ?_)
        obtain ⟨⟨p442, rfl⟩ | ⟨p442, rfl⟩, rfl⟩ := p442
        · try dsimp only [tvI_i, tvJ_j, tvR_r] at p442
          refine tw_if_ne rfl (fun _ => ?_) (fun z => absurd z (by decide))
          refine tw_iload rfl rfl ?_
          refine tw_push rfl ?_
          refine tw_ic_ne rfl (fun q443 => ?_) (fun q443 => ?_)
          · try dsimp only [tvI_i, tvJ_j, tvR_r] at q443
            have q443i := zneq (Y := 12) (by decide) q443
            refine tw_aload rfl rfl ?_
            refine tw_iload rfl rfl ?_
            have hk11 : k < 12 := by have z := q438; omega
            have hwk : rW T n (rB T n (ms h).1) (rWd k) = true := by have z := p442; rw [sp424] at z; rw [rWd_lo k (by omega)]; exact z
            refine tw_virt1 rfl (g_counts hG hX (ggp424).1 pp424e ((mFr_T ggp424).trans hT) ((mFr_n ggp424).trans hN) (b := (rB T n (ms h).1)) ((mPl pp424e).trans (by rw [sp424]; rfl)) (by have := rB_le (T := T) hpn; omega)) (fun w9 hp444 p444 => ?_)
            obtain ⟨rfl, gp444, ⟨np444, pp444e, sp444, tp444, dp444⟩ | ⟨np444, Fp444⟩, ip444, jp444⟩ := p444
            · have ggp444 := mFr_t ggp424 gp444
              refine tw_aload rfl rfl ?_
              refine tw_push rfl ?_
              refine tw_iload rfl rfl ?_
              refine tw_virt2 rfl (g_entry hG hX (ggp444).1 pp444e ((mFr_T ggp444).trans hT) ((mFr_n ggp444).trans hN) ⟨by decide, by omega⟩) (fun wp445 hp445 p445 => ?_)
              obtain ⟨rfl, gp445, pp445e, sp445, tp445, dp445⟩ := p445
              have ggp445 := mFr_t ggp444 gp445
              refine tw_aload rfl rfl ?_
              refine tw_dup rfl ?_
              refine tw_getS rfl (hi_111_28 ggp445.1) ?_
              refine tw_iload rfl rfl ?_
              refine tw_stat1 rfl (g_wordOf hG (k := k) hx (by omega)) (fun wp446 hp446 p446 => ?_)
              obtain ⟨rfl, rfl⟩ := p446
              refine tw_tlen rfl ?_
              refine tw_iadd rfl ?_
              refine tw_put rfl (fun f447 => ?_)
              refine tG_setm f447 (hw_111_28 f447 (ggp445).1) (fun hf447 ef447 => ?_)
              try dsimp only [tvI_i] at ef447
              have gf447 := mFr_s ggp445 ef447 (by unfold mFs; omega)
              have hln : (Int32.ofNat (G.2.1 (k + 2)).length).toInt = ((ztx (k + 2)).length : Int) := by rw [hX]; exact zofI (by have := (zl_lo k (by omega)).1; omega)
              have hre : rE T n (rB T n (ms h).1) = (rB T n (ms h).1) + (ztx (k + 2)).length := by rw [rW_e hwk, rWd_lo k (by omega)]
              have hre2 := rE_le (T := T) (rB_le (T := T) hpn)
              obtain ⟨pf447, sf447, tf447⟩ := mTo pp445e ((mFr_n ggp445).trans hN) ef447 (v := (rB T n (ms h).1) + (ztx (k + 2)).length) (zadN (a := (rB T n (ms h).1)) (by rw [mPl pp445e, sp445, sp444, sp424]; rfl) hln (by omega) (by have := (zl_lo k (by omega)).1; omega)) (by omega)
              rw [sp445, sp444, sp424, ← hre] at sf447
              refine tw_aload rfl rfl ?_
              refine tw_push rfl ?_
              refine tw_put rfl (fun f448 => ?_)
              refine tG_setm f448 (hw_111_46 f448 (gf447).1) (fun hf448 ef448 => ?_)
              try dsimp only [tvI_i] at ef448
              have gf448 := mFq_s (mFq_f gf447) ef448 (Or.inr rfl)
              obtain ⟨pf448, sf448, tf448⟩ := mSte pf447 ef448
              have hk12 : rK12 T n (rB T n (ms h).1) = some k := rK12_i (by omega) hwk
              have h80 : (ms h).2.1 ≠ 80 := by have z := np444; rw [sp424] at z; exact z
              have hsk : mSk hf448 = mSk h := by rw [tf448, tf447, tp445, tp444, tp424]
              have h32 : tF hf448 111 32 = tF h 111 32 := (mI_o ef448 (by decide)).trans ((mI_o ef447 (by decide)).trans (dp445.trans (dp444.trans dp424)))
              have hms : ms hf448 = (rE T n (rB T n (ms h).1), (ms h).2.1 + 1, (ms h).2.2 ++ [100000 + k]) := by rw [sf448, sf447]; show (_, _, _ ++ [mCode 1 x.toNatClampNeg]) = _; rw [zof_cl hx, mCode_1 (by omega)]; rfl
              exact tw_vret rfl ⟨rfl, gf448, mOut_r (by unfold mS1; rw [if_neg (fun z => q426 ((by have y := sgm_k kp425 40 (by decide); rw [sp424] at y; exact y.mpr z))), hk12]; (try dsimp only); rw [if_neg h80]) pf448 (mD_k hD hsk h32) (by unfold mst; rw [mI_x ef448, hsk, hms]; rfl)⟩
            · have ggp444 := mFr_t ggp424 gp444
              refine tw_aload rfl rfl ?_
              refine tw_push rfl ?_
              refine tw_iload rfl rfl ?_
              refine tw_virt2 rfl (z_entry hG hX (ggp444).1 Fp444 ((mFr_T ggp444).trans hT) ((mFr_n ggp444).trans hN)) (fun wp449 hp449 p449 => ?_)
              obtain ⟨rfl, e9⟩ := p449
              obtain rfl := e9.symm
              refine tw_aload rfl rfl ?_
              refine tw_dup rfl ?_
              refine tw_getS rfl (hi_111_28 (ggp444).1) ?_
              refine tw_iload rfl rfl ?_
              refine tw_stat1 rfl (g_wordOf hG (k := k) hx (by omega)) (fun wp450 hp450 p450 => ?_)
              obtain ⟨rfl, rfl⟩ := p450
              refine tw_tlen rfl ?_
              refine tw_iadd rfl ?_
              refine tw_put rfl (fun f451 => ?_)
              refine tG_setm f451 (hw_111_28 f451 (ggp444).1) (fun hf451 ef451 => ?_)
              try dsimp only [tvI_i] at ef451
              have gf451 := mFr_s ggp444 ef451 (by unfold mFs; omega)
              have zf451 := mFt_s Fp444 ef451 (by decide)
              have Zbf451 : 0 ≤ (tvI (tF hp444 111 27)).toInt ∧ (tvI (tF hp444 111 27)).toInt ≤ 400 := by rw [show tF hp444 111 27 = tF h 111 27 from mFr_27 ggp444]; have := hp.2.1; omega
              have yf451 : (tvI (tF hp444 111 28)).toInt = (((rB T n (ms h).1) : Nat) : Int) := by rw [ip444, mPl pp424e, sp424]; rfl
              have hln : (Int32.ofNat (G.2.1 (k + 2)).length).toInt = ((ztx (k + 2)).length : Int) := by rw [hX]; exact zofI (by have := (zl_lo k (by omega)).1; omega)
              have Zf451 : mZp hf451 := by have y := zadN yf451 hln (by have := rB_le (T := T) hpn; omega) (by have := (zl_lo k (by omega)).1; omega); have y2 := rE_le (T := T) (rB_le (T := T) hpn); rw [rW_e hwk, rWd_lo k (by omega)] at y2; unfold mZp; rw [mI_x ef451, mI_o ef451 (by decide)]; exact ⟨⟨by omega, Zbf451.1⟩, by omega, Zbf451.2⟩
              refine tw_aload rfl rfl ?_
              refine tw_push rfl ?_
              refine tw_put rfl (fun f452 => ?_)
              refine tG_setm f452 (hw_111_46 f452 (gf451).1) (fun hf452 ef452 => ?_)
              try dsimp only [tvI_i] at ef452
              have gf452 := mFq_s (mFq_f gf451) ef452 (Or.inr rfl)
              have zf452 := mFt_s zf451 ef452 (by decide)
              have hk12 : rK12 T n (rB T n (ms h).1) = some k := rK12_i (by omega) hwk
              have h80 : (ms h).2.1 = 80 := by have z := np444; rw [sp424] at z; exact z
              have Zfin : mZp hf452 := mZp_o Zf451 ef452 (by decide)
              exact tw_vret rfl ⟨rfl, gf452, mOut_l (by unfold mS1; rw [if_neg (fun z => q426 ((by have y := sgm_k kp425 40 (by decide); rw [sp424] at y; exact y.mpr z))), hk12]; (try dsimp only); rw [if_pos h80]) zf452 Zfin⟩
          · try dsimp only [tvI_i, tvJ_j, tvR_r] at q443
            have q443i := zeqi (Y := 12) (by decide) q443
            exact absurd (show x.toInt = 12 from q443i) (by have z := q438; omega)
        · try dsimp only [tvI_i, tvJ_j, tvR_r] at p442
          refine tw_if_ne rfl (fun z => absurd z (by decide)) (fun _ => ?_)
          refine tw_iinc rfl rfl ?_
          refine tw_goto rfl ?_
          have hno : ¬ rW T n (rB T n (ms h).1) (rWd k) = true := by have z := p442; rw [sp424] at z; rw [rWd_lo k (by omega)]; exact z
          exact tG_cut (zW_mono zTt G dp) (Or.inr ⟨rfl, rfl, rfl, k + 1, x + 1, zincN hx (by omega), by omega, fun i hi => (Classical.em (i = k)).elim (fun z => by rw [z]; exact hno) (fun z => hall i (by omega)), rfl⟩)
  · try dsimp only [tvI_i, tvJ_j, tvR_r] at q426
    have q426i := zeqi (Y := 40) (by decide) q426
    refine tw_aload rfl rfl ?_
    refine tw_push rfl ?_
    refine tw_iload rfl rfl ?_
    have hw40 : (rB T n (ms h).1) < n ∧ T (rB T n (ms h).1) = 40 := by have y := sgm_k kp425 40 (by decide); rw [sp424] at y; exact y.mp q426
    refine tw_virt2 rfl (g_opensDeep hG hX (ggp424).1 pp424e ((mFr_T ggp424).trans hT) ((mFr_n ggp424).trans hN) (by decide) (by decide) (b := (rB T n (ms h).1)) ((mPl pp424e).trans (by rw [sp424]; rfl)) (by have := rB_le (T := T) hpn; omega) (mD_k hD tp424 dp424) (by rw [tp424]; exact hd)) (fun w9 hp453 p453 => ?_)
    obtain ⟨rfl, gp453, ⟨np453, pp453e, tp453, sp453, ddp453⟩ | ⟨np453, Fp453, ip453, jp453⟩⟩ := p453
    · have ggp453 := mFr_t ggp424 gp453
      refine tw_aload rfl rfl ?_
      refine tw_iload rfl rfl ?_
      refine tw_virt1 rfl (g_counts hG hX (ggp453).1 pp453e ((mFr_T ggp453).trans hT) ((mFr_n ggp453).trans hN) (b := (rB T n (ms h).1)) ((mPl pp424e).trans (by rw [sp424]; rfl)) (by have := rB_le (T := T) hpn; omega)) (fun w9 hp454 p454 => ?_)
      obtain ⟨rfl, gp454, ⟨np454, pp454e, sp454, tp454, dp454⟩ | ⟨np454, Fp454⟩, ip454, jp454⟩ := p454
      · have ggp454 := mFr_t ggp453 gp454
        refine tw_aload rfl rfl ?_
        refine tw_dup rfl ?_
        refine tw_getS rfl (hi_111_28 ggp454.1) ?_
        refine tw_push rfl ?_
        refine tw_iadd rfl ?_
        refine tw_put rfl (fun f455 => ?_)
        refine tG_setm f455 (hw_111_28 f455 (ggp454).1) (fun hf455 ef455 => ?_)
        try dsimp only [tvI_i] at ef455
        have gf455 := mFr_s ggp454 ef455 (by unfold mFs; omega)
        have wf455 := hw40
        obtain ⟨pf455, sf455, tf455⟩ := mTo pp454e ((mFr_n ggp454).trans hN) ef455 (v := (rB T n (ms h).1) + 1) (zincN (n := (rB T n (ms h).1)) (by rw [mPl pp454e, sp454, sp453, sp424]; rfl) (by omega)) wf455.1
        rw [sp454, sp453, sp424] at sf455
        refine tw_goto rfl ?_
        have hnd : mDp (mSk h) ≠ 10 := by rw [← tp424]; exact np453
        have h80 : (ms h).2.1 ≠ 80 := by have z := np454; rw [sp453, sp424] at z; exact z
        have hsk : mSk hf455 = 50 :: mSk h := by rw [tf455, tp454, tp453, tp424]; rfl
        have hdd : mD hf455 := mD_o ef455 (by decide) (by decide) (mD_k ddp453 tp454 dp454)
        have h46 : stN (tvI (tF hf455 111 46)) = 1 := by rw [mFr_46 gf455, h46s]; rfl
        exact tw_vret rfl ⟨rfl, mFq_f gf455, mOut_r (by unfold mS1; rw [if_pos hw40, if_neg hnd, if_neg h80]) pf455 hdd (by unfold mst; rw [h46, hsk, sf455]; rfl)⟩
      · have ggp454 := mFr_t ggp453 gp454
        refine tw_aload rfl rfl ?_
        refine tw_dup rfl ?_
        refine tw_getS rfl (hi_111_28 ggp454.1) ?_
        refine tw_push rfl ?_
        refine tw_iadd rfl ?_
        refine tw_put rfl (fun f456 => ?_)
        refine tG_setm f456 (hw_111_28 f456 (ggp454).1) (fun hf456 ef456 => ?_)
        try dsimp only [tvI_i] at ef456
        have gf456 := mFr_s ggp454 ef456 (by unfold mFs; omega)
        have zf456 := mFt_s Fp454 ef456 (by decide)
        have yf456 : (tvI (tF hp454 111 28)).toInt = (((rB T n (ms h).1) : Nat) : Int) := by rw [ip454, mPl pp453e, sp453, sp424]; rfl
        have Zbf456 : 0 ≤ (tvI (tF hp454 111 27)).toInt ∧ (tvI (tF hp454 111 27)).toInt ≤ 400 := by rw [show tF hp454 111 27 = tF h 111 27 from mFr_27 ggp454]; have := hp.2.1; omega
        have Zf456 : mZp hf456 := by have y := zp1 yf456 (by have := rB_le (T := T) hpn; omega); have y2 := rB_le (T := T) hpn; unfold mZp; rw [mI_x ef456, mI_o ef456 (by decide)]; exact ⟨⟨by omega, Zbf456.1⟩, by omega, Zbf456.2⟩
        refine tw_goto rfl ?_
        have hnd : mDp (mSk h) ≠ 10 := by rw [← tp424]; exact np453
        have h80 : (ms h).2.1 = 80 := by have z := np454; rw [sp453, sp424] at z; exact z
        exact tw_vret rfl ⟨rfl, mFq_f gf456, mOut_l (by unfold mS1; rw [if_pos hw40, if_neg hnd, if_pos h80]) zf456 Zf456⟩
    · have ggp453 := mFr_t ggp424 gp453
      refine tw_aload rfl rfl ?_
      refine tw_iload rfl rfl ?_
      refine tw_virt1 rfl (z_counts hG hX (ggp453).1 Fp453 ((mFr_T ggp453).trans hT) ((mFr_n ggp453).trans hN)) (fun w9 hp457 p457 => ?_)
      obtain ⟨rfl, gp457, Fp457, ip457, jp457⟩ := p457
      · have ggp457 := mFr_t ggp453 gp457
        refine tw_aload rfl rfl ?_
        refine tw_dup rfl ?_
        refine tw_getS rfl (hi_111_28 ggp457.1) ?_
        refine tw_push rfl ?_
        refine tw_iadd rfl ?_
        refine tw_put rfl (fun f458 => ?_)
        refine tG_setm f458 (hw_111_28 f458 (ggp457).1) (fun hf458 ef458 => ?_)
        try dsimp only [tvI_i] at ef458
        have gf458 := mFr_s ggp457 ef458 (by unfold mFs; omega)
        have zf458 := mFt_s Fp457 ef458 (by decide)
        have yf458 : (tvI (tF hp457 111 28)).toInt = (((rB T n (ms h).1) : Nat) : Int) := by rw [ip457, ip453, mPl pp424e, sp424]; rfl
        have Zbf458 : 0 ≤ (tvI (tF hp457 111 27)).toInt ∧ (tvI (tF hp457 111 27)).toInt ≤ 400 := by rw [show tF hp457 111 27 = tF h 111 27 from mFr_27 ggp457]; have := hp.2.1; omega
        have Zf458 : mZp hf458 := by have y := zp1 yf458 (by have := rB_le (T := T) hpn; omega); have y2 := rB_le (T := T) hpn; unfold mZp; rw [mI_x ef458, mI_o ef458 (by decide)]; exact ⟨⟨by omega, Zbf458.1⟩, by omega, Zbf458.2⟩
        refine tw_goto rfl ?_
        exact tw_vret rfl ⟨rfl, mFq_f gf458, mOut_l (by unfold mS1; rw [if_pos hw40, if_pos (by rw [← tp424]; exact np453)]) zf458 Zf458⟩
theorem txt_k : rWd 19 = ztx 18 ∧ rWd 18 = ztx 19 ∧ rWd 17 = ztx 20 ∧ rWd 16 = ztx 21 := by decide +kernel
theorem zp3 {x y : Int32} {k j : Nat} (h : x.toInt = k) (hy : y.toInt = j) (hk : k ≤ 1000) (hj : j ≤ 10) : (x + y).toInt = ((k + j : Nat) : Int) := zadN h hy (by omega) (by omega)
theorem mZ_of {h h0 h3 : zH} {X : Int32} {v : Nat} (g : mFr h0 h) (p : mP h0) (s : mSet 28 X h h3) (hx : X.toInt = v) (hv : v ≤ 500) : mZp h3 := by
  have e := mFr_27 g
  have := p.2.1
  unfold mZp
  rw [mI_x s, mI_o s (by decide), e]
  exact ⟨⟨by omega, by omega⟩, by omega, by omega⟩
theorem g_beginsFact {G : zG} (hG : G.1 = zProg) (hX : G.2.1 = ztx) {h : zH} {T : Nat → Int32} {n : Nat} (hs : tSh h) (hp : mP h) (hT : tA h 132 = T) (hN : mn h = n) (hD : mD h) (hd : mDp (mSk h) ≤ 1000) (h46s : tvI (tF h 111 46) = 0) : tC zTt G 216 [.ref 111] h (fun w h2 => w = none ∧ mFq h h2 ∧ mOut (mS0 T n (mSk h) (ms h)) h2) := by
  refine tC_in (by rw [hG]; rfl) (fun dp => ?_)
  have g0 := mFr_r hs
  have hpn : (ms h).1 ≤ n := mPle hp hN
  have hn4 : n ≤ 400 := by have a := mNl hp hN; have b := hp.2.1; omega
  refine tw_aload rfl rfl ?_
  refine tw_virt0 rfl (g_blanks hG hX (g0).1 hp ((mFr_T g0).trans hT) ((mFr_n g0).trans hN)) (fun wp459 hp459 p459 => ?_)
  obtain ⟨rfl, gp459, pp459e, sp459, tp459, dp459⟩ := p459
  have ggp459 := mFr_t g0 gp459
  refine tw_aload rfl rfl ?_
  refine tw_push rfl ?_
  refine tw_virt1 rfl (g_stands hG hX (ggp459).1 ((mFr_T ggp459).trans hT) ((mFr_n ggp459).trans hN) (q := 18) (by decide +kernel) ⟨pp459e.2.1.1, by have := pp459e.2.1; omega⟩ ⟨by have := pp459e.2.1; omega, pp459e.2.1.2.2⟩) (fun w9 h9 p460 => ?_)
  obtain ⟨⟨p460, rfl⟩ | ⟨p460, rfl⟩, rfl⟩ := p460
  · try dsimp only [tvI_i, tvJ_j, tvR_r] at p460
    refine tw_if_eq rfl (fun z => absurd z (by decide)) (fun _ => ?_)
    refine tw_aload rfl rfl ?_
    refine tw_push rfl ?_
    refine tw_aload rfl rfl ?_
    refine tw_getS rfl (hi_111_28 ggp459.1) ?_
    have hwn : rW T n (rB T n (ms h).1) (rWd 19) = true := by have z := p460; rw [sp459] at z; rw [txt_k.1]; exact z
    refine tw_virt2 rfl (g_opensDeep hG hX (ggp459).1 pp459e ((mFr_T ggp459).trans hT) ((mFr_n ggp459).trans hN) (by decide) (by decide) (b := (rB T n (ms h).1)) ((mPl pp459e).trans (by rw [sp459]; rfl)) (by have := rB_le (T := T) hpn; omega) (mD_k hD tp459 dp459) (by rw [tp459]; exact hd)) (fun w9 hp461 p461 => ?_)
    obtain ⟨rfl, gp461, ⟨np461, pp461e, tp461, sp461, ddp461⟩ | ⟨np461, Fp461, ip461, jp461⟩⟩ := p461
    · have ggp461 := mFr_t ggp459 gp461
      refine tw_aload rfl rfl ?_
      refine tw_dup rfl ?_
      refine tw_getS rfl (hi_111_28 ggp461.1) ?_
      refine tw_push rfl ?_
      refine tw_iadd rfl ?_
      refine tw_put rfl (fun f462 => ?_)
      refine tG_setm f462 (hw_111_28 f462 (ggp461).1) (fun hf462 ef462 => ?_)
      try dsimp only [tvI_i] at ef462
      have gf462 := mFr_s ggp461 ef462 (by unfold mFs; omega)
      have h9w : rE T n (rB T n (ms h).1) = (rB T n (ms h).1) + 3 := by rw [rW_e hwn, wlen_k.2.2.1]
      have hr9 := rE_le (T := T) (rB_le (T := T) hpn)
      rw [h9w] at hr9
      obtain ⟨pf462, sf462, tf462⟩ := mTo pp461e ((mFr_n ggp461).trans hN) ef462 (v := (rB T n (ms h).1) + 3) (zp3 (k := (rB T n (ms h).1)) (j := 3) (by rw [mPl pp461e, sp461, sp459]; rfl) rfl (by have := rB_le (T := T) hpn; omega) (by decide)) hr9
      rw [sp461, sp459] at sf462
      refine tw_goto rfl ?_
      have hsk : mSk hf462 = 10 :: mSk h := by rw [tf462, tp461, tp459]; rfl
      have h46 : stN (tvI (tF hf462 111 46)) = 0 := by rw [mFr_46 gf462, h46s]; rfl
      exact tw_vret rfl ⟨rfl, mFq_f gf462, mOut_r (by unfold mS0; rw [if_pos hwn, if_neg (by rw [← tp459]; exact np461)]) pf462 (mD_o ef462 (by decide) (by decide) ddp461) (by unfold mst; rw [h46, hsk, sf462]; rfl)⟩
    · have ggp461 := mFr_t ggp459 gp461
      refine tw_aload rfl rfl ?_
      refine tw_dup rfl ?_
      refine tw_getS rfl (hi_111_28 ggp461.1) ?_
      refine tw_push rfl ?_
      refine tw_iadd rfl ?_
      refine tw_put rfl (fun f463 => ?_)
      refine tG_setm f463 (hw_111_28 f463 (ggp461).1) (fun hf463 ef463 => ?_)
      try dsimp only [tvI_i] at ef463
      have gf463 := mFr_s ggp461 ef463 (by unfold mFs; omega)
      have zf463 := mFt_s Fp461 ef463 (by decide)
      have yf463 : (tvI (tF hp461 111 28)).toInt = (((rB T n (ms h).1) : Nat) : Int) := by rw [ip461, mPl pp459e, sp459]; rfl
      have Zf463 : mZp hf463 := mZ_of ggp461 hp ef463 (zp3 yf463 (j := 3) rfl (by have := rB_le (T := T) hpn; omega) (by decide)) (by have := rB_le (T := T) hpn; omega)
      refine tw_goto rfl ?_
      exact tw_vret rfl ⟨rfl, mFq_f gf463, mOut_l (by unfold mS0; rw [if_pos hwn, if_pos (by rw [← tp459]; exact np461)]) zf463 Zf463⟩
  · try dsimp only [tvI_i, tvJ_j, tvR_r] at p460
    refine tw_if_eq rfl (fun _ => ?_) (fun z => absurd z (by decide))
    refine tw_aload rfl rfl ?_
    refine tw_virt0 rfl (g_sign hG hX (ggp459).1 ((mFr_T ggp459).trans hT) ((mFr_n ggp459).trans hN) ⟨pp459e.2.1.1, by have := pp459e.2.1; omega⟩) (fun wp464 hp464 p464 => ?_)
    obtain ⟨⟨cp464, rfl, kp464⟩, rfl⟩ := p464
    refine tw_push rfl ?_
    refine tw_ic_ne rfl (fun q465 => ?_) (fun q465 => ?_)
    · try dsimp only [tvI_i, tvJ_j, tvR_r] at q465
      have q465i := zneq (Y := 91) (by decide) q465
      refine tw_aload rfl rfl ?_
      refine tw_push rfl ?_
      refine tw_put rfl (fun f466 => ?_)
      refine tG_setm f466 (hw_111_46 f466 (ggp459).1) (fun hf466 ef466 => ?_)
      try dsimp only [tvI_i] at ef466
      have gf466 := mFq_s (mFq_f ggp459) ef466 (Or.inr rfl)
      obtain ⟨pf466, sf466, tf466⟩ := mSte pp459e ef466
      exact tw_vret rfl ⟨rfl, gf466, mOut_r (by unfold mS0; rw [if_neg (fun z => p460 (by have y := z; rw [txt_k.1] at y; rw [sp459]; exact y)), if_neg (fun z => q465 (by have y := sgm_k kp464 91 (by decide); rw [sp459] at y; exact y.mpr z))]) pf466 (mD_k hD (tf466.trans tp459) ((mI_o ef466 (by decide)).trans dp459)) (by unfold mst; rw [mI_x ef466, tf466, tp459, sf466, sp459]; rfl)⟩
    · try dsimp only [tvI_i, tvJ_j, tvR_r] at q465
      have q465i := zeqi (Y := 91) (by decide) q465
      refine tw_aload rfl rfl ?_
      refine tw_push rfl ?_
      refine tw_aload rfl rfl ?_
      refine tw_getS rfl (hi_111_28 (ggp459).1) ?_
      have hw91 : (rB T n (ms h).1) < n ∧ T (rB T n (ms h).1) = 91 := by have y := sgm_k kp464 91 (by decide); rw [sp459] at y; exact y.mp q465
      refine tw_virt2 rfl (g_opensDeep hG hX (ggp459).1 pp459e ((mFr_T ggp459).trans hT) ((mFr_n ggp459).trans hN) (by decide) (by decide) (b := (rB T n (ms h).1)) ((mPl pp459e).trans (by rw [sp459]; rfl)) (by have := rB_le (T := T) hpn; omega) (mD_k hD tp459 dp459) (by rw [tp459]; exact hd)) (fun w9 hp467 p467 => ?_)
      obtain ⟨rfl, gp467, ⟨np467, pp467e, tp467, sp467, ddp467⟩ | ⟨np467, Fp467, ip467, jp467⟩⟩ := p467
      · have ggp467 := mFr_t ggp459 gp467
        refine tw_aload rfl rfl ?_
        refine tw_dup rfl ?_
        refine tw_getS rfl (hi_111_28 ggp467.1) ?_
        refine tw_push rfl ?_
        refine tw_iadd rfl ?_
        refine tw_put rfl (fun f468 => ?_)
        refine tG_setm f468 (hw_111_28 f468 (ggp467).1) (fun hf468 ef468 => ?_)
        try dsimp only [tvI_i] at ef468
        have gf468 := mFr_s ggp467 ef468 (by unfold mFs; omega)
        have hr9 : (rB T n (ms h).1) + 1 ≤ n := hw91.1
        obtain ⟨pf468, sf468, tf468⟩ := mTo pp467e ((mFr_n ggp467).trans hN) ef468 (v := (rB T n (ms h).1) + 1) (zp3 (k := (rB T n (ms h).1)) (j := 1) (by rw [mPl pp467e, sp467, sp459]; rfl) rfl (by have := rB_le (T := T) hpn; omega) (by decide)) hr9
        rw [sp467, sp459] at sf468
        refine tw_goto rfl ?_
        have hsk : mSk hf468 = 13 :: mSk h := by rw [tf468, tp467, tp459]; rfl
        have h46 : stN (tvI (tF hf468 111 46)) = 0 := by rw [mFr_46 gf468, h46s]; rfl
        exact tw_vret rfl ⟨rfl, mFq_f gf468, mOut_r (by unfold mS0; rw [if_neg (fun z => p460 (by have y := z; rw [txt_k.1] at y; rw [sp459]; exact y)), if_pos hw91, if_neg (by rw [← tp459]; exact np467)]) pf468 (mD_o ef468 (by decide) (by decide) ddp467) (by unfold mst; rw [h46, hsk, sf468]; rfl)⟩
      · have ggp467 := mFr_t ggp459 gp467
        refine tw_aload rfl rfl ?_
        refine tw_dup rfl ?_
        refine tw_getS rfl (hi_111_28 ggp467.1) ?_
        refine tw_push rfl ?_
        refine tw_iadd rfl ?_
        refine tw_put rfl (fun f469 => ?_)
        refine tG_setm f469 (hw_111_28 f469 (ggp467).1) (fun hf469 ef469 => ?_)
        try dsimp only [tvI_i] at ef469
        have gf469 := mFr_s ggp467 ef469 (by unfold mFs; omega)
        have zf469 := mFt_s Fp467 ef469 (by decide)
        have yf469 : (tvI (tF hp467 111 28)).toInt = (((rB T n (ms h).1) : Nat) : Int) := by rw [ip467, mPl pp459e, sp459]; rfl
        have Zf469 : mZp hf469 := mZ_of ggp467 hp ef469 (zp3 yf469 (j := 1) rfl (by have := rB_le (T := T) hpn; omega) (by decide)) (by have := rB_le (T := T) hpn; omega)
        refine tw_goto rfl ?_
        exact tw_vret rfl ⟨rfl, mFq_f gf469, mOut_l (by unfold mS0; rw [if_neg (fun z => p460 (by have y := z; rw [txt_k.1] at y; rw [sp459]; exact y)), if_pos hw91, if_pos (by rw [← tp459]; exact np467)]) zf469 Zf469⟩
theorem g_closesRound {G : zG} (hG : G.1 = zProg) (hX : G.2.1 = ztx) {h : zH} {T : Nat → Int32} {n : Nat} (hs : tSh h) (hp : mP h) (hT : tA h 132 = T) (hN : mn h = n) {c : Int32} (hc : sgm T n (ms h).1 c) (hhd : (mSk h).headD 0 = 50) (hD : mD h) : tC zTt G 218 [.ref 111, .int c] h (fun w h2 => w = none ∧ mFr h h2 ∧ ((((ms h).1 < n ∧ T (ms h).1 = 41) ∧ mP h2 ∧ ms h2 = rA ((ms h).1 + 1) (ms h) ∧ mSk h2 = (mSk h).tail ∧ mD h2) ∨ (¬ ((ms h).1 < n ∧ T (ms h).1 = 41) ∧ mFt h2 (1 + 8 * (ms h).1 + 0) ∧ mZp h2))) := by
  refine tC_in (by rw [hG]; rfl) (fun dp => ?_)
  have g0 := mFr_r hs
  have hpn : (ms h).1 ≤ n := mPle hp hN
  have hn4 : n ≤ 400 := by have a := mNl hp hN; have b := hp.2.1; omega
  refine tw_iload rfl rfl ?_
  refine tw_push rfl ?_
  refine tw_ic_eq rfl (fun q470 => ?_) (fun q470 => ?_)
  · try dsimp only [tvI_i, tvJ_j, tvR_r] at q470
    have q470i := zeqi (Y := 41) (by decide) q470
    refine tw_aload rfl rfl ?_
    refine tw_dup rfl ?_
    refine tw_getS rfl (hi_111_28 hs) ?_
    refine tw_push rfl ?_
    refine tw_iadd rfl ?_
    refine tw_put rfl (fun f471 => ?_)
    refine tG_setm f471 (hw_111_28 f471 (g0).1) (fun hf471 ef471 => ?_)
    try dsimp only [tvI_i] at ef471
    have gf471 := mFr_s g0 ef471 (by unfold mFs; omega)
    have w9 := (sgm_k hc 41 (by decide)).mp q470
    obtain ⟨pf471, sf471, tf471⟩ := mTo hp ((mFr_n g0).trans hN) ef471 (v := (ms h).1 + 1) (zp1 (mPl hp) (by omega)) w9.1
    refine tw_aload rfl rfl ?_
    refine tw_dup rfl ?_
    refine tw_getS rfl (hi_111_34 (gf471).1) ?_
    refine tw_push rfl ?_
    refine tw_isub rfl ?_
    refine tw_put rfl (fun f472 => ?_)
    refine tG_setm f472 (hw_111_34 f472 (gf471).1) (fun hf472 ef472 => ?_)
    try dsimp only [tvI_i] at ef472
    have gf472 := mFr_s gf471 ef472 (by unfold mFs; omega)
    have hst : mSk hf471 = 50 :: (mSk h).tail := tf471.trans (mhead (k := 49) hhd)
    obtain ⟨pf472, tf472, sf472, df472⟩ := mSk_pop pf471 (by rw [hst]; exact List.cons_ne_nil _ _) ef472
    rw [hst] at tf472
    have tf472 : mSk hf472 = (mSk h).tail := tf472
    refine tw_aload rfl rfl ?_
    refine tw_dup rfl ?_
    refine tw_getS rfl (hi_111_32 (gf472).1) ?_
    refine tw_push rfl ?_
    refine tw_isub rfl ?_
    refine tw_put rfl (fun f473 => ?_)
    refine tG_setm f473 (hw_111_32 f473 (gf472).1) (fun hf473 ef473 => ?_)
    try dsimp only [tvI_i] at ef473
    have gf473 := mFr_s gf472 ef473 (by unfold mFs; omega)
    have hdf473 : (tvI (tF hf472 111 32)).toInt = ((mDp (mSk hf472) + 1 : Nat) : Int) := by
      rw [df472, mI_o ef471 (by decide)]
      refine (show (tvI (tF h 111 32)).toInt = (mDp (mSk h) : Int) from hD).trans ?_
      rw [tf472]
      exact congrArg (fun z : Nat => (z : Int)) ((congrArg mDp (mhead (k := 49) hhd)).trans (mDp_c (by decide)))
    obtain ⟨pf473, tf473, sf473, ddf473⟩ := mDn pf472 ef473 hdf473 rfl
    exact tw_vret rfl ⟨rfl, gf473, Or.inl ⟨w9, pf473, by rw [sf473, sf472, sf471], by rw [tf473, tf472], ddf473⟩⟩
  · try dsimp only [tvI_i, tvJ_j, tvR_r] at q470
    have q470i := zneq (Y := 41) (by decide) q470
    refine tw_aload rfl rfl ?_
    refine tw_push rfl ?_
    refine tw_aload rfl rfl ?_
    refine tw_getS rfl (hi_111_28 hs) ?_
    refine tw_virt2 rfl (g_fails hG hX (g0).1 hp ((mFr_T g0).trans hT) ((mFr_n g0).trans hN) (w := 0) (b := (ms h).1) rfl (by decide) (mPl hp) (by omega)) (fun wp474 hp474 p474 => ?_)
    obtain ⟨rfl, gp474, Fp474, ip474, jp474⟩ := p474
    have ggp474 := mFr_t g0 gp474
    refine tw_aload rfl rfl ?_
    refine tw_dup rfl ?_
    refine tw_getS rfl (hi_111_28 ggp474.1) ?_
    refine tw_push rfl ?_
    refine tw_iadd rfl ?_
    refine tw_put rfl (fun f475 => ?_)
    refine tG_setm f475 (hw_111_28 f475 (ggp474).1) (fun hf475 ef475 => ?_)
    try dsimp only [tvI_i] at ef475
    have gf475 := mFr_s ggp474 ef475 (by unfold mFs; omega)
    have zf475 := mFt_s Fp474 ef475 (by decide)
    have yf475 : (tvI (tF hp474 111 28)).toInt = (((ms h).1 : Nat) : Int) := by rw [ip474]; exact mPl hp
    have Zf475 : mZp hf475 := mZ_of ggp474 hp ef475 (zp1 yf475 (by omega)) (by omega)
    refine tw_aload rfl rfl ?_
    refine tw_dup rfl ?_
    refine tw_getS rfl (hi_111_34 (gf475).1) ?_
    refine tw_push rfl ?_
    refine tw_isub rfl ?_
    refine tw_put rfl (fun f476 => ?_)
    refine tG_setm f476 (hw_111_34 f476 (gf475).1) (fun hf476 ef476 => ?_)
    try dsimp only [tvI_i] at ef476
    have gf476 := mFr_s gf475 ef476 (by unfold mFs; omega)
    have zf476 := mFt_s zf475 ef476 (by decide)
    have Zf476 : mZp hf476 := mZp_o Zf475 ef476 (by decide)
    refine tw_aload rfl rfl ?_
    refine tw_dup rfl ?_
    refine tw_getS rfl (hi_111_32 (gf476).1) ?_
    refine tw_push rfl ?_
    refine tw_isub rfl ?_
    refine tw_put rfl (fun f477 => ?_)
    refine tG_setm f477 (hw_111_32 f477 (gf476).1) (fun hf477 ef477 => ?_)
    try dsimp only [tvI_i] at ef477
    have gf477 := mFr_s gf476 ef477 (by unfold mFs; omega)
    have zf477 := mFt_s zf476 ef477 (by decide)
    have Zf477 : mZp hf477 := mZp_o Zf476 ef477 (by decide)
    exact tw_vret rfl ⟨rfl, gf477, Or.inr ⟨fun z => q470 ((sgm_k hc 41 (by decide)).mpr z), zf477, Zf477⟩⟩
theorem mDp_T : ∀ (S o : List Nat), mDp (mT S o).1 = mDp S
  | [], _ => rfl
  | x :: r, o => by
    unfold mT
    by_cases z : x = 102
    · rw [if_pos z, mDp_T r, z, mDp_e (by decide)]
    · rw [if_neg z]
theorem mDp_P : ∀ (S o : List Nat), mDp (mPm S o).1 = mDp S
  | [], _ => rfl
  | x :: r, o => by
    unfold mPm
    by_cases z : x = 103
    · rw [if_pos z, mDp_P r, z, mDp_e (by decide)]
    · rw [if_neg z]
      by_cases y : x = 104
      · rw [if_pos y, mDp_P r, y, mDp_e (by decide)]
      · rw [if_neg y]
theorem mDp_S (S o : List Nat) : mDp (mS S o).1 = mDp S := (mDp_P _ _).trans (mDp_T _ _)
theorem mDp_A : ∀ (S o : List Nat), mDp (mA S o).1 = mDp S
  | [], _ => rfl
  | x :: r, o => by
    unfold mA
    by_cases z : x = 11
    · rw [if_pos z, mDp_A r, z, mDp_e (by decide)]
    · rw [if_neg z]
theorem mDp_O1 : ∀ (S o : List Nat), mDp (mO1 S o).1 = mDp S
  | [], _ => rfl
  | x :: r, o => by
    unfold mO1
    by_cases z : x = 12
    · rw [if_pos z, mDp_O1 r, z, mDp_e (by decide)]
    · rw [if_neg z]
theorem mDp_O (S o : List Nat) : mDp (mO S o).1 = mDp S := (mDp_O1 _ _).trans (mDp_A _ _)
theorem mD_m {h h2 : zH} (d : mD h) (a : mDp (mSk h2) = mDp (mSk h)) (b : tF h2 111 32 = tF h 111 32) : mD h2 := by
  unfold mD
  rw [a, b]
  exact d
theorem mfst {α β : Type} {x : α} {y : β} {p : α × β} (h : (x, y) = p) : x = p.1 := congrArg Prod.fst h
theorem mA1 {h1 h2 : zH} {b : Nat} {s : rS} (e : ms h1 = rA b s) (a : (ms h2).1 = (ms h1).1) : (ms h2).1 = b := by
  rw [a, e]
  rfl
theorem mA2 {h1 h2 : zH} {b y0 : Nat} {s : rS} (e : ms h1 = rA b s) (c : (ms h2).2.1 = (ms h1).2.1) (y : s.2.1 = y0) : (ms h2).2.1 = y0 := by
  rw [c, e]
  exact y
theorem mA3 {h1 h2 : zH} {b y0 : Nat} {s : rS} {z : List Nat} (e : ms h1 = rA b s) (a : (ms h2).1 = (ms h1).1) (c : (ms h2).2.1 = (ms h1).2.1) (y : s.2.1 = y0) (k : (ms h2).2.2 = z) : ms h2 = (b, y0, z) :=
  Prod.ext (mA1 e a) (Prod.ext (mA2 e c y) k)
theorem mA6 {b y0 : Nat} {s : rS} {z : List Nat} (y : s.2.1 = y0) (k : s.2.2 = z) : rA b s = (b, y0, z) := by
  rw [← y, ← k]
  rfl
theorem mA4 {h1 h2 h3 : zH} {b y0 : Nat} {s : rS} {z : List Nat} (g : ms h3 = rA ((ms h2).1 + 1) (ms h2)) (e : ms h1 = rA b s) (a : (ms h2).1 = (ms h1).1) (c : (ms h2).2.1 = (ms h1).2.1) (y : s.2.1 = y0) (k : (ms h2).2.2 = z) : ms h3 = (b + 1, y0, z) := by
  rw [g, mA1 e a]
  exact mA6 (mA2 e c y) k
theorem cm_d {q : Nat} {x : Int32} (h1 : 100103 ≤ q) (hx : x.toInt + 100098 = (q : Int)) : ∃ d, q = 100103 + d ∧ x.toInt = ((d + 5 : Nat) : Int) := ⟨q - 100103, by omega, by omega⟩
theorem cm_x {q : Nat} {x : Int32} (h1 : 100103 ≤ q) (h2 : q ≤ 100107) (hx : x.toInt + 100098 = (q : Int)) : (200 + x).toNatClampNeg = q - 99898 := by
  obtain ⟨d, rfl, h⟩ := cm_d h1 hx
  rw [zof_cl (zadN (x := 200) (a := 200) rfl h (by omega) (by omega))]
  omega
theorem cm_0 {q : Nat} {x : Int32} (h1 : 100103 ≤ q) (h2 : q ≤ 100107) (hx : x.toInt + 100098 = (q : Int)) : 0 ≤ (200 + x).toInt := by
  obtain ⟨d, rfl, h⟩ := cm_d h1 hx
  rw [zadN (x := 200) (a := 200) rfl h (by omega) (by omega)]
  omega
theorem cm_z {q : Nat} {x : Int32} (h1 : 100103 ≤ q) (hx : x.toInt + 100098 = (q : Int)) (h : x = 0) : False := by
  obtain ⟨d, -, h4⟩ := cm_d h1 hx
  rw [h] at h4
  have h5 : (0 : Int) = ((d + 5 : Nat) : Int) := h4
  omega
theorem msnd {α β : Type} {x : α} {y : β} {p : α × β} (h : (x, y) = p) : y = p.2 := congrArg Prod.snd h
theorem mDp_tl {S : List Nat} (h : 205 ≤ S.headD 0 ∧ S.headD 0 ≤ 209) : mDp S.tail = mDp S := by
  cases S with
  | nil => exact absurd h.1 (by decide)
  | cons x r =>
    have h : 205 ≤ x ∧ x ≤ 209 := h
    exact (mDp_e (by omega)).symm
theorem g_behindValue {G : zG} (hG : G.1 = zProg) (hX : G.2.1 = ztx) {h : zH} {T : Nat → Int32} {n : Nat} (hs : tSh h) (hp : mP h) (hT : tA h 132 = T) (hN : mn h = n) (hD : mD h) (hd : mDp (mSk h) ≤ 1000) {tst : Bool} (hts : ¬ tvI (tF h 111 47) = 0 ↔ tst = true) (h46s : tvI (tF h 111 46) = 2) : tC zTt G 217 [.ref 111] h (fun w h2 => w = none ∧ mFq h h2 ∧ mOut (mS2 T n tst (mSk h) (ms h)) h2) := by
  refine tC_in (by rw [hG]; rfl) (fun dp => ?_)
  have g0 := mFr_r hs
  have hpn : (ms h).1 ≤ n := mPle hp hN
  have hn4 : n ≤ 400 := by have a := mNl hp hN; have b := hp.2.1; omega
  refine tw_aload rfl rfl ?_
  refine tw_virt0 rfl (g_blanks hG hX (g0).1 hp ((mFr_T g0).trans hT) ((mFr_n g0).trans hN)) (fun wp478 hp478 p478 => ?_)
  obtain ⟨rfl, gp478, pp478e, sp478, tp478, dp478⟩ := p478
  have ggp478 := mFr_t g0 gp478
  refine tw_aload rfl rfl ?_
  refine tw_virt0 rfl (g_sign hG hX (ggp478).1 ((mFr_T ggp478).trans hT) ((mFr_n ggp478).trans hN) ⟨pp478e.2.1.1, by have := pp478e.2.1; omega⟩) (fun wp479 hp479 p479 => ?_)
  obtain ⟨⟨cp479, rfl, kp479⟩, rfl⟩ := p479
  refine tw_istore rfl ?_
  refine tw_iload rfl rfl ?_
  refine tw_push rfl ?_
  refine tw_ic_ne rfl (fun q480 => ?_) (fun q480 => ?_)
  · try dsimp only [tvI_i, tvJ_j, tvR_r] at q480
    have q480i := zneq (Y := 42) (by decide) q480
    refine tw_iload rfl rfl ?_
    refine tw_push rfl ?_
    refine tw_ic_eq rfl (fun q481 => ?_) (fun q481 => ?_)
    · try dsimp only [tvI_i, tvJ_j, tvR_r] at q481
      have q481i := zeqi (Y := 43) (by decide) q481
      refine tw_aload rfl rfl ?_
      refine tw_virt0 rfl (g_makesSums hG hX (ggp478).1 pp478e ((mFr_T ggp478).trans hT) ((mFr_n ggp478).trans hN)) (fun wp482 hp482 p482 => ?_)
      obtain ⟨rfl, gp482, pp482e, ap482, bp482, mp482, dp482⟩ := p482
      have ggp482 := mFr_t ggp478 gp482
      refine tw_aload rfl rfl ?_
      refine tw_push rfl ?_
      refine tw_iload rfl rfl ?_
      refine tw_push rfl ?_
      refine tw_ic_ne rfl (fun q483 => ?_) (fun q483 => ?_)
      · try dsimp only [tvI_i, tvJ_j, tvR_r] at q483
        have q483i := zneq (Y := 43) (by decide) q483
        exact absurd q481 q483
      · try dsimp only [tvI_i, tvJ_j, tvR_r] at q483
        have q483i := zeqi (Y := 43) (by decide) q483
        refine tw_push rfl ?_
        refine tw_goto rfl ?_
        refine tw_iadd rfl ?_
        refine tw_virt1 rfl (g_opens hG hX (ggp482).1 pp482e ((mFr_T ggp482).trans hT) ((mFr_n ggp482).trans hN) (by decide)) (fun wp484 hp484 p484 => ?_)
        obtain ⟨rfl, gp484, pp484e, tp484, sp484, dp484⟩ := p484
        have ggp484 := mFr_t ggp482 gp484
        refine tw_aload rfl rfl ?_
        refine tw_dup rfl ?_
        refine tw_getS rfl (hi_111_28 ggp484.1) ?_
        refine tw_push rfl ?_
        refine tw_iadd rfl ?_
        refine tw_put rfl (fun f485 => ?_)
        refine tG_setm f485 (hw_111_28 f485 (ggp484).1) (fun hf485 ef485 => ?_)
        try dsimp only [tvI_i] at ef485
        have gf485 := mFr_s ggp484 ef485 (by unfold mFs; omega)
        have hk42 : cp479 = 42 ↔ ((rB T n (ms h).1) < n ∧ T (rB T n (ms h).1) = 42) := by have y := sgm_k kp479 42 (by decide); rw [sp478] at y; exact y
        have hs42 : ¬ ((rB T n (ms h).1) < n ∧ T (rB T n (ms h).1) = 42) := fun z => q480 (hk42.mpr z)
        have hk43 : cp479 = 43 ↔ ((rB T n (ms h).1) < n ∧ T (rB T n (ms h).1) = 43) := by have y := sgm_k kp479 43 (by decide); rw [sp478] at y; exact y
        have hs43 := hk43.mp q481
        have hmsf485 : ms hp484 = ((rB T n (ms h).1), (ms h).2.1, (ms hp482).2.2) := (sp484).trans (mA3 sp478 ap482 bp482 rfl rfl)
        obtain ⟨pf485, sf485, tf485⟩ := mTo pp484e ((mFr_n ggp484).trans hN) ef485 (v := (rB T n (ms h).1) + 1) (zp1 (by rw [mPl pp484e, hmsf485]) (by have := rB_le (T := T) hpn; omega)) hs43.1
        rw [hmsf485] at sf485
        refine tw_aload rfl rfl ?_
        refine tw_push rfl ?_
        refine tw_put rfl (fun f486 => ?_)
        refine tG_setm f486 (hw_111_46 f486 (gf485).1) (fun hf486 ef486 => ?_)
        try dsimp only [tvI_i] at ef486
        have gf486 := mFq_s (mFq_f gf485) ef486 (Or.inr rfl)
        obtain ⟨pf486, sf486, tf486⟩ := mSte pf485 ef486
        refine tw_goto rfl ?_
        have hmb : (mSk hp482, (ms hp482).2.2) = mS (mSk h) (ms h).2.2 := by rw [mp482, tp478, sp478]; rfl
        have hsk : mSk hf486 = 103 :: (mS (mSk h) (ms h).2.2).1 := by rw [tf486, tf485, tp484, ← mfst hmb]; rfl
        have hdd : mD hf486 := mD_m hD (by rw [hsk, mDp_e (by decide)]; exact mDp_S _ _) ((mI_o ef486 (by decide)).trans ((mI_o ef485 (by decide)).trans (dp484.trans (dp482.trans dp478))))
        exact tw_vret rfl ⟨rfl, gf486, mOut_r (by unfold mS2; rw [if_neg hs42, if_pos hs43]) pf486 hdd (by unfold mst; rw [mI_x ef486, hsk, sf486, sf485, msnd hmb]; rfl)⟩
    · try dsimp only [tvI_i, tvJ_j, tvR_r] at q481
      have q481i := zneq (Y := 43) (by decide) q481
      refine tw_iload rfl rfl ?_
      refine tw_push rfl ?_
      refine tw_ic_ne rfl (fun q487 => ?_) (fun q487 => ?_)
      · try dsimp only [tvI_i, tvJ_j, tvR_r] at q487
        have q487i := zneq (Y := 45) (by decide) q487
        refine tw_aload rfl rfl ?_
        refine tw_virt0 rfl (g_makesSums hG hX (ggp478).1 pp478e ((mFr_T ggp478).trans hT) ((mFr_n ggp478).trans hN)) (fun wp488 hp488 p488 => ?_)
        obtain ⟨rfl, gp488, pp488e, ap488, bp488, mp488, dp488⟩ := p488
        have ggp488 := mFr_t ggp478 gp488
        refine tw_aload rfl rfl ?_
        refine tw_virt0 rfl (g_top hG hX (ggp488).1 pp488e ((mFr_T ggp488).trans hT) ((mFr_n ggp488).trans hN)) (fun wp489 hp489 p489 => ?_)
        obtain ⟨⟨cp489, rfl, Tp489⟩, rfl⟩ := p489
        refine tw_push rfl ?_
        refine tw_ic_ne rfl (fun q490 => ?_) (fun q490 => ?_)
        · try dsimp only [tvI_i, tvJ_j, tvR_r] at q490
          have q490i := zneq (Y := 50) (by decide) q490
          refine tw_aload rfl rfl ?_
          refine tw_getS rfl (hi_111_47 (ggp488).1) ?_
          refine tw_if_eq rfl (fun q491 => ?_) (fun q491 => ?_)
          · try dsimp only [tvI_i, tvJ_j, tvR_r] at q491
            have q491i := zeqi (Y := 0) (by decide) q491
            refine tw_aload rfl rfl ?_
            refine tw_getS rfl (hi_111_47 (ggp488).1) ?_
            refine tw_if_eq rfl (fun q492 => ?_) (fun q492 => ?_)
            · try dsimp only [tvI_i, tvJ_j, tvR_r] at q492
              have q492i := zeqi (Y := 0) (by decide) q492
              refine tw_aload rfl rfl ?_
              refine tw_push rfl ?_
              refine tw_put rfl (fun f493 => ?_)
              refine tG_setm f493 (hw_111_46 f493 (ggp488).1) (fun hf493 ef493 => ?_)
              try dsimp only [tvI_i] at ef493
              have gf493 := mFq_s (mFq_f ggp488) ef493 (Or.inr rfl)
              obtain ⟨pf493, sf493, tf493⟩ := mSte pp488e ef493
              have hk42 : cp479 = 42 ↔ ((rB T n (ms h).1) < n ∧ T (rB T n (ms h).1) = 42) := by have y := sgm_k kp479 42 (by decide); rw [sp478] at y; exact y
              have hs42 : ¬ ((rB T n (ms h).1) < n ∧ T (rB T n (ms h).1) = 42) := fun z => q480 (hk42.mpr z)
              have hk43 : cp479 = 43 ↔ ((rB T n (ms h).1) < n ∧ T (rB T n (ms h).1) = 43) := by have y := sgm_k kp479 43 (by decide); rw [sp478] at y; exact y
              have hs43 : ¬ ((rB T n (ms h).1) < n ∧ T (rB T n (ms h).1) = 43) := fun z => q481 (hk43.mpr z)
              have hk45 : cp479 = 45 ↔ ((rB T n (ms h).1) < n ∧ T (rB T n (ms h).1) = 45) := by have y := sgm_k kp479 45 (by decide); rw [sp478] at y; exact y
              have hs45 : ¬ ((rB T n (ms h).1) < n ∧ T (rB T n (ms h).1) = 45) := fun z => q487 (hk45.mpr z)
              have ht50 := tpm_k Tp489 (k := 50) (K := 50) rfl (by decide)
              have hn50 : ¬ (mSk hp488).headD 0 = 50 := fun z => q490 (ht50.mpr z)
              have hin : tvI (tF h 111 47) = 0 := by have z := q491; rw [mFr_47 ggp488] at z; exact z
              have hmb : (mSk hp488, (ms hp488).2.2) = mS (mSk h) (ms h).2.2 := by rw [mp488, tp478, sp478]; rfl
              have hms : ms hf493 = ((rB T n (ms h).1), (ms h).2.1, (mS (mSk h) (ms h).2.2).2) := (sf493).trans (mA3 sp478 ap488 bp488 rfl (msnd hmb))
              have hsk : mSk hf493 = (mS (mSk h) (ms h).2.2).1 := by rw [tf493, mfst hmb]
              have hdd : mD hf493 := mD_m hD (by rw [hsk]; exact mDp_S _ _) ((mI_o ef493 (by decide)).trans (dp488.trans dp478))
              exact tw_vret rfl ⟨rfl, gf493, mOut_r (by unfold mS2; rw [if_neg hs42, if_neg hs43, if_neg hs45, if_neg (show ¬ (mS (mSk h) (ms h).2.2).1.headD 0 = 50 from by rw [← mfst hmb]; exact hn50), if_neg (fun z => hts.mpr z hin)]) pf493 hdd (by unfold mst; rw [mI_x ef493, hsk, hms]; rfl)⟩
            · try dsimp only [tvI_i, tvJ_j, tvR_r] at q492
              have q492i := zneq (Y := 0) (by decide) q492
              exact absurd q491 q492
          · try dsimp only [tvI_i, tvJ_j, tvR_r] at q491
            have q491i := zneq (Y := 0) (by decide) q491
            refine tw_aload rfl rfl ?_
            refine tw_virt0 rfl (g_top hG hX (ggp488).1 pp488e ((mFr_T ggp488).trans hT) ((mFr_n ggp488).trans hN)) (fun wp494 hp494 p494 => ?_)
            obtain ⟨⟨cp494, rfl, Tp494⟩, rfl⟩ := p494
            refine tw_push rfl ?_
            refine tw_ic_lt rfl (fun q495 => ?_) (fun q495 => ?_)
            · try dsimp only [tvI_i, tvJ_j, tvR_r] at q495
              refine tw_aload rfl rfl ?_
              refine tw_virt0 rfl (g_compares hG hX (ggp488).1 pp488e ((mFr_T ggp488).trans hT) ((mFr_n ggp488).trans hN)) (fun w9 hp496 p496 => ?_)
              obtain ⟨gp496, ⟨np496, rfl, e9⟩ | ⟨vp496, np496, ⟨mp496, ⟨xp496, rfl, yp496⟩, pp496e, sp496, tp496, dp496⟩ | ⟨mp496, xp496, rfl, x5p496, x9p496, Fp496, Zp496⟩⟩⟩ := p496
              · have ggp496 := mFr_t ggp488 gp496
                obtain rfl := e9.symm
                have pp496e := pp488e
                refine tw_istore rfl ?_
                refine tw_iload rfl rfl ?_
                refine tw_if_ne rfl (fun z => absurd z (by decide)) (fun _ => ?_)
                refine tw_aload rfl rfl ?_
                refine tw_push rfl ?_
                refine tw_aload rfl rfl ?_
                refine tw_getS rfl (hi_111_28 ggp496.1) ?_
                refine tw_virt2 rfl (g_fails hG hX (ggp496).1 pp496e ((mFr_T ggp496).trans hT) ((mFr_n ggp496).trans hN) (w := 0) (b := (rB T n (ms h).1)) rfl (by decide) ((mPl pp496e).trans (by rw [(show (ms hp488).1 = (rB T n (ms h).1) from by rw [ap488, sp478]; rfl)])) (by have := rB_le (T := T) hpn; omega)) (fun wp497 hp497 p497 => ?_)
                obtain ⟨rfl, gp497, Fp497, ip497, jp497⟩ := p497
                have ggp497 := mFr_t ggp496 gp497
                refine tw_aload rfl rfl ?_
                refine tw_push rfl ?_
                refine tw_iload rfl rfl ?_
                refine tw_iadd rfl ?_
                refine tw_virt1 rfl (z_opens hG hX (ggp497).1 Fp497 ((mFr_T ggp497).trans hT) ((mFr_n ggp497).trans hN)) (fun wp498 hp498 p498 => ?_)
                obtain ⟨rfl, gp498, Fp498, ip498, jp498⟩ := p498
                have ggp498 := mFr_t ggp497 gp498
                refine tw_aload rfl rfl ?_
                refine tw_push rfl ?_
                refine tw_put rfl (fun f499 => ?_)
                refine tG_setm f499 (hw_111_46 f499 (ggp498).1) (fun hf499 ef499 => ?_)
                try dsimp only [tvI_i] at ef499
                have gf499 := mFq_s (mFq_f ggp498) ef499 (Or.inr rfl)
                have zf499 := mFt_s Fp498 ef499 (by decide)
                refine tw_goto rfl ?_
                have hk42 : cp479 = 42 ↔ ((rB T n (ms h).1) < n ∧ T (rB T n (ms h).1) = 42) := by have y := sgm_k kp479 42 (by decide); rw [sp478] at y; exact y
                have hs42 : ¬ ((rB T n (ms h).1) < n ∧ T (rB T n (ms h).1) = 42) := fun z => q480 (hk42.mpr z)
                have hk43 : cp479 = 43 ↔ ((rB T n (ms h).1) < n ∧ T (rB T n (ms h).1) = 43) := by have y := sgm_k kp479 43 (by decide); rw [sp478] at y; exact y
                have hs43 : ¬ ((rB T n (ms h).1) < n ∧ T (rB T n (ms h).1) = 43) := fun z => q481 (hk43.mpr z)
                have hk45 : cp479 = 45 ↔ ((rB T n (ms h).1) < n ∧ T (rB T n (ms h).1) = 45) := by have y := sgm_k kp479 45 (by decide); rw [sp478] at y; exact y
                have hs45 : ¬ ((rB T n (ms h).1) < n ∧ T (rB T n (ms h).1) = 45) := fun z => q487 (hk45.mpr z)
                have ht50 := tpm_k Tp489 (k := 50) (K := 50) rfl (by decide)
                have hn50 : ¬ (mSk hp488).headD 0 = 50 := fun z => q490 (ht50.mpr z)
                have hin : ¬ tvI (tF h 111 47) = 0 := by have z := q491; rw [mFr_47 ggp488] at z; exact z
                have c2059 : (205 : Int32).toInt = 205 := rfl
                have c2099 : (209 : Int32).toInt = 209 := rfl
                have hcmp : ¬ (205 ≤ (mSk hp488).headD 0 ∧ (mSk hp488).headD 0 ≤ 209) := by have z := tpm_e Tp494; have z2 := q495; omega
                have hmb : (mSk hp488, (ms hp488).2.2) = mS (mSk h) (ms h).2.2 := by rw [mp488, tp478, sp478]; rfl
                have hr9 : rCm T n (rB T n (ms h).1) = none := by have z := np496; rw [ap488, sp478] at z; exact z
                have hZ : mZp hf499 := mZp_o (mZp_k (mZp_k (mZp_p pp496e) ip497 jp497) ip498 jp498) ef499 (by decide)
                exact tw_vret rfl ⟨rfl, gf499, mOut_l (by unfold mS2; rw [if_neg hs42, if_neg hs43, if_neg hs45, if_neg (show ¬ (mS (mSk h) (ms h).2.2).1.headD 0 = 50 from by rw [← mfst hmb]; exact hn50), if_pos (show tst = true from hts.mp hin), if_neg (show ¬ (205 ≤ (mS (mSk h) (ms h).2.2).1.headD 0 ∧ (mS (mSk h) (ms h).2.2).1.headD 0 ≤ 209) from by rw [← mfst hmb]; exact hcmp), hr9]) zf499 hZ⟩
              · have ggp496 := mFr_t ggp488 gp496
                refine tw_istore rfl ?_
                refine tw_iload rfl rfl ?_
                refine tw_if_ne rfl (fun q500 => ?_) (fun q500 => ?_)
                · try dsimp only [tvI_i, tvJ_j, tvR_r] at q500
                  have q500i := zneq (Y := 0) (by decide) q500
                  refine tw_aload rfl rfl ?_
                  refine tw_push rfl ?_
                  refine tw_iload rfl rfl ?_
                  refine tw_iadd rfl ?_
                  refine tw_virt1 rfl (g_opens hG hX (ggp496).1 pp496e ((mFr_T ggp496).trans hT) ((mFr_n ggp496).trans hN) (cm_0 (rCm_r np496).1 (rCm_r np496).2.1 yp496)) (fun wp501 hp501 p501 => ?_)
                  obtain ⟨rfl, gp501, pp501e, tp501, sp501, dp501⟩ := p501
                  have ggp501 := mFr_t ggp496 gp501
                  refine tw_aload rfl rfl ?_
                  refine tw_push rfl ?_
                  refine tw_put rfl (fun f502 => ?_)
                  refine tG_setm f502 (hw_111_46 f502 (ggp501).1) (fun hf502 ef502 => ?_)
                  try dsimp only [tvI_i] at ef502
                  have gf502 := mFq_s (mFq_f ggp501) ef502 (Or.inr rfl)
                  obtain ⟨pf502, sf502, tf502⟩ := mSte pp501e ef502
                  refine tw_goto rfl ?_
                  have hk42 : cp479 = 42 ↔ ((rB T n (ms h).1) < n ∧ T (rB T n (ms h).1) = 42) := by have y := sgm_k kp479 42 (by decide); rw [sp478] at y; exact y
                  have hs42 : ¬ ((rB T n (ms h).1) < n ∧ T (rB T n (ms h).1) = 42) := fun z => q480 (hk42.mpr z)
                  have hk43 : cp479 = 43 ↔ ((rB T n (ms h).1) < n ∧ T (rB T n (ms h).1) = 43) := by have y := sgm_k kp479 43 (by decide); rw [sp478] at y; exact y
                  have hs43 : ¬ ((rB T n (ms h).1) < n ∧ T (rB T n (ms h).1) = 43) := fun z => q481 (hk43.mpr z)
                  have hk45 : cp479 = 45 ↔ ((rB T n (ms h).1) < n ∧ T (rB T n (ms h).1) = 45) := by have y := sgm_k kp479 45 (by decide); rw [sp478] at y; exact y
                  have hs45 : ¬ ((rB T n (ms h).1) < n ∧ T (rB T n (ms h).1) = 45) := fun z => q487 (hk45.mpr z)
                  have ht50 := tpm_k Tp489 (k := 50) (K := 50) rfl (by decide)
                  have hn50 : ¬ (mSk hp488).headD 0 = 50 := fun z => q490 (ht50.mpr z)
                  have hin : ¬ tvI (tF h 111 47) = 0 := by have z := q491; rw [mFr_47 ggp488] at z; exact z
                  have c2059 : (205 : Int32).toInt = 205 := rfl
                  have c2099 : (209 : Int32).toInt = 209 := rfl
                  have hcmp : ¬ (205 ≤ (mSk hp488).headD 0 ∧ (mSk hp488).headD 0 ≤ 209) := by have z := tpm_e Tp494; have z2 := q495; omega
                  have hmb : (mSk hp488, (ms hp488).2.2) = mS (mSk h) (ms h).2.2 := by rw [mp488, tp478, sp478]; rfl
                  have hr9 : rCm T n (rB T n (ms h).1) = some vp496 := by have z := np496; rw [ap488, sp478] at z; exact z
                  have h80 : (ms h).2.1 ≠ 80 := by have z := mp496; rw [bp488, sp478] at z; exact z
                  have hv1 := (rCm_r hr9).1
                  have hv2 := (rCm_r hr9).2.1
                  have hx := cm_x hv1 hv2 yp496
                  have hsk : mSk hf502 = (vp496.1 - 99898) :: (mS (mSk h) (ms h).2.2).1 := by rw [tf502, tp501]; show (200 + xp496).toNatClampNeg :: mSk hp496 = _; rw [hx, tp496, mfst hmb]
                  have hms : ms hf502 = (vp496.2, (ms h).2.1 + 1, (mS (mSk h) (ms h).2.2).2) := by rw [sf502, sp501, sp496]; exact Prod.ext rfl (Prod.ext (by show (ms hp488).2.1 + 1 = _; rw [bp488, sp478]; rfl) (by have z := msnd hmb; exact z))
                  have hdd : mD hf502 := mD_m hD (by rw [hsk, mDp_e (by omega)]; exact mDp_S _ _) ((mI_o ef502 (by decide)).trans (dp501.trans (dp496.trans (dp488.trans dp478))))
                  exact tw_vret rfl ⟨rfl, gf502, mOut_r (by unfold mS2; rw [if_neg hs42, if_neg hs43, if_neg hs45, if_neg (show ¬ (mS (mSk h) (ms h).2.2).1.headD 0 = 50 from by rw [← mfst hmb]; exact hn50), if_pos (show tst = true from hts.mp hin), if_neg (show ¬ (205 ≤ (mS (mSk h) (ms h).2.2).1.headD 0 ∧ (mS (mSk h) (ms h).2.2).1.headD 0 ≤ 209) from by rw [← mfst hmb]; exact hcmp), hr9]; (try dsimp only); rw [if_neg h80]) pf502 hdd (by unfold mst; rw [mI_x ef502, hsk, hms]; rfl)⟩
                · try dsimp only [tvI_i, tvJ_j, tvR_r] at q500
                  have q500i := zeqi (Y := 0) (by decide) q500
                  exact (cm_z (rCm_r np496).1 yp496 q500).elim
              · have ggp496 := mFr_t ggp488 gp496
                refine tw_istore rfl ?_
                refine tw_iload rfl rfl ?_
                refine tw_if_ne rfl (fun q503 => ?_) (fun q503 => ?_)
                · try dsimp only [tvI_i, tvJ_j, tvR_r] at q503
                  have q503i := zneq (Y := 0) (by decide) q503
                  refine tw_aload rfl rfl ?_
                  refine tw_push rfl ?_
                  refine tw_iload rfl rfl ?_
                  refine tw_iadd rfl ?_
                  refine tw_virt1 rfl (z_opens hG hX (ggp496).1 Fp496 ((mFr_T ggp496).trans hT) ((mFr_n ggp496).trans hN)) (fun wp504 hp504 p504 => ?_)
                  obtain ⟨rfl, gp504, Fp504, ip504, jp504⟩ := p504
                  have ggp504 := mFr_t ggp496 gp504
                  refine tw_aload rfl rfl ?_
                  refine tw_push rfl ?_
                  refine tw_put rfl (fun f505 => ?_)
                  refine tG_setm f505 (hw_111_46 f505 (ggp504).1) (fun hf505 ef505 => ?_)
                  try dsimp only [tvI_i] at ef505
                  have gf505 := mFq_s (mFq_f ggp504) ef505 (Or.inr rfl)
                  have zf505 := mFt_s Fp504 ef505 (by decide)
                  refine tw_goto rfl ?_
                  have hk42 : cp479 = 42 ↔ ((rB T n (ms h).1) < n ∧ T (rB T n (ms h).1) = 42) := by have y := sgm_k kp479 42 (by decide); rw [sp478] at y; exact y
                  have hs42 : ¬ ((rB T n (ms h).1) < n ∧ T (rB T n (ms h).1) = 42) := fun z => q480 (hk42.mpr z)
                  have hk43 : cp479 = 43 ↔ ((rB T n (ms h).1) < n ∧ T (rB T n (ms h).1) = 43) := by have y := sgm_k kp479 43 (by decide); rw [sp478] at y; exact y
                  have hs43 : ¬ ((rB T n (ms h).1) < n ∧ T (rB T n (ms h).1) = 43) := fun z => q481 (hk43.mpr z)
                  have hk45 : cp479 = 45 ↔ ((rB T n (ms h).1) < n ∧ T (rB T n (ms h).1) = 45) := by have y := sgm_k kp479 45 (by decide); rw [sp478] at y; exact y
                  have hs45 : ¬ ((rB T n (ms h).1) < n ∧ T (rB T n (ms h).1) = 45) := fun z => q487 (hk45.mpr z)
                  have ht50 := tpm_k Tp489 (k := 50) (K := 50) rfl (by decide)
                  have hn50 : ¬ (mSk hp488).headD 0 = 50 := fun z => q490 (ht50.mpr z)
                  have hin : ¬ tvI (tF h 111 47) = 0 := by have z := q491; rw [mFr_47 ggp488] at z; exact z
                  have c2059 : (205 : Int32).toInt = 205 := rfl
                  have c2099 : (209 : Int32).toInt = 209 := rfl
                  have hcmp : ¬ (205 ≤ (mSk hp488).headD 0 ∧ (mSk hp488).headD 0 ≤ 209) := by have z := tpm_e Tp494; have z2 := q495; omega
                  have hmb : (mSk hp488, (ms hp488).2.2) = mS (mSk h) (ms h).2.2 := by rw [mp488, tp478, sp478]; rfl
                  have hr9 : rCm T n (rB T n (ms h).1) = some vp496 := by have z := np496; rw [ap488, sp478] at z; exact z
                  have h80 : (ms h).2.1 = 80 := by have z := mp496; rw [bp488, sp478] at z; exact z
                  have hF : mFt hf505 (1 + 8 * (rB T n (ms h).1) + 3) := by have z := zf505; rw [ap488, sp478] at z; exact z
                  have hZ : mZp hf505 := mZp_o (mZp_k Zp496 ip504 jp504) ef505 (by decide)
                  exact tw_vret rfl ⟨rfl, gf505, mOut_l (by unfold mS2; rw [if_neg hs42, if_neg hs43, if_neg hs45, if_neg (show ¬ (mS (mSk h) (ms h).2.2).1.headD 0 = 50 from by rw [← mfst hmb]; exact hn50), if_pos (show tst = true from hts.mp hin), if_neg (show ¬ (205 ≤ (mS (mSk h) (ms h).2.2).1.headD 0 ∧ (mS (mSk h) (ms h).2.2).1.headD 0 ≤ 209) from by rw [← mfst hmb]; exact hcmp), hr9]; (try dsimp only); rw [if_pos h80]) hF hZ⟩
                · try dsimp only [tvI_i, tvJ_j, tvR_r] at q503
                  have q503i := zeqi (Y := 0) (by decide) q503
                  have hv4 : xp496.toInt = 0 := congrArg Int32.toInt q503
                  exfalso
                  omega
            · try dsimp only [tvI_i, tvJ_j, tvR_r] at q495
              refine tw_aload rfl rfl ?_
              refine tw_virt0 rfl (g_top hG hX (ggp488).1 pp488e ((mFr_T ggp488).trans hT) ((mFr_n ggp488).trans hN)) (fun wp506 hp506 p506 => ?_)
              obtain ⟨⟨cp506, rfl, Tp506⟩, rfl⟩ := p506
              refine tw_push rfl ?_
              refine tw_ic_le rfl (fun q507 => ?_) (fun q507 => ?_)
              · try dsimp only [tvI_i, tvJ_j, tvR_r] at q507
                refine tw_aload rfl rfl ?_
                refine tw_getS rfl (hi_111_47 (ggp488).1) ?_
                refine tw_if_eq rfl (fun q508 => ?_) (fun q508 => ?_)
                · try dsimp only [tvI_i, tvJ_j, tvR_r] at q508
                  have q508i := zeqi (Y := 0) (by decide) q508
                  exact absurd q508 q491
                · try dsimp only [tvI_i, tvJ_j, tvR_r] at q508
                  have q508i := zneq (Y := 0) (by decide) q508
                  refine tw_aload rfl rfl ?_
                  refine tw_aload rfl rfl ?_
                  refine tw_virt0 rfl (g_top hG hX (ggp488).1 pp488e ((mFr_T ggp488).trans hT) ((mFr_n ggp488).trans hN)) (fun wp509 hp509 p509 => ?_)
                  obtain ⟨⟨cp509, rfl, Tp509⟩, rfl⟩ := p509
                  refine tw_push rfl ?_
                  refine tw_isub rfl ?_
                  refine tw_push rfl ?_
                  have hk42 : cp479 = 42 ↔ ((rB T n (ms h).1) < n ∧ T (rB T n (ms h).1) = 42) := by have y := sgm_k kp479 42 (by decide); rw [sp478] at y; exact y
                  have hs42 : ¬ ((rB T n (ms h).1) < n ∧ T (rB T n (ms h).1) = 42) := fun z => q480 (hk42.mpr z)
                  have hk43 : cp479 = 43 ↔ ((rB T n (ms h).1) < n ∧ T (rB T n (ms h).1) = 43) := by have y := sgm_k kp479 43 (by decide); rw [sp478] at y; exact y
                  have hs43 : ¬ ((rB T n (ms h).1) < n ∧ T (rB T n (ms h).1) = 43) := fun z => q481 (hk43.mpr z)
                  have hk45 : cp479 = 45 ↔ ((rB T n (ms h).1) < n ∧ T (rB T n (ms h).1) = 45) := by have y := sgm_k kp479 45 (by decide); rw [sp478] at y; exact y
                  have hs45 : ¬ ((rB T n (ms h).1) < n ∧ T (rB T n (ms h).1) = 45) := fun z => q487 (hk45.mpr z)
                  have ht50 := tpm_k Tp489 (k := 50) (K := 50) rfl (by decide)
                  have hn50 : ¬ (mSk hp488).headD 0 = 50 := fun z => q490 (ht50.mpr z)
                  have hin : ¬ tvI (tF h 111 47) = 0 := by have z := q491; rw [mFr_47 ggp488] at z; exact z
                  have c2059 : (205 : Int32).toInt = 205 := rfl
                  have c2099 : (209 : Int32).toInt = 209 := rfl
                  have hcmp : (205 ≤ (mSk hp488).headD 0 ∧ (mSk hp488).headD 0 ≤ 209) := by have z := tpm_e Tp494; have z1 := tpm_e Tp506; have z2 := q495; have z3 := q507; omega
                  have hc200 : (cp509 - 200).toInt = (((mSk hp488).headD 0 - 200 : Nat) : Int) := by have z := tpm_e Tp509; have z2 := hcmp; rw [zsb (x := cp509) (y := 200) (a := (mSk hp488).headD 0) (b := 200) (by omega) rfl (by omega) (by omega)]; omega
                  have hne : mSk hp488 ≠ [] := fun z => by rw [z] at hcmp; exact absurd hcmp.1 (by decide)
                  refine tw_virt2 rfl (g_entry hG hX (ggp488).1 pp488e ((mFr_T ggp488).trans hT) ((mFr_n ggp488).trans hN) ⟨by show 0 ≤ (cp509 - 200).toInt; rw [hc200]; omega, by decide⟩) (fun wp510 hp510 p510 => ?_)
                  obtain ⟨rfl, gp510, pp510e, sp510, tp510, dp510⟩ := p510
                  have ggp510 := mFr_t ggp488 gp510
                  refine tw_aload rfl rfl ?_
                  refine tw_dup rfl ?_
                  refine tw_getS rfl (hi_111_34 ggp510.1) ?_
                  refine tw_push rfl ?_
                  refine tw_isub rfl ?_
                  refine tw_put rfl (fun f511 => ?_)
                  refine tG_setm f511 (hw_111_34 f511 (ggp510).1) (fun hf511 ef511 => ?_)
                  try dsimp only [tvI_i] at ef511
                  have gf511 := mFr_s ggp510 ef511 (by unfold mFs; omega)
                  obtain ⟨pf511, tf511, sf511, df511⟩ := mSk_pop pp510e (by rw [tp510]; exact hne) ef511
                  refine tw_aload rfl rfl ?_
                  refine tw_push rfl ?_
                  refine tw_put rfl (fun f512 => ?_)
                  refine tG_setm f512 (hw_111_46 f512 (gf511).1) (fun hf512 ef512 => ?_)
                  try dsimp only [tvI_i] at ef512
                  have gf512 := mFq_s (mFq_f gf511) ef512 (Or.inr rfl)
                  obtain ⟨pf512, sf512, tf512⟩ := mSte pf511 ef512
                  refine tw_goto rfl ?_
                  have hmb : (mSk hp488, (ms hp488).2.2) = mS (mSk h) (ms h).2.2 := by rw [mp488, tp478, sp478]; rfl
                  have hx : mCode (cp509 - 200).toNatClampNeg 0 = (mS (mSk h) (ms h).2.2).1.headD 0 + 99898 := by rw [zof_cl hc200, ← mfst hmb]; have z := hcmp; unfold mCode; rw [if_neg (by omega), if_neg (by omega), if_neg (by omega), if_neg (by omega), if_neg (by omega), if_neg (by omega), if_neg (by omega), if_neg (by omega)]; omega
                  have hsk : mSk hf512 = (mS (mSk h) (ms h).2.2).1.tail := by rw [tf512, tf511, tp510, mfst hmb]
                  have hms : ms hf512 = ((rB T n (ms h).1), (ms h).2.1, (mS (mSk h) (ms h).2.2).2 ++ [(mS (mSk h) (ms h).2.2).1.headD 0 + 99898]) := by rw [sf512, sf511, sp510]; exact Prod.ext (mA1 sp478 ap488) (Prod.ext (mA2 sp478 bp488 rfl) (by show (ms hp488).2.2 ++ [mCode (cp509 - 200).toNatClampNeg 0] = _; rw [hx, msnd hmb]))
                  have hdd : mD hf512 := mD_m hD (by rw [hsk, ← mDp_S (mSk h) (ms h).2.2]; have z := hcmp; rw [mfst hmb] at z; exact mDp_tl z) ((mI_o ef512 (by decide)).trans (df511.trans (dp510.trans (dp488.trans dp478))))
                  exact tw_vret rfl ⟨rfl, gf512, mOut_r (by unfold mS2; rw [if_neg hs42, if_neg hs43, if_neg hs45, if_neg (show ¬ (mS (mSk h) (ms h).2.2).1.headD 0 = 50 from by rw [← mfst hmb]; exact hn50), if_pos (show tst = true from hts.mp hin), if_pos (show 205 ≤ (mS (mSk h) (ms h).2.2).1.headD 0 ∧ (mS (mSk h) (ms h).2.2).1.headD 0 ≤ 209 from by rw [← mfst hmb]; exact hcmp)]) pf512 hdd (by unfold mst; rw [mI_x ef512, hsk, hms]; rfl)⟩
              · try dsimp only [tvI_i, tvJ_j, tvR_r] at q507
                refine tw_aload rfl rfl ?_
                refine tw_virt0 rfl (g_compares hG hX (ggp488).1 pp488e ((mFr_T ggp488).trans hT) ((mFr_n ggp488).trans hN)) (fun w9 hp513 p513 => ?_)
                obtain ⟨gp513, ⟨np513, rfl, e9⟩ | ⟨vp513, np513, ⟨mp513, ⟨xp513, rfl, yp513⟩, pp513e, sp513, tp513, dp513⟩ | ⟨mp513, xp513, rfl, x5p513, x9p513, Fp513, Zp513⟩⟩⟩ := p513
                · have ggp513 := mFr_t ggp488 gp513
                  obtain rfl := e9.symm
                  have pp513e := pp488e
                  refine tw_istore rfl ?_
                  refine tw_iload rfl rfl ?_
                  refine tw_if_ne rfl (fun z => absurd z (by decide)) (fun _ => ?_)
                  refine tw_aload rfl rfl ?_
                  refine tw_push rfl ?_
                  refine tw_aload rfl rfl ?_
                  refine tw_getS rfl (hi_111_28 ggp513.1) ?_
                  refine tw_virt2 rfl (g_fails hG hX (ggp513).1 pp513e ((mFr_T ggp513).trans hT) ((mFr_n ggp513).trans hN) (w := 0) (b := (rB T n (ms h).1)) rfl (by decide) ((mPl pp513e).trans (by rw [(show (ms hp488).1 = (rB T n (ms h).1) from by rw [ap488, sp478]; rfl)])) (by have := rB_le (T := T) hpn; omega)) (fun wp514 hp514 p514 => ?_)
                  obtain ⟨rfl, gp514, Fp514, ip514, jp514⟩ := p514
                  have ggp514 := mFr_t ggp513 gp514
                  refine tw_aload rfl rfl ?_
                  refine tw_push rfl ?_
                  refine tw_iload rfl rfl ?_
                  refine tw_iadd rfl ?_
                  refine tw_virt1 rfl (z_opens hG hX (ggp514).1 Fp514 ((mFr_T ggp514).trans hT) ((mFr_n ggp514).trans hN)) (fun wp515 hp515 p515 => ?_)
                  obtain ⟨rfl, gp515, Fp515, ip515, jp515⟩ := p515
                  have ggp515 := mFr_t ggp514 gp515
                  refine tw_aload rfl rfl ?_
                  refine tw_push rfl ?_
                  refine tw_put rfl (fun f516 => ?_)
                  refine tG_setm f516 (hw_111_46 f516 (ggp515).1) (fun hf516 ef516 => ?_)
                  try dsimp only [tvI_i] at ef516
                  have gf516 := mFq_s (mFq_f ggp515) ef516 (Or.inr rfl)
                  have zf516 := mFt_s Fp515 ef516 (by decide)
                  refine tw_goto rfl ?_
                  have hk42 : cp479 = 42 ↔ ((rB T n (ms h).1) < n ∧ T (rB T n (ms h).1) = 42) := by have y := sgm_k kp479 42 (by decide); rw [sp478] at y; exact y
                  have hs42 : ¬ ((rB T n (ms h).1) < n ∧ T (rB T n (ms h).1) = 42) := fun z => q480 (hk42.mpr z)
                  have hk43 : cp479 = 43 ↔ ((rB T n (ms h).1) < n ∧ T (rB T n (ms h).1) = 43) := by have y := sgm_k kp479 43 (by decide); rw [sp478] at y; exact y
                  have hs43 : ¬ ((rB T n (ms h).1) < n ∧ T (rB T n (ms h).1) = 43) := fun z => q481 (hk43.mpr z)
                  have hk45 : cp479 = 45 ↔ ((rB T n (ms h).1) < n ∧ T (rB T n (ms h).1) = 45) := by have y := sgm_k kp479 45 (by decide); rw [sp478] at y; exact y
                  have hs45 : ¬ ((rB T n (ms h).1) < n ∧ T (rB T n (ms h).1) = 45) := fun z => q487 (hk45.mpr z)
                  have ht50 := tpm_k Tp489 (k := 50) (K := 50) rfl (by decide)
                  have hn50 : ¬ (mSk hp488).headD 0 = 50 := fun z => q490 (ht50.mpr z)
                  have hin : ¬ tvI (tF h 111 47) = 0 := by have z := q491; rw [mFr_47 ggp488] at z; exact z
                  have c2059 : (205 : Int32).toInt = 205 := rfl
                  have c2099 : (209 : Int32).toInt = 209 := rfl
                  have hcmp : ¬ (205 ≤ (mSk hp488).headD 0 ∧ (mSk hp488).headD 0 ≤ 209) := by have z := tpm_e Tp494; have z1 := tpm_e Tp506; have z2 := q495; have z3 := q507; omega
                  have hmb : (mSk hp488, (ms hp488).2.2) = mS (mSk h) (ms h).2.2 := by rw [mp488, tp478, sp478]; rfl
                  have hr9 : rCm T n (rB T n (ms h).1) = none := by have z := np513; rw [ap488, sp478] at z; exact z
                  have hZ : mZp hf516 := mZp_o (mZp_k (mZp_k (mZp_p pp513e) ip514 jp514) ip515 jp515) ef516 (by decide)
                  exact tw_vret rfl ⟨rfl, gf516, mOut_l (by unfold mS2; rw [if_neg hs42, if_neg hs43, if_neg hs45, if_neg (show ¬ (mS (mSk h) (ms h).2.2).1.headD 0 = 50 from by rw [← mfst hmb]; exact hn50), if_pos (show tst = true from hts.mp hin), if_neg (show ¬ (205 ≤ (mS (mSk h) (ms h).2.2).1.headD 0 ∧ (mS (mSk h) (ms h).2.2).1.headD 0 ≤ 209) from by rw [← mfst hmb]; exact hcmp), hr9]) zf516 hZ⟩
                · have ggp513 := mFr_t ggp488 gp513
                  refine tw_istore rfl ?_
                  refine tw_iload rfl rfl ?_
                  refine tw_if_ne rfl (fun q517 => ?_) (fun q517 => ?_)
                  · try dsimp only [tvI_i, tvJ_j, tvR_r] at q517
                    have q517i := zneq (Y := 0) (by decide) q517
                    refine tw_aload rfl rfl ?_
                    refine tw_push rfl ?_
                    refine tw_iload rfl rfl ?_
                    refine tw_iadd rfl ?_
                    refine tw_virt1 rfl (g_opens hG hX (ggp513).1 pp513e ((mFr_T ggp513).trans hT) ((mFr_n ggp513).trans hN) (cm_0 (rCm_r np513).1 (rCm_r np513).2.1 yp513)) (fun wp518 hp518 p518 => ?_)
                    obtain ⟨rfl, gp518, pp518e, tp518, sp518, dp518⟩ := p518
                    have ggp518 := mFr_t ggp513 gp518
                    refine tw_aload rfl rfl ?_
                    refine tw_push rfl ?_
                    refine tw_put rfl (fun f519 => ?_)
                    refine tG_setm f519 (hw_111_46 f519 (ggp518).1) (fun hf519 ef519 => ?_)
                    try dsimp only [tvI_i] at ef519
                    have gf519 := mFq_s (mFq_f ggp518) ef519 (Or.inr rfl)
                    obtain ⟨pf519, sf519, tf519⟩ := mSte pp518e ef519
                    refine tw_goto rfl ?_
                    have hk42 : cp479 = 42 ↔ ((rB T n (ms h).1) < n ∧ T (rB T n (ms h).1) = 42) := by have y := sgm_k kp479 42 (by decide); rw [sp478] at y; exact y
                    have hs42 : ¬ ((rB T n (ms h).1) < n ∧ T (rB T n (ms h).1) = 42) := fun z => q480 (hk42.mpr z)
                    have hk43 : cp479 = 43 ↔ ((rB T n (ms h).1) < n ∧ T (rB T n (ms h).1) = 43) := by have y := sgm_k kp479 43 (by decide); rw [sp478] at y; exact y
                    have hs43 : ¬ ((rB T n (ms h).1) < n ∧ T (rB T n (ms h).1) = 43) := fun z => q481 (hk43.mpr z)
                    have hk45 : cp479 = 45 ↔ ((rB T n (ms h).1) < n ∧ T (rB T n (ms h).1) = 45) := by have y := sgm_k kp479 45 (by decide); rw [sp478] at y; exact y
                    have hs45 : ¬ ((rB T n (ms h).1) < n ∧ T (rB T n (ms h).1) = 45) := fun z => q487 (hk45.mpr z)
                    have ht50 := tpm_k Tp489 (k := 50) (K := 50) rfl (by decide)
                    have hn50 : ¬ (mSk hp488).headD 0 = 50 := fun z => q490 (ht50.mpr z)
                    have hin : ¬ tvI (tF h 111 47) = 0 := by have z := q491; rw [mFr_47 ggp488] at z; exact z
                    have c2059 : (205 : Int32).toInt = 205 := rfl
                    have c2099 : (209 : Int32).toInt = 209 := rfl
                    have hcmp : ¬ (205 ≤ (mSk hp488).headD 0 ∧ (mSk hp488).headD 0 ≤ 209) := by have z := tpm_e Tp494; have z1 := tpm_e Tp506; have z2 := q495; have z3 := q507; omega
                    have hmb : (mSk hp488, (ms hp488).2.2) = mS (mSk h) (ms h).2.2 := by rw [mp488, tp478, sp478]; rfl
                    have hr9 : rCm T n (rB T n (ms h).1) = some vp513 := by have z := np513; rw [ap488, sp478] at z; exact z
                    have h80 : (ms h).2.1 ≠ 80 := by have z := mp513; rw [bp488, sp478] at z; exact z
                    have hv1 := (rCm_r hr9).1
                    have hv2 := (rCm_r hr9).2.1
                    have hx := cm_x hv1 hv2 yp513
                    have hsk : mSk hf519 = (vp513.1 - 99898) :: (mS (mSk h) (ms h).2.2).1 := by rw [tf519, tp518]; show (200 + xp513).toNatClampNeg :: mSk hp513 = _; rw [hx, tp513, mfst hmb]
                    have hms : ms hf519 = (vp513.2, (ms h).2.1 + 1, (mS (mSk h) (ms h).2.2).2) := by rw [sf519, sp518, sp513]; exact Prod.ext rfl (Prod.ext (by show (ms hp488).2.1 + 1 = _; rw [bp488, sp478]; rfl) (by have z := msnd hmb; exact z))
                    have hdd : mD hf519 := mD_m hD (by rw [hsk, mDp_e (by omega)]; exact mDp_S _ _) ((mI_o ef519 (by decide)).trans (dp518.trans (dp513.trans (dp488.trans dp478))))
                    exact tw_vret rfl ⟨rfl, gf519, mOut_r (by unfold mS2; rw [if_neg hs42, if_neg hs43, if_neg hs45, if_neg (show ¬ (mS (mSk h) (ms h).2.2).1.headD 0 = 50 from by rw [← mfst hmb]; exact hn50), if_pos (show tst = true from hts.mp hin), if_neg (show ¬ (205 ≤ (mS (mSk h) (ms h).2.2).1.headD 0 ∧ (mS (mSk h) (ms h).2.2).1.headD 0 ≤ 209) from by rw [← mfst hmb]; exact hcmp), hr9]; (try dsimp only); rw [if_neg h80]) pf519 hdd (by unfold mst; rw [mI_x ef519, hsk, hms]; rfl)⟩
                  · try dsimp only [tvI_i, tvJ_j, tvR_r] at q517
                    have q517i := zeqi (Y := 0) (by decide) q517
                    exact (cm_z (rCm_r np513).1 yp513 q517).elim
                · have ggp513 := mFr_t ggp488 gp513
                  refine tw_istore rfl ?_
                  refine tw_iload rfl rfl ?_
                  refine tw_if_ne rfl (fun q520 => ?_) (fun q520 => ?_)
                  · try dsimp only [tvI_i, tvJ_j, tvR_r] at q520
                    have q520i := zneq (Y := 0) (by decide) q520
                    refine tw_aload rfl rfl ?_
                    refine tw_push rfl ?_
                    refine tw_iload rfl rfl ?_
                    refine tw_iadd rfl ?_
                    refine tw_virt1 rfl (z_opens hG hX (ggp513).1 Fp513 ((mFr_T ggp513).trans hT) ((mFr_n ggp513).trans hN)) (fun wp521 hp521 p521 => ?_)
                    obtain ⟨rfl, gp521, Fp521, ip521, jp521⟩ := p521
                    have ggp521 := mFr_t ggp513 gp521
                    refine tw_aload rfl rfl ?_
                    refine tw_push rfl ?_
                    refine tw_put rfl (fun f522 => ?_)
                    refine tG_setm f522 (hw_111_46 f522 (ggp521).1) (fun hf522 ef522 => ?_)
                    try dsimp only [tvI_i] at ef522
                    have gf522 := mFq_s (mFq_f ggp521) ef522 (Or.inr rfl)
                    have zf522 := mFt_s Fp521 ef522 (by decide)
                    refine tw_goto rfl ?_
                    have hk42 : cp479 = 42 ↔ ((rB T n (ms h).1) < n ∧ T (rB T n (ms h).1) = 42) := by have y := sgm_k kp479 42 (by decide); rw [sp478] at y; exact y
                    have hs42 : ¬ ((rB T n (ms h).1) < n ∧ T (rB T n (ms h).1) = 42) := fun z => q480 (hk42.mpr z)
                    have hk43 : cp479 = 43 ↔ ((rB T n (ms h).1) < n ∧ T (rB T n (ms h).1) = 43) := by have y := sgm_k kp479 43 (by decide); rw [sp478] at y; exact y
                    have hs43 : ¬ ((rB T n (ms h).1) < n ∧ T (rB T n (ms h).1) = 43) := fun z => q481 (hk43.mpr z)
                    have hk45 : cp479 = 45 ↔ ((rB T n (ms h).1) < n ∧ T (rB T n (ms h).1) = 45) := by have y := sgm_k kp479 45 (by decide); rw [sp478] at y; exact y
                    have hs45 : ¬ ((rB T n (ms h).1) < n ∧ T (rB T n (ms h).1) = 45) := fun z => q487 (hk45.mpr z)
                    have ht50 := tpm_k Tp489 (k := 50) (K := 50) rfl (by decide)
                    have hn50 : ¬ (mSk hp488).headD 0 = 50 := fun z => q490 (ht50.mpr z)
                    have hin : ¬ tvI (tF h 111 47) = 0 := by have z := q491; rw [mFr_47 ggp488] at z; exact z
                    have c2059 : (205 : Int32).toInt = 205 := rfl
                    have c2099 : (209 : Int32).toInt = 209 := rfl
                    have hcmp : ¬ (205 ≤ (mSk hp488).headD 0 ∧ (mSk hp488).headD 0 ≤ 209) := by have z := tpm_e Tp494; have z1 := tpm_e Tp506; have z2 := q495; have z3 := q507; omega
                    have hmb : (mSk hp488, (ms hp488).2.2) = mS (mSk h) (ms h).2.2 := by rw [mp488, tp478, sp478]; rfl
                    have hr9 : rCm T n (rB T n (ms h).1) = some vp513 := by have z := np513; rw [ap488, sp478] at z; exact z
                    have h80 : (ms h).2.1 = 80 := by have z := mp513; rw [bp488, sp478] at z; exact z
                    have hF : mFt hf522 (1 + 8 * (rB T n (ms h).1) + 3) := by have z := zf522; rw [ap488, sp478] at z; exact z
                    have hZ : mZp hf522 := mZp_o (mZp_k Zp513 ip521 jp521) ef522 (by decide)
                    exact tw_vret rfl ⟨rfl, gf522, mOut_l (by unfold mS2; rw [if_neg hs42, if_neg hs43, if_neg hs45, if_neg (show ¬ (mS (mSk h) (ms h).2.2).1.headD 0 = 50 from by rw [← mfst hmb]; exact hn50), if_pos (show tst = true from hts.mp hin), if_neg (show ¬ (205 ≤ (mS (mSk h) (ms h).2.2).1.headD 0 ∧ (mS (mSk h) (ms h).2.2).1.headD 0 ≤ 209) from by rw [← mfst hmb]; exact hcmp), hr9]; (try dsimp only); rw [if_pos h80]) hF hZ⟩
                  · try dsimp only [tvI_i, tvJ_j, tvR_r] at q520
                    have q520i := zeqi (Y := 0) (by decide) q520
                    have hv4 : xp513.toInt = 0 := congrArg Int32.toInt q520
                    exfalso
                    omega
        · try dsimp only [tvI_i, tvJ_j, tvR_r] at q490
          have q490i := zeqi (Y := 50) (by decide) q490
          refine tw_aload rfl rfl ?_
          refine tw_iload rfl rfl ?_
          have hk42 : cp479 = 42 ↔ ((rB T n (ms h).1) < n ∧ T (rB T n (ms h).1) = 42) := by have y := sgm_k kp479 42 (by decide); rw [sp478] at y; exact y
          have hs42 : ¬ ((rB T n (ms h).1) < n ∧ T (rB T n (ms h).1) = 42) := fun z => q480 (hk42.mpr z)
          have hk43 : cp479 = 43 ↔ ((rB T n (ms h).1) < n ∧ T (rB T n (ms h).1) = 43) := by have y := sgm_k kp479 43 (by decide); rw [sp478] at y; exact y
          have hs43 : ¬ ((rB T n (ms h).1) < n ∧ T (rB T n (ms h).1) = 43) := fun z => q481 (hk43.mpr z)
          have hk45 : cp479 = 45 ↔ ((rB T n (ms h).1) < n ∧ T (rB T n (ms h).1) = 45) := by have y := sgm_k kp479 45 (by decide); rw [sp478] at y; exact y
          have hs45 : ¬ ((rB T n (ms h).1) < n ∧ T (rB T n (ms h).1) = 45) := fun z => q487 (hk45.mpr z)
          have ht50 := tpm_k Tp489 (k := 50) (K := 50) rfl (by decide)
          have hn50 : (mSk hp488).headD 0 = 50 := ht50.mp q490
          have hDm : mD hp488 := mD_m hD (by rw [mfst mp488, tp478, show (ms hp478).2.2 = (ms h).2.2 by rw [sp478]; rfl]; exact mDp_S _ _) (dp488.trans dp478)
          have hcl9 : sgm T n (ms hp488).1 cp479 := by rw [ap488]; exact kp479
          refine tw_virt1 rfl (g_closesRound hG hX (ggp488).1 pp488e ((mFr_T ggp488).trans hT) ((mFr_n ggp488).trans hN) hcl9 hn50 hDm) (fun w9 hp523 p523 => ?_)
          obtain ⟨rfl, gp523, ⟨wp523, pp523e, sp523, tp523, ddp523⟩ | ⟨wp523, Fp523, Zp523⟩⟩ := p523
          · have ggp523 := mFr_t ggp488 gp523
            refine tw_goto rfl ?_
            have hmb : (mSk hp488, (ms hp488).2.2) = mS (mSk h) (ms h).2.2 := by rw [mp488, tp478, sp478]; rfl
            have w9 : ((rB T n (ms h).1) < n ∧ T (rB T n (ms h).1) = 41) := by have z := wp523; rw [ap488, sp478] at z; exact z
            have hms : ms hp523 = ((rB T n (ms h).1) + 1, (ms h).2.1, (mS (mSk h) (ms h).2.2).2) := mA4 sp523 sp478 ap488 bp488 rfl (msnd hmb)
            have h46 : stN (tvI (tF hp523 111 46)) = 2 := by rw [mFr_46 ggp523, h46s]; rfl
            exact tw_vret rfl ⟨rfl, mFq_f ggp523, mOut_r (by unfold mS2; rw [if_neg hs42, if_neg hs43, if_neg hs45, if_pos (show (mS (mSk h) (ms h).2.2).1.headD 0 = 50 from by rw [← mfst hmb]; exact hn50), if_pos w9]) pp523e ddp523 (by unfold mst; rw [h46, hms, tp523, mfst hmb])⟩
          · have ggp523 := mFr_t ggp488 gp523
            refine tw_goto rfl ?_
            have hmb : (mSk hp488, (ms hp488).2.2) = mS (mSk h) (ms h).2.2 := by rw [mp488, tp478, sp478]; rfl
            have w9 : ¬ ((rB T n (ms h).1) < n ∧ T (rB T n (ms h).1) = 41) := by have z := wp523; rw [ap488, sp478] at z; exact z
            have hpl : (ms hp488).1 = (rB T n (ms h).1) := by rw [ap488, sp478]; rfl
            have hF := Fp523
            rw [hpl] at hF
            exact tw_vret rfl ⟨rfl, mFq_f ggp523, mOut_l (by unfold mS2; rw [if_neg hs42, if_neg hs43, if_neg hs45, if_pos (show (mS (mSk h) (ms h).2.2).1.headD 0 = 50 from by rw [← mfst hmb]; exact hn50), if_neg w9]) hF Zp523⟩
      · try dsimp only [tvI_i, tvJ_j, tvR_r] at q487
        have q487i := zeqi (Y := 45) (by decide) q487
        refine tw_aload rfl rfl ?_
        refine tw_virt0 rfl (g_makesSums hG hX (ggp478).1 pp478e ((mFr_T ggp478).trans hT) ((mFr_n ggp478).trans hN)) (fun wp524 hp524 p524 => ?_)
        obtain ⟨rfl, gp524, pp524e, ap524, bp524, mp524, dp524⟩ := p524
        have ggp524 := mFr_t ggp478 gp524
        refine tw_aload rfl rfl ?_
        refine tw_push rfl ?_
        refine tw_iload rfl rfl ?_
        refine tw_push rfl ?_
        refine tw_ic_ne rfl (fun q525 => ?_) (fun q525 => ?_)
        · try dsimp only [tvI_i, tvJ_j, tvR_r] at q525
          have q525i := zneq (Y := 43) (by decide) q525
          refine tw_push rfl ?_
          refine tw_iadd rfl ?_
          refine tw_virt1 rfl (g_opens hG hX (ggp524).1 pp524e ((mFr_T ggp524).trans hT) ((mFr_n ggp524).trans hN) (by decide)) (fun wp526 hp526 p526 => ?_)
          obtain ⟨rfl, gp526, pp526e, tp526, sp526, dp526⟩ := p526
          have ggp526 := mFr_t ggp524 gp526
          refine tw_aload rfl rfl ?_
          refine tw_dup rfl ?_
          refine tw_getS rfl (hi_111_28 ggp526.1) ?_
          refine tw_push rfl ?_
          refine tw_iadd rfl ?_
          refine tw_put rfl (fun f527 => ?_)
          refine tG_setm f527 (hw_111_28 f527 (ggp526).1) (fun hf527 ef527 => ?_)
          try dsimp only [tvI_i] at ef527
          have gf527 := mFr_s ggp526 ef527 (by unfold mFs; omega)
          have hk42 : cp479 = 42 ↔ ((rB T n (ms h).1) < n ∧ T (rB T n (ms h).1) = 42) := by have y := sgm_k kp479 42 (by decide); rw [sp478] at y; exact y
          have hs42 : ¬ ((rB T n (ms h).1) < n ∧ T (rB T n (ms h).1) = 42) := fun z => q480 (hk42.mpr z)
          have hk43 : cp479 = 43 ↔ ((rB T n (ms h).1) < n ∧ T (rB T n (ms h).1) = 43) := by have y := sgm_k kp479 43 (by decide); rw [sp478] at y; exact y
          have hs43 : ¬ ((rB T n (ms h).1) < n ∧ T (rB T n (ms h).1) = 43) := fun z => q481 (hk43.mpr z)
          have hk45 : cp479 = 45 ↔ ((rB T n (ms h).1) < n ∧ T (rB T n (ms h).1) = 45) := by have y := sgm_k kp479 45 (by decide); rw [sp478] at y; exact y
          have hs45 := hk45.mp q487
          have hmsf527 : ms hp526 = ((rB T n (ms h).1), (ms h).2.1, (ms hp524).2.2) := (sp526).trans (mA3 sp478 ap524 bp524 rfl rfl)
          obtain ⟨pf527, sf527, tf527⟩ := mTo pp526e ((mFr_n ggp526).trans hN) ef527 (v := (rB T n (ms h).1) + 1) (zp1 (by rw [mPl pp526e, hmsf527]) (by have := rB_le (T := T) hpn; omega)) hs45.1
          rw [hmsf527] at sf527
          refine tw_aload rfl rfl ?_
          refine tw_push rfl ?_
          refine tw_put rfl (fun f528 => ?_)
          refine tG_setm f528 (hw_111_46 f528 (gf527).1) (fun hf528 ef528 => ?_)
          try dsimp only [tvI_i] at ef528
          have gf528 := mFq_s (mFq_f gf527) ef528 (Or.inr rfl)
          obtain ⟨pf528, sf528, tf528⟩ := mSte pf527 ef528
          refine tw_goto rfl ?_
          have hmb : (mSk hp524, (ms hp524).2.2) = mS (mSk h) (ms h).2.2 := by rw [mp524, tp478, sp478]; rfl
          have hsk : mSk hf528 = 104 :: (mS (mSk h) (ms h).2.2).1 := by rw [tf528, tf527, tp526, ← mfst hmb]; rfl
          have hdd : mD hf528 := mD_m hD (by rw [hsk, mDp_e (by decide)]; exact mDp_S _ _) ((mI_o ef528 (by decide)).trans ((mI_o ef527 (by decide)).trans (dp526.trans (dp524.trans dp478))))
          exact tw_vret rfl ⟨rfl, gf528, mOut_r (by unfold mS2; rw [if_neg hs42, if_neg hs43, if_pos hs45]) pf528 hdd (by unfold mst; rw [mI_x ef528, hsk, sf528, sf527, msnd hmb]; rfl)⟩
        · try dsimp only [tvI_i, tvJ_j, tvR_r] at q525
          have q525i := zeqi (Y := 43) (by decide) q525
          exact absurd q525 q481
  · try dsimp only [tvI_i, tvJ_j, tvR_r] at q480
    have q480i := zeqi (Y := 42) (by decide) q480
    refine tw_aload rfl rfl ?_
    refine tw_virt0 rfl (g_makesProducts hG hX (ggp478).1 pp478e ((mFr_T ggp478).trans hT) ((mFr_n ggp478).trans hN)) (fun wp529 hp529 p529 => ?_)
    obtain ⟨rfl, gp529, pp529e, ap529, bp529, mp529, dp529⟩ := p529
    have ggp529 := mFr_t ggp478 gp529
    refine tw_aload rfl rfl ?_
    refine tw_push rfl ?_
    refine tw_virt1 rfl (g_opens hG hX (ggp529).1 pp529e ((mFr_T ggp529).trans hT) ((mFr_n ggp529).trans hN) (by decide)) (fun wp530 hp530 p530 => ?_)
    obtain ⟨rfl, gp530, pp530e, tp530, sp530, dp530⟩ := p530
    have ggp530 := mFr_t ggp529 gp530
    refine tw_aload rfl rfl ?_
    refine tw_dup rfl ?_
    refine tw_getS rfl (hi_111_28 ggp530.1) ?_
    refine tw_push rfl ?_
    refine tw_iadd rfl ?_
    refine tw_put rfl (fun f531 => ?_)
    refine tG_setm f531 (hw_111_28 f531 (ggp530).1) (fun hf531 ef531 => ?_)
    try dsimp only [tvI_i] at ef531
    have gf531 := mFr_s ggp530 ef531 (by unfold mFs; omega)
    have hk42 : cp479 = 42 ↔ ((rB T n (ms h).1) < n ∧ T (rB T n (ms h).1) = 42) := by have y := sgm_k kp479 42 (by decide); rw [sp478] at y; exact y
    have hs42 := hk42.mp q480
    have hmsf531 : ms hp530 = ((rB T n (ms h).1), (ms h).2.1, (ms hp529).2.2) := (sp530).trans (mA3 sp478 ap529 bp529 rfl rfl)
    obtain ⟨pf531, sf531, tf531⟩ := mTo pp530e ((mFr_n ggp530).trans hN) ef531 (v := (rB T n (ms h).1) + 1) (zp1 (by rw [mPl pp530e, hmsf531]) (by have := rB_le (T := T) hpn; omega)) hs42.1
    rw [hmsf531] at sf531
    refine tw_aload rfl rfl ?_
    refine tw_push rfl ?_
    refine tw_put rfl (fun f532 => ?_)
    refine tG_setm f532 (hw_111_46 f532 (gf531).1) (fun hf532 ef532 => ?_)
    try dsimp only [tvI_i] at ef532
    have gf532 := mFq_s (mFq_f gf531) ef532 (Or.inr rfl)
    obtain ⟨pf532, sf532, tf532⟩ := mSte pf531 ef532
    refine tw_goto rfl ?_
    have hmb : (mSk hp529, (ms hp529).2.2) = mT (mSk h) (ms h).2.2 := by rw [mp529, tp478, sp478]; rfl
    have hsk : mSk hf532 = 102 :: (mT (mSk h) (ms h).2.2).1 := by rw [tf532, tf531, tp530, ← mfst hmb]; rfl
    have hdd : mD hf532 := mD_m hD (by rw [hsk, mDp_e (by decide)]; exact mDp_T _ _) ((mI_o ef532 (by decide)).trans ((mI_o ef531 (by decide)).trans (dp530.trans (dp529.trans dp478))))
    exact tw_vret rfl ⟨rfl, gf532, mOut_r (by unfold mS2; rw [if_pos hs42]) pf532 hdd (by unfold mst; rw [mI_x ef532, hsk, sf532, sf531, msnd hmb]; rfl)⟩
theorem g_behindFact {G : zG} (hG : G.1 = zProg) (hX : G.2.1 = ztx) {h : zH} {T : Nat → Int32} {n : Nat} (hs : tSh h) (hp : mP h) (hT : tA h 132 = T) (hN : mn h = n) (hD : mD h) (hd : mDp (mSk h) ≤ 1000) (h46s : tvI (tF h 111 46) = 3) : tC zTt G 222 [.ref 111] h (fun w h2 => w = none ∧ mFq h h2 ∧ mOut (mS3 T n (mSk h) (ms h)) h2) := by
  refine tC_in (by rw [hG]; rfl) (fun dp => ?_)
  have g0 := mFr_r hs
  have hpn : (ms h).1 ≤ n := mPle hp hN
  have hn4 : n ≤ 400 := by have a := mNl hp hN; have b := hp.2.1; omega
  refine tw_aload rfl rfl ?_
  refine tw_virt0 rfl (g_makesNots hG hX (g0).1 hp ((mFr_T g0).trans hT) ((mFr_n g0).trans hN) hD) (fun wp533 hp533 p533 => ?_)
  obtain ⟨rfl, gp533, pp533e, ap533, bp533, mp533, dp533⟩ := p533
  have ggp533 := mFr_t g0 gp533
  refine tw_aload rfl rfl ?_
  refine tw_virt0 rfl (g_blanks hG hX (ggp533).1 pp533e ((mFr_T ggp533).trans hT) ((mFr_n ggp533).trans hN)) (fun wp534 hp534 p534 => ?_)
  obtain ⟨rfl, gp534, pp534e, sp534, tp534, dp534⟩ := p534
  have ggp534 := mFr_t ggp533 gp534
  rw [ap533] at sp534
  refine tw_aload rfl rfl ?_
  refine tw_push rfl ?_
  refine tw_virt1 rfl (g_stands hG hX (ggp534).1 ((mFr_T ggp534).trans hT) ((mFr_n ggp534).trans hN) (q := 19) (by decide +kernel) ⟨pp534e.2.1.1, by have := pp534e.2.1; omega⟩ ⟨by have := pp534e.2.1; omega, pp534e.2.1.2.2⟩) (fun w9 h9 p535 => ?_)
  obtain ⟨⟨p535, rfl⟩ | ⟨p535, rfl⟩, rfl⟩ := p535
  · try dsimp only [tvI_i, tvJ_j, tvR_r] at p535
    refine tw_if_eq rfl (fun z => absurd z (by decide)) (fun _ => ?_)
    refine tw_aload rfl rfl ?_
    refine tw_virt0 rfl (g_makesAnds hG hX (ggp534).1 pp534e ((mFr_T ggp534).trans hT) ((mFr_n ggp534).trans hN)) (fun wp536 hp536 p536 => ?_)
    obtain ⟨rfl, gp536, pp536e, ap536, bp536, mp536, dp536⟩ := p536
    have ggp536 := mFr_t ggp534 gp536
    refine tw_aload rfl rfl ?_
    refine tw_push rfl ?_
    refine tw_virt1 rfl (g_opens hG hX (ggp536).1 pp536e ((mFr_T ggp536).trans hT) ((mFr_n ggp536).trans hN) (by decide)) (fun wp537 hp537 p537 => ?_)
    obtain ⟨rfl, gp537, pp537e, tp537, sp537, dp537⟩ := p537
    have ggp537 := mFr_t ggp536 gp537
    refine tw_aload rfl rfl ?_
    refine tw_dup rfl ?_
    refine tw_getS rfl (hi_111_28 ggp537.1) ?_
    refine tw_push rfl ?_
    refine tw_iadd rfl ?_
    refine tw_put rfl (fun f538 => ?_)
    refine tG_setm f538 (hw_111_28 f538 (ggp537).1) (fun hf538 ef538 => ?_)
    try dsimp only [tvI_i] at ef538
    have gf538 := mFr_s ggp537 ef538 (by unfold mFs; omega)
    have hw18 : rW T n (rB T n (ms h).1) (rWd 18) = true := by have z := p535; rw [sp534] at z; rw [txt_k.2.1]; exact z
    have h9w : rE T n (rB T n (ms h).1) = (rB T n (ms h).1) + 3 := by rw [rW_e hw18, wlen_k.1]
    have hr9 := rE_le (T := T) (rB_le (T := T) hpn)
    rw [h9w] at hr9
    have hmsf538 : ms hp537 = ((rB T n (ms h).1), (ms h).2.1, (ms hp536).2.2) := (sp537).trans (mA3 sp534 ap536 bp536 bp533 rfl)
    obtain ⟨pf538, sf538, tf538⟩ := mTo pp537e ((mFr_n ggp537).trans hN) ef538 (v := (rB T n (ms h).1) + 3) (zp3 (k := (rB T n (ms h).1)) (j := 3) (by rw [mPl pp537e, hmsf538]) rfl (by have := rB_le (T := T) hpn; omega) (by decide)) hr9
    rw [hmsf538] at sf538
    refine tw_aload rfl rfl ?_
    refine tw_push rfl ?_
    refine tw_put rfl (fun f539 => ?_)
    refine tG_setm f539 (hw_111_46 f539 (gf538).1) (fun hf539 ef539 => ?_)
    try dsimp only [tvI_i] at ef539
    have gf539 := mFq_s (mFq_f gf538) ef539 (Or.inr rfl)
    obtain ⟨pf539, sf539, tf539⟩ := mSte pf538 ef539
    refine tw_goto rfl ?_
    have hmn : (mSk hp534, (ms hp534).2.2) = (mN (mSk h) (ms h).2.2) := by rw [tp534, sp534]; exact mp533
    have hmb : (mSk hp536, (ms hp536).2.2) = mA (mN (mSk h) (ms h).2.2).1 (mN (mSk h) (ms h).2.2).2 := by rw [mp536, mfst hmn, msnd hmn]
    have hsk : mSk hf539 = 11 :: (mA (mN (mSk h) (ms h).2.2).1 (mN (mSk h) (ms h).2.2).2).1 := by rw [tf539, tf538, tp537, ← mfst hmb]; rfl
    have hdd : mD hf539 := mD_m (mD_k dp533 tp534 dp534) (by rw [hsk, mDp_e (by decide), mDp_A, mfst hmn]) ((mI_o ef539 (by decide)).trans ((mI_o ef538 (by decide)).trans (dp537.trans dp536)))
    exact tw_vret rfl ⟨rfl, gf539, mOut_r (by unfold mS3; rw [if_pos hw18]) pf539 hdd (by unfold mst; rw [mI_x ef539, hsk, sf539, sf538, msnd hmb]; rfl)⟩
  · try dsimp only [tvI_i, tvJ_j, tvR_r] at p535
    refine tw_if_eq rfl (fun _ => ?_) (fun z => absurd z (by decide))
    refine tw_aload rfl rfl ?_
    refine tw_push rfl ?_
    refine tw_virt1 rfl (g_stands hG hX (ggp534).1 ((mFr_T ggp534).trans hT) ((mFr_n ggp534).trans hN) (q := 20) (by decide +kernel) ⟨pp534e.2.1.1, by have := pp534e.2.1; omega⟩ ⟨by have := pp534e.2.1; omega, pp534e.2.1.2.2⟩) (fun w9 h9 p540 => ?_)
    obtain ⟨⟨p540, rfl⟩ | ⟨p540, rfl⟩, rfl⟩ := p540
    · try dsimp only [tvI_i, tvJ_j, tvR_r] at p540
      refine tw_if_eq rfl (fun z => absurd z (by decide)) (fun _ => ?_)
      refine tw_aload rfl rfl ?_
      refine tw_virt0 rfl (g_makesOrs hG hX (ggp534).1 pp534e ((mFr_T ggp534).trans hT) ((mFr_n ggp534).trans hN)) (fun wp541 hp541 p541 => ?_)
      obtain ⟨rfl, gp541, pp541e, ap541, bp541, mp541, dp541⟩ := p541
      have ggp541 := mFr_t ggp534 gp541
      refine tw_aload rfl rfl ?_
      refine tw_push rfl ?_
      refine tw_virt1 rfl (g_opens hG hX (ggp541).1 pp541e ((mFr_T ggp541).trans hT) ((mFr_n ggp541).trans hN) (by decide)) (fun wp542 hp542 p542 => ?_)
      obtain ⟨rfl, gp542, pp542e, tp542, sp542, dp542⟩ := p542
      have ggp542 := mFr_t ggp541 gp542
      refine tw_aload rfl rfl ?_
      refine tw_dup rfl ?_
      refine tw_getS rfl (hi_111_28 ggp542.1) ?_
      refine tw_push rfl ?_
      refine tw_iadd rfl ?_
      refine tw_put rfl (fun f543 => ?_)
      refine tG_setm f543 (hw_111_28 f543 (ggp542).1) (fun hf543 ef543 => ?_)
      try dsimp only [tvI_i] at ef543
      have gf543 := mFr_s ggp542 ef543 (by unfold mFs; omega)
      have hw18 : ¬ rW T n (rB T n (ms h).1) (rWd 18) = true := by have z := p535; rw [sp534] at z; rw [txt_k.2.1]; exact z
      have hw17 : rW T n (rB T n (ms h).1) (rWd 17) = true := by have z := p540; rw [sp534] at z; rw [txt_k.2.2.1]; exact z
      have h9w : rE T n (rB T n (ms h).1) = (rB T n (ms h).1) + 2 := by rw [rW_e hw17, wlen_k.2.1]
      have hr9 := rE_le (T := T) (rB_le (T := T) hpn)
      rw [h9w] at hr9
      have hmsf543 : ms hp542 = ((rB T n (ms h).1), (ms h).2.1, (ms hp541).2.2) := (sp542).trans (mA3 sp534 ap541 bp541 bp533 rfl)
      obtain ⟨pf543, sf543, tf543⟩ := mTo pp542e ((mFr_n ggp542).trans hN) ef543 (v := (rB T n (ms h).1) + 2) (zp3 (k := (rB T n (ms h).1)) (j := 2) (by rw [mPl pp542e, hmsf543]) rfl (by have := rB_le (T := T) hpn; omega) (by decide)) hr9
      rw [hmsf543] at sf543
      refine tw_aload rfl rfl ?_
      refine tw_push rfl ?_
      refine tw_put rfl (fun f544 => ?_)
      refine tG_setm f544 (hw_111_46 f544 (gf543).1) (fun hf544 ef544 => ?_)
      try dsimp only [tvI_i] at ef544
      have gf544 := mFq_s (mFq_f gf543) ef544 (Or.inr rfl)
      obtain ⟨pf544, sf544, tf544⟩ := mSte pf543 ef544
      refine tw_goto rfl ?_
      have hmn : (mSk hp534, (ms hp534).2.2) = (mN (mSk h) (ms h).2.2) := by rw [tp534, sp534]; exact mp533
      have hmb : (mSk hp541, (ms hp541).2.2) = mO (mN (mSk h) (ms h).2.2).1 (mN (mSk h) (ms h).2.2).2 := by rw [mp541, mfst hmn, msnd hmn]
      have hsk : mSk hf544 = 12 :: (mO (mN (mSk h) (ms h).2.2).1 (mN (mSk h) (ms h).2.2).2).1 := by rw [tf544, tf543, tp542, ← mfst hmb]; rfl
      have hdd : mD hf544 := mD_m (mD_k dp533 tp534 dp534) (by rw [hsk, mDp_e (by decide), mDp_O, mfst hmn]) ((mI_o ef544 (by decide)).trans ((mI_o ef543 (by decide)).trans (dp542.trans dp541)))
      exact tw_vret rfl ⟨rfl, gf544, mOut_r (by unfold mS3; rw [if_neg hw18, if_pos hw17]) pf544 hdd (by unfold mst; rw [mI_x ef544, hsk, sf544, sf543, msnd hmb]; rfl)⟩
    · try dsimp only [tvI_i, tvJ_j, tvR_r] at p540
      refine tw_if_eq rfl (fun _ => ?_) (fun z => absurd z (by decide))
      refine tw_aload rfl rfl ?_
      refine tw_virt0 rfl (g_makesOrs hG hX (ggp534).1 pp534e ((mFr_T ggp534).trans hT) ((mFr_n ggp534).trans hN)) (fun wp545 hp545 p545 => ?_)
      obtain ⟨rfl, gp545, pp545e, ap545, bp545, mp545, dp545⟩ := p545
      have ggp545 := mFr_t ggp534 gp545
      refine tw_aload rfl rfl ?_
      refine tw_virt0 rfl (g_top hG hX (ggp545).1 pp545e ((mFr_T ggp545).trans hT) ((mFr_n ggp545).trans hN)) (fun wp546 hp546 p546 => ?_)
      obtain ⟨⟨cp546, rfl, Tp546⟩, rfl⟩ := p546
      refine tw_push rfl ?_
      refine tw_ic_ne rfl (fun q547 => ?_) (fun q547 => ?_)
      · try dsimp only [tvI_i, tvJ_j, tvR_r] at q547
        have q547i := zneq (Y := 13) (by decide) q547
        refine tw_aload rfl rfl ?_
        refine tw_push rfl ?_
        refine tw_put rfl (fun f548 => ?_)
        refine tG_setm f548 (hw_111_46 f548 (ggp545).1) (fun hf548 ef548 => ?_)
        try dsimp only [tvI_i] at ef548
        have gf548 := mFq_s (mFq_f ggp545) ef548 (Or.inr rfl)
        obtain ⟨pf548, sf548, tf548⟩ := mSte pp545e ef548
        have hw18 : ¬ rW T n (rB T n (ms h).1) (rWd 18) = true := by have z := p535; rw [sp534] at z; rw [txt_k.2.1]; exact z
        have hw17 : ¬ rW T n (rB T n (ms h).1) (rWd 17) = true := by have z := p540; rw [sp534] at z; rw [txt_k.2.2.1]; exact z
        have ht13 := tpm_k Tp546 (k := 13) (K := 13) rfl (by decide)
        have hn13 : ¬ (mSk hp545).headD 0 = 13 := fun z => q547 (ht13.mpr z)
        have hmn : (mSk hp534, (ms hp534).2.2) = (mN (mSk h) (ms h).2.2) := by rw [tp534, sp534]; exact mp533
        have hmb : (mSk hp545, (ms hp545).2.2) = mO (mN (mSk h) (ms h).2.2).1 (mN (mSk h) (ms h).2.2).2 := by rw [mp545, mfst hmn, msnd hmn]
        have hms : ms hf548 = ((rB T n (ms h).1), (ms h).2.1, (mO (mN (mSk h) (ms h).2.2).1 (mN (mSk h) (ms h).2.2).2).2) := (sf548).trans (mA3 sp534 ap545 bp545 bp533 (msnd hmb))
        have hsk : mSk hf548 = (mO (mN (mSk h) (ms h).2.2).1 (mN (mSk h) (ms h).2.2).2).1 := by rw [tf548, mfst hmb]
        have hdd : mD hf548 := mD_m (mD_k dp533 tp534 dp534) (by rw [hsk, mDp_O, mfst hmn]) ((mI_o ef548 (by decide)).trans dp545)
        exact tw_vret rfl ⟨rfl, gf548, mOut_r (by unfold mS3; rw [if_neg hw18, if_neg hw17, if_neg (show ¬ (mO (mN (mSk h) (ms h).2.2).1 (mN (mSk h) (ms h).2.2).2).1.headD 0 = 13 from by rw [← mfst hmb]; exact hn13)]) pf548 hdd (by unfold mst; rw [mI_x ef548, hsk, hms]; rfl)⟩
      · try dsimp only [tvI_i, tvJ_j, tvR_r] at q547
        have q547i := zeqi (Y := 13) (by decide) q547
        refine tw_aload rfl rfl ?_
        refine tw_virt0 rfl (g_sign hG hX (ggp545).1 ((mFr_T ggp545).trans hT) ((mFr_n ggp545).trans hN) ⟨pp545e.2.1.1, by have := pp545e.2.1; omega⟩) (fun wp549 hp549 p549 => ?_)
        obtain ⟨⟨cp549, rfl, kp549⟩, rfl⟩ := p549
        refine tw_push rfl ?_
        refine tw_ic_eq rfl (fun q550 => ?_) (fun q550 => ?_)
        · try dsimp only [tvI_i, tvJ_j, tvR_r] at q550
          have q550i := zeqi (Y := 93) (by decide) q550
          refine tw_aload rfl rfl ?_
          refine tw_dup rfl ?_
          refine tw_getS rfl (hi_111_28 (ggp545).1) ?_
          refine tw_push rfl ?_
          refine tw_iadd rfl ?_
          refine tw_put rfl (fun f551 => ?_)
          refine tG_setm f551 (hw_111_28 f551 (ggp545).1) (fun hf551 ef551 => ?_)
          try dsimp only [tvI_i] at ef551
          have gf551 := mFr_s ggp545 ef551 (by unfold mFs; omega)
          have hw18 : ¬ rW T n (rB T n (ms h).1) (rWd 18) = true := by have z := p535; rw [sp534] at z; rw [txt_k.2.1]; exact z
          have hw17 : ¬ rW T n (rB T n (ms h).1) (rWd 17) = true := by have z := p540; rw [sp534] at z; rw [txt_k.2.2.1]; exact z
          have ht13 := tpm_k Tp546 (k := 13) (K := 13) rfl (by decide)
          have hn13 : (mSk hp545).headD 0 = 13 := ht13.mp q547
          have hk93 : cp549 = 93 ↔ ((rB T n (ms h).1) < n ∧ T (rB T n (ms h).1) = 93) := by have y := sgm_k kp549 93 (by decide); rw [ap545, sp534] at y; exact y
          have hs93 : ((rB T n (ms h).1) < n ∧ T (rB T n (ms h).1) = 93) := hk93.mp q550
          have hDm : mD hp545 := mD_m (mD_k dp533 tp534 dp534) (by rw [mfst mp545]; exact mDp_O _ _) dp545
          obtain ⟨pf551, sf551, tf551⟩ := mTo pp545e ((mFr_n ggp545).trans hN) ef551 (v := (rB T n (ms h).1) + 1) (zp1 (by rw [mPl pp545e, show (ms hp545).1 = (rB T n (ms h).1) from by rw [ap545, sp534]; rfl]) (by have := rB_le (T := T) hpn; omega)) hs93.1
          refine tw_aload rfl rfl ?_
          refine tw_dup rfl ?_
          refine tw_getS rfl (hi_111_34 (gf551).1) ?_
          refine tw_push rfl ?_
          refine tw_isub rfl ?_
          refine tw_put rfl (fun f552 => ?_)
          refine tG_setm f552 (hw_111_34 f552 (gf551).1) (fun hf552 ef552 => ?_)
          try dsimp only [tvI_i] at ef552
          have gf552 := mFr_s gf551 ef552 (by unfold mFs; omega)
          have hst : mSk hf551 = 13 :: (mSk hp545).tail := tf551.trans (mhead (k := 12) hn13)
          obtain ⟨pf552, tf552, sf552, df552⟩ := mSk_pop pf551 (by rw [hst]; exact List.cons_ne_nil _ _) ef552
          rw [hst] at tf552
          have tf552 : mSk hf552 = (mSk hp545).tail := tf552
          refine tw_aload rfl rfl ?_
          refine tw_dup rfl ?_
          refine tw_getS rfl (hi_111_32 (gf552).1) ?_
          refine tw_push rfl ?_
          refine tw_isub rfl ?_
          refine tw_put rfl (fun f553 => ?_)
          refine tG_setm f553 (hw_111_32 f553 (gf552).1) (fun hf553 ef553 => ?_)
          try dsimp only [tvI_i] at ef553
          have gf553 := mFr_s gf552 ef553 (by unfold mFs; omega)
          have hdf553 : (tvI (tF hf552 111 32)).toInt = ((mDp (mSk hf552) + 1 : Nat) : Int) := by
            rw [df552, mI_o ef551 (by decide)]
            refine (show (tvI (tF hp545 111 32)).toInt = (mDp (mSk hp545) : Int) from hDm).trans ?_
            rw [tf552]
            exact congrArg (fun z : Nat => (z : Int)) ((congrArg mDp (mhead (k := 12) hn13)).trans (mDp_c (by decide)))
          obtain ⟨pf553, tf553, sf553, ddf553⟩ := mDn pf552 ef553 hdf553 rfl
          refine tw_goto rfl ?_
          have hmn : (mSk hp534, (ms hp534).2.2) = (mN (mSk h) (ms h).2.2) := by rw [tp534, sp534]; exact mp533
          have hmb : (mSk hp545, (ms hp545).2.2) = mO (mN (mSk h) (ms h).2.2).1 (mN (mSk h) (ms h).2.2).2 := by rw [mp545, mfst hmn, msnd hmn]
          have hms : ms hf553 = ((rB T n (ms h).1) + 1, (ms h).2.1, (mO (mN (mSk h) (ms h).2.2).1 (mN (mSk h) (ms h).2.2).2).2) := by rw [sf553, sf552, sf551]; exact mA6 (mA2 sp534 bp545 bp533) (msnd hmb)
          have hsk : mSk hf553 = (mO (mN (mSk h) (ms h).2.2).1 (mN (mSk h) (ms h).2.2).2).1.tail := by rw [tf553, tf552, mfst hmb]
          have h46 : stN (tvI (tF hf553 111 46)) = 3 := by rw [mFr_46 gf553, h46s]; rfl
          exact tw_vret rfl ⟨rfl, mFq_f gf553, mOut_r (by unfold mS3; rw [if_neg hw18, if_neg hw17, if_pos (show (mO (mN (mSk h) (ms h).2.2).1 (mN (mSk h) (ms h).2.2).2).1.headD 0 = 13 from by rw [← mfst hmb]; exact hn13), if_pos hs93]) pf553 ddf553 (by unfold mst; rw [h46, hsk, hms])⟩
        · try dsimp only [tvI_i, tvJ_j, tvR_r] at q550
          have q550i := zneq (Y := 93) (by decide) q550
          refine tw_aload rfl rfl ?_
          refine tw_push rfl ?_
          refine tw_aload rfl rfl ?_
          refine tw_getS rfl (hi_111_28 (ggp545).1) ?_
          refine tw_virt2 rfl (g_fails hG hX (ggp545).1 pp545e ((mFr_T ggp545).trans hT) ((mFr_n ggp545).trans hN) (w := 0) (b := (rB T n (ms h).1)) rfl (by decide) ((mPl pp545e).trans (by rw [show (ms hp545).1 = (rB T n (ms h).1) from by rw [ap545, sp534]; rfl])) (by have := rB_le (T := T) hpn; omega)) (fun wp554 hp554 p554 => ?_)
          obtain ⟨rfl, gp554, Fp554, ip554, jp554⟩ := p554
          have ggp554 := mFr_t ggp545 gp554
          refine tw_aload rfl rfl ?_
          refine tw_dup rfl ?_
          refine tw_getS rfl (hi_111_28 ggp554.1) ?_
          refine tw_push rfl ?_
          refine tw_iadd rfl ?_
          refine tw_put rfl (fun f555 => ?_)
          refine tG_setm f555 (hw_111_28 f555 (ggp554).1) (fun hf555 ef555 => ?_)
          try dsimp only [tvI_i] at ef555
          have gf555 := mFr_s ggp554 ef555 (by unfold mFs; omega)
          have zf555 := mFt_s Fp554 ef555 (by decide)
          have yf555 : (tvI (tF hp554 111 28)).toInt = (((rB T n (ms h).1) : Nat) : Int) := by rw [ip554, mPl pp545e, show (ms hp545).1 = (rB T n (ms h).1) from by rw [ap545, sp534]; rfl]
          have Zf555 : mZp hf555 := mZ_of ggp554 hp ef555 (zp1 yf555 (by have := rB_le (T := T) hpn; omega)) (by have := rB_le (T := T) hpn; omega)
          refine tw_aload rfl rfl ?_
          refine tw_dup rfl ?_
          refine tw_getS rfl (hi_111_34 (gf555).1) ?_
          refine tw_push rfl ?_
          refine tw_isub rfl ?_
          refine tw_put rfl (fun f556 => ?_)
          refine tG_setm f556 (hw_111_34 f556 (gf555).1) (fun hf556 ef556 => ?_)
          try dsimp only [tvI_i] at ef556
          have gf556 := mFr_s gf555 ef556 (by unfold mFs; omega)
          have zf556 := mFt_s zf555 ef556 (by decide)
          have Zf556 : mZp hf556 := mZp_o Zf555 ef556 (by decide)
          refine tw_aload rfl rfl ?_
          refine tw_dup rfl ?_
          refine tw_getS rfl (hi_111_32 (gf556).1) ?_
          refine tw_push rfl ?_
          refine tw_isub rfl ?_
          refine tw_put rfl (fun f557 => ?_)
          refine tG_setm f557 (hw_111_32 f557 (gf556).1) (fun hf557 ef557 => ?_)
          try dsimp only [tvI_i] at ef557
          have gf557 := mFr_s gf556 ef557 (by unfold mFs; omega)
          have zf557 := mFt_s zf556 ef557 (by decide)
          have Zf557 : mZp hf557 := mZp_o Zf556 ef557 (by decide)
          refine tw_goto rfl ?_
          have hw18 : ¬ rW T n (rB T n (ms h).1) (rWd 18) = true := by have z := p535; rw [sp534] at z; rw [txt_k.2.1]; exact z
          have hw17 : ¬ rW T n (rB T n (ms h).1) (rWd 17) = true := by have z := p540; rw [sp534] at z; rw [txt_k.2.2.1]; exact z
          have ht13 := tpm_k Tp546 (k := 13) (K := 13) rfl (by decide)
          have hn13 : (mSk hp545).headD 0 = 13 := ht13.mp q547
          have hk93 : cp549 = 93 ↔ ((rB T n (ms h).1) < n ∧ T (rB T n (ms h).1) = 93) := by have y := sgm_k kp549 93 (by decide); rw [ap545, sp534] at y; exact y
          have hs93 : ¬ ((rB T n (ms h).1) < n ∧ T (rB T n (ms h).1) = 93) := fun z => q550 (hk93.mpr z)
          have hDm : mD hp545 := mD_m (mD_k dp533 tp534 dp534) (by rw [mfst mp545]; exact mDp_O _ _) dp545
          have hmn : (mSk hp534, (ms hp534).2.2) = (mN (mSk h) (ms h).2.2) := by rw [tp534, sp534]; exact mp533
          have hmb : (mSk hp545, (ms hp545).2.2) = mO (mN (mSk h) (ms h).2.2).1 (mN (mSk h) (ms h).2.2).2 := by rw [mp545, mfst hmn, msnd hmn]
          exact tw_vret rfl ⟨rfl, mFq_f gf557, mOut_l (by unfold mS3; rw [if_neg hw18, if_neg hw17, if_pos (show (mO (mN (mSk h) (ms h).2.2).1 (mN (mSk h) (ms h).2.2).2).1.headD 0 = 13 from by rw [← mfst hmb]; exact hn13), if_neg hs93]) zf557 Zf557⟩
theorem mDp_N : ∀ (S o : List Nat), mDp (mN S o).1 ≤ mDp S
  | [], _ => Nat.le_refl _
  | x :: r, o => by
    unfold mN
    by_cases z : x = 10
    · rw [if_pos z, z, mDp_c (by decide)]
      exact Nat.le_succ_of_le (mDp_N r _)
    · rw [if_neg z]
      exact Nat.le_refl _
theorem mDp_t : ∀ (S : List Nat), mDp S.tail ≤ mDp S
  | [] => Nat.le_refl _
  | x :: r => by
    show mDp r ≤ (if _ then mDp r + 1 else mDp r)
    split
    · exact Nat.le_succ _
    · exact Nat.le_refl _
theorem mSt_dp {T : Nat → Int32} {n : Nat} {tst : Bool} {a : Nat} {S : List Nat} {s : rS} {x2 : rMs} (h : mDp S ≤ 10) (ha : a ≤ 3) (e : mSt T n tst (a, S, s) = .inr x2) : mDp x2.2.1 ≤ 10 ∧ x2.1 ≤ 4 := by
  match a, ha, e with
  | 0, _, e =>
    have e : mS0 T n S s = .inr x2 := e
    unfold mS0 at e
    split at e
    · split at e
      · cases e
      · rename_i z
        cases e
        exact ⟨by show mDp (10 :: S) ≤ 10; rw [mDp_c (by decide)]; omega, Nat.le_of_ble_eq_true rfl⟩
    · split at e
      · split at e
        · cases e
        · rename_i z
          cases e
          exact ⟨by show mDp (13 :: S) ≤ 10; rw [mDp_c (by decide)]; omega, Nat.le_of_ble_eq_true rfl⟩
      · cases e
        exact ⟨h, Nat.le_of_ble_eq_true rfl⟩
  | 1, _, e =>
    have e : mS1 T n S s = .inr x2 := e
    unfold mS1 at e
    split at e
    · split at e
      · cases e
      · split at e
        · cases e
        · rename_i z _
          cases e
          exact ⟨by show mDp (50 :: S) ≤ 10; rw [mDp_c (by decide)]; omega, Nat.le_of_ble_eq_true rfl⟩
    · split at e
      · split at e
        · cases e
        · cases e; exact ⟨h, Nat.le_of_ble_eq_true rfl⟩
      · split at e
        · cases e
        · split at e
          · cases e
          · cases e; exact ⟨h, Nat.le_of_ble_eq_true rfl⟩
  | 2, _, e =>
    have e : mS2 T n tst S s = .inr x2 := e
    have hT := mDp_T S s.2.2
    have hS := mDp_S S s.2.2
    have ht := mDp_t (mS S s.2.2).1
    unfold mS2 at e
    split at e
    · cases e
      exact ⟨by show mDp (102 :: _) ≤ 10; rw [mDp_e (by decide)]; omega, Nat.le_of_ble_eq_true rfl⟩
    · split at e
      · cases e
        exact ⟨by show mDp (103 :: _) ≤ 10; rw [mDp_e (by decide)]; omega, Nat.le_of_ble_eq_true rfl⟩
      · split at e
        · cases e
          exact ⟨by show mDp (104 :: _) ≤ 10; rw [mDp_e (by decide)]; omega, Nat.le_of_ble_eq_true rfl⟩
        · split at e
          · split at e
            · cases e
              exact ⟨by show mDp (mS S s.2.2).1.tail ≤ 10; omega, Nat.le_of_ble_eq_true rfl⟩
            · cases e
          · split at e
            · split at e
              · cases e
                exact ⟨by show mDp (mS S s.2.2).1.tail ≤ 10; omega, Nat.le_of_ble_eq_true rfl⟩
              · split at e
                · cases e
                · rename_i q hq
                  split at e
                  · cases e
                  · cases e
                    have r1 := (rCm_r hq).1
                    have r2 := (rCm_r hq).2.1
                    exact ⟨by show mDp ((q.1 - 99898) :: _) ≤ 10; rw [mDp_e (by omega)]; omega, Nat.le_of_ble_eq_true rfl⟩
            · cases e
              exact ⟨by show mDp (mS S s.2.2).1 ≤ 10; omega, Nat.le_of_ble_eq_true rfl⟩
  | 3, _, e =>
    have e : mS3 T n S s = .inr x2 := e
    have hN := mDp_N S s.2.2
    have hA := mDp_A (mN S s.2.2).1 (mN S s.2.2).2
    have hO := mDp_O (mN S s.2.2).1 (mN S s.2.2).2
    have ht := mDp_t (mO (mN S s.2.2).1 (mN S s.2.2).2).1
    unfold mS3 at e
    split at e
    · cases e
      exact ⟨by show mDp (11 :: _) ≤ 10; rw [mDp_e (by decide)]; omega, Nat.le_of_ble_eq_true rfl⟩
    · split at e
      · cases e
        exact ⟨by show mDp (12 :: _) ≤ 10; rw [mDp_e (by decide)]; omega, Nat.le_of_ble_eq_true rfl⟩
      · split at e
        · split at e
          · cases e
            exact ⟨by show mDp (mO (mN S s.2.2).1 (mN S s.2.2).2).1.tail ≤ 10; omega, Nat.le_of_ble_eq_true rfl⟩
          · cases e
        · cases e
          exact ⟨by show mDp (mO (mN S s.2.2).1 (mN S s.2.2).2).1 ≤ 10; omega, Nat.le_of_ble_eq_true rfl⟩
theorem mRst {h a b c : zH} {x y : Int32} (hx : 0 ≤ x.toInt) (p : mP h) (d0 : tvI (tF h 111 32) = 0) (e46 : mSet 46 x h a) (e34 : mSet 34 0 a b) (e47 : mSet 47 y b c) : mFw h c ∧ mP c ∧ mD c ∧ mst c = (stN x, [], ms h) ∧ tvI (tF c 111 47) = y := by
  have F : ∀ q, q ≠ 46 → q ≠ 34 → q ≠ 47 → tF c 111 q = tF h 111 q := fun q h1 h2 h3 => (mI_o e47 h3).trans ((mI_o e34 h2).trans (mI_o e46 h1))
  have A : tA c = tA h := e47.2.2.2.1.trans (e34.2.2.2.1.trans e46.2.2.2.1)
  have NN : tN c = tN h := e47.2.2.2.2.trans (e34.2.2.2.2.trans e46.2.2.2.2)
  have f34 : tvI (tF c 111 34) = 0 := by rw [mI_o e47 (by decide)]; exact mI_x e34
  have f46 : tvI (tF c 111 46) = x := by rw [mI_o e47 (by decide), mI_o e34 (by decide)]; exact mI_x e46
  have hk : mSk c = [] := mSk_nil (by rw [f34]; rfl)
  obtain ⟨p1, p2, p3, p4, p5, p6, p7, p8, t1, t2⟩ := p
  refine ⟨⟨e47.1, fun p q z => ?_, fun p _ _ _ => congrFun A p, NN, mLo_A A mLo_r⟩, ⟨?_, ?_, ?_, ?_, ?_, ?_, ?_, ?_, by rw [NN]; exact t1, by rw [NN]; exact t2⟩, ?_, ?_, mI_x e47⟩
  · refine (e47.2.2.1 p q (fun w => z ⟨w.1, Or.inr (Or.inr w.2)⟩)).trans ((e34.2.2.1 p q (fun w => z ⟨w.1, Or.inl (by unfold mFs; omega)⟩)).trans (e46.2.2.1 p q (fun w => z ⟨w.1, Or.inr (Or.inl w.2)⟩)))
  · rw [F 29 (by decide) (by decide) (by decide)]; exact p1
  · rw [F 28 (by decide) (by decide) (by decide), F 27 (by decide) (by decide) (by decide)]; exact p2
  · rw [F 33 (by decide) (by decide) (by decide)]; exact p3
  · rw [F 31 (by decide) (by decide) (by decide)]; exact p4
  · rw [f34]; decide
  · rw [F 30 (by decide) (by decide) (by decide)]; exact p6
  · rw [A, NN]; exact p7
  · exact p8
  · unfold mD
    rw [F 32 (by decide) (by decide) (by decide), d0, hk]
    rfl
  · unfold mst ms mEn
    rw [f46, hk, F 28 (by decide) (by decide) (by decide), F 33 (by decide) (by decide) (by decide), F 31 (by decide) (by decide) (by decide), F 30 (by decide) (by decide) (by decide), A]
theorem g_readsR {G : zG} (hG : G.1 = zProg) (hX : G.2.1 = ztx) {h : zH} {T : Nat → Int32} {n : Nat} (hs : tSh h) (hp : mP h) (hT : tA h 132 = T) (hN : mn h = n) {x : Int32} {tst : Bool} (hx0 : 0 ≤ x.toInt) (hx4 : stN x ≤ 4) (hts : x = 0 ↔ tst = true) (hd0 : tvI (tF h 111 32) = 0) : tC zTt G 223 [.ref 111, .int x] h (fun w h2 => w = none ∧ mFw h h2 ∧ ((mP h2 ∧ mD h2 ∧ mRe T n tst (stN x, [], ms h) (.inr (4, mSk h2, ms h2))) ∨ ∃ e, mFt h2 e ∧ mZp h2 ∧ mRe T n tst (stN x, [], ms h) (.inl e))) := by
  refine tC_in (by rw [hG]; rfl) (fun dp => ?_)
  refine tw_aload rfl rfl ?_
  refine tw_iload rfl rfl ?_
  refine tw_put rfl (fun f558 => ?_)
  refine tG_setm f558 (hw_111_46 f558 hs) (fun hf558 ef558 => ?_)
  try dsimp only [tvI_i] at ef558
  refine tw_aload rfl rfl ?_
  refine tw_push rfl ?_
  refine tw_put rfl (fun f559 => ?_)
  refine tG_setm f559 (hw_111_34 f559 ef558.1) (fun hf559 ef559 => ?_)
  try dsimp only [tvI_i] at ef559
  refine tw_aload rfl rfl ?_
  refine tw_iload rfl rfl ?_
  refine tw_if_ne rfl (fun q560 => ?_) (fun q560 => ?_)
  · try dsimp only [tvI_i, tvJ_j, tvR_r] at q560
    have q560i := zneq (Y := 0) (by decide) q560
    refine tw_push rfl ?_
    refine tw_put rfl (fun f561 => ?_)
    refine tG_setm f561 (hw_111_47 f561 ef559.1) (fun hf561 ef561 => ?_)
    try dsimp only [tvI_i] at ef561
    refine tG_loop (zW_mono zTt G dp) (zW_conj zTt G dp) (V := fun pc L st h9 _ _ => pc = 23 ∧ st = [] ∧ ∃ h1, h1 = h9 ∧ mFw h h1 ∧ (¬ tvI (tF h1 111 47) = 0 ↔ tst = true) ∧ ((mP h1 ∧ mD h1 ∧ mDp (mSk h1) ≤ 10 ∧ (mst h1).1 ≤ 4 ∧ mRe T n tst (stN x, [], ms h) (.inr (mst h1))) ∨ ∃ e, mFt h1 e ∧ mZp h1 ∧ mRe T n tst (stN x, [], ms h) (.inl e)) ∧ L = [some (.ref 111), some (.int x)]) ?_ (⟨rfl, rfl, _, rfl, (mRst hx0 hp hd0 ef558 ef559 ef561).1, (by rw [(mRst hx0 hp hd0 ef558 ef559 ef561).2.2.2.2]; exact ⟨fun z => absurd rfl z, fun z => absurd (hts.mpr z) q560⟩), Or.inl ⟨(mRst hx0 hp hd0 ef558 ef559 ef561).2.1, (mRst hx0 hp hd0 ef558 ef559 ef561).2.2.1, (by have z := congrArg (fun q : rMs => q.2.1) (mRst hx0 hp hd0 ef558 ef559 ef561).2.2.2.1; have z : mSk _ = [] := z; rw [z]; exact Nat.zero_le _), (by rw [(mRst hx0 hp hd0 ef558 ef559 ef561).2.2.2.1]; exact hx4), by rw [(mRst hx0 hp hd0 ef558 ef559 ef561).2.2.2.1]; exact mRe_0⟩, rfl⟩)
    rintro _ _ _ _ _ _ ⟨rfl, rfl, h1, rfl, gw, hT1, hv, rfl⟩
    refine tw_aload rfl rfl ?_
    refine tw_getS rfl (hi_111_46 gw.1) ?_
    refine tw_push rfl ?_
    refine tw_ic_eq rfl (fun q562 => ?_) (fun q562 => ?_)
    · try dsimp only [tvI_i, tvJ_j, tvR_r] at q562
      have q562i := zeqi (Y := 4) (by decide) q562
      rcases hv with ⟨hv1, hv2, hv3, hv4, hv6⟩ | ⟨e, hv1, hv2, hv3⟩
      · have hm1 : mst h1 = (4, mSk h1, ms h1) := by unfold mst; rw [q562]; rfl
        rw [hm1] at hv6
        exact tw_vret rfl ⟨rfl, gw, Or.inl ⟨hv1, hv2, hv6⟩⟩
      · exact tw_vret rfl ⟨rfl, gw, Or.inr ⟨e, hv1, hv2, hv3⟩⟩
    · try dsimp only [tvI_i, tvJ_j, tvR_r] at q562
      have q562i := zneq (Y := 4) (by decide) q562
      refine tw_aload rfl rfl ?_
      refine tw_getS rfl (hi_111_29 gw.1) ?_
      refine tw_if_ne rfl (fun q563 => ?_) (fun q563 => ?_)
      · try dsimp only [tvI_i, tvJ_j, tvR_r] at q563
        have q563i := zneq (Y := 0) (by decide) q563
        rcases hv with ⟨hv1, -⟩ | ⟨e, hv1, hv2, hv3⟩
        · exact absurd (mP_0 hv1) q563
        · exact tw_vret rfl ⟨rfl, gw, Or.inr ⟨e, hv1, hv2, hv3⟩⟩
      · try dsimp only [tvI_i, tvJ_j, tvR_r] at q563
        have q563i := zeqi (Y := 0) (by decide) q563
        refine tw_aload rfl rfl ?_
        refine tw_getS rfl (hi_111_46 gw.1) ?_
        refine tw_table rfl (fun q564 => ?_) (fun t9 q564a q564b q564c => ?_)
        · try dsimp only [tvI_i, tvJ_j, tvR_r] at q564
          refine tw_aload rfl rfl ?_
          obtain ⟨hv1, hv2, hv3, hv4, hv6⟩ := hv.resolve_right (fun z => by obtain ⟨e, z, -⟩ := z; exact mFt_n z q563)
          have hst : tvI (tF h1 111 46) = 3 := by
            refine Int32.toInt_inj.mp ?_
            show (tvI (tF h1 111 46)).toInt = 3
            have a4 : stN (tvI (tF h1 111 46)) ≤ 4 := hv4
            unfold stN at a4
            have a6 : ¬ (tvI (tF h1 111 46)).toInt < 0 := fun z => by rw [if_pos z] at a4; omega
            rw [if_neg a6] at a4
            have c29 : (2 : Int32).toInt = 2 := rfl
            have a5 : (tvI (tF h1 111 46)).toInt ≠ 4 := fun z => q562 (Int32.toInt_inj.mp z)
            have z0 := q564
            try dsimp only [tvI_i] at z0
            omega
          refine tw_virt0 rfl (g_behindFact hG hX gw.1 hv1 ((mFw_T gw).trans hT) ((mFw_n gw).trans hN) hv2 (Nat.le_trans hv3 (by decide)) hst) (fun wp565 hp565 p565 => ?_)
          obtain ⟨rfl, gp565, op565⟩ := p565
          refine tw_goto rfl ?_
          have hm1 : mst h1 = (3, mSk h1, ms h1) := by unfold mst; rw [hst]; rfl
          rw [hm1] at hv6
          refine tG_cut (zW_mono zTt G dp) (Or.inr ⟨rfl, rfl, _, rfl, mFw_t gw (mFw_q gp565), (by rw [mFq_47 gp565]; exact hT1), ?_, rfl⟩)
          cases hy : mSt T n tst (3, mSk h1, ms h1) with
          | inl e =>
            have op565 : mOut (mSt T n tst (3, mSk h1, ms h1)) hp565 := op565
            rw [hy] at op565
            exact Or.inr ⟨e, op565.1, op565.2, mRe_t hv6 (mRe_f hy)⟩
          | inr x2 =>
            have op565 : mOut (mSt T n tst (3, mSk h1, ms h1)) hp565 := op565
            rw [hy] at op565
            obtain ⟨o1, o2, o3⟩ := op565
            have hdp := mSt_dp hv3 (by decide) hy
            have o4 := mRe_t hv6 (mRe_s hy mRe_0)
            rw [← o3] at hdp o4
            exact Or.inl ⟨o1, o2, hdp.1, hdp.2, o4⟩
        · have q564d : (tvI (.int (tvI (tF h1 111 46)))).toInt = 0 ∨ (tvI (.int (tvI (tF h1 111 46)))).toInt = 1 ∨ (tvI (.int (tvI (tF h1 111 46)))).toInt = 2 := by omega
          rcases q564d with q564 | q564 | q564
          · obtain rfl : t9 = 68 := by rw [q564] at q564c; exact Option.some.inj (q564c.symm.trans rfl)
            try dsimp only [tvI_i, tvJ_j, tvR_r] at q564
            refine tw_aload rfl rfl ?_
            obtain ⟨hv1, hv2, hv3, hv4, hv6⟩ := hv.resolve_right (fun z => by obtain ⟨e, z, -⟩ := z; exact mFt_n z q563)
            have hst : tvI (tF h1 111 46) = 0 := by
              refine Int32.toInt_inj.mp ?_
              show (tvI (tF h1 111 46)).toInt = 0
              have a4 : stN (tvI (tF h1 111 46)) ≤ 4 := hv4
              unfold stN at a4
              have a6 : ¬ (tvI (tF h1 111 46)).toInt < 0 := fun z => by rw [if_pos z] at a4; omega
              rw [if_neg a6] at a4
              have c29 : (2 : Int32).toInt = 2 := rfl
              have a5 : (tvI (tF h1 111 46)).toInt ≠ 4 := fun z => q562 (Int32.toInt_inj.mp z)
              have z0 := q564
              try dsimp only [tvI_i] at z0
              omega
            refine tw_virt0 rfl (g_beginsFact hG hX gw.1 hv1 ((mFw_T gw).trans hT) ((mFw_n gw).trans hN) hv2 (Nat.le_trans hv3 (by decide)) hst) (fun wp566 hp566 p566 => ?_)
            obtain ⟨rfl, gp566, op566⟩ := p566
            refine tw_goto rfl ?_
            have hm1 : mst h1 = (0, mSk h1, ms h1) := by unfold mst; rw [hst]; rfl
            rw [hm1] at hv6
            refine tG_cut (zW_mono zTt G dp) (Or.inr ⟨rfl, rfl, _, rfl, mFw_t gw (mFw_q gp566), (by rw [mFq_47 gp566]; exact hT1), ?_, rfl⟩)
            cases hy : mSt T n tst (0, mSk h1, ms h1) with
            | inl e =>
              have op566 : mOut (mSt T n tst (0, mSk h1, ms h1)) hp566 := op566
              rw [hy] at op566
              exact Or.inr ⟨e, op566.1, op566.2, mRe_t hv6 (mRe_f hy)⟩
            | inr x2 =>
              have op566 : mOut (mSt T n tst (0, mSk h1, ms h1)) hp566 := op566
              rw [hy] at op566
              obtain ⟨o1, o2, o3⟩ := op566
              have hdp := mSt_dp hv3 (by decide) hy
              have o4 := mRe_t hv6 (mRe_s hy mRe_0)
              rw [← o3] at hdp o4
              exact Or.inl ⟨o1, o2, hdp.1, hdp.2, o4⟩
          · obtain rfl : t9 = 75 := by rw [q564] at q564c; exact Option.some.inj (q564c.symm.trans rfl)
            try dsimp only [tvI_i, tvJ_j, tvR_r] at q564
            refine tw_aload rfl rfl ?_
            obtain ⟨hv1, hv2, hv3, hv4, hv6⟩ := hv.resolve_right (fun z => by obtain ⟨e, z, -⟩ := z; exact mFt_n z q563)
            have hst : tvI (tF h1 111 46) = 1 := by
              refine Int32.toInt_inj.mp ?_
              show (tvI (tF h1 111 46)).toInt = 1
              have a4 : stN (tvI (tF h1 111 46)) ≤ 4 := hv4
              unfold stN at a4
              have a6 : ¬ (tvI (tF h1 111 46)).toInt < 0 := fun z => by rw [if_pos z] at a4; omega
              rw [if_neg a6] at a4
              have c29 : (2 : Int32).toInt = 2 := rfl
              have a5 : (tvI (tF h1 111 46)).toInt ≠ 4 := fun z => q562 (Int32.toInt_inj.mp z)
              have z0 := q564
              try dsimp only [tvI_i] at z0
              omega
            refine tw_virt0 rfl (g_value hG hX gw.1 hv1 ((mFw_T gw).trans hT) ((mFw_n gw).trans hN) hv2 (Nat.le_trans hv3 (by decide)) hst) (fun wp567 hp567 p567 => ?_)
            obtain ⟨rfl, gp567, op567⟩ := p567
            refine tw_goto rfl ?_
            have hm1 : mst h1 = (1, mSk h1, ms h1) := by unfold mst; rw [hst]; rfl
            rw [hm1] at hv6
            refine tG_cut (zW_mono zTt G dp) (Or.inr ⟨rfl, rfl, _, rfl, mFw_t gw (mFw_q gp567), (by rw [mFq_47 gp567]; exact hT1), ?_, rfl⟩)
            cases hy : mSt T n tst (1, mSk h1, ms h1) with
            | inl e =>
              have op567 : mOut (mSt T n tst (1, mSk h1, ms h1)) hp567 := op567
              rw [hy] at op567
              exact Or.inr ⟨e, op567.1, op567.2, mRe_t hv6 (mRe_f hy)⟩
            | inr x2 =>
              have op567 : mOut (mSt T n tst (1, mSk h1, ms h1)) hp567 := op567
              rw [hy] at op567
              obtain ⟨o1, o2, o3⟩ := op567
              have hdp := mSt_dp hv3 (by decide) hy
              have o4 := mRe_t hv6 (mRe_s hy mRe_0)
              rw [← o3] at hdp o4
              exact Or.inl ⟨o1, o2, hdp.1, hdp.2, o4⟩
          · obtain rfl : t9 = 82 := by rw [q564] at q564c; exact Option.some.inj (q564c.symm.trans rfl)
            try dsimp only [tvI_i, tvJ_j, tvR_r] at q564
            refine tw_aload rfl rfl ?_
            obtain ⟨hv1, hv2, hv3, hv4, hv6⟩ := hv.resolve_right (fun z => by obtain ⟨e, z, -⟩ := z; exact mFt_n z q563)
            have hst : tvI (tF h1 111 46) = 2 := by
              refine Int32.toInt_inj.mp ?_
              show (tvI (tF h1 111 46)).toInt = 2
              have a4 : stN (tvI (tF h1 111 46)) ≤ 4 := hv4
              unfold stN at a4
              have a6 : ¬ (tvI (tF h1 111 46)).toInt < 0 := fun z => by rw [if_pos z] at a4; omega
              rw [if_neg a6] at a4
              have c29 : (2 : Int32).toInt = 2 := rfl
              have a5 : (tvI (tF h1 111 46)).toInt ≠ 4 := fun z => q562 (Int32.toInt_inj.mp z)
              have z0 := q564
              try dsimp only [tvI_i] at z0
              omega
            refine tw_virt0 rfl (g_behindValue hG hX gw.1 hv1 ((mFw_T gw).trans hT) ((mFw_n gw).trans hN) hv2 (Nat.le_trans hv3 (by decide)) (tst := tst) hT1 hst) (fun wp568 hp568 p568 => ?_)
            obtain ⟨rfl, gp568, op568⟩ := p568
            refine tw_goto rfl ?_
            have hm1 : mst h1 = (2, mSk h1, ms h1) := by unfold mst; rw [hst]; rfl
            rw [hm1] at hv6
            refine tG_cut (zW_mono zTt G dp) (Or.inr ⟨rfl, rfl, _, rfl, mFw_t gw (mFw_q gp568), (by rw [mFq_47 gp568]; exact hT1), ?_, rfl⟩)
            cases hy : mSt T n tst (2, mSk h1, ms h1) with
            | inl e =>
              have op568 : mOut (mSt T n tst (2, mSk h1, ms h1)) hp568 := op568
              rw [hy] at op568
              exact Or.inr ⟨e, op568.1, op568.2, mRe_t hv6 (mRe_f hy)⟩
            | inr x2 =>
              have op568 : mOut (mSt T n tst (2, mSk h1, ms h1)) hp568 := op568
              rw [hy] at op568
              obtain ⟨o1, o2, o3⟩ := op568
              have hdp := mSt_dp hv3 (by decide) hy
              have o4 := mRe_t hv6 (mRe_s hy mRe_0)
              rw [← o3] at hdp o4
              exact Or.inl ⟨o1, o2, hdp.1, hdp.2, o4⟩
  · try dsimp only [tvI_i, tvJ_j, tvR_r] at q560
    have q560i := zeqi (Y := 0) (by decide) q560
    refine tw_push rfl ?_
    refine tw_goto rfl ?_
    refine tw_put rfl (fun f569 => ?_)
    refine tG_setm f569 (hw_111_47 f569 ef559.1) (fun hf569 ef569 => ?_)
    try dsimp only [tvI_i] at ef569
    refine tG_loop (zW_mono zTt G dp) (zW_conj zTt G dp) (V := fun pc L st h9 _ _ => pc = 23 ∧ st = [] ∧ ∃ h1, h1 = h9 ∧ mFw h h1 ∧ (¬ tvI (tF h1 111 47) = 0 ↔ tst = true) ∧ ((mP h1 ∧ mD h1 ∧ mDp (mSk h1) ≤ 10 ∧ (mst h1).1 ≤ 4 ∧ mRe T n tst (stN x, [], ms h) (.inr (mst h1))) ∨ ∃ e, mFt h1 e ∧ mZp h1 ∧ mRe T n tst (stN x, [], ms h) (.inl e)) ∧ L = [some (.ref 111), some (.int x)]) ?_ (⟨rfl, rfl, _, rfl, (mRst hx0 hp hd0 ef558 ef559 ef569).1, (by rw [(mRst hx0 hp hd0 ef558 ef559 ef569).2.2.2.2]; exact ⟨fun _ => hts.mp q560, fun _ => by decide⟩), Or.inl ⟨(mRst hx0 hp hd0 ef558 ef559 ef569).2.1, (mRst hx0 hp hd0 ef558 ef559 ef569).2.2.1, (by have z := congrArg (fun q : rMs => q.2.1) (mRst hx0 hp hd0 ef558 ef559 ef569).2.2.2.1; have z : mSk _ = [] := z; rw [z]; exact Nat.zero_le _), (by rw [(mRst hx0 hp hd0 ef558 ef559 ef569).2.2.2.1]; exact hx4), by rw [(mRst hx0 hp hd0 ef558 ef559 ef569).2.2.2.1]; exact mRe_0⟩, rfl⟩)
    rintro _ _ _ _ _ _ ⟨rfl, rfl, h1, rfl, gw, hT1, hv, rfl⟩
    refine tw_aload rfl rfl ?_
    refine tw_getS rfl (hi_111_46 gw.1) ?_
    refine tw_push rfl ?_
    refine tw_ic_eq rfl (fun q570 => ?_) (fun q570 => ?_)
    · try dsimp only [tvI_i, tvJ_j, tvR_r] at q570
      have q570i := zeqi (Y := 4) (by decide) q570
      rcases hv with ⟨hv1, hv2, hv3, hv4, hv6⟩ | ⟨e, hv1, hv2, hv3⟩
      · have hm1 : mst h1 = (4, mSk h1, ms h1) := by unfold mst; rw [q570]; rfl
        rw [hm1] at hv6
        exact tw_vret rfl ⟨rfl, gw, Or.inl ⟨hv1, hv2, hv6⟩⟩
      · exact tw_vret rfl ⟨rfl, gw, Or.inr ⟨e, hv1, hv2, hv3⟩⟩
    · try dsimp only [tvI_i, tvJ_j, tvR_r] at q570
      have q570i := zneq (Y := 4) (by decide) q570
      refine tw_aload rfl rfl ?_
      refine tw_getS rfl (hi_111_29 gw.1) ?_
      refine tw_if_ne rfl (fun q571 => ?_) (fun q571 => ?_)
      · try dsimp only [tvI_i, tvJ_j, tvR_r] at q571
        have q571i := zneq (Y := 0) (by decide) q571
        rcases hv with ⟨hv1, -⟩ | ⟨e, hv1, hv2, hv3⟩
        · exact absurd (mP_0 hv1) q571
        · exact tw_vret rfl ⟨rfl, gw, Or.inr ⟨e, hv1, hv2, hv3⟩⟩
      · try dsimp only [tvI_i, tvJ_j, tvR_r] at q571
        have q571i := zeqi (Y := 0) (by decide) q571
        refine tw_aload rfl rfl ?_
        refine tw_getS rfl (hi_111_46 gw.1) ?_
        refine tw_table rfl (fun q572 => ?_) (fun t9 q572a q572b q572c => ?_)
        · try dsimp only [tvI_i, tvJ_j, tvR_r] at q572
          refine tw_aload rfl rfl ?_
          obtain ⟨hv1, hv2, hv3, hv4, hv6⟩ := hv.resolve_right (fun z => by obtain ⟨e, z, -⟩ := z; exact mFt_n z q571)
          have hst : tvI (tF h1 111 46) = 3 := by
            refine Int32.toInt_inj.mp ?_
            show (tvI (tF h1 111 46)).toInt = 3
            have a4 : stN (tvI (tF h1 111 46)) ≤ 4 := hv4
            unfold stN at a4
            have a6 : ¬ (tvI (tF h1 111 46)).toInt < 0 := fun z => by rw [if_pos z] at a4; omega
            rw [if_neg a6] at a4
            have c29 : (2 : Int32).toInt = 2 := rfl
            have a5 : (tvI (tF h1 111 46)).toInt ≠ 4 := fun z => q570 (Int32.toInt_inj.mp z)
            have z0 := q572
            try dsimp only [tvI_i] at z0
            omega
          refine tw_virt0 rfl (g_behindFact hG hX gw.1 hv1 ((mFw_T gw).trans hT) ((mFw_n gw).trans hN) hv2 (Nat.le_trans hv3 (by decide)) hst) (fun wp573 hp573 p573 => ?_)
          obtain ⟨rfl, gp573, op573⟩ := p573
          refine tw_goto rfl ?_
          have hm1 : mst h1 = (3, mSk h1, ms h1) := by unfold mst; rw [hst]; rfl
          rw [hm1] at hv6
          refine tG_cut (zW_mono zTt G dp) (Or.inr ⟨rfl, rfl, _, rfl, mFw_t gw (mFw_q gp573), (by rw [mFq_47 gp573]; exact hT1), ?_, rfl⟩)
          cases hy : mSt T n tst (3, mSk h1, ms h1) with
          | inl e =>
            have op573 : mOut (mSt T n tst (3, mSk h1, ms h1)) hp573 := op573
            rw [hy] at op573
            exact Or.inr ⟨e, op573.1, op573.2, mRe_t hv6 (mRe_f hy)⟩
          | inr x2 =>
            have op573 : mOut (mSt T n tst (3, mSk h1, ms h1)) hp573 := op573
            rw [hy] at op573
            obtain ⟨o1, o2, o3⟩ := op573
            have hdp := mSt_dp hv3 (by decide) hy
            have o4 := mRe_t hv6 (mRe_s hy mRe_0)
            rw [← o3] at hdp o4
            exact Or.inl ⟨o1, o2, hdp.1, hdp.2, o4⟩
        · have q572d : (tvI (.int (tvI (tF h1 111 46)))).toInt = 0 ∨ (tvI (.int (tvI (tF h1 111 46)))).toInt = 1 ∨ (tvI (.int (tvI (tF h1 111 46)))).toInt = 2 := by omega
          rcases q572d with q572 | q572 | q572
          · obtain rfl : t9 = 68 := by rw [q572] at q572c; exact Option.some.inj (q572c.symm.trans rfl)
            try dsimp only [tvI_i, tvJ_j, tvR_r] at q572
            refine tw_aload rfl rfl ?_
            obtain ⟨hv1, hv2, hv3, hv4, hv6⟩ := hv.resolve_right (fun z => by obtain ⟨e, z, -⟩ := z; exact mFt_n z q571)
            have hst : tvI (tF h1 111 46) = 0 := by
              refine Int32.toInt_inj.mp ?_
              show (tvI (tF h1 111 46)).toInt = 0
              have a4 : stN (tvI (tF h1 111 46)) ≤ 4 := hv4
              unfold stN at a4
              have a6 : ¬ (tvI (tF h1 111 46)).toInt < 0 := fun z => by rw [if_pos z] at a4; omega
              rw [if_neg a6] at a4
              have c29 : (2 : Int32).toInt = 2 := rfl
              have a5 : (tvI (tF h1 111 46)).toInt ≠ 4 := fun z => q570 (Int32.toInt_inj.mp z)
              have z0 := q572
              try dsimp only [tvI_i] at z0
              omega
            refine tw_virt0 rfl (g_beginsFact hG hX gw.1 hv1 ((mFw_T gw).trans hT) ((mFw_n gw).trans hN) hv2 (Nat.le_trans hv3 (by decide)) hst) (fun wp574 hp574 p574 => ?_)
            obtain ⟨rfl, gp574, op574⟩ := p574
            refine tw_goto rfl ?_
            have hm1 : mst h1 = (0, mSk h1, ms h1) := by unfold mst; rw [hst]; rfl
            rw [hm1] at hv6
            refine tG_cut (zW_mono zTt G dp) (Or.inr ⟨rfl, rfl, _, rfl, mFw_t gw (mFw_q gp574), (by rw [mFq_47 gp574]; exact hT1), ?_, rfl⟩)
            cases hy : mSt T n tst (0, mSk h1, ms h1) with
            | inl e =>
              have op574 : mOut (mSt T n tst (0, mSk h1, ms h1)) hp574 := op574
              rw [hy] at op574
              exact Or.inr ⟨e, op574.1, op574.2, mRe_t hv6 (mRe_f hy)⟩
            | inr x2 =>
              have op574 : mOut (mSt T n tst (0, mSk h1, ms h1)) hp574 := op574
              rw [hy] at op574
              obtain ⟨o1, o2, o3⟩ := op574
              have hdp := mSt_dp hv3 (by decide) hy
              have o4 := mRe_t hv6 (mRe_s hy mRe_0)
              rw [← o3] at hdp o4
              exact Or.inl ⟨o1, o2, hdp.1, hdp.2, o4⟩
          · obtain rfl : t9 = 75 := by rw [q572] at q572c; exact Option.some.inj (q572c.symm.trans rfl)
            try dsimp only [tvI_i, tvJ_j, tvR_r] at q572
            refine tw_aload rfl rfl ?_
            obtain ⟨hv1, hv2, hv3, hv4, hv6⟩ := hv.resolve_right (fun z => by obtain ⟨e, z, -⟩ := z; exact mFt_n z q571)
            have hst : tvI (tF h1 111 46) = 1 := by
              refine Int32.toInt_inj.mp ?_
              show (tvI (tF h1 111 46)).toInt = 1
              have a4 : stN (tvI (tF h1 111 46)) ≤ 4 := hv4
              unfold stN at a4
              have a6 : ¬ (tvI (tF h1 111 46)).toInt < 0 := fun z => by rw [if_pos z] at a4; omega
              rw [if_neg a6] at a4
              have c29 : (2 : Int32).toInt = 2 := rfl
              have a5 : (tvI (tF h1 111 46)).toInt ≠ 4 := fun z => q570 (Int32.toInt_inj.mp z)
              have z0 := q572
              try dsimp only [tvI_i] at z0
              omega
            refine tw_virt0 rfl (g_value hG hX gw.1 hv1 ((mFw_T gw).trans hT) ((mFw_n gw).trans hN) hv2 (Nat.le_trans hv3 (by decide)) hst) (fun wp575 hp575 p575 => ?_)
            obtain ⟨rfl, gp575, op575⟩ := p575
            refine tw_goto rfl ?_
            have hm1 : mst h1 = (1, mSk h1, ms h1) := by unfold mst; rw [hst]; rfl
            rw [hm1] at hv6
            refine tG_cut (zW_mono zTt G dp) (Or.inr ⟨rfl, rfl, _, rfl, mFw_t gw (mFw_q gp575), (by rw [mFq_47 gp575]; exact hT1), ?_, rfl⟩)
            cases hy : mSt T n tst (1, mSk h1, ms h1) with
            | inl e =>
              have op575 : mOut (mSt T n tst (1, mSk h1, ms h1)) hp575 := op575
              rw [hy] at op575
              exact Or.inr ⟨e, op575.1, op575.2, mRe_t hv6 (mRe_f hy)⟩
            | inr x2 =>
              have op575 : mOut (mSt T n tst (1, mSk h1, ms h1)) hp575 := op575
              rw [hy] at op575
              obtain ⟨o1, o2, o3⟩ := op575
              have hdp := mSt_dp hv3 (by decide) hy
              have o4 := mRe_t hv6 (mRe_s hy mRe_0)
              rw [← o3] at hdp o4
              exact Or.inl ⟨o1, o2, hdp.1, hdp.2, o4⟩
          · obtain rfl : t9 = 82 := by rw [q572] at q572c; exact Option.some.inj (q572c.symm.trans rfl)
            try dsimp only [tvI_i, tvJ_j, tvR_r] at q572
            refine tw_aload rfl rfl ?_
            obtain ⟨hv1, hv2, hv3, hv4, hv6⟩ := hv.resolve_right (fun z => by obtain ⟨e, z, -⟩ := z; exact mFt_n z q571)
            have hst : tvI (tF h1 111 46) = 2 := by
              refine Int32.toInt_inj.mp ?_
              show (tvI (tF h1 111 46)).toInt = 2
              have a4 : stN (tvI (tF h1 111 46)) ≤ 4 := hv4
              unfold stN at a4
              have a6 : ¬ (tvI (tF h1 111 46)).toInt < 0 := fun z => by rw [if_pos z] at a4; omega
              rw [if_neg a6] at a4
              have c29 : (2 : Int32).toInt = 2 := rfl
              have a5 : (tvI (tF h1 111 46)).toInt ≠ 4 := fun z => q570 (Int32.toInt_inj.mp z)
              have z0 := q572
              try dsimp only [tvI_i] at z0
              omega
            refine tw_virt0 rfl (g_behindValue hG hX gw.1 hv1 ((mFw_T gw).trans hT) ((mFw_n gw).trans hN) hv2 (Nat.le_trans hv3 (by decide)) (tst := tst) hT1 hst) (fun wp576 hp576 p576 => ?_)
            obtain ⟨rfl, gp576, op576⟩ := p576
            refine tw_goto rfl ?_
            have hm1 : mst h1 = (2, mSk h1, ms h1) := by unfold mst; rw [hst]; rfl
            rw [hm1] at hv6
            refine tG_cut (zW_mono zTt G dp) (Or.inr ⟨rfl, rfl, _, rfl, mFw_t gw (mFw_q gp576), (by rw [mFq_47 gp576]; exact hT1), ?_, rfl⟩)
            cases hy : mSt T n tst (2, mSk h1, ms h1) with
            | inl e =>
              have op576 : mOut (mSt T n tst (2, mSk h1, ms h1)) hp576 := op576
              rw [hy] at op576
              exact Or.inr ⟨e, op576.1, op576.2, mRe_t hv6 (mRe_f hy)⟩
            | inr x2 =>
              have op576 : mOut (mSt T n tst (2, mSk h1, ms h1)) hp576 := op576
              rw [hy] at op576
              obtain ⟨o1, o2, o3⟩ := op576
              have hdp := mSt_dp hv3 (by decide) hy
              have o4 := mRe_t hv6 (mRe_s hy mRe_0)
              rw [← o3] at hdp o4
              exact Or.inl ⟨o1, o2, hdp.1, hdp.2, o4⟩
/-! the model's clause, held against what the class found -/
section R8
variable {T : Nat → Int32} {n c k : Nat} {s s0 s1 s2 s9 : rS} {r : Nat ⊕ (rS × rCt)} {e th f0 : Nat}
theorem rM_bb {M p : Nat} : rM T n M (rB T n p) = rM T n M p := by
  unfold rM
  rw [rB_2]
theorem rCl_0 (h : rCl T n c s r) (hk : ∀ k, 12 ≤ k → k ≤ 15 → ¬ rW T n (rB T n s.1) (rWd k) = true) : r = .inl (1 + 8 * rB T n s.1 + 0) := by
  rcases h with ⟨_, h⟩ | ⟨j, h1, h2, h3, _⟩
  · exact h
  · exact absurd h3 (hk j h1 h2)
theorem rCl_w (h : rCl T n c s r) (h1 : 12 ≤ k) (h2 : k ≤ 15) (hw : rW T n (rB T n s.1) (rWd k) = true) : (c = 12 ∧ r = .inl (1 + 8 * rB T n s.1 + 4)) ∨ (c ≠ 12 ∧ rCl1 T n k (rA (rE T n (rB T n s.1)) s) r) := by
  rcases h with ⟨h, _⟩ | ⟨j, j1, j2, j3, h⟩
  · exact absurd hw (h k h1 h2)
  · obtain rfl := rW_ij (by omega) (by omega) j3 hw
    exact h
theorem rCl_cc (h : rCl T n c s r) (h1 : 12 ≤ k) (h2 : k ≤ 15) (hw : rW T n (rB T n s.1) (rWd k) = true) (hc : c = 12) : r = .inl (1 + 8 * rB T n s.1 + 4) := by
  rcases rCl_w h h1 h2 hw with ⟨_, z⟩ | ⟨z, _⟩
  · exact z
  · exact absurd hc z
theorem rCl_g (h : rCl T n c s r) (h1 : 12 ≤ k) (h2 : k ≤ 15) (hw : rW T n (rB T n s.1) (rWd k) = true) (hc : c ≠ 12) : rCl1 T n k (rA (rE T n (rB T n s.1)) s) r := by
  rcases rCl_w h h1 h2 hw with ⟨z, _⟩ | ⟨_, z⟩
  · exact absurd z hc
  · exact z
theorem rCl1_e (h : rCl1 T n k s0 r) (hk : k = 12) (hm : rM T n 2 s0.1 = .inl e) : r = .inl e := by
  rcases h with ⟨_, ⟨e2, h2, h3⟩ | ⟨q, h2, _⟩⟩ | ⟨z, _⟩
  · rw [hm] at h2; cases h2; exact h3
  · rw [hm] at h2; cases h2
  · exact absurd hk z
theorem rCl1_q {q : Nat × Nat} (h : rCl1 T n k s0 r) (hk : k = 12) (hm : rM T n 2 s0.1 = .inr q) : rCl2 T n k q.2 (rA q.1 s0) r := by
  rcases h with ⟨_, ⟨e2, h2, h3⟩ | ⟨q2, h2, h3⟩⟩ | ⟨z, _⟩
  · rw [hm] at h2; cases h2
  · rw [hm] at h2; cases h2; exact h3
  · exact absurd hk z
theorem rCl1_n (h : rCl1 T n k s0 r) (hk : k ≠ 12) : rCl2 T n k k s0 r := by
  rcases h with ⟨z, _⟩ | ⟨_, h⟩
  · exact absurd z hk
  · exact h
theorem rCl2_15 (h : rCl2 T n k th s1 r) (hk : k = 15) : rCl3 T n k th s1.2.2.length s1 r := by
  rcases h with ⟨_, h⟩ | ⟨z, _⟩
  · exact h
  · exact absurd hk z
theorem pE_mS {r : Nat ⊕ rS} {y : rMo} (h : pE T n 3 0 s r) (m : mRe T n false (1, [], s) y) (hy : mHt y) : y = mEnd (r.map id (fun z => rA (rB T n z.1) z)) := by
  obtain ⟨N, hN⟩ := h
  refine mRe_u m (mSum (hN N (Nat.le_refl _))) hy ?_
  cases r with
  | inl e => exact trivial
  | inr s2 => exact Nat.le_refl 4
theorem pE_mT {r : Nat ⊕ rS} {y : rMo} (h : pE T n 9 0 s r) (m : mRe T n true (0, [], s) y) (hy : mHt y) : y = mEnd (r.map id (fun z => rA (rB T n z.1) z)) := by
  obtain ⟨N, hN⟩ := h
  refine mRe_u m (mTst (hN N (Nat.le_refl _))) hy ?_
  cases r with
  | inl e => exact trivial
  | inr s2 => exact Nat.le_refl 4
theorem rCl2_e (h : rCl2 T n k th s1 r) (hk : k ≠ 15) (hm : mRe T n false (1, [], s1) (.inl e)) : r = .inl e := by
  rcases h with ⟨z, _⟩ | ⟨_, ⟨e2, h2, h3⟩ | ⟨s2, h2, _⟩⟩
  · exact absurd z hk
  · have z := pE_mS h2 hm trivial
    cases z
    exact h3
  · have z := pE_mS h2 hm trivial
    cases z
theorem rCl2_s {S : List Nat} (h : rCl2 T n k th s1 r) (hk : k ≠ 15) (hm : mRe T n false (1, [], s1) (.inr (4, S, s9))) : S = [] ∧ ∃ s2, s9 = rA (rB T n s2.1) s2 ∧ rCl3 T n k th s1.2.2.length s2 r := by
  rcases h with ⟨z, _⟩ | ⟨_, ⟨e2, h2, _⟩ | ⟨s2, h2, h3⟩⟩
  · exact absurd z hk
  · have z := pE_mS h2 hm (Nat.le_refl 4)
    cases z
  · have z := pE_mS h2 hm (Nat.le_refl 4)
    have z : (Sum.inr (4, S, s9) : rMo) = .inr (4, [], rA (rB T n s2.1) s2) := z
    cases z
    exact ⟨rfl, s2, rfl, h3⟩
theorem rCl3_e (h : rCl3 T n k th f0 s2 r) (hw : rW T n (rB T n s2.1) (rWd 16) = true) (hm : mRe T n true (0, [], rA (rB T n s2.1 + 2) s2) (.inl e)) : r = .inl e := by
  rcases h with ⟨_, ⟨e2, h2, h3⟩ | ⟨s3, h2, _⟩⟩ | ⟨z, _⟩ | ⟨z, _⟩
  · have z := pE_mT h2 hm trivial
    cases z
    exact h3
  · have z := pE_mT h2 hm trivial
    cases z
  · exact absurd hw z
  · exact absurd hw z
theorem rCl3_s {S : List Nat} (h : rCl3 T n k th f0 s2 r) (hw : rW T n (rB T n s2.1) (rWd 16) = true) (hm : mRe T n true (0, [], rA (rB T n s2.1 + 2) s2) (.inr (4, S, s9))) : S = [] ∧ ∃ s3, s9 = rA (rB T n s3.1) s3 ∧ r = .inr (s3, th, f0, s2.2.2.length, s3.2.2.length) := by
  rcases h with ⟨_, ⟨e2, h2, _⟩ | ⟨s3, h2, h3⟩⟩ | ⟨z, _⟩ | ⟨z, _⟩
  · have z := pE_mT h2 hm (Nat.le_refl 4)
    cases z
  · have z := pE_mT h2 hm (Nat.le_refl 4)
    have z : (Sum.inr (4, S, s9) : rMo) = .inr (4, [], rA (rB T n s3.1) s3) := z
    cases z
    exact ⟨rfl, s3, rfl, h3⟩
  · exact absurd hw z
  · exact absurd hw z
theorem rCl3_1 (h : rCl3 T n k th f0 s2 r) (hw : ¬ rW T n (rB T n s2.1) (rWd 16) = true) (hk : k = 15) : r = .inl (1 + 8 * rB T n s2.1 + 0) := by
  rcases h with ⟨z, _⟩ | ⟨_, _, h⟩ | ⟨_, z, _⟩
  · exact absurd z hw
  · exact h
  · exact absurd hk z
theorem rCl3_2 (h : rCl3 T n k th f0 s2 r) (hw : ¬ rW T n (rB T n s2.1) (rWd 16) = true) (hk : k ≠ 15) : r = .inr (rA (rB T n s2.1) s2, th, f0, s2.2.2.length, s2.2.2.length) := by
  rcases h with ⟨z, _⟩ | ⟨_, z, _⟩ | ⟨_, _, h⟩
  · exact absurd z hw
  · exact absurd z hk
  · exact h
end R8
/-! a whole clause's frame: what lies below lo stays -/
noncomputable def mFz (lo : Nat) (h h2 : zH) : Prop := tSh h2 ∧ (∀ p b, ¬ (p = 111 ∧ (mFs b ∨ b = 46 ∨ b = 47)) → tF h2 p b = tF h p b) ∧ (∀ p, p ≠ 133 → p ≠ 134 → p ≠ 142 → (p < 135 ∨ 139 < p) → tA h2 p = tA h p) ∧ tN h2 = tN h ∧ mLo h h2 ∧ ∀ p q, 135 ≤ p → p ≤ 139 → q < lo → tA h2 p q = tA h p q
