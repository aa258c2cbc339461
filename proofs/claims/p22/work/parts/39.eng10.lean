/-! the run, with calls by contract or looked into -/
noncomputable abbrev yFm : Type := zI × Nat × yLs × List yV × yL × yL
noncomputable abbrev zFm : Type := zI × Nat × zL × List Value × Nat × Nat
noncomputable abbrev yCu : Type := Nat × yM × yL × yL × yL
noncomputable def yagl : List yV → yLs
  | [] => []
  | v :: r => match v.1 with
    | 1 => some v :: none :: yagl r
    | _ => some v :: yagl r
noncomputable def ypad (L : yLs) (n : Nat) : yLs := L ++ List.replicate (n - L.length) none
noncomputable def ytkr : Nat → List yV → List yV → Option (List yV × List yV)
  | 0, st, a => some (a, st)
  | b + 1, v :: st, a => ytkr b st (v :: a)
  | _ + 1, [], _ => none
noncomputable def yisc (pc : Nat) : List yCu → Bool
  | [] => false
  | q :: r => bif Nat.beq pc q.1 then true else yisc pc r
noncomputable def ywsub (W : Nat → Nat → Bool) : List (Nat × Nat) → Bool
  | [] => true
  | (t, f) :: r => bif W t f then ywsub W r else false
/-- fields that a picture asks for and that aren't known yet: loaded -/
noncomputable def yprl (TG : List Nat) (TT : List yC) : yH → yW → (yW → Bool) → Bool
  | [], w, K => K w
  | (p, f, _) :: r, w, K => match yhg w.2.2.2.1 p f with
    | some _ => yprl TG TT r w K
    | none => (match yix TG p with
      | some t => (match yix TT t with
        | some (.inl (_, vts)) => (match yix vts f with
          | some vt => yld w vt fun v w => yprl TG TT r (ytk w p f v) K
          | none => false)
        | _ => false)
      | none => false)
theorem yprl_ok {tx : yTx} {τ : List Nat} {h : zH} {TG : List Nat} {TT : List yC} (hh : yHo TT τ h) (hp : yPre TG τ) : ∀ {l : yH} {w : yW} {ρ : yR} {K : yW → Bool}, yprl TG TT l w K = true → yWo tx w ρ τ h → ∃ (w' : yW) (ρ' : yR), K w' = true ∧ ySt w.1 ρ w'.1 ρ' ∧ yWo tx w' ρ' τ h
  | [], w, ρ, K, q, g => ⟨w, ρ, q, ySt.rf _ _, g⟩
  | (p, f, _) :: r, w, ρ, K, q, g => by
    unfold yprl at q
    split at q
    · exact yprl_ok hh hp q g
    · split at q
      · rename_i t ht
        split at q
        · rename_i cls vts hT
          split at q
          · rename_i vt hvt
            rw [yix_eq] at ht hT hvt
            obtain ⟨ct, c, b1, b2, b3⟩ := hh.2 _ _ (hp _ _ ht)
            rw [hT] at b1
            cases b1
            obtain ⟨fs, rfl, c2, c3⟩ := b3
            obtain ⟨u, u1, u2⟩ := c3 _ _ hvt
            obtain ⟨w1, ρ1, v1, q1, s1, g1, v2, -⟩ := yld_ok q g u2
            obtain ⟨e1, e2⟩ := ytk_ok (p := p) (f := f) (v := v1) g1 ⟨cls, fs, u, b2, u1, v2⟩
            obtain ⟨w2, ρ2, q2, s2, g2⟩ := yprl_ok hh hp q1 e2
            rw [e1] at s2
            exact ⟨w2, ρ2, q2, s1.tr s2, g2⟩
          · cases q
        · cases q
      · cases q
/-- a known sum so many times -/
noncomputable def ycf (i : Nat) : List (Nat × Int) → Int
  | [] => 0
  | (j, c) :: r => bif Nat.beq i j then c else ycf i r
noncomputable def yrat (g : List (Nat × Int)) : List (Nat × Int) → Int
  | [] => 0
  | (i, c) :: r => bif ig0 (Int.mul (ycf i g) c) then Int.tdiv (ycf i g) c else yrat g r
noncomputable def yanyS (E : yE) (g : yL) : List yL → Bool
  | [] => false
  | f :: r => fI (yrat g.2 f.2) fun m => bif ig0 m && ynp (yub E (ysub g (yscl m f))) then true else yanyS E g r
theorem yanyS_ok {ρ : yR} {E : yE} (hE : yEo ρ E) {g : yL} : ∀ {F : List yL}, (∀ f ∈ F, yev ρ f ≤ 0) → yanyS E g F = true → yev ρ g ≤ 0
  | [], _, h => by cases h
  | f :: r, hF, h => by
    unfold yanyS at h
    rw [fI_eq] at h
    cases hq : (ig0 (yrat g.2 f.2) && ynp (yub E (ysub g (yscl (yrat g.2 f.2) f)))) with
    | true =>
      rw [Bool.and_eq_true] at hq
      have h0 := (ig0_iff _).mp hq.1
      have h1 := ynp_ok hE hq.2
      rw [yev_sub, yev_scl] at h1
      have h2 := Int.mul_nonpos_of_nonneg_of_nonpos (Int.le_of_lt h0) (hF f List.mem_cons_self)
      omega
    | false =>
      rw [hq, cond_false] at h
      exact yanyS_ok hE (fun f hf => hF f (List.mem_cons_of_mem _ hf)) h
section YX
variable (tt : zT) (P : List zI) (TG : List Nat) (TT : List yC) (TX : List Nat) (Gd : yGS) (Wr Xf : Nat → Nat → Bool) (CT : List (List yCt)) (lev : yL) (posts : List yM) (cuts : List yCu) (m : Nat) (rk : Option yL)
noncomputable def yrkb (w : yW) (r2 : yL) (rk : Option yL) : Bool := match rk with
  | none => true
  | some r0 => fL (yadd (ycon 1) (ysub r2 r0)) fun g => bif yle w.2.1 w.2.2.1 g then true else yanyS w.2.1 g w.2.2.1
theorem yrkb_ok {tx : yTx} {w : yW} {ρ : yR} {τ : List Nat} {h : zH} {r2 r0 : yL} (g : yWo tx w ρ τ h) (q : yrkb w r2 (some r0) = true) : yev ρ (yadd (ycon 1) (ysub r2 r0)) ≤ 0 := by
  unfold yrkb at q
  dsimp only at q
  rw [fL_eq] at q
  cases hq : yle w.2.1 w.2.2.1 (yadd (ycon 1) (ysub r2 r0)) with
  | true => exact g.le hq
  | false =>
    rw [hq, cond_false] at q
    exact yanyS_ok g.1.eo g.2.1.le q
noncomputable def ycK (w : yW) (c n r c' n' : yL) (rk : Option yL) (θ : List yL) : Bool := match ysb θ r, ysb θ c', ysb θ n' with
  | some r2, some c2, some n2 => yle w.2.1 w.2.2.1 (yneg r2) && (yrkb w r2 rk && (yle w.2.1 w.2.2.1 (ysub c c2) && yle w.2.1 w.2.2.1 (ysub n n2)))
  | _, _, _ => false
noncomputable def ycut (L : yLs) (st : List yV) (w : yW) (c n : yL) (pc : Nat) : List yCu → Bool
  | [] => false
  | (pc', M, r, c', n') :: rest => bif Nat.beq pc pc' then (bif yprl TG TT M.2.2.2.2.2.1 w (fun w => ymt TG (yvars 0 m) M L st w (ycK w c n r c' n' rk)) then true else ycut L st w c n pc rest) else ycut L st w c n pc rest
noncomputable def ypst (w : yW) (θ : List yL) (W : List (Nat × Nat)) (K : List yV → yW → Bool) : List yM → Bool
  | [] => true
  | Q :: r => yapp TG Gd.2.1 θ W Q w K && ypst w θ W K r
noncomputable def yend (L : yLs) (st : List yV) (w : yW) : List yM → Bool
  | [] => false
  | Q :: r => bif yprl TG TT Q.2.2.2.2.2.1 w (fun w => ymt TG (yvars 0 m) Q L st w (fun _ => true)) then true else yend L st w r
noncomputable def yctK (go : yFm → List yFm → yW → Bool) (info : zI) (L : yLs) (c2 n2 : yL) (rs : List yFm) (w : yW) (rest : List yV) (nx : Nat) (W : List (Nat × Nat)) (lv : yL) (ps : List yM) (θ : List yL) : Bool := match ysb θ lv with
  | none => false
  | some l => yle w.2.1 w.2.2.1 (ysub (yadd l (Int.ofNat (rs.length + 1), [])) lev) && (ywsub Wr W && ypst TG Gd w θ W (fun s w => go (info, nx, L, s ++ rest, c2, n2) rs w) ps)
noncomputable def ycta (go : yFm → List yFm → yW → Bool) (info : zI) (L : yLs) (c2 n2 : yL) (rs : List yFm) (w : yW) (asv rest : List yV) (nx : Nat) : List yCt → Bool
  | [] => false
  | (pre, W, lv, ps) :: r => bif yprl TG TT pre.2.2.2.2.2.1 w (fun w => ymt TG [] pre (yagl asv) [] w (yctK TG Gd Wr lev go info L c2 n2 rs w rest nx W lv ps)) then true else ycta go info L c2 n2 rs w asv rest nx r
noncomputable def ycl (go : yFm → List yFm → yW → Bool) (info : zI) (L : yLs) (c n : yL) (rs : List yFm) (w : yW) (j : Nat) (asv rest : List yV) (nx : Nat) : Bool := match yix P j with
  | none => false
  | some (cd, nL, rt, mc, ms) => bif Nat.ble (yctg rest) 8 && (yle w.2.1 w.2.2.1 (yadd c (Int.sub (Int.ofNat mc) (Int.ofNat info.2.2.2.1), [])) && (yle w.2.1 w.2.2.1 (yadd n (Int.sub (Int.ofNat ms) (Int.ofNat info.2.2.2.2), [])) && Nat.ble (yagl asv).length nL)) then
      fL (yadd c (Int.ofNat mc, [])) fun c2 => fL (yadd n (Int.ofNat ms, [])) fun n2 => (match yix CT j with
        | some (ct :: cts) => ycta TG TT Gd Wr lev go info L c2 n2 rs w asv rest nx (ct :: cts)
        | _ => yle w.2.1 w.2.2.1 (ysub (Int.ofNat (rs.length + 2), []) lev) && fLs (ypad (yagl asv) nL) fun L2 => go ((cd, nL, rt, mc, ms), 0, L2, [], (0, []), (0, [])) ((info, nx, L, rest, c2, n2) :: rs) w)
    else false
noncomputable def yrt (rt : Option FieldType) (w : yW) (v : yV) : Bool := match v.1, rt with
  | 0, some .int => true
  | 0, some .boolean => yin w 0 1 v.2
  | 1, some .long => true
  | 2, some t => fits t .null
  | 3, some t => fits t .null
  | _, _ => false
noncomputable def yhd (sk : Bool) (rs : List yFm) (pc : Nat) (cuts : List yCu) : Bool := match sk, rs with
  | false, [] => yisc pc cuts
  | _, _ => false
noncomputable def yret (go : yFm → List yFm → yW → Bool) (sv : List yV) (rs : List yFm) (w : yW) : Bool := match rs with
  | [] => yend TG TT m [] sv w posts
  | (i2, pc2, L2, st2, c2, n2) :: rs2 => go (i2, pc2, L2, sv ++ st2, c2, n2) rs2 w
noncomputable def yX : Nat → yFm → List yFm → yW → Bool → Bool
  | 0, _, _, _, _ => false
  | f + 1, (info, pc, L, st, c, n), rs, w, sk => bif yhd sk rs pc cuts then ycut TG TT m rk L st w c n pc cuts else (match yix info.1 pc with
    | some (some (ins, nx, a, b, d, v)) => (match ins with
      | .invokevirtual _ => (match ytkr b st [] with
        | some (as, (2, r) :: rest) => (match yrf TG w.2.1 r with
          | some t => (match yix TT t with
            | some (.inl (cls, _)) => bif Nat.beq cls d then ycl P TG TT Gd Wr CT lev (fun fr rs w => yX f fr rs w false) info L c n rs w a ((2, r) :: as) rest nx else false
            | _ => false)
          | none => false)
        | _ => false)
      | .invokespecial _ => (match ytkr b st [] with
        | some (as, (2, r) :: rest) => bif yle w.2.1 w.2.2.1 (yneg r) then ycl P TG TT Gd Wr CT lev (fun fr rs w => yX f fr rs w false) info L c n rs w a ((2, r) :: as) rest nx else false
        | _ => false)
      | .invokestatic _ => (match ytkr b st [] with
        | some (as, rest) => ycl P TG TT Gd Wr CT lev (fun fr rs w => yX f fr rs w false) info L c n rs w a as rest nx
        | none => false)
      | .lcmp => (match st, yix info.1 nx with
        | (1, y) :: (1, x) :: s, some (some (.ifCond o _, nx2, a2, _, _, _)) => ycnd o w (ysub x y) (fun w => yX f (info, a2, L, s, c, n) rs w false) (fun w => yX f (info, nx2, L, s, c, n) rs w false)
        | _, _ => false)
      | .ireturn => (match st with
        | [(0, x)] => yrt info.2.2.1 w (0, x) && yret TG TT posts m (fun fr rs w => yX f fr rs w false) [(0, x)] rs w
        | _ => false)
      | .lreturn => (match st with
        | [(1, x)] => yrt info.2.2.1 w (1, x) && yret TG TT posts m (fun fr rs w => yX f fr rs w false) [(1, x)] rs w
        | _ => false)
      | .areturn => (match st with
        | [(2, x)] => yrt info.2.2.1 w (2, x) && yret TG TT posts m (fun fr rs w => yX f fr rs w false) [(2, x)] rs w
        | [(3, x)] => yrt info.2.2.1 w (3, x) && yret TG TT posts m (fun fr rs w => yX f fr rs w false) [(3, x)] rs w
        | _ => false)
      | .return_ => (match st with
        | [] => (match info.2.2.1 with
          | none => yret TG TT posts m (fun fr rs w => yX f fr rs w false) [] rs w
          | some _ => false)
        | _ => false)
      | _ => bif yI1 (ins, nx, a, b, d, v) L st w (fun pc L st w => yX f (info, pc, L, st, c, n) rs w false) then true else yI2 tt TG TT TX Gd Wr Xf (ins, nx, a, b, d, v) L st w (fun pc L st w => yX f (info, pc, L, st, c, n) rs w false))
    | _ => false)
end YX
/-- what holds behind a run -/
noncomputable def yPo (tx : yTx) (TG : List Nat) (TT : List yC) (I : zH → Prop) (W : Nat → Nat → Bool) (m : Nat) (posts : List yM) (ρ0 : yR) (τ0 : List Nat) (h0 : zH) : zQ := fun w h2 => ∃ Q ∈ posts, ∃ (ρ' : yR) (τ' : List Nat), (∀ i, i < m → ρ' i = ρ0 i) ∧ yHp TG TT I W τ0 h0 τ' h2 ∧ yWo tx (yMw (m + Q.1.length) Q) ρ' τ' h2 ∧ ySo ρ' (m + Q.1.length) Q.2.2.2.2.1 w.toList
/-- what holds at a call -/
noncomputable def yPr (tx : yTx) (TG : List Nat) (TT : List yC) (I : zH → Prop) (pre : yM) (ρ : yR) (τ : List Nat) (h : zH) (as : List Value) : Prop := yWo tx (yMw pre.1.length pre) ρ τ h ∧ yHo TT τ h ∧ yPre TG τ ∧ I h ∧ yLo ρ pre.1.length pre.2.2.2.1 (zargs as)
/-- a contract holds, at a level -/
noncomputable def yVl (tt : zT) (G : zG) (tx : yTx) (TG : List Nat) (TT : List yC) (I : zH → Prop) (j : Nat) (ct : yCt) (N : Int) : Prop := ∀ (ρ : yR) (τ : List Nat) (h : zH) (as : List Value) (d : Nat), yPr tx TG TT I ct.1 ρ τ h as → yev ρ ct.2.2.1 < N → yev ρ ct.2.2.1 ≤ d → zW tt G d j as h (yPo tx TG TT I (ywf ct.2.1) ct.1.1.length ct.2.2.2 ρ τ h)
noncomputable def yKt (tt : zT) (G : zG) (Post : zQ) : Nat → List zFm → zQ
  | _, [] => Post
  | d, (i, pc, L, st, c, n) :: r => fun w h2 => zR tt G i.1 i.2.2.2.1 i.2.2.2.2 i.2.2.1 (zW tt G (d + 1)) (yKt tt G Post (d + 1) r) pc L (w.toList ++ st) h2 c n
noncomputable def yNo (ρ : yR) (k : Nat) (a : yL) (c : Nat) : Prop := ysp k a ∧ (c : Int) = yev ρ a
noncomputable def yRo (ρ : yR) (k : Nat) : List yFm → List zFm → Prop
  | [], [] => True
  | (i, pc, L, st, c, n) :: r, (i', pc', L', st', c', n') :: r' => (i = i' ∧ pc = pc' ∧ yLo ρ k L L' ∧ ySo ρ k st st' ∧ yNo ρ k c c' ∧ yNo ρ k n n') ∧ yRo ρ k r r'
  | [], _ :: _ => False
  | _ :: _, [] => False
noncomputable def ylst : zI → List yFm → zI
  | i, [] => i
  | _, fr :: r => ylst fr.1 r
theorem ySt.no {k k' : Nat} {ρ ρ' : yR} (s : ySt k ρ k' ρ') {a : yL} {c : Nat} (h : yNo ρ k a c) : yNo ρ' k' a c := ⟨s.sp h.1, by rw [s.ev h.1]; exact h.2⟩
theorem ySt.ro {k k' : Nat} {ρ ρ' : yR} (s : ySt k ρ k' ρ') : ∀ {A : List yFm} {B : List zFm}, yRo ρ k A B → yRo ρ' k' A B
  | [], [], _ => trivial
  | (i, pc, L, st, c, n) :: r, (i', pc', L', st', c', n') :: r', h => ⟨⟨h.1.1, h.1.2.1, s.lo h.1.2.2.1, s.so h.1.2.2.2.1, s.no h.1.2.2.2.2.1, s.no h.1.2.2.2.2.2⟩, s.ro h.2⟩
  | [], _ :: _, h => h.elim
  | _ :: _, [], h => h.elim
theorem yRo.len {k : Nat} {ρ : yR} : ∀ {A : List yFm} {B : List zFm}, yRo ρ k A B → A.length = B.length
  | [], [], _ => rfl
  | (i, pc, L, st, c, n) :: r, (i', pc', L', st', c', n') :: r', h => by simp [yRo.len h.2]
  | [], _ :: _, h => h.elim
  | _ :: _, [], h => h.elim
theorem ySo.app {ρ : yR} {k : Nat} : ∀ {a : List yV} {A : List Value} {b : List yV} {B : List Value}, ySo ρ k a A → ySo ρ k b B → ySo ρ k (a ++ b) (A ++ B)
  | [], [], _, _, _, h => h
  | _ :: _, _ :: _, _, _, g, h => ⟨g.1, ySo.app g.2 h⟩
  | [], _ :: _, _, _, g, _ => g.elim
  | _ :: _, [], _, _, g, _ => g.elim
theorem ytkr_ok {ρ : yR} {k : Nat} : ∀ {b : Nat} {st a as rest : List yV} {sc ac : List Value}, ytkr b st a = some (as, rest) → ySo ρ k st sc → ySo ρ k a ac → ySo ρ k as ((sc.take b).reverse ++ ac) ∧ ySo ρ k rest (sc.drop b) ∧ (sc.take b).length = b
  | 0, st, a, as, rest, sc, ac, q, g, h => by
    cases q
    exact ⟨by simpa using h, by simpa using g, rfl⟩
  | b + 1, [], a, as, rest, sc, ac, q, g, h => by cases q
  | b + 1, v :: st, a, as, rest, [], ac, q, g, h => g.elim
  | b + 1, v :: st, a, as, rest, x :: sc, ac, q, g, h => by
    obtain ⟨e1, e2, e3⟩ := ytkr_ok (b := b) (ac := x :: ac) q g.2 ⟨g.1, h⟩
    refine ⟨?_, e2, by simp [e3]⟩
    rw [List.take_succ_cons, List.reverse_cons, List.append_assoc]
    exact e1
theorem yagl_ok {ρ : yR} {k : Nat} : ∀ {a : List yV} {A : List Value}, ySo ρ k a A → yLo ρ k (yagl a) (zargs A)
  | [], [], _ => trivial
  | v :: r, x :: s, g => by
    have hc := g.1.cat
    have ih := yagl_ok g.2
    obtain ⟨kd, av⟩ := v
    unfold zargs
    match kd, hc, g.1 with
    | 1, hc, g1 =>
      rw [show x.category = 2 from hc]
      exact ⟨fun u hu => by cases hu; exact ⟨x, rfl, g1⟩, (fun u hu => by cases hu), ih⟩
    | 0, hc, g1 => rw [show x.category = 1 from hc]; exact ⟨fun u hu => by cases hu; exact ⟨x, rfl, g1⟩, ih⟩
    | kd + 2, hc, g1 => rw [show x.category = 1 from hc]; exact ⟨fun u hu => by cases hu; exact ⟨x, rfl, g1⟩, ih⟩
  | [], _ :: _, g => g.elim
  | _ :: _, [], g => g.elim
theorem yLo.app {ρ : yR} {k : Nat} : ∀ {a : yLs} {A : zL} {b : yLs} {B : zL}, yLo ρ k a A → yLo ρ k b B → yLo ρ k (a ++ b) (A ++ B)
  | [], [], _, _, _, h => h
  | _ :: _, _ :: _, _, _, g, h => ⟨g.1, yLo.app g.2 h⟩
  | [], _ :: _, _, _, g, _ => g.elim
  | _ :: _, [], _, _, g, _ => g.elim
theorem yLo.rep {ρ : yR} {k : Nat} : ∀ n : Nat, yLo ρ k (List.replicate n none) (List.replicate n none)
  | 0 => trivial
  | n + 1 => ⟨(fun u hu => by cases hu), yLo.rep n⟩
theorem ypad_ok {ρ : yR} {k : Nat} {a : yLs} {as : List Value} (h : yLo ρ k a (zargs as)) (n : Nat) : yLo ρ k (ypad a n) (zentry as n) := by
  unfold ypad zentry
  rw [h.len]
  exact h.app (yLo.rep _)
theorem ywsub_ok {W : Nat → Nat → Bool} : ∀ {l : List (Nat × Nat)}, ywsub W l = true → ∀ t f, W t f = false → ywf l t f = false
  | [], _, _, _, _ => rfl
  | (a, b) :: r, q, t, f, h => by
    unfold ywsub at q
    unfold ywf
    cases hb : W a b with
    | false => rw [hb] at q; cases q
    | true =>
      rw [hb, cond_true] at q
      cases hz : (Nat.beq a t && Nat.beq b f) with
      | true =>
        rw [Bool.and_eq_true] at hz
        rw [Nat.eq_of_beq_eq_true hz.1, Nat.eq_of_beq_eq_true hz.2, h] at hb
        cases hb
      | false => rw [cond_false]; exact ywsub_ok q t f h
