/-- what a checked run is worth -/
noncomputable def yIH (tt : zT) (G : zG) (tx : yTx) (TG : List Nat) (TT : List yC) (I : zH → Prop) (Wr : Nat → Nat → Bool) (τ0 : List Nat) (h0 : zH) (k0 : Nat) (ρ0 : yR) (Post : zQ) (dt : Nat) (info0 : zI) (go : yFm → List yFm → yW → Bool) : Prop := ∀ (info : zI) (pc : Nat) (L : yLs) (st : List yV) (c n : yL) (rs : List yFm) (w : yW), go (info, pc, L, st, c, n) rs w = true → ∀ (ρ : yR) (τ : List Nat) (h : zH) (Lc : zL) (sc : List Value) (cN nN : Nat) (rsc : List zFm) (d : Nat), ySt k0 ρ0 w.1 ρ → yWo tx w ρ τ h → yHp TG TT I Wr τ0 h0 τ h → yLo ρ w.1 L Lc → ySo ρ w.1 st sc → yNo ρ w.1 c cN → yNo ρ w.1 n nN → yRo ρ w.1 rs rsc → d + rs.length = dt → ylst info rs = info0 → zR tt G info.1 info.2.2.2.1 info.2.2.2.2 info.2.2.1 (zW tt G d) (yKt tt G Post d rsc) pc Lc sc h cN nN
section YZ
variable {tt : zT} {G : zG} {tx : yTx} {P : List zI} {TG : List Nat} {TT : List yC} {TX : List Nat} {Gd : yGS} {I : zH → Prop} {Wr Xf : Nat → Nat → Bool} {CT : List (List yCt)} {lev : yL} {posts : List yM} {cuts : List yCu} {m : Nat} {rk : Option yL} {τ0 : List Nat} {h0 : zH} {k0 : Nat} {ρ0 : yR} {Post : zQ} {dt : Nat} {info0 : zI}
theorem yNo.add {ρ : yR} {k : Nat} {a : yL} {c : Nat} (h : yNo ρ k a c) (m : Nat) : yNo ρ k (yadd a (Int.ofNat m, [])) (c + m) := by
  refine ⟨ysp_add h.1 (ysp_con _ _), ?_⟩
  rw [yev_add, ← h.2, show yev ρ (Int.ofNat m, []) = (m : Int) from yev_con ρ _]
  omega
set_option maxHeartbeats 4000000 in
theorem ycl_ok {go : yFm → List yFm → yW → Bool} {info : zI} {L : yLs} {c n : yL} {rs : List yFm} {w : yW} {j : Nat} {asv rest : List yV} {nx : Nat} (q : ycl P TG TT Gd Wr CT lev go info L c n rs w j asv rest nx = true) (hgo : yIH tt G tx TG TT I Wr τ0 h0 k0 ρ0 Post dt info0 go) (hGd : yGdo tx TG TT I Gd) (hGP : G.1 = P) (hlev : ysp k0 lev) (hdt : yev ρ0 lev ≤ dt + 1) (hCT : ∀ j cts ct, CT[j]? = some cts → ct ∈ cts → yVl tt G tx TG TT I j ct (yev ρ0 lev))
    {ρ : yR} {τ : List Nat} {h : zH} {Lc : zL} {asc restc : List Value} {cN nN : Nat} {rsc : List zFm} {d : Nat} (hs : ySt k0 ρ0 w.1 ρ) (g : yWo tx w ρ τ h) (hh : yHp TG TT I Wr τ0 h0 τ h) (hL : yLo ρ w.1 L Lc) (hA : ySo ρ w.1 asv asc) (hR : ySo ρ w.1 rest restc) (hc : yNo ρ w.1 c cN) (hn : yNo ρ w.1 n nN) (hrs : yRo ρ w.1 rs rsc) (hd : d + rs.length = dt) (hls : ylst info rs = info0) :
    (restc.map fun v => v.category).sum ≤ 8 ∧ cN + (zbud G j).1 ≤ info.2.2.2.1 ∧ nN + (zbud G j).2 ≤ info.2.2.2.2 ∧ zW tt G d j asc h (fun w h2 => zR tt G info.1 info.2.2.2.1 info.2.2.2.2 info.2.2.1 (zW tt G d) (yKt tt G Post d rsc) nx Lc (w.toList ++ restc) h2 (cN + (zbud G j).1) (nN + (zbud G j).2)) := by
  unfold ycl at q
  split at q
  · cases q
  · rename_i cd nL rt mc ms hj
    rw [yix_eq] at hj
    have hbud : zbud G j = (mc, ms) := by unfold zbud; rw [hGP, hj]
    rw [hbud]
    cases hb : (Nat.ble (yctg rest) 8 && (yle w.2.1 w.2.2.1 (yadd c (Int.sub (Int.ofNat mc) (Int.ofNat info.2.2.2.1), [])) && (yle w.2.1 w.2.2.1 (yadd n (Int.sub (Int.ofNat ms) (Int.ofNat info.2.2.2.2), [])) && Nat.ble (yagl asv).length nL))) with
    | false => rw [hb] at q; cases q
    | true =>
      rw [hb, cond_true, fL_eq, fL_eq] at q
      simp only [Bool.and_eq_true] at hb
      obtain ⟨b1, b2, b3, b4⟩ := hb
      have x1 := Nat.le_of_ble_eq_true b1
      rw [← hR.ctg] at x1
      have x2 := g.le b2
      have x3 := g.le b3
      have x4 := Nat.le_of_ble_eq_true b4
      rw [yev_add, show ∀ z : Int, yev ρ (z, []) = z from fun z => yev_con ρ z, ← hc.2] at x2
      rw [yev_add, show ∀ z : Int, yev ρ (z, []) = z from fun z => yev_con ρ z, ← hn.2] at x3
      have es : ∀ a b : Nat, Int.sub (Int.ofNat a) (Int.ofNat b) = (a : Int) - b := fun _ _ => rfl
      rw [es] at x2 x3
      refine ⟨x1, by show cN + mc ≤ _; omega, by show nN + ms ≤ _; omega, ?_⟩
      have hc2 := hc.add mc
      have hn2 := hn.add ms
      have hlv : yev ρ lev = yev ρ0 lev := hs.ev hlev
      have hAl := yagl_ok hA
      split at q
      · rename_i ct0 cts0 hct
        rw [yix_eq] at hct
        have hin : ∀ ct, ct ∈ ct0 :: cts0 → yVl tt G tx TG TT I j ct (yev ρ0 lev) := fun ct h => hCT j _ ct hct h
        generalize ct0 :: cts0 = cts at q hin
        clear hct
        induction cts with
        | nil => cases q
        | cons ct9 r9 ihc =>
        obtain ⟨pre, W, lv, ps⟩ := ct9
        have hctV := hin _ List.mem_cons_self
        unfold ycta at q
        cases hq9 : yprl TG TT pre.2.2.2.2.2.1 w (fun w => ymt TG [] pre (yagl asv) [] w (yctK TG Gd Wr lev go info L (yadd c (Int.ofNat mc, [])) (yadd n (Int.ofNat ms, [])) rs w rest nx W lv ps)) with
        | false => rw [hq9, cond_false] at q; exact ihc q (fun ct h => hin ct (List.mem_cons_of_mem _ h))
        | true =>
        clear q ihc
        obtain ⟨w9, ρ9, q, s9, g9⟩ := yprl_ok hh.1 hh.2.1 hq9 g
        have hs9 := hs.tr s9
        have hL9 := s9.lo hL
        have hR9 := s9.so hR
        have hrs9 := s9.ro hrs
        have hc9 := s9.no hc2
        have hn9 := s9.no hn2
        have hAl9 := s9.lo hAl
        have hlv9 : yev ρ9 lev = yev ρ0 lev := hs9.ev hlev
        clear g hs hL hR hrs hc2 hn2 hAl hlv hq9 hc hn hA x2 x3 b2 b3 s9
        obtain ⟨θ1, q1, t1, t2, t3, t4, t5⟩ := ymt_ok (sc := []) q g9 hh.2.1 hAl9 trivial (fun _ z => by cases z)
        rw [List.nil_append] at q1 t2 t3 t4 t5
        unfold yctK at q1
        split at q1
        · cases q1
        · rename_i l hl
          simp only [Bool.and_eq_true] at q1
          obtain ⟨c1, c2, c3⟩ := q1
          obtain ⟨l1, l2, l3⟩ := ysb_ok (ρ := ρ9) t2 hl
          have y1 := g9.le c1
          rw [yev_sub, yev_add, show yev ρ9 (Int.ofNat (rs.length + 1), []) = ((rs.length + 1 : Nat) : Int) from yev_con ρ9 _, l1, hlv9] at y1
          have el : pre.1.length = θ1.length := t1.symm
          have hpre : yPr tx TG TT I pre (yrh ρ9 θ1) τ h asc := by
            refine ⟨?_, hh.1, hh.2.1, hh.2.2.1, ?_⟩
            · have := t3; rw [show ([] : List yL).length + pre.1.length = pre.1.length by simp] at this; exact this
            · have := t4; rw [show ([] : List yL).length + pre.1.length = pre.1.length by simp] at this; exact this
          have hW := hctV (yrh ρ9 θ1) τ h asc d hpre (by dsimp only; omega) (by dsimp only; omega)
          refine zW_mono tt G d j asc h _ _ (fun w2 h2 hq => ?_) hW
          obtain ⟨Q, hQ, ρ', τ', p1, p2, p3, p4⟩ := hq
          dsimp only at hQ p1 p2 p3 p4
          have hall : ∀ {l : List yM}, ypst TG Gd w9 θ1 W (fun s w => go (info, nx, L, s ++ rest, yadd c (Int.ofNat mc, []), yadd n (Int.ofNat ms, [])) rs w) l = true → Q ∈ l → yapp TG Gd.2.1 θ1 W Q w9 (fun s w => go (info, nx, L, s ++ rest, yadd c (Int.ofNat mc, []), yadd n (Int.ofNat ms, [])) rs w) = true := by
            intro l
            induction l with
            | nil => intro _ z; cases z
            | cons a r ih =>
              intro z1 z2
              unfold ypst at z1
              rw [Bool.and_eq_true] at z1
              rcases List.mem_cons.mp z2 with rfl | z2
              · exact z1.1
              · exact ih z1.2 z2
          have hq2 := hall c3 hQ
          obtain ⟨u1, u2, u3, u4, u5⟩ := p2
          rw [el] at p1 p3 p4
          obtain ⟨w', ρ'', s, v1, v2, v3, v4⟩ := yapp_ok hGd.2.1 hq2 g9 hh.2.1 hh.1 u5 u4 t2 p1 p3 p4
          refine hgo info nx L (s ++ rest) _ _ rs w' v1 ρ'' τ' h2 Lc (w2.toList ++ restc) _ _ rsc d (hs9.tr v2) v3 ?_ (v2.lo hL9) (v4.app (v2.so hR9)) (v2.no hc9) (v2.no hn9) (v2.ro hrs9) hd hls
          exact ⟨u1, u2, u3, hh.2.2.2.1.tr u4, hh.2.2.2.2.tr hh.2.2.2.1 (u5.mono (ywsub_ok c2))⟩
      · rw [Bool.and_eq_true, fLs_eq] at q
        obtain ⟨q1, q2⟩ := q
        have y1 := g.le q1
        rw [yev_sub, show yev ρ (Int.ofNat (rs.length + 2), []) = ((rs.length + 2 : Nat) : Int) from yev_con ρ _, hlv] at y1
        obtain ⟨d', rfl⟩ : ∃ d', d = d' + 1 := ⟨d - 1, by omega⟩
        unfold zW
        rw [hGP, hj]
        refine ⟨by rw [← hAl.len]; exact x4, ?_⟩
        exact hgo (cd, nL, rt, mc, ms) 0 _ [] _ _ ((info, nx, L, rest, yadd c (Int.ofNat mc, []), yadd n (Int.ofNat ms, [])) :: rs) w q2 ρ τ h _ [] 0 0 ((info, nx, Lc, restc, cN + mc, nN + ms) :: rsc) d' hs g hh (ypad_ok hAl nL) trivial ⟨ysp_con _ _, (yev_con ρ 0).symm⟩ ⟨ysp_con _ _, (yev_con ρ 0).symm⟩ ⟨⟨rfl, rfl, hL, hR, hc2, hn2⟩, hrs⟩ (by rw [List.length_cons]; omega) hls
theorem yvars_th (k n : Nat) (h : n ≤ k) : yths k (yvars 0 n) := by
  intro a ha
  obtain ⟨i, hi⟩ := List.getElem?_of_mem ha
  have hlt : i < n := by
    rcases Nat.lt_or_ge i (yvars 0 n).length with z | z
    · rwa [yvars_len] at z
    · rw [List.getElem?_eq_none z] at hi; cases hi
  rw [yvars_get hlt] at hi
  cases hi
  exact ysp_var (by omega)
theorem yvars_rh {ρ : yR} {n : Nat} {θ : List yL} {i : Nat} (h : i < n) : yrh ρ (yvars 0 n ++ θ) i = ρ i := by
  rw [yrh_at (a := yvar (0 + i)) (by rw [List.getElem?_append_left (by rw [yvars_len]; exact h)]; exact yvars_get h), yev_var, Nat.zero_add]
theorem yend_ok {L : yLs} {st : List yV} {w : yW} {ρ : yR} {τ : List Nat} {h : zH} {Lc : zL} {v : Option Value} (g : yWo tx w ρ τ h) (hh : yHp TG TT I Wr τ0 h0 τ h) (hL : yLo ρ w.1 L Lc) (hS : ySo ρ w.1 st v.toList) (hm : m ≤ w.1) (h0' : ∀ i, i < m → ρ i = ρ0 i) : ∀ {l : List yM}, yend TG TT m L st w l = true → yPo tx TG TT I Wr m l ρ0 τ0 h0 v h
  | [], q => by cases q
  | Q :: r, q => by
    unfold yend at q
    cases hb : yprl TG TT Q.2.2.2.2.2.1 w (fun w => ymt TG (yvars 0 m) Q L st w (fun _ => true)) with
    | true =>
      obtain ⟨w9, ρ9, hb9, s9, g9⟩ := yprl_ok hh.1 hh.2.1 hb g
      obtain ⟨θ1, -, t1, t2, t3, t4, t5⟩ := ymt_ok hb9 g9 hh.2.1 (s9.lo hL) (s9.so hS) (yvars_th _ _ (Nat.le_trans hm s9.1))
      rw [yvars_len] at t3 t4 t5
      exact ⟨Q, List.mem_cons_self, _, τ, fun i hi => (yvars_rh hi).trans ((s9.2 i (Nat.lt_of_lt_of_le hi hm)).trans (h0' i hi)), hh, t3, t5⟩
    | false =>
      rw [hb, cond_false] at q
      obtain ⟨Q', a, b⟩ := yend_ok g hh hL hS hm h0' q
      exact ⟨Q', List.mem_cons_of_mem _ a, b⟩
/-- what is known of the loops' heads -/
noncomputable def yCo2 (tt : zT) (G : zG) (tx : yTx) (TG : List Nat) (TT : List yC) (I : zH → Prop) (Wr : Nat → Nat → Bool) (τ0 : List Nat) (h0 : zH) (m : Nat) (ρ0 : yR) (Post : zQ) (dt : Nat) (info0 : zI) (q : yCu) (B : Int → Prop) : Prop := ∀ (ρ : yR) (τ : List Nat) (h : zH) (Lc : zL) (sc : List Value) (cN nN : Nat), (∀ i, i < m → ρ i = ρ0 i) → yWo tx (yMw (m + q.2.1.1.length) q.2.1) ρ τ h → yHp TG TT I Wr τ0 h0 τ h → yLo ρ (m + q.2.1.1.length) q.2.1.2.2.2.1 Lc → ySo ρ (m + q.2.1.1.length) q.2.1.2.2.2.2.1 sc → yNo ρ (m + q.2.1.1.length) q.2.2.2.1 cN → yNo ρ (m + q.2.1.1.length) q.2.2.2.2 nN → 0 ≤ yev ρ q.2.2.1 → B (yev ρ q.2.2.1) → zR tt G info0.1 info0.2.2.2.1 info0.2.2.2.2 info0.2.2.1 (zW tt G dt) Post q.1 Lc sc h cN nN
theorem ycut_ok {L : yLs} {st : List yV} {w : yW} {c n : yL} {pc : Nat} {ρ : yR} {τ : List Nat} {h : zH} {Lc : zL} {sc : List Value} {cN nN : Nat} (g : yWo tx w ρ τ h) (hh : yHp TG TT I Wr τ0 h0 τ h) (hL : yLo ρ w.1 L Lc) (hS : ySo ρ w.1 st sc) (hc : yNo ρ w.1 c cN) (hn : yNo ρ w.1 n nN) (hm : m ≤ k0) (hs : ySt k0 ρ0 w.1 ρ) (hr : ∀ r0, rk = some r0 → ysp k0 r0) : ∀ {l : List yCu}, ycut TG TT m rk L st w c n pc l = true → (∀ q ∈ l, yCo2 tt G tx TG TT I Wr τ0 h0 m ρ0 Post dt info0 q (fun z => ∀ r0, rk = some r0 → z < yev ρ0 r0)) → zR tt G info0.1 info0.2.2.2.1 info0.2.2.2.2 info0.2.2.1 (zW tt G dt) Post pc Lc sc h cN nN
  | [], q, _ => by cases q
  | (pc', M, r, c', n') :: rest, q, hC => by
    unfold ycut at q
    have ih := fun q : ycut TG TT m rk L st w c n pc rest = true => ycut_ok (pc := pc) g hh hL hS hc hn hm hs hr (l := rest) q (fun z hz => hC z (List.mem_cons_of_mem _ hz))
    cases hb : Nat.beq pc pc' with
    | false => rw [hb, cond_false] at q; exact ih q
    | true =>
      rw [hb, cond_true] at q
      have e := Nat.eq_of_beq_eq_true hb
      subst e
      cases hm2 : yprl TG TT M.2.2.2.2.2.1 w (fun w => ymt TG (yvars 0 m) M L st w (ycK w c n r c' n' rk)) with
      | false => rw [hm2, cond_false] at q; exact ih q
      | true =>
        obtain ⟨w9, ρ9, hm9, s9, g9⟩ := yprl_ok hh.1 hh.2.1 hm2 g
        have hs9 := hs.tr s9
        have hc9 := s9.no hc
        have hn9 := s9.no hn
        obtain ⟨θ1, q1, t1, t2, t3, t4, t5⟩ := ymt_ok hm9 g9 hh.2.1 (s9.lo hL) (s9.so hS) (yvars_th _ _ (Nat.le_trans hm hs9.1))
        rw [yvars_len] at t3 t4 t5
        unfold ycK at q1
        split at q1
        · rename_i r2 c2 n2 hr2 hc2 hn2
          simp only [Bool.and_eq_true] at q1
          obtain ⟨a1, a2, a3, a4⟩ := q1
          obtain ⟨e1, e2, e3⟩ := ysb_ok (ρ := ρ9) t2 hr2
          obtain ⟨f1, f2, f3⟩ := ysb_ok (ρ := ρ9) t2 hc2
          obtain ⟨k1, k2, k3⟩ := ysb_ok (ρ := ρ9) t2 hn2
          have b1 := g9.le a1
          have b3 := g9.le a3
          have b4 := g9.le a4
          rw [yev_neg] at b1
          rw [yev_sub] at b3 b4
          have hcz := hc9.2
          have hnz := hn9.2
          have el : (yvars 0 m ++ θ1).length = m + M.1.length := by rw [List.length_append, yvars_len, t1]
          rw [el] at e3 f3 k3
          refine zR_down (c := (yev ρ9 c2).toNat) (n := (yev ρ9 n2).toNat) (zW_mono tt G dt) (by omega) (by omega) ?_
          refine hC _ List.mem_cons_self (yrh ρ9 (yvars 0 m ++ θ1)) τ h Lc sc _ _ (fun i hi => (yvars_rh hi).trans (hs9.2 i (Nat.lt_of_lt_of_le hi hm))) t3 hh t4 t5 ⟨f3, ?_⟩ ⟨k3, ?_⟩ ?_ (fun r0 e0 => ?_)
          · dsimp only; rw [← f1]; omega
          · dsimp only; rw [← k1]; omega
          · dsimp only; omega
          · subst e0
            have b2 := yrkb_ok g9 a2
            rw [yev_add, yev_sub, yev_con, hs9.ev (hr r0 rfl)] at b2
            dsimp only
            omega
        · cases q1
end YZ
