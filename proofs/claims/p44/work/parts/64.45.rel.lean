noncomputable def rKs (h : zH) (m : Int32) : Nat := rKn h (sRI (tA h 49) m (tvI (tF h 48 3)).toNatClampNeg)
noncomputable def rCs (h : zH) (m : Int32) : List Nat := rCn h (sRI (tA h 49) m (tvI (tF h 48 3)).toNatClampNeg)
noncomputable def rLs (h : zH) (m : Int32) : Nat → rCt := rLn h (sRI (tA h 49) m (tvI (tF h 48 3)).toNatClampNeg)
noncomputable def ph_jcK (K : Int32 → Nat) (cs : Int32 → List Nat) (cl : Int32 → Nat → rCt) (c : Int32) (h : zH) (w : Option Value) : Prop := (((0 ≤ c.toInt ∧ c.toInt < (tvI (tF h 63 8)).toInt) ∧ ¬ (tA h 71 c.toNatClampNeg).toInt = 0) ∧ ∃ (r : Nat) (W : Nat → Int64), tO h 39 (tA h 64 c.toNatClampNeg).toNatClampNeg = some r ∧ (∃ (P : Int64) (x9 : Int32), (∀ q : Int32, 0 ≤ q.toInt ∧ q.toInt < 64 → (tB P q ↔ q.toInt < (tvI (tF h 36 2)).toInt ∧ tA h 37 q.toNatClampNeg = tA h 3 ((tA h 121 (tA h 64 c.toNatClampNeg).toNatClampNeg)).toNatClampNeg)) ∧ fMo (kfY h P (tA h 121 (tA h 64 c.toNatClampNeg).toNatClampNeg) (tA h 68 c.toNatClampNeg) (fun j => bN (wK h (tA h 121 (tA h 64 c.toNatClampNeg).toNatClampNeg)) (tK9 h) (tvI (tF h 36 4)).toNatClampNeg (j : Int)) (fun j => bN (wF h (tA h 121 (tA h 64 c.toNatClampNeg).toNatClampNeg)) (tF9 h) (tvI (tF h 63 8)).toNatClampNeg (j : Int)) (fun j => bN (wD h (tA h 121 (tA h 64 c.toNatClampNeg).toNatClampNeg)) (tF9 h) (tvI (tF h 63 8)).toNatClampNeg (j : Int)) K cs cl) (kfN h P (tA h 121 (tA h 64 c.toNatClampNeg).toNatClampNeg) (tA h 68 c.toNatClampNeg) (fun j => bN (wK h (tA h 121 (tA h 64 c.toNatClampNeg).toNatClampNeg)) (tK9 h) (tvI (tF h 36 4)).toNatClampNeg (j : Int)) (fun j => bN (wF h (tA h 121 (tA h 64 c.toNatClampNeg).toNatClampNeg)) (tF9 h) (tvI (tF h 63 8)).toNatClampNeg (j : Int)) (fun j => bN (wD h (tA h 121 (tA h 64 c.toNatClampNeg).toNatClampNeg)) (tF9 h) (tvI (tF h 63 8)).toNatClampNeg (j : Int)) K cs cl) (tvI (tF h 0 14)).toInt (some (.int x9)) ∧ jS W (tvI (tF h 0 14)).toInt64 (tA h 121 (tA h 64 c.toNatClampNeg).toNatClampNeg).toInt64 (tA h 3 ((tA h 121 (tA h 64 c.toNatClampNeg).toNatClampNeg)).toNatClampNeg).toInt64 (tA h 122 (tA h 64 c.toNatClampNeg).toNatClampNeg).toInt64 (bN (wK h (tA h 121 (tA h 64 c.toNatClampNeg).toNatClampNeg)) (tK9 h) (tvI (tF h 36 4)).toNatClampNeg (tvI (tF h 0 14)).toInt) (bN (wF h (tA h 121 (tA h 64 c.toNatClampNeg).toNatClampNeg)) (tF9 h) (tvI (tF h 63 8)).toNatClampNeg (tvI (tF h 0 14)).toInt) (bN (wD h (tA h 121 (tA h 64 c.toNatClampNeg).toNatClampNeg)) (tF9 h) (tvI (tF h 63 8)).toNatClampNeg (tvI (tF h 0 14)).toInt) (tA h 70 c.toNatClampNeg).toInt64 (tA h 69 c.toNatClampNeg).toInt64 (tA h 68 c.toNatClampNeg).toInt64 (kwW x9 (tA h 66 c.toNatClampNeg)) (lcC h (tA h 121 (tA h 64 c.toNatClampNeg).toNatClampNeg) (sPB (tA h (28 + ((tA h 121 (tA h 64 c.toNatClampNeg).toNatClampNeg)).toNatClampNeg)) ((tA h 122 (tA h 64 c.toNatClampNeg).toNatClampNeg)) (tvI (tF h 1 7)).toNatClampNeg ||| sPB (tA h ((r + 1))) ((tA h 66 c.toNatClampNeg)) 12) (tA h 68 c.toNatClampNeg) (tA h 69 c.toNatClampNeg)).toInt64) ∧ ∃ g, jT W (cs (tvI (tF h 0 14))) (cl (tvI (tF h 0 14))) (K (tvI (tF h 0 14))) 13 g ∧ ((g = none ∧ w = some (.long 0)) ∨ ∃ g9 t, g = some g9 ∧ jT W (cs (tvI (tF h 0 14))) (cl (tvI (tF h 0 14))) (K (tvI (tF h 0 14))) 14 t ∧ w = some (.long (jV g9 t)))) ∨ (¬ ((0 ≤ c.toInt ∧ c.toInt < (tvI (tF h 63 8)).toInt) ∧ ¬ (tA h 71 c.toNatClampNeg).toInt = 0) ∧ w = some (.long (-1)))
noncomputable def ph_jmK (K : Int32 → Nat) (cs : Int32 → List Nat) (cl : Int32 → Nat → rCt) (c : Int32) (h : zH) (w : Option Value) : Prop := (((0 ≤ c.toInt ∧ c.toInt < (tvI (tF h 111 59)).toInt) ∧ ¬ (tA h 158 c.toNatClampNeg).toInt = 0) ∧ ((K (tvI (tF h 111 1)) = 0 ∧ w = some (.long 0)) ∨ ∃ (b : Int32) (W : Nat → Int64), kbP h (tA h 114 (tA h 121 (tA h 152 c.toNatClampNeg).toNatClampNeg).toNatClampNeg) (tA h 153 c.toNatClampNeg).toInt (fun who j => kmY h (Int32.ofNat who) (tA h 121 (tA h 152 c.toNatClampNeg).toNatClampNeg) (tA h 154 c.toNatClampNeg) K cs cl j) (fun who j => kmN h (Int32.ofNat who) (tA h 121 (tA h 152 c.toNatClampNeg).toNatClampNeg) (tA h 154 c.toNatClampNeg) K cs cl j) (tvI (tF h 111 2)).toNatClampNeg b ∧ jS W (tvI (tF h 111 1)).toInt64 (tA h 121 (tA h 152 c.toNatClampNeg).toNatClampNeg).toInt64 (tA h 114 (tA h 121 (tA h 152 c.toNatClampNeg).toNatClampNeg).toNatClampNeg).toInt64 (tA h 122 (tA h 152 c.toNatClampNeg).toNatClampNeg).toInt64 (bN (mK9 h (tA h 121 (tA h 152 c.toNatClampNeg).toNatClampNeg) (tvI (tF h 111 1))) (tK9 h) (tvI (tF h 111 5)).toNatClampNeg (tvI (tF h 111 1)).toInt) (bN (mF9 h (tA h 121 (tA h 152 c.toNatClampNeg).toNatClampNeg)) (mT9 h) (tvI (tF h 111 59)).toNatClampNeg (tvI (tF h 111 1)).toInt) (bN (mD9 h (tA h 121 (tA h 152 c.toNatClampNeg).toNatClampNeg)) (mT9 h) (tvI (tF h 111 59)).toNatClampNeg (tvI (tF h 111 1)).toInt) (tA h 156 c.toNatClampNeg).toInt64 (tA h 155 c.toNatClampNeg).toInt64 (tA h 154 c.toNatClampNeg).toInt64 (kbW b) (lcV (lcM h (tA h 121 (tA h 152 c.toNatClampNeg).toNatClampNeg) (sPM (tA h 177) (tA h 176) ((tA h 152 c.toNatClampNeg)).toNatClampNeg ((tA h 153 c.toNatClampNeg)) (sPB (fun p => tA h 118 (12 * (tA h 121 ((tA h 152 c.toNatClampNeg)).toNatClampNeg).toNatClampNeg + p)) (tA h 122 ((tA h 152 c.toNatClampNeg)).toNatClampNeg) (tvI (tF h 111 4)).toNatClampNeg) (tvI (tF h 111 83)).toNatClampNeg) (tA h 154 c.toNatClampNeg) (tA h 155 c.toNatClampNeg))).toInt64 ∧ ∃ g, jT W (cs (tvI (tF h 111 1))) (cl (tvI (tF h 111 1))) (K (tvI (tF h 111 1))) 13 g ∧ ((g = none ∧ w = some (.long 0)) ∨ ∃ g9 t, g = some g9 ∧ jT W (cs (tvI (tF h 111 1))) (cl (tvI (tF h 111 1))) (K (tvI (tF h 111 1))) 14 t ∧ w = some (.long (jV g9 t))))) ∨ (¬ ((0 ≤ c.toInt ∧ c.toInt < (tvI (tF h 111 59)).toInt) ∧ ¬ (tA h 158 c.toNatClampNeg).toInt = 0) ∧ w = some (.long (-1)))
noncomputable def ph_juc (c : Int32) (h : zH) (w : Option Value) (_h2 : zH) : Prop := ph_jcK (rKs h) (rCs h) (rLs h) c h w
noncomputable def ph_jum (c : Int32) (h : zH) (_w : Option Value) (h2 : zH) (w : Option Value) (_h3 : zH) : Prop := ph_jmK (rKs h) (rCs h) (rLs h) c h2 w
theorem g_juryD {G : zG} (hG : G.1 = zProg) {c : Int32} {τ τ2 : List Nat} {h h2 : zH} {w : Option Value} (hB : zBs G.2.2.2 τ h) (hB2 : zBs G.2.2.2 τ2 h2) (hR : R_rcd h) (hN : R_rules h) (hF : R_froms h) (e30 : tF h2 111 30 = tF h 111 30) (e141 : tA h2 141 = tA h 141) (o133 : ∀ p, 133 ≤ p → p ≤ 140 → tA h2 p = tA h p) : tC zTt G 274 [.ref 111, .int c] h2 (fun w2 h3 => ph_jum c h w h2 w2 h3) := by
  unfold R_rules at hN
  unfold R_froms at hF
  refine (g_jury hG (K := rKs h) (cs := rCs h) (cl := rLs h) (zBs_sh hB2) (kb_111_4 hB2) (kb_111_83 hB2) (kb_111_5 hB2).2 (ka_121 hB2).2 (kb_111_1 hB2) (kb_111_2 hB2) (kb_111_51 hB2).1 (kb_111_30 hB2).1 (kb_111_5 hB2) (kb_111_59 hB2) (ka_156 hB2).2 (ka_133 hB2).2 (ka_134 hB2).2 (ka_135 hB2).2 (ka_136 hB2).2 (ka_137 hB2).2 (ka_138 hB2).2 (ka_139 hB2).2 (fun m => ?_) (ka_152 hB2).2 (ka_154 hB2).2).mono (fun w2 h3 z => z)
  have ey : sRI (tA h2 141) m (tvI (tF h2 111 30)).toNatClampNeg = (sRI (tA h 49) m (tvI (tF h 48 3)).toNatClampNeg) := by rw [e30, e141, ← hN, ← hF]
  rw [ey]
  exact rIm_fr (rIn_D (m := m) hB hR).2 o133
theorem kf_km {xs : Nat → Int32} {τ : List Nat} {k s F : Int32} {P : Int64} {h h2 : zH} {j : Nat} (hB : zBs xs τ h) (hR : R_rcd h) (hNo : R_now h) (hPe : R_people h) (hC : R_cars h) (hX : R_crashes h) (hRe : R_readings h) (hfi : R_firms h) (hf : R_kfirm h) (hM : R_cmt h) (h2k : R_ck2 h) (hct : R_ctold h) (hcd : R_cdead h) (hcb : R_cburn h) (hcc : R_ccar h) (hcm : R_cmonth h) (hcs : R_csort h) (hcv : R_cspeed h) (q1 : R_rtest h) (q2 : R_rby h) (q3 : R_rin h) (q4 : R_tkind h) (q5 : R_tsort h) (q6 : R_tspeed h) (q7 : R_tburn h) (hP : R_parts h) (hFi : R_fitted h) (hcmp : R_cmp h) (hE : R_bears h) (hA : R_adds h) (hFa : R_factor h) (hco : R_pcoins h) (hccl : R_ccl h) (e1 : tF h2 111 1 = tF h 111 1) (e2 : tF h2 111 2 = tF h 111 2) (e4 : tF h2 111 4 = tF h 111 4) (e5 : tF h2 111 5 = tF h 111 5) (e51 : tF h2 111 51 = tF h 111 51) (e59 : tF h2 111 59 = tF h 111 59) (e83 : tF h2 111 83 = tF h 111 83) (o112 : tA h2 112 = tA h 112) (o113 : tA h2 113 = tA h 113) (o114 : tA h2 114 = tA h 114) (o115 : tA h2 115 = tA h 115) (o116 : tA h2 116 = tA h 116) (o117 : tA h2 117 = tA h 117) (o118 : tA h2 118 = tA h 118) (o121 : tA h2 121 = tA h 121) (o122 : tA h2 122 = tA h 122) (o123 : tA h2 123 = tA h 123) (o145 : tA h2 145 = tA h 145) (o146 : tA h2 146 = tA h 146) (o147 : tA h2 147 = tA h 147) (o148 : tA h2 148 = tA h 148) (o149 : tA h2 149 = tA h 149) (o150 : tA h2 150 = tA h 150) (o151 : tA h2 151 = tA h 151) (o152 : tA h2 152 = tA h 152) (o153 : tA h2 153 = tA h 153) (o154 : tA h2 154 = tA h 154) (o155 : tA h2 155 = tA h 155) (o156 : tA h2 156 = tA h 156) (o157 : tA h2 157 = tA h 157) (o158 : tA h2 158 = tA h 158) (o176 : tA h2 176 = tA h 176) (o177 : tA h2 177 = tA h 177) (hss : 0 ≤ s.toInt ∧ s.toInt ≤ 2) (hPO : (∀ q : Int32, 0 ≤ q.toInt ∧ q.toInt < 64 → (tB P q ↔ q.toInt < (tvI (tF h 36 2)).toInt ∧ tA h 37 q.toNatClampNeg = F))) (hj : (j : Int) ≤ (tvI (tF h 0 14)).toInt) : (kfN h P k s (fun j => bN (wK h k) (tK9 h) (tvI (tF h 36 4)).toNatClampNeg (j : Int)) (fun j => bN (wF h k) (tF9 h) (tvI (tF h 63 8)).toNatClampNeg (j : Int)) (fun j => bN (wD h k) (tF9 h) (tvI (tF h 63 8)).toNatClampNeg (j : Int)) (rKs h) (rCs h) (rLs h) j → ∀ who : Nat, (who : Int) < (tvI (tF h 36 2)).toInt → (tA h 37 who = F) → kmY h2 (Int32.ofNat who) k s (rKs h) (rCs h) (rLs h) j → False) ∧ (kfY h P k s (fun j => bN (wK h k) (tK9 h) (tvI (tF h 36 4)).toNatClampNeg (j : Int)) (fun j => bN (wF h k) (tF9 h) (tvI (tF h 63 8)).toNatClampNeg (j : Int)) (fun j => bN (wD h k) (tF9 h) (tvI (tF h 63 8)).toNatClampNeg (j : Int)) (rKs h) (rCs h) (rLs h) j → (∀ who : Nat, (who : Int) < (tvI (tF h 36 2)).toInt → (tA h 37 who = F) → kmN h2 (Int32.ofNat who) k s (rKs h) (rCs h) (rLs h) j) → False) := by
  unfold R_cars at hC
  unfold R_crashes at hX
  unfold R_readings at hRe
  unfold R_kfirm at hf
  unfold R_ctold at hct
  unfold R_cdead at hcd
  unfold R_cburn at hcb
  unfold R_rtest at q1
  unfold R_rby at q2
  unfold R_rin at q3
  unfold R_tkind at q4
  unfold R_tsort at q5
  unfold R_tspeed at q6
  unfold R_tburn at q7
  have b4 := kb_36_4 hB
  have b8 := kb_63_8 hB
  have b14 := kb_0_14 hB
  have b54 := kb_54_9 hB
  have b36 := kb_36_2 hB
  have hjo : (Int32.ofNat j).toInt = (j : Int) := yofN (by omega)
  have uq : ∀ (r r2 : Int32), MUc h k (fun j => bN (wK h k) (tK9 h) (tvI (tF h 36 4)).toNatClampNeg (j : Int)) (fun j => bN (wF h k) (tF9 h) (tvI (tF h 63 8)).toNatClampNeg (j : Int)) (fun j => bN (wD h k) (tF9 h) (tvI (tF h 63 8)).toNatClampNeg (j : Int)) (rKs h) (rCs h) (rLs h) s.toNatClampNeg j r → MUm h2 k (rKs h) (rCs h) (rLs h) s.toNatClampNeg j r2 → r2 = r := by
    intro r r2 m1 m2
    obtain ⟨W, a2, a3⟩ := m1
    have c1 := cnt_K (h := h) (h2 := h2) (k := k) (m := Int32.ofNat j) (n := (tvI (tF h 36 4)).toNatClampNeg) o121 o122 o123 (fun i hi => hM i (by rw [← hC]; rw [zclE] at hi; omega))
    have c2 := cnt_F (h := h) (h2 := h2) (k := k) (t := (Int32.ofNat j).toInt) (n := (tvI (tF h 63 8)).toNatClampNeg) (fun i hi => by rw [o121, o152]; exact (h2k i (by rw [← hX]; rw [zclE] at hi; omega)).1) (o158.trans hcb.symm) (o157.trans hct.symm) (o156.trans hcd.symm)
    have D := (rIn_D (m := Int32.ofNat j) hB hR).1
    unfold MUm at m2
    rw [e5, e59, o114, ← hC, ← hX, ← hf, ← c1, ← c2.1, ← c2.2, hjo] at m2
    unfold rKs rCs rLs at *
    dsimp only at a2 a3 m2
    rcases m2 with ⟨k0, d2⟩ | ⟨W2, d2, d3⟩
    · rcases a3 with ⟨a3, -⟩ | ⟨i, hi, -⟩
      · rw [d2, a3]
      · omega
    · by_cases k0 : rKn h (sRI (tA h 49) (Int32.ofNat j) (tvI (tF h 48 3)).toNatClampNeg) = 0
      · rcases a3 with ⟨a3, -⟩ | ⟨i, hi, -⟩
        · rcases d3 with ⟨d3, -⟩ | ⟨i, hi, -⟩
          · rw [d3, a3]
          · omega
        · omega
      · exact muO_u (qS_u a2 d2) (rIc_ok D).2 ((rIc_ok D).1.resolve_left k0) (by rw [zclE]; omega) a3 d3
  have wo : ∀ who : Nat, (who : Int) < (tvI (tF h 36 2)).toInt → (Int32.ofNat who).toInt = (who : Int) := fun who hw => yofN (by omega)
  have rb : ∀ who : Nat, (who : Int) < (tvI (tF h 36 2)).toInt → ∀ i, i < 600 → (tB ((1 : Int64) <<< ((Int32.ofNat who).toInt64 &&& 63)) (tA h 61 i) ↔ tA h 61 i = Int32.ofNat who) := fun who hw i hi => by
    have r61 := (ka_61 hB).2 i hi
    have w := wo who hw
    exact tB_one (by omega) (by omega)
  have ls : ∀ who : Nat, (who : Int) < (tvI (tF h 36 2)).toInt → (sK (tA h2 148) (tA h2 149) (tA h2 150) (tA h2 145) (tA h2 146) (tA h2 147) (tA h2 151) (Int32.ofNat who) k s (Int32.ofNat j) 1 (tvI (tF h2 111 51)).toNatClampNeg = -1 ∧ mnB (rdP h ((1 : Int64) <<< ((Int32.ofNat who).toInt64 &&& 63)) k s) (rdT h) (rdS h) (tvI (tF h 54 9)).toNatClampNeg (j : Int) = 201) ∨ (0 ≤ (sK (tA h2 148) (tA h2 149) (tA h2 150) (tA h2 145) (tA h2 146) (tA h2 147) (tA h2 151) (Int32.ofNat who) k s (Int32.ofNat j) 1 (tvI (tF h2 111 51)).toNatClampNeg).toInt ∧ (sK (tA h2 148) (tA h2 149) (tA h2 150) (tA h2 145) (tA h2 146) (tA h2 147) (tA h2 151) (Int32.ofNat who) k s (Int32.ofNat j) 1 (tvI (tF h2 111 51)).toNatClampNeg).toInt ≤ 200 ∧ mnB (rdP h ((1 : Int64) <<< ((Int32.ofNat who).toInt64 &&& 63)) k s) (rdT h) (rdS h) (tvI (tF h 54 9)).toNatClampNeg (j : Int) = (sK (tA h2 148) (tA h2 149) (tA h2 150) (tA h2 145) (tA h2 146) (tA h2 147) (tA h2 151) (Int32.ofNat who) k s (Int32.ofNat j) 1 (tvI (tF h2 111 51)).toNatClampNeg).toInt) := by
    intro who hw
    rw [e51, o145, o146, o147, o148, o149, o150, o151, ← hRe, ← q1, ← q2, ← q3, ← q4, ← q5, ← q6, ← q7, ← hjo]
    refine sK_mnB (fun i hi => ?_) (fun i _ => rfl) (fun i hi => ?_)
    · have hi : i < 600 := by rw [zclE] at hi; omega
      have r60 := (ka_60 hB).2 i hi
      have r58 := (ka_58 hB).2 (tA h 60 i).toNatClampNeg (by rw [zclE]; omega)
      have tb := rb who hw i hi
      unfold tB at tb
      rw [decide_eq_true_eq, tb]
      constructor
      · rintro ⟨u1, ⟨u2, u3⟩, u4⟩
        exact ⟨u1, u2, u3, zone r58 u4⟩
      · rintro ⟨u1, u2, u3, u4⟩
        exact ⟨u1, ⟨u2, u3⟩, by rw [u4]; decide⟩
    · have hi : i < 600 := by rw [zclE] at hi; omega
      have r60 := (ka_60 hB).2 i hi
      exact ⟨rfl, (ka_57 hB).2 _ (by rw [zclE]; omega)⟩
  have le : ∀ who : Nat, (who : Int) < (tvI (tF h 36 2)).toInt → (tA h 37 who = F) → mnB (rdP h P k s) (rdT h) (rdS h) (tvI (tF h 54 9)).toNatClampNeg (j : Int) ≤ mnB (rdP h ((1 : Int64) <<< ((Int32.ofNat who).toInt64 &&& 63)) k s) (rdT h) (rdS h) (tvI (tF h 54 9)).toNatClampNeg (j : Int) := fun who hw hfw => mnB_le (fun i hi z => by
    have hi : i < 600 := by rw [zclE] at hi; omega
    have r61 := (ka_61 hB).2 i hi
    have w := wo who hw
    have z := of_decide_eq_true z
    have e := (rb who hw i hi).mp z.1
    have y : tB P (tA h 61 i) := (hPO _ (by omega)).mpr ⟨by rw [e, w]; exact hw, by rw [e, zof_cl w]; exact hfw⟩
    exact decide_eq_true ⟨y, z.2⟩)
  constructor
  · intro n1 who hw hfw y2
    unfold kfN at n1
    unfold kmY at y2
    obtain ⟨y1, r2, y2, y3⟩ := y2
    have l := le who hw hfw
    rcases ls who hw with ⟨l1, -⟩ | ⟨-, l2, l3⟩
    · exact y1 l1
    · rcases n1 with n1 | ⟨r, n2, n3⟩
      · omega
      · have e := uq r r2 n2 y2
        subst e
        omega
  · intro y1 hall
    unfold kfY at y1
    obtain ⟨y1, r, y2, y3⟩ := y1
    obtain ⟨i, hi, i1, i2, i3⟩ := mnB_ex y1
    have hi6 : i < 600 := by rw [zclE] at hi; omega
    have r61 := (ka_61 hB).2 i hi6
    have z := of_decide_eq_true i1
    have y := (hPO (tA h 61 i) (by omega)).mp z.1
    have hwN : (((tA h 61 i).toNatClampNeg : Nat) : Int) = (tA h 61 i).toInt := zclx r61.1
    have hw : (((tA h 61 i).toNatClampNeg : Nat) : Int) < (tvI (tF h 36 2)).toInt := by omega
    have ez : tA h 61 i = Int32.ofNat (tA h 61 i).toNatClampNeg := zof hwN.symm
    have n2 := hall _ hw y.2
    generalize (tA h 61 i).toNatClampNeg = who at *
    have at9 : mnB (rdP h ((1 : Int64) <<< ((Int32.ofNat who).toInt64 &&& 63)) k s) (rdT h) (rdS h) (tvI (tF h 54 9)).toNatClampNeg (j : Int) ≤ rdS h i := mnB_at hi (decide_eq_true ⟨(rb who hw i hi6).mpr ez, z.2⟩) i2
    unfold kmN at n2
    rcases n2 with n2 | ⟨r2, n2, n3⟩
    · rcases ls who hw with ⟨-, l2⟩ | ⟨l1, -, -⟩
      · omega
      · rw [n2] at l1
        exact absurd l1 (by decide)
    · have e := uq r r2 y2 n2
      subst e
      rcases ls who hw with ⟨-, l2⟩ | ⟨-, -, l3⟩ <;> omega
theorem lc_eq {xs : Nat → Int32} {τ : List Nat} {h : zH} {k s v b b2 : Int32} (hB : zBs xs τ h) (hP : R_parts h) (hE : R_bears h) (hA : R_adds h) (hF : R_factor h) (hco : R_pcoins h) (hk : 0 ≤ k.toInt ∧ k.toInt ≤ 7) (hs : 0 ≤ s.toInt ∧ s.toInt ≤ 2) (e : b = b2) : lcV (lcM h k b2 s v) = lcC h k b s v := by
  have h7 := kb_1_7 hB
  have hn : (tvI (tF h 1 7)).toNatClampNeg = (tvI (tF h 111 4)).toNatClampNeg := by unfold R_parts at hP; rw [hP]
  unfold lcC lcM
  refine congrArg lcV (((lcS_congr (fun i hi => ⟨?_, congrFun hco i⟩)).trans (congrArg (lcS _ _ _) hn)).symm)
  have k1 : (-1 : Int32).toInt = -1 := rfl
  have hi : i < 12 := by rw [zclE] at hi; omega
  have hio : (Int32.ofNat i).toInt = (i : Int) := yofN (by omega)
  exact burn_eq hB hP hE hA hF hk hs (by rw [e, exP_2 (fun w => by rw [w] at hio; omega)])
theorem lcM_e {a h : zH} {k b s v : Int32} (e3 : tA a 113 = tA h 113) (e5 : tA a 115 = tA h 115) (e6 : tA a 116 = tA h 116) (e7 : tA a 117 = tA h 117) (eF : tF a 111 4 = tF h 111 4) : lcM a k b s v = lcM h k b s v := by
  unfold lcM
  rw [e3, e5, e6, e7, eF]
theorem a_jury {xs : Nat → Int32} {τ : List Nat} {c : Int32} {h h2 h3 : zH} {w w2 : Option Value} (hB : zBs xs τ h) (hR : R_rcd h) (hNo : R_now h) (hPe : R_people h) (hC : R_cars h) (hX : R_crashes h) (hRe : R_readings h) (hfi : R_firms h) (hf : R_kfirm h) (hM : R_cmt h) (h2k : R_ck2 h) (hct : R_ctold h) (hcd : R_cdead h) (hcb : R_cburn h) (hcc : R_ccar h) (hcm : R_cmonth h) (hcs : R_csort h) (hcv : R_cspeed h) (q1 : R_rtest h) (q2 : R_rby h) (q3 : R_rin h) (q4 : R_tkind h) (q5 : R_tsort h) (q6 : R_tspeed h) (q7 : R_tburn h) (hP : R_parts h) (hFi : R_fitted h) (hcmp : R_cmp h) (hE : R_bears h) (hA : R_adds h) (hFa : R_factor h) (hco : R_pcoins h) (hccl : R_ccl h) (e1 : tF h2 111 1 = tF h 111 1) (e2 : tF h2 111 2 = tF h 111 2) (e4 : tF h2 111 4 = tF h 111 4) (e5 : tF h2 111 5 = tF h 111 5) (e51 : tF h2 111 51 = tF h 111 51) (e59 : tF h2 111 59 = tF h 111 59) (e83 : tF h2 111 83 = tF h 111 83) (o112 : tA h2 112 = tA h 112) (o113 : tA h2 113 = tA h 113) (o114 : tA h2 114 = tA h 114) (o115 : tA h2 115 = tA h 115) (o116 : tA h2 116 = tA h 116) (o117 : tA h2 117 = tA h 117) (o118 : tA h2 118 = tA h 118) (o121 : tA h2 121 = tA h 121) (o122 : tA h2 122 = tA h 122) (o123 : tA h2 123 = tA h 123) (o145 : tA h2 145 = tA h 145) (o146 : tA h2 146 = tA h 146) (o147 : tA h2 147 = tA h 147) (o148 : tA h2 148 = tA h 148) (o149 : tA h2 149 = tA h 149) (o150 : tA h2 150 = tA h 150) (o151 : tA h2 151 = tA h 151) (o152 : tA h2 152 = tA h 152) (o153 : tA h2 153 = tA h 153) (o154 : tA h2 154 = tA h 154) (o155 : tA h2 155 = tA h 155) (o156 : tA h2 156 = tA h 156) (o157 : tA h2 157 = tA h 157) (o158 : tA h2 158 = tA h 158) (o176 : tA h2 176 = tA h 176) (o177 : tA h2 177 = tA h 177) (k1 : ph_juc c h w h2) (k2 : ph_jum c h w h2 w2 h3) : w2 = w := by
  have km := fun (k s F : Int32) (P : Int64) (j : Nat) => kf_km (k := k) (s := s) (F := F) (P := P) (j := j) hB hR hNo hPe hC hX hRe hfi hf hM h2k hct hcd hcb hcc hcm hcs hcv q1 q2 q3 q4 q5 q6 q7 hP hFi hcmp hE hA hFa hco hccl e1 e2 e4 e5 e51 e59 e83 o112 o113 o114 o115 o116 o117 o118 o121 o122 o123 o145 o146 o147 o148 o149 o150 o151 o152 o153 o154 o155 o156 o157 o158 o176 o177
  unfold ph_juc ph_jcK at k1
  unfold ph_jum ph_jmK at k2
  have hC0 := hC
  have hP0 := hP
  have hE0 := hE
  have hNo0 := hNo
  unfold R_cars at hC
  unfold R_crashes at hX
  unfold R_now at hNo
  unfold R_people at hPe
  unfold R_firms at hfi
  unfold R_kfirm at hf
  unfold R_ctold at hct
  unfold R_cdead at hcd
  unfold R_cburn at hcb
  unfold R_ccar at hcc
  unfold R_cmonth at hcm
  unfold R_csort at hcs
  unfold R_cspeed at hcv
  have b4 := kb_36_4 hB
  have b8 := kb_63_8 hB
  have b14 := kb_0_14 hB
  have b36 := kb_36_2 hB
  have k9 : (-1 : Int32).toInt = -1 := rfl
  rw [e59, o158, ← hX, ← hcb, e1, ← hNo] at k2
  rcases k1 with ⟨c1, r, W, hr, ⟨P, x9, hPO, hw, hJ⟩, g, hg, hgw⟩ | ⟨c1, rfl⟩ <;> rcases k2 with ⟨d0, k2⟩ | ⟨d1, rfl⟩
  · rcases k2 with ⟨k0, rfl⟩ | ⟨b, W2, hkb, hJ2, g2, hg2, hgw2⟩
    · have hgn : g = none := by
        rcases hg with ⟨z, -⟩ | ⟨i, hi, -⟩
        · exact z
        · omega
      rcases hgw with ⟨-, rfl⟩ | ⟨g9, t, z, -⟩
      · rfl
      · rw [hgn] at z
        cases z
    · have hcN : c.toNatClampNeg < 200 := by rw [zclE]; omega
      have a64 := (ka_64 hB).2 _ hcN
      have a66 := (ka_66 hB).2 _ hcN
      have a68 := (ka_68 hB).2 _ hcN
      have l64 := hccl c.toNatClampNeg (by rw [zclE]; omega)
      have a121 := (ka_121 hB).2 (tA h 64 c.toNatClampNeg).toNatClampNeg (by rw [zclE]; omega)
      have km := fun j hj => km (tA h 121 (tA h 64 c.toNatClampNeg).toNatClampNeg) (tA h 68 c.toNatClampNeg) (tA h 3 (tA h 121 (tA h 64 c.toNatClampNeg).toNatClampNeg).toNatClampNeg) P j a68 hPO hj
      have hlc := lc_eq (s := tA h 68 c.toNatClampNeg) (v := tA h 69 c.toNatClampNeg) hB hP0 hE hA hFa hco a121 a68 (car_parts (m := tA h 66 c.toNatClampNeg) hB hC0 hP0 hFi hcmp ⟨a64.1, l64⟩ hr a66.2)
      have c1 := cnt_K (h := h) (h2 := h2) (k := tA h 121 (tA h 64 c.toNatClampNeg).toNatClampNeg) (m := (tvI (tF h 0 14))) (n := (tvI (tF h 36 4)).toNatClampNeg) o121 o122 o123 (fun i hi => hM i (by rw [← hC]; rw [zclE] at hi; omega))
      have c2 := cnt_F (h := h) (h2 := h2) (k := tA h 121 (tA h 64 c.toNatClampNeg).toNatClampNeg) (t := ((tvI (tF h 0 14))).toInt) (n := (tvI (tF h 63 8)).toNatClampNeg) (fun i hi => by rw [o121, o152]; exact (h2k i (by rw [← hX]; rw [zclE] at hi; omega)).1) (o158.trans hcb.symm) (o157.trans hct.symm) (o156.trans hcd.symm)
      have eN : tF h2 111 2 = tF h 36 2 := e2.trans hPe.symm
      have eNo : tF h2 111 1 = tF h 0 14 := e1.trans hNo.symm
      have e112 : tA h2 112 = tA h 37 := o112.trans hfi.symm
      have e114 : tA h2 114 = tA h 3 := o114.trans hf.symm
      have e152 : tA h2 152 = tA h 64 := o152.trans hcc.symm
      have e153 : tA h2 153 = tA h 66 := o153.trans hcm.symm
      have e154 : tA h2 154 = tA h 68 := o154.trans hcs.symm
      have e155 : tA h2 155 = tA h 69 := o155.trans hcv.symm
      have e156 : tA h2 156 = tA h 70 := o156.trans hcd.symm
      have e5c : tF h2 111 5 = tF h 36 4 := e5.trans hC.symm
      unfold kbP at hkb
      rw [lcM_e o113 o115 o116 o117 e4] at hJ2
      rw [e114, e152, e153, e154, e155, e156, o121, o122, o118, o176, o177, e83, e4, e5c, hlc, ← c1, ← c2.1, ← c2.2] at hJ2
      simp only [e112, e114, e152, e153, e154, o121, eNo, eN] at hkb
      have hwn : (((tvI (tF h 36 2)).toNatClampNeg : Nat) : Int) = (tvI (tF h 36 2)).toInt := zclx b36.1
      have hkw : kbW b = kwW x9 (tA h 66 c.toNatClampNeg) := by
        rcases hkb with ⟨rfl, who, hwho, hfw, j, hj, hjm, hY⟩ | ⟨rfl, hno⟩
        · show (1 : Int64) = _
          rcases hw with ⟨hx, hall⟩ | ⟨j0, hj0, hy, hn, hx⟩
          · exact ((km j hj).1 (hall j hj) who (by omega) hfw hY).elim
          · have hx : x9 = Int32.ofNat j0 := by injection hx with e; injection e
            have hxo : (Int32.ofNat j0).toInt = (j0 : Int) := yofN (by omega)
            by_cases z : j < j0
            · exact ((km j hj).1 (hn j z) who (by omega) hfw hY).elim
            · rw [hx]
              exact (kwW_1 (fun y => by rw [y] at hxo; omega) (by omega)).symm
        · show (0 : Int64) = _
          rcases hw with ⟨hx, hall⟩ | ⟨j0, hj0, hy, hn, hx⟩
          · have hx : x9 = -1 := by injection hx with e; injection e
            exact (kwW_0 (fun y => y.1 hx)).symm
          · have hx : x9 = Int32.ofNat j0 := by injection hx with e; injection e
            have hxo : (Int32.ofNat j0).toInt = (j0 : Int) := yofN (by omega)
            by_cases z : (j0 : Int) ≤ (tA h 66 c.toNatClampNeg).toInt
            · exact ((km j0 hj0).2 hy (fun who hwho hfw => hno who (by omega) hfw j0 hj0 z)).elim
            · exact (kwW_0 (fun y => by rw [hx] at y; omega)).symm
      rw [hkw] at hJ2
      have hW := jS_u hJ hJ2
      have D := (rIn_D (m := (tvI (tF h 0 14))) hB hR).1
      by_cases k0 : rKs h (tvI (tF h 0 14)) = 0
      · have n1 : g = none := by
          rcases hg with ⟨z, -⟩ | ⟨i, hi, -⟩
          · exact z
          · omega
        have n2 : g2 = none := by
          rcases hg2 with ⟨z, -⟩ | ⟨i, hi, -⟩
          · exact z
          · omega
        rcases hgw with ⟨-, rfl⟩ | ⟨g9, t, z, -⟩
        · rcases hgw2 with ⟨-, rfl⟩ | ⟨g9, t, z, -⟩
          · rfl
          · rw [n2] at z
            cases z
        · rw [n1] at z
          cases z
      · have nv := (rIc_ok D).1.resolve_left k0
        have ok := (rIc_ok D).2
        have e := jT_u hW ok nv (by decide) hg hg2
        subst e
        rcases hgw with ⟨g0, rfl⟩ | ⟨g9, t, g0, ht, rfl⟩ <;> rcases hgw2 with ⟨q0, rfl⟩ | ⟨q9, t2, q0, ht2, rfl⟩
        · rfl
        · rw [g0] at q0
          cases q0
        · rw [g0] at q0
          cases q0
        · rw [g0] at q0
          have q0 : g9 = q9 := by injection q0
          subst q0
          have e := jT_u hW ok nv (by decide) ht ht2
          rw [e]
  · exact absurd c1 d1
  · exact absurd d0 c1
  · rfl
theorem f_put {G : zG} (hG : G.1 = zProg) {h : zH} {x : Int32} (hs : tSh h) (hk : tK h 45 = 2) (hl : 0 ≤ (tvI (tF h 44 1)).toInt ∧ (tvI (tF h 44 1)).toInt ≤ 396) : tC zTt G 73 [.ref 44, .int x] h (fun w h2 => w = none ∧ tSh h2 ∧ tF h2 44 1 = .int (z4 (tvI (tF h 44 1))) ∧ tA h2 45 = f4 (tA h 45) (tvI (tF h 44 1)) x ∧ tK h2 45 = 2) := by
  refine tC_in (by rw [hG]; rfl) (fun dp => ?_)
  have e0 : (tvI (tF h 44 1)).toInt = (tvI (tF h 44 1)).toInt := rfl
  have e1 := zi1n e0 (by omega)
  have e2 := zi1n e1 (by omega)
  have e3 := zi1n e2 (by omega)
  have h4 : (400 : Int32).toInt = 400 := rfl
  refine tw_push rfl ?_
  refine tw_istore rfl ?_
  refine tw_iload rfl rfl ?_
  refine tw_if_lt rfl (fun z => absurd z (by decide)) (fun _ => ?_)
  refine tw_aload rfl rfl ?_
  refine tw_getS rfl (hi_44_1 hs) ?_
  refine tw_push rfl ?_
  refine tw_ic_ge rfl (fun q1730 => ?_) (fun q1730 => ?_)
  · try dsimp only [tvI_i, tvJ_j, tvR_r] at q1730
    exact absurd q1730 (by omega)
  · try dsimp only [tvI_i, tvJ_j, tvR_r] at q1730
    refine tw_aload rfl rfl ?_
    refine tw_getS rfl (hs_44_0 hs) ?_
    refine tw_aload rfl rfl ?_
    refine tw_getS rfl (hi_44_1 hs) ?_
    refine tw_iload rfl rfl ?_
    refine tw_iload rfl rfl ?_
    refine tw_ishr rfl ?_
    refine tw_i2b rfl ?_
    refine tw_bast rfl (fun kf1731 zf1731 f1731 => ?_)
    rw [bst_k hk f1731]
    refine tw_aload rfl rfl ?_
    refine tw_dup rfl ?_
    refine tw_getS rfl (tF_a (hi_44_1 hs)) ?_
    refine tw_push rfl ?_
    refine tw_iadd rfl ?_
    refine tw_put rfl (fun f1732 => ?_)
    refine tw_iinc rfl rfl ?_
    refine tw_goto rfl ?_
    refine tw_iload rfl rfl ?_
    refine tw_if_lt rfl (fun z => absurd z (by decide)) (fun _ => ?_)
    refine tw_aload rfl rfl ?_
    refine tw_getS rfl (tF_same f1732) ?_
    refine tw_push rfl ?_
    refine tw_ic_ge rfl (fun q1733 => ?_) (fun q1733 => ?_)
    · try dsimp only [tvI_i, tvJ_j, tvR_r] at q1733
      exact absurd q1733 (by omega)
    · try dsimp only [tvI_i, tvJ_j, tvR_r] at q1733
      refine tw_aload rfl rfl ?_
      refine tw_getS rfl (hs_44_0 (hw_44_1 f1732 (tSh_SA hs))) ?_
      refine tw_aload rfl rfl ?_
      refine tw_getS rfl (tF_same f1732) ?_
      refine tw_iload rfl rfl ?_
      refine tw_iload rfl rfl ?_
      refine tw_ishr rfl ?_
      refine tw_i2b rfl ?_
      refine tw_bast rfl (fun kf1734 zf1734 f1734 => ?_)
      rw [bst_k (by rw [tK_tSF]; exact (by rw [tK_tSA]; exact hk)) f1734]
      refine tw_aload rfl rfl ?_
      refine tw_dup rfl ?_
      refine tw_getS rfl (tF_a (tF_same f1732)) ?_
      refine tw_push rfl ?_
      refine tw_iadd rfl ?_
      refine tw_put rfl (fun f1735 => ?_)
      refine tw_iinc rfl rfl ?_
      refine tw_goto rfl ?_
      refine tw_iload rfl rfl ?_
      refine tw_if_lt rfl (fun z => absurd z (by decide)) (fun _ => ?_)
      refine tw_aload rfl rfl ?_
      refine tw_getS rfl (tF_same f1735) ?_
      refine tw_push rfl ?_
      refine tw_ic_ge rfl (fun q1736 => ?_) (fun q1736 => ?_)
      · try dsimp only [tvI_i, tvJ_j, tvR_r] at q1736
        exact absurd q1736 (by omega)
      · try dsimp only [tvI_i, tvJ_j, tvR_r] at q1736
        refine tw_aload rfl rfl ?_
        refine tw_getS rfl (hs_44_0 (hw_44_1 f1735 (tSh_SA (hw_44_1 f1732 (tSh_SA hs))))) ?_
        refine tw_aload rfl rfl ?_
        refine tw_getS rfl (tF_same f1735) ?_
        refine tw_iload rfl rfl ?_
        refine tw_iload rfl rfl ?_
        refine tw_ishr rfl ?_
        refine tw_i2b rfl ?_
        refine tw_bast rfl (fun kf1737 zf1737 f1737 => ?_)
        rw [bst_k (by rw [tK_tSF]; exact (by rw [tK_tSA]; exact (by rw [tK_tSF]; exact (by rw [tK_tSA]; exact hk)))) f1737]
        refine tw_aload rfl rfl ?_
        refine tw_dup rfl ?_
        refine tw_getS rfl (tF_a (tF_same f1735)) ?_
        refine tw_push rfl ?_
        refine tw_iadd rfl ?_
        refine tw_put rfl (fun f1738 => ?_)
        refine tw_iinc rfl rfl ?_
        refine tw_goto rfl ?_
        refine tw_iload rfl rfl ?_
        refine tw_if_lt rfl (fun z => absurd z (by decide)) (fun _ => ?_)
        refine tw_aload rfl rfl ?_
        refine tw_getS rfl (tF_same f1738) ?_
        refine tw_push rfl ?_
        refine tw_ic_ge rfl (fun q1739 => ?_) (fun q1739 => ?_)
        · try dsimp only [tvI_i, tvJ_j, tvR_r] at q1739
          exact absurd q1739 (by omega)
        · try dsimp only [tvI_i, tvJ_j, tvR_r] at q1739
          refine tw_aload rfl rfl ?_
          refine tw_getS rfl (hs_44_0 (hw_44_1 f1738 (tSh_SA (hw_44_1 f1735 (tSh_SA (hw_44_1 f1732 (tSh_SA hs))))))) ?_
          refine tw_aload rfl rfl ?_
          refine tw_getS rfl (tF_same f1738) ?_
          refine tw_iload rfl rfl ?_
          refine tw_iload rfl rfl ?_
          refine tw_ishr rfl ?_
          refine tw_i2b rfl ?_
          refine tw_bast rfl (fun kf1740 zf1740 f1740 => ?_)
          rw [bst_k (by rw [tK_tSF]; exact (by rw [tK_tSA]; exact (by rw [tK_tSF]; exact (by rw [tK_tSA]; exact (by rw [tK_tSF]; exact (by rw [tK_tSA]; exact hk)))))) f1740]
          refine tw_aload rfl rfl ?_
          refine tw_dup rfl ?_
          refine tw_getS rfl (tF_a (tF_same f1738)) ?_
          refine tw_push rfl ?_
          refine tw_iadd rfl ?_
          refine tw_put rfl (fun f1741 => ?_)
          refine tw_iinc rfl rfl ?_
          refine tw_goto rfl ?_
          refine tw_iload rfl rfl ?_
          refine tw_if_lt rfl (fun _ => ?_) (fun z => absurd z (by decide))
          exact tw_vret rfl ⟨rfl, (hw_44_1 f1741 (tSh_SA (hw_44_1 f1738 (tSh_SA (hw_44_1 f1735 (tSh_SA (hw_44_1 f1732 (tSh_SA hs)))))))), (tF_same f1741), (tA_ff (tA_st f1740 (tA_ff (tA_st f1737 (tA_ff (tA_st f1734 (tA_ff (tA_st f1731 rfl)))))))), (by rw [tK_tSF]; exact (by rw [tK_tSA]; exact (by rw [tK_tSF]; exact (by rw [tK_tSA]; exact (by rw [tK_tSF]; exact (by rw [tK_tSA]; exact (by rw [tK_tSF]; exact (by rw [tK_tSA]; exact hk))))))))⟩
theorem g_put {G : zG} (hG : G.1 = zProg) {h : zH} {x : Int32} (hs : tSh h) (hk : tK h 132 = 2) (hl : 0 ≤ (tvI (tF h 111 27)).toInt ∧ (tvI (tF h 111 27)).toInt ≤ 396) : tC zTt G 197 [.ref 111, .int x] h (fun w h2 => w = none ∧ tSh h2 ∧ tF h2 111 27 = .int (z4 (tvI (tF h 111 27))) ∧ tA h2 132 = f4 (tA h 132) (tvI (tF h 111 27)) x ∧ tK h2 132 = 2) := by
  refine tC_in (by rw [hG]; rfl) (fun dp => ?_)
  have e0 : (tvI (tF h 111 27)).toInt = (tvI (tF h 111 27)).toInt := rfl
  have e1 := zi1n e0 (by omega)
  have e2 := zi1n e1 (by omega)
  have e3 := zi1n e2 (by omega)
  have h4 : (400 : Int32).toInt = 400 := rfl
  refine tw_push rfl ?_
  refine tw_istore rfl ?_
  refine tw_iload rfl rfl ?_
  refine tw_if_lt rfl (fun z => absurd z (by decide)) (fun _ => ?_)
  refine tw_aload rfl rfl ?_
  refine tw_getS rfl (hs_111_35 hs) ?_
  refine tw_aload rfl rfl ?_
  refine tw_getS rfl (hi_111_27 hs) ?_
  refine tw_iload rfl rfl ?_
  refine tw_iload rfl rfl ?_
  refine tw_ishr rfl ?_
  refine tw_i2b rfl ?_
  refine tw_bast rfl (fun kf1742 zf1742 f1742 => ?_)
  rw [bst_k hk f1742]
  refine tw_aload rfl rfl ?_
  refine tw_dup rfl ?_
  refine tw_getS rfl (tF_a (hi_111_27 hs)) ?_
  refine tw_push rfl ?_
  refine tw_iadd rfl ?_
  refine tw_put rfl (fun f1743 => ?_)
  refine tw_iinc rfl rfl ?_
  refine tw_goto rfl ?_
  refine tw_iload rfl rfl ?_
  refine tw_if_lt rfl (fun z => absurd z (by decide)) (fun _ => ?_)
  refine tw_aload rfl rfl ?_
  refine tw_getS rfl (hs_111_35 (hw_111_27 f1743 (tSh_SA hs))) ?_
  refine tw_aload rfl rfl ?_
  refine tw_getS rfl (tF_same f1743) ?_
  refine tw_iload rfl rfl ?_
  refine tw_iload rfl rfl ?_
  refine tw_ishr rfl ?_
  refine tw_i2b rfl ?_
  refine tw_bast rfl (fun kf1744 zf1744 f1744 => ?_)
  rw [bst_k (by rw [tK_tSF]; exact (by rw [tK_tSA]; exact hk)) f1744]
  refine tw_aload rfl rfl ?_
  refine tw_dup rfl ?_
  refine tw_getS rfl (tF_a (tF_same f1743)) ?_
  refine tw_push rfl ?_
  refine tw_iadd rfl ?_
  refine tw_put rfl (fun f1745 => ?_)
  refine tw_iinc rfl rfl ?_
  refine tw_goto rfl ?_
  refine tw_iload rfl rfl ?_
  refine tw_if_lt rfl (fun z => absurd z (by decide)) (fun _ => ?_)
  refine tw_aload rfl rfl ?_
  refine tw_getS rfl (hs_111_35 (hw_111_27 f1745 (tSh_SA (hw_111_27 f1743 (tSh_SA hs))))) ?_
  refine tw_aload rfl rfl ?_
  refine tw_getS rfl (tF_same f1745) ?_
  refine tw_iload rfl rfl ?_
  refine tw_iload rfl rfl ?_
  refine tw_ishr rfl ?_
  refine tw_i2b rfl ?_
  refine tw_bast rfl (fun kf1746 zf1746 f1746 => ?_)
  rw [bst_k (by rw [tK_tSF]; exact (by rw [tK_tSA]; exact (by rw [tK_tSF]; exact (by rw [tK_tSA]; exact hk)))) f1746]
  refine tw_aload rfl rfl ?_
  refine tw_dup rfl ?_
  refine tw_getS rfl (tF_a (tF_same f1745)) ?_
  refine tw_push rfl ?_
  refine tw_iadd rfl ?_
  refine tw_put rfl (fun f1747 => ?_)
  refine tw_iinc rfl rfl ?_
  refine tw_goto rfl ?_
  refine tw_iload rfl rfl ?_
  refine tw_if_lt rfl (fun z => absurd z (by decide)) (fun _ => ?_)
  refine tw_aload rfl rfl ?_
  refine tw_getS rfl (hs_111_35 (hw_111_27 f1747 (tSh_SA (hw_111_27 f1745 (tSh_SA (hw_111_27 f1743 (tSh_SA hs))))))) ?_
  refine tw_aload rfl rfl ?_
  refine tw_getS rfl (tF_same f1747) ?_
  refine tw_iload rfl rfl ?_
  refine tw_iload rfl rfl ?_
  refine tw_ishr rfl ?_
  refine tw_i2b rfl ?_
  refine tw_bast rfl (fun kf1748 zf1748 f1748 => ?_)
  rw [bst_k (by rw [tK_tSF]; exact (by rw [tK_tSA]; exact (by rw [tK_tSF]; exact (by rw [tK_tSA]; exact (by rw [tK_tSF]; exact (by rw [tK_tSA]; exact hk)))))) f1748]
  refine tw_aload rfl rfl ?_
  refine tw_dup rfl ?_
  refine tw_getS rfl (tF_a (tF_same f1747)) ?_
  refine tw_push rfl ?_
  refine tw_iadd rfl ?_
  refine tw_put rfl (fun f1749 => ?_)
  refine tw_iinc rfl rfl ?_
  refine tw_goto rfl ?_
  refine tw_iload rfl rfl ?_
  refine tw_if_lt rfl (fun _ => ?_) (fun z => absurd z (by decide))
  exact tw_vret rfl ⟨rfl, (hw_111_27 f1749 (tSh_SA (hw_111_27 f1747 (tSh_SA (hw_111_27 f1745 (tSh_SA (hw_111_27 f1743 (tSh_SA hs)))))))), (tF_same f1749), (tA_ff (tA_st f1748 (tA_ff (tA_st f1746 (tA_ff (tA_st f1744 (tA_ff (tA_st f1742 rfl)))))))), (by rw [tK_tSF]; exact (by rw [tK_tSA]; exact (by rw [tK_tSF]; exact (by rw [tK_tSA]; exact (by rw [tK_tSF]; exact (by rw [tK_tSA]; exact (by rw [tK_tSF]; exact (by rw [tK_tSA]; exact hk))))))))⟩
theorem f_hasRoom {G : zG} (hG : G.1 = zProg) {h : zH} {n : Int32} (hs : tSh h) : tC zTt G 72 [.ref 44, .int n] h (fun w h2 => tBo ((tvI (tF h 44 1) + n).toInt ≤ 400) w ∧ h2 = h) := by
  refine tC_in (by rw [hG]; rfl) (fun dp => ?_)
  have h4 : (400 : Int32).toInt = 400 := rfl
  refine tw_aload rfl rfl ?_
  refine tw_getS rfl (hi_44_1 hs) ?_
  refine tw_iload rfl rfl ?_
  refine tw_iadd rfl ?_
  refine tw_push rfl ?_
  refine tw_ic_gt rfl (fun q1750 => ?_) (fun q1750 => ?_)
  · try dsimp only [tvI_i, tvJ_j, tvR_r] at q1750
    refine tw_push rfl ?_
    exact tw_iret rfl ⟨Or.inr ⟨by omega, rfl⟩, rfl⟩
  · try dsimp only [tvI_i, tvJ_j, tvR_r] at q1750
    refine tw_push rfl ?_
    refine tw_goto rfl ?_
    exact tw_iret rfl ⟨Or.inl ⟨by omega, rfl⟩, rfl⟩
theorem f_feed {G : zG} (hG : G.1 = zProg) {h : zH} {a b c d e : Int32} (hs : tSh h) (hk : tK h 45 = 2) (hl : 0 ≤ (tvI (tF h 44 1)).toInt ∧ (tvI (tF h 44 1)).toInt ≤ 400) : tC zTt G 122 [.ref 0, .int a, .int b, .int c, .int d, .int e] h (fun w h2 => ((tvI (tF h 44 1)).toInt ≤ 380 ∧ w = some (.int (z20 (tvI (tF h 44 1)))) ∧ tF h2 44 1 = .int (z20 (tvI (tF h 44 1))) ∧ tA h2 45 = f20 (tA h 45) (tvI (tF h 44 1)) a b c d e) ∨ (¬ (tvI (tF h 44 1)).toInt ≤ 380 ∧ w = some (.int (-1)) ∧ h2 = h)) := by
  refine tC_in (by rw [hG]; rfl) (fun dp => ?_)
  have n0 : (tvI (tF h 44 1)).toInt = (tvI (tF h 44 1)).toInt := rfl
  have n20 := z20n (x := tvI (tF h 44 1)) (by omega)
  have h4 : (400 : Int32).toInt = 400 := rfl
  have n1 : (tvI (tF h 44 1)).toInt ≤ 380 → (z4 (tvI (tF h 44 1))).toInt = (tvI (tF h 44 1)).toInt + 4 := fun z => z4n n0 (by omega)
  have n2 : (tvI (tF h 44 1)).toInt ≤ 380 → (z4 (z4 (tvI (tF h 44 1)))).toInt = (tvI (tF h 44 1)).toInt + 8 := fun z => (z4n (n1 z) (by omega)).trans (by omega)
  have n3 : (tvI (tF h 44 1)).toInt ≤ 380 → (z4 (z4 (z4 (tvI (tF h 44 1))))).toInt = (tvI (tF h 44 1)).toInt + 12 := fun z => (z4n (n2 z) (by omega)).trans (by omega)
  have n4 : (tvI (tF h 44 1)).toInt ≤ 380 → (z4 (z4 (z4 (z4 (tvI (tF h 44 1)))))).toInt = (tvI (tF h 44 1)).toInt + 16 := fun z => (z4n (n3 z) (by omega)).trans (by omega)
  have n5 : (tvI (tF h 44 1)).toInt ≤ 380 → (z4 (z4 (z4 (z4 (z4 (tvI (tF h 44 1))))))).toInt = (tvI (tF h 44 1)).toInt + 20 := fun z => (z4n (n4 z) (by omega)).trans (by omega)
  refine tw_aload rfl rfl ?_
  refine tw_getS rfl (hs_0_2 hs) ?_
  refine tw_push rfl ?_
  refine tw_virt1 rfl (f_hasRoom hG hs) (fun w9 h9 p1751 => ?_)
  obtain ⟨⟨p1751, rfl⟩ | ⟨p1751, rfl⟩, rfl⟩ := p1751
  · try dsimp only [tvI_i, tvJ_j, tvR_r] at p1751
    refine tw_if_ne rfl (fun _ => ?_) (fun z => absurd z (by decide))
    refine tw_aload rfl rfl ?_
    refine tw_getS rfl (hs_0_2 hs) ?_
    refine tw_iload rfl rfl ?_
    refine tw_virt1 rfl (f_put hG hs hk (by omega)) (fun wp1752 hp1752 p1752 => ?_)
    obtain ⟨rfl, sp1752, lp1752, tp1752, kp1752⟩ := p1752
    refine tw_aload rfl rfl ?_
    refine tw_getS rfl (hs_0_2 sp1752) ?_
    refine tw_iload rfl rfl ?_
    refine tw_virt1 rfl (f_put hG sp1752 kp1752 (by rw [lp1752, tvI_i, n1 (by omega)]; omega)) (fun wp1753 hp1753 p1753 => ?_)
    obtain ⟨rfl, sp1753, lp1753, tp1753, kp1753⟩ := p1753
    rw [lp1752, tp1752] at tp1753
    rw [lp1752] at lp1753
    rw [tvI_i] at lp1753 tp1753
    refine tw_aload rfl rfl ?_
    refine tw_getS rfl (hs_0_2 sp1753) ?_
    refine tw_iload rfl rfl ?_
    refine tw_virt1 rfl (f_put hG sp1753 kp1753 (by rw [lp1753, tvI_i, n2 (by omega)]; omega)) (fun wp1754 hp1754 p1754 => ?_)
    obtain ⟨rfl, sp1754, lp1754, tp1754, kp1754⟩ := p1754
    rw [lp1753, tp1753] at tp1754
    rw [lp1753] at lp1754
    rw [tvI_i] at lp1754 tp1754
    refine tw_aload rfl rfl ?_
    refine tw_getS rfl (hs_0_2 sp1754) ?_
    refine tw_iload rfl rfl ?_
    refine tw_virt1 rfl (f_put hG sp1754 kp1754 (by rw [lp1754, tvI_i, n3 (by omega)]; omega)) (fun wp1755 hp1755 p1755 => ?_)
    obtain ⟨rfl, sp1755, lp1755, tp1755, kp1755⟩ := p1755
    rw [lp1754, tp1754] at tp1755
    rw [lp1754] at lp1755
    rw [tvI_i] at lp1755 tp1755
    refine tw_aload rfl rfl ?_
    refine tw_getS rfl (hs_0_2 sp1755) ?_
    refine tw_iload rfl rfl ?_
    refine tw_virt1 rfl (f_put hG sp1755 kp1755 (by rw [lp1755, tvI_i, n4 (by omega)]; omega)) (fun wp1756 hp1756 p1756 => ?_)
    obtain ⟨rfl, sp1756, lp1756, tp1756, kp1756⟩ := p1756
    rw [lp1755, tp1755] at tp1756
    rw [lp1755] at lp1756
    rw [tvI_i] at lp1756 tp1756
    refine tw_aload rfl rfl ?_
    refine tw_getS rfl (hs_0_2 sp1756) ?_
    refine tw_getS rfl (hi_44_1 sp1756) ?_
    exact tw_iret rfl (Or.inl ⟨by omega, by rw [lp1756]; rfl, lp1756, tp1756⟩)
  · try dsimp only [tvI_i, tvJ_j, tvR_r] at p1751
    refine tw_if_ne rfl (fun z => absurd z (by decide)) (fun _ => ?_)
    refine tw_push rfl ?_
    exact tw_iret rfl (Or.inr ⟨by omega, rfl, rfl⟩)
theorem g_feed {G : zG} (hG : G.1 = zProg) {h : zH} {a b c d e : Int32} (hs : tSh h) (hk : tK h 132 = 2) (hl : 0 ≤ (tvI (tF h 111 27)).toInt ∧ (tvI (tF h 111 27)).toInt ≤ 400) : tC zTt G 196 [.ref 111, .int a, .int b, .int c, .int d, .int e] h (fun w h2 => ((tvI (tF h 111 27)).toInt ≤ 380 ∧ w = some (.int (z20 (tvI (tF h 111 27)))) ∧ tF h2 111 27 = .int (z20 (tvI (tF h 111 27))) ∧ tA h2 132 = f20 (tA h 132) (tvI (tF h 111 27)) a b c d e) ∨ (¬ (tvI (tF h 111 27)).toInt ≤ 380 ∧ w = some (.int (-1)) ∧ h2 = h)) := by
  refine tC_in (by rw [hG]; rfl) (fun dp => ?_)
  have n0 : (tvI (tF h 111 27)).toInt = (tvI (tF h 111 27)).toInt := rfl
  have n20 := z20n (x := tvI (tF h 111 27)) (by omega)
  have h4 : (400 : Int32).toInt = 400 := rfl
  have n1 : (tvI (tF h 111 27)).toInt ≤ 380 → (z4 (tvI (tF h 111 27))).toInt = (tvI (tF h 111 27)).toInt + 4 := fun z => z4n n0 (by omega)
  have n2 : (tvI (tF h 111 27)).toInt ≤ 380 → (z4 (z4 (tvI (tF h 111 27)))).toInt = (tvI (tF h 111 27)).toInt + 8 := fun z => (z4n (n1 z) (by omega)).trans (by omega)
  have n3 : (tvI (tF h 111 27)).toInt ≤ 380 → (z4 (z4 (z4 (tvI (tF h 111 27))))).toInt = (tvI (tF h 111 27)).toInt + 12 := fun z => (z4n (n2 z) (by omega)).trans (by omega)
  have n4 : (tvI (tF h 111 27)).toInt ≤ 380 → (z4 (z4 (z4 (z4 (tvI (tF h 111 27)))))).toInt = (tvI (tF h 111 27)).toInt + 16 := fun z => (z4n (n3 z) (by omega)).trans (by omega)
  have n5 : (tvI (tF h 111 27)).toInt ≤ 380 → (z4 (z4 (z4 (z4 (z4 (tvI (tF h 111 27))))))).toInt = (tvI (tF h 111 27)).toInt + 20 := fun z => (z4n (n4 z) (by omega)).trans (by omega)
  refine tw_aload rfl rfl ?_
  refine tw_getS rfl (hi_111_27 hs) ?_
  refine tw_push rfl ?_
  refine tw_iadd rfl ?_
  refine tw_push rfl ?_
  refine tw_ic_le rfl (fun q1757 => ?_) (fun q1757 => ?_)
  · try dsimp only [tvI_i, tvJ_j, tvR_r] at q1757
    refine tw_aload rfl rfl ?_
    refine tw_iload rfl rfl ?_
    refine tw_virt1 rfl (g_put hG hs hk (by omega)) (fun wp1758 hp1758 p1758 => ?_)
    obtain ⟨rfl, sp1758, lp1758, tp1758, kp1758⟩ := p1758
    refine tw_aload rfl rfl ?_
    refine tw_iload rfl rfl ?_
    refine tw_virt1 rfl (g_put hG sp1758 kp1758 (by rw [lp1758, tvI_i, n1 (by omega)]; omega)) (fun wp1759 hp1759 p1759 => ?_)
    obtain ⟨rfl, sp1759, lp1759, tp1759, kp1759⟩ := p1759
    rw [lp1758, tp1758] at tp1759
    rw [lp1758] at lp1759
    rw [tvI_i] at lp1759 tp1759
    refine tw_aload rfl rfl ?_
    refine tw_iload rfl rfl ?_
    refine tw_virt1 rfl (g_put hG sp1759 kp1759 (by rw [lp1759, tvI_i, n2 (by omega)]; omega)) (fun wp1760 hp1760 p1760 => ?_)
    obtain ⟨rfl, sp1760, lp1760, tp1760, kp1760⟩ := p1760
    rw [lp1759, tp1759] at tp1760
    rw [lp1759] at lp1760
    rw [tvI_i] at lp1760 tp1760
    refine tw_aload rfl rfl ?_
    refine tw_iload rfl rfl ?_
    refine tw_virt1 rfl (g_put hG sp1760 kp1760 (by rw [lp1760, tvI_i, n3 (by omega)]; omega)) (fun wp1761 hp1761 p1761 => ?_)
    obtain ⟨rfl, sp1761, lp1761, tp1761, kp1761⟩ := p1761
    rw [lp1760, tp1760] at tp1761
    rw [lp1760] at lp1761
    rw [tvI_i] at lp1761 tp1761
    refine tw_aload rfl rfl ?_
    refine tw_iload rfl rfl ?_
    refine tw_virt1 rfl (g_put hG sp1761 kp1761 (by rw [lp1761, tvI_i, n4 (by omega)]; omega)) (fun wp1762 hp1762 p1762 => ?_)
    obtain ⟨rfl, sp1762, lp1762, tp1762, kp1762⟩ := p1762
    rw [lp1761, tp1761] at tp1762
    rw [lp1761] at lp1762
    rw [tvI_i] at lp1762 tp1762
    refine tw_aload rfl rfl ?_
    refine tw_getS rfl (hi_111_27 sp1762) ?_
    exact tw_iret rfl (Or.inl ⟨by omega, by rw [lp1762]; rfl, lp1762, tp1762⟩)
  · try dsimp only [tvI_i, tvJ_j, tvR_r] at q1757
    refine tw_push rfl ?_
    exact tw_iret rfl (Or.inr ⟨by omega, rfl, rfl⟩)
theorem a_feed {a b c d e : Int32} {h h2 h3 : zH} {w w2 : Option Value} (hL : R_tlen h) (hT : R_tape h) (e1 : tF h2 111 27 = tF h 111 27) (o1 : tA h2 132 = tA h 132) (e2 : tF h3 44 1 = tF h2 44 1) (t1 : tA h3 45 = tA h2 45) (k1 : (fun a b c d e h w h2 => ((tvI (tF h 44 1)).toInt ≤ 380 ∧ w = some (.int (z20 (tvI (tF h 44 1)))) ∧ tF h2 44 1 = .int (z20 (tvI (tF h 44 1))) ∧ tA h2 45 = f20 (tA h 45) (tvI (tF h 44 1)) a b c d e) ∨ (¬ (tvI (tF h 44 1)).toInt ≤ 380 ∧ w = some (.int (-1)) ∧ h2 = h)) a b c d e h w h2) (k2 : (fun a b c d e h w h2 => ((tvI (tF h 111 27)).toInt ≤ 380 ∧ w = some (.int (z20 (tvI (tF h 111 27)))) ∧ tF h2 111 27 = .int (z20 (tvI (tF h 111 27))) ∧ tA h2 132 = f20 (tA h 132) (tvI (tF h 111 27)) a b c d e) ∨ (¬ (tvI (tF h 111 27)).toInt ≤ 380 ∧ w = some (.int (-1)) ∧ h2 = h)) a b c d e h2 w2 h3) : w2 = w ∧ R_tlen h3 ∧ R_tape h3 := by
  try dsimp only at k1 k2
  unfold R_tlen R_tape at *
  rw [e1, o1, ← hL, ← hT] at k2
  rcases k1 with ⟨c1, rfl, f1, g1⟩ | ⟨c1, rfl, rfl⟩ <;> rcases k2 with ⟨c2, rfl, f2, g2⟩ | ⟨c2, rfl, rfl⟩
  · exact ⟨rfl, by rw [e2, f1, f2], by rw [t1, g1, g2]⟩
  · exact absurd c1 c2
  · exact absurd c2 c1
  · exact ⟨rfl, hL, hT⟩
theorem f_cutTo {G : zG} (hG : G.1 = zProg) {h : zH} {n : Int32} (hs : tSh h) : tC zTt G 74 [.ref 44, .int n] h (fun w h2 => w = some (.int n) ∧ tF h2 44 1 = .int n) := by
  refine tC_in (by rw [hG]; rfl) (fun dp => ?_)
  refine tw_aload rfl rfl ?_
  refine tw_iload rfl rfl ?_
  refine tw_put rfl (fun f1763 => ?_)
  refine tw_iload rfl rfl ?_
  exact tw_iret rfl ⟨rfl, (tF_same f1763)⟩
theorem f_end {G : zG} (hG : G.1 = zProg) {h : zH} {n : Int32} (hs : tSh h) : tC zTt G 123 [.ref 0, .int n] h (fun w h2 => (fun n h w h2 => ((0 ≤ n.toInt ∧ n.toInt ≤ (tvI (tF h 44 1)).toInt) ∧ w = some (.int n) ∧ tF h2 44 1 = .int n) ∨ (¬ (0 ≤ n.toInt ∧ n.toInt ≤ (tvI (tF h 44 1)).toInt) ∧ w = some (.int (-1)) ∧ h2 = h)) n h w h2) := by
  refine tC_in (by rw [hG]; rfl) (fun dp => ?_)
  refine tw_iload rfl rfl ?_
  refine tw_push rfl ?_
  refine tw_aload rfl rfl ?_
  refine tw_getS rfl (hs_0_2 hs) ?_
  refine tw_getS rfl (hi_44_1 hs) ?_
  refine tw_stat3 rfl (f_isWithin hG (LO := 0)  (by decide) rfl) (fun w9 h9 p1764 => ?_)
  obtain ⟨⟨p1764, rfl⟩ | ⟨p1764, rfl⟩, rfl⟩ := p1764
  · try dsimp only [tvI_i, tvJ_j, tvR_r] at p1764
    refine tw_if_eq rfl (fun z => absurd z (by decide)) (fun _ => ?_)
    refine tw_aload rfl rfl ?_
    refine tw_getS rfl (hs_0_2 hs) ?_
    refine tw_iload rfl rfl ?_
    refine tw_virt1 rfl (f_cutTo hG hs) (fun wp1765 hp1765 p1765 => ?_)
    obtain ⟨rfl, lp1765⟩ := p1765
    refine tw_goto rfl ?_
    exact tw_iret rfl (Or.inl ⟨by omega, rfl, lp1765⟩)
  · try dsimp only [tvI_i, tvJ_j, tvR_r] at p1764
    refine tw_if_eq rfl (fun _ => ?_) (fun z => absurd z (by decide))
    refine tw_push rfl ?_
    exact tw_iret rfl (Or.inr ⟨by omega, rfl, rfl⟩)
theorem g_end {G : zG} (hG : G.1 = zProg) {h : zH} {n : Int32} (hs : tSh h) : tC zTt G 198 [.ref 111, .int n] h (fun w h2 => (fun n h w h2 => ((0 ≤ n.toInt ∧ n.toInt ≤ (tvI (tF h 111 27)).toInt) ∧ w = some (.int n) ∧ tF h2 111 27 = .int n) ∨ (¬ (0 ≤ n.toInt ∧ n.toInt ≤ (tvI (tF h 111 27)).toInt) ∧ w = some (.int (-1)) ∧ h2 = h)) n h w h2) := by
  refine tC_in (by rw [hG]; rfl) (fun dp => ?_)
  refine tw_iload rfl rfl ?_
  refine tw_if_lt rfl (fun q1766 => ?_) (fun q1766 => ?_)
  · try dsimp only [tvI_i, tvJ_j, tvR_r] at q1766
    refine tw_push rfl ?_
    exact tw_iret rfl (Or.inr ⟨by omega, rfl, rfl⟩)
  · try dsimp only [tvI_i, tvJ_j, tvR_r] at q1766
    refine tw_iload rfl rfl ?_
    refine tw_aload rfl rfl ?_
    refine tw_getS rfl (hi_111_27 hs) ?_
    refine tw_ic_le rfl (fun q1767 => ?_) (fun q1767 => ?_)
    · try dsimp only [tvI_i, tvJ_j, tvR_r] at q1767
      refine tw_aload rfl rfl ?_
      refine tw_iload rfl rfl ?_
      refine tw_put rfl (fun f1768 => ?_)
      refine tw_iload rfl rfl ?_
      exact tw_iret rfl (Or.inl ⟨by omega, rfl, (tF_same f1768)⟩)
    · try dsimp only [tvI_i, tvJ_j, tvR_r] at q1767
      refine tw_push rfl ?_
      exact tw_iret rfl (Or.inr ⟨by omega, rfl, rfl⟩)
theorem a_end {n : Int32} {h h2 h3 : zH} {w w2 : Option Value} (hL : R_tlen h) (e1 : tF h2 111 27 = tF h 111 27) (e2 : tF h3 44 1 = tF h2 44 1) (k1 : (fun n h w h2 => ((0 ≤ n.toInt ∧ n.toInt ≤ (tvI (tF h 44 1)).toInt) ∧ w = some (.int n) ∧ tF h2 44 1 = .int n) ∨ (¬ (0 ≤ n.toInt ∧ n.toInt ≤ (tvI (tF h 44 1)).toInt) ∧ w = some (.int (-1)) ∧ h2 = h)) n h w h2) (k2 : (fun n h w h2 => ((0 ≤ n.toInt ∧ n.toInt ≤ (tvI (tF h 111 27)).toInt) ∧ w = some (.int n) ∧ tF h2 111 27 = .int n) ∨ (¬ (0 ≤ n.toInt ∧ n.toInt ≤ (tvI (tF h 111 27)).toInt) ∧ w = some (.int (-1)) ∧ h2 = h)) n h2 w2 h3) : w2 = w ∧ R_tlen h3 := by
  try dsimp only at k1 k2
  unfold R_tlen at *
  rw [e1, ← hL] at k2
  rcases k1 with ⟨c1, rfl, f1⟩ | ⟨c1, rfl, rfl⟩ <;> rcases k2 with ⟨c2, rfl, f2⟩ | ⟨c2, rfl, rfl⟩
  · exact ⟨rfl, by rw [e2, f1, f2]⟩
  · exact absurd c1 c2
  · exact absurd c2 c1
  · exact ⟨rfl, hL⟩
