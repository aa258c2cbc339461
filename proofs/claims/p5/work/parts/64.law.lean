theorem zlq {k : Nat} (h : k < cdL_0.length) : cd_L[k]? = cdL_0[k]? := List.getElem?_append_left h
theorem lq_0 : cd_L[0]? = some (some (.new 0, 3, 11, 0, 0, .null)) := (zlq (Nat.le_of_ble_eq_true rfl)).trans rfl
theorem lq_3 : cd_L[3]? = some (some (.dup, 4, 0, 0, 0, .null)) := (zlq (Nat.le_of_ble_eq_true rfl)).trans rfl
theorem lq_4 : cd_L[4]? = some (some (.invokespecial 0, 7, 109, 0, 0, .null)) := (zlq (Nat.le_of_ble_eq_true rfl)).trans rfl
theorem lq_7 : cd_L[7]? = some (some (.astore 1, 8, 1, 0, 0, .null)) := (zlq (Nat.le_of_ble_eq_true rfl)).trans rfl
theorem lq_8 : cd_L[8]? = some (some (.new 0, 11, 12, 0, 0, .null)) := (zlq (Nat.le_of_ble_eq_true rfl)).trans rfl
theorem lq_11 : cd_L[11]? = some (some (.dup, 12, 0, 0, 0, .null)) := (zlq (Nat.le_of_ble_eq_true rfl)).trans rfl
theorem lq_12 : cd_L[12]? = some (some (.invokespecial 0, 15, 170, 0, 0, .null)) := (zlq (Nat.le_of_ble_eq_true rfl)).trans rfl
theorem lq_15 : cd_L[15]? = some (some (.astore 2, 16, 2, 0, 0, .null)) := (zlq (Nat.le_of_ble_eq_true rfl)).trans rfl
theorem lq_16 : cd_L[16]? = some (some (.aconst_null, 17, 0, 0, 0, .int 0)) := (zlq (Nat.le_of_ble_eq_true rfl)).trans rfl
theorem lq_17 : cd_L[17]? = some (some (.istore 3, 18, 3, 0, 0, .null)) := (zlq (Nat.le_of_ble_eq_true rfl)).trans rfl
theorem zin_dm {G : zG} (hG : G.1 = zProg) (hT : G.2.1 = ztx) {d j : Nat} {as : List Value} {X : dH} {Y : zH} {w : Option Value} {h2 : dH} {Q : zQ} (hX : dmet zTt zG0 20000 d j as X = some (w, h2)) (e : Y = dzH X) (k : Q w (dzH h2)) : zW zTt G d j as Y Q := by
  subst e
  exact dmet_ok (G := zG0) (G2 := G) hG hT d j as X w h2 hX Q k
theorem law_run {G : zG} (hG : G.1 = zProg) (hT : G.2.1 = ztx) (hN : G.2.2.1 ≤ 4096) : zR zTt G cd_L 600000 7302250 (some .boolean) (zW zTt G 64) (fun w _ => w = some (.int 1)) 0 (zentry [.retAddr 0] 4) [] [] 0 0 := by
  refine r_new (fs := zcls zTt 11) (zW_mono _ _ _) lq_0 rfl (Nat.le_of_ble_eq_true rfl) (Nat.le_of_ble_eq_true rfl) ?_
  refine r_dup (zW_mono _ _ _) lq_3 rfl ?_
  refine r_spec0 (m1 := 110) (m2 := 10850) (zW_mono _ _ _) lq_4 (Nat.le_of_ble_eq_true rfl) (by unfold zbud; rw [hG]; rfl) (Nat.le_of_ble_eq_true rfl) (Nat.le_of_ble_eq_true rfl) ?_
  refine dmet_ok (G := zG0) (G2 := G) hG hT 64 109 [.ref 0] [.inr (11, zcls zTt 11)] none (dH0.take 111) fr_x _ ?_
  refine r_astore (zW_mono _ _ _) lq_7 (Nat.le_of_ble_eq_true rfl) ?_
  refine r_new (fs := zcls zTt 12) (zW_mono _ _ _) lq_8 rfl (Nat.le_of_ble_eq_true rfl) (Nat.le_of_ble_eq_true rfl) ?_
  have hl : (dzH (dH0.take 111)).length = 111 := by rw [dzH_len]; rfl
  rw [hl]
  refine r_dup (zW_mono _ _ _) lq_11 rfl ?_
  refine r_spec0 (m1 := 70) (m2 := 32970) (zW_mono _ _ _) lq_12 (Nat.le_of_ble_eq_true rfl) (by unfold zbud; rw [hG]; rfl) (Nat.le_of_ble_eq_true rfl) (Nat.le_of_ble_eq_true rfl) ?_
  refine zin_dm hG hT fr_m (by rw [dzH_app]; rfl) ?_
  refine r_astore (zW_mono _ _ _) lq_15 (Nat.le_of_ble_eq_true rfl) ?_
  refine r_push (zW_mono _ _ _) lq_16 ?_
  refine r_istore (zW_mono _ _ _) lq_17 (Nat.le_of_ble_eq_true rfl) ?_
  let ρ : yR := fun j => if j = 0 then (G.2.2.1 : Int) else 0
  have hr0 : ρ 0 = (G.2.2.1 : Int) := rfl
  have hr1 : ρ 1 = 0 := rfl
  have hr2 : ρ 2 = 0 := rfl
  have hlev : yev ρ kt_law.2.2.1 = ((44 : Nat) : Int) := yev_con ρ 44
  have hrk : yev ρ kh_law.2.2.1 = 8194 := rfl
  have hkk := ycks_ok (tt := zTt) (G := G) (tx := zXt G) (I := zKI) hG zKI_is zTX_ok zGd_ok zTX_b zX_1 (zX_2 hT) (zX_3 hN) kk_law (fun _ h => by cases h) (ρ := ρ) (τ := zTG) (h := dzH dH0) (dt := 64) (by rw [hlev]; decide) (fun j cts ct' hj hin => by rw [hlev]; exact zAll hG hT hN 44 j cts ct' hj hin) kh_law (List.mem_append_left _ List.mem_cons_self) 9000
  have hR := hkk ρ zTG (dzH dH0) [some (.retAddr 0), some (.ref 0), some (.ref 111), some (.int 0)] [] 182 43931 (fun i hi => rfl) ?_ ⟨zH0_ok, yPre.rf _, zH0_I, yPre.rf _, yFr.rf _ _ _⟩ ?_ trivial ⟨fun t ht => ?_, rfl⟩ ⟨fun t ht => ?_, rfl⟩ (by rw [hrk]; decide) (by show yev ρ kh_law.2.2.1 < _; rw [hrk]; decide)
  · refine zR_post (zW_mono _ _ _) (fun w h2 hw => ?_) hR
    obtain ⟨Q, hQ, ρ', τ', p1, p2, p3, p4⟩ := hw
    rcases List.mem_singleton.mp hQ with rfl
    match w, p4 with
    | some w, p4 =>
      obtain ⟨⟨-, x, rfl, hx⟩, -⟩ := p4
      have : x.toInt = 1 := hx
      rw [show x = 1 from Int32.toInt_inj.mp this]
    | none, p4 => exact p4.elim
  · refine ⟨?_, (fun f hf => by cases hf), ?_, ?_⟩
    · intro e he
      have he : e ∈ ([(0, .ofNat 0, .ofNat 4096, 0), (1, .ofNat 0, .ofNat 4096, 0), (2, .ofNat 0, .ofNat 8, 0)] : yE) := he
      rcases List.mem_cons.mp he with rfl | he
      · exact ⟨by decide, (show (0 : Int) ≤ (G.2.2.1 : Int) by omega), (show (G.2.2.1 : Int) ≤ (4096 : Int) by omega), Or.inl rfl⟩
      · skip
        rcases List.mem_cons.mp he with rfl | he
        · exact ⟨by decide, (show (0 : Int) ≤ (0 : Int) by decide), (show (0 : Int) ≤ (4096 : Int) by decide), Or.inl rfl⟩
        · skip
          rcases List.mem_singleton.mp he with rfl
          exact ⟨by decide, (show (0 : Int) ≤ (0 : Int) by decide), (show (0 : Int) ≤ (8 : Int) by decide), Or.inl rfl⟩
    · intro q hq
      have hq : q ∈ ([(1, 6, (0, (.ofNat 0, [(2, .ofNat 1)]))), (111, 3, (0, (.ofNat 0, [(2, .ofNat 1)])))] : yH) := hq
      rcases List.mem_cons.mp hq with rfl | hq
      · exact ⟨_, _, .int 0, rfl, rfl, ysp_var (by decide), 0, rfl, rfl⟩
      · skip
        rcases List.mem_singleton.mp hq with rfl
        exact ⟨_, _, .int 0, rfl, rfl, ysp_var (by decide), 0, rfl, rfl⟩
    · intro q hq
      have hq : q ∈ ([((3, (.ofNat 0, [])), (.ofNat 0, [(0, .ofNat 1)])), ((100008, (.ofNat 0, [])), (.ofNat 0, []))] : yN) := hq
      rcases List.mem_cons.mp hq with rfl | hq
      · refine ⟨ysp_con _ _, ysp_var (by decide), ?_⟩
        show ((((zXt G).1 0).length : Nat) : Int) = _
        rw [zX_1]
        exact (yev_var ρ 0).symm
      · rcases List.mem_singleton.mp hq with rfl
        exact ⟨ysp_con _ _, ysp_con _ _, zH0_4 (xs := G.2.2.2) (x := 0) (v := 0)⟩
  · refine ⟨?_, ?_, ?_, ?_, trivial⟩
    · intro v hv; cases hv; exact ⟨_, rfl, ysp_con _ _, rfl⟩
    · intro v hv; cases hv; exact ⟨_, rfl, ysp_con _ _, rfl⟩
    · intro v hv; cases hv; exact ⟨_, rfl, ysp_con _ _, rfl⟩
    · intro v hv; cases hv; exact ⟨_, rfl, ysp_var (by decide), 0, rfl, rfl⟩
  · rcases List.mem_singleton.mp ht with rfl
    decide
  · rcases List.mem_singleton.mp ht with rfl
    decide
