noncomputable def yctg : List yV → Nat
  | [] => 0
  | v :: s => ycat v + yctg s
noncomputable def ymx (w : yW) (kd : Nat) (x y : yL) (K : yV → yW → Bool) : Bool := ycnd .lt w (ysub x y) (fun w => K (kd, y) w) (fun w => K (kd, x) w)
noncomputable def ymn (w : yW) (kd : Nat) (x y : yL) (K : yV → yW → Bool) : Bool := ycnd .lt w (ysub y x) (fun w => K (kd, y) w) (fun w => K (kd, x) w)
noncomputable def yI1 (e : zE) (L : yLs) (st : List yV) (w : yW) (K : Nat → yLs → List yV → yW → Bool) : Bool := match e with
  | (ins, nx, a, _, _, v) => match ins with
    | .aconst_null => (match v with
      | .int x => fV (0, (x.toInt, [])) fun q => K nx L (q :: st) w
      | .long x => fV (1, (x.toInt, [])) fun q => K nx L (q :: st) w
      | .null => K nx L ((2, (Int.negSucc 0, [])) :: st) w
      | .retAddr q => K nx L ((3, (Int.ofNat q, [])) :: st) w
      | _ => false)
    | .iload _ => (match ygl L a with
      | some (0, x) => K nx L ((0, x) :: st) w
      | _ => false)
    | .lload _ => (match ygl L a with
      | some (1, x) => K nx L ((1, x) :: st) w
      | _ => false)
    | .aload _ => (match ygl L a with
      | some (2, x) => K nx L ((2, x) :: st) w
      | some (3, x) => K nx L ((3, x) :: st) w
      | _ => false)
    | .istore _ => (match st with
      | (0, x) :: s => bif Nat.ble (a + 1) L.length then fLs (yst L a (0, x)) fun L => K nx L s w else false
      | _ => false)
    | .lstore _ => (match st with
      | (1, x) :: s => bif Nat.ble (a + 2) L.length then fLs (yst L a (1, x)) fun L => K nx L s w else false
      | _ => false)
    | .astore _ => (match st with
      | (2, x) :: s => bif Nat.ble (a + 1) L.length then fLs (yst L a (2, x)) fun L => K nx L s w else false
      | (3, x) :: s => bif Nat.ble (a + 1) L.length then fLs (yst L a (3, x)) fun L => K nx L s w else false
      | _ => false)
    | .iinc _ _ => (match ygl L a, v with
      | some (0, x), .int y => bif Nat.ble (a + 1) L.length then yar w 0 iMn iMx (yadd x (ycon y.toInt)) fun r w => fLs (yst L a r) fun L => K nx L st w else false
      | _, _ => false)
    | .pop => (match st with
      | v :: s => bif Nat.beq (ycat v) 1 then K nx L s w else false
      | [] => false)
    | .drem => (match st with
      | v :: s => bif Nat.beq (ycat v) 2 then K nx L s w else false
      | [] => false)
    | .dup => (match st with
      | v :: s => bif Nat.beq (ycat v) 1 then K nx L (v :: v :: s) w else false
      | [] => false)
    | .dup_x1 => (match st with
      | v :: u :: s => bif Nat.beq (ycat v) 1 && Nat.beq (ycat u) 1 then K nx L (v :: u :: v :: s) w else false
      | _ => false)
    | .dup2 => (match st with
      | v :: u :: s => bif Nat.beq (ycat v) 1 && Nat.beq (ycat u) 1 then K nx L (v :: u :: v :: u :: s) w else false
      | _ => false)
    | .dup2_x1 => (match st with
      | v :: s => bif Nat.beq (ycat v) 2 then K nx L (v :: v :: s) w else false
      | _ => false)
    | .iadd => (match st with
      | (0, y) :: (0, x) :: s => yar w 0 iMn iMx (yadd x y) fun r w => K nx L (r :: s) w
      | _ => false)
    | .isub => (match st with
      | (0, y) :: (0, x) :: s => yar w 0 iMn iMx (ysub x y) fun r w => K nx L (r :: s) w
      | _ => false)
    | .imul => (match st with
      | (0, y) :: (0, x) :: s => ymul w 0 iMn iMx x y fun r w => K nx L (r :: s) w
      | _ => false)
    | .idiv => (match st with
      | (0, y) :: (0, x) :: s => ydiv w 0 iMn iMx x y fun r w => K nx L (r :: s) w
      | _ => false)
    | .iand => (match st with
      | (0, y) :: (0, x) :: s => yund w 0 iMn iMx x y fun r w => K nx L (r :: s) w
      | _ => false)
    | .ior => (match st with
      | (0, _) :: (0, _) :: s => yfr w 0 iMn iMx 0 fun r w => K nx L (r :: s) w
      | _ => false)
    | .ishl => (match st with
      | (0, _) :: (0, _) :: s => yfr w 0 iMn iMx 0 fun r w => K nx L (r :: s) w
      | _ => false)
    | .ishr => (match st with
      | (0, _) :: (0, _) :: s => yfr w 0 iMn iMx 0 fun r w => K nx L (r :: s) w
      | _ => false)
    | .ladd => (match st with
      | (1, y) :: (1, x) :: s => yar w 1 lMn lMx (yadd x y) fun r w => K nx L (r :: s) w
      | _ => false)
    | .lsub => (match st with
      | (1, y) :: (1, x) :: s => yar w 1 lMn lMx (ysub x y) fun r w => K nx L (r :: s) w
      | _ => false)
    | .lmul => (match st with
      | (1, y) :: (1, x) :: s => ymul w 1 lMn lMx x y fun r w => K nx L (r :: s) w
      | _ => false)
    | .ldiv => (match st with
      | (1, y) :: (1, x) :: s => ydiv w 1 lMn lMx x y fun r w => K nx L (r :: s) w
      | _ => false)
    | .lrem => (match st with
      | (1, y) :: (1, x) :: s => ydiv w 1 lMn lMx (Int.negSucc 0, []) y fun _ _ => yfr w 1 lMn lMx 0 fun r w => K nx L (r :: s) w
      | _ => false)
    | .ddiv => (match st with
      | (1, y) :: (1, x) :: s => bif Nat.ble (yctg s) 8 then ydiv w 1 lMn lMx (Int.negSucc 0, []) y fun _ _ => yfr w 1 lMn lMx 0 fun r w => K nx L (r :: s) w else false
      | _ => false)
    | .lneg => (match st with
      | (1, x) :: s => yar w 1 lMn lMx (yneg x) fun r w => K nx L (r :: s) w
      | _ => false)
    | .land => (match st with
      | (1, y) :: (1, x) :: s => yund w 1 lMn lMx x y fun r w => K nx L (r :: s) w
      | _ => false)
    | .lor => (match st with
      | (1, _) :: (1, _) :: s => yfr w 1 lMn lMx 0 fun r w => K nx L (r :: s) w
      | _ => false)
    | .lxor => (match st with
      | (1, _) :: (1, _) :: s => yfr w 1 lMn lMx 0 fun r w => K nx L (r :: s) w
      | _ => false)
    | .lshl => (match st with
      | (0, _) :: (1, _) :: s => yfr w 1 lMn lMx 0 fun r w => K nx L (r :: s) w
      | _ => false)
    | .lshr => (match st with
      | (0, _) :: (1, _) :: s => yfr w 1 lMn lMx 0 fun r w => K nx L (r :: s) w
      | _ => false)
    | .lcmp => (match st with
      | (1, y) :: (1, x) :: s => ycnd .gt w (ysub x y) (fun w => K nx L ((0, (1, [])) :: s) w) (fun w => ycnd .eq w (ysub x y) (fun w => K nx L ((0, (0, [])) :: s) w) (fun w => ycnd .lt w (ysub x y) (fun w => K nx L ((0, (Int.negSucc 0, [])) :: s) w) (fun _ => true)))
      | _ => false)
    | .i2l => (match st with
      | (0, x) :: s => K nx L ((1, x) :: s) w
      | _ => false)
    | .l2i => (match st with
      | (1, x) :: s => yar w 0 iMn iMx x fun r w => K nx L (r :: s) w
      | _ => false)
    | .i2b => (match st with
      | (0, _) :: s => yfr w 0 (Int.negSucc 127) (Int.ofNat 127) 0 fun r w => K nx L (r :: s) w
      | _ => false)
    | .fadd => (match st with
      | (0, y) :: (0, x) :: s => bif Nat.ble (yctg s) 8 then ymx w 0 x y fun r w => K nx L (r :: s) w else false
      | _ => false)
    | .fsub => (match st with
      | (0, y) :: (0, x) :: s => bif Nat.ble (yctg s) 8 then ymn w 0 x y fun r w => K nx L (r :: s) w else false
      | _ => false)
    | .dadd => (match st with
      | (1, y) :: (1, x) :: s => bif Nat.ble (yctg s) 8 then ymx w 1 x y fun r w => K nx L (r :: s) w else false
      | _ => false)
    | .dsub => (match st with
      | (1, y) :: (1, x) :: s => bif Nat.ble (yctg s) 8 then ymn w 1 x y fun r w => K nx L (r :: s) w else false
      | _ => false)
    | .goto _ => K a L st w
    | .ifCond o _ => (match st with
      | (0, x) :: s => ycnd o w x (fun w => K a L s w) (fun w => K nx L s w)
      | _ => false)
    | .if_icmp o _ => (match st with
      | (0, y) :: (0, x) :: s => ycnd o w (ysub x y) (fun w => K a L s w) (fun w => K nx L s w)
      | _ => false)
    | .ifnull _ => (match st with
      | (2, x) :: s => ycnd .lt w x (fun w => K a L s w) (fun w => K nx L s w)
      | _ => false)
    | .ifnonnull _ => (match st with
      | (2, x) :: s => ycnd .lt w x (fun w => K nx L s w) (fun w => K a L s w)
      | _ => false)
    | _ => false
theorem ySo.ctg {ρ : yR} {k : Nat} : ∀ {s : List yV} {t : List Value}, ySo ρ k s t → (t.map fun v => v.category).sum = yctg s
  | [], [], _ => rfl
  | v :: s, w :: t, h => by
    simp only [List.map_cons, List.sum_cons, yctg, h.1.cat, ySo.ctg h.2]
  | [], _ :: _, h => h.elim
  | _ :: _, [], h => h.elim
theorem zcond_cmp (o : Jvm.ClassFile.Cond) (x y : Int32) : zcond o x y ↔ ycmp o (x.toInt - y.toInt) := by
  cases o <;> dsimp only [zcond, ycmp]
  · rw [← Int32.toInt_inj]; omega
  · rw [← Int32.toInt_inj]; omega
  · rw [Int32.lt_iff_toInt_lt]; omega
  · rw [Int32.le_iff_toInt_le]; omega
  · rw [Int32.lt_iff_toInt_lt]; omega
  · rw [Int32.le_iff_toInt_le]; omega
theorem i32_and (x y : Int32) : 0 ≤ y.toInt → 0 ≤ (x &&& y).toInt ∧ (x &&& y).toInt ≤ y.toInt := by
  intro h
  have e1 : (x &&& y).toInt = (x.toBitVec &&& y.toBitVec).toInt := rfl
  have e2 : y.toInt = y.toBitVec.toInt := rfl
  rw [e1]
  rw [e2] at h ⊢
  generalize x.toBitVec = u at *
  generalize y.toBitVec = v at *
  have h1 : v.toNat < 2 ^ 31 := by
    have a := BitVec.toInt_eq_toNat_cond v
    have := v.isLt
    rw [a] at h
    split at h <;> omega
  have h2 : (u &&& v).toNat ≤ v.toNat := by rw [BitVec.toNat_and]; exact Nat.and_le_right
  have a1 := BitVec.toInt_eq_toNat_cond v
  have a2 := BitVec.toInt_eq_toNat_cond (u &&& v)
  rw [if_pos (by omega)] at a1 a2
  omega
theorem i64_and (x y : Int64) : 0 ≤ y.toInt → 0 ≤ (x &&& y).toInt ∧ (x &&& y).toInt ≤ y.toInt := by
  intro h
  have e1 : (x &&& y).toInt = (x.toBitVec &&& y.toBitVec).toInt := rfl
  have e2 : y.toInt = y.toBitVec.toInt := rfl
  rw [e1]
  rw [e2] at h ⊢
  generalize x.toBitVec = u at *
  generalize y.toBitVec = v at *
  have h1 : v.toNat < 2 ^ 63 := by
    have a := BitVec.toInt_eq_toNat_cond v
    have := v.isLt
    rw [a] at h
    split at h <;> omega
  have h2 : (u &&& v).toNat ≤ v.toNat := by rw [BitVec.toNat_and]; exact Nat.and_le_right
  have a1 := BitVec.toInt_eq_toNat_cond v
  have a2 := BitVec.toInt_eq_toNat_cond (u &&& v)
  rw [if_pos (by omega)] at a1 a2
  omega
section YI
variable {tx : yTx} {w : yW} {ρ : yR} {τ : List Nat} {h : zH} {L : yLs} {st : List yV} {Lc : zL} {sc : List Value} {c n : Nat} {X : zX}
/-- what is due of a run that goes on -/
noncomputable def yGo (tx : yTx) (w : yW) (ρ : yR) (τ : List Nat) (h : zH) (c n : Nat) (X : zX) (K : Nat → yLs → List yV → yW → Bool) : Prop := ∀ (pc : Nat) (L' : yLs) (st' : List yV) (w' : yW) (ρ' : yR) (Lc' : zL) (sc' : List Value), K pc L' st' w' = true → ySt w.1 ρ w'.1 ρ' → yWo tx w' ρ' τ h → yLo ρ' w'.1 L' Lc' → ySo ρ' w'.1 st' sc' → X pc Lc' sc' h c n
theorem zrn_cases (x : Int) : (x < 0 ∧ zrn x = .null) ∨ (0 ≤ x ∧ zrn x = .ref x.toNat) := by
  unfold zrn
  by_cases q : x < 0
  · exact Or.inl ⟨q, if_pos q⟩
  · exact Or.inr ⟨by omega, if_neg q⟩
set_option maxHeartbeats 4000000 in
theorem yI1_ok {e : zE} {K : Nat → yLs → List yV → yW → Bool} (q : yI1 e L st w K = true) (g : yWo tx w ρ τ h) (hL : yLo ρ w.1 L Lc) (hS : ySo ρ w.1 st sc) (hK : yGo tx w ρ τ h c n X K) : zex1 X e Lc sc h c n := by
  obtain ⟨ins, nx, a, b, d, v⟩ := e
  have rf := ySt.rf w.1 ρ
  have fin : ∀ {w' : yW} {ρ' : yR} {v : yV} {u : Value} {s : List yV} {t : List Value} {pc : Nat}, K pc L (v :: s) w' = true → ySt w.1 ρ w'.1 ρ' → yWo tx w' ρ' τ h → yVo ρ' w'.1 v u → ySo ρ w.1 s t → X pc Lc (u :: t) h c n := fun q s1 g1 v1 s2 => hK _ _ _ _ _ _ _ q s1 g1 (s1.lo hL) ⟨v1, s1.so s2⟩
  unfold yI1 at q
  dsimp only at q
  split at q
  · -- aconst_null
    split at q
    · rw [fV_eq] at q
      exact fin q rf g ⟨ysp_con _ _, _, rfl, (yev_con _ _).symm⟩ hS
    · rw [fV_eq] at q
      exact fin q rf g ⟨ysp_con _ _, _, rfl, (yev_con _ _).symm⟩ hS
    · exact fin q rf g ⟨ysp_con _ _, by rw [show ((Int.negSucc 0, []) : yL) = ycon (-1) from rfl, yev_con]; rfl⟩ hS
    · exact fin q rf g ⟨ysp_con _ _, by rw [show ∀ z : Nat, ((Int.ofNat z, []) : yL) = ycon z from fun _ => rfl, yev_con]; rfl⟩ hS
    · cases q
  · -- iload
    split at q
    · rename_i x hx
      obtain ⟨u, hu, h1, m, rfl, h2⟩ := hL.get hx
      unfold zex1
      dsimp only
      rw [hu]
      exact fin q rf g ⟨h1, m, rfl, h2⟩ hS
    · cases q
  · -- lload
    split at q
    · rename_i x hx
      obtain ⟨u, hu, h1, m, rfl, h2⟩ := hL.get hx
      unfold zex1
      dsimp only
      rw [hu]
      exact fin q rf g ⟨h1, m, rfl, h2⟩ hS
    · cases q
  · -- aload
    split at q
    · rename_i x hx
      obtain ⟨u, hu, h1, rfl⟩ := hL.get hx
      have f9 := fin q rf g ⟨h1, rfl⟩ hS
      unfold zex1
      dsimp only
      rw [hu]
      rcases zrn_cases (yev ρ x) with ⟨-, e⟩ | ⟨-, e⟩ <;> dsimp only at f9 ⊢ <;> rw [e] at f9 ⊢ <;> exact f9
    · rename_i x hx
      obtain ⟨u, hu, h1, rfl⟩ := hL.get hx
      unfold zex1
      dsimp only
      rw [hu]
      exact fin q rf g ⟨h1, rfl⟩ hS
    · cases q
  · -- istore
    split at q
    · rename_i x s
      obtain ⟨m, t, rfl, h1, h2, h3⟩ := hS.int
      cases hb : Nat.ble (a + 1) L.length with
      | false => rw [hb] at q; cases q
      | true =>
        rw [hb, cond_true, fLs_eq] at q
        have hb2 := Nat.le_of_ble_eq_true hb
        rw [hL.len] at hb2
        exact ⟨hb2, hK _ _ _ _ _ _ _ q rf g (hL.st (v := (0, x)) ⟨h1, m, rfl, h2⟩) h3⟩
    · cases q
  · -- lstore
    split at q
    · rename_i x s
      obtain ⟨m, t, rfl, h1, h2, h3⟩ := hS.long
      cases hb : Nat.ble (a + 2) L.length with
      | false => rw [hb] at q; cases q
      | true =>
        rw [hb, cond_true, fLs_eq] at q
        have hb2 := Nat.le_of_ble_eq_true hb
        rw [hL.len] at hb2
        exact ⟨hb2, hK _ _ _ _ _ _ _ q rf g (hL.st (v := (1, x)) ⟨h1, m, rfl, h2⟩) h3⟩
    · cases q
  · -- astore
    split at q
    · rename_i x s
      obtain ⟨t, rfl, h1, h3⟩ := hS.ref
      cases hb : Nat.ble (a + 1) L.length with
      | false => rw [hb] at q; cases q
      | true =>
        rw [hb, cond_true, fLs_eq] at q
        have hb2 := Nat.le_of_ble_eq_true hb
        rw [hL.len] at hb2
        have f9 := hK _ _ _ _ _ _ _ q rf g (hL.st (v := (2, x)) ⟨h1, rfl⟩) h3
        unfold zex1
        dsimp only
        rcases zrn_cases (yev ρ x) with ⟨-, e⟩ | ⟨-, e⟩ <;> dsimp only at f9 ⊢ <;> rw [e] at f9 ⊢ <;> exact ⟨hb2, f9⟩
    · rename_i x s
      obtain ⟨t, rfl, h1, h3⟩ := hS.txt
      cases hb : Nat.ble (a + 1) L.length with
      | false => rw [hb] at q; cases q
      | true =>
        rw [hb, cond_true, fLs_eq] at q
        have hb2 := Nat.le_of_ble_eq_true hb
        rw [hL.len] at hb2
        exact ⟨hb2, hK _ _ _ _ _ _ _ q rf g (hL.st (v := (3, x)) ⟨h1, rfl⟩) h3⟩
    · cases q
  · -- iinc
    split at q
    · rename_i x y hx
      obtain ⟨u, hu, h1, m, rfl, h2⟩ := hL.get hx
      cases hb : Nat.ble (a + 1) L.length with
      | false => rw [hb] at q; cases q
      | true =>
        rw [hb, cond_true] at q
        have hb2 := Nat.le_of_ble_eq_true hb
        rw [hL.len] at hb2
        obtain ⟨w', ρ', r, q1, s1, g1, v1⟩ := yar_i q g (ysp_add h1 (ysp_con _ _)) (m + y) (by rw [yev_add, yev_con, Int32.toInt_add, h2])
        rw [fLs_eq] at q1
        unfold zex1
        dsimp only
        rw [hu]
        exact ⟨hb2, hK _ _ _ _ _ _ _ q1 s1 g1 ((s1.lo hL).st v1) (s1.so hS)⟩
    · cases q
  · -- pop
    split at q
    · rename_i v0 s
      obtain ⟨u, t, rfl, h1, h3⟩ := hS.cons
      cases hb : Nat.beq (ycat v0) 1 with
      | false => rw [hb] at q; cases q
      | true =>
        rw [hb, cond_true] at q
        have hc : u.category = 1 := h1.cat.trans (Nat.eq_of_beq_eq_true hb)
        exact ⟨hc, hK _ _ _ _ _ _ _ q rf g hL h3⟩
    · cases q
  · -- drem
    split at q
    · rename_i v0 s
      obtain ⟨u, t, rfl, h1, h3⟩ := hS.cons
      cases hb : Nat.beq (ycat v0) 2 with
      | false => rw [hb] at q; cases q
      | true =>
        rw [hb, cond_true] at q
        have hc : u.category = 2 := h1.cat.trans (Nat.eq_of_beq_eq_true hb)
        exact ⟨hc, hK _ _ _ _ _ _ _ q rf g hL h3⟩
    · cases q
  · -- dup
    split at q
    · rename_i v0 s
      obtain ⟨u, t, rfl, h1, h3⟩ := hS.cons
      cases hb : Nat.beq (ycat v0) 1 with
      | false => rw [hb] at q; cases q
      | true =>
        rw [hb, cond_true] at q
        have hc : u.category = 1 := h1.cat.trans (Nat.eq_of_beq_eq_true hb)
        exact ⟨hc, hK _ _ _ _ _ _ _ q rf g hL ⟨h1, h1, h3⟩⟩
    · cases q
  · -- dup_x1
    split at q
    · rename_i v0 v1 s
      obtain ⟨u, t0, rfl, h1, h3⟩ := hS.cons
      obtain ⟨u2, t, rfl, h4, h5⟩ := h3.cons
      cases hb : (Nat.beq (ycat v0) 1 && Nat.beq (ycat v1) 1) with
      | false => rw [hb] at q; cases q
      | true =>
        rw [hb, cond_true] at q
        rw [Bool.and_eq_true] at hb
        have hc : u.category = 1 := h1.cat.trans (Nat.eq_of_beq_eq_true hb.1)
        have hc2 : u2.category = 1 := h4.cat.trans (Nat.eq_of_beq_eq_true hb.2)
        exact ⟨hc, hc2, hK _ _ _ _ _ _ _ q rf g hL ⟨h1, h4, h1, h5⟩⟩
    · cases q
  · -- dup2
    split at q
    · rename_i v0 v1 s
      obtain ⟨u, t0, rfl, h1, h3⟩ := hS.cons
      obtain ⟨u2, t, rfl, h4, h5⟩ := h3.cons
      cases hb : (Nat.beq (ycat v0) 1 && Nat.beq (ycat v1) 1) with
      | false => rw [hb] at q; cases q
      | true =>
        rw [hb, cond_true] at q
        rw [Bool.and_eq_true] at hb
        have hc : u.category = 1 := h1.cat.trans (Nat.eq_of_beq_eq_true hb.1)
        have hc2 : u2.category = 1 := h4.cat.trans (Nat.eq_of_beq_eq_true hb.2)
        exact ⟨hc, hc2, hK _ _ _ _ _ _ _ q rf g hL ⟨h1, h4, h1, h4, h5⟩⟩
    · cases q
  · -- dup2_x1
    split at q
    · rename_i v0 s
      obtain ⟨u, t, rfl, h1, h3⟩ := hS.cons
      cases hb : Nat.beq (ycat v0) 2 with
      | false => rw [hb] at q; cases q
      | true =>
        rw [hb, cond_true] at q
        have hc : u.category = 2 := h1.cat.trans (Nat.eq_of_beq_eq_true hb)
        exact ⟨hc, hK _ _ _ _ _ _ _ q rf g hL ⟨h1, h1, h3⟩⟩
    · cases q
  · -- iadd
    split at q
    · obtain ⟨m, t0, rfl, h1, h2, h3⟩ := hS.int
      obtain ⟨m2, t, rfl, h4, h5, h6⟩ := h3.int
      obtain ⟨w', ρ', r, q1, s1, g1, v1⟩ := yar_i q g (ysp_add h4 h1) (m2 + m) (by rw [yev_add, Int32.toInt_add, h2, h5])
      exact fin q1 s1 g1 v1 h6
    · cases q
  · -- isub
    split at q
    · obtain ⟨m, t0, rfl, h1, h2, h3⟩ := hS.int
      obtain ⟨m2, t, rfl, h4, h5, h6⟩ := h3.int
      obtain ⟨w', ρ', r, q1, s1, g1, v1⟩ := yar_i q g (ysp_sub h4 h1) (m2 - m) (by rw [yev_sub, Int32.toInt_sub, h2, h5])
      exact fin q1 s1 g1 v1 h6
    · cases q
  · -- imul
    split at q
    · obtain ⟨m, t0, rfl, h1, h2, h3⟩ := hS.int
      obtain ⟨m2, t, rfl, h4, h5, h6⟩ := h3.int
      obtain ⟨w', ρ', r, q1, s1, g1, v1, v2⟩ := ymul_ok q g h4 h1 (i32_b (m2 * m)).1 (i32_b (m2 * m)).2 (by decide) (fun a b => by rw [Int32.toInt_mul, h2, h5, i32_m a b])
      exact fin q1 s1 g1 ⟨v1, m2 * m, rfl, v2.symm⟩ h6
    · cases q
  · -- idiv
    split at q
    · obtain ⟨m, t0, rfl, h1, h2, h3⟩ := hS.int
      obtain ⟨m2, t, rfl, h4, h5, h6⟩ := h3.int
      obtain ⟨hz, hq⟩ := ydiv_ok q g
      have hm0 : ¬ m = 0 := fun e => hz (by rw [← h2, e]; rfl)
      obtain ⟨w', ρ', r, q1, s1, g1, v1, v2⟩ := hq (i32_b (m2 / m)).1 (i32_b (m2 / m)).2 (fun a b => by
        rw [← h2, ← h5]
        refine Int32.toInt_div_of_ne_right _ _ (fun e => ?_)
        rw [← h2, e] at b
        exact absurd b (by decide))
      exact ⟨hm0, fin q1 s1 g1 ⟨v1, m2 / m, rfl, v2.symm⟩ h6⟩
    · cases q
  · -- iand
    split at q
    · obtain ⟨m, t0, rfl, h1, h2, h3⟩ := hS.int
      obtain ⟨m2, t, rfl, h4, h5, h6⟩ := h3.int
      obtain ⟨w', ρ', r, q1, s1, g1, v1, v2⟩ := yund_ok q g (i32_b (m2 &&& m)).1 (i32_b (m2 &&& m)).2 (by rw [← h2]; exact i32_and m2 m) (by rw [← h5, Int32.and_comm]; exact i32_and m m2)
      exact fin q1 s1 g1 ⟨v1, m2 &&& m, rfl, v2.symm⟩ h6
    · cases q
  · -- ior
    split at q
    · obtain ⟨m, t0, rfl, h1, h2, h3⟩ := hS.int
      obtain ⟨m2, t, rfl, h4, h5, h6⟩ := h3.int
      obtain ⟨w', ρ', r, q1, s1, g1, v1⟩ := yfr_i q g (m2 ||| m) (i32_b _).1 (i32_b _).2
      exact fin q1 s1 g1 v1 h6
    · cases q
  · -- ishl
    split at q
    · obtain ⟨m, t0, rfl, h1, h2, h3⟩ := hS.int
      obtain ⟨m2, t, rfl, h4, h5, h6⟩ := h3.int
      obtain ⟨w', ρ', r, q1, s1, g1, v1⟩ := yfr_i q g (m2 <<< (m &&& 31)) (i32_b _).1 (i32_b _).2
      exact fin q1 s1 g1 v1 h6
    · cases q
  · -- ishr
    split at q
    · obtain ⟨m, t0, rfl, h1, h2, h3⟩ := hS.int
      obtain ⟨m2, t, rfl, h4, h5, h6⟩ := h3.int
      obtain ⟨w', ρ', r, q1, s1, g1, v1⟩ := yfr_i q g (m2 >>> (m &&& 31)) (i32_b _).1 (i32_b _).2
      exact fin q1 s1 g1 v1 h6
    · cases q
  · -- ladd
    split at q
    · obtain ⟨m, t0, rfl, h1, h2, h3⟩ := hS.long
      obtain ⟨m2, t, rfl, h4, h5, h6⟩ := h3.long
      obtain ⟨w', ρ', r, q1, s1, g1, v1⟩ := yar_l q g (ysp_add h4 h1) (m2 + m) (by rw [yev_add, Int64.toInt_add, h2, h5])
      exact fin q1 s1 g1 v1 h6
    · cases q
  · -- lsub
    split at q
    · obtain ⟨m, t0, rfl, h1, h2, h3⟩ := hS.long
      obtain ⟨m2, t, rfl, h4, h5, h6⟩ := h3.long
      obtain ⟨w', ρ', r, q1, s1, g1, v1⟩ := yar_l q g (ysp_sub h4 h1) (m2 - m) (by rw [yev_sub, Int64.toInt_sub, h2, h5])
      exact fin q1 s1 g1 v1 h6
    · cases q
  · -- lmul
    split at q
    · obtain ⟨m, t0, rfl, h1, h2, h3⟩ := hS.long
      obtain ⟨m2, t, rfl, h4, h5, h6⟩ := h3.long
      obtain ⟨w', ρ', r, q1, s1, g1, v1, v2⟩ := ymul_ok q g h4 h1 (i64_b (m2 * m)).1 (i64_b (m2 * m)).2 (by decide) (fun a b => by rw [Int64.toInt_mul, h2, h5, i64_m a b])
      exact fin q1 s1 g1 ⟨v1, m2 * m, rfl, v2.symm⟩ h6
    · cases q
  · -- ldiv
    split at q
    · obtain ⟨m, t0, rfl, h1, h2, h3⟩ := hS.long
      obtain ⟨m2, t, rfl, h4, h5, h6⟩ := h3.long
      obtain ⟨hz, hq⟩ := ydiv_ok q g
      have hm0 : ¬ m = 0 := fun e => hz (by rw [← h2, e]; rfl)
      obtain ⟨w', ρ', r, q1, s1, g1, v1, v2⟩ := hq (i64_b (m2 / m)).1 (i64_b (m2 / m)).2 (fun a b => by
        rw [← h2, ← h5]
        refine Int64.toInt_div_of_ne_right _ _ (fun e => ?_)
        rw [← h2, e] at b
        exact absurd b (by decide))
      exact ⟨hm0, fin q1 s1 g1 ⟨v1, m2 / m, rfl, v2.symm⟩ h6⟩
    · cases q
  · -- lrem
    split at q
    · obtain ⟨m, t0, rfl, h1, h2, h3⟩ := hS.long
      obtain ⟨m2, t, rfl, h4, h5, h6⟩ := h3.long
      obtain ⟨hz, hq⟩ := ydiv_ok q g
      have hm0 : ¬ m = 0 := fun e => hz (by rw [← h2, e]; rfl)
      obtain ⟨w0, ρ0, r0, q0, -⟩ := hq (P := 0) (by decide) (by decide) (fun a _ => absurd a (by rw [show ((Int.negSucc 0, []) : yL) = ycon (-1) from rfl, yev_con]; decide))
      obtain ⟨w', ρ', r, q1, s1, g1, v1⟩ := yfr_l q0 g (m2 - m2 / m * m) (i64_b _).1 (i64_b _).2
      exact ⟨hm0, fin q1 s1 g1 v1 h6⟩
    · cases q
  · -- ddiv
    split at q
    · rename_i y x s
      obtain ⟨m, t0, rfl, h1, h2, h3⟩ := hS.long
      obtain ⟨m2, t, rfl, h4, h5, h6⟩ := h3.long
      cases hb : Nat.ble (yctg s) 8 with
      | false => rw [hb] at q; cases q
      | true =>
        rw [hb, cond_true] at q
        have hc := Nat.le_of_ble_eq_true hb
        rw [← h6.ctg] at hc
        obtain ⟨hz, hq⟩ := ydiv_ok q g
        have hm0 : ¬ m = 0 := fun e => hz (by rw [← h2, e]; rfl)
        obtain ⟨w0, ρ0, r0, q0, -⟩ := hq (P := 0) (by decide) (by decide) (fun a _ => absurd a (by rw [show ((Int.negSucc 0, []) : yL) = ycon (-1) from rfl, yev_con]; decide))
        obtain ⟨w', ρ', r, q1, s1, g1, v1⟩ := yfr_l q0 g (if (m2 ^^^ m) < 0 ∧ ¬ m2 / m * m = m2 then m2 / m - 1 else m2 / m) (i64_b _).1 (i64_b _).2
        exact ⟨hm0, hc, fin q1 s1 g1 v1 h6⟩
    · cases q
  · -- lneg
    split at q
    · obtain ⟨m, t, rfl, h1, h2, h3⟩ := hS.long
      obtain ⟨w', ρ', r, q1, s1, g1, v1⟩ := yar_l q g (ysp_neg h1) (-m) (by rw [yev_neg, Int64.toInt_neg, h2])
      exact fin q1 s1 g1 v1 h3
    · cases q
  · -- land
    split at q
    · obtain ⟨m, t0, rfl, h1, h2, h3⟩ := hS.long
      obtain ⟨m2, t, rfl, h4, h5, h6⟩ := h3.long
      obtain ⟨w', ρ', r, q1, s1, g1, v1, v2⟩ := yund_ok q g (i64_b (m2 &&& m)).1 (i64_b (m2 &&& m)).2 (by rw [← h2]; exact i64_and m2 m) (by rw [← h5, Int64.and_comm]; exact i64_and m m2)
      exact fin q1 s1 g1 ⟨v1, m2 &&& m, rfl, v2.symm⟩ h6
    · cases q
  · -- lor
    split at q
    · obtain ⟨m, t0, rfl, h1, h2, h3⟩ := hS.long
      obtain ⟨m2, t, rfl, h4, h5, h6⟩ := h3.long
      obtain ⟨w', ρ', r, q1, s1, g1, v1⟩ := yfr_l q g (m2 ||| m) (i64_b _).1 (i64_b _).2
      exact fin q1 s1 g1 v1 h6
    · cases q
  · -- lxor
    split at q
    · obtain ⟨m, t0, rfl, h1, h2, h3⟩ := hS.long
      obtain ⟨m2, t, rfl, h4, h5, h6⟩ := h3.long
      obtain ⟨w', ρ', r, q1, s1, g1, v1⟩ := yfr_l q g (m2 ^^^ m) (i64_b _).1 (i64_b _).2
      exact fin q1 s1 g1 v1 h6
    · cases q
  · -- lshl
    split at q
    · obtain ⟨m, t0, rfl, h1, h2, h3⟩ := hS.int
      obtain ⟨m2, t, rfl, h4, h5, h6⟩ := h3.long
      obtain ⟨w', ρ', r, q1, s1, g1, v1⟩ := yfr_l q g (m2 <<< (m.toInt64 &&& 63)) (i64_b _).1 (i64_b _).2
      exact fin q1 s1 g1 v1 h6
    · cases q
  · -- lshr
    split at q
    · obtain ⟨m, t0, rfl, h1, h2, h3⟩ := hS.int
      obtain ⟨m2, t, rfl, h4, h5, h6⟩ := h3.long
      obtain ⟨w', ρ', r, q1, s1, g1, v1⟩ := yfr_l q g (m2 >>> (m.toInt64 &&& 63)) (i64_b _).1 (i64_b _).2
      exact fin q1 s1 g1 v1 h6
    · cases q
  · -- lcmp
    split at q
    · rename_i y x s
      obtain ⟨m, t0, rfl, h1, h2, h3⟩ := hS.long
      obtain ⟨m2, t, rfl, h4, h5, h6⟩ := h3.long
      have hsp := ysp_sub h4 h1
      have hev : yev ρ (ysub x y) = m2.toInt - m.toInt := by rw [yev_sub, h2, h5]
      obtain ⟨a1, a2⟩ := ycnd_ok q g hsp
      rw [hev] at a1 a2
      unfold zex1
      dsimp only
      unfold lg_cmp
      by_cases e1 : m2 > m
      · rw [if_pos e1]
        have e2 : m.toInt < m2.toInt := Int64.lt_iff_toInt_lt.mp e1
        obtain ⟨w1, q1, k1, g1⟩ := a1 (by dsimp only [ycmp]; omega)
        exact fin q1 (by rw [k1]; exact rf) g1 ⟨ysp_con _ _, 1, rfl, (yev_con _ _).symm⟩ h6
      · rw [if_neg e1]
        have e2 : ¬ m.toInt < m2.toInt := fun z => e1 (Int64.lt_iff_toInt_lt.mpr z)
        obtain ⟨w1, q1, k1, g1⟩ := a2 (by dsimp only [ycmp]; omega)
        obtain ⟨b1, b2⟩ := ycnd_ok q1 g1 (by rw [k1]; exact hsp)
        rw [hev] at b1 b2
        by_cases e3 : m2 = m
        · rw [if_pos e3]
          have e4 : m2.toInt = m.toInt := by rw [e3]
          obtain ⟨w2, q2, k2, g2⟩ := b1 (by dsimp only [ycmp]; omega)
          exact fin q2 (by rw [k2, k1]; exact rf) g2 ⟨ysp_con _ _, 0, rfl, (yev_con _ _).symm⟩ h6
        · rw [if_neg e3]
          have e4 : ¬ m2.toInt = m.toInt := fun z => e3 (Int64.toInt_inj.mp z)
          obtain ⟨w2, q2, k2, g2⟩ := b2 (by dsimp only [ycmp]; omega)
          obtain ⟨c1, c2⟩ := ycnd_ok q2 g2 (by rw [k2, k1]; exact hsp)
          rw [hev] at c1
          obtain ⟨w3, q3, k3, g3⟩ := c1 (by dsimp only [ycmp]; omega)
          exact fin q3 (by rw [k3, k2, k1]; exact rf) g3 ⟨ysp_con _ _, -1, rfl, (yev_con _ _).symm⟩ h6
    · cases q
  · -- i2l
    split at q
    · obtain ⟨m, t, rfl, h1, h2, h3⟩ := hS.int
      exact fin q rf g ⟨h1, m.toInt64, rfl, by rw [Int32.toInt_toInt64]; exact h2⟩ h3
    · cases q
  · -- l2i
    split at q
    · obtain ⟨m, t, rfl, h1, h2, h3⟩ := hS.long
      obtain ⟨w', ρ', r, q1, s1, g1, v1⟩ := yar_i q g h1 m.toInt32 (by rw [Int64.toInt_toInt32, h2])
      exact fin q1 s1 g1 v1 h3
    · cases q
  · -- i2b
    split at q
    · obtain ⟨m, t, rfl, h1, h2, h3⟩ := hS.int
      have b1 := Int8.le_toInt m.toInt8
      have b2 := Int8.toInt_lt m.toInt8
      have e1 : Int.negSucc 127 = -128 := rfl
      have e2 : Int.ofNat 127 = 127 := rfl
      obtain ⟨w', ρ', r, q1, s1, g1, v1⟩ := yfr_i q g m.toInt8.toInt32 (by rw [Int8.toInt_toInt32]; omega) (by rw [Int8.toInt_toInt32]; omega)
      exact fin q1 s1 g1 v1 h3
    · cases q
  · -- fadd
    split at q
    · rename_i y x s
      obtain ⟨m, t0, rfl, h1, h2, h3⟩ := hS.int
      obtain ⟨m2, t, rfl, h4, h5, h6⟩ := h3.int
      cases hb : Nat.ble (yctg s) 8 with
      | false => rw [hb] at q; cases q
      | true =>
        rw [hb, cond_true] at q
        have hc := Nat.le_of_ble_eq_true hb
        rw [← h6.ctg] at hc
        refine ⟨hc, ?_⟩
        obtain ⟨a1, a2⟩ := ycnd_ok q g (ysp_sub h4 h1)
        rw [yev_sub, ← h2, ← h5] at a1 a2
        by_cases e1 : m2 < m
        · rw [if_pos e1]
          obtain ⟨w1, q1, k1, g1⟩ := a1 (by have := Int32.lt_iff_toInt_lt.mp e1; dsimp only [ycmp]; omega)
          exact fin q1 (by rw [k1]; exact rf) g1 (by rw [k1]; exact ⟨h1, m, rfl, h2⟩) h6
        · rw [if_neg e1]
          obtain ⟨w1, q1, k1, g1⟩ := a2 (fun z => e1 (Int32.lt_iff_toInt_lt.mpr (by dsimp only [ycmp] at z; omega)))
          exact fin q1 (by rw [k1]; exact rf) g1 (by rw [k1]; exact ⟨h4, m2, rfl, h5⟩) h6
    · cases q
  · -- fsub
    split at q
    · rename_i y x s
      obtain ⟨m, t0, rfl, h1, h2, h3⟩ := hS.int
      obtain ⟨m2, t, rfl, h4, h5, h6⟩ := h3.int
      cases hb : Nat.ble (yctg s) 8 with
      | false => rw [hb] at q; cases q
      | true =>
        rw [hb, cond_true] at q
        have hc := Nat.le_of_ble_eq_true hb
        rw [← h6.ctg] at hc
        refine ⟨hc, ?_⟩
        obtain ⟨a1, a2⟩ := ycnd_ok q g (ysp_sub h1 h4)
        rw [yev_sub, ← h2, ← h5] at a1 a2
        by_cases e1 : m < m2
        · rw [if_pos e1]
          obtain ⟨w1, q1, k1, g1⟩ := a1 (by have := Int32.lt_iff_toInt_lt.mp e1; dsimp only [ycmp]; omega)
          exact fin q1 (by rw [k1]; exact rf) g1 (by rw [k1]; exact ⟨h1, m, rfl, h2⟩) h6
        · rw [if_neg e1]
          obtain ⟨w1, q1, k1, g1⟩ := a2 (fun z => e1 (Int32.lt_iff_toInt_lt.mpr (by dsimp only [ycmp] at z; omega)))
          exact fin q1 (by rw [k1]; exact rf) g1 (by rw [k1]; exact ⟨h4, m2, rfl, h5⟩) h6
    · cases q
  · -- dadd
    split at q
    · rename_i y x s
      obtain ⟨m, t0, rfl, h1, h2, h3⟩ := hS.long
      obtain ⟨m2, t, rfl, h4, h5, h6⟩ := h3.long
      cases hb : Nat.ble (yctg s) 8 with
      | false => rw [hb] at q; cases q
      | true =>
        rw [hb, cond_true] at q
        have hc := Nat.le_of_ble_eq_true hb
        rw [← h6.ctg] at hc
        have e0 : (if m < m2 then m2 else m) = (if m2 < m then m else m2) := by
          by_cases q1 : m < m2
          · have z1 := Int64.lt_iff_toInt_lt.mp q1
            rw [if_pos q1, if_neg (fun q => by have z2 := Int64.lt_iff_toInt_lt.mp q; omega)]
          · by_cases q2 : m2 < m
            · rw [if_neg q1, if_pos q2]
            · rw [if_neg q1, if_neg q2]
              exact Int64.toInt_inj.mp (by have z1 : ¬ m.toInt < m2.toInt := fun q => q1 (Int64.lt_iff_toInt_lt.mpr q); have z2 : ¬ m2.toInt < m.toInt := fun q => q2 (Int64.lt_iff_toInt_lt.mpr q); omega)
        unfold zex1
        dsimp only
        rw [e0]
        refine ⟨hc, ?_⟩
        obtain ⟨a1, a2⟩ := ycnd_ok q g (ysp_sub h4 h1)
        rw [yev_sub, ← h2, ← h5] at a1 a2
        by_cases e1 : m2 < m
        · rw [if_pos e1]
          obtain ⟨w1, q1, k1, g1⟩ := a1 (by have := Int64.lt_iff_toInt_lt.mp e1; dsimp only [ycmp]; omega)
          exact fin q1 (by rw [k1]; exact rf) g1 (by rw [k1]; exact ⟨h1, m, rfl, h2⟩) h6
        · rw [if_neg e1]
          obtain ⟨w1, q1, k1, g1⟩ := a2 (fun z => e1 (Int64.lt_iff_toInt_lt.mpr (by dsimp only [ycmp] at z; omega)))
          exact fin q1 (by rw [k1]; exact rf) g1 (by rw [k1]; exact ⟨h4, m2, rfl, h5⟩) h6
    · cases q
  · -- dsub
    split at q
    · rename_i y x s
      obtain ⟨m, t0, rfl, h1, h2, h3⟩ := hS.long
      obtain ⟨m2, t, rfl, h4, h5, h6⟩ := h3.long
      cases hb : Nat.ble (yctg s) 8 with
      | false => rw [hb] at q; cases q
      | true =>
        rw [hb, cond_true] at q
        have hc := Nat.le_of_ble_eq_true hb
        rw [← h6.ctg] at hc
        refine ⟨hc, ?_⟩
        obtain ⟨a1, a2⟩ := ycnd_ok q g (ysp_sub h1 h4)
        rw [yev_sub, ← h2, ← h5] at a1 a2
        by_cases e1 : m < m2
        · rw [if_pos e1]
          obtain ⟨w1, q1, k1, g1⟩ := a1 (by have := Int64.lt_iff_toInt_lt.mp e1; dsimp only [ycmp]; omega)
          exact fin q1 (by rw [k1]; exact rf) g1 (by rw [k1]; exact ⟨h1, m, rfl, h2⟩) h6
        · rw [if_neg e1]
          obtain ⟨w1, q1, k1, g1⟩ := a2 (fun z => e1 (Int64.lt_iff_toInt_lt.mpr (by dsimp only [ycmp] at z; omega)))
          exact fin q1 (by rw [k1]; exact rf) g1 (by rw [k1]; exact ⟨h4, m2, rfl, h5⟩) h6
    · cases q
  · -- goto
    exact hK _ _ _ _ _ _ _ q rf g hL hS
  · -- ifCond
    split at q
    · rename_i o off x s
      obtain ⟨m, t, rfl, h1, h2, h3⟩ := hS.int
      obtain ⟨a1, a2⟩ := ycnd_ok q g h1
      have e0 : yev ρ x = m.toInt - (0 : Int32).toInt := by rw [← h2]; rw [show (0 : Int32).toInt = 0 from rfl]; omega
      rw [e0] at a1 a2
      refine ⟨fun z => ?_, fun z => ?_⟩
      · obtain ⟨w1, q1, k1, g1⟩ := a1 ((zcond_cmp _ _ _).mp z)
        exact hK _ _ _ _ _ _ _ q1 (by rw [k1]; exact rf) g1 (by rw [k1]; exact hL) (by rw [k1]; exact h3)
      · obtain ⟨w1, q1, k1, g1⟩ := a2 (fun y => z ((zcond_cmp _ _ _).mpr y))
        exact hK _ _ _ _ _ _ _ q1 (by rw [k1]; exact rf) g1 (by rw [k1]; exact hL) (by rw [k1]; exact h3)
    · cases q
  · -- if_icmp
    split at q
    · obtain ⟨m, t0, rfl, h1, h2, h3⟩ := hS.int
      obtain ⟨m2, t, rfl, h4, h5, h6⟩ := h3.int
      obtain ⟨a1, a2⟩ := ycnd_ok q g (ysp_sub h4 h1)
      rw [yev_sub, ← h2, ← h5] at a1 a2
      refine ⟨fun z => ?_, fun z => ?_⟩
      · obtain ⟨w1, q1, k1, g1⟩ := a1 ((zcond_cmp _ _ _).mp z)
        exact hK _ _ _ _ _ _ _ q1 (by rw [k1]; exact rf) g1 (by rw [k1]; exact hL) (by rw [k1]; exact h6)
      · obtain ⟨w1, q1, k1, g1⟩ := a2 (fun y => z ((zcond_cmp _ _ _).mpr y))
        exact hK _ _ _ _ _ _ _ q1 (by rw [k1]; exact rf) g1 (by rw [k1]; exact hL) (by rw [k1]; exact h6)
    · cases q
  · -- ifnull
    split at q
    · rename_i x s
      obtain ⟨t, rfl, h1, h3⟩ := hS.ref
      obtain ⟨a1, a2⟩ := ycnd_ok q g h1
      unfold zex1
      dsimp only
      rcases zrn_cases (yev ρ x) with ⟨z, e⟩ | ⟨z, e⟩ <;> rw [e] <;> dsimp only
      · obtain ⟨w1, q1, k1, g1⟩ := a1 z
        exact hK _ _ _ _ _ _ _ q1 (by rw [k1]; exact rf) g1 (by rw [k1]; exact hL) (by rw [k1]; exact h3)
      · obtain ⟨w1, q1, k1, g1⟩ := a2 (by dsimp only [ycmp]; omega)
        exact hK _ _ _ _ _ _ _ q1 (by rw [k1]; exact rf) g1 (by rw [k1]; exact hL) (by rw [k1]; exact h3)
    · cases q
  · -- ifnonnull
    split at q
    · rename_i x s
      obtain ⟨t, rfl, h1, h3⟩ := hS.ref
      obtain ⟨a1, a2⟩ := ycnd_ok q g h1
      unfold zex1
      dsimp only
      rcases zrn_cases (yev ρ x) with ⟨z, e⟩ | ⟨z, e⟩ <;> rw [e] <;> dsimp only
      · obtain ⟨w1, q1, k1, g1⟩ := a1 z
        exact hK _ _ _ _ _ _ _ q1 (by rw [k1]; exact rf) g1 (by rw [k1]; exact hL) (by rw [k1]; exact h3)
      · obtain ⟨w1, q1, k1, g1⟩ := a2 (by dsimp only [ycmp]; omega)
        exact hK _ _ _ _ _ _ _ q1 (by rw [k1]; exact rf) g1 (by rw [k1]; exact hL) (by rw [k1]; exact h3)
    · cases q
  · cases q
end YI
