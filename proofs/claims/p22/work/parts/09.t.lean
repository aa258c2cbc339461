/-! arrays copied, cloned; stores of cells into arrays -/
theorem zover {args : Array Value} {s : State} {t : FieldType} (h : (Jvm.Cond.arrayOver (.array t)).before args s = true) : ∃ (comp c : ClassId) (k : Class), s.vm.findClass (FieldType.array t).toString = some comp ∧ s.vm.classes[c]? = some k ∧ k.kind = .array comp (.array t) ∧ s.vm.findClass ("[" ++ (FieldType.array t).toString) = some c := by
  simp only [Jvm.Cond.before, Jvm.Cond.holds, Jvm.Cond.value, beq_iff_eq] at h
  cases hc : s.vm.findClass (FieldType.array t).toString with
  | none => simp [hc] at h
  | some comp =>
    simp only [hc, Option.bind_some, Option.bind_eq_some_iff, Option.map_eq_some_iff] at h
    obtain ⟨c, hi, k, hk, hq⟩ := h
    obtain ⟨hlt, hp, -⟩ := Array.findIdx?_eq_some_iff_getElem.mp hi
    have e := (Array.getElem?_eq_some_iff.mp hk).2
    rw [e] at hp
    cases hkind : k.kind with
    | array component ty =>
      rw [hkind] at hq hp
      simp at hq hp
      exact ⟨comp, c, k, rfl, hk, by rw [hkind, hp, hq.1], hq.2⟩
    | _ => rw [hkind] at hq; simp at hq
section SIM7
variable {p : Program} {l : Launch} {e : Env} {R : Room} {s : State} {m : MethodId} {args : Array Value} {below : List Frame} {meth : Method} {c : Code} {Q : State → Prop} {cc : ByteArray} {B : Nat} {D : va_G} {cl : List vw_C} {dA : Nat → ClassId} {aS : Nat → Nat} {nL bc bs pc : Nat}
variable {L : zL} {st : List Value} {h : zH} {cn sn : Nat} {a b d : Nat} {v : Value}
variable {tt : zT} {G : zG} {rt : Option FieldType} {M : zM} {ret : zQ} {Ts : List Jvm.Cond} {own : String} {Z : State → Prop}
theorem s_aastore (hx : p.tables.exec = Jvm.exec) (hb : c.code = cc) (hdg : decode cc pc = .ok (.aastore, 1)) (hK : va_K D cl (ztys dA) s) (hov : (Jvm.Cond.arrayOver (.array .int)).before args s = true) (hd : (cl[d]?).map (fun q => q.1) = some "TankBehind$Car") (hz : zex2 tt G bc bs rt M ret (wX p l e R s m args below meth c Q B D cl dA aS nL bc bs) (.aastore, pc + 1, a, b, d, v) L st h cn sn) : wX p l e R s m args below meth c Q B D cl dA aS nL bc bs pc L st h cn sn := by
  intro hc1 hc2 H locs lsA hH hS hL
  unfold zex2 at hz
  dsimp only at hz
  split at hz
  · rename_i y i r s9
    obtain ⟨k0, N, f, hk, hr, hi, k⟩ := hz
    have hlt : i.toNatClampNeg < N := Nat.not_le.mp fun q => hi (Or.inr q)
    have h0 : ¬ i < 0 := fun q => hi (Or.inl q)
    have ha : H[B + r]? = some (vp_cell (dA k0) (N, .inr (.inr (.inr (.inr (fun j => (f j).map (fun a => B + a))))))) := hH.2 _ _ hr
    have fin : ∀ H1 : Heap, H1[B + r]? = some ((vp_cell (dA k0) (N, .inr (.inr (.inr (.inr (fun j => (f j).map (fun a => B + a))))))).setSlot i.toNatClampNeg (.ref (B + y))) → H1.size = H.size → (∀ q, q ≠ B + r → H1[q]? = H[q]?) → W p l e R s m args below meth c H1 (locs ++ [⟨B + r, i.toNatClampNeg⟩]) cn sn Q (F0 m (pc + 1) lsA (s9.map (zcv B aS))) := by
      intro H1 e9 z oq
      refine k hc1 hc2 _ _ _ (hH.set hr ?_ z oq) (hS.put z oq (Nat.le_add_right B r)) hL
      show H1[B + r]? = some (vp_cell _ _)
      rw [e9]
      rw [vp_cell_q, show zcA B (N, .inr (.inr (.inr (.inr (va_up f i.toNatClampNeg (some y)))))) = (N, .inr (.inr (.inr (.inr (fun j => (va_up f i.toNatClampNeg (some y) j).map (fun a => B + a)))))) from rfl, vp_cell_q, arrV_store]
      congr 2
      funext q
      by_cases hq : q = i.toNatClampNeg
      · subst hq
        simp [updV, va_up, va_rf]
      · simp [updV, va_up, hq]
    rcases hk with ⟨rfl, K, g, hy⟩ | ⟨rfl, fs, hy⟩
    · have hv : H[B + y]? = some (vp_cell (dA 0) (K, .inl g)) := hH.2 _ _ hy
      obtain ⟨comp, cA, kA, f1, f2, f3, f4⟩ := zover hov
      have ea : cA = dA 4 := zRA_find (k := 4) (by omega) hK f4
      have ec : comp = dA 0 := zRA_find (k := 0) (by omega) hK f1
      subst ea
      subst ec
      obtain ⟨-, kC, hkC, -, -⟩ := (hK.2 0 _ (ztys_get dA (by omega))).1 K (fun j => .int (g j))
      exact W.aast hx hb ha (fun q h => by cases h) (fun h => by cases h) f2 f3 rfl hkC ⟨h0, by show _ < (arrV _ _ _).slots.size; rw [arrV_size]; exact hlt⟩ hv (fun q h => by cases h) hkC (va_asg _ _) rfl rfl hdg fin
    · obtain ⟨q0, hq0, cellV, g1, g2, g3, -⟩ := hH.2 _ _ hy
      have hn : q0.1 = "TankBehind$Car" := by
        rw [hq0] at hd
        exact Option.some.inj hd
      have hcls := (hK.1 d q0 hq0).2
      obtain ⟨kA, comp, k1, k2, k3, -⟩ := (hK.2 5 _ (ztys_get dA (by omega))).2
      have hcomp : comp = D.1 d := by
        have := hcls.1
        rw [hn] at this
        exact Option.some.inj (k3.symm.trans this)
      subst hcomp
      obtain ⟨kC, hkC, -⟩ := hcls.2
      exact W.aast hx hb ha (fun q h => by cases h) (fun h => by cases h) k1 k2 rfl hkC ⟨h0, by show _ < (arrV _ _ _).slots.size; rw [arrV_size]; exact hlt⟩ g1 (fun q h => by rw [g3] at h; cases h) (by rw [g2]; exact hkC) (by rw [g2]; exact va_asg _ _) rfl rfl hdg fin
  · exact hz.elim
end SIM7
section SIM8
variable {p : Program} {l : Launch} {e : Env} {R : Room} {s : State} {m : MethodId} {args : Array Value} {below : List Frame} {meth : Method} {c : Code} {Q : State → Prop} {cc : ByteArray} {B : Nat} {D : va_G} {cl : List vw_C} {dA : Nat → ClassId} {aS : Nat → Nat} {nL bc bs pc : Nat}
variable {L : zL} {st : List Value} {h : zH} {cn sn : Nat} {a b d : Nat} {v : Value}
variable {tt : zT} {G : zG} {rt : Option FieldType} {M : zM} {ret : zQ} {Ts : List Jvm.Cond} {own : String} {Z : State → Prop}
theorem zsum_map (s9 : List Value) : ((s9.map (zcv B aS)).map fun v => v.category).sum = (s9.map fun v => v.category).sum := by rw [zcv_sum]
theorem s_cast {i : Nat} (hx : p.tables.exec = Jvm.exec) (hb : c.code = cc) (hdg : decode cc pc = .ok (.checkcast i, 3)) (hown : s.vm.findClass own = some m.cls) (hK : va_K D cl (ztys dA) s) (hlink : (Jvm.Cond.classLink own i ("[" ++ (zty 0).toString)).before args s = true) (hz : zex2 tt G bc bs rt M ret (wX p l e R s m args below meth c Q B D cl dA aS nL bc bs) (.fmul, pc + 3, a, b, d, v) L st h cn sn) : wX p l e R s m args below meth c Q B D cl dA aS nL bc bs pc L st h cn sn := by
  intro hc1 hc2 H locs lsA hH hS hL
  unfold zex2 at hz
  dsimp only at hz
  split at hz
  · rename_i r s9
    obtain ⟨N, f, hr, -, k⟩ := hz
    have ha : H[B + r]? = some (vp_cell (dA 0) (N, .inl f)) := hH.2 _ _ hr
    have hnm : s.vm.findClass ("[" ++ (zty 0).toString) = some (dA 0) := (hK.2 0 _ (ztys_get dA (by omega))).2
    intro T hT X
    obtain ⟨vm', X', stp⟩ := X.checkcastYes hx hown hlink (by rw [hT]; exact ha) rfl hnm (va_asg _ _) (g := F0 m pc lsA (.ref (B + r) :: s9.map (zcv B aS))) rfl rfl (by rw [hb]; exact hdg)
    obtain ⟨t, a1, b1⟩ := k hc1 hc2 H locs lsA hH hS hL (T.setVm vm') hT X'
    exact ⟨t, stp t a1, b1⟩
  · exact hz.elim
theorem s_copy {i : Nat} (hx : p.tables.exec = Jvm.exec) (hb : c.code = cc) (hml : c.maxLocals = nL) (hdg : decode cc pc = .ok (.invokestatic i, 3)) (hown : s.vm.findClass own = some m.cls) (hK : va_K D cl (ztys dA) s) (hlink : (Jvm.Cond.methodLink own i arraycopyName).before args s = true) (hnat : (Jvm.Cond.native arraycopyName).before args s = true) (hstat : (Jvm.Cond.static arraycopyName).before args s = true) (hini : (Jvm.Cond.initialized "java/lang/System").before args s = true) (hframes : 1 ≤ R.frames) (hlocals : nativeFrameWords "java/lang/System" "arraycopy" 5 + 30 ≤ R.locals) (hz : zex2 tt G bc bs rt M ret (wX p l e R s m args below meth c Q B D cl dA aS nL bc bs) (.sastore, pc + 3, a, b, d, v) L st h cn sn) : wX p l e R s m args below meth c Q B D cl dA aS nL bc bs pc L st h cn sn := by
  intro hc1 hc2 H locs lsA hH hS hL
  unfold zex2 at hz
  dsimp only at hz
  split at hz
  · rename_i n dp y sp r s9
    obtain ⟨N, K, f, g, hr, hy, ⟨rfl, rfl, hn, hN, hKn, hsum⟩, k⟩ := hz
    have hc0 : H[B + r]? = some (vp_cell (dA 0) (N, .inl f)) := hH.2 _ _ hr
    have hc1' : H[B + y]? = some (vp_cell (dA 0) (K, .inl g)) := hH.2 _ _ hy
    have nn : n.toInt = (n.toNatClampNeg : Int) := by
      have hz0 : (0 : Int) ≤ n.toInt := by
        have := Int32.not_lt.mp hn
        simpa using Int32.le_iff_toInt_le.mp this
      show n.toInt = ((n.toInt.toNat : Nat) : Int)
      omega
    have n0 : (0 : Int32).toNatClampNeg = 0 := rfl
    intro T hT X
    obtain ⟨-, k0, hk0, cm0, hkk0⟩ := (hK.2 0 _ (ztys_get dA (by omega))).1 N (fun j => .int (f j))
    obtain ⟨-, k1, hk1, cm1, hkk1⟩ := (hK.2 0 _ (ztys_get dA (by omega))).1 K (fun j => .int (g j))
    obtain ⟨vm', X', step⟩ := X.arraycopy hx hown hlink hnat hstat hini (src := B + r) (dst := B + y) (cs := vp_cell (dA 0) (N, .inl f)) (cd := vp_cell (dA 0) (K, .inl g)) (srcPos := 0) (destPos := 0) (n := n) (by rw [hT]; exact hc0) (by rw [hT]; exact hc1')
      (fun _ h => by cases h) (fun _ h => by cases h) (fun h => by cases h) (fun h => by cases h) hk0 hk1 hkk0 hkk1 (by rfl) (by decide) (by decide) hn
      (by rw [nn]; show ¬ _ > ((arrV (dA 0) N (fun j => .int (f j))).slots.size : Int); rw [arrV_size, show (0 : Int32).toInt = 0 from rfl]; omega)
      (by rw [nn]; show ¬ _ > ((arrV (dA 0) K (fun j => .int (g j))).slots.size : Int); rw [arrV_size, show (0 : Int32).toInt = 0 from rfl]; omega)
      (fun vm₁ _ i hi => by
        have e : (vp_cell (dA 0) (N, .inl f)).slots.getD ((0 : Int32).toNatClampNeg + i) .null = .int (f ((0 : Int32).toNatClampNeg + i)) := by
          show (arrV (dA 0) N (fun j => .int (f j))).slots.getD _ _ = _
          rw [Array.getD_eq_getD_getElem?, arrV_read _ _ (by rw [n0]; omega)]
          rfl
        refine ⟨?_, ?_⟩
        · rw [e]
          rfl
        · rw [e]
          exact trivial)
      (g := F0 m pc lsA (.int n :: .int 0 :: .ref (B + y) :: .int 0 :: .ref (B + r) :: s9.map (zcv B aS))) rfl (by rw [hml]; exact hL.2.1) (rest := s9.map (zcv B aS)) rfl (by rw [hb]; exact hdg) hframes (by show 2 * 0 + _ + _ ≤ _; rw [zsum_map]; omega)
    have e1 : copied (vp_cell (dA 0) (N, .inl f)) (vp_cell (dA 0) (K, .inl g)) 0 0 n = vp_cell (dA 0) (K, .inl (va_cpy f g 0 0 n.toNatClampNeg)) := va_copied (fun z => .int z) (dA 0) (dA 0) f g (by rw [n0]; omega)
    rw [e1] at X' step
    have hl : B + y < H.size := (Array.getElem?_eq_some_iff.mp hc1').1
    have hheap : ((T.setVm vm').setCell (B + y) (vp_cell (dA 0) (K, .inl (va_cpy f g 0 0 n.toNatClampNeg)))).heap = H.setIfInBounds (B + y) (vp_cell (dA 0) (K, .inl (va_cpy f g 0 0 n.toNatClampNeg))) := by rw [← hT]; rfl
    have oq : ∀ q : Nat, q ≠ B + y → (H.setIfInBounds (B + y) (vp_cell (dA 0) (K, .inl (va_cpy f g 0 0 n.toNatClampNeg))))[q]? = H[q]? := fun q hq => by simp [Array.getElem?_setIfInBounds, Ne.symm hq]
    obtain ⟨t, a1, b1⟩ := k hc1 hc2 _ _ lsA (hH.set hy (show (H.setIfInBounds (B + y) _)[B + y]? = some _ by simp [Array.getElem?_setIfInBounds, hl]; rfl) (by simp) oq) ⟨by simp; exact hS.1, fun q g1 g2 => by
        rw [oq q (fun e => g2 (by rw [e]; exact Nat.le_add_right B y))]
        exact hS.2.1 q g1 g2, fun q hq => by
        rcases List.mem_append.mp hq with h | h
        · exact hS.2.2 q h
        · obtain ⟨z, -, hz⟩ := List.mem_map.mp h
          rw [← hz]
          exact Nat.le_add_right B y⟩ hL _ hheap X'
    exact ⟨t, step t a1, b1⟩
  · exact hz.elim
theorem s_clone {i : Nat} {ad : String} (had : ad = "[" ++ (zty 0).toString) (hx : p.tables.exec = Jvm.exec) (hb : c.code = cc) (hml : c.maxLocals = nL) (hdg : decode cc pc = .ok (.invokevirtual i, 3)) (hown : s.vm.findClass own = some m.cls) (hK : va_K D cl (ztys dA) s) (hR : bc ≤ R.cells ∧ bs ≤ R.slots)
    (hlink : (Jvm.Cond.methodLink own i ⟨ad, "clone", "()Ljava/lang/Object;"⟩).before args s = true) (hsame : (Jvm.Cond.sameMethod ad "java/lang/Object" "clone" "()Ljava/lang/Object;").before args s = true) (hnat : (Jvm.Cond.native ⟨"java/lang/Object", "clone", "()Ljava/lang/Object;"⟩).before args s = true) (hinst : (Jvm.Cond.instanceMethod ⟨"java/lang/Object", "clone", "()Ljava/lang/Object;"⟩).before args s = true) (hsel : (Jvm.Cond.selects ad ⟨ad, "clone", "()Ljava/lang/Object;"⟩ ⟨"java/lang/Object", "clone", "()Ljava/lang/Object;"⟩).before args s = true) (hcl : va_Nw (.castable ad "java/lang/Cloneable") s)
    (hframes : 1 ≤ R.frames) (hlocals : 30 ≤ R.locals) (hz : zex2 tt G bc bs rt M ret (wX p l e R s m args below meth c Q B D cl dA aS nL bc bs) (.castore, pc + 3, a, b, d, v) L st h cn sn) : wX p l e R s m args below meth c Q B D cl dA aS nL bc bs pc L st h cn sn := by
  intro hc1 hc2 H locs lsA hH hS hL
  unfold zex2 at hz
  dsimp only at hz
  split at hz
  · rename_i r s9
    obtain ⟨N, f, hr, ⟨hsum, hcc, hss⟩, k⟩ := hz
    have ha : H[B + r]? = some (vp_cell (dA 0) (N, .inl f)) := hH.2 _ _ hr
    have hnm : s.vm.findClass ad = some (dA 0) := by rw [had]; exact (hK.2 0 _ (ztys_get dA (by omega))).2
    obtain ⟨c0, t0', f1, f2, f3⟩ := Cond.castable_spec (va_Nw.use (A := args) rfl hcl)
    cases hnm.symm.trans f1
    intro T hT X
    have hcellT : T.heap[B + r]? = some (vp_cell (dA 0) (N, .inl f)) := by rw [hT]; exact ha
    obtain ⟨-, kA, hkA, comp, hkind⟩ := State.isArrayOf_alike X.warmed.alike ((hK.2 0 _ (ztys_get dA (by omega))).1 0 (fun _ => .null))
    obtain ⟨-, kS, hkS, compS, hkindS⟩ := (hK.2 0 _ (ztys_get dA (by omega))).1 0 (fun _ => .null)
    obtain ⟨vm', X', stp⟩ := X.cloneArray hx hown hlink hsame hnat hinst hsel (a := B + r) (cell := vp_cell (dA 0) (N, .inl f)) hcellT (fun k h => by cases h) (fun h => by cases h) hnm f2 f3
      (fun i v hv => by
        have hk' : T.vm.classes[dA 0]? = some kA := hkA
        have hfit : fits (zty 0) v = true := by
          have : ∃ z : Int32, v = .int z := by
            rw [vp_cell_i] at hv
            by_cases hi : i < N
            · rw [arrV_read _ _ hi] at hv
              exact ⟨_, (Option.some.inj hv).symm⟩
            · rw [Array.getElem?_eq_none (by rw [arrV_size]; omega)] at hv
              cases hv
          obtain ⟨z, rfl⟩ := this
          rfl
        show State.fitsSlot _ (dA 0) _ _ _ = true
        simpa [State.fitsSlot, State.slotType?, hk', hkind] using hfit)
      (g := F0 m pc lsA (.ref (B + r) :: s9.map (zcv B aS))) rfl (by rw [hml]; exact hL.2.1) rfl (by rw [hb]; exact hdg) hframes (by show 2 * 0 + _ + 14 ≤ _; rw [zsum_map]; omega) (by omega) (by show _ + (arrV _ N _).slots.size ≤ _; rw [arrV_size]; omega) (hloader := Vm.clonesLoader_of_array hkS hkindS)
    have hsz : (vp_cell (dA 0) (N, .inl f)).slots.size = N := arrV_size _ _ _
    have hcellE : ({ cls := (vp_cell (dA 0) (N, .inl f)).cls, slots := (vp_cell (dA 0) (N, .inl f)).slots } : Cell) = vp_cell (dA 0) (N, .inl f) := rfl
    rw [hcellE, hsz] at X'
    generalize hH1 : H.push (vp_cell (dA 0) (N, .inl f)) = H1
    have z1 : H1.size = H.size + 1 := by rw [← hH1, Array.size_push]
    have e1 : H1[H.size]? = some (vp_cell (dA 0) (N, .inl f)) := by rw [← hH1, Array.getElem?_push_size]
    have o1 : ∀ q : Nat, q < H.size → H1[q]? = H[q]? := fun q hq => by rw [← hH1, Array.getElem?_push, if_neg (Nat.ne_of_lt hq)]
    have h9 := k (by omega) (by omega) H1 locs lsA (hH.push (e := .inl (0, N, .inl f)) e1 z1 o1) (zS_push hS (by omega) o1) hL
    have e3 : (Value.ref h.length :: s9).map (zcv B aS) = .ref H.size :: s9.map (zcv B aS) := by rw [hH.1]; rfl
    rw [e3] at h9
    obtain ⟨t, b1, b2⟩ := h9 ((T.setVm vm').pushCell (vp_cell (dA 0) (N, .inl f))) (by rw [← hH1, ← hT]; rfl) X'
    refine ⟨t, stp t ?_, b2⟩
    rw [hcellE, hT]
    exact b1
  · exact hz.elim
end SIM8
