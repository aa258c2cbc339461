theorem ztoNat {i : Int} (h : 0 ≤ i) : ((i.toNat : Nat) : Int) = i := Int.toNat_of_nonneg h
noncomputable def zPc (B : Nat) (D : va_G) (cl : List vw_C) (dA : Nat → ClassId) (aS : Nat → Nat) (Z : State → Prop) (as : List Value) (h : zH) : Array Value → State → Prop := va_Pc (as.map (zcv B aS)) (fun U => zhR B D cl dA aS h U.heap ∧ va_K D cl (ztys dA) U ∧ Z U)
noncomputable def zQc (B : Nat) (D : va_G) (cl : List vw_C) (dA : Nat → ClassId) (aS : Nat → Nat) (K : zQ) : Array Value → State → Outcome → State → Prop := fun _ st o t => (∃ (w : Option Value) (h2 : zH), o = .returned (w.map (zcv B aS)) ∧ K w h2 ∧ zhR B D cl dA aS h2 t.heap) ∧ va_F (fun q => B ≤ q) st t
noncomputable def zrm (d mc ms : Nat) : Room := { frames := d + 8, cells := mc, slots := ms, locals := d * 64 + 512 }
theorem zrm_loc (d mc ms : Nat) : (zrm d mc ms).locals = d * 64 + 512 := rfl
theorem zrm_fr (d mc ms : Nat) : (zrm d mc ms).frames = d + 8 := rfl
theorem zrm_ok {d mc ms nL2 : Nat} {R : Room} (h1 : d + 9 ≤ R.frames) (h2 : d * 64 + 576 ≤ R.locals) (h3 : nL2 ≤ 40) : (zrm d mc ms).frames + 1 ≤ R.frames ∧ 8 + (nL2 + 11) + (zrm d mc ms).locals ≤ R.locals := by
  have e1 := zrm_loc d mc ms
  have e2 := zrm_fr d mc ms
  generalize (zrm d mc ms).locals = x at e1 ⊢
  generalize (zrm d mc ms).frames = y at e2 ⊢
  generalize R.frames = f at h1 ⊢
  generalize R.locals = o at h2 ⊢
  generalize d * 64 = z at e1 h2
  exact ⟨by omega, by omega⟩
/-- what the callees of depth d are worth in the machine -/
noncomputable def zMet (l : Launch) (nm : List (MethodName × ByteArray × Nat)) (G : zG) (B : Nat) (D : va_G) (cl : List vw_C) (dA : Nat → ClassId) (aS : Nat → Nat) (Z : State → Prop) (Ts : List Jvm.Cond) (d : Nat) (M : zM) : Prop := ∀ (j : Nat) (as : List Value) (h : zH) (K : zQ), M j as h K → ∀ (y : MethodName) (bytes : ByteArray) (np : Nat) (cd : zK) (nL : Nat) (rt : Option FieldType) (mc ms : Nat), nm[j]? = some (y, bytes, np) → G.1[j]? = some (cd, nL, rt, mc, ms) → Met l y (.code y bytes nL rt :: Ts) (zrm d mc ms) (zPc B D cl dA aS Z as h) (zQc B D cl dA aS K) mc ms (fun q => B ≤ q)
/-- what is known below the world's own cells, and stays -/
noncomputable def zStays (B : Nat) (Z : State → Prop) : Prop := (∀ s U : State, s.WarmedH U.vm → s.heap.size ≤ U.heap.size → (∀ q : Nat, q < B → U.heap[q]? = s.heap[q]?) → Z s → Z U) ∧ ∀ U V : State, V.heap = U.heap → V.vm = U.vm → Z U → Z V
theorem zPc_blind {B : Nat} {D : va_G} {cl : List vw_C} {dA : Nat → ClassId} {aS : Nat → Nat} {Z : State → Prop} (hZ : zStays B Z) {as : List Value} {h : zH} : FrameBlind (zPc B D cl dA aS Z as h) := fun a U g mk q => ⟨q.1, q.2.1, va_K.moved (u := U) (U := U.calling g mk a) (Vm.Alike.refl U.vm) q.2.2.1, hZ.2 U _ rfl rfl q.2.2.2⟩
section SIM3
variable {p : Program} {l : Launch} {e : Env} {R : Room} {s : State} {m : MethodId} {args : Array Value} {below : List Frame} {meth : Method} {c : Code} {Q : State → Prop} {cc : ByteArray} {B : Nat} {D : va_G} {cl : List vw_C} {dA : Nat → ClassId} {aS : Nat → Nat} {nL bc bs pc : Nat}
variable {a b d : Nat} {v : Value} {L : zL} {st : List Value} {h : zH} {cn sn : Nat}
variable {tt : zT} {G : zG} {rt : Option FieldType} {M : zM} {ret : zQ} {Ts : List Jvm.Cond} {own : String} {Z : State → Prop}
theorem s_tableswitch {df lo hi dflt : Int} {tg offs : Array Int} {len : Nat} (hx : p.tables.exec = Jvm.exec) (hb : c.code = cc) (hdg : decode cc pc = .ok (.tableswitch dflt lo hi offs, len)) (h1 : df = (pc : Int) + dflt) (h2 : tg = offs.map (fun o => (pc : Int) + o)) (h3 : 0 ≤ df) (h4 : ∀ t ∈ tg, (0 : Int) ≤ t) {nx : Nat} (hz : zex2 tt G bc bs rt M ret (wX p l e R s m args below meth c Q B D cl dA aS nL bc bs) (.tableswitch df lo hi tg, nx, a, b, d, v) L st h cn sn) : wX p l e R s m args below meth c Q B D cl dA aS nL bc bs pc L st h cn sn := by
  intro hc1 hc2 H locs lsA hH hS hL
  unfold zex2 at hz
  dsimp only at hz
  split at hz
  · rename_i x s9
    by_cases q1 : x.toInt < lo ∨ hi < x.toInt
    · exact lv_tableOut hx hb hdg q1 (by rw [ztoNat h3, h1]) (hz.1 q1 hc1 hc2 _ _ _ hH hS hL)
    · have q2 : ¬ x.toInt < lo := fun q => q1 (Or.inl q)
      have q3 : ¬ hi < x.toInt := fun q => q1 (Or.inr q)
      obtain ⟨t, ht, k⟩ := hz.2 q2 q3
      have ht0 : 0 ≤ t := h4 t (Array.mem_of_getElem? ht)
      rw [h2, Array.getElem?_map] at ht
      obtain ⟨off, ho, rfl⟩ := Option.map_eq_some_iff.mp ht
      exact lv_tableIn hx hb hdg q2 q3 ho (by rw [ztoNat ht0]) (k hc1 hc2 _ _ _ hH hS hL)
  · exact hz.elim
theorem zoff_map (pc : Int) (x : Int) (df : Int) : ∀ ps : List (Int × Int), Op.lookupswitch.offset (ps.map (fun q => (q.1, pc + q.2))) (pc + df) x = pc + Op.lookupswitch.offset ps df x
  | [] => rfl
  | (k, o) :: r => by
    rw [List.map_cons]
    unfold Op.lookupswitch.offset
    by_cases q : k = x
    · rw [if_pos q, if_pos q]
    · rw [if_neg q, if_neg q]
      exact zoff_map pc x df r
theorem s_lookupswitch {df dflt : Int} {qs ps : Array (Int × Int)} {len : Nat} (hx : p.tables.exec = Jvm.exec) (hb : c.code = cc) (hdg : decode cc pc = .ok (.lookupswitch dflt ps, len)) (hp : (ps.toList.zip (ps.toList.drop 1)).all (fun (a, next) => a.1 < next.1) = true) (h1 : df = (pc : Int) + dflt) (h2 : qs.toList = ps.toList.map (fun q => (q.1, (pc : Int) + q.2))) (h3 : 0 ≤ df) (h4 : ∀ t ∈ qs.toList, (0 : Int) ≤ t.2) {nx : Nat} (hz : zex2 tt G bc bs rt M ret (wX p l e R s m args below meth c Q B D cl dA aS nL bc bs) (.lookupswitch df qs, nx, a, b, d, v) L st h cn sn) : wX p l e R s m args below meth c Q B D cl dA aS nL bc bs pc L st h cn sn := by
  intro hc1 hc2 H locs lsA hH hS hL
  unfold zex2 at hz
  dsimp only at hz
  split at hz
  · rename_i x s9
    have e1 : Op.lookupswitch.offset qs.toList df x.toInt = (pc : Int) + Op.lookupswitch.offset ps.toList dflt x.toInt := by rw [h2, h1, zoff_map]
    have e2 : ∀ (qs : List (Int × Int)) (df : Int), 0 ≤ df → (∀ t ∈ qs, (0 : Int) ≤ t.2) → 0 ≤ Op.lookupswitch.offset qs df x.toInt := by
      intro qs
      induction qs with
      | nil => intro df h3 _; exact h3
      | cons q r ih =>
        intro df h3 h4
        obtain ⟨k, o⟩ := q
        unfold Op.lookupswitch.offset
        by_cases q : k = x.toInt
        · rw [if_pos q]; exact h4 _ List.mem_cons_self
        · rw [if_neg q]; exact ih df h3 (fun t ht => h4 t (List.mem_cons_of_mem _ ht))
    have e3 := e2 qs.toList df h3 h4
    exact lv_lookup hx hb hdg hp rfl (by rw [ztoNat e3, e1]) (hz hc1 hc2 _ _ _ hH hS hL)
  · exact hz.elim
theorem s_objInit {i : Nat} (hx : p.tables.exec = Jvm.exec) (hb : c.code = cc) (hml : c.maxLocals = nL) (hdg : decode cc pc = .ok (.invokespecial i, 3)) (hown : s.vm.findClass own = some m.cls) (hlink : (Jvm.Cond.methodLink own i Lib.objectInit).before args s = true) (hinst : (Jvm.Cond.instanceMethod Lib.objectInit).before args s = true) (hcode : (Jvm.Cond.code Lib.objectInit ⟨#[0xb1]⟩ 1 none).before args s = true) (hR1 : 1 ≤ R.frames) (hR2 : 20 ≤ R.locals) (hz : zex2 tt G bc bs rt M ret (wX p l e R s m args below meth c Q B D cl dA aS nL bc bs) (.pop2, pc + 3, a, b, d, v) L st h cn sn) : wX p l e R s m args below meth c Q B D cl dA aS nL bc bs pc L st h cn sn := by
  intro hc1 hc2 H locs lsA hH hS hL
  unfold zex2 at hz
  dsimp only at hz
  split at hz
  · rename_i r s9
    have h8 : ((s9.map (zcv B aS)).map fun v => v.category).sum ≤ 8 := by rw [zcv_sum]; exact hz.1
    have h9 : 2 * (F0 m pc lsA ((Value.ref r :: s9).map (zcv B aS))).monitorRoom + ((s9.map (zcv B aS)).map fun v => v.category).sum ≤ 8 := lv_room h8
    exact W.objInit hx hb hown hlink hinst hcode rfl (hL.2.1.trans hml.symm) rfl hdg hR1 (by omega) (hz.2 hc1 hc2 _ _ _ hH hS hL)
  · exact hz.elim
/-- behind a call -/
theorem zcall {mc ms : Nat} {K : zQ} {arr : Array Value} {lsA : Array Slot} {st0 rest : List Value} {H : Heap} {locs : List Loc} (hr : va_Run p l e R s m args below meth c H locs cn sn mc ms (F0 m pc lsA st0) rest (zQc B D cl dA aS K arr) (fun q => B ≤ q)) (hS : va_S (fun q => B ≤ q) s.heap H locs)
    (kk : ∀ (w : Option Value) (h2 : zH) (H1 : Heap) (locs1 : List Loc), K w h2 → zhR B D cl dA aS h2 H1 → va_S (fun q => B ≤ q) s.heap H1 locs1 → W p l e R s m args below meth c H1 locs1 (cn + mc) (sn + ms) Q (F0 m (pc + 3) lsA ((w.map (zcv B aS)).toList ++ rest))) : W p l e R s m args below meth c H locs cn sn Q (F0 m pc lsA st0) := by
  intro T hT X
  obtain ⟨v9, st1, t, T', L9, h0, X', hL9, e1, e2, ⟨⟨w, h2, ho, hk, hh2⟩, hF1, hF2⟩, st9⟩ := hr T hT X
  rw [h0] at hF1 hF2
  cases ho
  obtain ⟨t2, a1, b1⟩ := kk w h2 T'.heap (locs ++ L9) hk (by rw [e1]; exact hh2) ⟨by rw [e1]; exact Nat.le_trans hS.1 hF1, fun q g1 g2 => by rw [e1, hF2 q (Nat.lt_of_lt_of_le g1 hS.1) g2]; exact hS.2.1 q g1 g2, fun q hq => by
    rcases List.mem_append.mp hq with h9 | h9
    · exact hS.2.2 q h9
    · exact hL9 q h9⟩ T' rfl X'
  exact ⟨t2, st9 t2 a1, b1⟩
theorem zcv_toList (w : Option Value) (s9 : List Value) : (w.toList ++ s9).map (zcv B aS) = (w.map (zcv B aS)).toList ++ s9.map (zcv B aS) := by cases w <;> rfl
/-- the callee's start, out of the caller's world -/
theorem zpre {as : List Value} {H : Heap} {locs : List Loc} (hZ : zStays B Z) (hBs : B ≤ s.heap.size) (hK : va_K D cl (ztys dA) s) (hZs : Z s) (hH : zhR B D cl dA aS h H) (hS : va_S (fun q => B ≤ q) s.heap H locs) (U : State) (hU : U.heap = H) (hW : s.WarmedH U.vm) : zPc B D cl dA aS Z as h (as.map (zcv B aS)).toArray U := by
  refine ⟨rfl, by rw [hU]; exact hH, va_K.moved hW.alike hK, hZ.1 s U hW (by rw [hU]; exact hS.1) (fun q hq => ?_) hZs⟩
  rw [hU]
  exact hS.2.1 q (by omega) (Nat.not_le.mpr hq)
theorem s_virt {nm : List (MethodName × ByteArray × Nat)} {y : MethodName} {bytes : ByteArray} {cd : zK} {nL2 mc ms i d9 : Nat} {rt2 : Option FieldType} {T : u_T} {N : Nat} (hx : p.tables.exec = Jvm.exec) (hb : c.code = cc) (hml : c.maxLocals = nL) (hdg : decode cc pc = .ok (.invokevirtual i, 3)) (hts : ∀ w ∈ Ts, w.before args s = true) (hG : GoodIn Ts Ts) (hown : s.vm.findClass own = some m.cls) (hK : va_K D cl (ztys dA) s) (hZ : zStays B Z) (hZs : Z s) (hBs : B ≤ s.heap.size) (hM : zMet l nm G B D cl dA aS Z Ts d9 M)
    (hR : bc ≤ R.cells ∧ bs ≤ R.slots) (hR1 : d9 + 9 ≤ R.frames) (hR2 : d9 * 64 + 576 ≤ R.locals) (h1 : nm[a]? = some (y, bytes, b)) (h2 : G.1[a]? = some (cd, nL2, rt2, mc, ms)) (h3 : nL2 ≤ 40) (hc : cl[d]? = some (y.cls, T, N)) (w1 : Jvm.Cond.methodLink own i y ∈ Ts) (w2 : Jvm.Cond.instanceMethod y ∈ Ts) (w3 : Jvm.Cond.selects y.cls y y ∈ Ts) (w4 : Jvm.Cond.initialized y.cls ∈ Ts) (w5 : Jvm.Cond.code y bytes nL2 rt2 ∈ Ts)
    (hd : y.cls ≠ "java/lang/invoke/MethodHandle" ∧ y.cls ≠ "java/lang/invoke/VarHandle" ∧ (parseMethodDescriptor y.desc).map (fun d => d.parameters.length) = some b) {z9 : Nat} (hz : zex2 tt G bc bs rt M ret (wX p l e R s m args below meth c Q B D cl dA aS nL bc bs) (.invokevirtual z9, pc + 3, a, b, d, v) L st h cn sn) : wX p l e R s m args below meth c Q B D cl dA aS nL bc bs pc L st h cn sn := by
  intro hc1 hc2 H locs lsA hH hS hL
  unfold zex2 at hz
  dsimp only at hz
  have hbud : zbud G a = (mc, ms) := by unfold zbud; rw [h2]
  rw [hbud] at hz
  split at hz
  · rename_i r s9 hdrop
    obtain ⟨g1, ⟨fs, g2⟩, g3, g4, g5, g6⟩ := hz
    have hst : st = (st.take b).reverse.reverse ++ .ref r :: s9 := by rw [List.reverse_reverse, ← hdrop, List.take_append_drop]
    generalize has : (st.take b).reverse = as at g6 hst
    have hlen : as.length = b := by rw [← has, List.length_reverse]; exact g1
    have hMet := hM a _ h _ g6 y bytes b cd nL2 rt2 mc ms h1 h2
    have hGc : GoodIn Ts (wsV own i y.cls y (.code y bytes nL2 rt2 :: Ts)) := fun w hw => by
      rcases List.mem_append.mp hw with q | q
      · rcases List.mem_cons.mp q with rfl | q
        · exact hG _ w1
        rcases List.mem_cons.mp q with rfl | q
        · exact hG _ w2
        rcases List.mem_cons.mp q with rfl | q
        · exact hG _ w3
        rcases List.mem_cons.mp q with rfl | q
        · exact hG _ w4
        cases q
      · rcases List.mem_cons.mp q with rfl | q
        · exact hG _ w5
        · exact hG _ q
    have h8 : ((s9.map (zcv B aS)).map fun v => v.category).sum ≤ 8 := by rw [zcv_sum]; exact g3
    have hstk : st.map (zcv B aS) = (as.map (zcv B aS)).reverse ++ .ref (B + r) :: s9.map (zcv B aS) := by rw [hst, List.map_append, List.map_reverse]; rfl
    refine zcall (va_runV (As := as.map (zcv B aS)) (rest := s9.map (zcv B aS)) ⟨hx, hb, hml, hown, hts⟩ hMet (cwV b hts hGc rfl rfl rfl ⟨rfl, hd⟩ (zrm_ok hR1 hR2 h3)) ⟨zPc_blind hZ, va_recv hK (zP1 (hH.2 _ _ g2)) (q0 := 0) hc rfl, fun U hU hW => zpre hZ hBs hK hZs hH hS U hU hW⟩ rfl (by rw [List.length_map]; exact hlen) hL.2.1 hstk (lv_room h8) hdg ⟨by omega, by omega⟩) hS (fun w h3 H1 locs1 hk hh2 hS2 => ?_)
    have h9 := hk (by omega) (by omega) H1 locs1 lsA hh2 hS2 hL
    rw [zcv_toList] at h9
    exact h9
  · exact hz.elim
theorem s_spec {nm : List (MethodName × ByteArray × Nat)} {y : MethodName} {bytes : ByteArray} {cd : zK} {nL2 mc ms i d9 : Nat} (hx : p.tables.exec = Jvm.exec) (hb : c.code = cc) (hml : c.maxLocals = nL) (hdg : decode cc pc = .ok (.invokespecial i, 3)) (hts : ∀ w ∈ Ts, w.before args s = true) (hG : GoodIn Ts Ts) (hown : s.vm.findClass own = some m.cls) (hK : va_K D cl (ztys dA) s) (hZ : zStays B Z) (hZs : Z s) (hBs : B ≤ s.heap.size) (hM : zMet l nm G B D cl dA aS Z Ts d9 M)
    (hR : bc ≤ R.cells ∧ bs ≤ R.slots) (hR1 : d9 + 9 ≤ R.frames) (hR2 : d9 * 64 + 576 ≤ R.locals) (h1 : nm[a]? = some (y, bytes, b)) (h2 : G.1[a]? = some (cd, nL2, none, mc, ms)) (h3 : nL2 ≤ 40) (w1 : Jvm.Cond.methodLink own i y ∈ Ts ∨ ∃ host, va_Nw (Jvm.Cond.methodLinkNest own i y host) s) (w2 : Jvm.Cond.instanceMethod y ∈ Ts) (w4 : Jvm.Cond.initialized y.cls ∈ Ts) (w5 : Jvm.Cond.code y bytes nL2 none ∈ Ts) (hy : y.name = "<init>")
    (hd : y.cls ≠ "java/lang/invoke/MethodHandle" ∧ y.cls ≠ "java/lang/invoke/VarHandle" ∧ (parseMethodDescriptor y.desc).map (fun d => d.parameters.length) = some b) {z9 : Nat} (hz : zex2 tt G bc bs rt M ret (wX p l e R s m args below meth c Q B D cl dA aS nL bc bs) (.invokespecial z9, pc + 3, a, b, d, v) L st h cn sn) : wX p l e R s m args below meth c Q B D cl dA aS nL bc bs pc L st h cn sn := by
  intro hc1 hc2 H locs lsA hH hS hL
  unfold zex2 at hz
  dsimp only at hz
  have hbud : zbud G a = (mc, ms) := by unfold zbud; rw [h2]
  rw [hbud] at hz
  split at hz
  · rename_i r s9 hdrop
    obtain ⟨g1, g3, g4, g5, g6⟩ := hz
    have hst : st = (st.take b).reverse.reverse ++ .ref r :: s9 := by rw [List.reverse_reverse, ← hdrop, List.take_append_drop]
    generalize has : (st.take b).reverse = as at g6 hst
    have hlen : as.length = b := by rw [← has, List.length_reverse]; exact g1
    have hMet := hM a _ h _ g6 y bytes b cd nL2 none mc ms h1 h2
    have hGc : GoodIn Ts (.code y bytes nL2 none :: Ts) := fun w hw => by
      rcases List.mem_cons.mp hw with rfl | q
      · exact hG _ w5
      · exact hG _ q
    have h8 : ((s9.map (zcv B aS)).map fun v => v.category).sum ≤ 8 := by rw [zcv_sum]; exact g3
    have hstk : st.map (zcv B aS) = (as.map (zcv B aS)).reverse ++ .ref (B + r) :: s9.map (zcv B aS) := by rw [hst, List.map_append, List.map_reverse]; rfl
    refine zcall (B := B) (D := D) (cl := cl) (dA := dA) (aS := aS) (K := fun w h2 => wX p l e R s m args below meth c Q B D cl dA aS nL bc bs (pc + 3) L (w.toList ++ s9) h2 (cn + mc) (sn + ms)) (mc := mc) (ms := ms) (rest := s9.map (zcv B aS)) (arr := (Value.ref (B + r) :: as.map (zcv B aS)).toArray) ?_ hS (fun w h3 H1 locs1 hk hh2 hS2 => ?_)
    · rcases w1 with w1 | ⟨host, w1⟩
      · exact va_runI (As := as.map (zcv B aS)) (rest := s9.map (zcv B aS)) ⟨hx, hb, hml, hown, hts⟩ hMet (cwI b hts hGc rfl rfl rfl (hts _ w4) (hts _ w1) (hts _ w2) hy hd (zrm_ok hR1 hR2 h3)) ⟨zPc_blind hZ, fun U hU hW => zpre hZ hBs hK hZs hH hS U hU hW⟩ rfl (by rw [List.length_map]; exact hlen) hL.2.1 hstk (lv_room h8) hdg ⟨by omega, by omega⟩
      · exact va_runIN (As := as.map (zcv B aS)) (rest := s9.map (zcv B aS)) ⟨hx, hb, hml, hown, hts⟩ hMet ⟨va_cnB b hts hGc rfl rfl rfl w1 (hts _ w4) hd (zrm_ok hR1 hR2 h3), hy, hts _ w2⟩ ⟨zPc_blind hZ, fun U hU hW => zpre hZ hBs hK hZs hH hS U hU hW⟩ rfl (by rw [List.length_map]; exact hlen) hL.2.1 hstk (lv_room h8) hdg ⟨by omega, by omega⟩
    · have h9 := hk (by omega) (by omega) H1 locs1 lsA hh2 hS2 hL
      rw [zcv_toList] at h9
      exact h9
  · exact hz.elim
theorem s_stat {nm : List (MethodName × ByteArray × Nat)} {y : MethodName} {bytes : ByteArray} {cd : zK} {nL2 mc ms i d9 : Nat} {rt2 : Option FieldType} (hx : p.tables.exec = Jvm.exec) (hb : c.code = cc) (hml : c.maxLocals = nL) (hdg : decode cc pc = .ok (.invokestatic i, 3)) (hts : ∀ w ∈ Ts, w.before args s = true) (hG : GoodIn Ts Ts) (hown : s.vm.findClass own = some m.cls) (hK : va_K D cl (ztys dA) s) (hZ : zStays B Z) (hZs : Z s) (hBs : B ≤ s.heap.size) (hM : zMet l nm G B D cl dA aS Z Ts d9 M)
    (hR : bc ≤ R.cells ∧ bs ≤ R.slots) (hR1 : d9 + 9 ≤ R.frames) (hR2 : d9 * 64 + 576 ≤ R.locals) (h1 : nm[a]? = some (y, bytes, b)) (h2 : G.1[a]? = some (cd, nL2, rt2, mc, ms)) (h3 : nL2 ≤ 40) (w1 : Jvm.Cond.methodLink own i y ∈ Ts ∨ ∃ host, va_Nw (Jvm.Cond.methodLinkNest own i y host) s) (w2 : Jvm.Cond.static y ∈ Ts) (w4 : Jvm.Cond.initialized y.cls ∈ Ts) (w5 : Jvm.Cond.code y bytes nL2 rt2 ∈ Ts)
    (hd : y.cls ≠ "java/lang/invoke/MethodHandle" ∧ y.cls ≠ "java/lang/invoke/VarHandle" ∧ (parseMethodDescriptor y.desc).map (fun d => d.parameters.length) = some b) {z9 : Nat} (hz : zex2 tt G bc bs rt M ret (wX p l e R s m args below meth c Q B D cl dA aS nL bc bs) (.invokestatic z9, pc + 3, a, b, d, v) L st h cn sn) : wX p l e R s m args below meth c Q B D cl dA aS nL bc bs pc L st h cn sn := by
  intro hc1 hc2 H locs lsA hH hS hL
  unfold zex2 at hz
  dsimp only at hz
  have hbud : zbud G a = (mc, ms) := by unfold zbud; rw [h2]
  rw [hbud] at hz
  obtain ⟨g1, g3, g4, g5, g6⟩ := hz
  have hst : st = (st.take b).reverse.reverse ++ st.drop b := by rw [List.reverse_reverse, List.take_append_drop]
  generalize has : (st.take b).reverse = as at g6 hst
  generalize hs9 : st.drop b = s9 at g6 g3 hst
  have hlen : as.length = b := by rw [← has, List.length_reverse]; exact g1
  have hMet := hM a _ h _ g6 y bytes b cd nL2 rt2 mc ms h1 h2
  have hGc : GoodIn Ts (.code y bytes nL2 rt2 :: Ts) := fun w hw => by
    rcases List.mem_cons.mp hw with rfl | q
    · exact hG _ w5
    · exact hG _ q
  have h8 : ((s9.map (zcv B aS)).map fun v => v.category).sum ≤ 8 := by rw [zcv_sum]; exact g3
  have hstk : st.map (zcv B aS) = (as.map (zcv B aS)).reverse ++ s9.map (zcv B aS) := by rw [hst, List.map_append, List.map_reverse]
  refine zcall (B := B) (D := D) (cl := cl) (dA := dA) (aS := aS) (K := fun w h2 => wX p l e R s m args below meth c Q B D cl dA aS nL bc bs (pc + 3) L (w.toList ++ s9) h2 (cn + mc) (sn + ms)) (mc := mc) (ms := ms) (rest := s9.map (zcv B aS)) (arr := (as.map (zcv B aS)).toArray) ?_ hS (fun w h3 H1 locs1 hk hh2 hS2 => ?_)
  · rcases w1 with w1 | ⟨host, w1⟩
    · refine va_runS (As := as.map (zcv B aS)) (rest := s9.map (zcv B aS)) ⟨hx, hb, hml, hown, hts⟩ hMet (va_cwS b hts (fun w hw => ?_) rfl rfl rfl hd (zrm_ok hR1 hR2 h3)) ⟨zPc_blind hZ, fun U hU hW => zpre hZ hBs hK hZs hH hS U hU hW⟩ rfl (by rw [List.length_map]; exact hlen) hL.2.1 hstk (lv_room h8) hdg ⟨by omega, by omega⟩
      rcases List.mem_append.mp hw with q | q
      · rcases List.mem_cons.mp q with rfl | q
        · exact hG _ w1
        rcases List.mem_cons.mp q with rfl | q
        · exact hG _ w2
        rcases List.mem_cons.mp q with rfl | q
        · exact hG _ w4
        cases q
      · exact hGc _ q
    · exact va_runSN (As := as.map (zcv B aS)) (rest := s9.map (zcv B aS)) ⟨hx, hb, hml, hown, hts⟩ hMet ⟨va_cnB b hts hGc rfl rfl rfl w1 (hts _ w4) hd (zrm_ok hR1 hR2 h3), hts _ w2, trivial⟩ ⟨zPc_blind hZ, fun U hU hW => zpre hZ hBs hK hZs hH hS U hU hW⟩ rfl (by rw [List.length_map]; exact hlen) hL.2.1 hstk (lv_room h8) hdg ⟨by omega, by omega⟩
  · have h9 := hk (by omega) (by omega) H1 locs1 lsA hh2 hS2 hL
    rw [zcv_toList] at h9
    exact h9
end SIM3
