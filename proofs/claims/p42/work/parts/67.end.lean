set_option maxHeartbeats 4000000 in
theorem whole_start {p : Program} {e : Env} {s : State} {m : MethodId} {below : List Frame} {meth : Method} {c : Code} (l : Launch) (hflags : l.flags = flags0) {b L : Nat} {xs : Nat → Int32} (hL : L ≤ 4096) (C0 : lw_At p s m meth c b L xs) : W p l e room_1 s m #[Value.ref b] below meth c s.heap [] 0 0 (lw_Z below #[Value.ref b] s) (entryFrame m ([Value.ref b] : List Value).toArray 4) := by
  obtain ⟨hx, hb, hr, hml, hown, hts, hX, hbl, hlocks, hgv⟩ := id C0
  have hfl : ∀ w ∈ zfl, w.before #[Value.ref b] s = true := flat_of_before _ hgv
  obtain ⟨aK, aV, hSt, he⟩ := zSt_of hts hfl
  obtain ⟨dA, hdA⟩ := zarr_known hts
  have h0 : ∀ k : Nat, ∃ x : ClassId × (Nat → Nat), ∀ q : vw_C, zCl[k]? = some q → u_Kn s q.1 q.2.1 q.2.2 x.1 x.2 := by
    intro k
    cases hq : zCl[k]? with
    | none => exact ⟨(dA 0, fun _ => 0), fun q h => by cases h⟩
    | some q =>
      obtain ⟨c9, iS, h⟩ := zcls_known hts k q hq
      exact ⟨(c9, iS), fun q2 h2 => by cases h2; exact h⟩
  obtain ⟨dC, hdC⟩ := Classical.axiomOfChoice h0
  have hK : va_K (fun k => (dC k).1, fun k => (dC k).2) zCl (ztys dA) s := ⟨fun k q hq => hdC k q hq, hdA⟩
  generalize ((fun k => (dC k).1, fun k => (dC k).2) : va_G) = D at hK
  obtain ⟨aS, hS0, hS1⟩ : ∃ aS : Nat → Nat, aS 0 = b ∧ ∀ k, ztx k ≠ [] → aS k = aK k := ⟨fun k => if k = 0 then b else aK k, rfl, fun k hk => if_neg (fun e => hk (by rw [e]; rfl))⟩
  have hSt2 : zSt s.heap.size aS aV ztx s := ⟨hSt.1, hSt.2.1, fun k hk => by rw [hS1 k hk]; exact hSt.2.2 k hk⟩
  have hZs : zZ s.heap.size aS aV s := ⟨Nat.le_refl _, hSt2, fun w hw hsp => zspec_args hsp (hts w hw), zsg_of hts he aS hS1⟩
  have hT : ∀ w ∈ zTs, w.before #[Value.ref b] s = true := fun w hw => hts w (List.mem_filter.mp hw).1
  have hM : zMet l zNm (zProg, ztx, L, xs) s.heap.size D zCl dA aS (zZ s.heap.size aS aV) zTs 64 (zW zTt (zProg, ztx, L, xs) 64) := zMet_all l (fun p w h => zin_mem h) (fun U hU p w h1 h2 => hU.2.2.1 w (ziu_mem h1) h2) zGood zTT_G zMok_G zPok_G zZ_stays zZ_so 64
  have hH : zhR s.heap.size D zCl dA aS [] s.heap := ⟨rfl, fun i e h => by simp at h⟩
  rw [lg_entry_eq]
  have hE := zentry_has (as := [.retAddr 0]) (nL := 4) (zcv_cat s.heap.size aS) (Nat.le_of_ble_eq_true rfl)
  rw [show [Value.retAddr 0].map (zcv s.heap.size aS) = [.ref b] from by show [Value.ref (aS 0)] = _; rw [hS0]] at hE
  refine law_run (G := (zProg, ztx, L, xs)) rfl rfl hL (wX p l e room_1 s m #[Value.ref b] below meth c (lw_Z below #[Value.ref b] s) s.heap.size D zCl dA aS 4 600000 7302250) ?_ (Nat.zero_le _) (Nat.zero_le _) s.heap [] _ hH va_S.rf hE
  intro pc L9 st h' cn sn hz
  unfold zstep at hz
  split at hz
  · rename_i ze hze
    obtain ⟨raw, len, ps, g1, g2, g3⟩ := ck_L pc ze hze
    refine zsnd (R := room_1) (Z := zZ s.heap.size aS aV) hx hb hml hT zGood zTT_G zMok_G hown (fun q => by cases q) hK zZ_stays hZs (Nat.le_refl _) hM (fun _ => ⟨by rw [hS0]; exact hbl, by rw [hS0]; exact Nat.not_le.mpr hbl, by rw [hS0]; exact hX⟩) zZ_so ⟨Nat.le_refl _, Nat.le_refl _⟩ (by decide) (by decide) ?_ ?_ ?_ ?_ g1 g2 (fun p w h => zin_mem h) (fun p w h1 h2 => hZs.2.2.1 w (ziu_mem h1) h2) g3 hz
    · intro x h9 H locs lsA pc9 cn9 sn9 q1 q2 q3 q4 q5 q6 q7
      have e1 : some (Value.int x) = some (Value.int 1) := q1
      cases e1
      refine va_forget q5.2.2 ?_
      refine W.widen q2 q3 ?_
      exact lw_ret hx hb hr hlocks q6
    · intro x h9 H locs lsA pc9 cn9 sn9 q1
      have e1 : some (Value.long x) = some (Value.int 1) := q1
      cases e1
    · intro w h9 H locs lsA pc9 cn9 sn9 q0 q1
      have e1 : some w = some (Value.int 1) := q1
      cases e1
      rcases q0 with q | ⟨r, q⟩ | ⟨r, q⟩ <;> cases q
    · intro h9 H locs lsA pc9 cn9 sn9 q1
      have e1 : (none : Option Value) = some (Value.int 1) := q1
      cases e1
  · exact hz.elim
-- ===== YOUR PART ENDS =====
set_option maxHeartbeats 4000000 in
theorem lw_walk (l : Launch) (hflags : l.flags = flags0) (b : Addr) (xs : List Int32) : MetFree l x (headSpec (Jvm.Cond.code x code maxLocals ret :: tables_1) room_1) (lw_P b xs) (fun _ _ _ _ _ => True) lw_Q := by
  refine MetFree.of_bodyS (code := code) (maxLocals := maxLocals) (ret := ret) (by decide) ?_ ?_
  · intro args s m h hn
    obtain ⟨meth, c, h1, h2, h3, h4, h5, h6, -, -⟩ := Cond.code_spec hn (atoms_spec (ws := Jvm.Cond.code x code maxLocals ret :: tables_1) h _ List.mem_cons_self)
    exact ⟨meth, c, h1, h2, h3, h4, h5, h6⟩
  · intro p e s m args below meth c s₁ B hml0 hP _
    obtain ⟨rfl, hx, hbd, hgv⟩ := hP
    obtain ⟨scr, harrAt, hlist, hof, hsmall⟩ := hx
    obtain ⟨hcb, hkn, -, -⟩ := State.arrayAt?_spec harrAt
    have hown : s.vm.findClass R_law = some m.cls := findClass_of_methodNamed B.named
    have hts0 : ∀ c ∈ (Jvm.Cond.code x code maxLocals ret :: tables_1), c.before #[Value.ref b] s = true := atoms_spec (ws := Jvm.Cond.code x code maxLocals ret :: tables_1) B.pre
    have hts : ∀ w ∈ lw_tbl, w.before #[Value.ref b] s = true := k2_hts_sels lw_privs (fun w hw => hts0 w (List.mem_cons_of_mem _ hw)) lw_privs_ok
    have hml : c.maxLocals = 4 := B.maxLocals_eq (hts0 _ List.mem_cons_self)
    have X₀ : Stand p l e room_1 s m #[Value.ref b] below meth c s₁ [] 0 0 := Stand.of_body B
    have hh0 : s₁.heap = s.heap := by rw [B.state]; rfl
    have hsz : scr.slots.size = xs.length := by rw [← Array.length_toList, hlist, List.length_map]
    have hval : ∀ j : Nat, j < xs.length → scr.slots[j]? = some (.int (xs.getD j 0)) := fun j hj => by
      rw [← Array.getElem?_toList, hlist]
      simp [hj]
    have hbl : b < s.heap.size := (Array.getElem?_eq_some_iff.mp hcb).1
    have hX : va_X b xs.length (fun j => xs.getD j 0) s s.heap := ⟨scr, hcb, hof, hkn, hsz, hval⟩
    have K : W p l e room_1 s m #[Value.ref b] below meth c s₁.heap [] 0 0 (lw_Z below #[Value.ref b] s) (entryFrame m ([Value.ref b] : List Value).toArray 4) := by
      rw [hh0]
      exact whole_start l hflags hbd ⟨B.exec, B.bytes, B.returns, hml, hown, hts, hX, hbl, B.notSynchronized, hgv⟩
    obtain ⟨t, a1, o, b1, b2, b3⟩ := K s₁ rfl X₀
    exact ⟨t, o, a1, b1, b2, b3⟩
theorem lw_pre_spec {args : Array Value} {s : State} (h : (Jvm.Cond.and given_1 narrow_1).before args s = true) (hr : rest_1_c.before args s = true) : ∃ (b : Addr) (xs : List Int32), lw_P b xs args s := by
  have hs := flat_of_before _ h
  have hq := flat_of_before _ hr
  have hc : (Cond.count 1).before args s = true := hs _ (by decide +kernel)
  have harr : (Cond.arrayOf (.arg 0) .int).before args s = true := hs _ (by decide +kernel)
  have hle : (Cond.le (.length (.arg 0)) (.int 4096)).before args s = true := hs _ (by decide +kernel)
  have hlen : (Cond.isInt (.length (.arg 0))).before args s = true := hq _ (by decide +kernel)
  have hall : (Cond.all (.arg 0) (.isInt (.elem (.arg 0) (.index 0)))).before args s = true := hq _ (by decide +kernel)
  obtain ⟨b, xs, hb, hx⟩ := State.ints_of_pre rfl harr hlen hall
  have hsm : xs.length < 2 ^ 31 := hx.choose_spec.2.2.2
  have hev : (Term.length (.arg 0)).eval args s none [] s = some (.int xs.length.toInt32) := hx.length_eval hb
  have hv := Cond.le_ints hev (show (Term.int 4096).eval args s none [] s = some (.int 4096) from rfl)
  have hd : xs.length.toInt32 ≤ 4096 := by
    simpa [Cond.before, Cond.holds, hv] using hle
  have hN : xs.length ≤ 4096 := (Int32.ofNat_le_ofNat hsm (by decide)).mp (show Int32.ofNat xs.length ≤ Int32.ofNat 4096 from hd)
  exact ⟨b, xs, Cond.one_arg hc (show args[0]? = some (.ref b) from hb), hx, hN, h⟩
theorem lw_comes (l : Launch) (hflags : l.flags = flags0) : Comes l x (Jvm.Cond.code x code maxLocals ret :: tables_1) room_1 (fun tb e args s => Calls_1 tb e args s ∧ rest_1 tb e args s ∧ Pre_1 tb e args s)
    (fun _ _ args s o t => lw_Q args s o t) := by
  intro p e ha hc hk s m args below hf hfit hheap happ hpre
  obtain ⟨b, xs, hP⟩ := lw_pre_spec hpre.2.2 hpre.2.1
  obtain ⟨k, o, h1, h2, h3, hQ⟩ := lw_walk l hflags b xs p e ha hc hk s m args below hf ((Spec.applies_iff_loose hf).mp happ).1 hP trivial
  exact ⟨k, o, h1, h2, h3, hQ⟩
theorem lw_frame {s t : State} {o : Outcome} {args : Array Value} (h : Framed s o t [] 600000 7302250) :
    Framed s o t (fieldLocs frame_1_writes args s ++ arrayLocs frame_1_arrays args s ++ staticLocs frame_1_statics s) 600000 7302250 := h
theorem lw_limb (L : Cond) (hL : ∀ (args : Array Value) (s t : State), L.after args s (.returned (some (.int 1))) t = true) :
    ArmFor flags0 classFile x code maxLocals ret World_1 tables_1 room_1 Calls_1 rest_1 Pre_1
      (fun tb e a s o t => postC L tb e a s o t ∧ Framed s o t (fieldLocs frame_1_writes a s ++ arrayLocs frame_1_arrays a s ++ staticLocs frame_1_statics s) 600000 7302250) := by
  intro l hflags _ _ p e ha hc hk s m args below hf hfit hheap happ hpre
  obtain ⟨k, o, h1, h2, h3, rfl, hF⟩ := lw_comes l hflags p e ha hc hk s m args below hf hfit hheap happ hpre
  exact ⟨k, _, h1, h2, h3, hL args s _, lw_frame hF⟩
theorem i_vc : Claimed_1_1 ∧ Claimed_1_2 := ⟨lw_limb limb_1_1 (fun args s t => by simp [limb_1_1, Cond.after, Cond.holds, Cond.value]), lw_limb limb_1_2 (fun args s t => Cond.after_iff.mpr (by
  first | (rw [show limb_1_2 = Cond.eq .result (.int 1) from rfl, Cond.eq_ints (x := 1) (y := 1) rfl rfl]; simp; done) | (simp [limb_1_2, Cond.value, Term.eval]; done)))⟩
