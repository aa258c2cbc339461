section
noncomputable def zfl : List Jvm.Cond := flatC (Jvm.Cond.and given_1 narrow_1)
noncomputable def ztm : Nat → Term
  | 1 => .string "TankBehind$RuleReader" 125
  | 2 => .string "TankBehindModel" 320
  | 3 => .string "TankBehindModel" 322
  | 4 => .string "TankBehindModel" 324
  | 5 => .string "TankBehindModel" 326
  | 6 => .string "TankBehindModel" 327
  | 7 => .string "TankBehindModel" 328
  | 8 => .string "TankBehindModel" 330
  | 9 => .string "TankBehindModel" 332
  | 10 => .string "TankBehindModel" 334
  | 11 => .string "TankBehindModel" 336
  | 12 => .string "TankBehindModel" 337
  | 13 => .string "TankBehindModel" 339
  | 14 => .string "TankBehindModel" 341
  | 15 => .string "TankBehindModel" 343
  | 16 => .string "TankBehindModel" 345
  | 17 => .string "TankBehindModel" 347
  | 18 => .string "TankBehindModel" 427
  | 19 => .string "TankBehindModel" 448
  | 20 => .string "TankBehindModel" 450
  | 21 => .string "TankBehindModel" 473
  | _ => .int 0
noncomputable def zsp : Nat → Nat
  | 1 => 9
  | 2 => 172
  | 3 => 187
  | 4 => 202
  | 5 => 218
  | 6 => 235
  | 7 => 253
  | 8 => 273
  | 9 => 295
  | 10 => 316
  | 11 => 339
  | 12 => 362
  | 13 => 386
  | 14 => 115
  | 15 => 125
  | 16 => 135
  | 17 => 146
  | 18 => 160
  | 19 => 411
  | 20 => 436
  | 21 => 461
  | _ => 0
noncomputable def zsv (k : Nat) : Term := .field (ztm k) "java/lang/String" "value" "[B"
noncomputable def zsk (k : Nat) : Bool := decide (zfl[zsp k]? = some (.exactly (ztm k) "java/lang/String")) && (decide (zfl[zsp k + 1]? = some (.eq (.field (ztm k) "java/lang/String" "coder" "B") (.int 0))) && (decide (zfl[zsp k + 2]? = some (.arrayOf (zsv k) .byte)) && (decide (zfl[zsp k + 3]? = some (.eq (.length (zsv k)) (.int (Int32.ofNat (ztx k).length)))) && (List.range (ztx k).length).all (fun j => decide (zfl[zsp k + 4 + j]? = some (.eq (.elem (zsv k) (.int (Int32.ofNat j))) (.int ((ztx k).getD j 0))))))))
noncomputable def zcks (k : Nat) : Bool := decide ((ztx k).length < 1000) && (ztx k).all (fun x => decide (zch x = x) && decide (narrow .char (.int x) = .int x))
theorem zsk_1 : zsk 1 = true ∧ zcks 1 = true := ⟨by decide +kernel, by decide +kernel⟩
theorem zsk_2 : zsk 2 = true ∧ zcks 2 = true := ⟨by decide +kernel, by decide +kernel⟩
theorem zsk_3 : zsk 3 = true ∧ zcks 3 = true := ⟨by decide +kernel, by decide +kernel⟩
theorem zsk_4 : zsk 4 = true ∧ zcks 4 = true := ⟨by decide +kernel, by decide +kernel⟩
theorem zsk_5 : zsk 5 = true ∧ zcks 5 = true := ⟨by decide +kernel, by decide +kernel⟩
theorem zsk_6 : zsk 6 = true ∧ zcks 6 = true := ⟨by decide +kernel, by decide +kernel⟩
theorem zsk_7 : zsk 7 = true ∧ zcks 7 = true := ⟨by decide +kernel, by decide +kernel⟩
theorem zsk_8 : zsk 8 = true ∧ zcks 8 = true := ⟨by decide +kernel, by decide +kernel⟩
theorem zsk_9 : zsk 9 = true ∧ zcks 9 = true := ⟨by decide +kernel, by decide +kernel⟩
theorem zsk_10 : zsk 10 = true ∧ zcks 10 = true := ⟨by decide +kernel, by decide +kernel⟩
theorem zsk_11 : zsk 11 = true ∧ zcks 11 = true := ⟨by decide +kernel, by decide +kernel⟩
theorem zsk_12 : zsk 12 = true ∧ zcks 12 = true := ⟨by decide +kernel, by decide +kernel⟩
theorem zsk_13 : zsk 13 = true ∧ zcks 13 = true := ⟨by decide +kernel, by decide +kernel⟩
theorem zsk_14 : zsk 14 = true ∧ zcks 14 = true := ⟨by decide +kernel, by decide +kernel⟩
theorem zsk_15 : zsk 15 = true ∧ zcks 15 = true := ⟨by decide +kernel, by decide +kernel⟩
theorem zsk_16 : zsk 16 = true ∧ zcks 16 = true := ⟨by decide +kernel, by decide +kernel⟩
theorem zsk_17 : zsk 17 = true ∧ zcks 17 = true := ⟨by decide +kernel, by decide +kernel⟩
theorem zsk_18 : zsk 18 = true ∧ zcks 18 = true := ⟨by decide +kernel, by decide +kernel⟩
theorem zsk_19 : zsk 19 = true ∧ zcks 19 = true := ⟨by decide +kernel, by decide +kernel⟩
theorem zsk_20 : zsk 20 = true ∧ zcks 20 = true := ⟨by decide +kernel, by decide +kernel⟩
theorem zsk_21 : zsk 21 = true ∧ zcks 21 = true := ⟨by decide +kernel, by decide +kernel⟩
theorem zsk_all : ∀ k : Nat, ztx k ≠ [] → zsk k = true ∧ zcks k = true := by
  intro k h
  match k, h with
  | 0, h => exact absurd rfl h
  | 1, _ => exact zsk_1
  | 2, _ => exact zsk_2
  | 3, _ => exact zsk_3
  | 4, _ => exact zsk_4
  | 5, _ => exact zsk_5
  | 6, _ => exact zsk_6
  | 7, _ => exact zsk_7
  | 8, _ => exact zsk_8
  | 9, _ => exact zsk_9
  | 10, _ => exact zsk_10
  | 11, _ => exact zsk_11
  | 12, _ => exact zsk_12
  | 13, _ => exact zsk_13
  | 14, _ => exact zsk_14
  | 15, _ => exact zsk_15
  | 16, _ => exact zsk_16
  | 17, _ => exact zsk_17
  | 18, _ => exact zsk_18
  | 19, _ => exact zsk_19
  | 20, _ => exact zsk_20
  | 21, _ => exact zsk_21
  | k + 22, h => exact absurd rfl h
theorem zcks_of {k : Nat} (h : zcks k = true) : (ztx k).length < 2 ^ 31 ∧ ∀ j : Nat, j < (ztx k).length → zch ((ztx k).getD j 0) = (ztx k).getD j 0 ∧ narrow .char (.int ((ztx k).getD j 0)) = .int ((ztx k).getD j 0) := by
  unfold zcks at h
  rw [Bool.and_eq_true, decide_eq_true_eq, List.all_eq_true] at h
  refine ⟨by omega, fun j hj => ?_⟩
  have e : (ztx k).getD j 0 = (ztx k)[j] := by rw [List.getD_eq_getElem?_getD, List.getElem?_eq_getElem hj]; rfl
  have h9 := h.2 _ (List.getElem_mem hj)
  rw [Bool.and_eq_true, decide_eq_true_eq, decide_eq_true_eq] at h9
  rw [e]
  exact h9
theorem ztxt_ok (k : Nat) : (ztx k).length < 2 ^ 31 ∧ ∀ j : Nat, j < (ztx k).length → zch ((ztx k).getD j 0) = (ztx k).getD j 0 ∧ narrow .char (.int ((ztx k).getD j 0)) = .int ((ztx k).getD j 0) := by
  by_cases h : ztx k = []
  · rw [h]
    exact ⟨by decide, fun j hj => absurd hj (by simp)⟩
  · exact zcks_of (zsk_all k h).2
set_option maxRecDepth 10000 in
theorem zSw_in : ∀ w ∈ zSw, w ∈ zTs := List.forall_mem_cons.mpr ⟨List.mem_filter.mpr ⟨zTabs_in tables_1_3 (List.mem_of_getElem? (i := 3) rfl) _ (List.mem_of_getElem? (i := 192) rfl), rfl⟩, List.forall_mem_cons.mpr ⟨List.mem_filter.mpr ⟨zTabs_in tables_1_3 (List.mem_of_getElem? (i := 3) rfl) _ (List.mem_of_getElem? (i := 196) rfl), rfl⟩, List.forall_mem_cons.mpr ⟨List.mem_filter.mpr ⟨zTabs_in tables_1_3 (List.mem_of_getElem? (i := 3) rfl) _ (List.mem_of_getElem? (i := 202) rfl), rfl⟩, List.forall_mem_cons.mpr ⟨List.mem_filter.mpr ⟨zTabs_in tables_1_3 (List.mem_of_getElem? (i := 3) rfl) _ (List.mem_of_getElem? (i := 206) rfl), rfl⟩, List.forall_mem_cons.mpr ⟨List.mem_filter.mpr ⟨zTabs_in tables_1_3 (List.mem_of_getElem? (i := 3) rfl) _ (List.mem_of_getElem? (i := 209) rfl), rfl⟩, List.forall_mem_cons.mpr ⟨List.mem_filter.mpr ⟨zTabs_in tables_1_3 (List.mem_of_getElem? (i := 3) rfl) _ (List.mem_of_getElem? (i := 212) rfl), rfl⟩, List.forall_mem_cons.mpr ⟨List.mem_filter.mpr ⟨zTabs_in tables_1_3 (List.mem_of_getElem? (i := 3) rfl) _ (List.mem_of_getElem? (i := 217) rfl), rfl⟩, List.forall_mem_cons.mpr ⟨zwall_ok [_] [9079] (by decide +kernel) _ List.mem_cons_self, List.forall_mem_cons.mpr ⟨zwall_ok [_] [3193] (by decide +kernel) _ List.mem_cons_self, List.forall_mem_cons.mpr ⟨zwall_ok [_] [3194] (by decide +kernel) _ List.mem_cons_self, List.forall_mem_cons.mpr ⟨zwall_ok [_] [3195] (by decide +kernel) _ List.mem_cons_self, List.forall_mem_cons.mpr ⟨zwall_ok [_] [1015] (by decide +kernel) _ List.mem_cons_self, List.forall_mem_cons.mpr ⟨zwall_ok [_] [3197] (by decide +kernel) _ List.mem_cons_self, List.forall_mem_cons.mpr ⟨zwall_ok [_] [9080] (by decide +kernel) _ List.mem_cons_self, List.forall_mem_cons.mpr ⟨zwall_ok [_] [3203] (by decide +kernel) _ List.mem_cons_self, List.forall_mem_cons.mpr ⟨zwall_ok [_] [3204] (by decide +kernel) _ List.mem_cons_self, List.forall_mem_cons.mpr ⟨zwall_ok [_] [3205] (by decide +kernel) _ List.mem_cons_self, List.forall_mem_cons.mpr ⟨zwall_ok [_] [3207] (by decide +kernel) _ List.mem_cons_self, List.forall_mem_cons.mpr ⟨zwall_ok [_] [3208] (by decide +kernel) _ List.mem_cons_self, List.forall_mem_cons.mpr ⟨zwall_ok [_] [1016] (by decide +kernel) _ List.mem_cons_self, List.forall_mem_cons.mpr ⟨zwall_ok [_] [3210] (by decide +kernel) _ List.mem_cons_self, List.forall_mem_cons.mpr ⟨zwall_ok [_] [3211] (by decide +kernel) _ List.mem_cons_self, List.forall_mem_cons.mpr ⟨zwall_ok [_] [3213] (by decide +kernel) _ List.mem_cons_self, List.forall_mem_cons.mpr ⟨zwall_ok [_] [3215] (by decide +kernel) _ List.mem_cons_self, List.forall_mem_cons.mpr ⟨zwall_ok [_] [3216] (by decide +kernel) _ List.mem_cons_self, List.forall_mem_cons.mpr ⟨zwall_ok [_] [1017] (by decide +kernel) _ List.mem_cons_self, List.forall_mem_cons.mpr ⟨zwall_ok [_] [3190] (by decide +kernel) _ List.mem_cons_self, List.forall_mem_cons.mpr ⟨zwall_ok [_] [3191] (by decide +kernel) _ List.mem_cons_self, List.forall_mem_cons.mpr ⟨zwall_ok [_] [3200] (by decide +kernel) _ List.mem_cons_self, List.forall_mem_cons.mpr ⟨zwall_ok [_] [3201] (by decide +kernel) _ List.mem_cons_self, List.forall_mem_cons.mpr ⟨zwall_ok [_] [4209] (by decide +kernel) _ List.mem_cons_self, List.forall_mem_cons.mpr ⟨zwall_ok [_] [4007] (by decide +kernel) _ List.mem_cons_self, List.forall_mem_cons.mpr ⟨zwall_ok [_] [4160] (by decide +kernel) _ List.mem_cons_self, List.forall_mem_cons.mpr ⟨zwall_ok [_] [4157] (by decide +kernel) _ List.mem_cons_self, List.forall_mem_cons.mpr ⟨zwall_ok [_] [1019] (by decide +kernel) _ List.mem_cons_self, List.forall_mem_cons.mpr ⟨List.mem_filter.mpr ⟨zTabs_in tables_1_4 (List.mem_of_getElem? (i := 4) rfl) _ (List.mem_of_getElem? (i := 210) rfl), rfl⟩, List.forall_mem_cons.mpr ⟨List.mem_filter.mpr ⟨zTabs_in tables_1_4 (List.mem_of_getElem? (i := 4) rfl) _ (List.mem_of_getElem? (i := 8) rfl), rfl⟩, List.forall_mem_cons.mpr ⟨List.mem_filter.mpr ⟨zTabs_in tables_1_4 (List.mem_of_getElem? (i := 4) rfl) _ (List.mem_of_getElem? (i := 161) rfl), rfl⟩, List.forall_mem_cons.mpr ⟨List.mem_filter.mpr ⟨zTabs_in tables_1_4 (List.mem_of_getElem? (i := 4) rfl) _ (List.mem_of_getElem? (i := 158) rfl), rfl⟩, List.forall_mem_nil _⟩⟩⟩⟩⟩⟩⟩⟩⟩⟩⟩⟩⟩⟩⟩⟩⟩⟩⟩⟩⟩⟩⟩⟩⟩⟩⟩⟩⟩⟩⟩⟩⟩⟩⟩⟩⟩⟩⟩
theorem zSt_of {s : State} {A : Array Value} (hts : ∀ w ∈ lw_tbl, w.before A s = true) (hgv : ∀ w ∈ zfl, w.before A s = true) : ∃ aK aV : Nat → Nat, zSt s.heap.size aK aV ztx s ∧ ∀ k : Nat, ztx k ≠ [] → (ztm k).eval A s none [] s = some (.ref (aK k)) := by
  have hA : ∀ a : Nat, a < s.heap.size → ¬ (fun q : Nat => s.heap.size ≤ q) a := fun a h => Nat.not_le.mpr h
  have hin : ∀ (i : Nat) (w : Jvm.Cond), zfl[i]? = some w → w.before A s = true := fun i w h => hgv w (List.mem_of_getElem? h)
  have h0 : ∀ k : Nat, ∃ q : Nat × Nat, ztx k ≠ [] → (ztm k).eval A s none [] s = some (.ref q.1) ∧ va_O "java/lang/String" q.1 (fun q => s.heap.size ≤ q) s s.heap ∧ va_OF "java/lang/String" "coder" "B" (.int 0) q.1 (fun q => s.heap.size ≤ q) s s.heap ∧ va_OF "java/lang/String" "value" "[B" (.ref q.2) q.1 (fun q => s.heap.size ≤ q) s s.heap ∧ va_T .byte q.2 (ztx k).length (fun j => .int ((ztx k).getD j 0)) (fun q => s.heap.size ≤ q) s s.heap := by
    intro k
    by_cases hk : ztx k = []
    · exact ⟨(0, 0), fun h => absurd hk h⟩
    · obtain ⟨h1, h2⟩ := zsk_all k hk
      have hN := (zcks_of h2).1
      unfold zsk at h1
      simp only [Bool.and_eq_true, decide_eq_true_eq, List.all_eq_true, List.mem_range] at h1
      obtain ⟨e1, e2, e3, e4, e5⟩ := h1
      have hex := hin _ _ e1
      obtain ⟨a, c, cA, kA, q1, q2, q3, q4, q5, q6, -⟩ := Cond.exactly_spec (args := A) (first := s) (o := none) (s := s) (idx := []) (t := ztm k) (cls := "java/lang/String") hex
      obtain ⟨t, ht, hT⟩ := va_Tof (f := fun j => .int ((ztx k).getD j 0)) hN (hin _ _ e3) (va_eqt (hin _ _ e4)) (fun j hj => va_eqt (hin _ _ (e5 j hj))) hA
      exact ⟨(a, t), fun _ => ⟨q1, ⟨cA, q3, q5, by rw [q6]; exact q2, hA a (Array.getElem?_eq_some_iff.mp q3).1⟩, vk_OFof q1 (va_eqt (hin _ _ e2)) hA, vk_OFof q1 ht hA, hT⟩⟩
  obtain ⟨ad, had⟩ := Classical.axiomOfChoice h0
  refine ⟨fun i => (ad i).1, fun i => (ad i).2, ⟨?_, ?_, fun k hk => (had k hk).2⟩, fun k hk => (had k hk).1⟩
  · exact va_Zof (hts _ (zTabs_in tables_1_3 (List.mem_of_getElem? (i := 3) rfl) _ (List.mem_of_getElem? (i := 198) rfl))) (hts _ (zTabs_in tables_1_1 (List.mem_of_getElem? (i := 1) rfl) _ (List.mem_of_getElem? (i := 15) rfl))) (va_eqt (hin 4 _ (by decide +kernel))) hA
  · exact va_Zqof (hts _ (zTabs_in tables_1_3 (List.mem_of_getElem? (i := 3) rfl) _ (List.mem_of_getElem? (i := 214) rfl))) (hts _ (zTabs_in tables_1_1 (List.mem_of_getElem? (i := 1) rfl) _ (List.mem_of_getElem? (i := 17) rfl))) (hin 5 _ (by decide +kernel)) hA
noncomputable def zZ (B : Nat) (aS aV : Nat → Nat) (U : State) : Prop := B ≤ U.heap.size ∧ zSt B aS aV ztx U ∧ (∀ w ∈ lw_tbl, zspec w = true → w.before #[] U = true) ∧ ∀ q ∈ zsg, ∃ t : String, vk_R q.1 q.2.1 t (aS q.2.2) U
theorem zSt_to {B : Nat} {aS aV : Nat → Nat} {s U : State} (hal : s.vm.Alike U.vm) (hq : ∀ a : Nat, a < s.heap.size → ¬ B ≤ a → U.heap[a]? = s.heap[a]?) (h : zSt B aS aV ztx s) : zSt B aS aV ztx U :=
  ⟨(va_Z.moved hal h.1).kept hq, (va_Zq.moved hal h.2.1).kept hq, fun k hk => ⟨(va_O.moved hal (h.2.2 k hk).1).kept hq, (va_OF.moved hal (h.2.2 k hk).2.1).kept hq, (va_OF.moved hal (h.2.2 k hk).2.2.1).kept hq, (va_T.moved hal (h.2.2 k hk).2.2.2).kept hq⟩⟩
theorem zao_vm (t : FieldType) {u U : State} (h : u.vm = U.vm) (hz : (Jvm.Cond.arrayOver t).before #[] u = true) : (Jvm.Cond.arrayOver t).before #[] U = true := by
  simp only [Cond.before, Cond.holds, Cond.value] at hz ⊢
  rw [← h]
  exact hz
theorem zao_vmA (t : FieldType) {A : Array Value} {U : State} (hz : (Jvm.Cond.arrayOver t).before A U = true) : (Jvm.Cond.arrayOver t).before #[] U = true := by
  simp only [Cond.before, Cond.holds, Cond.value] at hz ⊢
  exact hz
theorem zspec_same {w : Jvm.Cond} (h : zspec w = true) {u U : State} (hv : u.vm = U.vm) (hz : w.before #[] u = true) : w.before #[] U = true := by
  cases w with
  | arrayOver t => exact zao_vm t hv hz
  | methodLinkNest a i x hh => exact va_tabs rfl hv hz
  | castable a b => exact va_tabs rfl hv hz
  | _ => cases h
theorem zspec_args {w : Jvm.Cond} (h : zspec w = true) {A : Array Value} {U : State} (hz : w.before A U = true) : w.before #[] U = true := by
  cases w with
  | arrayOver t => exact zao_vmA t hz
  | methodLinkNest a i x hh => exact va_tabs rfl rfl hz
  | castable a b => exact va_tabs rfl rfl hz
  | _ => cases h
theorem zspec_warm {w : Jvm.Cond} (h : zspec w = true) {s U : State} (hW : s.WarmedH U.vm) (hz : w.before #[] s = true) : w.before #[] U = true := by
  cases w with
  | arrayOver t => exact zao_vm t (rfl : (s.setVm U.vm).vm = U.vm) (by rw [Cond.arrayOver_setVmC hW.alike]; exact hz)
  | methodLinkNest a i x hh => exact va_Nw.warmM hW hz
  | castable a b => exact va_tabs rfl (rfl : (s.setVm U.vm).vm = U.vm) (by rw [Cond.castable_setVm hW.alike]; exact hz)
  | _ => cases h
theorem zZ_stays {B : Nat} {aS aV : Nat → Nat} : zStays B (zZ B aS aV) := by
  refine ⟨fun s U hW h1 h2 h => ⟨Nat.le_trans h.1 h1, zSt_to hW.alike (fun a _ hb => h2 a (Nat.not_le.mp hb)) h.2.1, fun w hw hs => zspec_warm hs hW (h.2.2.1 w hw hs), fun q hq => ?_⟩, fun U V hH hV h => ⟨by rw [hH]; exact h.1, zSt_to (by rw [hV]; exact Vm.Alike.refl U.vm) (fun a _ _ => by rw [hH]) h.2.1, fun w hw hs => zspec_same hs hV.symm (h.2.2.1 w hw hs), fun q hq => ?_⟩⟩
  · obtain ⟨t, ht⟩ := h.2.2.2 q hq
    exact ⟨t, ht.warm hW⟩
  · obtain ⟨t, ht⟩ := h.2.2.2 q hq
    exact ⟨t, ht.same hV⟩
theorem zZ_so {B : Nat} {aS aV : Nat → Nat} : zSok B (zZ B aS aV) zTs aS ztx := ⟨fun s h => h.1, ⟨aV, fun s h => h.2.1⟩, zSw_in, ztxt_ok, fun q hq s h => h.2.2.2 q hq⟩
theorem zsg_of {s : State} {A : Array Value} {aK : Nat → Nat} (hts : ∀ w ∈ lw_tbl, w.before A s = true) (he : ∀ k : Nat, ztx k ≠ [] → (ztm k).eval A s none [] s = some (.ref (aK k))) (aS : Nat → Nat) (ha : ∀ k : Nat, ztx k ≠ [] → aS k = aK k) : ∀ q ∈ zsg, ∃ t : String, vk_R q.1 q.2.1 t (aS q.2.2) s := by
  have key : ∀ (own : String) (i k : Nat) (t : String), ztx k ≠ [] → ztm k = .string own i → Jvm.Cond.stringRef own i t ∈ lw_tbl → ∃ t : String, vk_R own i t (aS k) s := fun own i k t hk e hw => ⟨t, vk_R.of (hts _ hw) (by rw [← e, ha k hk]; exact he k hk)⟩
  intro q hq
  unfold zsg at hq
  simp only [List.mem_cons, List.not_mem_nil, or_false] at hq
  rcases hq with rfl | rfl | rfl | rfl | rfl | rfl | rfl | rfl | rfl | rfl | rfl | rfl | rfl | rfl | rfl | rfl | rfl | rfl | rfl | rfl | rfl
  · exact key _ _ 1 "month kind firm made cars fires deaths dead speed sort knew part crash give most recall if or and not " (by decide) rfl (zTabs_in tables_1_3 (List.mem_of_getElem? (i := 3) rfl) _ (List.mem_of_getElem? (i := 188) rfl))
  · exact key _ _ 2 "month" (by decide) rfl (zTabs_in tables_1_8 (List.mem_of_getElem? (i := 8) rfl) _ (List.mem_of_getElem? (i := 46) rfl))
  · exact key _ _ 3 "kind" (by decide) rfl (zTabs_in tables_1_8 (List.mem_of_getElem? (i := 8) rfl) _ (List.mem_of_getElem? (i := 47) rfl))
  · exact key _ _ 4 "firm" (by decide) rfl (zTabs_in tables_1_8 (List.mem_of_getElem? (i := 8) rfl) _ (List.mem_of_getElem? (i := 48) rfl))
  · exact key _ _ 5 "made" (by decide) rfl (zTabs_in tables_1_8 (List.mem_of_getElem? (i := 8) rfl) _ (List.mem_of_getElem? (i := 49) rfl))
  · exact key _ _ 6 "cars" (by decide) rfl (zTabs_in tables_1_8 (List.mem_of_getElem? (i := 8) rfl) _ (List.mem_of_getElem? (i := 50) rfl))
  · exact key _ _ 7 "fires" (by decide) rfl (zTabs_in tables_1_8 (List.mem_of_getElem? (i := 8) rfl) _ (List.mem_of_getElem? (i := 51) rfl))
  · exact key _ _ 8 "deaths" (by decide) rfl (zTabs_in tables_1_8 (List.mem_of_getElem? (i := 8) rfl) _ (List.mem_of_getElem? (i := 52) rfl))
  · exact key _ _ 9 "dead" (by decide) rfl (zTabs_in tables_1_8 (List.mem_of_getElem? (i := 8) rfl) _ (List.mem_of_getElem? (i := 53) rfl))
  · exact key _ _ 10 "speed" (by decide) rfl (zTabs_in tables_1_8 (List.mem_of_getElem? (i := 8) rfl) _ (List.mem_of_getElem? (i := 54) rfl))
  · exact key _ _ 11 "sort" (by decide) rfl (zTabs_in tables_1_8 (List.mem_of_getElem? (i := 8) rfl) _ (List.mem_of_getElem? (i := 55) rfl))
  · exact key _ _ 12 "knew" (by decide) rfl (zTabs_in tables_1_8 (List.mem_of_getElem? (i := 8) rfl) _ (List.mem_of_getElem? (i := 56) rfl))
  · exact key _ _ 13 "part" (by decide) rfl (zTabs_in tables_1_8 (List.mem_of_getElem? (i := 8) rfl) _ (List.mem_of_getElem? (i := 57) rfl))
  · exact key _ _ 14 "crash" (by decide) rfl (zTabs_in tables_1_7 (List.mem_of_getElem? (i := 7) rfl) _ (List.mem_of_getElem? (i := 232) rfl))
  · exact key _ _ 15 "give" (by decide) rfl (zTabs_in tables_1_7 (List.mem_of_getElem? (i := 7) rfl) _ (List.mem_of_getElem? (i := 233) rfl))
  · exact key _ _ 16 "most" (by decide) rfl (zTabs_in tables_1_7 (List.mem_of_getElem? (i := 7) rfl) _ (List.mem_of_getElem? (i := 234) rfl))
  · exact key _ _ 17 "recall" (by decide) rfl (zTabs_in tables_1_7 (List.mem_of_getElem? (i := 7) rfl) _ (List.mem_of_getElem? (i := 235) rfl))
  · exact key _ _ 18 "not" (by decide) rfl (zTabs_in tables_1_8 (List.mem_of_getElem? (i := 8) rfl) _ (List.mem_of_getElem? (i := 21) rfl))
  · exact key _ _ 19 "and" (by decide) rfl (zTabs_in tables_1_8 (List.mem_of_getElem? (i := 8) rfl) _ (List.mem_of_getElem? (i := 90) rfl))
  · exact key _ _ 20 "or" (by decide) rfl (zTabs_in tables_1_8 (List.mem_of_getElem? (i := 8) rfl) _ (List.mem_of_getElem? (i := 95) rfl))
  · exact key _ _ 21 "if" (by decide) rfl (zTabs_in tables_1_8 (List.mem_of_getElem? (i := 8) rfl) _ (List.mem_of_getElem? (i := 100) rfl))
theorem zcls_known {s : State} {A : Array Value} (hts : ∀ w ∈ lw_tbl, w.before A s = true) : ∀ (k : Nat) (q : vw_C), zCl[k]? = some q → ∃ (c : ClassId) (iS : Nat → Nat), u_Kn s q.1 q.2.1 q.2.2 c iS := by
  have hT : ∀ w ∈ zTs, w.before A s = true := fun w hw => hts w (List.mem_filter.mp hw).1
  intro k q hq
  match k, hq with
  | 0, hq => cases hq; exact u_known (n := 11) hT iX0 (hts _ (zTabs_in tables_1_3 (List.mem_of_getElem? (i := 3) rfl) _ (List.mem_of_getElem? (i := 31) rfl)))
  | 1, hq => cases hq; exact u_known (n := 13) hT iX1 (hts _ (zTabs_in tables_1_1 (List.mem_of_getElem? (i := 1) rfl) _ (List.mem_of_getElem? (i := 224) rfl)))
  | 2, hq => cases hq; exact u_known (n := 10) hT iX2 (hts _ (zTabs_in tables_1_1 (List.mem_of_getElem? (i := 1) rfl) _ (List.mem_of_getElem? (i := 70) rfl)))
  | 3, hq => cases hq; exact u_known (n := 8) hT iX3 (hts _ (zTabs_in tables_1_1 (List.mem_of_getElem? (i := 1) rfl) _ (List.mem_of_getElem? (i := 30) rfl)))
  | 4, hq => cases hq; exact u_known (n := 5) hT iX4 (hts _ (zTabs_in tables_1_2 (List.mem_of_getElem? (i := 2) rfl) _ (List.mem_of_getElem? (i := 37) rfl)))
  | 5, hq => cases hq; exact u_known (n := 8) hT iX5 (hts _ (zTabs_in tables_1_2 (List.mem_of_getElem? (i := 2) rfl) _ (List.mem_of_getElem? (i := 60) rfl)))
  | 6, hq => cases hq; exact u_known (n := 5) hT iX6 (hts _ (zTabs_in tables_1_2 (List.mem_of_getElem? (i := 2) rfl) _ (List.mem_of_getElem? (i := 94) rfl)))
  | 7, hq => cases hq; exact u_known (n := 6) hT iX7 (hts _ (zTabs_in tables_1_1 (List.mem_of_getElem? (i := 1) rfl) _ (List.mem_of_getElem? (i := 157) rfl)))
  | 8, hq => cases hq; exact u_known (n := 10) hT iX8 (hts _ (zTabs_in tables_1_1 (List.mem_of_getElem? (i := 1) rfl) _ (List.mem_of_getElem? (i := 114) rfl)))
  | 9, hq => cases hq; exact u_known (n := 6) hT iX9 (hts _ (zTabs_in tables_1_2 (List.mem_of_getElem? (i := 2) rfl) _ (List.mem_of_getElem? (i := 118) rfl)))
  | 10, hq => cases hq; exact u_known (n := 10) hT iX10 (hts _ (zTabs_in tables_1_1 (List.mem_of_getElem? (i := 1) rfl) _ (List.mem_of_getElem? (i := 186) rfl)))
  | 11, hq => cases hq; exact u_known (n := 15) hT iX11 (hts _ (zTabs_in tables_1_1 (List.mem_of_getElem? (i := 1) rfl) _ (List.mem_of_getElem? (i := 22) rfl)))
  | 12, hq => cases hq; exact u_known (n := 96) hT iX12 (hts _ (zTabs_in tables_1_6 (List.mem_of_getElem? (i := 6) rfl) _ (List.mem_of_getElem? (i := 42) rfl)))
  | k + 13, hq => simp [zCl] at hq
theorem zarr_known {s : State} {A : Array Value} (hts : ∀ w ∈ lw_tbl, w.before A s = true) : ∃ dA : Nat → ClassId, ∀ (k : Nat) (q : ClassId × FieldType), (ztys dA)[k]? = some q → ArrOfT s q.1 q.2 ∧ va_RA s q.1 q.2 := by
  obtain ⟨c0, k0, m0, f0, g0, h0⟩ := Cond.arrayClass_spec (args := A) (first := s) (o := none) (s := s) (idx := []) (hts _ (zTabs_in tables_1_1 (List.mem_of_getElem? (i := 1) rfl) _ (List.mem_of_getElem? (i := 68) rfl)))
  obtain ⟨c1, k1, m1, f1, g1, h1⟩ := Cond.arrayClass_spec (args := A) (first := s) (o := none) (s := s) (idx := []) (hts _ (zTabs_in tables_1_1 (List.mem_of_getElem? (i := 1) rfl) _ (List.mem_of_getElem? (i := 112) rfl)))
  obtain ⟨c2, k2, m2, f2, g2, h2⟩ := Cond.arrayClass_spec (args := A) (first := s) (o := none) (s := s) (idx := []) (hts _ (zTabs_in tables_1_1 (List.mem_of_getElem? (i := 1) rfl) _ (List.mem_of_getElem? (i := 155) rfl)))
  obtain ⟨c3, k3, m3, f3, g3, h3⟩ := Cond.arrayClass_spec (args := A) (first := s) (o := none) (s := s) (idx := []) (hts _ (zTabs_in tables_1_1 (List.mem_of_getElem? (i := 1) rfl) _ (List.mem_of_getElem? (i := 184) rfl)))
  obtain ⟨m4, c4, k4, -, -, g4, h4, f4⟩ := arrayOver_specB (args := A) (first := s) (o := none) (s := s) (idx := []) (hts _ (zTabs_in tables_1_1 (List.mem_of_getElem? (i := 1) rfl) _ (List.mem_of_getElem? (i := 36) rfl)))
  obtain ⟨m5, c5, k5, i5, -, g5, h5, f5⟩ := Cond.arrayOver_spec (args := A) (first := s) (o := none) (s := s) (idx := []) (hts _ (zTabs_in tables_1_1 (List.mem_of_getElem? (i := 1) rfl) _ (List.mem_of_getElem? (i := 76) rfl)))
  refine ⟨fun k => match k with
    | 0 => c0
    | 1 => c1
    | 2 => c2
    | 3 => c3
    | 4 => c4
    | _ => c5, fun k q hq => ?_⟩
  have hk : k < 6 := by
    have := (List.getElem?_eq_some_iff.mp hq).1
    simp [ztys] at this
    exact this
  rw [ztys_get _ hk] at hq
  cases hq
  rcases (by omega : k = 0 ∨ k = 1 ∨ k = 2 ∨ k = 3 ∨ k = 4 ∨ k = 5) with rfl | rfl | rfl | rfl | rfl | rfl
  · exact ⟨fun N z => ⟨fun k h => (by cases h), k0, g0, m0, h0⟩, f0⟩
  · exact ⟨fun N z => ⟨fun k h => (by cases h), k1, g1, m1, h1⟩, f1⟩
  · exact ⟨fun N z => ⟨fun k h => (by cases h), k2, g2, m2, h2⟩, f2⟩
  · exact ⟨fun N z => ⟨fun k h => (by cases h), k3, g3, m3, h3⟩, f3⟩
  · exact ⟨fun N z => ⟨fun k h => (by cases h), k4, g4, m4, h4⟩, f4⟩
  · exact ⟨fun N z => ⟨fun k h => (by cases h), k5, g5, m5, h5⟩, ⟨k5, m5, g5, h5, i5, f5⟩⟩
end
section
-- ===== end of PART A; then your names; then what follows =====
/-! THE CLAIM OUT OF ONE WALK OF THE LAW'S BODY. Your part is whole_start (and what it stands on); all else here is the same for every law, but numbers. -/
noncomputable def R_law : String := "TankBehindLaw"
noncomputable def lw_P (b : Addr) (xs : List Int32) (args : Array Value) (s : State) : Prop := args = #[.ref b] ∧ s.IntsAt b xs ∧ xs.length ≤ 4096 ∧ (Jvm.Cond.and given_1 narrow_1).before args s = true
noncomputable def lw_Q (_ : Array Value) (s : State) (o : Outcome) (t : State) : Prop := o = .returned (some (.int 1)) ∧ Framed s o t [] 600000 7302250
noncomputable def lw_Z (below : List Frame) (a : Array Value) (s : State) : State → Prop := fun t => ∃ o, t.status = .running ∧ Ended t below o ∧ lw_Q a s o t
/-- the law's own end, with 1 on the stack, nothing written that was there before, its room as the claim has it -/
theorem lw_ret {p : Program} {l : Launch} {e : Env} {s : State} {m : MethodId} {below : List Frame} {meth : Method} {c : Code} {b : Nat} (hx : p.tables.exec = Jvm.exec) (hb : c.code = code) (hr : meth.sig.returnType = ret) (hlocks : meth.locks = false) {pc : Nat} {H : Heap} {ls : Array Slot} (hdg : decode code pc = .ok (.ireturn, 1)) : W p l e room_1 s m #[Value.ref b] below meth c H [] 600000 7302250 (lw_Z below #[Value.ref b] s) (F0 m pc ls [.int 1]) := by
  intro T hT X
  obtain ⟨fs, hret, hrun, hended, hW, hframe⟩ := X.leave (v := some (.int 1)) (hlocks := hlocks) (fun h => by rw [hr] at h; cases h)
  have hmeth' : T.vm.method? m = some meth := X.method'
  refine ⟨T.setFrames fs, ?_, .returned (some (.int 1)), hrun, hended, rfl, ⟨_, rfl⟩, hW, hframe⟩
  jvm_step X.here [X.here.top, hx, hb, hdg, hmeth', hr, ret, narrow_b1]
  (try refine ⟨rfl, ?_⟩); (try refine ⟨rfl, ?_⟩)
  first | (intro acts; rw [hret _ acts rfl rfl rfl]) | rw [hret _ _ rfl rfl rfl]
  exact Steps.refl _
/-- what holds at the law's entry: the machine, the code, the tables' words (any of lw_tbl by 'hts w (by decide +kernel)'), the script of L ints xs at the cell b, what the Statement gives of the start (any of its parts by flat_of_before) -/
noncomputable def lw_At (p : Program) (s : State) (m : MethodId) (meth : Method) (c : Code) (b L : Nat) (xs : Nat → Int32) : Prop :=
  p.tables.exec = Jvm.exec ∧ c.code = code ∧ meth.sig.returnType = ret ∧ c.maxLocals = 4 ∧ s.vm.findClass R_law = some m.cls ∧ (∀ w ∈ lw_tbl, w.before #[Value.ref b] s = true) ∧ va_X b L xs s s.heap ∧ b < s.heap.size ∧ meth.locks = false ∧ (Jvm.Cond.and given_1 narrow_1).before #[Value.ref b] s = true
end
