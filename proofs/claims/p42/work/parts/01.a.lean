section
-- ===== PART A: goes FIRST, ahead of the names: the tables' words, and 'selects' of the private methods out of them =====
/-- a private method of a class that the tables say can be made, by its rows of tables_1 -/
noncomputable def lw_okq (q : MethodName × Nat) : Prop := (q.1.cls ≠ "java/lang/invoke/MethodHandle" ∧ q.1.cls ≠ "java/lang/invoke/VarHandle") ∧ Cond.instantiable q.1.cls q.2 ∈ tables_1 ∧ Cond.privateMethod q.1 ∈ tables_1 ∧ Cond.instanceMethod q.1 ∈ tables_1
theorem lt_1 {c : Cond} (h : c ∈ tables_1_1) : c ∈ tables_1 := by
  unfold tables_1
  exact List.mem_append_left _ h
theorem lt_2 {c : Cond} (h : c ∈ tables_1_2) : c ∈ tables_1 := by
  unfold tables_1
  exact List.mem_append_right _ (List.mem_append_left _ h)
theorem lt_3 {c : Cond} (h : c ∈ tables_1_3) : c ∈ tables_1 := by
  unfold tables_1
  exact List.mem_append_right _ (List.mem_append_right _ (List.mem_append_left _ h))
theorem lt_4 {c : Cond} (h : c ∈ tables_1_4) : c ∈ tables_1 := by
  unfold tables_1
  exact List.mem_append_right _ (List.mem_append_right _ (List.mem_append_right _ (List.mem_append_left _ h)))
theorem lt_5 {c : Cond} (h : c ∈ tables_1_5) : c ∈ tables_1 := by
  unfold tables_1
  exact List.mem_append_right _ (List.mem_append_right _ (List.mem_append_right _ (List.mem_append_right _ (List.mem_append_left _ h))))
theorem lt_6 {c : Cond} (h : c ∈ tables_1_6) : c ∈ tables_1 := by
  unfold tables_1
  exact List.mem_append_right _ (List.mem_append_right _ (List.mem_append_right _ (List.mem_append_right _ (List.mem_append_right _ (List.mem_append_left _ h)))))
theorem lt_7 {c : Cond} (h : c ∈ tables_1_7) : c ∈ tables_1 := by
  unfold tables_1
  exact List.mem_append_right _ (List.mem_append_right _ (List.mem_append_right _ (List.mem_append_right _ (List.mem_append_right _ (List.mem_append_right _ (List.mem_append_left _ h))))))
theorem lt_8 {c : Cond} (h : c ∈ tables_1_8) : c ∈ tables_1 := by
  unfold tables_1
  exact List.mem_append_right _ (List.mem_append_right _ (List.mem_append_right _ (List.mem_append_right _ (List.mem_append_right _ (List.mem_append_right _ (List.mem_append_right _ (List.mem_append_left _ h)))))))
theorem lt_9 {c : Cond} (h : c ∈ tables_1_9) : c ∈ tables_1 := by
  unfold tables_1
  exact List.mem_append_right _ (List.mem_append_right _ (List.mem_append_right _ (List.mem_append_right _ (List.mem_append_right _ (List.mem_append_right _ (List.mem_append_right _ (List.mem_append_right _ (h))))))))
theorem lw_p0 : lw_okq (⟨"TankBehind", "partsOf", "(LTankBehind$Car;I)I"⟩, 15) := ⟨⟨by decide +kernel, by decide +kernel⟩, (lt_1 (List.mem_of_getElem? (i := 22) rfl)), (lt_3 (List.mem_of_getElem? (i := 113) rfl)), (lt_3 (List.mem_of_getElem? (i := 114) rfl))⟩
theorem lw_p1 : lw_okq (⟨"TankBehind$RuleReader", "readClause", "()Z"⟩, 10) := ⟨⟨by decide +kernel, by decide +kernel⟩, (lt_1 (List.mem_of_getElem? (i := 114) rfl)), (lt_3 (List.mem_of_getElem? (i := 177) rfl)), (lt_3 (List.mem_of_getElem? (i := 178) rfl))⟩
theorem lw_p2 : lw_okq (⟨"TankBehind$RuleReader", "wordHere", "()I"⟩, 10) := ⟨⟨by decide +kernel, by decide +kernel⟩, (lt_1 (List.mem_of_getElem? (i := 114) rfl)), (lt_3 (List.mem_of_getElem? (i := 181) rfl)), (lt_3 (List.mem_of_getElem? (i := 182) rfl))⟩
theorem lw_p3 : lw_okq (⟨"TankBehind$RuleReader", "signHere", "()I"⟩, 10) := ⟨⟨by decide +kernel, by decide +kernel⟩, (lt_1 (List.mem_of_getElem? (i := 114) rfl)), (lt_3 (List.mem_of_getElem? (i := 185) rfl)), (lt_3 (List.mem_of_getElem? (i := 186) rfl))⟩
theorem lw_p4 : lw_okq (⟨"TankBehind$RuleReader", "refuse", "(II)Z"⟩, 10) := ⟨⟨by decide +kernel, by decide +kernel⟩, (lt_1 (List.mem_of_getElem? (i := 114) rfl)), (lt_3 (List.mem_of_getElem? (i := 238) rfl)), (lt_3 (List.mem_of_getElem? (i := 239) rfl))⟩
theorem lw_p5 : lw_okq (⟨"TankBehind$RuleReader", "numberHere", "(I)I"⟩, 10) := ⟨⟨by decide +kernel, by decide +kernel⟩, (lt_1 (List.mem_of_getElem? (i := 114) rfl)), (lt_4 (List.mem_of_getElem? (i := 2) rfl)), (lt_4 (List.mem_of_getElem? (i := 3) rfl))⟩
theorem lw_p6 : lw_okq (⟨"TankBehind$RuleReader", "readSum", "(I)Z"⟩, 10) := ⟨⟨by decide +kernel, by decide +kernel⟩, (lt_1 (List.mem_of_getElem? (i := 114) rfl)), (lt_4 (List.mem_of_getElem? (i := 10) rfl)), (lt_4 (List.mem_of_getElem? (i := 11) rfl))⟩
theorem lw_p7 : lw_okq (⟨"TankBehind$RuleReader", "readTerm", "(I)Z"⟩, 10) := ⟨⟨by decide +kernel, by decide +kernel⟩, (lt_1 (List.mem_of_getElem? (i := 114) rfl)), (lt_4 (List.mem_of_getElem? (i := 14) rfl)), (lt_4 (List.mem_of_getElem? (i := 15) rfl))⟩
theorem lw_p8 : lw_okq (⟨"TankBehind$RuleReader", "readValue", "(I)Z"⟩, 10) := ⟨⟨by decide +kernel, by decide +kernel⟩, (lt_1 (List.mem_of_getElem? (i := 114) rfl)), (lt_4 (List.mem_of_getElem? (i := 18) rfl)), (lt_4 (List.mem_of_getElem? (i := 19) rfl))⟩
theorem lw_p9 : lw_okq (⟨"TankBehind$RuleReader", "countOne", "()Z"⟩, 10) := ⟨⟨by decide +kernel, by decide +kernel⟩, (lt_1 (List.mem_of_getElem? (i := 114) rfl)), (lt_4 (List.mem_of_getElem? (i := 22) rfl)), (lt_4 (List.mem_of_getElem? (i := 23) rfl))⟩
theorem lw_p10 : lw_okq (⟨"TankBehind$RuleReader", "takeSign", "(C)Z"⟩, 10) := ⟨⟨by decide +kernel, by decide +kernel⟩, (lt_1 (List.mem_of_getElem? (i := 114) rfl)), (lt_4 (List.mem_of_getElem? (i := 26) rfl)), (lt_4 (List.mem_of_getElem? (i := 27) rfl))⟩
theorem lw_p11 : lw_okq (⟨"TankBehind$RuleReader", "takeWord", "(I)Z"⟩, 10) := ⟨⟨by decide +kernel, by decide +kernel⟩, (lt_1 (List.mem_of_getElem? (i := 114) rfl)), (lt_4 (List.mem_of_getElem? (i := 30) rfl)), (lt_4 (List.mem_of_getElem? (i := 31) rfl))⟩
theorem lw_p12 : lw_okq (⟨"TankBehind$RuleReader", "putCode", "(I)V"⟩, 10) := ⟨⟨by decide +kernel, by decide +kernel⟩, (lt_1 (List.mem_of_getElem? (i := 114) rfl)), (lt_4 (List.mem_of_getElem? (i := 34) rfl)), (lt_4 (List.mem_of_getElem? (i := 35) rfl))⟩
theorem lw_p13 : lw_okq (⟨"TankBehind$RuleReader", "readTest", "(I)Z"⟩, 10) := ⟨⟨by decide +kernel, by decide +kernel⟩, (lt_1 (List.mem_of_getElem? (i := 114) rfl)), (lt_4 (List.mem_of_getElem? (i := 42) rfl)), (lt_4 (List.mem_of_getElem? (i := 43) rfl))⟩
theorem lw_p14 : lw_okq (⟨"TankBehind$RuleReader", "readPart", "(I)Z"⟩, 10) := ⟨⟨by decide +kernel, by decide +kernel⟩, (lt_1 (List.mem_of_getElem? (i := 114) rfl)), (lt_4 (List.mem_of_getElem? (i := 46) rfl)), (lt_4 (List.mem_of_getElem? (i := 47) rfl))⟩
theorem lw_p15 : lw_okq (⟨"TankBehind$RuleReader", "readFact", "(I)Z"⟩, 10) := ⟨⟨by decide +kernel, by decide +kernel⟩, (lt_1 (List.mem_of_getElem? (i := 114) rfl)), (lt_4 (List.mem_of_getElem? (i := 50) rfl)), (lt_4 (List.mem_of_getElem? (i := 51) rfl))⟩
noncomputable def lw_privs_1 : List (MethodName × Nat) := [(⟨"TankBehind", "partsOf", "(LTankBehind$Car;I)I"⟩, 15), (⟨"TankBehind$RuleReader", "readClause", "()Z"⟩, 10), (⟨"TankBehind$RuleReader", "wordHere", "()I"⟩, 10), (⟨"TankBehind$RuleReader", "signHere", "()I"⟩, 10), (⟨"TankBehind$RuleReader", "refuse", "(II)Z"⟩, 10), (⟨"TankBehind$RuleReader", "numberHere", "(I)I"⟩, 10), (⟨"TankBehind$RuleReader", "readSum", "(I)Z"⟩, 10), (⟨"TankBehind$RuleReader", "readTerm", "(I)Z"⟩, 10), (⟨"TankBehind$RuleReader", "readValue", "(I)Z"⟩, 10), (⟨"TankBehind$RuleReader", "countOne", "()Z"⟩, 10), (⟨"TankBehind$RuleReader", "takeSign", "(C)Z"⟩, 10), (⟨"TankBehind$RuleReader", "takeWord", "(I)Z"⟩, 10), (⟨"TankBehind$RuleReader", "putCode", "(I)V"⟩, 10), (⟨"TankBehind$RuleReader", "readTest", "(I)Z"⟩, 10), (⟨"TankBehind$RuleReader", "readPart", "(I)Z"⟩, 10), (⟨"TankBehind$RuleReader", "readFact", "(I)Z"⟩, 10)]
theorem lw_r1 : ∀ q ∈ lw_privs_1, lw_okq q := List.forall_mem_cons.mpr ⟨lw_p0, List.forall_mem_cons.mpr ⟨lw_p1, List.forall_mem_cons.mpr ⟨lw_p2, List.forall_mem_cons.mpr ⟨lw_p3, List.forall_mem_cons.mpr ⟨lw_p4, List.forall_mem_cons.mpr ⟨lw_p5, List.forall_mem_cons.mpr ⟨lw_p6, List.forall_mem_cons.mpr ⟨lw_p7, List.forall_mem_cons.mpr ⟨lw_p8, List.forall_mem_cons.mpr ⟨lw_p9, List.forall_mem_cons.mpr ⟨lw_p10, List.forall_mem_cons.mpr ⟨lw_p11, List.forall_mem_cons.mpr ⟨lw_p12, List.forall_mem_cons.mpr ⟨lw_p13, List.forall_mem_cons.mpr ⟨lw_p14, List.forall_mem_cons.mpr ⟨lw_p15, fun _ h => absurd h List.not_mem_nil⟩⟩⟩⟩⟩⟩⟩⟩⟩⟩⟩⟩⟩⟩⟩⟩
theorem lw_p16 : lw_okq (⟨"TankBehind$RuleReader", "readComparison", "(I)Z"⟩, 10) := ⟨⟨by decide +kernel, by decide +kernel⟩, (lt_1 (List.mem_of_getElem? (i := 114) rfl)), (lt_4 (List.mem_of_getElem? (i := 54) rfl)), (lt_4 (List.mem_of_getElem? (i := 55) rfl))⟩
theorem lw_p17 : lw_okq (⟨"TankBehind$RuleReader", "comparisonHere", "()I"⟩, 10) := ⟨⟨by decide +kernel, by decide +kernel⟩, (lt_1 (List.mem_of_getElem? (i := 114) rfl)), (lt_4 (List.mem_of_getElem? (i := 58) rfl)), (lt_4 (List.mem_of_getElem? (i := 59) rfl))⟩
theorem lw_p18 : lw_okq (⟨"TankBehind$RuleReader", "keepClause", "(III)V"⟩, 10) := ⟨⟨by decide +kernel, by decide +kernel⟩, (lt_1 (List.mem_of_getElem? (i := 114) rfl)), (lt_4 (List.mem_of_getElem? (i := 70) rfl)), (lt_4 (List.mem_of_getElem? (i := 71) rfl))⟩
theorem lw_p19 : lw_okq (⟨"TankBehind", "tally", "(I)V"⟩, 15) := ⟨⟨by decide +kernel, by decide +kernel⟩, (lt_1 (List.mem_of_getElem? (i := 22) rfl)), (lt_4 (List.mem_of_getElem? (i := 105) rfl)), (lt_4 (List.mem_of_getElem? (i := 106) rfl))⟩
theorem lw_p20 : lw_okq (⟨"TankBehind", "mustOf", "(III)I"⟩, 15) := ⟨⟨by decide +kernel, by decide +kernel⟩, (lt_1 (List.mem_of_getElem? (i := 22) rfl)), (lt_4 (List.mem_of_getElem? (i := 123) rfl)), (lt_4 (List.mem_of_getElem? (i := 124) rfl))⟩
theorem lw_p21 : lw_okq (⟨"TankBehind", "askOfKind", "(III)V"⟩, 15) := ⟨⟨by decide +kernel, by decide +kernel⟩, (lt_1 (List.mem_of_getElem? (i := 22) rfl)), (lt_4 (List.mem_of_getElem? (i := 127) rfl)), (lt_4 (List.mem_of_getElem? (i := 128) rfl))⟩
theorem lw_p22 : lw_okq (⟨"TankBehind$RuleBook", "work", "([III)J"⟩, 6) := ⟨⟨by decide +kernel, by decide +kernel⟩, (lt_1 (List.mem_of_getElem? (i := 157) rfl)), (lt_4 (List.mem_of_getElem? (i := 138) rfl)), (lt_4 (List.mem_of_getElem? (i := 139) rfl))⟩
theorem lw_p23 : lw_okq (⟨"TankBehind$RuleBook", "valueOf", "(I)J"⟩, 6) := ⟨⟨by decide +kernel, by decide +kernel⟩, (lt_1 (List.mem_of_getElem? (i := 157) rfl)), (lt_4 (List.mem_of_getElem? (i := 143) rfl)), (lt_4 (List.mem_of_getElem? (i := 144) rfl))⟩
theorem lw_p24 : lw_okq (⟨"TankBehind$Tests", "isOf", "(III)Z"⟩, 10) := ⟨⟨by decide +kernel, by decide +kernel⟩, (lt_1 (List.mem_of_getElem? (i := 186) rfl)), (lt_4 (List.mem_of_getElem? (i := 200) rfl)), (lt_4 (List.mem_of_getElem? (i := 201) rfl))⟩
theorem lw_p25 : lw_okq (⟨"TankBehind", "firstKnewFails", "(JII)I"⟩, 15) := ⟨⟨by decide +kernel, by decide +kernel⟩, (lt_1 (List.mem_of_getElem? (i := 22) rfl)), (lt_4 (List.mem_of_getElem? (i := 216) rfl)), (lt_4 (List.mem_of_getElem? (i := 217) rfl))⟩
theorem lw_p26 : lw_okq (⟨"TankBehind$Crashes", "sortIntoStrata", "(II)V"⟩, 13) := ⟨⟨by decide +kernel, by decide +kernel⟩, (lt_1 (List.mem_of_getElem? (i := 224) rfl)), (lt_5 (List.mem_of_getElem? (i := 20) rfl)), (lt_5 (List.mem_of_getElem? (i := 21) rfl))⟩
theorem lw_p27 : lw_okq (⟨"TankBehind$Plan", "beginOf", "(I[I)I"⟩, 8) := ⟨⟨by decide +kernel, by decide +kernel⟩, (lt_2 (List.mem_of_getElem? (i := 60) rfl)), (lt_5 (List.mem_of_getElem? (i := 101) rfl)), (lt_5 (List.mem_of_getElem? (i := 102) rfl))⟩
theorem lw_p28 : lw_okq (⟨"TankBehind$Plan", "isBehind", "(II)Z"⟩, 8) := ⟨⟨by decide +kernel, by decide +kernel⟩, (lt_2 (List.mem_of_getElem? (i := 60) rfl)), (lt_5 (List.mem_of_getElem? (i := 105) rfl)), (lt_5 (List.mem_of_getElem? (i := 106) rfl))⟩
theorem lw_p29 : lw_okq (⟨"TankBehind$Recalls", "isLeft", "(ILTankBehind$Car;)Z"⟩, 5) := ⟨⟨by decide +kernel, by decide +kernel⟩, (lt_2 (List.mem_of_getElem? (i := 94) rfl)), (lt_5 (List.mem_of_getElem? (i := 170) rfl)), (lt_5 (List.mem_of_getElem? (i := 171) rfl))⟩
theorem lw_p30 : lw_okq (⟨"TankBehind", "askOfCrash", "(ILTankBehind$Car;)V"⟩, 15) := ⟨⟨by decide +kernel, by decide +kernel⟩, (lt_1 (List.mem_of_getElem? (i := 22) rfl)), (lt_5 (List.mem_of_getElem? (i := 225) rfl)), (lt_5 (List.mem_of_getElem? (i := 226) rfl))⟩
theorem lw_p31 : lw_okq (⟨"TankBehind$Savers", "coinsOf", "(I)I"⟩, 6) := ⟨⟨by decide +kernel, by decide +kernel⟩, (lt_2 (List.mem_of_getElem? (i := 118) rfl)), (lt_6 (List.mem_of_getElem? (i := 26) rfl)), (lt_6 (List.mem_of_getElem? (i := 27) rfl))⟩
noncomputable def lw_privs_2 : List (MethodName × Nat) := [(⟨"TankBehind$RuleReader", "readComparison", "(I)Z"⟩, 10), (⟨"TankBehind$RuleReader", "comparisonHere", "()I"⟩, 10), (⟨"TankBehind$RuleReader", "keepClause", "(III)V"⟩, 10), (⟨"TankBehind", "tally", "(I)V"⟩, 15), (⟨"TankBehind", "mustOf", "(III)I"⟩, 15), (⟨"TankBehind", "askOfKind", "(III)V"⟩, 15), (⟨"TankBehind$RuleBook", "work", "([III)J"⟩, 6), (⟨"TankBehind$RuleBook", "valueOf", "(I)J"⟩, 6), (⟨"TankBehind$Tests", "isOf", "(III)Z"⟩, 10), (⟨"TankBehind", "firstKnewFails", "(JII)I"⟩, 15), (⟨"TankBehind$Crashes", "sortIntoStrata", "(II)V"⟩, 13), (⟨"TankBehind$Plan", "beginOf", "(I[I)I"⟩, 8), (⟨"TankBehind$Plan", "isBehind", "(II)Z"⟩, 8), (⟨"TankBehind$Recalls", "isLeft", "(ILTankBehind$Car;)Z"⟩, 5), (⟨"TankBehind", "askOfCrash", "(ILTankBehind$Car;)V"⟩, 15), (⟨"TankBehind$Savers", "coinsOf", "(I)I"⟩, 6)]
theorem lw_r2 : ∀ q ∈ lw_privs_2, lw_okq q := List.forall_mem_cons.mpr ⟨lw_p16, List.forall_mem_cons.mpr ⟨lw_p17, List.forall_mem_cons.mpr ⟨lw_p18, List.forall_mem_cons.mpr ⟨lw_p19, List.forall_mem_cons.mpr ⟨lw_p20, List.forall_mem_cons.mpr ⟨lw_p21, List.forall_mem_cons.mpr ⟨lw_p22, List.forall_mem_cons.mpr ⟨lw_p23, List.forall_mem_cons.mpr ⟨lw_p24, List.forall_mem_cons.mpr ⟨lw_p25, List.forall_mem_cons.mpr ⟨lw_p26, List.forall_mem_cons.mpr ⟨lw_p27, List.forall_mem_cons.mpr ⟨lw_p28, List.forall_mem_cons.mpr ⟨lw_p29, List.forall_mem_cons.mpr ⟨lw_p30, List.forall_mem_cons.mpr ⟨lw_p31, fun _ h => absurd h List.not_mem_nil⟩⟩⟩⟩⟩⟩⟩⟩⟩⟩⟩⟩⟩⟩⟩⟩
theorem lw_p32 : lw_okq (⟨"TankBehind$Savers", "livesOf", "(I)I"⟩, 6) := ⟨⟨by decide +kernel, by decide +kernel⟩, (lt_2 (List.mem_of_getElem? (i := 118) rfl)), (lt_6 (List.mem_of_getElem? (i := 30) rfl)), (lt_6 (List.mem_of_getElem? (i := 31) rfl))⟩
theorem lw_p33 : lw_okq (⟨"TankBehindModel", "isKind", "(I)Z"⟩, 96) := ⟨⟨by decide +kernel, by decide +kernel⟩, (lt_6 (List.mem_of_getElem? (i := 42) rfl)), (lt_7 (List.mem_of_getElem? (i := 134) rfl)), (lt_7 (List.mem_of_getElem? (i := 135) rfl))⟩
theorem lw_p34 : lw_okq (⟨"TankBehindModel", "isPart", "(I)Z"⟩, 96) := ⟨⟨by decide +kernel, by decide +kernel⟩, (lt_6 (List.mem_of_getElem? (i := 42) rfl)), (lt_7 (List.mem_of_getElem? (i := 138) rfl)), (lt_7 (List.mem_of_getElem? (i := 139) rfl))⟩
theorem lw_p35 : lw_okq (⟨"TankBehindModel", "isPerson", "(I)Z"⟩, 96) := ⟨⟨by decide +kernel, by decide +kernel⟩, (lt_6 (List.mem_of_getElem? (i := 42) rfl)), (lt_7 (List.mem_of_getElem? (i := 149) rfl)), (lt_7 (List.mem_of_getElem? (i := 150) rfl))⟩
theorem lw_p36 : lw_okq (⟨"TankBehindModel", "isCar", "(I)Z"⟩, 96) := ⟨⟨by decide +kernel, by decide +kernel⟩, (lt_6 (List.mem_of_getElem? (i := 42) rfl)), (lt_7 (List.mem_of_getElem? (i := 157) rfl)), (lt_7 (List.mem_of_getElem? (i := 158) rfl))⟩
theorem lw_p37 : lw_okq (⟨"TankBehindModel", "ownerIn", "(III)I"⟩, 96) := ⟨⟨by decide +kernel, by decide +kernel⟩, (lt_6 (List.mem_of_getElem? (i := 42) rfl)), (lt_7 (List.mem_of_getElem? (i := 165) rfl)), (lt_7 (List.mem_of_getElem? (i := 166) rfl))⟩
theorem lw_p38 : lw_okq (⟨"TankBehindModel", "partsOfCar", "(II)I"⟩, 96) := ⟨⟨by decide +kernel, by decide +kernel⟩, (lt_6 (List.mem_of_getElem? (i := 42) rfl)), (lt_7 (List.mem_of_getElem? (i := 173) rfl)), (lt_7 (List.mem_of_getElem? (i := 174) rfl))⟩
theorem lw_p39 : lw_okq (⟨"TankBehindModel", "partsOf", "(II)I"⟩, 96) := ⟨⟨by decide +kernel, by decide +kernel⟩, (lt_6 (List.mem_of_getElem? (i := 42) rfl)), (lt_7 (List.mem_of_getElem? (i := 177) rfl)), (lt_7 (List.mem_of_getElem? (i := 178) rfl))⟩
theorem lw_p40 : lw_okq (⟨"TankBehindModel", "forceOf", "(II)I"⟩, 96) := ⟨⟨by decide +kernel, by decide +kernel⟩, (lt_6 (List.mem_of_getElem? (i := 42) rfl)), (lt_7 (List.mem_of_getElem? (i := 186) rfl)), (lt_7 (List.mem_of_getElem? (i := 187) rfl))⟩
theorem lw_p41 : lw_okq (⟨"TankBehindModel", "burnsIn", "(IIIII)Z"⟩, 96) := ⟨⟨by decide +kernel, by decide +kernel⟩, (lt_6 (List.mem_of_getElem? (i := 42) rfl)), (lt_7 (List.mem_of_getElem? (i := 194) rfl)), (lt_7 (List.mem_of_getElem? (i := 195) rfl))⟩
theorem lw_p42 : lw_okq (⟨"TankBehindModel", "burnsWith", "(IIII)Z"⟩, 96) := ⟨⟨by decide +kernel, by decide +kernel⟩, (lt_6 (List.mem_of_getElem? (i := 42) rfl)), (lt_7 (List.mem_of_getElem? (i := 198) rfl)), (lt_7 (List.mem_of_getElem? (i := 199) rfl))⟩
theorem lw_p43 : lw_okq (⟨"TankBehindModel", "put", "(I)V"⟩, 96) := ⟨⟨by decide +kernel, by decide +kernel⟩, (lt_6 (List.mem_of_getElem? (i := 42) rfl)), (lt_7 (List.mem_of_getElem? (i := 206) rfl)), (lt_7 (List.mem_of_getElem? (i := 207) rfl))⟩
theorem lw_p44 : lw_okq (⟨"TankBehindModel", "clause", "(I)V"⟩, 96) := ⟨⟨by decide +kernel, by decide +kernel⟩, (lt_6 (List.mem_of_getElem? (i := 42) rfl)), (lt_7 (List.mem_of_getElem? (i := 218) rfl)), (lt_7 (List.mem_of_getElem? (i := 219) rfl))⟩
theorem lw_p45 : lw_okq (⟨"TankBehindModel", "blanks", "()V"⟩, 96) := ⟨⟨by decide +kernel, by decide +kernel⟩, (lt_6 (List.mem_of_getElem? (i := 42) rfl)), (lt_7 (List.mem_of_getElem? (i := 222) rfl)), (lt_7 (List.mem_of_getElem? (i := 223) rfl))⟩
theorem lw_p46 : lw_okq (⟨"TankBehindModel", "sign", "()I"⟩, 96) := ⟨⟨by decide +kernel, by decide +kernel⟩, (lt_6 (List.mem_of_getElem? (i := 42) rfl)), (lt_7 (List.mem_of_getElem? (i := 226) rfl)), (lt_7 (List.mem_of_getElem? (i := 227) rfl))⟩
theorem lw_p47 : lw_okq (⟨"TankBehindModel", "stands", "(Ljava/lang/String;)Z"⟩, 96) := ⟨⟨by decide +kernel, by decide +kernel⟩, (lt_6 (List.mem_of_getElem? (i := 42) rfl)), (lt_7 (List.mem_of_getElem? (i := 237) rfl)), (lt_7 (List.mem_of_getElem? (i := 238) rfl))⟩
noncomputable def lw_privs_3 : List (MethodName × Nat) := [(⟨"TankBehind$Savers", "livesOf", "(I)I"⟩, 6), (⟨"TankBehindModel", "isKind", "(I)Z"⟩, 96), (⟨"TankBehindModel", "isPart", "(I)Z"⟩, 96), (⟨"TankBehindModel", "isPerson", "(I)Z"⟩, 96), (⟨"TankBehindModel", "isCar", "(I)Z"⟩, 96), (⟨"TankBehindModel", "ownerIn", "(III)I"⟩, 96), (⟨"TankBehindModel", "partsOfCar", "(II)I"⟩, 96), (⟨"TankBehindModel", "partsOf", "(II)I"⟩, 96), (⟨"TankBehindModel", "forceOf", "(II)I"⟩, 96), (⟨"TankBehindModel", "burnsIn", "(IIIII)Z"⟩, 96), (⟨"TankBehindModel", "burnsWith", "(IIII)Z"⟩, 96), (⟨"TankBehindModel", "put", "(I)V"⟩, 96), (⟨"TankBehindModel", "clause", "(I)V"⟩, 96), (⟨"TankBehindModel", "blanks", "()V"⟩, 96), (⟨"TankBehindModel", "sign", "()I"⟩, 96), (⟨"TankBehindModel", "stands", "(Ljava/lang/String;)Z"⟩, 96)]
theorem lw_r3 : ∀ q ∈ lw_privs_3, lw_okq q := List.forall_mem_cons.mpr ⟨lw_p32, List.forall_mem_cons.mpr ⟨lw_p33, List.forall_mem_cons.mpr ⟨lw_p34, List.forall_mem_cons.mpr ⟨lw_p35, List.forall_mem_cons.mpr ⟨lw_p36, List.forall_mem_cons.mpr ⟨lw_p37, List.forall_mem_cons.mpr ⟨lw_p38, List.forall_mem_cons.mpr ⟨lw_p39, List.forall_mem_cons.mpr ⟨lw_p40, List.forall_mem_cons.mpr ⟨lw_p41, List.forall_mem_cons.mpr ⟨lw_p42, List.forall_mem_cons.mpr ⟨lw_p43, List.forall_mem_cons.mpr ⟨lw_p44, List.forall_mem_cons.mpr ⟨lw_p45, List.forall_mem_cons.mpr ⟨lw_p46, List.forall_mem_cons.mpr ⟨lw_p47, fun _ h => absurd h List.not_mem_nil⟩⟩⟩⟩⟩⟩⟩⟩⟩⟩⟩⟩⟩⟩⟩⟩
theorem lw_p48 : lw_okq (⟨"TankBehindModel", "fails", "(II)V"⟩, 96) := ⟨⟨by decide +kernel, by decide +kernel⟩, (lt_6 (List.mem_of_getElem? (i := 42) rfl)), (lt_8 (List.mem_of_getElem? (i := 3) rfl)), (lt_8 (List.mem_of_getElem? (i := 4) rfl))⟩
theorem lw_p49 : lw_okq (⟨"TankBehindModel", "digits", "(I)I"⟩, 96) := ⟨⟨by decide +kernel, by decide +kernel⟩, (lt_6 (List.mem_of_getElem? (i := 42) rfl)), (lt_8 (List.mem_of_getElem? (i := 7) rfl)), (lt_8 (List.mem_of_getElem? (i := 8) rfl))⟩
theorem lw_p50 : lw_okq (⟨"TankBehindModel", "reads", "(I)V"⟩, 96) := ⟨⟨by decide +kernel, by decide +kernel⟩, (lt_6 (List.mem_of_getElem? (i := 42) rfl)), (lt_8 (List.mem_of_getElem? (i := 14) rfl)), (lt_8 (List.mem_of_getElem? (i := 15) rfl))⟩
theorem lw_p51 : lw_okq (⟨"TankBehindModel", "beginsFact", "()V"⟩, 96) := ⟨⟨by decide +kernel, by decide +kernel⟩, (lt_6 (List.mem_of_getElem? (i := 42) rfl)), (lt_8 (List.mem_of_getElem? (i := 18) rfl)), (lt_8 (List.mem_of_getElem? (i := 19) rfl))⟩
theorem lw_p52 : lw_okq (⟨"TankBehindModel", "opensDeep", "(II)V"⟩, 96) := ⟨⟨by decide +kernel, by decide +kernel⟩, (lt_6 (List.mem_of_getElem? (i := 42) rfl)), (lt_8 (List.mem_of_getElem? (i := 23) rfl)), (lt_8 (List.mem_of_getElem? (i := 24) rfl))⟩
theorem lw_p53 : lw_okq (⟨"TankBehindModel", "opens", "(I)V"⟩, 96) := ⟨⟨by decide +kernel, by decide +kernel⟩, (lt_6 (List.mem_of_getElem? (i := 42) rfl)), (lt_8 (List.mem_of_getElem? (i := 27) rfl)), (lt_8 (List.mem_of_getElem? (i := 28) rfl))⟩
theorem lw_p54 : lw_okq (⟨"TankBehindModel", "value", "()V"⟩, 96) := ⟨⟨by decide +kernel, by decide +kernel⟩, (lt_6 (List.mem_of_getElem? (i := 42) rfl)), (lt_8 (List.mem_of_getElem? (i := 31) rfl)), (lt_8 (List.mem_of_getElem? (i := 32) rfl))⟩
theorem lw_p55 : lw_okq (⟨"TankBehindModel", "counts", "(I)V"⟩, 96) := ⟨⟨by decide +kernel, by decide +kernel⟩, (lt_6 (List.mem_of_getElem? (i := 42) rfl)), (lt_8 (List.mem_of_getElem? (i := 35) rfl)), (lt_8 (List.mem_of_getElem? (i := 36) rfl))⟩
theorem lw_p56 : lw_okq (⟨"TankBehindModel", "entry", "(II)V"⟩, 96) := ⟨⟨by decide +kernel, by decide +kernel⟩, (lt_6 (List.mem_of_getElem? (i := 42) rfl)), (lt_8 (List.mem_of_getElem? (i := 40) rfl)), (lt_8 (List.mem_of_getElem? (i := 41) rfl))⟩
theorem lw_p57 : lw_okq (⟨"TankBehindModel", "behindValue", "()V"⟩, 96) := ⟨⟨by decide +kernel, by decide +kernel⟩, (lt_6 (List.mem_of_getElem? (i := 42) rfl)), (lt_8 (List.mem_of_getElem? (i := 59) rfl)), (lt_8 (List.mem_of_getElem? (i := 60) rfl))⟩
theorem lw_p58 : lw_okq (⟨"TankBehindModel", "makesProducts", "()V"⟩, 96) := ⟨⟨by decide +kernel, by decide +kernel⟩, (lt_6 (List.mem_of_getElem? (i := 42) rfl)), (lt_8 (List.mem_of_getElem? (i := 63) rfl)), (lt_8 (List.mem_of_getElem? (i := 64) rfl))⟩
theorem lw_p59 : lw_okq (⟨"TankBehindModel", "top", "()I"⟩, 96) := ⟨⟨by decide +kernel, by decide +kernel⟩, (lt_6 (List.mem_of_getElem? (i := 42) rfl)), (lt_8 (List.mem_of_getElem? (i := 67) rfl)), (lt_8 (List.mem_of_getElem? (i := 68) rfl))⟩
theorem lw_p60 : lw_okq (⟨"TankBehindModel", "makesSums", "()V"⟩, 96) := ⟨⟨by decide +kernel, by decide +kernel⟩, (lt_6 (List.mem_of_getElem? (i := 42) rfl)), (lt_8 (List.mem_of_getElem? (i := 71) rfl)), (lt_8 (List.mem_of_getElem? (i := 72) rfl))⟩
theorem lw_p61 : lw_okq (⟨"TankBehindModel", "closesRound", "(I)V"⟩, 96) := ⟨⟨by decide +kernel, by decide +kernel⟩, (lt_6 (List.mem_of_getElem? (i := 42) rfl)), (lt_8 (List.mem_of_getElem? (i := 75) rfl)), (lt_8 (List.mem_of_getElem? (i := 76) rfl))⟩
theorem lw_p62 : lw_okq (⟨"TankBehindModel", "compares", "()I"⟩, 96) := ⟨⟨by decide +kernel, by decide +kernel⟩, (lt_6 (List.mem_of_getElem? (i := 42) rfl)), (lt_8 (List.mem_of_getElem? (i := 79) rfl)), (lt_8 (List.mem_of_getElem? (i := 80) rfl))⟩
theorem lw_p63 : lw_okq (⟨"TankBehindModel", "behindFact", "()V"⟩, 96) := ⟨⟨by decide +kernel, by decide +kernel⟩, (lt_6 (List.mem_of_getElem? (i := 42) rfl)), (lt_8 (List.mem_of_getElem? (i := 83) rfl)), (lt_8 (List.mem_of_getElem? (i := 84) rfl))⟩
noncomputable def lw_privs_4 : List (MethodName × Nat) := [(⟨"TankBehindModel", "fails", "(II)V"⟩, 96), (⟨"TankBehindModel", "digits", "(I)I"⟩, 96), (⟨"TankBehindModel", "reads", "(I)V"⟩, 96), (⟨"TankBehindModel", "beginsFact", "()V"⟩, 96), (⟨"TankBehindModel", "opensDeep", "(II)V"⟩, 96), (⟨"TankBehindModel", "opens", "(I)V"⟩, 96), (⟨"TankBehindModel", "value", "()V"⟩, 96), (⟨"TankBehindModel", "counts", "(I)V"⟩, 96), (⟨"TankBehindModel", "entry", "(II)V"⟩, 96), (⟨"TankBehindModel", "behindValue", "()V"⟩, 96), (⟨"TankBehindModel", "makesProducts", "()V"⟩, 96), (⟨"TankBehindModel", "top", "()I"⟩, 96), (⟨"TankBehindModel", "makesSums", "()V"⟩, 96), (⟨"TankBehindModel", "closesRound", "(I)V"⟩, 96), (⟨"TankBehindModel", "compares", "()I"⟩, 96), (⟨"TankBehindModel", "behindFact", "()V"⟩, 96)]
theorem lw_r4 : ∀ q ∈ lw_privs_4, lw_okq q := List.forall_mem_cons.mpr ⟨lw_p48, List.forall_mem_cons.mpr ⟨lw_p49, List.forall_mem_cons.mpr ⟨lw_p50, List.forall_mem_cons.mpr ⟨lw_p51, List.forall_mem_cons.mpr ⟨lw_p52, List.forall_mem_cons.mpr ⟨lw_p53, List.forall_mem_cons.mpr ⟨lw_p54, List.forall_mem_cons.mpr ⟨lw_p55, List.forall_mem_cons.mpr ⟨lw_p56, List.forall_mem_cons.mpr ⟨lw_p57, List.forall_mem_cons.mpr ⟨lw_p58, List.forall_mem_cons.mpr ⟨lw_p59, List.forall_mem_cons.mpr ⟨lw_p60, List.forall_mem_cons.mpr ⟨lw_p61, List.forall_mem_cons.mpr ⟨lw_p62, List.forall_mem_cons.mpr ⟨lw_p63, fun _ h => absurd h List.not_mem_nil⟩⟩⟩⟩⟩⟩⟩⟩⟩⟩⟩⟩⟩⟩⟩⟩
theorem lw_p64 : lw_okq (⟨"TankBehindModel", "makesNots", "()V"⟩, 96) := ⟨⟨by decide +kernel, by decide +kernel⟩, (lt_6 (List.mem_of_getElem? (i := 42) rfl)), (lt_8 (List.mem_of_getElem? (i := 87) rfl)), (lt_8 (List.mem_of_getElem? (i := 88) rfl))⟩
theorem lw_p65 : lw_okq (⟨"TankBehindModel", "makesAnds", "()V"⟩, 96) := ⟨⟨by decide +kernel, by decide +kernel⟩, (lt_6 (List.mem_of_getElem? (i := 42) rfl)), (lt_8 (List.mem_of_getElem? (i := 92) rfl)), (lt_8 (List.mem_of_getElem? (i := 93) rfl))⟩
theorem lw_p66 : lw_okq (⟨"TankBehindModel", "makesOrs", "()V"⟩, 96) := ⟨⟨by decide +kernel, by decide +kernel⟩, (lt_6 (List.mem_of_getElem? (i := 42) rfl)), (lt_8 (List.mem_of_getElem? (i := 97) rfl)), (lt_8 (List.mem_of_getElem? (i := 98) rfl))⟩
theorem lw_p67 : lw_okq (⟨"TankBehindModel", "inForceIn", "(I)I"⟩, 96) := ⟨⟨by decide +kernel, by decide +kernel⟩, (lt_6 (List.mem_of_getElem? (i := 42) rfl)), (lt_8 (List.mem_of_getElem? (i := 106) rfl)), (lt_8 (List.mem_of_getElem? (i := 107) rfl))⟩
theorem lw_p68 : lw_okq (⟨"TankBehindModel", "isAsked", "(III)Z"⟩, 96) := ⟨⟨by decide +kernel, by decide +kernel⟩, (lt_6 (List.mem_of_getElem? (i := 42) rfl)), (lt_8 (List.mem_of_getElem? (i := 114) rfl)), (lt_8 (List.mem_of_getElem? (i := 115) rfl))⟩
theorem lw_p69 : lw_okq (⟨"TankBehindModel", "mustOf", "(III)I"⟩, 96) := ⟨⟨by decide +kernel, by decide +kernel⟩, (lt_6 (List.mem_of_getElem? (i := 42) rfl)), (lt_8 (List.mem_of_getElem? (i := 118) rfl)), (lt_8 (List.mem_of_getElem? (i := 119) rfl))⟩
theorem lw_p70 : lw_okq (⟨"TankBehindModel", "asks", "(III)V"⟩, 96) := ⟨⟨by decide +kernel, by decide +kernel⟩, (lt_6 (List.mem_of_getElem? (i := 42) rfl)), (lt_8 (List.mem_of_getElem? (i := 122) rfl)), (lt_8 (List.mem_of_getElem? (i := 123) rfl))⟩
theorem lw_p71 : lw_okq (⟨"TankBehindModel", "tells", "(III)I"⟩, 96) := ⟨⟨by decide +kernel, by decide +kernel⟩, (lt_6 (List.mem_of_getElem? (i := 42) rfl)), (lt_8 (List.mem_of_getElem? (i := 126) rfl)), (lt_8 (List.mem_of_getElem? (i := 127) rfl))⟩
theorem lw_p72 : lw_okq (⟨"TankBehindModel", "answer", "(III)J"⟩, 96) := ⟨⟨by decide +kernel, by decide +kernel⟩, (lt_6 (List.mem_of_getElem? (i := 42) rfl)), (lt_8 (List.mem_of_getElem? (i := 130) rfl)), (lt_8 (List.mem_of_getElem? (i := 131) rfl))⟩
theorem lw_p73 : lw_okq (⟨"TankBehindModel", "knewOf", "(IIIIZ)I"⟩, 96) := ⟨⟨by decide +kernel, by decide +kernel⟩, (lt_6 (List.mem_of_getElem? (i := 42) rfl)), (lt_8 (List.mem_of_getElem? (i := 160) rfl)), (lt_8 (List.mem_of_getElem? (i := 161) rfl))⟩
theorem lw_p74 : lw_okq (⟨"TankBehindModel", "knewThatItFails", "(III)I"⟩, 96) := ⟨⟨by decide +kernel, by decide +kernel⟩, (lt_6 (List.mem_of_getElem? (i := 42) rfl)), (lt_8 (List.mem_of_getElem? (i := 168) rfl)), (lt_8 (List.mem_of_getElem? (i := 169) rfl))⟩
theorem lw_p75 : lw_okq (⟨"TankBehindModel", "isMemo", "(I)Z"⟩, 96) := ⟨⟨by decide +kernel, by decide +kernel⟩, (lt_6 (List.mem_of_getElem? (i := 42) rfl)), (lt_8 (List.mem_of_getElem? (i := 196) rfl)), (lt_8 (List.mem_of_getElem? (i := 197) rfl))⟩
theorem lw_p76 : lw_okq (⟨"TankBehindModel", "sumOf", "(III)J"⟩, 96) := ⟨⟨by decide +kernel, by decide +kernel⟩, (lt_6 (List.mem_of_getElem? (i := 42) rfl)), (lt_8 (List.mem_of_getElem? (i := 206) rfl)), (lt_8 (List.mem_of_getElem? (i := 207) rfl))⟩
theorem lw_p77 : lw_okq (⟨"TankBehindModel", "goes", "(I)I"⟩, 96) := ⟨⟨by decide +kernel, by decide +kernel⟩, (lt_6 (List.mem_of_getElem? (i := 42) rfl)), (lt_8 (List.mem_of_getElem? (i := 236) rfl)), (lt_8 (List.mem_of_getElem? (i := 237) rfl))⟩
theorem lw_p78 : lw_okq (⟨"TankBehindModel", "slack", "(I)I"⟩, 96) := ⟨⟨by decide +kernel, by decide +kernel⟩, (lt_6 (List.mem_of_getElem? (i := 42) rfl)), (lt_9 (List.mem_of_getElem? (i := 0) rfl)), (lt_9 (List.mem_of_getElem? (i := 1) rfl))⟩
theorem lw_p79 : lw_okq (⟨"TankBehindModel", "costs", "(II)I"⟩, 96) := ⟨⟨by decide +kernel, by decide +kernel⟩, (lt_6 (List.mem_of_getElem? (i := 42) rfl)), (lt_9 (List.mem_of_getElem? (i := 12) rfl)), (lt_9 (List.mem_of_getElem? (i := 13) rfl))⟩
noncomputable def lw_privs_5 : List (MethodName × Nat) := [(⟨"TankBehindModel", "makesNots", "()V"⟩, 96), (⟨"TankBehindModel", "makesAnds", "()V"⟩, 96), (⟨"TankBehindModel", "makesOrs", "()V"⟩, 96), (⟨"TankBehindModel", "inForceIn", "(I)I"⟩, 96), (⟨"TankBehindModel", "isAsked", "(III)Z"⟩, 96), (⟨"TankBehindModel", "mustOf", "(III)I"⟩, 96), (⟨"TankBehindModel", "asks", "(III)V"⟩, 96), (⟨"TankBehindModel", "tells", "(III)I"⟩, 96), (⟨"TankBehindModel", "answer", "(III)J"⟩, 96), (⟨"TankBehindModel", "knewOf", "(IIIIZ)I"⟩, 96), (⟨"TankBehindModel", "knewThatItFails", "(III)I"⟩, 96), (⟨"TankBehindModel", "isMemo", "(I)Z"⟩, 96), (⟨"TankBehindModel", "sumOf", "(III)J"⟩, 96), (⟨"TankBehindModel", "goes", "(I)I"⟩, 96), (⟨"TankBehindModel", "slack", "(I)I"⟩, 96), (⟨"TankBehindModel", "costs", "(II)I"⟩, 96)]
theorem lw_r5 : ∀ q ∈ lw_privs_5, lw_okq q := List.forall_mem_cons.mpr ⟨lw_p64, List.forall_mem_cons.mpr ⟨lw_p65, List.forall_mem_cons.mpr ⟨lw_p66, List.forall_mem_cons.mpr ⟨lw_p67, List.forall_mem_cons.mpr ⟨lw_p68, List.forall_mem_cons.mpr ⟨lw_p69, List.forall_mem_cons.mpr ⟨lw_p70, List.forall_mem_cons.mpr ⟨lw_p71, List.forall_mem_cons.mpr ⟨lw_p72, List.forall_mem_cons.mpr ⟨lw_p73, List.forall_mem_cons.mpr ⟨lw_p74, List.forall_mem_cons.mpr ⟨lw_p75, List.forall_mem_cons.mpr ⟨lw_p76, List.forall_mem_cons.mpr ⟨lw_p77, List.forall_mem_cons.mpr ⟨lw_p78, List.forall_mem_cons.mpr ⟨lw_p79, fun _ h => absurd h List.not_mem_nil⟩⟩⟩⟩⟩⟩⟩⟩⟩⟩⟩⟩⟩⟩⟩⟩
theorem lw_p80 : lw_okq (⟨"TankBehindModel", "isCall", "(I)Z"⟩, 96) := ⟨⟨by decide +kernel, by decide +kernel⟩, (lt_6 (List.mem_of_getElem? (i := 42) rfl)), (lt_9 (List.mem_of_getElem? (i := 28) rfl)), (lt_9 (List.mem_of_getElem? (i := 29) rfl))⟩
theorem lw_p81 : lw_okq (⟨"TankBehindModel", "isLeft", "(II)Z"⟩, 96) := ⟨⟨by decide +kernel, by decide +kernel⟩, (lt_6 (List.mem_of_getElem? (i := 42) rfl)), (lt_9 (List.mem_of_getElem? (i := 32) rfl)), (lt_9 (List.mem_of_getElem? (i := 33) rfl))⟩
theorem lw_p82 : lw_okq (⟨"TankBehindModel", "isOf", "(II)Z"⟩, 96) := ⟨⟨by decide +kernel, by decide +kernel⟩, (lt_6 (List.mem_of_getElem? (i := 42) rfl)), (lt_9 (List.mem_of_getElem? (i := 36) rfl)), (lt_9 (List.mem_of_getElem? (i := 37) rfl))⟩
noncomputable def lw_privs_6 : List (MethodName × Nat) := [(⟨"TankBehindModel", "isCall", "(I)Z"⟩, 96), (⟨"TankBehindModel", "isLeft", "(II)Z"⟩, 96), (⟨"TankBehindModel", "isOf", "(II)Z"⟩, 96)]
theorem lw_r6 : ∀ q ∈ lw_privs_6, lw_okq q := List.forall_mem_cons.mpr ⟨lw_p80, List.forall_mem_cons.mpr ⟨lw_p81, List.forall_mem_cons.mpr ⟨lw_p82, fun _ h => absurd h List.not_mem_nil⟩⟩⟩
noncomputable def lw_privs : List (MethodName × Nat) := lw_privs_1 ++ (lw_privs_2 ++ (lw_privs_3 ++ (lw_privs_4 ++ (lw_privs_5 ++ (lw_privs_6)))))
noncomputable def lw_tbl : List Cond := k2_sels lw_privs ++ tables_1
theorem lw_privs_ok : ∀ q ∈ lw_privs, lw_okq q := by
  show ∀ q ∈ lw_privs_1 ++ (lw_privs_2 ++ (lw_privs_3 ++ (lw_privs_4 ++ (lw_privs_5 ++ (lw_privs_6))))), lw_okq q
  exact List.forall_mem_append.mpr ⟨lw_r1, List.forall_mem_append.mpr ⟨lw_r2, List.forall_mem_append.mpr ⟨lw_r3, List.forall_mem_append.mpr ⟨lw_r4, List.forall_mem_append.mpr ⟨lw_r5, lw_r6⟩⟩⟩⟩⟩
end
section
noncomputable def RX0 : String := "TankBehind$Car"
noncomputable def TX0 : u_T := fun k => match k with
  | 0 => ("TankBehind$Car", "kind", "I", true)
  | 1 => ("TankBehind$Car", "made", "I", true)
  | 2 => ("TankBehind$Car", "told", "I", true)
  | 3 => ("TankBehind$Car", "firstOwner", "I", true)
  | 4 => ("TankBehind$Car", "owner", "I", false)
  | 5 => ("TankBehind$Car", "sold", "I", false)
  | 6 => ("TankBehind$Car", "crashed", "I", false)
  | 7 => ("TankBehind$Car", "wrecked", "Z", false)
  | 8 => ("TankBehind$Car", "reachedBits", "I", false)
  | 9 => ("TankBehind$Car", "mendedBits", "I", false)
  | _ => ("TankBehind$Car", "partFrom", "[I", true)
noncomputable def tyX0 : Nat → FieldType := fun k => match k with
  | 0 => .int
  | 1 => .int
  | 2 => .int
  | 3 => .int
  | 4 => .int
  | 5 => .int
  | 6 => .int
  | 7 => .boolean
  | 8 => .int
  | 9 => .int
  | _ => .array .int
theorem nmX0 : ∀ a, a < 11 → ∀ b, b < 11 → a ≠ b → (TX0 a).2.1 ≠ (TX0 b).2.1 := by decide +kernel
theorem tyX0_ok : ∀ k, k < 11 → parseFieldDescriptor (TX0 k).2.2.1 = some (tyX0 k) := by decide +kernel
noncomputable def RX1 : String := "TankBehind$Crashes"
noncomputable def TX1 : u_T := fun k => match k with
  | 0 => ("TankBehind$Crashes", "cars", "[I", true)
  | 1 => ("TankBehind$Crashes", "kinds", "[I", true)
  | 2 => ("TankBehind$Crashes", "months", "[I", true)
  | 3 => ("TankBehind$Crashes", "told", "[I", true)
  | 4 => ("TankBehind$Crashes", "sorts", "[I", true)
  | 5 => ("TankBehind$Crashes", "speeds", "[I", true)
  | 6 => ("TankBehind$Crashes", "dead", "[I", true)
  | 7 => ("TankBehind$Crashes", "burned", "[Z", true)
  | 8 => ("TankBehind$Crashes", "crashes", "I", false)
  | 9 => ("TankBehind$Crashes", "ownCrashes", "[I", true)
  | 10 => ("TankBehind$Crashes", "ownFires", "[I", true)
  | 11 => ("TankBehind$Crashes", "otherCrashes", "[I", true)
  | _ => ("TankBehind$Crashes", "otherFires", "[I", true)
noncomputable def tyX1 : Nat → FieldType := fun k => match k with
  | 0 => .array .int
  | 1 => .array .int
  | 2 => .array .int
  | 3 => .array .int
  | 4 => .array .int
  | 5 => .array .int
  | 6 => .array .int
  | 7 => .array .boolean
  | 8 => .int
  | 9 => .array .int
  | 10 => .array .int
  | 11 => .array .int
  | _ => .array .int
theorem nmX1 : ∀ a, a < 13 → ∀ b, b < 13 → a ≠ b → (TX1 a).2.1 ≠ (TX1 b).2.1 := by decide +kernel
theorem tyX1_ok : ∀ k, k < 13 → parseFieldDescriptor (TX1 k).2.2.1 = some (tyX1 k) := by decide +kernel
noncomputable def RX2 : String := "TankBehind$Fleet"
noncomputable def TX2 : u_T := fun k => match k with
  | 0 => ("TankBehind$Fleet", "employers", "[I", true)
  | 1 => ("TankBehind$Fleet", "moved", "[Z", true)
  | 2 => ("TankBehind$Fleet", "people", "I", false)
  | 3 => ("TankBehind$Fleet", "list", "[LTankBehind$Car;", true)
  | 4 => ("TankBehind$Fleet", "cars", "I", false)
  | 5 => ("TankBehind$Fleet", "saleCars", "[I", true)
  | 6 => ("TankBehind$Fleet", "buyers", "[I", true)
  | 7 => ("TankBehind$Fleet", "saleMonths", "[I", true)
  | 8 => ("TankBehind$Fleet", "saleTold", "[I", true)
  | _ => ("TankBehind$Fleet", "sales", "I", false)
noncomputable def tyX2 : Nat → FieldType := fun k => match k with
  | 0 => .array .int
  | 1 => .array .boolean
  | 2 => .int
  | 3 => .array (.object "TankBehind$Car")
  | 4 => .int
  | 5 => .array .int
  | 6 => .array .int
  | 7 => .array .int
  | 8 => .array .int
  | _ => .int
theorem nmX2 : ∀ a, a < 10 → ∀ b, b < 10 → a ≠ b → (TX2 a).2.1 ≠ (TX2 b).2.1 := by decide +kernel
theorem tyX2_ok : ∀ k, k < 10 → parseFieldDescriptor (TX2 k).2.2.1 = some (tyX2 k) := by decide +kernel
noncomputable def RX3 : String := "TankBehind$Makes"
noncomputable def TX3 : u_T := fun k => match k with
  | 0 => ("TankBehind$Makes", "factors", "[I", true)
  | 1 => ("TankBehind$Makes", "firms", "[I", true)
  | 2 => ("TankBehind$Makes", "bears", "[[I", true)
  | 3 => ("TankBehind$Makes", "coins", "[I", true)
  | 4 => ("TankBehind$Makes", "adds", "[[I", true)
  | 5 => ("TankBehind$Makes", "fitted", "[[I", true)
  | 6 => ("TankBehind$Makes", "kinds", "I", false)
  | _ => ("TankBehind$Makes", "parts", "I", false)
noncomputable def tyX3 : Nat → FieldType := fun k => match k with
  | 0 => .array .int
  | 1 => .array .int
  | 2 => .array (.array .int)
  | 3 => .array .int
  | 4 => .array (.array .int)
  | 5 => .array (.array .int)
  | 6 => .int
  | _ => .int
theorem nmX3 : ∀ a, a < 8 → ∀ b, b < 8 → a ≠ b → (TX3 a).2.1 ≠ (TX3 b).2.1 := by decide +kernel
theorem tyX3_ok : ∀ k, k < 8 → parseFieldDescriptor (TX3 k).2.2.1 = some (tyX3 k) := by decide +kernel
noncomputable def RX4 : String := "TankBehind$Memos"
noncomputable def TX4 : u_T := fun k => match k with
  | 0 => ("TankBehind$Memos", "memos", "I", false)
  | 1 => ("TankBehind$Memos", "rows", "[I", true)
  | 2 => ("TankBehind$Memos", "saved", "[Z", true)
  | 3 => ("TankBehind$Memos", "counts", "[I", true)
  | _ => ("TankBehind$Memos", "coins", "[I", true)
noncomputable def tyX4 : Nat → FieldType := fun k => match k with
  | 0 => .int
  | 1 => .array .int
  | 2 => .array .boolean
  | 3 => .array .int
  | _ => .array .int
theorem nmX4 : ∀ a, a < 5 → ∀ b, b < 5 → a ≠ b → (TX4 a).2.1 ≠ (TX4 b).2.1 := by decide +kernel
theorem tyX4_ok : ∀ k, k < 5 → parseFieldDescriptor (TX4 k).2.2.1 = some (tyX4 k) := by decide +kernel
noncomputable def RX5 : String := "TankBehind$Plan"
noncomputable def TX5 : u_T := fun k => match k with
  | 0 => ("TankBehind$Plan", "months", "[I", true)
  | 1 => ("TankBehind$Plan", "firms", "[I", true)
  | 2 => ("TankBehind$Plan", "behind", "[I", true)
  | 3 => ("TankBehind$Plan", "coins", "[I", true)
  | 4 => ("TankBehind$Plan", "begins", "[I", true)
  | 5 => ("TankBehind$Plan", "ends", "[I", true)
  | 6 => ("TankBehind$Plan", "others", "[I", true)
  | _ => ("TankBehind$Plan", "steps", "I", false)
noncomputable def tyX5 : Nat → FieldType := fun k => match k with
  | 0 => .array .int
  | 1 => .array .int
  | 2 => .array .int
  | 3 => .array .int
  | 4 => .array .int
  | 5 => .array .int
  | 6 => .array .int
  | _ => .int
theorem nmX5 : ∀ a, a < 8 → ∀ b, b < 8 → a ≠ b → (TX5 a).2.1 ≠ (TX5 b).2.1 := by decide +kernel
theorem tyX5_ok : ∀ k, k < 8 → parseFieldDescriptor (TX5 k).2.2.1 = some (tyX5 k) := by decide +kernel
noncomputable def RX6 : String := "TankBehind$Recalls"
noncomputable def TX6 : u_T := fun k => match k with
  | 0 => ("TankBehind$Recalls", "kinds", "[I", true)
  | 1 => ("TankBehind$Recalls", "firsts", "[I", true)
  | 2 => ("TankBehind$Recalls", "lasts", "[I", true)
  | 3 => ("TankBehind$Recalls", "parts", "[I", true)
  | _ => ("TankBehind$Recalls", "calls", "I", false)
noncomputable def tyX6 : Nat → FieldType := fun k => match k with
  | 0 => .array .int
  | 1 => .array .int
  | 2 => .array .int
  | 3 => .array .int
  | _ => .int
theorem nmX6 : ∀ a, a < 5 → ∀ b, b < 5 → a ≠ b → (TX6 a).2.1 ≠ (TX6 b).2.1 := by decide +kernel
theorem tyX6_ok : ∀ k, k < 5 → parseFieldDescriptor (TX6 k).2.2.1 = some (tyX6 k) := by decide +kernel
noncomputable def RX7 : String := "TankBehind$RuleBook"
noncomputable def TX7 : u_T := fun k => match k with
  | 0 => ("TankBehind$RuleBook", "froms", "[I", true)
  | 1 => ("TankBehind$RuleBook", "codes", "[[I", true)
  | 2 => ("TankBehind$RuleBook", "clauses", "[[I", true)
  | 3 => ("TankBehind$RuleBook", "rules", "I", false)
  | 4 => ("TankBehind$RuleBook", "words", "[J", true)
  | _ => ("TankBehind$RuleBook", "stack", "[J", true)
noncomputable def tyX7 : Nat → FieldType := fun k => match k with
  | 0 => .array .int
  | 1 => .array (.array .int)
  | 2 => .array (.array .int)
  | 3 => .int
  | 4 => .array .long
  | _ => .array .long
theorem nmX7 : ∀ a, a < 6 → ∀ b, b < 6 → a ≠ b → (TX7 a).2.1 ≠ (TX7 b).2.1 := by decide +kernel
theorem tyX7_ok : ∀ k, k < 6 → parseFieldDescriptor (TX7 k).2.2.1 = some (tyX7 k) := by decide +kernel
noncomputable def RX8 : String := "TankBehind$RuleReader"
noncomputable def TX8 : u_T := fun k => match k with
  | 0 => ("TankBehind$RuleReader", "tape", "[B", true)
  | 1 => ("TankBehind$RuleReader", "length", "I", false)
  | 2 => ("TankBehind$RuleReader", "place", "I", false)
  | 3 => ("TankBehind$RuleReader", "wordEnd", "I", false)
  | 4 => ("TankBehind$RuleReader", "codes", "[I", true)
  | 5 => ("TankBehind$RuleReader", "codeCount", "I", false)
  | 6 => ("TankBehind$RuleReader", "clauses", "[I", true)
  | 7 => ("TankBehind$RuleReader", "clauseCount", "I", false)
  | 8 => ("TankBehind$RuleReader", "counted", "I", false)
  | _ => ("TankBehind$RuleReader", "fault", "I", false)
noncomputable def tyX8 : Nat → FieldType := fun k => match k with
  | 0 => .array .byte
  | 1 => .int
  | 2 => .int
  | 3 => .int
  | 4 => .array .int
  | 5 => .int
  | 6 => .array .int
  | 7 => .int
  | 8 => .int
  | _ => .int
theorem nmX8 : ∀ a, a < 10 → ∀ b, b < 10 → a ≠ b → (TX8 a).2.1 ≠ (TX8 b).2.1 := by decide +kernel
theorem tyX8_ok : ∀ k, k < 10 → parseFieldDescriptor (TX8 k).2.2.1 = some (tyX8 k) := by decide +kernel
noncomputable def RX9 : String := "TankBehind$Savers"
noncomputable def TX9 : u_T := fun k => match k with
  | 0 => ("TankBehind$Savers", "coins", "[I", true)
  | 1 => ("TankBehind$Savers", "lives", "[I", true)
  | 2 => ("TankBehind$Savers", "overlaps", "[[I", true)
  | 3 => ("TankBehind$Savers", "savers", "I", false)
  | 4 => ("TankBehind$Savers", "bestSet", "I", false)
  | _ => ("TankBehind$Savers", "bestCoins", "I", false)
noncomputable def tyX9 : Nat → FieldType := fun k => match k with
  | 0 => .array .int
  | 1 => .array .int
  | 2 => .array (.array .int)
  | 3 => .int
  | 4 => .int
  | _ => .int
theorem nmX9 : ∀ a, a < 6 → ∀ b, b < 6 → a ≠ b → (TX9 a).2.1 ≠ (TX9 b).2.1 := by decide +kernel
theorem tyX9_ok : ∀ k, k < 6 → parseFieldDescriptor (TX9 k).2.2.1 = some (tyX9 k) := by decide +kernel
noncomputable def RX10 : String := "TankBehind$Tests"
noncomputable def TX10 : u_T := fun k => match k with
  | 0 => ("TankBehind$Tests", "kinds", "[I", true)
  | 1 => ("TankBehind$Tests", "sorts", "[I", true)
  | 2 => ("TankBehind$Tests", "speeds", "[I", true)
  | 3 => ("TankBehind$Tests", "burned", "[Z", true)
  | 4 => ("TankBehind$Tests", "readers", "[J", true)
  | 5 => ("TankBehind$Tests", "tests", "I", false)
  | 6 => ("TankBehind$Tests", "readTests", "[I", true)
  | 7 => ("TankBehind$Tests", "readBy", "[I", true)
  | 8 => ("TankBehind$Tests", "readIn", "[I", true)
  | _ => ("TankBehind$Tests", "readings", "I", false)
noncomputable def tyX10 : Nat → FieldType := fun k => match k with
  | 0 => .array .int
  | 1 => .array .int
  | 2 => .array .int
  | 3 => .array .boolean
  | 4 => .array .long
  | 5 => .int
  | 6 => .array .int
  | 7 => .array .int
  | 8 => .array .int
  | _ => .int
theorem nmX10 : ∀ a, a < 10 → ∀ b, b < 10 → a ≠ b → (TX10 a).2.1 ≠ (TX10 b).2.1 := by decide +kernel
theorem tyX10_ok : ∀ k, k < 10 → parseFieldDescriptor (TX10 k).2.2.1 = some (tyX10 k) := by decide +kernel
noncomputable def RX11 : String := "TankBehind"
noncomputable def TX11 : u_T := fun k => match k with
  | 0 => ("TankBehind", "makes", "LTankBehind$Makes;", true)
  | 1 => ("TankBehind", "fleet", "LTankBehind$Fleet;", true)
  | 2 => ("TankBehind", "reader", "LTankBehind$RuleReader;", true)
  | 3 => ("TankBehind", "book", "LTankBehind$RuleBook;", true)
  | 4 => ("TankBehind", "tests", "LTankBehind$Tests;", true)
  | 5 => ("TankBehind", "crashes", "LTankBehind$Crashes;", true)
  | 6 => ("TankBehind", "memos", "LTankBehind$Memos;", true)
  | 7 => ("TankBehind", "plan", "LTankBehind$Plan;", true)
  | 8 => ("TankBehind", "recalls", "LTankBehind$Recalls;", true)
  | 9 => ("TankBehind", "savers", "LTankBehind$Savers;", true)
  | 10 => ("TankBehind", "carsBy", "[I", true)
  | 11 => ("TankBehind", "firesBy", "[I", true)
  | 12 => ("TankBehind", "deathsBy", "[I", true)
  | 13 => ("TankBehind", "leastBy", "[I", true)
  | _ => ("TankBehind", "now", "I", false)
noncomputable def tyX11 : Nat → FieldType := fun k => match k with
  | 0 => .object "TankBehind$Makes"
  | 1 => .object "TankBehind$Fleet"
  | 2 => .object "TankBehind$RuleReader"
  | 3 => .object "TankBehind$RuleBook"
  | 4 => .object "TankBehind$Tests"
  | 5 => .object "TankBehind$Crashes"
  | 6 => .object "TankBehind$Memos"
  | 7 => .object "TankBehind$Plan"
  | 8 => .object "TankBehind$Recalls"
  | 9 => .object "TankBehind$Savers"
  | 10 => .array .int
  | 11 => .array .int
  | 12 => .array .int
  | 13 => .array .int
  | _ => .int
theorem nmX11 : ∀ a, a < 15 → ∀ b, b < 15 → a ≠ b → (TX11 a).2.1 ≠ (TX11 b).2.1 := by decide +kernel
theorem tyX11_ok : ∀ k, k < 15 → parseFieldDescriptor (TX11 k).2.2.1 = some (tyX11 k) := by decide +kernel
noncomputable def RX12 : String := "TankBehindModel"
noncomputable def TX12 : u_T := fun k => match k with
  | 0 => ("TankBehindModel", "thrown", "I", false)
  | 1 => ("TankBehindModel", "now", "I", false)
  | 2 => ("TankBehindModel", "persons", "I", false)
  | 3 => ("TankBehindModel", "kinds", "I", false)
  | 4 => ("TankBehindModel", "parts", "I", false)
  | 5 => ("TankBehindModel", "cars", "I", false)
  | 6 => ("TankBehindModel", "sales", "I", false)
  | 7 => ("TankBehindModel", "firmOf", "[I", true)
  | 8 => ("TankBehindModel", "factor", "[I", true)
  | 9 => ("TankBehindModel", "kindFirm", "[I", true)
  | 10 => ("TankBehindModel", "bears", "[I", true)
  | 11 => ("TankBehindModel", "coinsOf", "[I", true)
  | 12 => ("TankBehindModel", "adds", "[I", true)
  | 13 => ("TankBehindModel", "fitted", "[I", true)
  | 14 => ("TankBehindModel", "hasMoved", "[Z", true)
  | 15 => ("TankBehindModel", "isWrecked", "[Z", true)
  | 16 => ("TankBehindModel", "carKind", "[I", true)
  | 17 => ("TankBehindModel", "made", "[I", true)
  | 18 => ("TankBehindModel", "carTold", "[I", true)
  | 19 => ("TankBehindModel", "firstOwner", "[I", true)
  | 20 => ("TankBehindModel", "lastOwner", "[I", true)
  | 21 => ("TankBehindModel", "lastSale", "[I", true)
  | 22 => ("TankBehindModel", "lastCrash", "[I", true)
  | 23 => ("TankBehindModel", "soldCar", "[I", true)
  | 24 => ("TankBehindModel", "soldTo", "[I", true)
  | 25 => ("TankBehindModel", "soldIn", "[I", true)
  | 26 => ("TankBehindModel", "soldTold", "[I", true)
  | 27 => ("TankBehindModel", "taped", "I", false)
  | 28 => ("TankBehindModel", "p", "I", false)
  | 29 => ("TankBehindModel", "fault", "I", false)
  | 30 => ("TankBehindModel", "rules", "I", false)
  | 31 => ("TankBehindModel", "entries", "I", false)
  | 32 => ("TankBehindModel", "deep", "I", false)
  | 33 => ("TankBehindModel", "counted", "I", false)
  | 34 => ("TankBehindModel", "opened", "I", false)
  | 35 => ("TankBehindModel", "tape", "[B", true)
  | 36 => ("TankBehindModel", "sort", "[I", true)
  | 37 => ("TankBehindModel", "number", "[I", true)
  | 38 => ("TankBehindModel", "thing", "[I", true)
  | 39 => ("TankBehindModel", "thingOf", "[I", true)
  | 40 => ("TankBehindModel", "sumAt", "[I", true)
  | 41 => ("TankBehindModel", "testAt", "[I", true)
  | 42 => ("TankBehindModel", "endAt", "[I", true)
  | 43 => ("TankBehindModel", "clauses", "[I", true)
  | 44 => ("TankBehindModel", "binds", "[I", true)
  | 45 => ("TankBehindModel", "open", "[I", true)
  | 46 => ("TankBehindModel", "state", "I", false)
  | 47 => ("TankBehindModel", "inTest", "Z", false)
  | 48 => ("TankBehindModel", "asked", "[J", true)
  | 49 => ("TankBehindModel", "stack", "[J", true)
  | 50 => ("TankBehindModel", "tests", "I", false)
  | 51 => ("TankBehindModel", "reads", "I", false)
  | 52 => ("TankBehindModel", "testKind", "[I", true)
  | 53 => ("TankBehindModel", "testSort", "[I", true)
  | 54 => ("TankBehindModel", "testSpeed", "[I", true)
  | 55 => ("TankBehindModel", "readTest", "[I", true)
  | 56 => ("TankBehindModel", "readBy", "[I", true)
  | 57 => ("TankBehindModel", "readIn", "[I", true)
  | 58 => ("TankBehindModel", "testBurned", "[Z", true)
  | 59 => ("TankBehindModel", "crashes", "I", false)
  | 60 => ("TankBehindModel", "crashCar", "[I", true)
  | 61 => ("TankBehindModel", "crashIn", "[I", true)
  | 62 => ("TankBehindModel", "crashSort", "[I", true)
  | 63 => ("TankBehindModel", "crashSpeed", "[I", true)
  | 64 => ("TankBehindModel", "crashDead", "[I", true)
  | 65 => ("TankBehindModel", "crashTold", "[I", true)
  | 66 => ("TankBehindModel", "crashBurned", "[Z", true)
  | 67 => ("TankBehindModel", "ownCrashes", "[I", true)
  | 68 => ("TankBehindModel", "ownFires", "[I", true)
  | 69 => ("TankBehindModel", "otherCrashes", "[I", true)
  | 70 => ("TankBehindModel", "otherFires", "[I", true)
  | 71 => ("TankBehindModel", "memos", "I", false)
  | 72 => ("TankBehindModel", "rowMany", "[I", true)
  | 73 => ("TankBehindModel", "rowCount", "[I", true)
  | 74 => ("TankBehindModel", "rowCoins", "[I", true)
  | 75 => ("TankBehindModel", "rowSaved", "[Z", true)
  | 76 => ("TankBehindModel", "steps", "I", false)
  | 77 => ("TankBehindModel", "lasts", "[I", true)
  | 78 => ("TankBehindModel", "stepFirm", "[I", true)
  | 79 => ("TankBehindModel", "behind", "[I", true)
  | 80 => ("TankBehindModel", "stepCoins", "[I", true)
  | 81 => ("TankBehindModel", "begins", "[I", true)
  | 82 => ("TankBehindModel", "after", "[I", true)
  | 83 => ("TankBehindModel", "calls", "I", false)
  | 84 => ("TankBehindModel", "callKind", "[I", true)
  | 85 => ("TankBehindModel", "callFrom", "[I", true)
  | 86 => ("TankBehindModel", "callTo", "[I", true)
  | 87 => ("TankBehindModel", "callPart", "[I", true)
  | 88 => ("TankBehindModel", "mendedIn", "[I", true)
  | 89 => ("TankBehindModel", "isReached", "[Z", true)
  | 90 => ("TankBehindModel", "savers", "I", false)
  | 91 => ("TankBehindModel", "bestSet", "I", false)
  | 92 => ("TankBehindModel", "bestCost", "I", false)
  | 93 => ("TankBehindModel", "saverCoins", "[I", true)
  | 94 => ("TankBehindModel", "saverLives", "[I", true)
  | _ => ("TankBehindModel", "overlaps", "[I", true)
noncomputable def tyX12 : Nat → FieldType := fun k => match k with
  | 0 => .int
  | 1 => .int
  | 2 => .int
  | 3 => .int
  | 4 => .int
  | 5 => .int
  | 6 => .int
  | 7 => .array .int
  | 8 => .array .int
  | 9 => .array .int
  | 10 => .array .int
  | 11 => .array .int
  | 12 => .array .int
  | 13 => .array .int
  | 14 => .array .boolean
  | 15 => .array .boolean
  | 16 => .array .int
  | 17 => .array .int
  | 18 => .array .int
  | 19 => .array .int
  | 20 => .array .int
  | 21 => .array .int
  | 22 => .array .int
  | 23 => .array .int
  | 24 => .array .int
  | 25 => .array .int
  | 26 => .array .int
  | 27 => .int
  | 28 => .int
  | 29 => .int
  | 30 => .int
  | 31 => .int
  | 32 => .int
  | 33 => .int
  | 34 => .int
  | 35 => .array .byte
  | 36 => .array .int
  | 37 => .array .int
  | 38 => .array .int
  | 39 => .array .int
  | 40 => .array .int
  | 41 => .array .int
  | 42 => .array .int
  | 43 => .array .int
  | 44 => .array .int
  | 45 => .array .int
  | 46 => .int
  | 47 => .boolean
  | 48 => .array .long
  | 49 => .array .long
  | 50 => .int
  | 51 => .int
  | 52 => .array .int
  | 53 => .array .int
  | 54 => .array .int
  | 55 => .array .int
  | 56 => .array .int
  | 57 => .array .int
  | 58 => .array .boolean
  | 59 => .int
  | 60 => .array .int
  | 61 => .array .int
  | 62 => .array .int
  | 63 => .array .int
  | 64 => .array .int
  | 65 => .array .int
  | 66 => .array .boolean
  | 67 => .array .int
  | 68 => .array .int
  | 69 => .array .int
  | 70 => .array .int
  | 71 => .int
  | 72 => .array .int
  | 73 => .array .int
  | 74 => .array .int
  | 75 => .array .boolean
  | 76 => .int
  | 77 => .array .int
  | 78 => .array .int
  | 79 => .array .int
  | 80 => .array .int
  | 81 => .array .int
  | 82 => .array .int
  | 83 => .int
  | 84 => .array .int
  | 85 => .array .int
  | 86 => .array .int
  | 87 => .array .int
  | 88 => .array .int
  | 89 => .array .boolean
  | 90 => .int
  | 91 => .int
  | 92 => .int
  | 93 => .array .int
  | 94 => .array .int
  | _ => .array .int
theorem nmX12 : ∀ a, a < 96 → ∀ b, b < 96 → a ≠ b → (TX12 a).2.1 ≠ (TX12 b).2.1 := by decide +kernel
theorem tyX12_ok : ∀ k, k < 96 → parseFieldDescriptor (TX12 k).2.2.1 = some (tyX12 k) := by decide +kernel
noncomputable def zCl : List vw_C := [(RX0, TX0, 11), (RX1, TX1, 13), (RX2, TX2, 10), (RX3, TX3, 8), (RX4, TX4, 5), (RX5, TX5, 8), (RX6, TX6, 5), (RX7, TX7, 6), (RX8, TX8, 10), (RX9, TX9, 6), (RX10, TX10, 10), (RX11, TX11, 15), (RX12, TX12, 96)]
noncomputable def zTt : List ((Nat → FieldType) × Nat × (Nat → Bool)) := [(tyX0, 11, fun _ => false), (tyX1, 13, fun _ => false), (tyX2, 10, fun _ => false), (tyX3, 8, fun _ => false), (tyX4, 5, fun _ => false), (tyX5, 8, fun _ => false), (tyX6, 5, fun _ => false), (tyX7, 6, fun _ => false), (tyX8, 10, fun _ => false), (tyX9, 6, fun _ => false), (tyX10, 10, fun _ => false), (tyX11, 15, fun _ => false), (tyX12, 96, fun _ => false)]
noncomputable def zsg : List (String × Nat × Nat) := [("TankBehind$RuleReader", 125, 1), ("TankBehindModel", 320, 2), ("TankBehindModel", 322, 3), ("TankBehindModel", 324, 4), ("TankBehindModel", 326, 5), ("TankBehindModel", 327, 6), ("TankBehindModel", 328, 7), ("TankBehindModel", 330, 8), ("TankBehindModel", 332, 9), ("TankBehindModel", 334, 10), ("TankBehindModel", 336, 11), ("TankBehindModel", 337, 12), ("TankBehindModel", 339, 13), ("TankBehindModel", 341, 14), ("TankBehindModel", 343, 15), ("TankBehindModel", 345, 16), ("TankBehindModel", 347, 17), ("TankBehindModel", 427, 18), ("TankBehindModel", 448, 19), ("TankBehindModel", 450, 20), ("TankBehindModel", 473, 21)]
noncomputable def ztx : Nat → List Int32
  | 1 => [109, 111, 110, 116, 104, 32, 107, 105, 110, 100, 32, 102, 105, 114, 109, 32, 109, 97, 100, 101, 32, 99, 97, 114, 115, 32, 102, 105, 114, 101, 115, 32, 100, 101, 97, 116, 104, 115, 32, 100, 101, 97, 100, 32, 115, 112, 101, 101, 100, 32, 115, 111, 114, 116, 32, 107, 110, 101, 119, 32, 112, 97, 114, 116, 32, 99, 114, 97, 115, 104, 32, 103, 105, 118, 101, 32, 109, 111, 115, 116, 32, 114, 101, 99, 97, 108, 108, 32, 105, 102, 32, 111, 114, 32, 97, 110, 100, 32, 110, 111, 116, 32]
  | 2 => [109, 111, 110, 116, 104]
  | 3 => [107, 105, 110, 100]
  | 4 => [102, 105, 114, 109]
  | 5 => [109, 97, 100, 101]
  | 6 => [99, 97, 114, 115]
  | 7 => [102, 105, 114, 101, 115]
  | 8 => [100, 101, 97, 116, 104, 115]
  | 9 => [100, 101, 97, 100]
  | 10 => [115, 112, 101, 101, 100]
  | 11 => [115, 111, 114, 116]
  | 12 => [107, 110, 101, 119]
  | 13 => [112, 97, 114, 116]
  | 14 => [99, 114, 97, 115, 104]
  | 15 => [103, 105, 118, 101]
  | 16 => [109, 111, 115, 116]
  | 17 => [114, 101, 99, 97, 108, 108]
  | 18 => [110, 111, 116]
  | 19 => [97, 110, 100]
  | 20 => [111, 114]
  | 21 => [105, 102]
  | _ => []
end
section
/-! A SMALL MACHINE: canonical instructions, locals by place, cells by number; 'zR': a run comes to its end, and what it answers and leaves holds of 'ret'. -/
noncomputable abbrev zC : Type := (Nat × vp_A) ⊕ (Nat × List Value)
noncomputable abbrev zH : Type := List zC
noncomputable abbrev zE : Type := Instr × Nat × Nat × Nat × Nat × Value
noncomputable abbrev zK : Type := List (Option zE)
noncomputable abbrev zL : Type := List (Option Value)
noncomputable abbrev zX : Type := Nat → zL → List Value → zH → Nat → Nat → Prop
noncomputable abbrev zQ : Type := Option Value → zH → Prop
noncomputable abbrev zM : Type := Nat → List Value → zH → zQ → Prop
/-- a method: its code, its locals, what it returns, how many cells and places it may make -/
noncomputable abbrev zI : Type := zK × Nat × Option FieldType × Nat × Nat
/-- the program, the texts of its string constants, the script -/
noncomputable abbrev zG : Type := List zI × (Nat → List Int32) × Nat × (Nat → Int32)
/-- the place before a store: a wide value there is gone -/
noncomputable def zkp (i : Nat) (x : Option Value) : Option Value := bif i == 0 then (match x with
  | some w => bif w.category == 2 then none else some w
  | none => none) else x
noncomputable def zst : zL → Nat → Value → zL
  | [], _, _ => []
  | _ :: xs, 0, v => some v :: (bif v.category == 2 then (match xs with
    | [] => []
    | _ :: ys => none :: ys) else xs)
  | x :: xs, i + 1, v => zkp i x :: zst xs i v
noncomputable def zcond (o : Jvm.ClassFile.Cond) (x y : Int32) : Prop := match o with
  | .eq => x = y
  | .ne => ¬ x = y
  | .lt => x < y
  | .ge => y ≤ x
  | .gt => y < x
  | .le => x ≤ y
noncomputable def zrf (r : Option Nat) : Value := match r with
  | some a => .ref a
  | none => .null
/-- the places that 'new' makes, by their types -/
noncomputable def zbud (G : zG) (j : Nat) : Nat × Nat := match G.1[j]? with
  | some i => (i.2.2.2.1, i.2.2.2.2)
  | none => (0, 0)
noncomputable def zfields (T : Nat → FieldType) (N : Nat) : List Value := (List.range N).map (fun k => defaultValue (T k))
/-- a new array's cell by its kind: 0 int, 1 boolean, 2 byte, 3 long, 4 int[], 5 Car -/
noncomputable def zarr (k N : Nat) : zC := match k with
  | 3 => .inl (3, N, .inr (.inl (fun _ => 0)))
  | 4 => .inl (4, N, .inr (.inr (.inr (.inr (fun _ => none)))))
  | 5 => .inl (5, N, .inr (.inr (.inr (.inr (fun _ => none)))))
  | k => .inl (k, N, .inl (fun _ => 0))
noncomputable def zkind (a : ArrayType) : Nat := match a with
  | .int => 0
  | .boolean => 1
  | .byte => 2
  | .long => 3
  | _ => 9
noncomputable def zrows (q N K : Nat) : zH := .inl (4, N, .inr (.inr (.inr (.inr (fun i => if i < N then some (q + 1 + i) else none))))) :: List.replicate N (.inl (0, K, .inl (fun _ => 0)))
/-- the types of the fields of each class -/
noncomputable def zcls (tt : List ((Nat → FieldType) × Nat × (Nat → Bool))) (k : Nat) : List Value := match tt[k]? with
  | some (T, N, _) => zfields T N
  | none => []
section ZM
variable (tt : List ((Nat → FieldType) × Nat × (Nat → Bool))) (G : zG) (bc bs : Nat) (rt : Option FieldType) (M : zM) (ret : zQ) (X : zX)
/-- instructions of numbers, the stack and the locals -/
noncomputable def zex1 (e : zE) (L : zL) (st : List Value) (h : zH) (c n : Nat) : Prop := match e with
  | (ins, nx, a, b, d, v) => match ins with
    | .aconst_null => X nx L (v :: st) h c n
    | .iload _ => match L.getD a none with
      | some (.int x) => X nx L (.int x :: st) h c n
      | _ => False
    | .lload _ => match L.getD a none with
      | some (.long x) => X nx L (.long x :: st) h c n
      | _ => False
    | .aload _ => match L.getD a none with
      | some (.ref x) => X nx L (.ref x :: st) h c n
      | some .null => X nx L (.null :: st) h c n
      | some (.retAddr x) => X nx L (.retAddr x :: st) h c n
      | _ => False
    | .istore _ => match st with
      | .int x :: s => a < L.length ∧ X nx (zst L a (.int x)) s h c n
      | _ => False
    | .lstore _ => match st with
      | .long x :: s => a + 1 < L.length ∧ X nx (zst L a (.long x)) s h c n
      | _ => False
    | .astore _ => match st with
      | .ref x :: s => a < L.length ∧ X nx (zst L a (.ref x)) s h c n
      | .null :: s => a < L.length ∧ X nx (zst L a .null) s h c n
      | .retAddr x :: s => a < L.length ∧ X nx (zst L a (.retAddr x)) s h c n
      | _ => False
    | .iinc _ _ => match L.getD a none, v with
      | some (.int x), .int y => a < L.length ∧ X nx (zst L a (.int (x + y))) st h c n
      | _, _ => False
    | .pop => match st with
      | w :: s => w.category = 1 ∧ X nx L s h c n
      | [] => False
    | .dup => match st with
      | w :: s => w.category = 1 ∧ X nx L (w :: w :: s) h c n
      | [] => False
    | .dup_x1 => match st with
      | w :: w2 :: s => w.category = 1 ∧ w2.category = 1 ∧ X nx L (w :: w2 :: w :: s) h c n
      | _ => False
    | .dup2 => match st with
      | w :: w2 :: s => w.category = 1 ∧ w2.category = 1 ∧ X nx L (w :: w2 :: w :: w2 :: s) h c n
      | _ => False
    | .dup2_x1 => match st with
      | w :: s => w.category = 2 ∧ X nx L (w :: w :: s) h c n
      | _ => False
    | .iadd => match st with
      | .int y :: .int x :: s => X nx L (.int (x + y) :: s) h c n
      | _ => False
    | .isub => match st with
      | .int y :: .int x :: s => X nx L (.int (x - y) :: s) h c n
      | _ => False
    | .imul => match st with
      | .int y :: .int x :: s => X nx L (.int (x * y) :: s) h c n
      | _ => False
    | .idiv => match st with
      | .int y :: .int x :: s => ¬ y = 0 ∧ X nx L (.int (x / y) :: s) h c n
      | _ => False
    | .iand => match st with
      | .int y :: .int x :: s => X nx L (.int (x &&& y) :: s) h c n
      | _ => False
    | .ior => match st with
      | .int y :: .int x :: s => X nx L (.int (x ||| y) :: s) h c n
      | _ => False
    | .ishl => match st with
      | .int y :: .int x :: s => X nx L (.int (x <<< (y &&& 31)) :: s) h c n
      | _ => False
    | .ishr => match st with
      | .int y :: .int x :: s => X nx L (.int (x >>> (y &&& 31)) :: s) h c n
      | _ => False
    | .ladd => match st with
      | .long y :: .long x :: s => X nx L (.long (x + y) :: s) h c n
      | _ => False
    | .lsub => match st with
      | .long y :: .long x :: s => X nx L (.long (x - y) :: s) h c n
      | _ => False
    | .lmul => match st with
      | .long y :: .long x :: s => X nx L (.long (x * y) :: s) h c n
      | _ => False
    | .ldiv => match st with
      | .long y :: .long x :: s => ¬ y = 0 ∧ X nx L (.long (x / y) :: s) h c n
      | _ => False
    | .lrem => match st with
      | .long y :: .long x :: s => ¬ y = 0 ∧ X nx L (.long (x - x / y * y) :: s) h c n
      | _ => False
    | .lneg => match st with
      | .long x :: s => X nx L (.long (-x) :: s) h c n
      | _ => False
    | .land => match st with
      | .long y :: .long x :: s => X nx L (.long (x &&& y) :: s) h c n
      | _ => False
    | .lor => match st with
      | .long y :: .long x :: s => X nx L (.long (x ||| y) :: s) h c n
      | _ => False
    | .lxor => match st with
      | .long y :: .long x :: s => X nx L (.long (x ^^^ y) :: s) h c n
      | _ => False
    | .lshl => match st with
      | .int y :: .long x :: s => X nx L (.long (x <<< (y.toInt64 &&& 63)) :: s) h c n
      | _ => False
    | .lshr => match st with
      | .int y :: .long x :: s => X nx L (.long (x >>> (y.toInt64 &&& 63)) :: s) h c n
      | _ => False
    | .lcmp => match st with
      | .long y :: .long x :: s => X nx L (.int (lg_cmp x y) :: s) h c n
      | _ => False
    | .i2l => match st with
      | .int x :: s => X nx L (.long x.toInt64 :: s) h c n
      | _ => False
    | .l2i => match st with
      | .long x :: s => X nx L (.int x.toInt32 :: s) h c n
      | _ => False
    | .i2b => match st with
      | .int x :: s => X nx L (.int x.toInt8.toInt32 :: s) h c n
      | _ => False
    | .fadd => match st with
      | .int y :: .int x :: s => (s.map fun v => v.category).sum ≤ 8 ∧ X nx L (.int (if x < y then y else x) :: s) h c n
      | _ => False
    | .fsub => match st with
      | .int y :: .int x :: s => (s.map fun v => v.category).sum ≤ 8 ∧ X nx L (.int (if y < x then y else x) :: s) h c n
      | _ => False
    | .dadd => match st with
      | .long y :: .long x :: s => (s.map fun v => v.category).sum ≤ 8 ∧ X nx L (.long (if y < x then x else y) :: s) h c n
      | _ => False
    | .dsub => match st with
      | .long y :: .long x :: s => (s.map fun v => v.category).sum ≤ 8 ∧ X nx L (.long (if y < x then y else x) :: s) h c n
      | _ => False
    | .ddiv => match st with
      | .long y :: .long x :: s => ¬ y = 0 ∧ (s.map fun v => v.category).sum ≤ 8 ∧ X nx L (.long (if (x ^^^ y) < 0 ∧ ¬ x / y * y = x then x / y - 1 else x / y) :: s) h c n
      | _ => False
    | .drem => match st with
      | w :: s => w.category = 2 ∧ X nx L s h c n
      | [] => False
    | .goto _ => X a L st h c n
    | .ifCond o _ => match st with
      | .int x :: s => (zcond o x 0 → X a L s h c n) ∧ (¬ zcond o x 0 → X nx L s h c n)
      | _ => False
    | .if_icmp o _ => match st with
      | .int y :: .int x :: s => (zcond o x y → X a L s h c n) ∧ (¬ zcond o x y → X nx L s h c n)
      | _ => False
    | .ifnull _ => match st with
      | .null :: s => X a L s h c n
      | .ref _ :: s => X nx L s h c n
      | _ => False
    | .ifnonnull _ => match st with
      | .null :: s => X nx L s h c n
      | .ref _ :: s => X a L s h c n
      | _ => False
    | _ => False
/-- instructions of cells, calls, ends -/
noncomputable def zex2 (e : zE) (L : zL) (st : List Value) (h : zH) (c n : Nat) : Prop := match e with
  | (ins, nx, a, b, d, v) => match ins with
    | .tableswitch df lo hi tg => match st with
      | .int x :: s => ((x.toInt < lo ∨ hi < x.toInt) → X df.toNat L s h c n) ∧ (¬ x.toInt < lo → ¬ hi < x.toInt → ∃ t : Int, tg[(x.toInt - lo).toNat]? = some t ∧ X t.toNat L s h c n)
      | _ => False
    | .lookupswitch df ps => match st with
      | .int x :: s => X (Op.lookupswitch.offset ps.toList df x.toInt).toNat L s h c n
      | _ => False
    | .iaload => match st with
      | .int i :: .ref r :: s => ∃ (N : Nat) (f : Nat → Int32), h[r]? = some (.inl (0, N, .inl f)) ∧ vp_in i N ∧ X nx L (.int (f i.toNatClampNeg) :: s) h c n
      | _ => False
    | .baload => match st with
      | .int i :: .ref r :: s => ∃ (k N : Nat) (f : Nat → Int32), (k = 1 ∨ k = 2) ∧ h[r]? = some (.inl (k, N, .inl f)) ∧ vp_in i N ∧ X nx L (.int (f i.toNatClampNeg) :: s) h c n
      | _ => False
    | .laload => match st with
      | .int i :: .ref r :: s => ∃ (N : Nat) (f : Nat → Int64), h[r]? = some (.inl (3, N, .inr (.inl f))) ∧ vp_in i N ∧ X nx L (.long (f i.toNatClampNeg) :: s) h c n
      | _ => False
    | .aaload => match st with
      | .int i :: .ref r :: s => ∃ (k N : Nat) (f : Nat → Option Nat), (k = 4 ∨ k = 5) ∧ h[r]? = some (.inl (k, N, .inr (.inr (.inr (.inr f))))) ∧ vp_in i N ∧ X nx L (zrf (f i.toNatClampNeg) :: s) h c n
      | _ => False
    | .saload => match st with
      | .int i :: .retAddr 0 :: s => vp_in i G.2.2.1 ∧ X nx L (.int (G.2.2.2 i.toNatClampNeg) :: s) h c n
      | _ => False
    | .i2s => match st with
      | .retAddr 0 :: s => X nx L (.int (Int32.ofNat G.2.2.1) :: s) h c n
      | _ => False
    | .iastore => match st with
      | .int x :: .int i :: .ref r :: s => ∃ (N : Nat) (f : Nat → Int32), h[r]? = some (.inl (0, N, .inl f)) ∧ vp_in i N ∧ X nx L s (h.set r (.inl (0, N, .inl (upd f i.toNatClampNeg x)))) c n
      | _ => False
    | .bastore => match st with
      | .int x :: .int i :: .ref r :: s => ∃ (k N : Nat) (f : Nat → Int32), (k = 1 ∨ k = 2) ∧ h[r]? = some (.inl (k, N, .inl f)) ∧ vp_in i N ∧ X nx L s (h.set r (.inl (k, N, .inl (upd f i.toNatClampNeg (vp_nar (if k = 1 then .boolean else .byte) x))))) c n
      | _ => False
    | .lastore => match st with
      | .long x :: .int i :: .ref r :: s => ∃ (N : Nat) (f : Nat → Int64), h[r]? = some (.inl (3, N, .inr (.inl f))) ∧ vp_in i N ∧ X nx L s (h.set r (.inl (3, N, .inr (.inl (vp_updL f i.toNatClampNeg x))))) c n
      | _ => False
    | .aastore => match st with
      | .ref y :: .int i :: .ref r :: s => ∃ (k N : Nat) (f : Nat → Option Nat), ((k = 4 ∧ ∃ (K : Nat) (g : Nat → Int32), h[y]? = some (.inl (0, K, .inl g))) ∨ (k = 5 ∧ ∃ fs : List Value, h[y]? = some (.inr (d, fs)))) ∧ h[r]? = some (.inl (k, N, .inr (.inr (.inr (.inr f))))) ∧ vp_in i N ∧ X nx L s (h.set r (.inl (k, N, .inr (.inr (.inr (.inr (va_up f i.toNatClampNeg (some y)))))))) c n
      | _ => False
    | .sastore => match st with
      | .int m :: .int dp :: .ref y :: .int sp :: .ref r :: s => ∃ (N K : Nat) (f g : Nat → Int32), h[r]? = some (.inl (0, N, .inl f)) ∧ h[y]? = some (.inl (0, K, .inl g)) ∧ (sp = 0 ∧ dp = 0 ∧ ¬ m < 0 ∧ m.toNatClampNeg ≤ N ∧ m.toNatClampNeg ≤ K ∧ (s.map fun v => v.category).sum ≤ 8) ∧ X nx L s (h.set y (.inl (0, K, .inl (va_cpy f g 0 0 m.toNatClampNeg)))) c n
      | _ => False
    | .castore => match st with
      | .ref r :: s => ∃ (N : Nat) (f : Nat → Int32), h[r]? = some (.inl (0, N, .inl f)) ∧ ((s.map fun v => v.category).sum ≤ 8 ∧ c + 1 ≤ bc ∧ n + N ≤ bs) ∧ X nx L (.ref h.length :: s) (h ++ [.inl (0, N, .inl f)]) (c + 1) (n + N)
      | _ => False
    | .fmul => match st with
      | .ref r :: s => ∃ (N : Nat) (f : Nat → Int32), h[r]? = some (.inl (0, N, .inl f)) ∧ True ∧ X nx L (.ref r :: s) h c n
      | _ => False
    | .arraylength => match st with
      | .ref r :: s => ∃ (k N : Nat) (x : (Nat → Int32) ⊕ (Nat → Int64) ⊕ (Nat → UInt32) ⊕ (Nat → UInt64) ⊕ (Nat → Option Nat)), k < 6 ∧ h[r]? = some (.inl (k, N, x)) ∧ X nx L (.int (Int32.ofNat N) :: s) h c n
      | _ => False
    | .newarray at0 => match st with
      | .int x :: s => ¬ x < 0 ∧ x.toNatClampNeg ≤ 10000 ∧ c + 1 ≤ bc ∧ n + x.toNatClampNeg ≤ bs ∧ zkind at0 < 4 ∧ X nx L (.ref h.length :: s) (h ++ [zarr (zkind at0) x.toNatClampNeg]) (c + 1) (n + x.toNatClampNeg)
      | _ => False
    | .anewarray _ => match st with
      | .int x :: s => ¬ x < 0 ∧ x.toNatClampNeg ≤ 10000 ∧ c + 1 ≤ bc ∧ n + x.toNatClampNeg ≤ bs ∧ (a = 4 ∨ a = 5) ∧ X nx L (.ref h.length :: s) (h ++ [zarr a x.toNatClampNeg]) (c + 1) (n + x.toNatClampNeg)
      | _ => False
    | .multianewarray _ _ => match st with
      | .int y :: .int x :: s => ¬ x < 0 ∧ ¬ y < 0 ∧ x.toNatClampNeg ≤ 10000 ∧ y.toNatClampNeg ≤ 10000 ∧ c + (1 + x.toNatClampNeg) ≤ bc ∧ n + (x.toNatClampNeg + x.toNatClampNeg * y.toNatClampNeg) ≤ bs ∧ X nx L (.ref h.length :: s) (h ++ zrows h.length x.toNatClampNeg y.toNatClampNeg) (c + 1 + x.toNatClampNeg) (n + x.toNatClampNeg + x.toNatClampNeg * y.toNatClampNeg)
      | _ => False
    | .new _ => c + 1 ≤ bc ∧ n + (zcls tt a).length ≤ bs ∧ X nx L (.ref h.length :: st) (h ++ [.inr (a, zcls tt a)]) (c + 1) (n + (zcls tt a).length)
    | .getfield _ => match st with
      | .ref r :: s => ∃ (fs : List Value) (w : Value), h[r]? = some (.inr (a, fs)) ∧ fs[b]? = some w ∧ X nx L (w :: s) h c n
      | _ => False
    | .putfield _ => match st with
      | w :: .ref r :: s => ∃ (fs : List Value) (t : FieldType), h[r]? = some (.inr (a, fs)) ∧ b < fs.length ∧ (tt[a]?).map (fun q => q.1 b) = some t ∧ narrow t w = w ∧ fits t w = true ∧ X nx L s (h.set r (.inr (a, fs.set b w))) c n
      | _ => False
    | .pop2 => match st with
      | .ref _ :: s => (s.map fun v => v.category).sum ≤ 8 ∧ X nx L s h c n
      | _ => False
    | .invokevirtual _ => match st.drop b with
      | .ref r :: s => (st.take b).length = b ∧ (∃ fs : List Value, h[r]? = some (.inr (d, fs))) ∧ (s.map fun v => v.category).sum ≤ 8 ∧ c + (zbud G a).1 ≤ bc ∧ n + (zbud G a).2 ≤ bs ∧ M a (.ref r :: (st.take b).reverse) h (fun w h2 => X nx L (w.toList ++ s) h2 (c + (zbud G a).1) (n + (zbud G a).2))
      | _ => False
    | .invokespecial _ => match st.drop b with
      | .ref r :: s => (st.take b).length = b ∧ (s.map fun v => v.category).sum ≤ 8 ∧ c + (zbud G a).1 ≤ bc ∧ n + (zbud G a).2 ≤ bs ∧ M a (.ref r :: (st.take b).reverse) h (fun w h2 => X nx L (w.toList ++ s) h2 (c + (zbud G a).1) (n + (zbud G a).2))
      | _ => False
    | .invokestatic _ => (st.take b).length = b ∧ ((st.drop b).map fun v => v.category).sum ≤ 8 ∧ c + (zbud G a).1 ≤ bc ∧ n + (zbud G a).2 ≤ bs ∧ M a (st.take b).reverse h (fun w h2 => X nx L (w.toList ++ st.drop b) h2 (c + (zbud G a).1) (n + (zbud G a).2))
    | .ireturn => match st with
      | [.int x] => (∃ t : FieldType, rt = some t ∧ narrow t (.int x) = .int x) ∧ ret (some (.int x)) h
      | _ => False
    | .lreturn => match st with
      | [.long x] => rt = some .long ∧ ret (some (.long x)) h
      | _ => False
    | .areturn => match st with
      | [.ref x] => (∃ t : FieldType, rt = some t ∧ fits t .null = true) ∧ ret (some (.ref x)) h
      | [.null] => (∃ t : FieldType, rt = some t ∧ fits t .null = true) ∧ ret (some .null) h
      | [.retAddr x] => (∃ t : FieldType, rt = some t ∧ fits t .null = true) ∧ ret (some (.retAddr x)) h
      | _ => False
    | .return_ => match st with
      | [] => rt = none ∧ ret none h
      | _ => False
    | .caload => match st with
      | .int i :: .retAddr k :: s => vp_in i (G.2.1 k).length ∧ (s.map fun v => v.category).sum ≤ 8 ∧ X nx L (.int ((G.2.1 k).getD i.toNatClampNeg 0) :: s) h c n
      | _ => False
    | .i2c => match st with
      | .retAddr k :: s => 0 < (G.2.1 k).length ∧ (s.map fun v => v.category).sum ≤ 8 ∧ X nx L (.int (Int32.ofNat (G.2.1 k).length) :: s) h c n
      | _ => False
    | _ => False
noncomputable def zex (e : zE) (L : zL) (st : List Value) (h : zH) (c n : Nat) : Prop := zex1 X e L st h c n ∨ zex2 tt G bc bs rt M ret X e L st h c n
noncomputable def zstep (cd : zK) (pc : Nat) (L : zL) (st : List Value) (h : zH) (c n : Nat) : Prop := match cd[pc]? with
  | some (some e) => zex tt G bc bs rt M ret X e L st h c n
  | _ => False
end ZM
noncomputable abbrev zT : Type := List ((Nat → FieldType) × Nat × (Nat → Bool))
/-- a run from here comes to its end: the least such -/
noncomputable def zR (tt : zT) (G : zG) (cd : zK) (bc bs : Nat) (rt : Option FieldType) (M : zM) (ret : zQ) (pc : Nat) (L : zL) (st : List Value) (h : zH) (c n : Nat) : Prop :=
  ∀ X : zX, (∀ pc L st h c n, zstep tt G bc bs rt M ret X cd pc L st h c n → X pc L st h c n) → X pc L st h c n
noncomputable def zmono (M : zM) : Prop := ∀ (j : Nat) (as : List Value) (h : zH) (Q Q' : zQ), (∀ w h2, Q w h2 → Q' w h2) → M j as h Q → M j as h Q'
noncomputable def zargs : List Value → zL
  | [] => []
  | v :: vs => bif v.category == 2 then some v :: none :: zargs vs else some v :: zargs vs
noncomputable def zentry (as : List Value) (nL : Nat) : zL := zargs as ++ List.replicate (nL - (zargs as).length) none
noncomputable def zW (tt : zT) (G : zG) : Nat → zM
  | 0 => fun _ _ _ _ => False
  | d + 1 => fun j as h Q => match G.1[j]? with
    | some (cd, nL, rt, bc, bs) => (zargs as).length ≤ nL ∧ zR tt G cd bc bs rt (zW tt G d) Q 0 (zentry as nL) [] h 0 0
    | none => False
end
section
theorem zex1_mono {X Y : zX} (hXY : ∀ pc L st h c n, X pc L st h c n → Y pc L st h c n) {e : zE} {L : zL} {st : List Value} {h : zH} {c n : Nat} : zex1 X e L st h c n → zex1 Y e L st h c n := by
  obtain ⟨ins, nx, a, b, d, v⟩ := e
  unfold zex1
  cases ins <;> dsimp only <;> (try split) <;> first
    | exact fun q => q
    | exact fun q => hXY _ _ _ _ _ _ q
    | exact fun q => ⟨q.1, hXY _ _ _ _ _ _ q.2⟩
    | exact fun q => ⟨q.1, q.2.1, hXY _ _ _ _ _ _ q.2.2⟩
    | exact fun q => ⟨fun z => hXY _ _ _ _ _ _ (q.1 z), fun z => hXY _ _ _ _ _ _ (q.2 z)⟩
theorem zex2_mono {tt : zT} {G : zG} {bc bs : Nat} {rt : Option FieldType} {M : zM} {ret ret2 : zQ} (hM : zmono M) (hr : ∀ w h, ret w h → ret2 w h) {X Y : zX} (hXY : ∀ pc L st h c n, X pc L st h c n → Y pc L st h c n) {e : zE} {L : zL} {st : List Value} {h : zH} {c n : Nat} : zex2 tt G bc bs rt M ret X e L st h c n → zex2 tt G bc bs rt M ret2 Y e L st h c n := by
  obtain ⟨ins, nx, a, b, d, v⟩ := e
  unfold zex2
  cases ins <;> dsimp only <;> (try split) <;> first
    | exact fun q => q
    | exact fun q => hXY _ _ _ _ _ _ q
    | exact fun q => ⟨q.1, hXY _ _ _ _ _ _ q.2⟩
    | exact fun q => ⟨q.1, hr _ _ q.2⟩
    | exact fun q => ⟨q.1, q.2.1, hXY _ _ _ _ _ _ q.2.2⟩
    | exact fun q => ⟨q.1, q.2.1, q.2.2.1, q.2.2.2.1, q.2.2.2.2.1, hXY _ _ _ _ _ _ q.2.2.2.2.2⟩
    | exact fun q => ⟨q.1, q.2.1, q.2.2.1, q.2.2.2.1, q.2.2.2.2.1, q.2.2.2.2.2.1, hXY _ _ _ _ _ _ q.2.2.2.2.2.2⟩
    | exact fun ⟨N, f, q⟩ => ⟨N, f, q.1, q.2.1, hXY _ _ _ _ _ _ q.2.2⟩
    | exact fun ⟨N, K, f, g, q⟩ => ⟨N, K, f, g, q.1, q.2.1, q.2.2.1, hXY _ _ _ _ _ _ q.2.2.2⟩
    | exact fun ⟨k, N, f, q⟩ => ⟨k, N, f, q.1, q.2.1, hXY _ _ _ _ _ _ q.2.2⟩
    | exact fun ⟨k, N, f, q⟩ => ⟨k, N, f, q.1, q.2.1, q.2.2.1, hXY _ _ _ _ _ _ q.2.2.2⟩
    | exact fun ⟨fs, t, q⟩ => ⟨fs, t, q.1, q.2.1, q.2.2.1, q.2.2.2.1, q.2.2.2.2.1, hXY _ _ _ _ _ _ q.2.2.2.2.2⟩
    | exact fun q => ⟨fun z => hXY _ _ _ _ _ _ (q.1 z), fun z1 z2 => (q.2 z1 z2).imp fun t w => ⟨w.1, hXY _ _ _ _ _ _ w.2⟩⟩
    | exact fun q => ⟨q.1, q.2.1, q.2.2.1, q.2.2.2.1, q.2.2.2.2.1, hM _ _ _ _ _ (fun w h2 z => hXY _ _ _ _ _ _ z) q.2.2.2.2.2⟩
    | exact fun q => ⟨q.1, q.2.1, q.2.2.1, q.2.2.2.1, hM _ _ _ _ _ (fun w h2 z => hXY _ _ _ _ _ _ z) q.2.2.2.2⟩
section ZR
variable {tt : zT} {G : zG} {cd : zK} {bc bs : Nat} {rt : Option FieldType} {M : zM} {ret : zQ} {pc : Nat} {L : zL} {st : List Value} {h : zH} {c n : Nat}
theorem zstep_mono (hM : zmono M) {ret2 : zQ} (hr : ∀ w h, ret w h → ret2 w h) {X Y : zX} (hXY : ∀ pc L st h c n, X pc L st h c n → Y pc L st h c n) : zstep tt G bc bs rt M ret X cd pc L st h c n → zstep tt G bc bs rt M ret2 Y cd pc L st h c n := by
  unfold zstep zex
  split
  · exact fun q => q.elim (fun z => Or.inl (zex1_mono hXY z)) (fun z => Or.inr (zex2_mono hM hr hXY z))
  · exact fun q => q
theorem zR.step (hM : zmono M) (k : zstep tt G bc bs rt M ret (zR tt G cd bc bs rt M ret) cd pc L st h c n) : zR tt G cd bc bs rt M ret pc L st h c n :=
  fun X hX => hX _ _ _ _ _ _ (zstep_mono hM (fun _ _ z => z) (fun _ _ _ _ _ _ q => q X hX) k)
theorem zR_post {ret2 : zQ} (hM : zmono M) (hr : ∀ w h, ret w h → ret2 w h) (k : zR tt G cd bc bs rt M ret pc L st h c n) : zR tt G cd bc bs rt M ret2 pc L st h c n :=
  k (zR tt G cd bc bs rt M ret2) (fun _ _ _ _ _ _ q => zR.step hM (zstep_mono hM hr (fun _ _ _ _ _ _ z => z) q))
end ZR
theorem zW_mono (tt : zT) (G : zG) : ∀ d : Nat, zmono (zW tt G d)
  | 0 => fun _ _ _ _ _ _ q => q
  | d + 1 => by
    intro j as h Q Q' hq k
    unfold zW at k ⊢
    split at k
    · exact ⟨k.1, zR_post (zW_mono tt G d) hq k.2⟩
    · exact k
end
section
section ZROWS
variable {tt : zT} {G : zG} {cd : zK} {bc bs : Nat} {rt : Option FieldType} {M : zM} {ret : zQ} {pc nx a b d : Nat} {v : Value} {L : zL} {s : List Value} {h : zH} {c n : Nat}
theorem r_push  (hM : zmono M) (hc : cd[pc]? = some (some (.aconst_null, nx, a, b, d, v)))  (k : zR tt G cd bc bs rt M ret nx L (v :: s) h c n) : zR tt G cd bc bs rt M ret pc L s h c n := zR.step hM (by unfold zstep; rw [hc]; exact Or.inl k)
theorem r_iload {i : Nat} {x : Int32} (hM : zmono M) (hc : cd[pc]? = some (some (.iload i, nx, a, b, d, v))) (hl : L.getD a none = some (.int x)) (k : zR tt G cd bc bs rt M ret nx L ((.int x) :: s) h c n) : zR tt G cd bc bs rt M ret pc L s h c n := zR.step hM (by unfold zstep; rw [hc]; refine Or.inl ?_; unfold zex1; dsimp only; rw [hl]; exact k)
theorem r_lload {i : Nat} {x : Int64} (hM : zmono M) (hc : cd[pc]? = some (some (.lload i, nx, a, b, d, v))) (hl : L.getD a none = some (.long x)) (k : zR tt G cd bc bs rt M ret nx L ((.long x) :: s) h c n) : zR tt G cd bc bs rt M ret pc L s h c n := zR.step hM (by unfold zstep; rw [hc]; refine Or.inl ?_; unfold zex1; dsimp only; rw [hl]; exact k)
theorem r_aload {i : Nat} {x : Nat} (hM : zmono M) (hc : cd[pc]? = some (some (.aload i, nx, a, b, d, v))) (hl : L.getD a none = some (.ref x)) (k : zR tt G cd bc bs rt M ret nx L ((.ref x) :: s) h c n) : zR tt G cd bc bs rt M ret pc L s h c n := zR.step hM (by unfold zstep; rw [hc]; refine Or.inl ?_; unfold zex1; dsimp only; rw [hl]; exact k)
theorem r_aloadN {i : Nat}  (hM : zmono M) (hc : cd[pc]? = some (some (.aload i, nx, a, b, d, v))) (hl : L.getD a none = some (.null)) (k : zR tt G cd bc bs rt M ret nx L ((.null) :: s) h c n) : zR tt G cd bc bs rt M ret pc L s h c n := zR.step hM (by unfold zstep; rw [hc]; refine Or.inl ?_; unfold zex1; dsimp only; rw [hl]; exact k)
theorem r_aloadS {i : Nat} {x : Nat} (hM : zmono M) (hc : cd[pc]? = some (some (.aload i, nx, a, b, d, v))) (hl : L.getD a none = some (.retAddr x)) (k : zR tt G cd bc bs rt M ret nx L ((.retAddr x) :: s) h c n) : zR tt G cd bc bs rt M ret pc L s h c n := zR.step hM (by unfold zstep; rw [hc]; refine Or.inl ?_; unfold zex1; dsimp only; rw [hl]; exact k)
theorem r_istore {i : Nat} {x : Int32} (hM : zmono M) (hc : cd[pc]? = some (some (.istore i, nx, a, b, d, v))) (hl : a < L.length) (k : zR tt G cd bc bs rt M ret nx (zst L a (.int x)) (s) h c n) : zR tt G cd bc bs rt M ret pc L ((.int x) :: s) h c n := zR.step hM (by unfold zstep; rw [hc]; exact Or.inl ⟨hl, k⟩)
theorem r_astore {i : Nat} {x : Nat} (hM : zmono M) (hc : cd[pc]? = some (some (.astore i, nx, a, b, d, v))) (hl : a < L.length) (k : zR tt G cd bc bs rt M ret nx (zst L a (.ref x)) (s) h c n) : zR tt G cd bc bs rt M ret pc L ((.ref x) :: s) h c n := zR.step hM (by unfold zstep; rw [hc]; exact Or.inl ⟨hl, k⟩)
theorem r_astoreN {i : Nat}  (hM : zmono M) (hc : cd[pc]? = some (some (.astore i, nx, a, b, d, v))) (hl : a < L.length) (k : zR tt G cd bc bs rt M ret nx (zst L a (.null)) (s) h c n) : zR tt G cd bc bs rt M ret pc L ((.null) :: s) h c n := zR.step hM (by unfold zstep; rw [hc]; exact Or.inl ⟨hl, k⟩)
theorem r_astoreS {i : Nat} {x : Nat} (hM : zmono M) (hc : cd[pc]? = some (some (.astore i, nx, a, b, d, v))) (hl : a < L.length) (k : zR tt G cd bc bs rt M ret nx (zst L a (.retAddr x)) (s) h c n) : zR tt G cd bc bs rt M ret pc L ((.retAddr x) :: s) h c n := zR.step hM (by unfold zstep; rw [hc]; exact Or.inl ⟨hl, k⟩)
theorem r_lstore {i : Nat} {x : Int64} (hM : zmono M) (hc : cd[pc]? = some (some (.lstore i, nx, a, b, d, v))) (hl : a + 1 < L.length) (k : zR tt G cd bc bs rt M ret nx (zst L a (.long x)) (s) h c n) : zR tt G cd bc bs rt M ret pc L (.long x :: s) h c n := zR.step hM (by unfold zstep; rw [hc]; exact Or.inl ⟨hl, k⟩)
theorem r_iinc {i : Nat} {z : Int} {x y : Int32} (hM : zmono M) (hc : cd[pc]? = some (some (.iinc i z, nx, a, b, d, .int y))) (hl : L.getD a none = some (.int x)) (hn : a < L.length) (k : zR tt G cd bc bs rt M ret nx (zst L a (.int (x + y))) (s) h c n) : zR tt G cd bc bs rt M ret pc L s h c n := zR.step hM (by unfold zstep; rw [hc]; refine Or.inl ?_; unfold zex1; dsimp only; rw [hl]; exact ⟨hn, k⟩)
theorem r_pop {w : Value} (hM : zmono M) (hc : cd[pc]? = some (some (.pop, nx, a, b, d, v))) (hw : w.category = 1) (k : zR tt G cd bc bs rt M ret nx L (s) h c n) : zR tt G cd bc bs rt M ret pc L (w :: s) h c n := zR.step hM (by unfold zstep; rw [hc]; exact Or.inl ⟨hw, k⟩)
theorem r_dup {w : Value} (hM : zmono M) (hc : cd[pc]? = some (some (.dup, nx, a, b, d, v))) (hw : w.category = 1) (k : zR tt G cd bc bs rt M ret nx L (w :: w :: s) h c n) : zR tt G cd bc bs rt M ret pc L (w :: s) h c n := zR.step hM (by unfold zstep; rw [hc]; exact Or.inl ⟨hw, k⟩)
theorem r_dup_x1 {w w2 : Value} (hM : zmono M) (hc : cd[pc]? = some (some (.dup_x1, nx, a, b, d, v))) (hw : w.category = 1) (hw2 : w2.category = 1) (k : zR tt G cd bc bs rt M ret nx L (w :: w2 :: w :: s) h c n) : zR tt G cd bc bs rt M ret pc L (w :: w2 :: s) h c n := zR.step hM (by unfold zstep; rw [hc]; exact Or.inl ⟨hw, hw2, k⟩)
theorem r_dup2 {w w2 : Value} (hM : zmono M) (hc : cd[pc]? = some (some (.dup2, nx, a, b, d, v))) (hw : w.category = 1) (hw2 : w2.category = 1) (k : zR tt G cd bc bs rt M ret nx L (w :: w2 :: w :: w2 :: s) h c n) : zR tt G cd bc bs rt M ret pc L (w :: w2 :: s) h c n := zR.step hM (by unfold zstep; rw [hc]; exact Or.inl ⟨hw, hw2, k⟩)
theorem r_dupl {w : Value} (hM : zmono M) (hc : cd[pc]? = some (some (.dup2_x1, nx, a, b, d, v))) (hw : w.category = 2) (k : zR tt G cd bc bs rt M ret nx L (w :: w :: s) h c n) : zR tt G cd bc bs rt M ret pc L (w :: s) h c n := zR.step hM (by unfold zstep; rw [hc]; exact Or.inl ⟨hw, k⟩)
theorem r_iadd {x y : Int32} (hM : zmono M) (hc : cd[pc]? = some (some (.iadd, nx, a, b, d, v)))  (k : zR tt G cd bc bs rt M ret nx L (.int (x + y) :: s) h c n) : zR tt G cd bc bs rt M ret pc L (.int y :: .int x :: s) h c n := zR.step hM (by unfold zstep; rw [hc]; exact Or.inl k)
theorem r_isub {x y : Int32} (hM : zmono M) (hc : cd[pc]? = some (some (.isub, nx, a, b, d, v)))  (k : zR tt G cd bc bs rt M ret nx L (.int (x - y) :: s) h c n) : zR tt G cd bc bs rt M ret pc L (.int y :: .int x :: s) h c n := zR.step hM (by unfold zstep; rw [hc]; exact Or.inl k)
theorem r_imul {x y : Int32} (hM : zmono M) (hc : cd[pc]? = some (some (.imul, nx, a, b, d, v)))  (k : zR tt G cd bc bs rt M ret nx L (.int (x * y) :: s) h c n) : zR tt G cd bc bs rt M ret pc L (.int y :: .int x :: s) h c n := zR.step hM (by unfold zstep; rw [hc]; exact Or.inl k)
theorem r_iand {x y : Int32} (hM : zmono M) (hc : cd[pc]? = some (some (.iand, nx, a, b, d, v)))  (k : zR tt G cd bc bs rt M ret nx L (.int (x &&& y) :: s) h c n) : zR tt G cd bc bs rt M ret pc L (.int y :: .int x :: s) h c n := zR.step hM (by unfold zstep; rw [hc]; exact Or.inl k)
theorem r_ior {x y : Int32} (hM : zmono M) (hc : cd[pc]? = some (some (.ior, nx, a, b, d, v)))  (k : zR tt G cd bc bs rt M ret nx L (.int (x ||| y) :: s) h c n) : zR tt G cd bc bs rt M ret pc L (.int y :: .int x :: s) h c n := zR.step hM (by unfold zstep; rw [hc]; exact Or.inl k)
theorem r_ishl {x y : Int32} (hM : zmono M) (hc : cd[pc]? = some (some (.ishl, nx, a, b, d, v)))  (k : zR tt G cd bc bs rt M ret nx L (.int (x <<< (y &&& 31)) :: s) h c n) : zR tt G cd bc bs rt M ret pc L (.int y :: .int x :: s) h c n := zR.step hM (by unfold zstep; rw [hc]; exact Or.inl k)
theorem r_ishr {x y : Int32} (hM : zmono M) (hc : cd[pc]? = some (some (.ishr, nx, a, b, d, v)))  (k : zR tt G cd bc bs rt M ret nx L (.int (x >>> (y &&& 31)) :: s) h c n) : zR tt G cd bc bs rt M ret pc L (.int y :: .int x :: s) h c n := zR.step hM (by unfold zstep; rw [hc]; exact Or.inl k)
theorem r_idiv {x y : Int32} (hM : zmono M) (hc : cd[pc]? = some (some (.idiv, nx, a, b, d, v))) (hy : ¬ y = 0) (k : zR tt G cd bc bs rt M ret nx L (.int (x / y) :: s) h c n) : zR tt G cd bc bs rt M ret pc L (.int y :: .int x :: s) h c n := zR.step hM (by unfold zstep; rw [hc]; exact Or.inl ⟨hy, k⟩)
theorem r_ladd {x y : Int64} (hM : zmono M) (hc : cd[pc]? = some (some (.ladd, nx, a, b, d, v)))  (k : zR tt G cd bc bs rt M ret nx L (.long (x + y) :: s) h c n) : zR tt G cd bc bs rt M ret pc L (.long y :: .long x :: s) h c n := zR.step hM (by unfold zstep; rw [hc]; exact Or.inl k)
theorem r_lsub {x y : Int64} (hM : zmono M) (hc : cd[pc]? = some (some (.lsub, nx, a, b, d, v)))  (k : zR tt G cd bc bs rt M ret nx L (.long (x - y) :: s) h c n) : zR tt G cd bc bs rt M ret pc L (.long y :: .long x :: s) h c n := zR.step hM (by unfold zstep; rw [hc]; exact Or.inl k)
theorem r_lmul {x y : Int64} (hM : zmono M) (hc : cd[pc]? = some (some (.lmul, nx, a, b, d, v)))  (k : zR tt G cd bc bs rt M ret nx L (.long (x * y) :: s) h c n) : zR tt G cd bc bs rt M ret pc L (.long y :: .long x :: s) h c n := zR.step hM (by unfold zstep; rw [hc]; exact Or.inl k)
theorem r_land {x y : Int64} (hM : zmono M) (hc : cd[pc]? = some (some (.land, nx, a, b, d, v)))  (k : zR tt G cd bc bs rt M ret nx L (.long (x &&& y) :: s) h c n) : zR tt G cd bc bs rt M ret pc L (.long y :: .long x :: s) h c n := zR.step hM (by unfold zstep; rw [hc]; exact Or.inl k)
theorem r_lor {x y : Int64} (hM : zmono M) (hc : cd[pc]? = some (some (.lor, nx, a, b, d, v)))  (k : zR tt G cd bc bs rt M ret nx L (.long (x ||| y) :: s) h c n) : zR tt G cd bc bs rt M ret pc L (.long y :: .long x :: s) h c n := zR.step hM (by unfold zstep; rw [hc]; exact Or.inl k)
theorem r_lxor {x y : Int64} (hM : zmono M) (hc : cd[pc]? = some (some (.lxor, nx, a, b, d, v)))  (k : zR tt G cd bc bs rt M ret nx L (.long (x ^^^ y) :: s) h c n) : zR tt G cd bc bs rt M ret pc L (.long y :: .long x :: s) h c n := zR.step hM (by unfold zstep; rw [hc]; exact Or.inl k)
theorem r_ldiv {x y : Int64} (hM : zmono M) (hc : cd[pc]? = some (some (.ldiv, nx, a, b, d, v))) (hy : ¬ y = 0) (k : zR tt G cd bc bs rt M ret nx L (.long (x / y) :: s) h c n) : zR tt G cd bc bs rt M ret pc L (.long y :: .long x :: s) h c n := zR.step hM (by unfold zstep; rw [hc]; exact Or.inl ⟨hy, k⟩)
theorem r_lrem {x y : Int64} (hM : zmono M) (hc : cd[pc]? = some (some (.lrem, nx, a, b, d, v))) (hy : ¬ y = 0) (k : zR tt G cd bc bs rt M ret nx L (.long (x - x / y * y) :: s) h c n) : zR tt G cd bc bs rt M ret pc L (.long y :: .long x :: s) h c n := zR.step hM (by unfold zstep; rw [hc]; exact Or.inl ⟨hy, k⟩)
theorem r_lneg {x : Int64} (hM : zmono M) (hc : cd[pc]? = some (some (.lneg, nx, a, b, d, v)))  (k : zR tt G cd bc bs rt M ret nx L (.long (-x) :: s) h c n) : zR tt G cd bc bs rt M ret pc L (.long x :: s) h c n := zR.step hM (by unfold zstep; rw [hc]; exact Or.inl k)
theorem r_lcmp {x y : Int64} (hM : zmono M) (hc : cd[pc]? = some (some (.lcmp, nx, a, b, d, v)))  (k : zR tt G cd bc bs rt M ret nx L (.int (lg_cmp x y) :: s) h c n) : zR tt G cd bc bs rt M ret pc L (.long y :: .long x :: s) h c n := zR.step hM (by unfold zstep; rw [hc]; exact Or.inl k)
theorem r_lshl {x : Int64} {y : Int32} (hM : zmono M) (hc : cd[pc]? = some (some (.lshl, nx, a, b, d, v)))  (k : zR tt G cd bc bs rt M ret nx L (.long (x <<< (y.toInt64 &&& 63)) :: s) h c n) : zR tt G cd bc bs rt M ret pc L (.int y :: .long x :: s) h c n := zR.step hM (by unfold zstep; rw [hc]; exact Or.inl k)
theorem r_lshr {x : Int64} {y : Int32} (hM : zmono M) (hc : cd[pc]? = some (some (.lshr, nx, a, b, d, v)))  (k : zR tt G cd bc bs rt M ret nx L (.long (x >>> (y.toInt64 &&& 63)) :: s) h c n) : zR tt G cd bc bs rt M ret pc L (.int y :: .long x :: s) h c n := zR.step hM (by unfold zstep; rw [hc]; exact Or.inl k)
theorem r_i2l {x : Int32} (hM : zmono M) (hc : cd[pc]? = some (some (.i2l, nx, a, b, d, v)))  (k : zR tt G cd bc bs rt M ret nx L (.long x.toInt64 :: s) h c n) : zR tt G cd bc bs rt M ret pc L (.int x :: s) h c n := zR.step hM (by unfold zstep; rw [hc]; exact Or.inl k)
theorem r_l2i {x : Int64} (hM : zmono M) (hc : cd[pc]? = some (some (.l2i, nx, a, b, d, v)))  (k : zR tt G cd bc bs rt M ret nx L (.int x.toInt32 :: s) h c n) : zR tt G cd bc bs rt M ret pc L (.long x :: s) h c n := zR.step hM (by unfold zstep; rw [hc]; exact Or.inl k)
theorem r_i2b {x : Int32} (hM : zmono M) (hc : cd[pc]? = some (some (.i2b, nx, a, b, d, v)))  (k : zR tt G cd bc bs rt M ret nx L (.int x.toInt8.toInt32 :: s) h c n) : zR tt G cd bc bs rt M ret pc L (.int x :: s) h c n := zR.step hM (by unfold zstep; rw [hc]; exact Or.inl k)
theorem r_goto {i : Int} (hM : zmono M) (hc : cd[pc]? = some (some (.goto i, nx, a, b, d, v)))  (k : zR tt G cd bc bs rt M ret a L (s) h c n) : zR tt G cd bc bs rt M ret pc L s h c n := zR.step hM (by unfold zstep; rw [hc]; exact Or.inl k)
theorem r_if_eq {i : Int} {x : Int32} (hM : zmono M) (hc : cd[pc]? = some (some (.ifCond .eq i, nx, a, b, d, v)))  (kt : x = 0 → zR tt G cd bc bs rt M ret a L (s) h c n) (kf : ¬ x = 0 → zR tt G cd bc bs rt M ret nx L (s) h c n) : zR tt G cd bc bs rt M ret pc L (.int x :: s) h c n := zR.step hM (by unfold zstep; rw [hc]; exact Or.inl ⟨kt, fun z => kf (id z)⟩)
theorem r_icmp_eq {i : Int} {x y : Int32} (hM : zmono M) (hc : cd[pc]? = some (some (.if_icmp .eq i, nx, a, b, d, v)))  (kt : x = y → zR tt G cd bc bs rt M ret a L (s) h c n) (kf : ¬ x = y → zR tt G cd bc bs rt M ret nx L (s) h c n) : zR tt G cd bc bs rt M ret pc L (.int y :: .int x :: s) h c n := zR.step hM (by unfold zstep; rw [hc]; exact Or.inl ⟨kt, fun z => kf (id z)⟩)
theorem r_if_ne {i : Int} {x : Int32} (hM : zmono M) (hc : cd[pc]? = some (some (.ifCond .ne i, nx, a, b, d, v)))  (kt : ¬ x = 0 → zR tt G cd bc bs rt M ret a L (s) h c n) (kf : x = 0 → zR tt G cd bc bs rt M ret nx L (s) h c n) : zR tt G cd bc bs rt M ret pc L (.int x :: s) h c n := zR.step hM (by unfold zstep; rw [hc]; exact Or.inl ⟨kt, fun z => kf (Classical.not_not.mp z)⟩)
theorem r_icmp_ne {i : Int} {x y : Int32} (hM : zmono M) (hc : cd[pc]? = some (some (.if_icmp .ne i, nx, a, b, d, v)))  (kt : ¬ x = y → zR tt G cd bc bs rt M ret a L (s) h c n) (kf : x = y → zR tt G cd bc bs rt M ret nx L (s) h c n) : zR tt G cd bc bs rt M ret pc L (.int y :: .int x :: s) h c n := zR.step hM (by unfold zstep; rw [hc]; exact Or.inl ⟨kt, fun z => kf (Classical.not_not.mp z)⟩)
theorem r_if_lt {i : Int} {x : Int32} (hM : zmono M) (hc : cd[pc]? = some (some (.ifCond .lt i, nx, a, b, d, v)))  (kt : x < 0 → zR tt G cd bc bs rt M ret a L (s) h c n) (kf : 0 ≤ x → zR tt G cd bc bs rt M ret nx L (s) h c n) : zR tt G cd bc bs rt M ret pc L (.int x :: s) h c n := zR.step hM (by unfold zstep; rw [hc]; exact Or.inl ⟨kt, fun z => kf (Int32.not_lt.mp z)⟩)
theorem r_icmp_lt {i : Int} {x y : Int32} (hM : zmono M) (hc : cd[pc]? = some (some (.if_icmp .lt i, nx, a, b, d, v)))  (kt : x < y → zR tt G cd bc bs rt M ret a L (s) h c n) (kf : y ≤ x → zR tt G cd bc bs rt M ret nx L (s) h c n) : zR tt G cd bc bs rt M ret pc L (.int y :: .int x :: s) h c n := zR.step hM (by unfold zstep; rw [hc]; exact Or.inl ⟨kt, fun z => kf (Int32.not_lt.mp z)⟩)
theorem r_if_ge {i : Int} {x : Int32} (hM : zmono M) (hc : cd[pc]? = some (some (.ifCond .ge i, nx, a, b, d, v)))  (kt : 0 ≤ x → zR tt G cd bc bs rt M ret a L (s) h c n) (kf : x < 0 → zR tt G cd bc bs rt M ret nx L (s) h c n) : zR tt G cd bc bs rt M ret pc L (.int x :: s) h c n := zR.step hM (by unfold zstep; rw [hc]; exact Or.inl ⟨kt, fun z => kf (Int32.not_le.mp z)⟩)
theorem r_icmp_ge {i : Int} {x y : Int32} (hM : zmono M) (hc : cd[pc]? = some (some (.if_icmp .ge i, nx, a, b, d, v)))  (kt : y ≤ x → zR tt G cd bc bs rt M ret a L (s) h c n) (kf : x < y → zR tt G cd bc bs rt M ret nx L (s) h c n) : zR tt G cd bc bs rt M ret pc L (.int y :: .int x :: s) h c n := zR.step hM (by unfold zstep; rw [hc]; exact Or.inl ⟨kt, fun z => kf (Int32.not_le.mp z)⟩)
theorem r_if_gt {i : Int} {x : Int32} (hM : zmono M) (hc : cd[pc]? = some (some (.ifCond .gt i, nx, a, b, d, v)))  (kt : 0 < x → zR tt G cd bc bs rt M ret a L (s) h c n) (kf : x ≤ 0 → zR tt G cd bc bs rt M ret nx L (s) h c n) : zR tt G cd bc bs rt M ret pc L (.int x :: s) h c n := zR.step hM (by unfold zstep; rw [hc]; exact Or.inl ⟨kt, fun z => kf (Int32.not_lt.mp z)⟩)
theorem r_icmp_gt {i : Int} {x y : Int32} (hM : zmono M) (hc : cd[pc]? = some (some (.if_icmp .gt i, nx, a, b, d, v)))  (kt : y < x → zR tt G cd bc bs rt M ret a L (s) h c n) (kf : x ≤ y → zR tt G cd bc bs rt M ret nx L (s) h c n) : zR tt G cd bc bs rt M ret pc L (.int y :: .int x :: s) h c n := zR.step hM (by unfold zstep; rw [hc]; exact Or.inl ⟨kt, fun z => kf (Int32.not_lt.mp z)⟩)
theorem r_if_le {i : Int} {x : Int32} (hM : zmono M) (hc : cd[pc]? = some (some (.ifCond .le i, nx, a, b, d, v)))  (kt : x ≤ 0 → zR tt G cd bc bs rt M ret a L (s) h c n) (kf : 0 < x → zR tt G cd bc bs rt M ret nx L (s) h c n) : zR tt G cd bc bs rt M ret pc L (.int x :: s) h c n := zR.step hM (by unfold zstep; rw [hc]; exact Or.inl ⟨kt, fun z => kf (Int32.not_le.mp z)⟩)
theorem r_icmp_le {i : Int} {x y : Int32} (hM : zmono M) (hc : cd[pc]? = some (some (.if_icmp .le i, nx, a, b, d, v)))  (kt : x ≤ y → zR tt G cd bc bs rt M ret a L (s) h c n) (kf : y < x → zR tt G cd bc bs rt M ret nx L (s) h c n) : zR tt G cd bc bs rt M ret pc L (.int y :: .int x :: s) h c n := zR.step hM (by unfold zstep; rw [hc]; exact Or.inl ⟨kt, fun z => kf (Int32.not_le.mp z)⟩)
theorem r_ifnullT {i : Int} (hM : zmono M) (hc : cd[pc]? = some (some (.ifnull i, nx, a, b, d, v)))  (k : zR tt G cd bc bs rt M ret a L (s) h c n) : zR tt G cd bc bs rt M ret pc L (.null :: s) h c n := zR.step hM (by unfold zstep; rw [hc]; exact Or.inl k)
theorem r_ifnullF {i : Int} {r : Nat} (hM : zmono M) (hc : cd[pc]? = some (some (.ifnull i, nx, a, b, d, v)))  (k : zR tt G cd bc bs rt M ret nx L (s) h c n) : zR tt G cd bc bs rt M ret pc L (.ref r :: s) h c n := zR.step hM (by unfold zstep; rw [hc]; exact Or.inl k)
theorem r_ifnonnullF {i : Int} (hM : zmono M) (hc : cd[pc]? = some (some (.ifnonnull i, nx, a, b, d, v)))  (k : zR tt G cd bc bs rt M ret nx L (s) h c n) : zR tt G cd bc bs rt M ret pc L (.null :: s) h c n := zR.step hM (by unfold zstep; rw [hc]; exact Or.inl k)
theorem r_ifnonnullT {i : Int} {r : Nat} (hM : zmono M) (hc : cd[pc]? = some (some (.ifnonnull i, nx, a, b, d, v)))  (k : zR tt G cd bc bs rt M ret a L (s) h c n) : zR tt G cd bc bs rt M ret pc L (.ref r :: s) h c n := zR.step hM (by unfold zstep; rw [hc]; exact Or.inl k)
theorem r_table {df lo hi : Int} {tg : Array Int} {x : Int32} (hM : zmono M) (hc : cd[pc]? = some (some (.tableswitch df lo hi tg, nx, a, b, d, v)))  (kd : (x.toInt < lo ∨ hi < x.toInt) → zR tt G cd bc bs rt M ret df.toNat L (s) h c n) (kt : ¬ x.toInt < lo → ¬ hi < x.toInt → ∃ t : Int, tg[(x.toInt - lo).toNat]? = some t ∧ zR tt G cd bc bs rt M ret t.toNat L (s) h c n) : zR tt G cd bc bs rt M ret pc L (.int x :: s) h c n := zR.step hM (by unfold zstep; rw [hc]; exact Or.inr ⟨kd, kt⟩)
theorem r_lookup {df : Int} {ps : Array (Int × Int)} {x : Int32} (hM : zmono M) (hc : cd[pc]? = some (some (.lookupswitch df ps, nx, a, b, d, v)))  (k : zR tt G cd bc bs rt M ret (Op.lookupswitch.offset ps.toList df x.toInt).toNat L (s) h c n) : zR tt G cd bc bs rt M ret pc L (.int x :: s) h c n := zR.step hM (by unfold zstep; rw [hc]; exact Or.inr k)
theorem r_iald {i : Int32} {r N : Nat} {f : Nat → Int32} (hM : zmono M) (hc : cd[pc]? = some (some (.iaload, nx, a, b, d, v))) (hr : h[r]? = some (.inl (0, N, .inl f))) (hi : vp_in i N) (k : zR tt G cd bc bs rt M ret nx L (.int (f i.toNatClampNeg) :: s) h c n) : zR tt G cd bc bs rt M ret pc L (.int i :: .ref r :: s) h c n := zR.step hM (by unfold zstep; rw [hc]; exact Or.inr ⟨N, f, hr, hi, k⟩)
theorem r_zald {i : Int32} {r N : Nat} {f : Nat → Int32} (hM : zmono M) (hc : cd[pc]? = some (some (.baload, nx, a, b, d, v))) (hr : h[r]? = some (.inl (1, N, .inl f))) (hi : vp_in i N) (k : zR tt G cd bc bs rt M ret nx L (.int (f i.toNatClampNeg) :: s) h c n) : zR tt G cd bc bs rt M ret pc L (.int i :: .ref r :: s) h c n := zR.step hM (by unfold zstep; rw [hc]; exact Or.inr ⟨1, N, f, Or.inl rfl, hr, hi, k⟩)
theorem r_bald {i : Int32} {r N : Nat} {f : Nat → Int32} (hM : zmono M) (hc : cd[pc]? = some (some (.baload, nx, a, b, d, v))) (hr : h[r]? = some (.inl (2, N, .inl f))) (hi : vp_in i N) (k : zR tt G cd bc bs rt M ret nx L (.int (f i.toNatClampNeg) :: s) h c n) : zR tt G cd bc bs rt M ret pc L (.int i :: .ref r :: s) h c n := zR.step hM (by unfold zstep; rw [hc]; exact Or.inr ⟨2, N, f, Or.inr rfl, hr, hi, k⟩)
theorem r_lald {i : Int32} {r N : Nat} {f : Nat → Int64} (hM : zmono M) (hc : cd[pc]? = some (some (.laload, nx, a, b, d, v))) (hr : h[r]? = some (.inl (3, N, .inr (.inl f)))) (hi : vp_in i N) (k : zR tt G cd bc bs rt M ret nx L (.long (f i.toNatClampNeg) :: s) h c n) : zR tt G cd bc bs rt M ret pc L (.int i :: .ref r :: s) h c n := zR.step hM (by unfold zstep; rw [hc]; exact Or.inr ⟨N, f, hr, hi, k⟩)
theorem r_gald {i : Int32} {r N : Nat} {f : Nat → Option Nat} (hM : zmono M) (hc : cd[pc]? = some (some (.aaload, nx, a, b, d, v))) (hr : h[r]? = some (.inl (4, N, .inr (.inr (.inr (.inr f)))))) (hi : vp_in i N) (k : zR tt G cd bc bs rt M ret nx L (zrf (f i.toNatClampNeg) :: s) h c n) : zR tt G cd bc bs rt M ret pc L (.int i :: .ref r :: s) h c n := zR.step hM (by unfold zstep; rw [hc]; exact Or.inr ⟨4, N, f, Or.inl rfl, hr, hi, k⟩)
theorem r_aald {i : Int32} {r N : Nat} {f : Nat → Option Nat} (hM : zmono M) (hc : cd[pc]? = some (some (.aaload, nx, a, b, d, v))) (hr : h[r]? = some (.inl (5, N, .inr (.inr (.inr (.inr f)))))) (hi : vp_in i N) (k : zR tt G cd bc bs rt M ret nx L (zrf (f i.toNatClampNeg) :: s) h c n) : zR tt G cd bc bs rt M ret pc L (.int i :: .ref r :: s) h c n := zR.step hM (by unfold zstep; rw [hc]; exact Or.inr ⟨5, N, f, Or.inr rfl, hr, hi, k⟩)
theorem r_sld {i : Int32} (hM : zmono M) (hc : cd[pc]? = some (some (.saload, nx, a, b, d, v))) (hi : vp_in i G.2.2.1) (k : zR tt G cd bc bs rt M ret nx L (.int (G.2.2.2 i.toNatClampNeg) :: s) h c n) : zR tt G cd bc bs rt M ret pc L (.int i :: .retAddr 0 :: s) h c n := zR.step hM (by unfold zstep; rw [hc]; exact Or.inr ⟨hi, k⟩)
theorem r_slen  (hM : zmono M) (hc : cd[pc]? = some (some (.i2s, nx, a, b, d, v)))  (k : zR tt G cd bc bs rt M ret nx L (.int (Int32.ofNat G.2.2.1) :: s) h c n) : zR tt G cd bc bs rt M ret pc L (.retAddr 0 :: s) h c n := zR.step hM (by unfold zstep; rw [hc]; exact Or.inr k)
theorem r_iast {x i : Int32} {r N : Nat} {f : Nat → Int32} (hM : zmono M) (hc : cd[pc]? = some (some (.iastore, nx, a, b, d, v))) (hr : h[r]? = some (.inl (0, N, .inl f))) (hi : vp_in i N) (k : zR tt G cd bc bs rt M ret nx L (s) (h.set r (.inl (0, N, .inl (upd f i.toNatClampNeg x)))) c n) : zR tt G cd bc bs rt M ret pc L (.int x :: .int i :: .ref r :: s) h c n := zR.step hM (by unfold zstep; rw [hc]; exact Or.inr ⟨N, f, hr, hi, k⟩)
theorem r_zast {x i : Int32} {r N : Nat} {f : Nat → Int32} (hM : zmono M) (hc : cd[pc]? = some (some (.bastore, nx, a, b, d, v))) (hr : h[r]? = some (.inl (1, N, .inl f))) (hi : vp_in i N) (k : zR tt G cd bc bs rt M ret nx L (s) (h.set r (.inl (1, N, .inl (upd f i.toNatClampNeg (vp_nar .boolean x))))) c n) : zR tt G cd bc bs rt M ret pc L (.int x :: .int i :: .ref r :: s) h c n := zR.step hM (by unfold zstep; rw [hc]; exact Or.inr ⟨1, N, f, Or.inl rfl, hr, hi, k⟩)
theorem r_bast {x i : Int32} {r N : Nat} {f : Nat → Int32} (hM : zmono M) (hc : cd[pc]? = some (some (.bastore, nx, a, b, d, v))) (hr : h[r]? = some (.inl (2, N, .inl f))) (hi : vp_in i N) (k : zR tt G cd bc bs rt M ret nx L (s) (h.set r (.inl (2, N, .inl (upd f i.toNatClampNeg (vp_nar .byte x))))) c n) : zR tt G cd bc bs rt M ret pc L (.int x :: .int i :: .ref r :: s) h c n := zR.step hM (by unfold zstep; rw [hc]; exact Or.inr ⟨2, N, f, Or.inr rfl, hr, hi, k⟩)
theorem r_last {x : Int64} {i : Int32} {r N : Nat} {f : Nat → Int64} (hM : zmono M) (hc : cd[pc]? = some (some (.lastore, nx, a, b, d, v))) (hr : h[r]? = some (.inl (3, N, .inr (.inl f)))) (hi : vp_in i N) (k : zR tt G cd bc bs rt M ret nx L (s) (h.set r (.inl (3, N, .inr (.inl (vp_updL f i.toNatClampNeg x))))) c n) : zR tt G cd bc bs rt M ret pc L (.long x :: .int i :: .ref r :: s) h c n := zR.step hM (by unfold zstep; rw [hc]; exact Or.inr ⟨N, f, hr, hi, k⟩)
theorem r_aast {y : Nat} {i : Int32} {r N : Nat} {fs : List Value} {f : Nat → Option Nat} (hM : zmono M) (hc : cd[pc]? = some (some (.aastore, nx, a, b, d, v))) (hr : h[r]? = some (.inl (5, N, .inr (.inr (.inr (.inr f)))))) (hy : h[y]? = some (.inr (d, fs))) (hi : vp_in i N) (k : zR tt G cd bc bs rt M ret nx L (s) (h.set r (.inl (5, N, .inr (.inr (.inr (.inr (va_up f i.toNatClampNeg (some y)))))))) c n) : zR tt G cd bc bs rt M ret pc L (.ref y :: .int i :: .ref r :: s) h c n := zR.step hM (by unfold zstep; rw [hc]; exact Or.inr ⟨5, N, f, Or.inr ⟨rfl, fs, hy⟩, hr, hi, k⟩)
theorem r_gast {y : Nat} {i : Int32} {r N K : Nat} {g : Nat → Int32} {f : Nat → Option Nat} (hM : zmono M) (hc : cd[pc]? = some (some (.aastore, nx, a, b, d, v))) (hr : h[r]? = some (.inl (4, N, .inr (.inr (.inr (.inr f)))))) (hy : h[y]? = some (.inl (0, K, .inl g))) (hi : vp_in i N) (k : zR tt G cd bc bs rt M ret nx L (s) (h.set r (.inl (4, N, .inr (.inr (.inr (.inr (va_up f i.toNatClampNeg (some y)))))))) c n) : zR tt G cd bc bs rt M ret pc L (.ref y :: .int i :: .ref r :: s) h c n := zR.step hM (by unfold zstep; rw [hc]; exact Or.inr ⟨4, N, f, Or.inl ⟨rfl, K, g, hy⟩, hr, hi, k⟩)
theorem r_alen {r kd N : Nat} {x : (Nat → Int32) ⊕ (Nat → Int64) ⊕ (Nat → UInt32) ⊕ (Nat → UInt64) ⊕ (Nat → Option Nat)} (hM : zmono M) (hc : cd[pc]? = some (some (.arraylength, nx, a, b, d, v))) (hr : h[r]? = some (.inl (kd, N, x))) (hk : kd < 6) (k : zR tt G cd bc bs rt M ret nx L (.int (Int32.ofNat N) :: s) h c n) : zR tt G cd bc bs rt M ret pc L (.ref r :: s) h c n := zR.step hM (by unfold zstep; rw [hc]; exact Or.inr ⟨kd, N, x, hk, hr, k⟩)
theorem r_newa {t : ArrayType} {x : Int32} {N : Nat} (hM : zmono M) (hc : cd[pc]? = some (some (.newarray t, nx, a, b, d, v))) (hx : ¬ x < 0) (hN : x.toNatClampNeg = N) (hs : N ≤ 10000) (h1 : c + 1 ≤ bc) (h2 : n + N ≤ bs) (ht : zkind t < 4) (k : zR tt G cd bc bs rt M ret nx L (.ref h.length :: s) (h ++ [zarr (zkind t) N]) (c + 1) (n + N)) : zR tt G cd bc bs rt M ret pc L (.int x :: s) h c n := zR.step hM (by unfold zstep; rw [hc]; exact Or.inr (by subst hN; exact ⟨hx, hs, h1, h2, ht, k⟩))
theorem r_anewa {i : Nat} {x : Int32} {N : Nat} (hM : zmono M) (hc : cd[pc]? = some (some (.anewarray i, nx, a, b, d, v))) (hx : ¬ x < 0) (hN : x.toNatClampNeg = N) (hs : N ≤ 10000) (h1 : c + 1 ≤ bc) (h2 : n + N ≤ bs) (ht : a = 4 ∨ a = 5) (k : zR tt G cd bc bs rt M ret nx L (.ref h.length :: s) (h ++ [zarr a N]) (c + 1) (n + N)) : zR tt G cd bc bs rt M ret pc L (.int x :: s) h c n := zR.step hM (by unfold zstep; rw [hc]; exact Or.inr (by subst hN; exact ⟨hx, hs, h1, h2, ht, k⟩))
theorem r_mnewa {i : Nat} {x y : Int32} {N K : Nat} (hM : zmono M) (hc : cd[pc]? = some (some (.multianewarray i 2, nx, a, b, d, v))) (hx : ¬ x < 0) (hy : ¬ y < 0) (hN : x.toNatClampNeg = N) (hK : y.toNatClampNeg = K) (hs : N ≤ 10000) (hs2 : K ≤ 10000) (h1 : c + (1 + N) ≤ bc) (h2 : n + (N + N * K) ≤ bs) (k : zR tt G cd bc bs rt M ret nx L (.ref h.length :: s) (h ++ zrows h.length N K) (c + 1 + N) (n + N + N * K)) : zR tt G cd bc bs rt M ret pc L (.int y :: .int x :: s) h c n := zR.step hM (by unfold zstep; rw [hc]; exact Or.inr (by subst hN; subst hK; exact ⟨hx, hy, hs, hs2, h1, h2, k⟩))
theorem r_new {i : Nat} {fs : List Value} (hM : zmono M) (hc : cd[pc]? = some (some (.new i, nx, a, b, d, v))) (hf : zcls tt a = fs) (h1 : c + 1 ≤ bc) (h2 : n + fs.length ≤ bs) (k : zR tt G cd bc bs rt M ret nx L (.ref h.length :: s) (h ++ [.inr (a, fs)]) (c + 1) (n + fs.length)) : zR tt G cd bc bs rt M ret pc L s h c n := zR.step hM (by unfold zstep; rw [hc]; exact Or.inr (by subst hf; exact ⟨h1, h2, k⟩))
theorem r_get {i r : Nat} {fs : List Value} {w : Value} (hM : zmono M) (hc : cd[pc]? = some (some (.getfield i, nx, a, b, d, v))) (hr : h[r]? = some (.inr (a, fs))) (hw : fs[b]? = some w) (k : zR tt G cd bc bs rt M ret nx L (w :: s) h c n) : zR tt G cd bc bs rt M ret pc L (.ref r :: s) h c n := zR.step hM (by unfold zstep; rw [hc]; exact Or.inr ⟨fs, w, hr, hw, k⟩)
theorem r_put {i r : Nat} {fs : List Value} {w : Value} {t : FieldType} (hM : zmono M) (hc : cd[pc]? = some (some (.putfield i, nx, a, b, d, v))) (hr : h[r]? = some (.inr (a, fs))) (hl : b < fs.length) (ht : (tt[a]?).map (fun q => q.1 b) = some t) (hn : narrow t w = w) (hf : fits t w = true) (k : zR tt G cd bc bs rt M ret nx L (s) (h.set r (.inr (a, fs.set b w))) c n) : zR tt G cd bc bs rt M ret pc L (w :: .ref r :: s) h c n := zR.step hM (by unfold zstep; rw [hc]; exact Or.inr ⟨fs, t, hr, hl, ht, hn, hf, k⟩)
theorem r_oinit {r : Nat} (hM : zmono M) (hc : cd[pc]? = some (some (.pop2, nx, a, b, d, v))) (hs : (s.map fun v => v.category).sum ≤ 8) (k : zR tt G cd bc bs rt M ret nx L (s) h c n) : zR tt G cd bc bs rt M ret pc L (.ref r :: s) h c n := zR.step hM (by unfold zstep; rw [hc]; exact Or.inr ⟨hs, k⟩)
theorem r_virt {i r : Nat} {as : List Value} {fs : List Value} {st : List Value} {m1 m2 : Nat} (hM : zmono M) (hc : cd[pc]? = some (some (.invokevirtual i, nx, a, b, d, v))) (he : st = as.reverse ++ .ref r :: s) (hl : as.length = b) (hr : h[r]? = some (.inr (d, fs))) (hs : (s.map fun v => v.category).sum ≤ 8) (hb : zbud G a = (m1, m2)) (h1 : c + m1 ≤ bc) (h2 : n + m2 ≤ bs) (k : M a (.ref r :: as) h (fun w h2 => zR tt G cd bc bs rt M ret nx L (w.toList ++ s) h2 (c + m1) (n + m2))) : zR tt G cd bc bs rt M ret pc L st h c n := by
  subst he; subst hl
  have e1 : (as.reverse ++ Value.ref r :: s).drop as.length = .ref r :: s := by rw [← List.length_reverse, List.drop_left]
  have e2 : (as.reverse ++ Value.ref r :: s).take as.length = as.reverse := by rw [← List.length_reverse, List.take_left]
  refine zR.step hM ?_
  unfold zstep; rw [hc]
  refine Or.inr ?_
  show (match (as.reverse ++ Value.ref r :: s).drop as.length with | .ref r2 :: s2 => _ | _ => False)
  rw [e1]
  show ((as.reverse ++ Value.ref r :: s).take as.length).length = as.length ∧ _
  rw [e2, List.reverse_reverse, hb]
  exact ⟨List.length_reverse, ⟨fs, hr⟩, hs, h1, h2, k⟩
theorem r_spec {i r : Nat} {as : List Value} {st : List Value} {m1 m2 : Nat} (hM : zmono M) (hc : cd[pc]? = some (some (.invokespecial i, nx, a, b, d, v))) (he : st = as.reverse ++ .ref r :: s) (hl : as.length = b) (hs : (s.map fun v => v.category).sum ≤ 8) (hb : zbud G a = (m1, m2)) (h1 : c + m1 ≤ bc) (h2 : n + m2 ≤ bs) (k : M a (.ref r :: as) h (fun w h2 => zR tt G cd bc bs rt M ret nx L (w.toList ++ s) h2 (c + m1) (n + m2))) : zR tt G cd bc bs rt M ret pc L st h c n := by
  subst he; subst hl
  have e1 : (as.reverse ++ Value.ref r :: s).drop as.length = .ref r :: s := by rw [← List.length_reverse, List.drop_left]
  have e2 : (as.reverse ++ Value.ref r :: s).take as.length = as.reverse := by rw [← List.length_reverse, List.take_left]
  refine zR.step hM ?_
  unfold zstep; rw [hc]
  refine Or.inr ?_
  show (match (as.reverse ++ Value.ref r :: s).drop as.length with | .ref r2 :: s2 => _ | _ => False)
  rw [e1]
  show ((as.reverse ++ Value.ref r :: s).take as.length).length = as.length ∧ _
  rw [e2, List.reverse_reverse, hb]
  exact ⟨List.length_reverse, hs, h1, h2, k⟩
theorem r_stat {i : Nat} {as : List Value} {st : List Value} {m1 m2 : Nat} (hM : zmono M) (hc : cd[pc]? = some (some (.invokestatic i, nx, a, b, d, v))) (he : st = as.reverse ++ s) (hl : as.length = b) (hs : (s.map fun v => v.category).sum ≤ 8) (hb : zbud G a = (m1, m2)) (h1 : c + m1 ≤ bc) (h2 : n + m2 ≤ bs) (k : M a as h (fun w h2 => zR tt G cd bc bs rt M ret nx L (w.toList ++ s) h2 (c + m1) (n + m2))) : zR tt G cd bc bs rt M ret pc L st h c n := by
  subst he; subst hl
  have e1 : (as.reverse ++ s).drop as.length = s := by rw [← List.length_reverse, List.drop_left]
  have e2 : (as.reverse ++ s).take as.length = as.reverse := by rw [← List.length_reverse, List.take_left]
  refine zR.step hM ?_
  unfold zstep; rw [hc]
  refine Or.inr ?_
  show ((as.reverse ++ s).take as.length).length = as.length ∧ _
  rw [e2, e1, List.reverse_reverse, hb]
  exact ⟨List.length_reverse, hs, h1, h2, k⟩
theorem r_iret {x : Int32} {t : FieldType} (hM : zmono M) (hc : cd[pc]? = some (some (.ireturn, nx, a, b, d, v))) (ht : rt = some t) (hn : narrow t (.int x) = .int x) (k : ret (some (.int x)) h) : zR tt G cd bc bs rt M ret pc L [.int x] h c n := zR.step hM (by unfold zstep; rw [hc]; exact Or.inr ⟨⟨t, ht, hn⟩, k⟩)
theorem r_lret {x : Int64} (hM : zmono M) (hc : cd[pc]? = some (some (.lreturn, nx, a, b, d, v))) (ht : rt = some .long) (k : ret (some (.long x)) h) : zR tt G cd bc bs rt M ret pc L [.long x] h c n := zR.step hM (by unfold zstep; rw [hc]; exact Or.inr ⟨ht, k⟩)
theorem r_vret (hM : zmono M) (hc : cd[pc]? = some (some (.return_, nx, a, b, d, v))) (ht : rt = none) (k : ret none h) : zR tt G cd bc bs rt M ret pc L [] h c n := zR.step hM (by unfold zstep; rw [hc]; exact Or.inr ⟨ht, k⟩)
theorem r_aret {x : Nat} {t : FieldType} (hM : zmono M) (hc : cd[pc]? = some (some (.areturn, nx, a, b, d, v))) (ht : rt = some t) (hn : fits t .null = true) (k : ret (some (.ref x)) h) : zR tt G cd bc bs rt M ret pc L [.ref x] h c n := zR.step hM (by unfold zstep; rw [hc]; exact Or.inr ⟨⟨t, ht, hn⟩, k⟩)
theorem r_sret {x : Nat} {t : FieldType} (hM : zmono M) (hc : cd[pc]? = some (some (.areturn, nx, a, b, d, v))) (ht : rt = some t) (hn : fits t .null = true) (k : ret (some (.retAddr x)) h) : zR tt G cd bc bs rt M ret pc L [.retAddr x] h c n := zR.step hM (by unfold zstep; rw [hc]; exact Or.inr ⟨⟨t, ht, hn⟩, k⟩)
theorem r_nret {t : FieldType} (hM : zmono M) (hc : cd[pc]? = some (some (.areturn, nx, a, b, d, v))) (ht : rt = some t) (hn : fits t .null = true) (k : ret (some .null) h) : zR tt G cd bc bs rt M ret pc L [.null] h c n := zR.step hM (by unfold zstep; rw [hc]; exact Or.inr ⟨⟨t, ht, hn⟩, k⟩)
theorem r_chr {i : Int32} {q : Nat} (hM : zmono M) (hc : cd[pc]? = some (some (.caload, nx, a, b, d, v))) (hi : vp_in i (G.2.1 q).length) (hs : (s.map fun v => v.category).sum ≤ 8) (k : zR tt G cd bc bs rt M ret nx L (.int ((G.2.1 q).getD i.toNatClampNeg 0) :: s) h c n) : zR tt G cd bc bs rt M ret pc L (.int i :: .retAddr q :: s) h c n := zR.step hM (by unfold zstep; rw [hc]; exact Or.inr ⟨hi, hs, k⟩)
theorem r_tlen {q : Nat} (hM : zmono M) (hc : cd[pc]? = some (some (.i2c, nx, a, b, d, v))) (hq : 0 < (G.2.1 q).length) (hs : (s.map fun v => v.category).sum ≤ 8) (k : zR tt G cd bc bs rt M ret nx L (.int (Int32.ofNat (G.2.1 q).length) :: s) h c n) : zR tt G cd bc bs rt M ret pc L (.retAddr q :: s) h c n := zR.step hM (by unfold zstep; rw [hc]; exact Or.inr ⟨hq, hs, k⟩)
end ZROWS
end
