section
-- ===== PART A: goes FIRST, ahead of the names: the tables' words, and 'selects' of the private methods out of them =====
/-- a private method of a class that the tables say can be made, by its rows of tables_1 -/
def lw_okq (q : MethodName × Nat) : Prop := (q.1.cls ≠ "java/lang/invoke/MethodHandle" ∧ q.1.cls ≠ "java/lang/invoke/VarHandle") ∧ Cond.instantiable q.1.cls q.2 ∈ tables_1 ∧ Cond.privateMethod q.1 ∈ tables_1 ∧ Cond.instanceMethod q.1 ∈ tables_1
theorem lw_p0 : lw_okq (⟨"TankBehind", "partsOf", "(LTankBehind$Car;I)I"⟩, 15) := ⟨⟨by decide +kernel, by decide +kernel⟩, List.mem_of_getElem? (i := 22) (by decide +kernel), List.mem_of_getElem? (i := 593) (by decide +kernel), List.mem_of_getElem? (i := 594) (by decide +kernel)⟩
theorem lw_p1 : lw_okq (⟨"TankBehind$RuleReader", "readClause", "()Z"⟩, 10) := ⟨⟨by decide +kernel, by decide +kernel⟩, List.mem_of_getElem? (i := 114) (by decide +kernel), List.mem_of_getElem? (i := 657) (by decide +kernel), List.mem_of_getElem? (i := 658) (by decide +kernel)⟩
theorem lw_p2 : lw_okq (⟨"TankBehind$RuleReader", "wordHere", "()I"⟩, 10) := ⟨⟨by decide +kernel, by decide +kernel⟩, List.mem_of_getElem? (i := 114) (by decide +kernel), List.mem_of_getElem? (i := 661) (by decide +kernel), List.mem_of_getElem? (i := 662) (by decide +kernel)⟩
theorem lw_p3 : lw_okq (⟨"TankBehind$RuleReader", "signHere", "()I"⟩, 10) := ⟨⟨by decide +kernel, by decide +kernel⟩, List.mem_of_getElem? (i := 114) (by decide +kernel), List.mem_of_getElem? (i := 665) (by decide +kernel), List.mem_of_getElem? (i := 666) (by decide +kernel)⟩
theorem lw_p4 : lw_okq (⟨"TankBehind$RuleReader", "refuse", "(II)Z"⟩, 10) := ⟨⟨by decide +kernel, by decide +kernel⟩, List.mem_of_getElem? (i := 114) (by decide +kernel), List.mem_of_getElem? (i := 718) (by decide +kernel), List.mem_of_getElem? (i := 719) (by decide +kernel)⟩
theorem lw_p5 : lw_okq (⟨"TankBehind$RuleReader", "numberHere", "(I)I"⟩, 10) := ⟨⟨by decide +kernel, by decide +kernel⟩, List.mem_of_getElem? (i := 114) (by decide +kernel), List.mem_of_getElem? (i := 722) (by decide +kernel), List.mem_of_getElem? (i := 723) (by decide +kernel)⟩
theorem lw_p6 : lw_okq (⟨"TankBehind$RuleReader", "readSum", "(I)Z"⟩, 10) := ⟨⟨by decide +kernel, by decide +kernel⟩, List.mem_of_getElem? (i := 114) (by decide +kernel), List.mem_of_getElem? (i := 730) (by decide +kernel), List.mem_of_getElem? (i := 731) (by decide +kernel)⟩
theorem lw_p7 : lw_okq (⟨"TankBehind$RuleReader", "readTerm", "(I)Z"⟩, 10) := ⟨⟨by decide +kernel, by decide +kernel⟩, List.mem_of_getElem? (i := 114) (by decide +kernel), List.mem_of_getElem? (i := 734) (by decide +kernel), List.mem_of_getElem? (i := 735) (by decide +kernel)⟩
theorem lw_p8 : lw_okq (⟨"TankBehind$RuleReader", "readValue", "(I)Z"⟩, 10) := ⟨⟨by decide +kernel, by decide +kernel⟩, List.mem_of_getElem? (i := 114) (by decide +kernel), List.mem_of_getElem? (i := 738) (by decide +kernel), List.mem_of_getElem? (i := 739) (by decide +kernel)⟩
theorem lw_p9 : lw_okq (⟨"TankBehind$RuleReader", "countOne", "()Z"⟩, 10) := ⟨⟨by decide +kernel, by decide +kernel⟩, List.mem_of_getElem? (i := 114) (by decide +kernel), List.mem_of_getElem? (i := 742) (by decide +kernel), List.mem_of_getElem? (i := 743) (by decide +kernel)⟩
theorem lw_p10 : lw_okq (⟨"TankBehind$RuleReader", "takeSign", "(C)Z"⟩, 10) := ⟨⟨by decide +kernel, by decide +kernel⟩, List.mem_of_getElem? (i := 114) (by decide +kernel), List.mem_of_getElem? (i := 746) (by decide +kernel), List.mem_of_getElem? (i := 747) (by decide +kernel)⟩
theorem lw_p11 : lw_okq (⟨"TankBehind$RuleReader", "takeWord", "(I)Z"⟩, 10) := ⟨⟨by decide +kernel, by decide +kernel⟩, List.mem_of_getElem? (i := 114) (by decide +kernel), List.mem_of_getElem? (i := 750) (by decide +kernel), List.mem_of_getElem? (i := 751) (by decide +kernel)⟩
theorem lw_p12 : lw_okq (⟨"TankBehind$RuleReader", "putCode", "(I)V"⟩, 10) := ⟨⟨by decide +kernel, by decide +kernel⟩, List.mem_of_getElem? (i := 114) (by decide +kernel), List.mem_of_getElem? (i := 754) (by decide +kernel), List.mem_of_getElem? (i := 755) (by decide +kernel)⟩
theorem lw_p13 : lw_okq (⟨"TankBehind$RuleReader", "readTest", "(I)Z"⟩, 10) := ⟨⟨by decide +kernel, by decide +kernel⟩, List.mem_of_getElem? (i := 114) (by decide +kernel), List.mem_of_getElem? (i := 762) (by decide +kernel), List.mem_of_getElem? (i := 763) (by decide +kernel)⟩
theorem lw_p14 : lw_okq (⟨"TankBehind$RuleReader", "readPart", "(I)Z"⟩, 10) := ⟨⟨by decide +kernel, by decide +kernel⟩, List.mem_of_getElem? (i := 114) (by decide +kernel), List.mem_of_getElem? (i := 766) (by decide +kernel), List.mem_of_getElem? (i := 767) (by decide +kernel)⟩
theorem lw_p15 : lw_okq (⟨"TankBehind$RuleReader", "readFact", "(I)Z"⟩, 10) := ⟨⟨by decide +kernel, by decide +kernel⟩, List.mem_of_getElem? (i := 114) (by decide +kernel), List.mem_of_getElem? (i := 770) (by decide +kernel), List.mem_of_getElem? (i := 771) (by decide +kernel)⟩
def lw_privs_1 : List (MethodName × Nat) := [(⟨"TankBehind", "partsOf", "(LTankBehind$Car;I)I"⟩, 15), (⟨"TankBehind$RuleReader", "readClause", "()Z"⟩, 10), (⟨"TankBehind$RuleReader", "wordHere", "()I"⟩, 10), (⟨"TankBehind$RuleReader", "signHere", "()I"⟩, 10), (⟨"TankBehind$RuleReader", "refuse", "(II)Z"⟩, 10), (⟨"TankBehind$RuleReader", "numberHere", "(I)I"⟩, 10), (⟨"TankBehind$RuleReader", "readSum", "(I)Z"⟩, 10), (⟨"TankBehind$RuleReader", "readTerm", "(I)Z"⟩, 10), (⟨"TankBehind$RuleReader", "readValue", "(I)Z"⟩, 10), (⟨"TankBehind$RuleReader", "countOne", "()Z"⟩, 10), (⟨"TankBehind$RuleReader", "takeSign", "(C)Z"⟩, 10), (⟨"TankBehind$RuleReader", "takeWord", "(I)Z"⟩, 10), (⟨"TankBehind$RuleReader", "putCode", "(I)V"⟩, 10), (⟨"TankBehind$RuleReader", "readTest", "(I)Z"⟩, 10), (⟨"TankBehind$RuleReader", "readPart", "(I)Z"⟩, 10), (⟨"TankBehind$RuleReader", "readFact", "(I)Z"⟩, 10)]
theorem lw_r1 : ∀ q ∈ lw_privs_1, lw_okq q := List.forall_mem_cons.mpr ⟨lw_p0, List.forall_mem_cons.mpr ⟨lw_p1, List.forall_mem_cons.mpr ⟨lw_p2, List.forall_mem_cons.mpr ⟨lw_p3, List.forall_mem_cons.mpr ⟨lw_p4, List.forall_mem_cons.mpr ⟨lw_p5, List.forall_mem_cons.mpr ⟨lw_p6, List.forall_mem_cons.mpr ⟨lw_p7, List.forall_mem_cons.mpr ⟨lw_p8, List.forall_mem_cons.mpr ⟨lw_p9, List.forall_mem_cons.mpr ⟨lw_p10, List.forall_mem_cons.mpr ⟨lw_p11, List.forall_mem_cons.mpr ⟨lw_p12, List.forall_mem_cons.mpr ⟨lw_p13, List.forall_mem_cons.mpr ⟨lw_p14, List.forall_mem_cons.mpr ⟨lw_p15, fun _ h => absurd h List.not_mem_nil⟩⟩⟩⟩⟩⟩⟩⟩⟩⟩⟩⟩⟩⟩⟩⟩
theorem lw_p16 : lw_okq (⟨"TankBehind$RuleReader", "readComparison", "(I)Z"⟩, 10) := ⟨⟨by decide +kernel, by decide +kernel⟩, List.mem_of_getElem? (i := 114) (by decide +kernel), List.mem_of_getElem? (i := 774) (by decide +kernel), List.mem_of_getElem? (i := 775) (by decide +kernel)⟩
theorem lw_p17 : lw_okq (⟨"TankBehind$RuleReader", "comparisonHere", "()I"⟩, 10) := ⟨⟨by decide +kernel, by decide +kernel⟩, List.mem_of_getElem? (i := 114) (by decide +kernel), List.mem_of_getElem? (i := 778) (by decide +kernel), List.mem_of_getElem? (i := 779) (by decide +kernel)⟩
theorem lw_p18 : lw_okq (⟨"TankBehind$RuleReader", "keepClause", "(III)V"⟩, 10) := ⟨⟨by decide +kernel, by decide +kernel⟩, List.mem_of_getElem? (i := 114) (by decide +kernel), List.mem_of_getElem? (i := 790) (by decide +kernel), List.mem_of_getElem? (i := 791) (by decide +kernel)⟩
theorem lw_p19 : lw_okq (⟨"TankBehind", "tally", "(I)V"⟩, 15) := ⟨⟨by decide +kernel, by decide +kernel⟩, List.mem_of_getElem? (i := 22) (by decide +kernel), List.mem_of_getElem? (i := 825) (by decide +kernel), List.mem_of_getElem? (i := 826) (by decide +kernel)⟩
theorem lw_p20 : lw_okq (⟨"TankBehind", "mustOf", "(III)I"⟩, 15) := ⟨⟨by decide +kernel, by decide +kernel⟩, List.mem_of_getElem? (i := 22) (by decide +kernel), List.mem_of_getElem? (i := 843) (by decide +kernel), List.mem_of_getElem? (i := 844) (by decide +kernel)⟩
theorem lw_p21 : lw_okq (⟨"TankBehind", "askOfKind", "(III)V"⟩, 15) := ⟨⟨by decide +kernel, by decide +kernel⟩, List.mem_of_getElem? (i := 22) (by decide +kernel), List.mem_of_getElem? (i := 847) (by decide +kernel), List.mem_of_getElem? (i := 848) (by decide +kernel)⟩
theorem lw_p22 : lw_okq (⟨"TankBehind$RuleBook", "work", "([III)J"⟩, 6) := ⟨⟨by decide +kernel, by decide +kernel⟩, List.mem_of_getElem? (i := 157) (by decide +kernel), List.mem_of_getElem? (i := 858) (by decide +kernel), List.mem_of_getElem? (i := 859) (by decide +kernel)⟩
theorem lw_p23 : lw_okq (⟨"TankBehind$RuleBook", "valueOf", "(I)J"⟩, 6) := ⟨⟨by decide +kernel, by decide +kernel⟩, List.mem_of_getElem? (i := 157) (by decide +kernel), List.mem_of_getElem? (i := 863) (by decide +kernel), List.mem_of_getElem? (i := 864) (by decide +kernel)⟩
theorem lw_p24 : lw_okq (⟨"TankBehind$Tests", "isOf", "(III)Z"⟩, 10) := ⟨⟨by decide +kernel, by decide +kernel⟩, List.mem_of_getElem? (i := 186) (by decide +kernel), List.mem_of_getElem? (i := 920) (by decide +kernel), List.mem_of_getElem? (i := 921) (by decide +kernel)⟩
theorem lw_p25 : lw_okq (⟨"TankBehind", "firstKnewFails", "(JII)I"⟩, 15) := ⟨⟨by decide +kernel, by decide +kernel⟩, List.mem_of_getElem? (i := 22) (by decide +kernel), List.mem_of_getElem? (i := 936) (by decide +kernel), List.mem_of_getElem? (i := 937) (by decide +kernel)⟩
theorem lw_p26 : lw_okq (⟨"TankBehind$Crashes", "sortIntoStrata", "(II)V"⟩, 13) := ⟨⟨by decide +kernel, by decide +kernel⟩, List.mem_of_getElem? (i := 224) (by decide +kernel), List.mem_of_getElem? (i := 980) (by decide +kernel), List.mem_of_getElem? (i := 981) (by decide +kernel)⟩
theorem lw_p27 : lw_okq (⟨"TankBehind$Plan", "beginOf", "(I[I)I"⟩, 8) := ⟨⟨by decide +kernel, by decide +kernel⟩, List.mem_of_getElem? (i := 300) (by decide +kernel), List.mem_of_getElem? (i := 1061) (by decide +kernel), List.mem_of_getElem? (i := 1062) (by decide +kernel)⟩
theorem lw_p28 : lw_okq (⟨"TankBehind$Plan", "isBehind", "(II)Z"⟩, 8) := ⟨⟨by decide +kernel, by decide +kernel⟩, List.mem_of_getElem? (i := 300) (by decide +kernel), List.mem_of_getElem? (i := 1065) (by decide +kernel), List.mem_of_getElem? (i := 1066) (by decide +kernel)⟩
theorem lw_p29 : lw_okq (⟨"TankBehind$Recalls", "isLeft", "(ILTankBehind$Car;)Z"⟩, 5) := ⟨⟨by decide +kernel, by decide +kernel⟩, List.mem_of_getElem? (i := 334) (by decide +kernel), List.mem_of_getElem? (i := 1130) (by decide +kernel), List.mem_of_getElem? (i := 1131) (by decide +kernel)⟩
theorem lw_p30 : lw_okq (⟨"TankBehind", "askOfCrash", "(ILTankBehind$Car;)V"⟩, 15) := ⟨⟨by decide +kernel, by decide +kernel⟩, List.mem_of_getElem? (i := 22) (by decide +kernel), List.mem_of_getElem? (i := 1185) (by decide +kernel), List.mem_of_getElem? (i := 1186) (by decide +kernel)⟩
theorem lw_p31 : lw_okq (⟨"TankBehind$Savers", "coinsOf", "(I)I"⟩, 6) := ⟨⟨by decide +kernel, by decide +kernel⟩, List.mem_of_getElem? (i := 358) (by decide +kernel), List.mem_of_getElem? (i := 1226) (by decide +kernel), List.mem_of_getElem? (i := 1227) (by decide +kernel)⟩
def lw_privs_2 : List (MethodName × Nat) := [(⟨"TankBehind$RuleReader", "readComparison", "(I)Z"⟩, 10), (⟨"TankBehind$RuleReader", "comparisonHere", "()I"⟩, 10), (⟨"TankBehind$RuleReader", "keepClause", "(III)V"⟩, 10), (⟨"TankBehind", "tally", "(I)V"⟩, 15), (⟨"TankBehind", "mustOf", "(III)I"⟩, 15), (⟨"TankBehind", "askOfKind", "(III)V"⟩, 15), (⟨"TankBehind$RuleBook", "work", "([III)J"⟩, 6), (⟨"TankBehind$RuleBook", "valueOf", "(I)J"⟩, 6), (⟨"TankBehind$Tests", "isOf", "(III)Z"⟩, 10), (⟨"TankBehind", "firstKnewFails", "(JII)I"⟩, 15), (⟨"TankBehind$Crashes", "sortIntoStrata", "(II)V"⟩, 13), (⟨"TankBehind$Plan", "beginOf", "(I[I)I"⟩, 8), (⟨"TankBehind$Plan", "isBehind", "(II)Z"⟩, 8), (⟨"TankBehind$Recalls", "isLeft", "(ILTankBehind$Car;)Z"⟩, 5), (⟨"TankBehind", "askOfCrash", "(ILTankBehind$Car;)V"⟩, 15), (⟨"TankBehind$Savers", "coinsOf", "(I)I"⟩, 6)]
theorem lw_r2 : ∀ q ∈ lw_privs_2, lw_okq q := List.forall_mem_cons.mpr ⟨lw_p16, List.forall_mem_cons.mpr ⟨lw_p17, List.forall_mem_cons.mpr ⟨lw_p18, List.forall_mem_cons.mpr ⟨lw_p19, List.forall_mem_cons.mpr ⟨lw_p20, List.forall_mem_cons.mpr ⟨lw_p21, List.forall_mem_cons.mpr ⟨lw_p22, List.forall_mem_cons.mpr ⟨lw_p23, List.forall_mem_cons.mpr ⟨lw_p24, List.forall_mem_cons.mpr ⟨lw_p25, List.forall_mem_cons.mpr ⟨lw_p26, List.forall_mem_cons.mpr ⟨lw_p27, List.forall_mem_cons.mpr ⟨lw_p28, List.forall_mem_cons.mpr ⟨lw_p29, List.forall_mem_cons.mpr ⟨lw_p30, List.forall_mem_cons.mpr ⟨lw_p31, fun _ h => absurd h List.not_mem_nil⟩⟩⟩⟩⟩⟩⟩⟩⟩⟩⟩⟩⟩⟩⟩⟩
theorem lw_p32 : lw_okq (⟨"TankBehind$Savers", "livesOf", "(I)I"⟩, 6) := ⟨⟨by decide +kernel, by decide +kernel⟩, List.mem_of_getElem? (i := 358) (by decide +kernel), List.mem_of_getElem? (i := 1230) (by decide +kernel), List.mem_of_getElem? (i := 1231) (by decide +kernel)⟩
theorem lw_p33 : lw_okq (⟨"TankBehindModel", "isKind", "(I)Z"⟩, 96) := ⟨⟨by decide +kernel, by decide +kernel⟩, List.mem_of_getElem? (i := 1242) (by decide +kernel), List.mem_of_getElem? (i := 1574) (by decide +kernel), List.mem_of_getElem? (i := 1575) (by decide +kernel)⟩
theorem lw_p34 : lw_okq (⟨"TankBehindModel", "isPart", "(I)Z"⟩, 96) := ⟨⟨by decide +kernel, by decide +kernel⟩, List.mem_of_getElem? (i := 1242) (by decide +kernel), List.mem_of_getElem? (i := 1578) (by decide +kernel), List.mem_of_getElem? (i := 1579) (by decide +kernel)⟩
theorem lw_p35 : lw_okq (⟨"TankBehindModel", "isPerson", "(I)Z"⟩, 96) := ⟨⟨by decide +kernel, by decide +kernel⟩, List.mem_of_getElem? (i := 1242) (by decide +kernel), List.mem_of_getElem? (i := 1589) (by decide +kernel), List.mem_of_getElem? (i := 1590) (by decide +kernel)⟩
theorem lw_p36 : lw_okq (⟨"TankBehindModel", "isCar", "(I)Z"⟩, 96) := ⟨⟨by decide +kernel, by decide +kernel⟩, List.mem_of_getElem? (i := 1242) (by decide +kernel), List.mem_of_getElem? (i := 1597) (by decide +kernel), List.mem_of_getElem? (i := 1598) (by decide +kernel)⟩
theorem lw_p37 : lw_okq (⟨"TankBehindModel", "ownerIn", "(III)I"⟩, 96) := ⟨⟨by decide +kernel, by decide +kernel⟩, List.mem_of_getElem? (i := 1242) (by decide +kernel), List.mem_of_getElem? (i := 1605) (by decide +kernel), List.mem_of_getElem? (i := 1606) (by decide +kernel)⟩
theorem lw_p38 : lw_okq (⟨"TankBehindModel", "partsOfCar", "(II)I"⟩, 96) := ⟨⟨by decide +kernel, by decide +kernel⟩, List.mem_of_getElem? (i := 1242) (by decide +kernel), List.mem_of_getElem? (i := 1613) (by decide +kernel), List.mem_of_getElem? (i := 1614) (by decide +kernel)⟩
theorem lw_p39 : lw_okq (⟨"TankBehindModel", "partsOf", "(II)I"⟩, 96) := ⟨⟨by decide +kernel, by decide +kernel⟩, List.mem_of_getElem? (i := 1242) (by decide +kernel), List.mem_of_getElem? (i := 1617) (by decide +kernel), List.mem_of_getElem? (i := 1618) (by decide +kernel)⟩
theorem lw_p40 : lw_okq (⟨"TankBehindModel", "forceOf", "(II)I"⟩, 96) := ⟨⟨by decide +kernel, by decide +kernel⟩, List.mem_of_getElem? (i := 1242) (by decide +kernel), List.mem_of_getElem? (i := 1626) (by decide +kernel), List.mem_of_getElem? (i := 1627) (by decide +kernel)⟩
theorem lw_p41 : lw_okq (⟨"TankBehindModel", "burnsIn", "(IIIII)Z"⟩, 96) := ⟨⟨by decide +kernel, by decide +kernel⟩, List.mem_of_getElem? (i := 1242) (by decide +kernel), List.mem_of_getElem? (i := 1634) (by decide +kernel), List.mem_of_getElem? (i := 1635) (by decide +kernel)⟩
theorem lw_p42 : lw_okq (⟨"TankBehindModel", "burnsWith", "(IIII)Z"⟩, 96) := ⟨⟨by decide +kernel, by decide +kernel⟩, List.mem_of_getElem? (i := 1242) (by decide +kernel), List.mem_of_getElem? (i := 1638) (by decide +kernel), List.mem_of_getElem? (i := 1639) (by decide +kernel)⟩
theorem lw_p43 : lw_okq (⟨"TankBehindModel", "put", "(I)V"⟩, 96) := ⟨⟨by decide +kernel, by decide +kernel⟩, List.mem_of_getElem? (i := 1242) (by decide +kernel), List.mem_of_getElem? (i := 1646) (by decide +kernel), List.mem_of_getElem? (i := 1647) (by decide +kernel)⟩
theorem lw_p44 : lw_okq (⟨"TankBehindModel", "clause", "(I)V"⟩, 96) := ⟨⟨by decide +kernel, by decide +kernel⟩, List.mem_of_getElem? (i := 1242) (by decide +kernel), List.mem_of_getElem? (i := 1658) (by decide +kernel), List.mem_of_getElem? (i := 1659) (by decide +kernel)⟩
theorem lw_p45 : lw_okq (⟨"TankBehindModel", "blanks", "()V"⟩, 96) := ⟨⟨by decide +kernel, by decide +kernel⟩, List.mem_of_getElem? (i := 1242) (by decide +kernel), List.mem_of_getElem? (i := 1662) (by decide +kernel), List.mem_of_getElem? (i := 1663) (by decide +kernel)⟩
theorem lw_p46 : lw_okq (⟨"TankBehindModel", "sign", "()I"⟩, 96) := ⟨⟨by decide +kernel, by decide +kernel⟩, List.mem_of_getElem? (i := 1242) (by decide +kernel), List.mem_of_getElem? (i := 1666) (by decide +kernel), List.mem_of_getElem? (i := 1667) (by decide +kernel)⟩
theorem lw_p47 : lw_okq (⟨"TankBehindModel", "stands", "(Ljava/lang/String;)Z"⟩, 96) := ⟨⟨by decide +kernel, by decide +kernel⟩, List.mem_of_getElem? (i := 1242) (by decide +kernel), List.mem_of_getElem? (i := 1677) (by decide +kernel), List.mem_of_getElem? (i := 1678) (by decide +kernel)⟩
def lw_privs_3 : List (MethodName × Nat) := [(⟨"TankBehind$Savers", "livesOf", "(I)I"⟩, 6), (⟨"TankBehindModel", "isKind", "(I)Z"⟩, 96), (⟨"TankBehindModel", "isPart", "(I)Z"⟩, 96), (⟨"TankBehindModel", "isPerson", "(I)Z"⟩, 96), (⟨"TankBehindModel", "isCar", "(I)Z"⟩, 96), (⟨"TankBehindModel", "ownerIn", "(III)I"⟩, 96), (⟨"TankBehindModel", "partsOfCar", "(II)I"⟩, 96), (⟨"TankBehindModel", "partsOf", "(II)I"⟩, 96), (⟨"TankBehindModel", "forceOf", "(II)I"⟩, 96), (⟨"TankBehindModel", "burnsIn", "(IIIII)Z"⟩, 96), (⟨"TankBehindModel", "burnsWith", "(IIII)Z"⟩, 96), (⟨"TankBehindModel", "put", "(I)V"⟩, 96), (⟨"TankBehindModel", "clause", "(I)V"⟩, 96), (⟨"TankBehindModel", "blanks", "()V"⟩, 96), (⟨"TankBehindModel", "sign", "()I"⟩, 96), (⟨"TankBehindModel", "stands", "(Ljava/lang/String;)Z"⟩, 96)]
theorem lw_r3 : ∀ q ∈ lw_privs_3, lw_okq q := List.forall_mem_cons.mpr ⟨lw_p32, List.forall_mem_cons.mpr ⟨lw_p33, List.forall_mem_cons.mpr ⟨lw_p34, List.forall_mem_cons.mpr ⟨lw_p35, List.forall_mem_cons.mpr ⟨lw_p36, List.forall_mem_cons.mpr ⟨lw_p37, List.forall_mem_cons.mpr ⟨lw_p38, List.forall_mem_cons.mpr ⟨lw_p39, List.forall_mem_cons.mpr ⟨lw_p40, List.forall_mem_cons.mpr ⟨lw_p41, List.forall_mem_cons.mpr ⟨lw_p42, List.forall_mem_cons.mpr ⟨lw_p43, List.forall_mem_cons.mpr ⟨lw_p44, List.forall_mem_cons.mpr ⟨lw_p45, List.forall_mem_cons.mpr ⟨lw_p46, List.forall_mem_cons.mpr ⟨lw_p47, fun _ h => absurd h List.not_mem_nil⟩⟩⟩⟩⟩⟩⟩⟩⟩⟩⟩⟩⟩⟩⟩⟩
theorem lw_p48 : lw_okq (⟨"TankBehindModel", "fails", "(II)V"⟩, 96) := ⟨⟨by decide +kernel, by decide +kernel⟩, List.mem_of_getElem? (i := 1242) (by decide +kernel), List.mem_of_getElem? (i := 1683) (by decide +kernel), List.mem_of_getElem? (i := 1684) (by decide +kernel)⟩
theorem lw_p49 : lw_okq (⟨"TankBehindModel", "digits", "(I)I"⟩, 96) := ⟨⟨by decide +kernel, by decide +kernel⟩, List.mem_of_getElem? (i := 1242) (by decide +kernel), List.mem_of_getElem? (i := 1687) (by decide +kernel), List.mem_of_getElem? (i := 1688) (by decide +kernel)⟩
theorem lw_p50 : lw_okq (⟨"TankBehindModel", "reads", "(I)V"⟩, 96) := ⟨⟨by decide +kernel, by decide +kernel⟩, List.mem_of_getElem? (i := 1242) (by decide +kernel), List.mem_of_getElem? (i := 1694) (by decide +kernel), List.mem_of_getElem? (i := 1695) (by decide +kernel)⟩
theorem lw_p51 : lw_okq (⟨"TankBehindModel", "beginsFact", "()V"⟩, 96) := ⟨⟨by decide +kernel, by decide +kernel⟩, List.mem_of_getElem? (i := 1242) (by decide +kernel), List.mem_of_getElem? (i := 1698) (by decide +kernel), List.mem_of_getElem? (i := 1699) (by decide +kernel)⟩
theorem lw_p52 : lw_okq (⟨"TankBehindModel", "opensDeep", "(II)V"⟩, 96) := ⟨⟨by decide +kernel, by decide +kernel⟩, List.mem_of_getElem? (i := 1242) (by decide +kernel), List.mem_of_getElem? (i := 1703) (by decide +kernel), List.mem_of_getElem? (i := 1704) (by decide +kernel)⟩
theorem lw_p53 : lw_okq (⟨"TankBehindModel", "opens", "(I)V"⟩, 96) := ⟨⟨by decide +kernel, by decide +kernel⟩, List.mem_of_getElem? (i := 1242) (by decide +kernel), List.mem_of_getElem? (i := 1707) (by decide +kernel), List.mem_of_getElem? (i := 1708) (by decide +kernel)⟩
theorem lw_p54 : lw_okq (⟨"TankBehindModel", "value", "()V"⟩, 96) := ⟨⟨by decide +kernel, by decide +kernel⟩, List.mem_of_getElem? (i := 1242) (by decide +kernel), List.mem_of_getElem? (i := 1711) (by decide +kernel), List.mem_of_getElem? (i := 1712) (by decide +kernel)⟩
theorem lw_p55 : lw_okq (⟨"TankBehindModel", "counts", "(I)V"⟩, 96) := ⟨⟨by decide +kernel, by decide +kernel⟩, List.mem_of_getElem? (i := 1242) (by decide +kernel), List.mem_of_getElem? (i := 1715) (by decide +kernel), List.mem_of_getElem? (i := 1716) (by decide +kernel)⟩
theorem lw_p56 : lw_okq (⟨"TankBehindModel", "entry", "(II)V"⟩, 96) := ⟨⟨by decide +kernel, by decide +kernel⟩, List.mem_of_getElem? (i := 1242) (by decide +kernel), List.mem_of_getElem? (i := 1720) (by decide +kernel), List.mem_of_getElem? (i := 1721) (by decide +kernel)⟩
theorem lw_p57 : lw_okq (⟨"TankBehindModel", "behindValue", "()V"⟩, 96) := ⟨⟨by decide +kernel, by decide +kernel⟩, List.mem_of_getElem? (i := 1242) (by decide +kernel), List.mem_of_getElem? (i := 1739) (by decide +kernel), List.mem_of_getElem? (i := 1740) (by decide +kernel)⟩
theorem lw_p58 : lw_okq (⟨"TankBehindModel", "makesProducts", "()V"⟩, 96) := ⟨⟨by decide +kernel, by decide +kernel⟩, List.mem_of_getElem? (i := 1242) (by decide +kernel), List.mem_of_getElem? (i := 1743) (by decide +kernel), List.mem_of_getElem? (i := 1744) (by decide +kernel)⟩
theorem lw_p59 : lw_okq (⟨"TankBehindModel", "top", "()I"⟩, 96) := ⟨⟨by decide +kernel, by decide +kernel⟩, List.mem_of_getElem? (i := 1242) (by decide +kernel), List.mem_of_getElem? (i := 1747) (by decide +kernel), List.mem_of_getElem? (i := 1748) (by decide +kernel)⟩
theorem lw_p60 : lw_okq (⟨"TankBehindModel", "makesSums", "()V"⟩, 96) := ⟨⟨by decide +kernel, by decide +kernel⟩, List.mem_of_getElem? (i := 1242) (by decide +kernel), List.mem_of_getElem? (i := 1751) (by decide +kernel), List.mem_of_getElem? (i := 1752) (by decide +kernel)⟩
theorem lw_p61 : lw_okq (⟨"TankBehindModel", "closesRound", "(I)V"⟩, 96) := ⟨⟨by decide +kernel, by decide +kernel⟩, List.mem_of_getElem? (i := 1242) (by decide +kernel), List.mem_of_getElem? (i := 1755) (by decide +kernel), List.mem_of_getElem? (i := 1756) (by decide +kernel)⟩
theorem lw_p62 : lw_okq (⟨"TankBehindModel", "compares", "()I"⟩, 96) := ⟨⟨by decide +kernel, by decide +kernel⟩, List.mem_of_getElem? (i := 1242) (by decide +kernel), List.mem_of_getElem? (i := 1759) (by decide +kernel), List.mem_of_getElem? (i := 1760) (by decide +kernel)⟩
theorem lw_p63 : lw_okq (⟨"TankBehindModel", "behindFact", "()V"⟩, 96) := ⟨⟨by decide +kernel, by decide +kernel⟩, List.mem_of_getElem? (i := 1242) (by decide +kernel), List.mem_of_getElem? (i := 1763) (by decide +kernel), List.mem_of_getElem? (i := 1764) (by decide +kernel)⟩
def lw_privs_4 : List (MethodName × Nat) := [(⟨"TankBehindModel", "fails", "(II)V"⟩, 96), (⟨"TankBehindModel", "digits", "(I)I"⟩, 96), (⟨"TankBehindModel", "reads", "(I)V"⟩, 96), (⟨"TankBehindModel", "beginsFact", "()V"⟩, 96), (⟨"TankBehindModel", "opensDeep", "(II)V"⟩, 96), (⟨"TankBehindModel", "opens", "(I)V"⟩, 96), (⟨"TankBehindModel", "value", "()V"⟩, 96), (⟨"TankBehindModel", "counts", "(I)V"⟩, 96), (⟨"TankBehindModel", "entry", "(II)V"⟩, 96), (⟨"TankBehindModel", "behindValue", "()V"⟩, 96), (⟨"TankBehindModel", "makesProducts", "()V"⟩, 96), (⟨"TankBehindModel", "top", "()I"⟩, 96), (⟨"TankBehindModel", "makesSums", "()V"⟩, 96), (⟨"TankBehindModel", "closesRound", "(I)V"⟩, 96), (⟨"TankBehindModel", "compares", "()I"⟩, 96), (⟨"TankBehindModel", "behindFact", "()V"⟩, 96)]
theorem lw_r4 : ∀ q ∈ lw_privs_4, lw_okq q := List.forall_mem_cons.mpr ⟨lw_p48, List.forall_mem_cons.mpr ⟨lw_p49, List.forall_mem_cons.mpr ⟨lw_p50, List.forall_mem_cons.mpr ⟨lw_p51, List.forall_mem_cons.mpr ⟨lw_p52, List.forall_mem_cons.mpr ⟨lw_p53, List.forall_mem_cons.mpr ⟨lw_p54, List.forall_mem_cons.mpr ⟨lw_p55, List.forall_mem_cons.mpr ⟨lw_p56, List.forall_mem_cons.mpr ⟨lw_p57, List.forall_mem_cons.mpr ⟨lw_p58, List.forall_mem_cons.mpr ⟨lw_p59, List.forall_mem_cons.mpr ⟨lw_p60, List.forall_mem_cons.mpr ⟨lw_p61, List.forall_mem_cons.mpr ⟨lw_p62, List.forall_mem_cons.mpr ⟨lw_p63, fun _ h => absurd h List.not_mem_nil⟩⟩⟩⟩⟩⟩⟩⟩⟩⟩⟩⟩⟩⟩⟩⟩
theorem lw_p64 : lw_okq (⟨"TankBehindModel", "makesNots", "()V"⟩, 96) := ⟨⟨by decide +kernel, by decide +kernel⟩, List.mem_of_getElem? (i := 1242) (by decide +kernel), List.mem_of_getElem? (i := 1767) (by decide +kernel), List.mem_of_getElem? (i := 1768) (by decide +kernel)⟩
theorem lw_p65 : lw_okq (⟨"TankBehindModel", "makesAnds", "()V"⟩, 96) := ⟨⟨by decide +kernel, by decide +kernel⟩, List.mem_of_getElem? (i := 1242) (by decide +kernel), List.mem_of_getElem? (i := 1772) (by decide +kernel), List.mem_of_getElem? (i := 1773) (by decide +kernel)⟩
theorem lw_p66 : lw_okq (⟨"TankBehindModel", "makesOrs", "()V"⟩, 96) := ⟨⟨by decide +kernel, by decide +kernel⟩, List.mem_of_getElem? (i := 1242) (by decide +kernel), List.mem_of_getElem? (i := 1777) (by decide +kernel), List.mem_of_getElem? (i := 1778) (by decide +kernel)⟩
theorem lw_p67 : lw_okq (⟨"TankBehindModel", "inForceIn", "(I)I"⟩, 96) := ⟨⟨by decide +kernel, by decide +kernel⟩, List.mem_of_getElem? (i := 1242) (by decide +kernel), List.mem_of_getElem? (i := 1786) (by decide +kernel), List.mem_of_getElem? (i := 1787) (by decide +kernel)⟩
theorem lw_p68 : lw_okq (⟨"TankBehindModel", "isAsked", "(III)Z"⟩, 96) := ⟨⟨by decide +kernel, by decide +kernel⟩, List.mem_of_getElem? (i := 1242) (by decide +kernel), List.mem_of_getElem? (i := 1794) (by decide +kernel), List.mem_of_getElem? (i := 1795) (by decide +kernel)⟩
theorem lw_p69 : lw_okq (⟨"TankBehindModel", "mustOf", "(III)I"⟩, 96) := ⟨⟨by decide +kernel, by decide +kernel⟩, List.mem_of_getElem? (i := 1242) (by decide +kernel), List.mem_of_getElem? (i := 1798) (by decide +kernel), List.mem_of_getElem? (i := 1799) (by decide +kernel)⟩
theorem lw_p70 : lw_okq (⟨"TankBehindModel", "asks", "(III)V"⟩, 96) := ⟨⟨by decide +kernel, by decide +kernel⟩, List.mem_of_getElem? (i := 1242) (by decide +kernel), List.mem_of_getElem? (i := 1802) (by decide +kernel), List.mem_of_getElem? (i := 1803) (by decide +kernel)⟩
theorem lw_p71 : lw_okq (⟨"TankBehindModel", "tells", "(III)I"⟩, 96) := ⟨⟨by decide +kernel, by decide +kernel⟩, List.mem_of_getElem? (i := 1242) (by decide +kernel), List.mem_of_getElem? (i := 1806) (by decide +kernel), List.mem_of_getElem? (i := 1807) (by decide +kernel)⟩
theorem lw_p72 : lw_okq (⟨"TankBehindModel", "answer", "(III)J"⟩, 96) := ⟨⟨by decide +kernel, by decide +kernel⟩, List.mem_of_getElem? (i := 1242) (by decide +kernel), List.mem_of_getElem? (i := 1810) (by decide +kernel), List.mem_of_getElem? (i := 1811) (by decide +kernel)⟩
theorem lw_p73 : lw_okq (⟨"TankBehindModel", "knewOf", "(IIIIZ)I"⟩, 96) := ⟨⟨by decide +kernel, by decide +kernel⟩, List.mem_of_getElem? (i := 1242) (by decide +kernel), List.mem_of_getElem? (i := 1840) (by decide +kernel), List.mem_of_getElem? (i := 1841) (by decide +kernel)⟩
theorem lw_p74 : lw_okq (⟨"TankBehindModel", "knewThatItFails", "(III)I"⟩, 96) := ⟨⟨by decide +kernel, by decide +kernel⟩, List.mem_of_getElem? (i := 1242) (by decide +kernel), List.mem_of_getElem? (i := 1848) (by decide +kernel), List.mem_of_getElem? (i := 1849) (by decide +kernel)⟩
theorem lw_p75 : lw_okq (⟨"TankBehindModel", "isMemo", "(I)Z"⟩, 96) := ⟨⟨by decide +kernel, by decide +kernel⟩, List.mem_of_getElem? (i := 1242) (by decide +kernel), List.mem_of_getElem? (i := 1876) (by decide +kernel), List.mem_of_getElem? (i := 1877) (by decide +kernel)⟩
theorem lw_p76 : lw_okq (⟨"TankBehindModel", "sumOf", "(III)J"⟩, 96) := ⟨⟨by decide +kernel, by decide +kernel⟩, List.mem_of_getElem? (i := 1242) (by decide +kernel), List.mem_of_getElem? (i := 1886) (by decide +kernel), List.mem_of_getElem? (i := 1887) (by decide +kernel)⟩
theorem lw_p77 : lw_okq (⟨"TankBehindModel", "goes", "(I)I"⟩, 96) := ⟨⟨by decide +kernel, by decide +kernel⟩, List.mem_of_getElem? (i := 1242) (by decide +kernel), List.mem_of_getElem? (i := 1916) (by decide +kernel), List.mem_of_getElem? (i := 1917) (by decide +kernel)⟩
theorem lw_p78 : lw_okq (⟨"TankBehindModel", "slack", "(I)I"⟩, 96) := ⟨⟨by decide +kernel, by decide +kernel⟩, List.mem_of_getElem? (i := 1242) (by decide +kernel), List.mem_of_getElem? (i := 1920) (by decide +kernel), List.mem_of_getElem? (i := 1921) (by decide +kernel)⟩
theorem lw_p79 : lw_okq (⟨"TankBehindModel", "costs", "(II)I"⟩, 96) := ⟨⟨by decide +kernel, by decide +kernel⟩, List.mem_of_getElem? (i := 1242) (by decide +kernel), List.mem_of_getElem? (i := 1932) (by decide +kernel), List.mem_of_getElem? (i := 1933) (by decide +kernel)⟩
def lw_privs_5 : List (MethodName × Nat) := [(⟨"TankBehindModel", "makesNots", "()V"⟩, 96), (⟨"TankBehindModel", "makesAnds", "()V"⟩, 96), (⟨"TankBehindModel", "makesOrs", "()V"⟩, 96), (⟨"TankBehindModel", "inForceIn", "(I)I"⟩, 96), (⟨"TankBehindModel", "isAsked", "(III)Z"⟩, 96), (⟨"TankBehindModel", "mustOf", "(III)I"⟩, 96), (⟨"TankBehindModel", "asks", "(III)V"⟩, 96), (⟨"TankBehindModel", "tells", "(III)I"⟩, 96), (⟨"TankBehindModel", "answer", "(III)J"⟩, 96), (⟨"TankBehindModel", "knewOf", "(IIIIZ)I"⟩, 96), (⟨"TankBehindModel", "knewThatItFails", "(III)I"⟩, 96), (⟨"TankBehindModel", "isMemo", "(I)Z"⟩, 96), (⟨"TankBehindModel", "sumOf", "(III)J"⟩, 96), (⟨"TankBehindModel", "goes", "(I)I"⟩, 96), (⟨"TankBehindModel", "slack", "(I)I"⟩, 96), (⟨"TankBehindModel", "costs", "(II)I"⟩, 96)]
theorem lw_r5 : ∀ q ∈ lw_privs_5, lw_okq q := List.forall_mem_cons.mpr ⟨lw_p64, List.forall_mem_cons.mpr ⟨lw_p65, List.forall_mem_cons.mpr ⟨lw_p66, List.forall_mem_cons.mpr ⟨lw_p67, List.forall_mem_cons.mpr ⟨lw_p68, List.forall_mem_cons.mpr ⟨lw_p69, List.forall_mem_cons.mpr ⟨lw_p70, List.forall_mem_cons.mpr ⟨lw_p71, List.forall_mem_cons.mpr ⟨lw_p72, List.forall_mem_cons.mpr ⟨lw_p73, List.forall_mem_cons.mpr ⟨lw_p74, List.forall_mem_cons.mpr ⟨lw_p75, List.forall_mem_cons.mpr ⟨lw_p76, List.forall_mem_cons.mpr ⟨lw_p77, List.forall_mem_cons.mpr ⟨lw_p78, List.forall_mem_cons.mpr ⟨lw_p79, fun _ h => absurd h List.not_mem_nil⟩⟩⟩⟩⟩⟩⟩⟩⟩⟩⟩⟩⟩⟩⟩⟩
theorem lw_p80 : lw_okq (⟨"TankBehindModel", "isCall", "(I)Z"⟩, 96) := ⟨⟨by decide +kernel, by decide +kernel⟩, List.mem_of_getElem? (i := 1242) (by decide +kernel), List.mem_of_getElem? (i := 1948) (by decide +kernel), List.mem_of_getElem? (i := 1949) (by decide +kernel)⟩
theorem lw_p81 : lw_okq (⟨"TankBehindModel", "isLeft", "(II)Z"⟩, 96) := ⟨⟨by decide +kernel, by decide +kernel⟩, List.mem_of_getElem? (i := 1242) (by decide +kernel), List.mem_of_getElem? (i := 1952) (by decide +kernel), List.mem_of_getElem? (i := 1953) (by decide +kernel)⟩
theorem lw_p82 : lw_okq (⟨"TankBehindModel", "isOf", "(II)Z"⟩, 96) := ⟨⟨by decide +kernel, by decide +kernel⟩, List.mem_of_getElem? (i := 1242) (by decide +kernel), List.mem_of_getElem? (i := 1956) (by decide +kernel), List.mem_of_getElem? (i := 1957) (by decide +kernel)⟩
def lw_privs_6 : List (MethodName × Nat) := [(⟨"TankBehindModel", "isCall", "(I)Z"⟩, 96), (⟨"TankBehindModel", "isLeft", "(II)Z"⟩, 96), (⟨"TankBehindModel", "isOf", "(II)Z"⟩, 96)]
theorem lw_r6 : ∀ q ∈ lw_privs_6, lw_okq q := List.forall_mem_cons.mpr ⟨lw_p80, List.forall_mem_cons.mpr ⟨lw_p81, List.forall_mem_cons.mpr ⟨lw_p82, fun _ h => absurd h List.not_mem_nil⟩⟩⟩
def lw_privs : List (MethodName × Nat) := lw_privs_1 ++ (lw_privs_2 ++ (lw_privs_3 ++ (lw_privs_4 ++ (lw_privs_5 ++ (lw_privs_6)))))
def lw_tbl : List Cond := k2_sels lw_privs ++ tables_1
theorem lw_privs_ok : ∀ q ∈ lw_privs, lw_okq q := by
  show ∀ q ∈ lw_privs_1 ++ (lw_privs_2 ++ (lw_privs_3 ++ (lw_privs_4 ++ (lw_privs_5 ++ (lw_privs_6))))), lw_okq q
  exact List.forall_mem_append.mpr ⟨lw_r1, List.forall_mem_append.mpr ⟨lw_r2, List.forall_mem_append.mpr ⟨lw_r3, List.forall_mem_append.mpr ⟨lw_r4, List.forall_mem_append.mpr ⟨lw_r5, lw_r6⟩⟩⟩⟩⟩
end
section
def RX0 : String := "TankBehind$Car"
def TX0 : u_T := fun k => match k with
  | 0 => ("TankBehind$Car", "kind", "I", true)
  | 1 => ("TankBehind$Car", "made", "I", true)
  | 2 => ("TankBehind$Car", "told", "I", true)
  | 3 => ("TankBehind$Car", "firstOwner", "I", true)
  | 4 => ("TankBehind$Car", "owner", "I", false)
  | 5 => ("TankBehind$Car", "sold", "I", false)
  | 6 => ("TankBehind$Car", "crashed", "I", false)
  | 7 => ("TankBehind$Car", "wrecked", "Z", false)
  | 8 => ("TankBehind$Car", "reachedBits", "I", false)
  | 9 => ("TankBehind$Car", "mendedBits", "I", false)
  | _ => ("TankBehind$Car", "partFrom", "[I", true)
def tyX0 : Nat → FieldType := fun k => match k with
  | 0 => .int
  | 1 => .int
  | 2 => .int
  | 3 => .int
  | 4 => .int
  | 5 => .int
  | 6 => .int
  | 7 => .boolean
  | 8 => .int
  | 9 => .int
  | _ => .array .int
theorem nmX0 : ∀ a, a < 11 → ∀ b, b < 11 → a ≠ b → (TX0 a).2.1 ≠ (TX0 b).2.1 := by decide +kernel
theorem tyX0_ok : ∀ k, k < 11 → parseFieldDescriptor (TX0 k).2.2.1 = some (tyX0 k) := by decide +kernel
def RX1 : String := "TankBehind$Crashes"
def TX1 : u_T := fun k => match k with
  | 0 => ("TankBehind$Crashes", "cars", "[I", true)
  | 1 => ("TankBehind$Crashes", "kinds", "[I", true)
  | 2 => ("TankBehind$Crashes", "months", "[I", true)
  | 3 => ("TankBehind$Crashes", "told", "[I", true)
  | 4 => ("TankBehind$Crashes", "sorts", "[I", true)
  | 5 => ("TankBehind$Crashes", "speeds", "[I", true)
  | 6 => ("TankBehind$Crashes", "dead", "[I", true)
  | 7 => ("TankBehind$Crashes", "burned", "[Z", true)
  | 8 => ("TankBehind$Crashes", "crashes", "I", false)
  | 9 => ("TankBehind$Crashes", "ownCrashes", "[I", true)
  | 10 => ("TankBehind$Crashes", "ownFires", "[I", true)
  | 11 => ("TankBehind$Crashes", "otherCrashes", "[I", true)
  | _ => ("TankBehind$Crashes", "otherFires", "[I", true)
def tyX1 : Nat → FieldType := fun k => match k with
  | 0 => .array .int
  | 1 => .array .int
  | 2 => .array .int
  | 3 => .array .int
  | 4 => .array .int
  | 5 => .array .int
  | 6 => .array .int
  | 7 => .array .boolean
  | 8 => .int
  | 9 => .array .int
  | 10 => .array .int
  | 11 => .array .int
  | _ => .array .int
theorem nmX1 : ∀ a, a < 13 → ∀ b, b < 13 → a ≠ b → (TX1 a).2.1 ≠ (TX1 b).2.1 := by decide +kernel
theorem tyX1_ok : ∀ k, k < 13 → parseFieldDescriptor (TX1 k).2.2.1 = some (tyX1 k) := by decide +kernel
def RX2 : String := "TankBehind$Fleet"
def TX2 : u_T := fun k => match k with
  | 0 => ("TankBehind$Fleet", "employers", "[I", true)
  | 1 => ("TankBehind$Fleet", "moved", "[Z", true)
  | 2 => ("TankBehind$Fleet", "people", "I", false)
  | 3 => ("TankBehind$Fleet", "list", "[LTankBehind$Car;", true)
  | 4 => ("TankBehind$Fleet", "cars", "I", false)
  | 5 => ("TankBehind$Fleet", "saleCars", "[I", true)
  | 6 => ("TankBehind$Fleet", "buyers", "[I", true)
  | 7 => ("TankBehind$Fleet", "saleMonths", "[I", true)
  | 8 => ("TankBehind$Fleet", "saleTold", "[I", true)
  | _ => ("TankBehind$Fleet", "sales", "I", false)
def tyX2 : Nat → FieldType := fun k => match k with
  | 0 => .array .int
  | 1 => .array .boolean
  | 2 => .int
  | 3 => .array (.object "TankBehind$Car")
  | 4 => .int
  | 5 => .array .int
  | 6 => .array .int
  | 7 => .array .int
  | 8 => .array .int
  | _ => .int
theorem nmX2 : ∀ a, a < 10 → ∀ b, b < 10 → a ≠ b → (TX2 a).2.1 ≠ (TX2 b).2.1 := by decide +kernel
theorem tyX2_ok : ∀ k, k < 10 → parseFieldDescriptor (TX2 k).2.2.1 = some (tyX2 k) := by decide +kernel
def RX3 : String := "TankBehind$Makes"
def TX3 : u_T := fun k => match k with
  | 0 => ("TankBehind$Makes", "factors", "[I", true)
  | 1 => ("TankBehind$Makes", "firms", "[I", true)
  | 2 => ("TankBehind$Makes", "bears", "[[I", true)
  | 3 => ("TankBehind$Makes", "coins", "[I", true)
  | 4 => ("TankBehind$Makes", "adds", "[[I", true)
  | 5 => ("TankBehind$Makes", "fitted", "[[I", true)
  | 6 => ("TankBehind$Makes", "kinds", "I", false)
  | _ => ("TankBehind$Makes", "parts", "I", false)
def tyX3 : Nat → FieldType := fun k => match k with
  | 0 => .array .int
  | 1 => .array .int
  | 2 => .array (.array .int)
  | 3 => .array .int
  | 4 => .array (.array .int)
  | 5 => .array (.array .int)
  | 6 => .int
  | _ => .int
theorem nmX3 : ∀ a, a < 8 → ∀ b, b < 8 → a ≠ b → (TX3 a).2.1 ≠ (TX3 b).2.1 := by decide +kernel
theorem tyX3_ok : ∀ k, k < 8 → parseFieldDescriptor (TX3 k).2.2.1 = some (tyX3 k) := by decide +kernel
def RX4 : String := "TankBehind$Memos"
def TX4 : u_T := fun k => match k with
  | 0 => ("TankBehind$Memos", "memos", "I", false)
  | 1 => ("TankBehind$Memos", "rows", "[I", true)
  | 2 => ("TankBehind$Memos", "saved", "[Z", true)
  | 3 => ("TankBehind$Memos", "counts", "[I", true)
  | _ => ("TankBehind$Memos", "coins", "[I", true)
def tyX4 : Nat → FieldType := fun k => match k with
  | 0 => .int
  | 1 => .array .int
  | 2 => .array .boolean
  | 3 => .array .int
  | _ => .array .int
theorem nmX4 : ∀ a, a < 5 → ∀ b, b < 5 → a ≠ b → (TX4 a).2.1 ≠ (TX4 b).2.1 := by decide +kernel
theorem tyX4_ok : ∀ k, k < 5 → parseFieldDescriptor (TX4 k).2.2.1 = some (tyX4 k) := by decide +kernel
def RX5 : String := "TankBehind$Plan"
def TX5 : u_T := fun k => match k with
  | 0 => ("TankBehind$Plan", "months", "[I", true)
  | 1 => ("TankBehind$Plan", "firms", "[I", true)
  | 2 => ("TankBehind$Plan", "behind", "[I", true)
  | 3 => ("TankBehind$Plan", "coins", "[I", true)
  | 4 => ("TankBehind$Plan", "begins", "[I", true)
  | 5 => ("TankBehind$Plan", "ends", "[I", true)
  | 6 => ("TankBehind$Plan", "others", "[I", true)
  | _ => ("TankBehind$Plan", "steps", "I", false)
def tyX5 : Nat → FieldType := fun k => match k with
  | 0 => .array .int
  | 1 => .array .int
  | 2 => .array .int
  | 3 => .array .int
  | 4 => .array .int
  | 5 => .array .int
  | 6 => .array .int
  | _ => .int
theorem nmX5 : ∀ a, a < 8 → ∀ b, b < 8 → a ≠ b → (TX5 a).2.1 ≠ (TX5 b).2.1 := by decide +kernel
theorem tyX5_ok : ∀ k, k < 8 → parseFieldDescriptor (TX5 k).2.2.1 = some (tyX5 k) := by decide +kernel
def RX6 : String := "TankBehind$Recalls"
def TX6 : u_T := fun k => match k with
  | 0 => ("TankBehind$Recalls", "kinds", "[I", true)
  | 1 => ("TankBehind$Recalls", "firsts", "[I", true)
  | 2 => ("TankBehind$Recalls", "lasts", "[I", true)
  | 3 => ("TankBehind$Recalls", "parts", "[I", true)
  | _ => ("TankBehind$Recalls", "calls", "I", false)
def tyX6 : Nat → FieldType := fun k => match k with
  | 0 => .array .int
  | 1 => .array .int
  | 2 => .array .int
  | 3 => .array .int
  | _ => .int
theorem nmX6 : ∀ a, a < 5 → ∀ b, b < 5 → a ≠ b → (TX6 a).2.1 ≠ (TX6 b).2.1 := by decide +kernel
theorem tyX6_ok : ∀ k, k < 5 → parseFieldDescriptor (TX6 k).2.2.1 = some (tyX6 k) := by decide +kernel
def RX7 : String := "TankBehind$RuleBook"
def TX7 : u_T := fun k => match k with
  | 0 => ("TankBehind$RuleBook", "froms", "[I", true)
  | 1 => ("TankBehind$RuleBook", "codes", "[[I", true)
  | 2 => ("TankBehind$RuleBook", "clauses", "[[I", true)
  | 3 => ("TankBehind$RuleBook", "rules", "I", false)
  | 4 => ("TankBehind$RuleBook", "words", "[J", true)
  | _ => ("TankBehind$RuleBook", "stack", "[J", true)
def tyX7 : Nat → FieldType := fun k => match k with
  | 0 => .array .int
  | 1 => .array (.array .int)
  | 2 => .array (.array .int)
  | 3 => .int
  | 4 => .array .long
  | _ => .array .long
theorem nmX7 : ∀ a, a < 6 → ∀ b, b < 6 → a ≠ b → (TX7 a).2.1 ≠ (TX7 b).2.1 := by decide +kernel
theorem tyX7_ok : ∀ k, k < 6 → parseFieldDescriptor (TX7 k).2.2.1 = some (tyX7 k) := by decide +kernel
def RX8 : String := "TankBehind$RuleReader"
def TX8 : u_T := fun k => match k with
  | 0 => ("TankBehind$RuleReader", "tape", "[B", true)
  | 1 => ("TankBehind$RuleReader", "length", "I", false)
  | 2 => ("TankBehind$RuleReader", "place", "I", false)
  | 3 => ("TankBehind$RuleReader", "wordEnd", "I", false)
  | 4 => ("TankBehind$RuleReader", "codes", "[I", true)
  | 5 => ("TankBehind$RuleReader", "codeCount", "I", false)
  | 6 => ("TankBehind$RuleReader", "clauses", "[I", true)
  | 7 => ("TankBehind$RuleReader", "clauseCount", "I", false)
  | 8 => ("TankBehind$RuleReader", "counted", "I", false)
  | _ => ("TankBehind$RuleReader", "fault", "I", false)
def tyX8 : Nat → FieldType := fun k => match k with
  | 0 => .array .byte
  | 1 => .int
  | 2 => .int
  | 3 => .int
  | 4 => .array .int
  | 5 => .int
  | 6 => .array .int
  | 7 => .int
  | 8 => .int
  | _ => .int
theorem nmX8 : ∀ a, a < 10 → ∀ b, b < 10 → a ≠ b → (TX8 a).2.1 ≠ (TX8 b).2.1 := by decide +kernel
theorem tyX8_ok : ∀ k, k < 10 → parseFieldDescriptor (TX8 k).2.2.1 = some (tyX8 k) := by decide +kernel
def RX9 : String := "TankBehind$Savers"
def TX9 : u_T := fun k => match k with
  | 0 => ("TankBehind$Savers", "coins", "[I", true)
  | 1 => ("TankBehind$Savers", "lives", "[I", true)
  | 2 => ("TankBehind$Savers", "overlaps", "[[I", true)
  | 3 => ("TankBehind$Savers", "savers", "I", false)
  | 4 => ("TankBehind$Savers", "bestSet", "I", false)
  | _ => ("TankBehind$Savers", "bestCoins", "I", false)
def tyX9 : Nat → FieldType := fun k => match k with
  | 0 => .array .int
  | 1 => .array .int
  | 2 => .array (.array .int)
  | 3 => .int
  | 4 => .int
  | _ => .int
theorem nmX9 : ∀ a, a < 6 → ∀ b, b < 6 → a ≠ b → (TX9 a).2.1 ≠ (TX9 b).2.1 := by decide +kernel
theorem tyX9_ok : ∀ k, k < 6 → parseFieldDescriptor (TX9 k).2.2.1 = some (tyX9 k) := by decide +kernel
def RX10 : String := "TankBehind$Tests"
def TX10 : u_T := fun k => match k with
  | 0 => ("TankBehind$Tests", "kinds", "[I", true)
  | 1 => ("TankBehind$Tests", "sorts", "[I", true)
  | 2 => ("TankBehind$Tests", "speeds", "[I", true)
  | 3 => ("TankBehind$Tests", "burned", "[Z", true)
  | 4 => ("TankBehind$Tests", "readers", "[J", true)
  | 5 => ("TankBehind$Tests", "tests", "I", false)
  | 6 => ("TankBehind$Tests", "readTests", "[I", true)
  | 7 => ("TankBehind$Tests", "readBy", "[I", true)
  | 8 => ("TankBehind$Tests", "readIn", "[I", true)
  | _ => ("TankBehind$Tests", "readings", "I", false)
def tyX10 : Nat → FieldType := fun k => match k with
  | 0 => .array .int
  | 1 => .array .int
  | 2 => .array .int
  | 3 => .array .boolean
  | 4 => .array .long
  | 5 => .int
  | 6 => .array .int
  | 7 => .array .int
  | 8 => .array .int
  | _ => .int
theorem nmX10 : ∀ a, a < 10 → ∀ b, b < 10 → a ≠ b → (TX10 a).2.1 ≠ (TX10 b).2.1 := by decide +kernel
theorem tyX10_ok : ∀ k, k < 10 → parseFieldDescriptor (TX10 k).2.2.1 = some (tyX10 k) := by decide +kernel
def RX11 : String := "TankBehind"
def TX11 : u_T := fun k => match k with
  | 0 => ("TankBehind", "makes", "LTankBehind$Makes;", true)
  | 1 => ("TankBehind", "fleet", "LTankBehind$Fleet;", true)
  | 2 => ("TankBehind", "reader", "LTankBehind$RuleReader;", true)
  | 3 => ("TankBehind", "book", "LTankBehind$RuleBook;", true)
  | 4 => ("TankBehind", "tests", "LTankBehind$Tests;", true)
  | 5 => ("TankBehind", "crashes", "LTankBehind$Crashes;", true)
  | 6 => ("TankBehind", "memos", "LTankBehind$Memos;", true)
  | 7 => ("TankBehind", "plan", "LTankBehind$Plan;", true)
  | 8 => ("TankBehind", "recalls", "LTankBehind$Recalls;", true)
  | 9 => ("TankBehind", "savers", "LTankBehind$Savers;", true)
  | 10 => ("TankBehind", "carsBy", "[I", true)
  | 11 => ("TankBehind", "firesBy", "[I", true)
  | 12 => ("TankBehind", "deathsBy", "[I", true)
  | 13 => ("TankBehind", "leastBy", "[I", true)
  | _ => ("TankBehind", "now", "I", false)
def tyX11 : Nat → FieldType := fun k => match k with
  | 0 => .object "TankBehind$Makes"
  | 1 => .object "TankBehind$Fleet"
  | 2 => .object "TankBehind$RuleReader"
  | 3 => .object "TankBehind$RuleBook"
  | 4 => .object "TankBehind$Tests"
  | 5 => .object "TankBehind$Crashes"
  | 6 => .object "TankBehind$Memos"
  | 7 => .object "TankBehind$Plan"
  | 8 => .object "TankBehind$Recalls"
  | 9 => .object "TankBehind$Savers"
  | 10 => .array .int
  | 11 => .array .int
  | 12 => .array .int
  | 13 => .array .int
  | _ => .int
theorem nmX11 : ∀ a, a < 15 → ∀ b, b < 15 → a ≠ b → (TX11 a).2.1 ≠ (TX11 b).2.1 := by decide +kernel
theorem tyX11_ok : ∀ k, k < 15 → parseFieldDescriptor (TX11 k).2.2.1 = some (tyX11 k) := by decide +kernel
def RX12 : String := "TankBehindModel"
def TX12 : u_T := fun k => match k with
  | 0 => ("TankBehindModel", "thrown", "I", false)
  | 1 => ("TankBehindModel", "now", "I", false)
  | 2 => ("TankBehindModel", "persons", "I", false)
  | 3 => ("TankBehindModel", "kinds", "I", false)
  | 4 => ("TankBehindModel", "parts", "I", false)
  | 5 => ("TankBehindModel", "cars", "I", false)
  | 6 => ("TankBehindModel", "sales", "I", false)
  | 7 => ("TankBehindModel", "firmOf", "[I", true)
  | 8 => ("TankBehindModel", "factor", "[I", true)
  | 9 => ("TankBehindModel", "kindFirm", "[I", true)
  | 10 => ("TankBehindModel", "bears", "[I", true)
  | 11 => ("TankBehindModel", "coinsOf", "[I", true)
  | 12 => ("TankBehindModel", "adds", "[I", true)
  | 13 => ("TankBehindModel", "fitted", "[I", true)
  | 14 => ("TankBehindModel", "hasMoved", "[Z", true)
  | 15 => ("TankBehindModel", "isWrecked", "[Z", true)
  | 16 => ("TankBehindModel", "carKind", "[I", true)
  | 17 => ("TankBehindModel", "made", "[I", true)
  | 18 => ("TankBehindModel", "carTold", "[I", true)
  | 19 => ("TankBehindModel", "firstOwner", "[I", true)
  | 20 => ("TankBehindModel", "lastOwner", "[I", true)
  | 21 => ("TankBehindModel", "lastSale", "[I", true)
  | 22 => ("TankBehindModel", "lastCrash", "[I", true)
  | 23 => ("TankBehindModel", "soldCar", "[I", true)
  | 24 => ("TankBehindModel", "soldTo", "[I", true)
  | 25 => ("TankBehindModel", "soldIn", "[I", true)
  | 26 => ("TankBehindModel", "soldTold", "[I", true)
  | 27 => ("TankBehindModel", "taped", "I", false)
  | 28 => ("TankBehindModel", "p", "I", false)
  | 29 => ("TankBehindModel", "fault", "I", false)
  | 30 => ("TankBehindModel", "rules", "I", false)
  | 31 => ("TankBehindModel", "entries", "I", false)
  | 32 => ("TankBehindModel", "deep", "I", false)
  | 33 => ("TankBehindModel", "counted", "I", false)
  | 34 => ("TankBehindModel", "opened", "I", false)
  | 35 => ("TankBehindModel", "tape", "[B", true)
  | 36 => ("TankBehindModel", "sort", "[I", true)
  | 37 => ("TankBehindModel", "number", "[I", true)
  | 38 => ("TankBehindModel", "thing", "[I", true)
  | 39 => ("TankBehindModel", "thingOf", "[I", true)
  | 40 => ("TankBehindModel", "sumAt", "[I", true)
  | 41 => ("TankBehindModel", "testAt", "[I", true)
  | 42 => ("TankBehindModel", "endAt", "[I", true)
  | 43 => ("TankBehindModel", "clauses", "[I", true)
  | 44 => ("TankBehindModel", "binds", "[I", true)
  | 45 => ("TankBehindModel", "open", "[I", true)
  | 46 => ("TankBehindModel", "state", "I", false)
  | 47 => ("TankBehindModel", "inTest", "Z", false)
  | 48 => ("TankBehindModel", "asked", "[J", true)
  | 49 => ("TankBehindModel", "stack", "[J", true)
  | 50 => ("TankBehindModel", "tests", "I", false)
  | 51 => ("TankBehindModel", "reads", "I", false)
  | 52 => ("TankBehindModel", "testKind", "[I", true)
  | 53 => ("TankBehindModel", "testSort", "[I", true)
  | 54 => ("TankBehindModel", "testSpeed", "[I", true)
  | 55 => ("TankBehindModel", "readTest", "[I", true)
  | 56 => ("TankBehindModel", "readBy", "[I", true)
  | 57 => ("TankBehindModel", "readIn", "[I", true)
  | 58 => ("TankBehindModel", "testBurned", "[Z", true)
  | 59 => ("TankBehindModel", "crashes", "I", false)
  | 60 => ("TankBehindModel", "crashCar", "[I", true)
  | 61 => ("TankBehindModel", "crashIn", "[I", true)
  | 62 => ("TankBehindModel", "crashSort", "[I", true)
  | 63 => ("TankBehindModel", "crashSpeed", "[I", true)
  | 64 => ("TankBehindModel", "crashDead", "[I", true)
  | 65 => ("TankBehindModel", "crashTold", "[I", true)
  | 66 => ("TankBehindModel", "crashBurned", "[Z", true)
  | 67 => ("TankBehindModel", "ownCrashes", "[I", true)
  | 68 => ("TankBehindModel", "ownFires", "[I", true)
  | 69 => ("TankBehindModel", "otherCrashes", "[I", true)
  | 70 => ("TankBehindModel", "otherFires", "[I", true)
  | 71 => ("TankBehindModel", "memos", "I", false)
  | 72 => ("TankBehindModel", "rowMany", "[I", true)
  | 73 => ("TankBehindModel", "rowCount", "[I", true)
  | 74 => ("TankBehindModel", "rowCoins", "[I", true)
  | 75 => ("TankBehindModel", "rowSaved", "[Z", true)
  | 76 => ("TankBehindModel", "steps", "I", false)
  | 77 => ("TankBehindModel", "lasts", "[I", true)
  | 78 => ("TankBehindModel", "stepFirm", "[I", true)
  | 79 => ("TankBehindModel", "behind", "[I", true)
  | 80 => ("TankBehindModel", "stepCoins", "[I", true)
  | 81 => ("TankBehindModel", "begins", "[I", true)
  | 82 => ("TankBehindModel", "after", "[I", true)
  | 83 => ("TankBehindModel", "calls", "I", false)
  | 84 => ("TankBehindModel", "callKind", "[I", true)
  | 85 => ("TankBehindModel", "callFrom", "[I", true)
  | 86 => ("TankBehindModel", "callTo", "[I", true)
  | 87 => ("TankBehindModel", "callPart", "[I", true)
  | 88 => ("TankBehindModel", "mendedIn", "[I", true)
  | 89 => ("TankBehindModel", "isReached", "[Z", true)
  | 90 => ("TankBehindModel", "savers", "I", false)
  | 91 => ("TankBehindModel", "bestSet", "I", false)
  | 92 => ("TankBehindModel", "bestCost", "I", false)
  | 93 => ("TankBehindModel", "saverCoins", "[I", true)
  | 94 => ("TankBehindModel", "saverLives", "[I", true)
  | _ => ("TankBehindModel", "overlaps", "[I", true)
def tyX12 : Nat → FieldType := fun k => match k with
  | 0 => .int
  | 1 => .int
  | 2 => .int
  | 3 => .int
  | 4 => .int
  | 5 => .int
  | 6 => .int
  | 7 => .array .int
  | 8 => .array .int
  | 9 => .array .int
  | 10 => .array .int
  | 11 => .array .int
  | 12 => .array .int
  | 13 => .array .int
  | 14 => .array .boolean
  | 15 => .array .boolean
  | 16 => .array .int
  | 17 => .array .int
  | 18 => .array .int
  | 19 => .array .int
  | 20 => .array .int
  | 21 => .array .int
  | 22 => .array .int
  | 23 => .array .int
  | 24 => .array .int
  | 25 => .array .int
  | 26 => .array .int
  | 27 => .int
  | 28 => .int
  | 29 => .int
  | 30 => .int
  | 31 => .int
  | 32 => .int
  | 33 => .int
  | 34 => .int
  | 35 => .array .byte
  | 36 => .array .int
  | 37 => .array .int
  | 38 => .array .int
  | 39 => .array .int
  | 40 => .array .int
  | 41 => .array .int
  | 42 => .array .int
  | 43 => .array .int
  | 44 => .array .int
  | 45 => .array .int
  | 46 => .int
  | 47 => .boolean
  | 48 => .array .long
  | 49 => .array .long
  | 50 => .int
  | 51 => .int
  | 52 => .array .int
  | 53 => .array .int
  | 54 => .array .int
  | 55 => .array .int
  | 56 => .array .int
  | 57 => .array .int
  | 58 => .array .boolean
  | 59 => .int
  | 60 => .array .int
  | 61 => .array .int
  | 62 => .array .int
  | 63 => .array .int
  | 64 => .array .int
  | 65 => .array .int
  | 66 => .array .boolean
  | 67 => .array .int
  | 68 => .array .int
  | 69 => .array .int
  | 70 => .array .int
  | 71 => .int
  | 72 => .array .int
  | 73 => .array .int
  | 74 => .array .int
  | 75 => .array .boolean
  | 76 => .int
  | 77 => .array .int
  | 78 => .array .int
  | 79 => .array .int
  | 80 => .array .int
  | 81 => .array .int
  | 82 => .array .int
  | 83 => .int
  | 84 => .array .int
  | 85 => .array .int
  | 86 => .array .int
  | 87 => .array .int
  | 88 => .array .int
  | 89 => .array .boolean
  | 90 => .int
  | 91 => .int
  | 92 => .int
  | 93 => .array .int
  | 94 => .array .int
  | _ => .array .int
theorem nmX12 : ∀ a, a < 96 → ∀ b, b < 96 → a ≠ b → (TX12 a).2.1 ≠ (TX12 b).2.1 := by decide +kernel
theorem tyX12_ok : ∀ k, k < 96 → parseFieldDescriptor (TX12 k).2.2.1 = some (tyX12 k) := by decide +kernel
def zCl : List vw_C := [(RX0, TX0, 11), (RX1, TX1, 13), (RX2, TX2, 10), (RX3, TX3, 8), (RX4, TX4, 5), (RX5, TX5, 8), (RX6, TX6, 5), (RX7, TX7, 6), (RX8, TX8, 10), (RX9, TX9, 6), (RX10, TX10, 10), (RX11, TX11, 15), (RX12, TX12, 96)]
def zTt : List ((Nat → FieldType) × Nat × (Nat → Bool)) := [(tyX0, 11, fun _ => false), (tyX1, 13, fun _ => false), (tyX2, 10, fun _ => false), (tyX3, 8, fun _ => false), (tyX4, 5, fun _ => false), (tyX5, 8, fun _ => false), (tyX6, 5, fun _ => false), (tyX7, 6, fun _ => false), (tyX8, 10, fun _ => false), (tyX9, 6, fun _ => false), (tyX10, 10, fun _ => false), (tyX11, 15, fun _ => false), (tyX12, 96, fun _ => false)]
end
section
/-! A SMALL MACHINE: canonical instructions, locals by place, cells by number; 'zR': a run comes to its end, and what it answers and leaves holds of 'ret'. -/
abbrev zC : Type := (Nat × vp_A) ⊕ (Nat × List Value)
abbrev zH : Type := List zC
abbrev zE : Type := Instr × Nat × Nat × Nat × Nat × Value
abbrev zK : Type := List (Option zE)
abbrev zL : Type := List (Option Value)
abbrev zX : Type := Nat → zL → List Value → zH → Nat → Nat → Prop
abbrev zQ : Type := Option Value → zH → Prop
abbrev zM : Type := Nat → List Value → zH → zQ → Prop
/-- a method: its code, its locals, what it returns, how many cells and places it may make -/
abbrev zI : Type := zK × Nat × Option FieldType × Nat × Nat
/-- the program, the texts of its string constants, the script -/
abbrev zG : Type := List zI × (Nat → List Int32) × Nat × (Nat → Int32)
def zclr (L : zL) : Nat → zL
  | 0 => L
  | j + 1 => match L.getD j none with
    | some w => bif w.category == 2 then L.set j none else L
    | none => L
def zst (L : zL) (i : Nat) (v : Value) : zL := bif v.category == 2 then (((zclr L i).set i (some v)).set (i + 1) none) else (zclr L i).set i (some v)
def zcond (o : Jvm.ClassFile.Cond) (x y : Int32) : Prop := match o with
  | .eq => x = y
  | .ne => ¬ x = y
  | .lt => x < y
  | .ge => y ≤ x
  | .gt => y < x
  | .le => x ≤ y
def zrf (r : Option Nat) : Value := match r with
  | some a => .ref a
  | none => .null
/-- the places that 'new' makes, by their types -/
def zbud (G : zG) (j : Nat) : Nat × Nat := match G.1[j]? with
  | some i => (i.2.2.2.1, i.2.2.2.2)
  | none => (0, 0)
def zfields (T : Nat → FieldType) (N : Nat) : List Value := (List.range N).map (fun k => defaultValue (T k))
/-- a new array's cell by its kind: 0 int, 1 boolean, 2 byte, 3 long, 4 int[], 5 Car -/
def zarr (k N : Nat) : zC := match k with
  | 3 => .inl (3, N, .inr (.inl (fun _ => 0)))
  | 4 => .inl (4, N, .inr (.inr (.inr (.inr (fun _ => none)))))
  | 5 => .inl (5, N, .inr (.inr (.inr (.inr (fun _ => none)))))
  | k => .inl (k, N, .inl (fun _ => 0))
def zkind (a : ArrayType) : Nat := match a with
  | .int => 0
  | .boolean => 1
  | .byte => 2
  | .long => 3
  | _ => 9
def zrows (q N K : Nat) : zH := .inl (4, N, .inr (.inr (.inr (.inr (fun i => if i < N then some (q + 1 + i) else none))))) :: List.replicate N (.inl (0, K, .inl (fun _ => 0)))
/-- the types of the fields of each class -/
def zcls (tt : List ((Nat → FieldType) × Nat × (Nat → Bool))) (k : Nat) : List Value := match tt[k]? with
  | some (T, N, _) => zfields T N
  | none => []
section ZM
variable (tt : List ((Nat → FieldType) × Nat × (Nat → Bool))) (G : zG) (bc bs : Nat) (rt : Option FieldType) (M : zM) (ret : zQ) (X : zX)
/-- instructions of numbers, the stack and the locals -/
def zex1 (e : zE) (L : zL) (st : List Value) (h : zH) (c n : Nat) : Prop := match e with
  | (ins, nx, a, b, d, v) => match ins with
    | .aconst_null => X nx L (v :: st) h c n
    | .iload _ => match L.getD a none with
      | some (.int x) => X nx L (.int x :: st) h c n
      | _ => False
    | .lload _ => match L.getD a none with
      | some (.long x) => X nx L (.long x :: st) h c n
      | _ => False
    | .aload _ => match L.getD a none with
      | some (.ref x) => X nx L (.ref x :: st) h c n
      | some .null => X nx L (.null :: st) h c n
      | some (.retAddr x) => X nx L (.retAddr x :: st) h c n
      | _ => False
    | .istore _ => match st with
      | .int x :: s => a < L.length ∧ X nx (zst L a (.int x)) s h c n
      | _ => False
    | .lstore _ => match st with
      | .long x :: s => a + 1 < L.length ∧ X nx (zst L a (.long x)) s h c n
      | _ => False
    | .astore _ => match st with
      | .ref x :: s => a < L.length ∧ X nx (zst L a (.ref x)) s h c n
      | .null :: s => a < L.length ∧ X nx (zst L a .null) s h c n
      | .retAddr x :: s => a < L.length ∧ X nx (zst L a (.retAddr x)) s h c n
      | _ => False
    | .iinc _ _ => match L.getD a none, v with
      | some (.int x), .int y => a < L.length ∧ X nx (zst L a (.int (x + y))) st h c n
      | _, _ => False
    | .pop => match st with
      | w :: s => w.category = 1 ∧ X nx L s h c n
      | [] => False
    | .dup => match st with
      | w :: s => w.category = 1 ∧ X nx L (w :: w :: s) h c n
      | [] => False
    | .dup_x1 => match st with
      | w :: w2 :: s => w.category = 1 ∧ w2.category = 1 ∧ X nx L (w :: w2 :: w :: s) h c n
      | _ => False
    | .dup2 => match st with
      | w :: w2 :: s => w.category = 1 ∧ w2.category = 1 ∧ X nx L (w :: w2 :: w :: w2 :: s) h c n
      | _ => False
    | .dup2_x1 => match st with
      | w :: s => w.category = 2 ∧ X nx L (w :: w :: s) h c n
      | _ => False
    | .iadd => match st with
      | .int y :: .int x :: s => X nx L (.int (x + y) :: s) h c n
      | _ => False
    | .isub => match st with
      | .int y :: .int x :: s => X nx L (.int (x - y) :: s) h c n
      | _ => False
    | .imul => match st with
      | .int y :: .int x :: s => X nx L (.int (x * y) :: s) h c n
      | _ => False
    | .idiv => match st with
      | .int y :: .int x :: s => ¬ y = 0 ∧ X nx L (.int (x / y) :: s) h c n
      | _ => False
    | .iand => match st with
      | .int y :: .int x :: s => X nx L (.int (x &&& y) :: s) h c n
      | _ => False
    | .ior => match st with
      | .int y :: .int x :: s => X nx L (.int (x ||| y) :: s) h c n
      | _ => False
    | .ishl => match st with
      | .int y :: .int x :: s => X nx L (.int (x <<< (y &&& 31)) :: s) h c n
      | _ => False
    | .ishr => match st with
      | .int y :: .int x :: s => X nx L (.int (x >>> (y &&& 31)) :: s) h c n
      | _ => False
    | .ladd => match st with
      | .long y :: .long x :: s => X nx L (.long (x + y) :: s) h c n
      | _ => False
    | .lsub => match st with
      | .long y :: .long x :: s => X nx L (.long (x - y) :: s) h c n
      | _ => False
    | .lmul => match st with
      | .long y :: .long x :: s => X nx L (.long (x * y) :: s) h c n
      | _ => False
    | .ldiv => match st with
      | .long y :: .long x :: s => ¬ y = 0 ∧ X nx L (.long (x / y) :: s) h c n
      | _ => False
    | .lrem => match st with
      | .long y :: .long x :: s => ¬ y = 0 ∧ X nx L (.long (x - x / y * y) :: s) h c n
      | _ => False
    | .lneg => match st with
      | .long x :: s => X nx L (.long (-x) :: s) h c n
      | _ => False
    | .land => match st with
      | .long y :: .long x :: s => X nx L (.long (x &&& y) :: s) h c n
      | _ => False
    | .lor => match st with
      | .long y :: .long x :: s => X nx L (.long (x ||| y) :: s) h c n
      | _ => False
    | .lxor => match st with
      | .long y :: .long x :: s => X nx L (.long (x ^^^ y) :: s) h c n
      | _ => False
    | .lshl => match st with
      | .int y :: .long x :: s => X nx L (.long (x <<< (y.toInt64 &&& 63)) :: s) h c n
      | _ => False
    | .lshr => match st with
      | .int y :: .long x :: s => X nx L (.long (x >>> (y.toInt64 &&& 63)) :: s) h c n
      | _ => False
    | .lcmp => match st with
      | .long y :: .long x :: s => X nx L (.int (lg_cmp x y) :: s) h c n
      | _ => False
    | .i2l => match st with
      | .int x :: s => X nx L (.long x.toInt64 :: s) h c n
      | _ => False
    | .l2i => match st with
      | .long x :: s => X nx L (.int x.toInt32 :: s) h c n
      | _ => False
    | .i2b => match st with
      | .int x :: s => X nx L (.int x.toInt8.toInt32 :: s) h c n
      | _ => False
    | .goto _ => X a L st h c n
    | .ifCond o _ => match st with
      | .int x :: s => (zcond o x 0 → X a L s h c n) ∧ (¬ zcond o x 0 → X nx L s h c n)
      | _ => False
    | .if_icmp o _ => match st with
      | .int y :: .int x :: s => (zcond o x y → X a L s h c n) ∧ (¬ zcond o x y → X nx L s h c n)
      | _ => False
    | .ifnull _ => match st with
      | .null :: s => X a L s h c n
      | .ref _ :: s => X nx L s h c n
      | _ => False
    | .ifnonnull _ => match st with
      | .null :: s => X nx L s h c n
      | .ref _ :: s => X a L s h c n
      | _ => False
    | _ => False
/-- instructions of cells, calls, ends -/
def zex2 (e : zE) (L : zL) (st : List Value) (h : zH) (c n : Nat) : Prop := match e with
  | (ins, nx, a, b, d, v) => match ins with
    | .tableswitch df lo hi tg => match st with
      | .int x :: s => ((x.toInt < lo ∨ hi < x.toInt) → X df.toNat L s h c n) ∧ (¬ x.toInt < lo → ¬ hi < x.toInt → ∃ t : Int, tg[(x.toInt - lo).toNat]? = some t ∧ X t.toNat L s h c n)
      | _ => False
    | .lookupswitch df ps => match st with
      | .int x :: s => X (Op.lookupswitch.offset ps.toList df x.toInt).toNat L s h c n
      | _ => False
    | .iaload => match st with
      | .int i :: .ref r :: s => ∃ (N : Nat) (f : Nat → Int32), h[r]? = some (.inl (0, N, .inl f)) ∧ vp_in i N ∧ X nx L (.int (f i.toNatClampNeg) :: s) h c n
      | _ => False
    | .baload => match st with
      | .int i :: .ref r :: s => ∃ (k N : Nat) (f : Nat → Int32), (k = 1 ∨ k = 2) ∧ h[r]? = some (.inl (k, N, .inl f)) ∧ vp_in i N ∧ X nx L (.int (f i.toNatClampNeg) :: s) h c n
      | _ => False
    | .laload => match st with
      | .int i :: .ref r :: s => ∃ (N : Nat) (f : Nat → Int64), h[r]? = some (.inl (3, N, .inr (.inl f))) ∧ vp_in i N ∧ X nx L (.long (f i.toNatClampNeg) :: s) h c n
      | _ => False
    | .aaload => match st with
      | .int i :: .ref r :: s => ∃ (k N : Nat) (f : Nat → Option Nat), (k = 4 ∨ k = 5) ∧ h[r]? = some (.inl (k, N, .inr (.inr (.inr (.inr f))))) ∧ vp_in i N ∧ X nx L (zrf (f i.toNatClampNeg) :: s) h c n
      | _ => False
    | .saload => match st with
      | .int i :: .retAddr _ :: s => vp_in i G.2.2.1 ∧ X nx L (.int (G.2.2.2 i.toNatClampNeg) :: s) h c n
      | _ => False
    | .i2s => match st with
      | .retAddr _ :: s => X nx L (.int (Int32.ofNat G.2.2.1) :: s) h c n
      | _ => False
    | .iastore => match st with
      | .int x :: .int i :: .ref r :: s => ∃ (N : Nat) (f : Nat → Int32), h[r]? = some (.inl (0, N, .inl f)) ∧ vp_in i N ∧ X nx L s (h.set r (.inl (0, N, .inl (upd f i.toNatClampNeg x)))) c n
      | _ => False
    | .bastore => match st with
      | .int x :: .int i :: .ref r :: s => ∃ (k N : Nat) (f : Nat → Int32), (k = 1 ∨ k = 2) ∧ h[r]? = some (.inl (k, N, .inl f)) ∧ vp_in i N ∧ X nx L s (h.set r (.inl (k, N, .inl (upd f i.toNatClampNeg (vp_nar (if k = 1 then .boolean else .byte) x))))) c n
      | _ => False
    | .lastore => match st with
      | .long x :: .int i :: .ref r :: s => ∃ (N : Nat) (f : Nat → Int64), h[r]? = some (.inl (3, N, .inr (.inl f))) ∧ vp_in i N ∧ X nx L s (h.set r (.inl (3, N, .inr (.inl (vp_updL f i.toNatClampNeg x))))) c n
      | _ => False
    | .aastore => match st with
      | .ref y :: .int i :: .ref r :: s => ∃ (k N : Nat) (f : Nat → Option Nat), ((k = 4 ∧ ∃ (K : Nat) (g : Nat → Int32), h[y]? = some (.inl (0, K, .inl g))) ∨ (k = 5 ∧ ∃ fs : List Value, h[y]? = some (.inr (d, fs)))) ∧ h[r]? = some (.inl (k, N, .inr (.inr (.inr (.inr f))))) ∧ vp_in i N ∧ X nx L s (h.set r (.inl (k, N, .inr (.inr (.inr (.inr (va_up f i.toNatClampNeg (some y)))))))) c n
      | _ => False
    | .arraylength => match st with
      | .ref r :: s => ∃ (k N : Nat) (x : (Nat → Int32) ⊕ (Nat → Int64) ⊕ (Nat → UInt32) ⊕ (Nat → UInt64) ⊕ (Nat → Option Nat)), k < 6 ∧ h[r]? = some (.inl (k, N, x)) ∧ X nx L (.int (Int32.ofNat N) :: s) h c n
      | _ => False
    | .newarray at0 => match st with
      | .int x :: s => ¬ x < 0 ∧ x.toNatClampNeg ≤ 10000 ∧ c + 1 ≤ bc ∧ n + x.toNatClampNeg ≤ bs ∧ zkind at0 < 4 ∧ X nx L (.ref h.length :: s) (h ++ [zarr (zkind at0) x.toNatClampNeg]) (c + 1) (n + x.toNatClampNeg)
      | _ => False
    | .anewarray _ => match st with
      | .int x :: s => ¬ x < 0 ∧ x.toNatClampNeg ≤ 10000 ∧ c + 1 ≤ bc ∧ n + x.toNatClampNeg ≤ bs ∧ (a = 4 ∨ a = 5) ∧ X nx L (.ref h.length :: s) (h ++ [zarr a x.toNatClampNeg]) (c + 1) (n + x.toNatClampNeg)
      | _ => False
    | .multianewarray _ _ => match st with
      | .int y :: .int x :: s => ¬ x < 0 ∧ ¬ y < 0 ∧ x.toNatClampNeg ≤ 10000 ∧ y.toNatClampNeg ≤ 10000 ∧ c + (1 + x.toNatClampNeg) ≤ bc ∧ n + (x.toNatClampNeg + x.toNatClampNeg * y.toNatClampNeg) ≤ bs ∧ X nx L (.ref h.length :: s) (h ++ zrows h.length x.toNatClampNeg y.toNatClampNeg) (c + 1 + x.toNatClampNeg) (n + x.toNatClampNeg + x.toNatClampNeg * y.toNatClampNeg)
      | _ => False
    | .new _ => c + 1 ≤ bc ∧ n + (zcls tt a).length ≤ bs ∧ X nx L (.ref h.length :: st) (h ++ [.inr (a, zcls tt a)]) (c + 1) (n + (zcls tt a).length)
    | .getfield _ => match st with
      | .ref r :: s => ∃ (fs : List Value) (w : Value), h[r]? = some (.inr (a, fs)) ∧ fs[b]? = some w ∧ X nx L (w :: s) h c n
      | _ => False
    | .putfield _ => match st with
      | w :: .ref r :: s => ∃ (fs : List Value) (t : FieldType), h[r]? = some (.inr (a, fs)) ∧ b < fs.length ∧ (tt[a]?).map (fun q => q.1 b) = some t ∧ narrow t w = w ∧ fits t w = true ∧ X nx L s (h.set r (.inr (a, fs.set b w))) c n
      | _ => False
    | .pop2 => match st with
      | .ref _ :: s => (s.map fun v => v.category).sum ≤ 8 ∧ X nx L s h c n
      | _ => False
    | .invokevirtual _ => match st.drop b with
      | .ref r :: s => (st.take b).length = b ∧ (∃ fs : List Value, h[r]? = some (.inr (d, fs))) ∧ (s.map fun v => v.category).sum ≤ 8 ∧ c + (zbud G a).1 ≤ bc ∧ n + (zbud G a).2 ≤ bs ∧ M a (.ref r :: (st.take b).reverse) h (fun w h2 => X nx L (w.toList ++ s) h2 (c + (zbud G a).1) (n + (zbud G a).2))
      | _ => False
    | .invokespecial _ => match st.drop b with
      | .ref r :: s => (st.take b).length = b ∧ (s.map fun v => v.category).sum ≤ 8 ∧ c + (zbud G a).1 ≤ bc ∧ n + (zbud G a).2 ≤ bs ∧ M a (.ref r :: (st.take b).reverse) h (fun w h2 => X nx L (w.toList ++ s) h2 (c + (zbud G a).1) (n + (zbud G a).2))
      | _ => False
    | .invokestatic _ => (st.take b).length = b ∧ ((st.drop b).map fun v => v.category).sum ≤ 8 ∧ c + (zbud G a).1 ≤ bc ∧ n + (zbud G a).2 ≤ bs ∧ M a (st.take b).reverse h (fun w h2 => X nx L (w.toList ++ st.drop b) h2 (c + (zbud G a).1) (n + (zbud G a).2))
    | .ireturn => match st with
      | [.int x] => (∃ t : FieldType, rt = some t ∧ narrow t (.int x) = .int x) ∧ ret (some (.int x)) h
      | _ => False
    | .lreturn => match st with
      | [.long x] => rt = some .long ∧ ret (some (.long x)) h
      | _ => False
    | .areturn => match st with
      | [.ref x] => (∃ t : FieldType, rt = some t ∧ fits t .null = true) ∧ ret (some (.ref x)) h
      | [.null] => (∃ t : FieldType, rt = some t ∧ fits t .null = true) ∧ ret (some .null) h
      | [.retAddr x] => (∃ t : FieldType, rt = some t ∧ fits t .null = true) ∧ ret (some (.retAddr x)) h
      | _ => False
    | .return_ => match st with
      | [] => rt = none ∧ ret none h
      | _ => False
    | .caload => match st with
      | .int i :: .retAddr k :: s => vp_in i (G.2.1 k).length ∧ X nx L (.int ((G.2.1 k).getD i.toNatClampNeg 0) :: s) h c n
      | _ => False
    | .i2c => match st with
      | .retAddr k :: s => X nx L (.int (Int32.ofNat (G.2.1 k).length) :: s) h c n
      | _ => False
    | _ => False
def zex (e : zE) (L : zL) (st : List Value) (h : zH) (c n : Nat) : Prop := zex1 X e L st h c n ∨ zex2 tt G bc bs rt M ret X e L st h c n
def zstep (cd : zK) (pc : Nat) (L : zL) (st : List Value) (h : zH) (c n : Nat) : Prop := match cd[pc]? with
  | some (some e) => zex tt G bc bs rt M ret X e L st h c n
  | _ => False
end ZM
abbrev zT : Type := List ((Nat → FieldType) × Nat × (Nat → Bool))
/-- a run from here comes to its end: the least such -/
def zR (tt : zT) (G : zG) (cd : zK) (bc bs : Nat) (rt : Option FieldType) (M : zM) (ret : zQ) (pc : Nat) (L : zL) (st : List Value) (h : zH) (c n : Nat) : Prop :=
  ∀ X : zX, (∀ pc L st h c n, zstep tt G bc bs rt M ret X cd pc L st h c n → X pc L st h c n) → X pc L st h c n
def zmono (M : zM) : Prop := ∀ (j : Nat) (as : List Value) (h : zH) (Q Q' : zQ), (∀ w h2, Q w h2 → Q' w h2) → M j as h Q → M j as h Q'
def zargs : List Value → zL
  | [] => []
  | v :: vs => bif v.category == 2 then some v :: none :: zargs vs else some v :: zargs vs
def zentry (as : List Value) (nL : Nat) : zL := zargs as ++ List.replicate (nL - (zargs as).length) none
def zW (tt : zT) (G : zG) : Nat → zM
  | 0 => fun _ _ _ _ => False
  | d + 1 => fun j as h Q => match G.1[j]? with
    | some (cd, nL, rt, bc, bs) => (zargs as).length ≤ nL ∧ zR tt G cd bc bs rt (zW tt G d) Q 0 (zentry as nL) [] h 0 0
    | none => False
end
section
theorem zex1_mono {X Y : zX} (hXY : ∀ pc L st h c n, X pc L st h c n → Y pc L st h c n) {e : zE} {L : zL} {st : List Value} {h : zH} {c n : Nat} : zex1 X e L st h c n → zex1 Y e L st h c n := by
  obtain ⟨ins, nx, a, b, d, v⟩ := e
  unfold zex1
  cases ins <;> dsimp only <;> (try split) <;> first
    | exact fun q => q
    | exact fun q => hXY _ _ _ _ _ _ q
    | exact fun q => ⟨q.1, hXY _ _ _ _ _ _ q.2⟩
    | exact fun q => ⟨q.1, q.2.1, hXY _ _ _ _ _ _ q.2.2⟩
    | exact fun q => ⟨fun z => hXY _ _ _ _ _ _ (q.1 z), fun z => hXY _ _ _ _ _ _ (q.2 z)⟩
theorem zex2_mono {tt : zT} {G : zG} {bc bs : Nat} {rt : Option FieldType} {M : zM} {ret ret2 : zQ} (hM : zmono M) (hr : ∀ w h, ret w h → ret2 w h) {X Y : zX} (hXY : ∀ pc L st h c n, X pc L st h c n → Y pc L st h c n) {e : zE} {L : zL} {st : List Value} {h : zH} {c n : Nat} : zex2 tt G bc bs rt M ret X e L st h c n → zex2 tt G bc bs rt M ret2 Y e L st h c n := by
  obtain ⟨ins, nx, a, b, d, v⟩ := e
  unfold zex2
  cases ins <;> dsimp only <;> (try split) <;> first
    | exact fun q => q
    | exact fun q => hXY _ _ _ _ _ _ q
    | exact fun q => ⟨q.1, hXY _ _ _ _ _ _ q.2⟩
    | exact fun q => ⟨q.1, hr _ _ q.2⟩
    | exact fun q => ⟨q.1, q.2.1, hXY _ _ _ _ _ _ q.2.2⟩
    | exact fun q => ⟨q.1, q.2.1, q.2.2.1, q.2.2.2.1, q.2.2.2.2.1, hXY _ _ _ _ _ _ q.2.2.2.2.2⟩
    | exact fun q => ⟨q.1, q.2.1, q.2.2.1, q.2.2.2.1, q.2.2.2.2.1, q.2.2.2.2.2.1, hXY _ _ _ _ _ _ q.2.2.2.2.2.2⟩
    | exact fun ⟨N, f, q⟩ => ⟨N, f, q.1, q.2.1, hXY _ _ _ _ _ _ q.2.2⟩
    | exact fun ⟨k, N, f, q⟩ => ⟨k, N, f, q.1, q.2.1, hXY _ _ _ _ _ _ q.2.2⟩
    | exact fun ⟨k, N, f, q⟩ => ⟨k, N, f, q.1, q.2.1, q.2.2.1, hXY _ _ _ _ _ _ q.2.2.2⟩
    | exact fun ⟨fs, t, q⟩ => ⟨fs, t, q.1, q.2.1, q.2.2.1, q.2.2.2.1, q.2.2.2.2.1, hXY _ _ _ _ _ _ q.2.2.2.2.2⟩
    | exact fun q => ⟨fun z => hXY _ _ _ _ _ _ (q.1 z), fun z1 z2 => (q.2 z1 z2).imp fun t w => ⟨w.1, hXY _ _ _ _ _ _ w.2⟩⟩
    | exact fun q => ⟨q.1, q.2.1, q.2.2.1, q.2.2.2.1, q.2.2.2.2.1, hM _ _ _ _ _ (fun w h2 z => hXY _ _ _ _ _ _ z) q.2.2.2.2.2⟩
    | exact fun q => ⟨q.1, q.2.1, q.2.2.1, q.2.2.2.1, hM _ _ _ _ _ (fun w h2 z => hXY _ _ _ _ _ _ z) q.2.2.2.2⟩
section ZR
variable {tt : zT} {G : zG} {cd : zK} {bc bs : Nat} {rt : Option FieldType} {M : zM} {ret : zQ} {pc : Nat} {L : zL} {st : List Value} {h : zH} {c n : Nat}
theorem zstep_mono (hM : zmono M) {ret2 : zQ} (hr : ∀ w h, ret w h → ret2 w h) {X Y : zX} (hXY : ∀ pc L st h c n, X pc L st h c n → Y pc L st h c n) : zstep tt G bc bs rt M ret X cd pc L st h c n → zstep tt G bc bs rt M ret2 Y cd pc L st h c n := by
  unfold zstep zex
  split
  · exact fun q => q.elim (fun z => Or.inl (zex1_mono hXY z)) (fun z => Or.inr (zex2_mono hM hr hXY z))
  · exact fun q => q
theorem zR.step (hM : zmono M) (k : zstep tt G bc bs rt M ret (zR tt G cd bc bs rt M ret) cd pc L st h c n) : zR tt G cd bc bs rt M ret pc L st h c n :=
  fun X hX => hX _ _ _ _ _ _ (zstep_mono hM (fun _ _ z => z) (fun _ _ _ _ _ _ q => q X hX) k)
theorem zR_post {ret2 : zQ} (hM : zmono M) (hr : ∀ w h, ret w h → ret2 w h) (k : zR tt G cd bc bs rt M ret pc L st h c n) : zR tt G cd bc bs rt M ret2 pc L st h c n :=
  k (zR tt G cd bc bs rt M ret2) (fun _ _ _ _ _ _ q => zR.step hM (zstep_mono hM hr (fun _ _ _ _ _ _ z => z) q))
end ZR
theorem zW_mono (tt : zT) (G : zG) : ∀ d : Nat, zmono (zW tt G d)
  | 0 => fun _ _ _ _ _ _ q => q
  | d + 1 => by
    intro j as h Q Q' hq k
    unfold zW at k ⊢
    split at k
    · exact ⟨k.1, zR_post (zW_mono tt G d) hq k.2⟩
    · exact k
end
section
section ZROWS
variable {tt : zT} {G : zG} {cd : zK} {bc bs : Nat} {rt : Option FieldType} {M : zM} {ret : zQ} {pc nx a b d : Nat} {v : Value} {L : zL} {s : List Value} {h : zH} {c n : Nat}
theorem r_push  (hM : zmono M) (hc : cd[pc]? = some (some (.aconst_null, nx, a, b, d, v)))  (k : zR tt G cd bc bs rt M ret nx L (v :: s) h c n) : zR tt G cd bc bs rt M ret pc L s h c n := zR.step hM (by unfold zstep; rw [hc]; exact Or.inl k)
theorem r_iload {i : Nat} {x : Int32} (hM : zmono M) (hc : cd[pc]? = some (some (.iload i, nx, a, b, d, v))) (hl : L.getD a none = some (.int x)) (k : zR tt G cd bc bs rt M ret nx L ((.int x) :: s) h c n) : zR tt G cd bc bs rt M ret pc L s h c n := zR.step hM (by unfold zstep; rw [hc]; refine Or.inl ?_; unfold zex1; dsimp only; rw [hl]; exact k)
theorem r_lload {i : Nat} {x : Int64} (hM : zmono M) (hc : cd[pc]? = some (some (.lload i, nx, a, b, d, v))) (hl : L.getD a none = some (.long x)) (k : zR tt G cd bc bs rt M ret nx L ((.long x) :: s) h c n) : zR tt G cd bc bs rt M ret pc L s h c n := zR.step hM (by unfold zstep; rw [hc]; refine Or.inl ?_; unfold zex1; dsimp only; rw [hl]; exact k)
theorem r_aload {i : Nat} {x : Nat} (hM : zmono M) (hc : cd[pc]? = some (some (.aload i, nx, a, b, d, v))) (hl : L.getD a none = some (.ref x)) (k : zR tt G cd bc bs rt M ret nx L ((.ref x) :: s) h c n) : zR tt G cd bc bs rt M ret pc L s h c n := zR.step hM (by unfold zstep; rw [hc]; refine Or.inl ?_; unfold zex1; dsimp only; rw [hl]; exact k)
theorem r_aloadN {i : Nat}  (hM : zmono M) (hc : cd[pc]? = some (some (.aload i, nx, a, b, d, v))) (hl : L.getD a none = some (.null)) (k : zR tt G cd bc bs rt M ret nx L ((.null) :: s) h c n) : zR tt G cd bc bs rt M ret pc L s h c n := zR.step hM (by unfold zstep; rw [hc]; refine Or.inl ?_; unfold zex1; dsimp only; rw [hl]; exact k)
theorem r_aloadS {i : Nat} {x : Nat} (hM : zmono M) (hc : cd[pc]? = some (some (.aload i, nx, a, b, d, v))) (hl : L.getD a none = some (.retAddr x)) (k : zR tt G cd bc bs rt M ret nx L ((.retAddr x) :: s) h c n) : zR tt G cd bc bs rt M ret pc L s h c n := zR.step hM (by unfold zstep; rw [hc]; refine Or.inl ?_; unfold zex1; dsimp only; rw [hl]; exact k)
theorem r_istore {i : Nat} {x : Int32} (hM : zmono M) (hc : cd[pc]? = some (some (.istore i, nx, a, b, d, v))) (hl : a < L.length) (k : zR tt G cd bc bs rt M ret nx (zst L a (.int x)) (s) h c n) : zR tt G cd bc bs rt M ret pc L ((.int x) :: s) h c n := zR.step hM (by unfold zstep; rw [hc]; exact Or.inl ⟨hl, k⟩)
theorem r_astore {i : Nat} {x : Nat} (hM : zmono M) (hc : cd[pc]? = some (some (.astore i, nx, a, b, d, v))) (hl : a < L.length) (k : zR tt G cd bc bs rt M ret nx (zst L a (.ref x)) (s) h c n) : zR tt G cd bc bs rt M ret pc L ((.ref x) :: s) h c n := zR.step hM (by unfold zstep; rw [hc]; exact Or.inl ⟨hl, k⟩)
theorem r_astoreN {i : Nat}  (hM : zmono M) (hc : cd[pc]? = some (some (.astore i, nx, a, b, d, v))) (hl : a < L.length) (k : zR tt G cd bc bs rt M ret nx (zst L a (.null)) (s) h c n) : zR tt G cd bc bs rt M ret pc L ((.null) :: s) h c n := zR.step hM (by unfold zstep; rw [hc]; exact Or.inl ⟨hl, k⟩)
theorem r_astoreS {i : Nat} {x : Nat} (hM : zmono M) (hc : cd[pc]? = some (some (.astore i, nx, a, b, d, v))) (hl : a < L.length) (k : zR tt G cd bc bs rt M ret nx (zst L a (.retAddr x)) (s) h c n) : zR tt G cd bc bs rt M ret pc L ((.retAddr x) :: s) h c n := zR.step hM (by unfold zstep; rw [hc]; exact Or.inl ⟨hl, k⟩)
theorem r_lstore {i : Nat} {x : Int64} (hM : zmono M) (hc : cd[pc]? = some (some (.lstore i, nx, a, b, d, v))) (hl : a + 1 < L.length) (k : zR tt G cd bc bs rt M ret nx (zst L a (.long x)) (s) h c n) : zR tt G cd bc bs rt M ret pc L (.long x :: s) h c n := zR.step hM (by unfold zstep; rw [hc]; exact Or.inl ⟨hl, k⟩)
theorem r_iinc {i : Nat} {z : Int} {x y : Int32} (hM : zmono M) (hc : cd[pc]? = some (some (.iinc i z, nx, a, b, d, .int y))) (hl : L.getD a none = some (.int x)) (hn : a < L.length) (k : zR tt G cd bc bs rt M ret nx (zst L a (.int (x + y))) (s) h c n) : zR tt G cd bc bs rt M ret pc L s h c n := zR.step hM (by unfold zstep; rw [hc]; refine Or.inl ?_; unfold zex1; dsimp only; rw [hl]; exact ⟨hn, k⟩)
theorem r_pop {w : Value} (hM : zmono M) (hc : cd[pc]? = some (some (.pop, nx, a, b, d, v))) (hw : w.category = 1) (k : zR tt G cd bc bs rt M ret nx L (s) h c n) : zR tt G cd bc bs rt M ret pc L (w :: s) h c n := zR.step hM (by unfold zstep; rw [hc]; exact Or.inl ⟨hw, k⟩)
theorem r_dup {w : Value} (hM : zmono M) (hc : cd[pc]? = some (some (.dup, nx, a, b, d, v))) (hw : w.category = 1) (k : zR tt G cd bc bs rt M ret nx L (w :: w :: s) h c n) : zR tt G cd bc bs rt M ret pc L (w :: s) h c n := zR.step hM (by unfold zstep; rw [hc]; exact Or.inl ⟨hw, k⟩)
theorem r_dup_x1 {w w2 : Value} (hM : zmono M) (hc : cd[pc]? = some (some (.dup_x1, nx, a, b, d, v))) (hw : w.category = 1) (hw2 : w2.category = 1) (k : zR tt G cd bc bs rt M ret nx L (w :: w2 :: w :: s) h c n) : zR tt G cd bc bs rt M ret pc L (w :: w2 :: s) h c n := zR.step hM (by unfold zstep; rw [hc]; exact Or.inl ⟨hw, hw2, k⟩)
theorem r_dup2 {w w2 : Value} (hM : zmono M) (hc : cd[pc]? = some (some (.dup2, nx, a, b, d, v))) (hw : w.category = 1) (hw2 : w2.category = 1) (k : zR tt G cd bc bs rt M ret nx L (w :: w2 :: w :: w2 :: s) h c n) : zR tt G cd bc bs rt M ret pc L (w :: w2 :: s) h c n := zR.step hM (by unfold zstep; rw [hc]; exact Or.inl ⟨hw, hw2, k⟩)
theorem r_dupl {w : Value} (hM : zmono M) (hc : cd[pc]? = some (some (.dup2_x1, nx, a, b, d, v))) (hw : w.category = 2) (k : zR tt G cd bc bs rt M ret nx L (w :: w :: s) h c n) : zR tt G cd bc bs rt M ret pc L (w :: s) h c n := zR.step hM (by unfold zstep; rw [hc]; exact Or.inl ⟨hw, k⟩)
theorem r_iadd {x y : Int32} (hM : zmono M) (hc : cd[pc]? = some (some (.iadd, nx, a, b, d, v)))  (k : zR tt G cd bc bs rt M ret nx L (.int (x + y) :: s) h c n) : zR tt G cd bc bs rt M ret pc L (.int y :: .int x :: s) h c n := zR.step hM (by unfold zstep; rw [hc]; exact Or.inl k)
theorem r_isub {x y : Int32} (hM : zmono M) (hc : cd[pc]? = some (some (.isub, nx, a, b, d, v)))  (k : zR tt G cd bc bs rt M ret nx L (.int (x - y) :: s) h c n) : zR tt G cd bc bs rt M ret pc L (.int y :: .int x :: s) h c n := zR.step hM (by unfold zstep; rw [hc]; exact Or.inl k)
theorem r_imul {x y : Int32} (hM : zmono M) (hc : cd[pc]? = some (some (.imul, nx, a, b, d, v)))  (k : zR tt G cd bc bs rt M ret nx L (.int (x * y) :: s) h c n) : zR tt G cd bc bs rt M ret pc L (.int y :: .int x :: s) h c n := zR.step hM (by unfold zstep; rw [hc]; exact Or.inl k)
theorem r_iand {x y : Int32} (hM : zmono M) (hc : cd[pc]? = some (some (.iand, nx, a, b, d, v)))  (k : zR tt G cd bc bs rt M ret nx L (.int (x &&& y) :: s) h c n) : zR tt G cd bc bs rt M ret pc L (.int y :: .int x :: s) h c n := zR.step hM (by unfold zstep; rw [hc]; exact Or.inl k)
theorem r_ior {x y : Int32} (hM : zmono M) (hc : cd[pc]? = some (some (.ior, nx, a, b, d, v)))  (k : zR tt G cd bc bs rt M ret nx L (.int (x ||| y) :: s) h c n) : zR tt G cd bc bs rt M ret pc L (.int y :: .int x :: s) h c n := zR.step hM (by unfold zstep; rw [hc]; exact Or.inl k)
theorem r_ishl {x y : Int32} (hM : zmono M) (hc : cd[pc]? = some (some (.ishl, nx, a, b, d, v)))  (k : zR tt G cd bc bs rt M ret nx L (.int (x <<< (y &&& 31)) :: s) h c n) : zR tt G cd bc bs rt M ret pc L (.int y :: .int x :: s) h c n := zR.step hM (by unfold zstep; rw [hc]; exact Or.inl k)
theorem r_ishr {x y : Int32} (hM : zmono M) (hc : cd[pc]? = some (some (.ishr, nx, a, b, d, v)))  (k : zR tt G cd bc bs rt M ret nx L (.int (x >>> (y &&& 31)) :: s) h c n) : zR tt G cd bc bs rt M ret pc L (.int y :: .int x :: s) h c n := zR.step hM (by unfold zstep; rw [hc]; exact Or.inl k)
theorem r_idiv {x y : Int32} (hM : zmono M) (hc : cd[pc]? = some (some (.idiv, nx, a, b, d, v))) (hy : ¬ y = 0) (k : zR tt G cd bc bs rt M ret nx L (.int (x / y) :: s) h c n) : zR tt G cd bc bs rt M ret pc L (.int y :: .int x :: s) h c n := zR.step hM (by unfold zstep; rw [hc]; exact Or.inl ⟨hy, k⟩)
theorem r_ladd {x y : Int64} (hM : zmono M) (hc : cd[pc]? = some (some (.ladd, nx, a, b, d, v)))  (k : zR tt G cd bc bs rt M ret nx L (.long (x + y) :: s) h c n) : zR tt G cd bc bs rt M ret pc L (.long y :: .long x :: s) h c n := zR.step hM (by unfold zstep; rw [hc]; exact Or.inl k)
theorem r_lsub {x y : Int64} (hM : zmono M) (hc : cd[pc]? = some (some (.lsub, nx, a, b, d, v)))  (k : zR tt G cd bc bs rt M ret nx L (.long (x - y) :: s) h c n) : zR tt G cd bc bs rt M ret pc L (.long y :: .long x :: s) h c n := zR.step hM (by unfold zstep; rw [hc]; exact Or.inl k)
theorem r_lmul {x y : Int64} (hM : zmono M) (hc : cd[pc]? = some (some (.lmul, nx, a, b, d, v)))  (k : zR tt G cd bc bs rt M ret nx L (.long (x * y) :: s) h c n) : zR tt G cd bc bs rt M ret pc L (.long y :: .long x :: s) h c n := zR.step hM (by unfold zstep; rw [hc]; exact Or.inl k)
theorem r_land {x y : Int64} (hM : zmono M) (hc : cd[pc]? = some (some (.land, nx, a, b, d, v)))  (k : zR tt G cd bc bs rt M ret nx L (.long (x &&& y) :: s) h c n) : zR tt G cd bc bs rt M ret pc L (.long y :: .long x :: s) h c n := zR.step hM (by unfold zstep; rw [hc]; exact Or.inl k)
theorem r_lor {x y : Int64} (hM : zmono M) (hc : cd[pc]? = some (some (.lor, nx, a, b, d, v)))  (k : zR tt G cd bc bs rt M ret nx L (.long (x ||| y) :: s) h c n) : zR tt G cd bc bs rt M ret pc L (.long y :: .long x :: s) h c n := zR.step hM (by unfold zstep; rw [hc]; exact Or.inl k)
theorem r_lxor {x y : Int64} (hM : zmono M) (hc : cd[pc]? = some (some (.lxor, nx, a, b, d, v)))  (k : zR tt G cd bc bs rt M ret nx L (.long (x ^^^ y) :: s) h c n) : zR tt G cd bc bs rt M ret pc L (.long y :: .long x :: s) h c n := zR.step hM (by unfold zstep; rw [hc]; exact Or.inl k)
theorem r_ldiv {x y : Int64} (hM : zmono M) (hc : cd[pc]? = some (some (.ldiv, nx, a, b, d, v))) (hy : ¬ y = 0) (k : zR tt G cd bc bs rt M ret nx L (.long (x / y) :: s) h c n) : zR tt G cd bc bs rt M ret pc L (.long y :: .long x :: s) h c n := zR.step hM (by unfold zstep; rw [hc]; exact Or.inl ⟨hy, k⟩)
theorem r_lrem {x y : Int64} (hM : zmono M) (hc : cd[pc]? = some (some (.lrem, nx, a, b, d, v))) (hy : ¬ y = 0) (k : zR tt G cd bc bs rt M ret nx L (.long (x - x / y * y) :: s) h c n) : zR tt G cd bc bs rt M ret pc L (.long y :: .long x :: s) h c n := zR.step hM (by unfold zstep; rw [hc]; exact Or.inl ⟨hy, k⟩)
theorem r_lneg {x : Int64} (hM : zmono M) (hc : cd[pc]? = some (some (.lneg, nx, a, b, d, v)))  (k : zR tt G cd bc bs rt M ret nx L (.long (-x) :: s) h c n) : zR tt G cd bc bs rt M ret pc L (.long x :: s) h c n := zR.step hM (by unfold zstep; rw [hc]; exact Or.inl k)
theorem r_lcmp {x y : Int64} (hM : zmono M) (hc : cd[pc]? = some (some (.lcmp, nx, a, b, d, v)))  (k : zR tt G cd bc bs rt M ret nx L (.int (lg_cmp x y) :: s) h c n) : zR tt G cd bc bs rt M ret pc L (.long y :: .long x :: s) h c n := zR.step hM (by unfold zstep; rw [hc]; exact Or.inl k)
theorem r_lshl {x : Int64} {y : Int32} (hM : zmono M) (hc : cd[pc]? = some (some (.lshl, nx, a, b, d, v)))  (k : zR tt G cd bc bs rt M ret nx L (.long (x <<< (y.toInt64 &&& 63)) :: s) h c n) : zR tt G cd bc bs rt M ret pc L (.int y :: .long x :: s) h c n := zR.step hM (by unfold zstep; rw [hc]; exact Or.inl k)
theorem r_lshr {x : Int64} {y : Int32} (hM : zmono M) (hc : cd[pc]? = some (some (.lshr, nx, a, b, d, v)))  (k : zR tt G cd bc bs rt M ret nx L (.long (x >>> (y.toInt64 &&& 63)) :: s) h c n) : zR tt G cd bc bs rt M ret pc L (.int y :: .long x :: s) h c n := zR.step hM (by unfold zstep; rw [hc]; exact Or.inl k)
theorem r_i2l {x : Int32} (hM : zmono M) (hc : cd[pc]? = some (some (.i2l, nx, a, b, d, v)))  (k : zR tt G cd bc bs rt M ret nx L (.long x.toInt64 :: s) h c n) : zR tt G cd bc bs rt M ret pc L (.int x :: s) h c n := zR.step hM (by unfold zstep; rw [hc]; exact Or.inl k)
theorem r_l2i {x : Int64} (hM : zmono M) (hc : cd[pc]? = some (some (.l2i, nx, a, b, d, v)))  (k : zR tt G cd bc bs rt M ret nx L (.int x.toInt32 :: s) h c n) : zR tt G cd bc bs rt M ret pc L (.long x :: s) h c n := zR.step hM (by unfold zstep; rw [hc]; exact Or.inl k)
theorem r_i2b {x : Int32} (hM : zmono M) (hc : cd[pc]? = some (some (.i2b, nx, a, b, d, v)))  (k : zR tt G cd bc bs rt M ret nx L (.int x.toInt8.toInt32 :: s) h c n) : zR tt G cd bc bs rt M ret pc L (.int x :: s) h c n := zR.step hM (by unfold zstep; rw [hc]; exact Or.inl k)
theorem r_goto {i : Int} (hM : zmono M) (hc : cd[pc]? = some (some (.goto i, nx, a, b, d, v)))  (k : zR tt G cd bc bs rt M ret a L (s) h c n) : zR tt G cd bc bs rt M ret pc L s h c n := zR.step hM (by unfold zstep; rw [hc]; exact Or.inl k)
theorem r_if_eq {i : Int} {x : Int32} (hM : zmono M) (hc : cd[pc]? = some (some (.ifCond .eq i, nx, a, b, d, v)))  (kt : x = 0 → zR tt G cd bc bs rt M ret a L (s) h c n) (kf : ¬ x = 0 → zR tt G cd bc bs rt M ret nx L (s) h c n) : zR tt G cd bc bs rt M ret pc L (.int x :: s) h c n := zR.step hM (by unfold zstep; rw [hc]; exact Or.inl ⟨kt, fun z => kf (id z)⟩)
theorem r_icmp_eq {i : Int} {x y : Int32} (hM : zmono M) (hc : cd[pc]? = some (some (.if_icmp .eq i, nx, a, b, d, v)))  (kt : x = y → zR tt G cd bc bs rt M ret a L (s) h c n) (kf : ¬ x = y → zR tt G cd bc bs rt M ret nx L (s) h c n) : zR tt G cd bc bs rt M ret pc L (.int y :: .int x :: s) h c n := zR.step hM (by unfold zstep; rw [hc]; exact Or.inl ⟨kt, fun z => kf (id z)⟩)
theorem r_if_ne {i : Int} {x : Int32} (hM : zmono M) (hc : cd[pc]? = some (some (.ifCond .ne i, nx, a, b, d, v)))  (kt : ¬ x = 0 → zR tt G cd bc bs rt M ret a L (s) h c n) (kf : x = 0 → zR tt G cd bc bs rt M ret nx L (s) h c n) : zR tt G cd bc bs rt M ret pc L (.int x :: s) h c n := zR.step hM (by unfold zstep; rw [hc]; exact Or.inl ⟨kt, fun z => kf (Classical.not_not.mp z)⟩)
theorem r_icmp_ne {i : Int} {x y : Int32} (hM : zmono M) (hc : cd[pc]? = some (some (.if_icmp .ne i, nx, a, b, d, v)))  (kt : ¬ x = y → zR tt G cd bc bs rt M ret a L (s) h c n) (kf : x = y → zR tt G cd bc bs rt M ret nx L (s) h c n) : zR tt G cd bc bs rt M ret pc L (.int y :: .int x :: s) h c n := zR.step hM (by unfold zstep; rw [hc]; exact Or.inl ⟨kt, fun z => kf (Classical.not_not.mp z)⟩)
theorem r_if_lt {i : Int} {x : Int32} (hM : zmono M) (hc : cd[pc]? = some (some (.ifCond .lt i, nx, a, b, d, v)))  (kt : x < 0 → zR tt G cd bc bs rt M ret a L (s) h c n) (kf : 0 ≤ x → zR tt G cd bc bs rt M ret nx L (s) h c n) : zR tt G cd bc bs rt M ret pc L (.int x :: s) h c n := zR.step hM (by unfold zstep; rw [hc]; exact Or.inl ⟨kt, fun z => kf (Int32.not_lt.mp z)⟩)
theorem r_icmp_lt {i : Int} {x y : Int32} (hM : zmono M) (hc : cd[pc]? = some (some (.if_icmp .lt i, nx, a, b, d, v)))  (kt : x < y → zR tt G cd bc bs rt M ret a L (s) h c n) (kf : y ≤ x → zR tt G cd bc bs rt M ret nx L (s) h c n) : zR tt G cd bc bs rt M ret pc L (.int y :: .int x :: s) h c n := zR.step hM (by unfold zstep; rw [hc]; exact Or.inl ⟨kt, fun z => kf (Int32.not_lt.mp z)⟩)
theorem r_if_ge {i : Int} {x : Int32} (hM : zmono M) (hc : cd[pc]? = some (some (.ifCond .ge i, nx, a, b, d, v)))  (kt : 0 ≤ x → zR tt G cd bc bs rt M ret a L (s) h c n) (kf : x < 0 → zR tt G cd bc bs rt M ret nx L (s) h c n) : zR tt G cd bc bs rt M ret pc L (.int x :: s) h c n := zR.step hM (by unfold zstep; rw [hc]; exact Or.inl ⟨kt, fun z => kf (Int32.not_le.mp z)⟩)
theorem r_icmp_ge {i : Int} {x y : Int32} (hM : zmono M) (hc : cd[pc]? = some (some (.if_icmp .ge i, nx, a, b, d, v)))  (kt : y ≤ x → zR tt G cd bc bs rt M ret a L (s) h c n) (kf : x < y → zR tt G cd bc bs rt M ret nx L (s) h c n) : zR tt G cd bc bs rt M ret pc L (.int y :: .int x :: s) h c n := zR.step hM (by unfold zstep; rw [hc]; exact Or.inl ⟨kt, fun z => kf (Int32.not_le.mp z)⟩)
theorem r_if_gt {i : Int} {x : Int32} (hM : zmono M) (hc : cd[pc]? = some (some (.ifCond .gt i, nx, a, b, d, v)))  (kt : 0 < x → zR tt G cd bc bs rt M ret a L (s) h c n) (kf : x ≤ 0 → zR tt G cd bc bs rt M ret nx L (s) h c n) : zR tt G cd bc bs rt M ret pc L (.int x :: s) h c n := zR.step hM (by unfold zstep; rw [hc]; exact Or.inl ⟨kt, fun z => kf (Int32.not_lt.mp z)⟩)
theorem r_icmp_gt {i : Int} {x y : Int32} (hM : zmono M) (hc : cd[pc]? = some (some (.if_icmp .gt i, nx, a, b, d, v)))  (kt : y < x → zR tt G cd bc bs rt M ret a L (s) h c n) (kf : x ≤ y → zR tt G cd bc bs rt M ret nx L (s) h c n) : zR tt G cd bc bs rt M ret pc L (.int y :: .int x :: s) h c n := zR.step hM (by unfold zstep; rw [hc]; exact Or.inl ⟨kt, fun z => kf (Int32.not_lt.mp z)⟩)
theorem r_if_le {i : Int} {x : Int32} (hM : zmono M) (hc : cd[pc]? = some (some (.ifCond .le i, nx, a, b, d, v)))  (kt : x ≤ 0 → zR tt G cd bc bs rt M ret a L (s) h c n) (kf : 0 < x → zR tt G cd bc bs rt M ret nx L (s) h c n) : zR tt G cd bc bs rt M ret pc L (.int x :: s) h c n := zR.step hM (by unfold zstep; rw [hc]; exact Or.inl ⟨kt, fun z => kf (Int32.not_le.mp z)⟩)
theorem r_icmp_le {i : Int} {x y : Int32} (hM : zmono M) (hc : cd[pc]? = some (some (.if_icmp .le i, nx, a, b, d, v)))  (kt : x ≤ y → zR tt G cd bc bs rt M ret a L (s) h c n) (kf : y < x → zR tt G cd bc bs rt M ret nx L (s) h c n) : zR tt G cd bc bs rt M ret pc L (.int y :: .int x :: s) h c n := zR.step hM (by unfold zstep; rw [hc]; exact Or.inl ⟨kt, fun z => kf (Int32.not_le.mp z)⟩)
theorem r_ifnullT {i : Int} (hM : zmono M) (hc : cd[pc]? = some (some (.ifnull i, nx, a, b, d, v)))  (k : zR tt G cd bc bs rt M ret a L (s) h c n) : zR tt G cd bc bs rt M ret pc L (.null :: s) h c n := zR.step hM (by unfold zstep; rw [hc]; exact Or.inl k)
theorem r_ifnullF {i : Int} {r : Nat} (hM : zmono M) (hc : cd[pc]? = some (some (.ifnull i, nx, a, b, d, v)))  (k : zR tt G cd bc bs rt M ret nx L (s) h c n) : zR tt G cd bc bs rt M ret pc L (.ref r :: s) h c n := zR.step hM (by unfold zstep; rw [hc]; exact Or.inl k)
theorem r_ifnonnullF {i : Int} (hM : zmono M) (hc : cd[pc]? = some (some (.ifnonnull i, nx, a, b, d, v)))  (k : zR tt G cd bc bs rt M ret nx L (s) h c n) : zR tt G cd bc bs rt M ret pc L (.null :: s) h c n := zR.step hM (by unfold zstep; rw [hc]; exact Or.inl k)
theorem r_ifnonnullT {i : Int} {r : Nat} (hM : zmono M) (hc : cd[pc]? = some (some (.ifnonnull i, nx, a, b, d, v)))  (k : zR tt G cd bc bs rt M ret a L (s) h c n) : zR tt G cd bc bs rt M ret pc L (.ref r :: s) h c n := zR.step hM (by unfold zstep; rw [hc]; exact Or.inl k)
theorem r_table {df lo hi : Int} {tg : Array Int} {x : Int32} (hM : zmono M) (hc : cd[pc]? = some (some (.tableswitch df lo hi tg, nx, a, b, d, v)))  (kd : (x.toInt < lo ∨ hi < x.toInt) → zR tt G cd bc bs rt M ret df.toNat L (s) h c n) (kt : ¬ x.toInt < lo → ¬ hi < x.toInt → ∃ t : Int, tg[(x.toInt - lo).toNat]? = some t ∧ zR tt G cd bc bs rt M ret t.toNat L (s) h c n) : zR tt G cd bc bs rt M ret pc L (.int x :: s) h c n := zR.step hM (by unfold zstep; rw [hc]; exact Or.inr ⟨kd, kt⟩)
theorem r_lookup {df : Int} {ps : Array (Int × Int)} {x : Int32} (hM : zmono M) (hc : cd[pc]? = some (some (.lookupswitch df ps, nx, a, b, d, v)))  (k : zR tt G cd bc bs rt M ret (Op.lookupswitch.offset ps.toList df x.toInt).toNat L (s) h c n) : zR tt G cd bc bs rt M ret pc L (.int x :: s) h c n := zR.step hM (by unfold zstep; rw [hc]; exact Or.inr k)
theorem r_iald {i : Int32} {r N : Nat} {f : Nat → Int32} (hM : zmono M) (hc : cd[pc]? = some (some (.iaload, nx, a, b, d, v))) (hr : h[r]? = some (.inl (0, N, .inl f))) (hi : vp_in i N) (k : zR tt G cd bc bs rt M ret nx L (.int (f i.toNatClampNeg) :: s) h c n) : zR tt G cd bc bs rt M ret pc L (.int i :: .ref r :: s) h c n := zR.step hM (by unfold zstep; rw [hc]; exact Or.inr ⟨N, f, hr, hi, k⟩)
theorem r_zald {i : Int32} {r N : Nat} {f : Nat → Int32} (hM : zmono M) (hc : cd[pc]? = some (some (.baload, nx, a, b, d, v))) (hr : h[r]? = some (.inl (1, N, .inl f))) (hi : vp_in i N) (k : zR tt G cd bc bs rt M ret nx L (.int (f i.toNatClampNeg) :: s) h c n) : zR tt G cd bc bs rt M ret pc L (.int i :: .ref r :: s) h c n := zR.step hM (by unfold zstep; rw [hc]; exact Or.inr ⟨1, N, f, Or.inl rfl, hr, hi, k⟩)
theorem r_bald {i : Int32} {r N : Nat} {f : Nat → Int32} (hM : zmono M) (hc : cd[pc]? = some (some (.baload, nx, a, b, d, v))) (hr : h[r]? = some (.inl (2, N, .inl f))) (hi : vp_in i N) (k : zR tt G cd bc bs rt M ret nx L (.int (f i.toNatClampNeg) :: s) h c n) : zR tt G cd bc bs rt M ret pc L (.int i :: .ref r :: s) h c n := zR.step hM (by unfold zstep; rw [hc]; exact Or.inr ⟨2, N, f, Or.inr rfl, hr, hi, k⟩)
theorem r_lald {i : Int32} {r N : Nat} {f : Nat → Int64} (hM : zmono M) (hc : cd[pc]? = some (some (.laload, nx, a, b, d, v))) (hr : h[r]? = some (.inl (3, N, .inr (.inl f)))) (hi : vp_in i N) (k : zR tt G cd bc bs rt M ret nx L (.long (f i.toNatClampNeg) :: s) h c n) : zR tt G cd bc bs rt M ret pc L (.int i :: .ref r :: s) h c n := zR.step hM (by unfold zstep; rw [hc]; exact Or.inr ⟨N, f, hr, hi, k⟩)
theorem r_gald {i : Int32} {r N : Nat} {f : Nat → Option Nat} (hM : zmono M) (hc : cd[pc]? = some (some (.aaload, nx, a, b, d, v))) (hr : h[r]? = some (.inl (4, N, .inr (.inr (.inr (.inr f)))))) (hi : vp_in i N) (k : zR tt G cd bc bs rt M ret nx L (zrf (f i.toNatClampNeg) :: s) h c n) : zR tt G cd bc bs rt M ret pc L (.int i :: .ref r :: s) h c n := zR.step hM (by unfold zstep; rw [hc]; exact Or.inr ⟨4, N, f, Or.inl rfl, hr, hi, k⟩)
theorem r_aald {i : Int32} {r N : Nat} {f : Nat → Option Nat} (hM : zmono M) (hc : cd[pc]? = some (some (.aaload, nx, a, b, d, v))) (hr : h[r]? = some (.inl (5, N, .inr (.inr (.inr (.inr f)))))) (hi : vp_in i N) (k : zR tt G cd bc bs rt M ret nx L (zrf (f i.toNatClampNeg) :: s) h c n) : zR tt G cd bc bs rt M ret pc L (.int i :: .ref r :: s) h c n := zR.step hM (by unfold zstep; rw [hc]; exact Or.inr ⟨5, N, f, Or.inr rfl, hr, hi, k⟩)
theorem r_sld {i : Int32} {r : Nat} (hM : zmono M) (hc : cd[pc]? = some (some (.saload, nx, a, b, d, v))) (hi : vp_in i G.2.2.1) (k : zR tt G cd bc bs rt M ret nx L (.int (G.2.2.2 i.toNatClampNeg) :: s) h c n) : zR tt G cd bc bs rt M ret pc L (.int i :: .retAddr r :: s) h c n := zR.step hM (by unfold zstep; rw [hc]; exact Or.inr ⟨hi, k⟩)
theorem r_slen {r : Nat} (hM : zmono M) (hc : cd[pc]? = some (some (.i2s, nx, a, b, d, v)))  (k : zR tt G cd bc bs rt M ret nx L (.int (Int32.ofNat G.2.2.1) :: s) h c n) : zR tt G cd bc bs rt M ret pc L (.retAddr r :: s) h c n := zR.step hM (by unfold zstep; rw [hc]; exact Or.inr k)
theorem r_iast {x i : Int32} {r N : Nat} {f : Nat → Int32} (hM : zmono M) (hc : cd[pc]? = some (some (.iastore, nx, a, b, d, v))) (hr : h[r]? = some (.inl (0, N, .inl f))) (hi : vp_in i N) (k : zR tt G cd bc bs rt M ret nx L (s) (h.set r (.inl (0, N, .inl (upd f i.toNatClampNeg x)))) c n) : zR tt G cd bc bs rt M ret pc L (.int x :: .int i :: .ref r :: s) h c n := zR.step hM (by unfold zstep; rw [hc]; exact Or.inr ⟨N, f, hr, hi, k⟩)
theorem r_zast {x i : Int32} {r N : Nat} {f : Nat → Int32} (hM : zmono M) (hc : cd[pc]? = some (some (.bastore, nx, a, b, d, v))) (hr : h[r]? = some (.inl (1, N, .inl f))) (hi : vp_in i N) (k : zR tt G cd bc bs rt M ret nx L (s) (h.set r (.inl (1, N, .inl (upd f i.toNatClampNeg (vp_nar .boolean x))))) c n) : zR tt G cd bc bs rt M ret pc L (.int x :: .int i :: .ref r :: s) h c n := zR.step hM (by unfold zstep; rw [hc]; exact Or.inr ⟨1, N, f, Or.inl rfl, hr, hi, k⟩)
theorem r_bast {x i : Int32} {r N : Nat} {f : Nat → Int32} (hM : zmono M) (hc : cd[pc]? = some (some (.bastore, nx, a, b, d, v))) (hr : h[r]? = some (.inl (2, N, .inl f))) (hi : vp_in i N) (k : zR tt G cd bc bs rt M ret nx L (s) (h.set r (.inl (2, N, .inl (upd f i.toNatClampNeg (vp_nar .byte x))))) c n) : zR tt G cd bc bs rt M ret pc L (.int x :: .int i :: .ref r :: s) h c n := zR.step hM (by unfold zstep; rw [hc]; exact Or.inr ⟨2, N, f, Or.inr rfl, hr, hi, k⟩)
theorem r_last {x : Int64} {i : Int32} {r N : Nat} {f : Nat → Int64} (hM : zmono M) (hc : cd[pc]? = some (some (.lastore, nx, a, b, d, v))) (hr : h[r]? = some (.inl (3, N, .inr (.inl f)))) (hi : vp_in i N) (k : zR tt G cd bc bs rt M ret nx L (s) (h.set r (.inl (3, N, .inr (.inl (vp_updL f i.toNatClampNeg x))))) c n) : zR tt G cd bc bs rt M ret pc L (.long x :: .int i :: .ref r :: s) h c n := zR.step hM (by unfold zstep; rw [hc]; exact Or.inr ⟨N, f, hr, hi, k⟩)
theorem r_aast {y : Nat} {i : Int32} {r N : Nat} {fs : List Value} {f : Nat → Option Nat} (hM : zmono M) (hc : cd[pc]? = some (some (.aastore, nx, a, b, d, v))) (hr : h[r]? = some (.inl (5, N, .inr (.inr (.inr (.inr f)))))) (hy : h[y]? = some (.inr (d, fs))) (hi : vp_in i N) (k : zR tt G cd bc bs rt M ret nx L (s) (h.set r (.inl (5, N, .inr (.inr (.inr (.inr (va_up f i.toNatClampNeg (some y)))))))) c n) : zR tt G cd bc bs rt M ret pc L (.ref y :: .int i :: .ref r :: s) h c n := zR.step hM (by unfold zstep; rw [hc]; exact Or.inr ⟨5, N, f, Or.inr ⟨rfl, fs, hy⟩, hr, hi, k⟩)
theorem r_gast {y : Nat} {i : Int32} {r N K : Nat} {g : Nat → Int32} {f : Nat → Option Nat} (hM : zmono M) (hc : cd[pc]? = some (some (.aastore, nx, a, b, d, v))) (hr : h[r]? = some (.inl (4, N, .inr (.inr (.inr (.inr f)))))) (hy : h[y]? = some (.inl (0, K, .inl g))) (hi : vp_in i N) (k : zR tt G cd bc bs rt M ret nx L (s) (h.set r (.inl (4, N, .inr (.inr (.inr (.inr (va_up f i.toNatClampNeg (some y)))))))) c n) : zR tt G cd bc bs rt M ret pc L (.ref y :: .int i :: .ref r :: s) h c n := zR.step hM (by unfold zstep; rw [hc]; exact Or.inr ⟨4, N, f, Or.inl ⟨rfl, K, g, hy⟩, hr, hi, k⟩)
theorem r_alen {r kd N : Nat} {x : (Nat → Int32) ⊕ (Nat → Int64) ⊕ (Nat → UInt32) ⊕ (Nat → UInt64) ⊕ (Nat → Option Nat)} (hM : zmono M) (hc : cd[pc]? = some (some (.arraylength, nx, a, b, d, v))) (hr : h[r]? = some (.inl (kd, N, x))) (hk : kd < 6) (k : zR tt G cd bc bs rt M ret nx L (.int (Int32.ofNat N) :: s) h c n) : zR tt G cd bc bs rt M ret pc L (.ref r :: s) h c n := zR.step hM (by unfold zstep; rw [hc]; exact Or.inr ⟨kd, N, x, hk, hr, k⟩)
theorem r_newa {t : ArrayType} {x : Int32} {N : Nat} (hM : zmono M) (hc : cd[pc]? = some (some (.newarray t, nx, a, b, d, v))) (hx : ¬ x < 0) (hN : x.toNatClampNeg = N) (hs : N ≤ 10000) (h1 : c + 1 ≤ bc) (h2 : n + N ≤ bs) (ht : zkind t < 4) (k : zR tt G cd bc bs rt M ret nx L (.ref h.length :: s) (h ++ [zarr (zkind t) N]) (c + 1) (n + N)) : zR tt G cd bc bs rt M ret pc L (.int x :: s) h c n := zR.step hM (by unfold zstep; rw [hc]; exact Or.inr (by subst hN; exact ⟨hx, hs, h1, h2, ht, k⟩))
theorem r_anewa {i : Nat} {x : Int32} {N : Nat} (hM : zmono M) (hc : cd[pc]? = some (some (.anewarray i, nx, a, b, d, v))) (hx : ¬ x < 0) (hN : x.toNatClampNeg = N) (hs : N ≤ 10000) (h1 : c + 1 ≤ bc) (h2 : n + N ≤ bs) (ht : a = 4 ∨ a = 5) (k : zR tt G cd bc bs rt M ret nx L (.ref h.length :: s) (h ++ [zarr a N]) (c + 1) (n + N)) : zR tt G cd bc bs rt M ret pc L (.int x :: s) h c n := zR.step hM (by unfold zstep; rw [hc]; exact Or.inr (by subst hN; exact ⟨hx, hs, h1, h2, ht, k⟩))
theorem r_mnewa {i : Nat} {x y : Int32} {N K : Nat} (hM : zmono M) (hc : cd[pc]? = some (some (.multianewarray i 2, nx, a, b, d, v))) (hx : ¬ x < 0) (hy : ¬ y < 0) (hN : x.toNatClampNeg = N) (hK : y.toNatClampNeg = K) (hs : N ≤ 10000) (hs2 : K ≤ 10000) (h1 : c + (1 + N) ≤ bc) (h2 : n + (N + N * K) ≤ bs) (k : zR tt G cd bc bs rt M ret nx L (.ref h.length :: s) (h ++ zrows h.length N K) (c + 1 + N) (n + N + N * K)) : zR tt G cd bc bs rt M ret pc L (.int y :: .int x :: s) h c n := zR.step hM (by unfold zstep; rw [hc]; exact Or.inr (by subst hN; subst hK; exact ⟨hx, hy, hs, hs2, h1, h2, k⟩))
theorem r_new {i : Nat} {fs : List Value} (hM : zmono M) (hc : cd[pc]? = some (some (.new i, nx, a, b, d, v))) (hf : zcls tt a = fs) (h1 : c + 1 ≤ bc) (h2 : n + fs.length ≤ bs) (k : zR tt G cd bc bs rt M ret nx L (.ref h.length :: s) (h ++ [.inr (a, fs)]) (c + 1) (n + fs.length)) : zR tt G cd bc bs rt M ret pc L s h c n := zR.step hM (by unfold zstep; rw [hc]; exact Or.inr (by subst hf; exact ⟨h1, h2, k⟩))
theorem r_get {i r : Nat} {fs : List Value} {w : Value} (hM : zmono M) (hc : cd[pc]? = some (some (.getfield i, nx, a, b, d, v))) (hr : h[r]? = some (.inr (a, fs))) (hw : fs[b]? = some w) (k : zR tt G cd bc bs rt M ret nx L (w :: s) h c n) : zR tt G cd bc bs rt M ret pc L (.ref r :: s) h c n := zR.step hM (by unfold zstep; rw [hc]; exact Or.inr ⟨fs, w, hr, hw, k⟩)
theorem r_put {i r : Nat} {fs : List Value} {w : Value} {t : FieldType} (hM : zmono M) (hc : cd[pc]? = some (some (.putfield i, nx, a, b, d, v))) (hr : h[r]? = some (.inr (a, fs))) (hl : b < fs.length) (ht : (tt[a]?).map (fun q => q.1 b) = some t) (hn : narrow t w = w) (hf : fits t w = true) (k : zR tt G cd bc bs rt M ret nx L (s) (h.set r (.inr (a, fs.set b w))) c n) : zR tt G cd bc bs rt M ret pc L (w :: .ref r :: s) h c n := zR.step hM (by unfold zstep; rw [hc]; exact Or.inr ⟨fs, t, hr, hl, ht, hn, hf, k⟩)
theorem r_oinit {r : Nat} (hM : zmono M) (hc : cd[pc]? = some (some (.pop2, nx, a, b, d, v))) (hs : (s.map fun v => v.category).sum ≤ 8) (k : zR tt G cd bc bs rt M ret nx L (s) h c n) : zR tt G cd bc bs rt M ret pc L (.ref r :: s) h c n := zR.step hM (by unfold zstep; rw [hc]; exact Or.inr ⟨hs, k⟩)
theorem r_virt {i r : Nat} {as : List Value} {fs : List Value} {st : List Value} {m1 m2 : Nat} (hM : zmono M) (hc : cd[pc]? = some (some (.invokevirtual i, nx, a, b, d, v))) (he : st = as.reverse ++ .ref r :: s) (hl : as.length = b) (hr : h[r]? = some (.inr (d, fs))) (hs : (s.map fun v => v.category).sum ≤ 8) (hb : zbud G a = (m1, m2)) (h1 : c + m1 ≤ bc) (h2 : n + m2 ≤ bs) (k : M a (.ref r :: as) h (fun w h2 => zR tt G cd bc bs rt M ret nx L (w.toList ++ s) h2 (c + m1) (n + m2))) : zR tt G cd bc bs rt M ret pc L st h c n := by
  subst he; subst hl
  have e1 : (as.reverse ++ Value.ref r :: s).drop as.length = .ref r :: s := by rw [← List.length_reverse, List.drop_left]
  have e2 : (as.reverse ++ Value.ref r :: s).take as.length = as.reverse := by rw [← List.length_reverse, List.take_left]
  refine zR.step hM ?_
  unfold zstep; rw [hc]
  refine Or.inr ?_
  show (match (as.reverse ++ Value.ref r :: s).drop as.length with | .ref r2 :: s2 => _ | _ => False)
  rw [e1]
  show ((as.reverse ++ Value.ref r :: s).take as.length).length = as.length ∧ _
  rw [e2, List.reverse_reverse, hb]
  exact ⟨List.length_reverse, ⟨fs, hr⟩, hs, h1, h2, k⟩
theorem r_spec {i r : Nat} {as : List Value} {st : List Value} {m1 m2 : Nat} (hM : zmono M) (hc : cd[pc]? = some (some (.invokespecial i, nx, a, b, d, v))) (he : st = as.reverse ++ .ref r :: s) (hl : as.length = b) (hs : (s.map fun v => v.category).sum ≤ 8) (hb : zbud G a = (m1, m2)) (h1 : c + m1 ≤ bc) (h2 : n + m2 ≤ bs) (k : M a (.ref r :: as) h (fun w h2 => zR tt G cd bc bs rt M ret nx L (w.toList ++ s) h2 (c + m1) (n + m2))) : zR tt G cd bc bs rt M ret pc L st h c n := by
  subst he; subst hl
  have e1 : (as.reverse ++ Value.ref r :: s).drop as.length = .ref r :: s := by rw [← List.length_reverse, List.drop_left]
  have e2 : (as.reverse ++ Value.ref r :: s).take as.length = as.reverse := by rw [← List.length_reverse, List.take_left]
  refine zR.step hM ?_
  unfold zstep; rw [hc]
  refine Or.inr ?_
  show (match (as.reverse ++ Value.ref r :: s).drop as.length with | .ref r2 :: s2 => _ | _ => False)
  rw [e1]
  show ((as.reverse ++ Value.ref r :: s).take as.length).length = as.length ∧ _
  rw [e2, List.reverse_reverse, hb]
  exact ⟨List.length_reverse, hs, h1, h2, k⟩
theorem r_stat {i : Nat} {as : List Value} {st : List Value} {m1 m2 : Nat} (hM : zmono M) (hc : cd[pc]? = some (some (.invokestatic i, nx, a, b, d, v))) (he : st = as.reverse ++ s) (hl : as.length = b) (hs : (s.map fun v => v.category).sum ≤ 8) (hb : zbud G a = (m1, m2)) (h1 : c + m1 ≤ bc) (h2 : n + m2 ≤ bs) (k : M a as h (fun w h2 => zR tt G cd bc bs rt M ret nx L (w.toList ++ s) h2 (c + m1) (n + m2))) : zR tt G cd bc bs rt M ret pc L st h c n := by
  subst he; subst hl
  have e1 : (as.reverse ++ s).drop as.length = s := by rw [← List.length_reverse, List.drop_left]
  have e2 : (as.reverse ++ s).take as.length = as.reverse := by rw [← List.length_reverse, List.take_left]
  refine zR.step hM ?_
  unfold zstep; rw [hc]
  refine Or.inr ?_
  show ((as.reverse ++ s).take as.length).length = as.length ∧ _
  rw [e2, e1, List.reverse_reverse, hb]
  exact ⟨List.length_reverse, hs, h1, h2, k⟩
theorem r_iret {x : Int32} {t : FieldType} (hM : zmono M) (hc : cd[pc]? = some (some (.ireturn, nx, a, b, d, v))) (ht : rt = some t) (hn : narrow t (.int x) = .int x) (k : ret (some (.int x)) h) : zR tt G cd bc bs rt M ret pc L [.int x] h c n := zR.step hM (by unfold zstep; rw [hc]; exact Or.inr ⟨⟨t, ht, hn⟩, k⟩)
theorem r_lret {x : Int64} (hM : zmono M) (hc : cd[pc]? = some (some (.lreturn, nx, a, b, d, v))) (ht : rt = some .long) (k : ret (some (.long x)) h) : zR tt G cd bc bs rt M ret pc L [.long x] h c n := zR.step hM (by unfold zstep; rw [hc]; exact Or.inr ⟨ht, k⟩)
theorem r_vret (hM : zmono M) (hc : cd[pc]? = some (some (.return_, nx, a, b, d, v))) (ht : rt = none) (k : ret none h) : zR tt G cd bc bs rt M ret pc L [] h c n := zR.step hM (by unfold zstep; rw [hc]; exact Or.inr ⟨ht, k⟩)
theorem r_aret {x : Nat} {t : FieldType} (hM : zmono M) (hc : cd[pc]? = some (some (.areturn, nx, a, b, d, v))) (ht : rt = some t) (hn : fits t .null = true) (k : ret (some (.ref x)) h) : zR tt G cd bc bs rt M ret pc L [.ref x] h c n := zR.step hM (by unfold zstep; rw [hc]; exact Or.inr ⟨⟨t, ht, hn⟩, k⟩)
theorem r_sret {x : Nat} {t : FieldType} (hM : zmono M) (hc : cd[pc]? = some (some (.areturn, nx, a, b, d, v))) (ht : rt = some t) (hn : fits t .null = true) (k : ret (some (.retAddr x)) h) : zR tt G cd bc bs rt M ret pc L [.retAddr x] h c n := zR.step hM (by unfold zstep; rw [hc]; exact Or.inr ⟨⟨t, ht, hn⟩, k⟩)
theorem r_nret {t : FieldType} (hM : zmono M) (hc : cd[pc]? = some (some (.areturn, nx, a, b, d, v))) (ht : rt = some t) (hn : fits t .null = true) (k : ret (some .null) h) : zR tt G cd bc bs rt M ret pc L [.null] h c n := zR.step hM (by unfold zstep; rw [hc]; exact Or.inr ⟨⟨t, ht, hn⟩, k⟩)
theorem r_chr {i : Int32} {q : Nat} (hM : zmono M) (hc : cd[pc]? = some (some (.caload, nx, a, b, d, v))) (hi : vp_in i (G.2.1 q).length) (k : zR tt G cd bc bs rt M ret nx L (.int ((G.2.1 q).getD i.toNatClampNeg 0) :: s) h c n) : zR tt G cd bc bs rt M ret pc L (.int i :: .retAddr q :: s) h c n := zR.step hM (by unfold zstep; rw [hc]; exact Or.inr ⟨hi, k⟩)
theorem r_tlen {q : Nat} (hM : zmono M) (hc : cd[pc]? = some (some (.i2c, nx, a, b, d, v)))  (k : zR tt G cd bc bs rt M ret nx L (.int (Int32.ofNat (G.2.1 q).length) :: s) h c n) : zR tt G cd bc bs rt M ret pc L (.retAddr q :: s) h c n := zR.step hM (by unfold zstep; rw [hc]; exact Or.inr k)
end ZROWS
end
section
/-! what the small machine's states are in the machine's own -/
def zcv (B : Nat) (aS : Nat → Nat) : Value → Value
  | .ref i => .ref (B + i)
  | .retAddr k => .ref (aS k)
  | w => w
theorem zcv_cat (B : Nat) (aS : Nat → Nat) (w : Value) : (zcv B aS w).category = w.category := by cases w <;> rfl
theorem zcv_sum (B : Nat) (aS : Nat → Nat) (s : List Value) : ((s.map (zcv B aS)).map fun v => v.category) = s.map fun v => v.category := by
  rw [List.map_map]
  exact List.map_congr_left fun w _ => zcv_cat B aS w
def zcA (B : Nat) (x : vp_A) : vp_A := match x with
  | (N, .inr (.inr (.inr (.inr f)))) => (N, .inr (.inr (.inr (.inr (fun j => (f j).map (fun a => B + a))))))
  | (N, y) => (N, y)
def zcE (B : Nat) (dA : Nat → ClassId) (aS : Nat → Nat) : zC → va_E
  | .inl (k, x) => .inl (dA k, zcA B x)
  | .inr (k, fs) => .inr (k, fs.map (zcv B aS))
def zhR (B : Nat) (D : va_G) (cl : List vw_C) (dA : Nat → ClassId) (aS : Nat → Nat) (h : zH) (H : Heap) : Prop :=
  H.size = B + h.length ∧ ∀ (i : Nat) (e : zC), h[i]? = some e → va_at D cl (B + i, zcE B dA aS e) H
def zLs (f : Value → Value) (nL : Nat) (L : zL) (ls : Array Slot) : Prop := L.length = nL ∧ ls.size = nL ∧ lv_wf ls ∧ ∀ (i : Nat) (v : Value), L.getD i none = some v → ls[i]? = some (.val (f v))
def zlv (f : Value → Value) (nL : Nat) (L : zL) : List (Nat × Value) := (List.range nL).filterMap (fun i => (L.getD i none).map (fun v => (i, f v)))
theorem zlv_mem {f : Value → Value} {nL : Nat} {L : zL} {q : Nat × Value} : q ∈ zlv f nL L ↔ q.1 < nL ∧ ∃ v, L.getD q.1 none = some v ∧ q.2 = f v := by
  unfold zlv
  rw [List.mem_filterMap]
  constructor
  · rintro ⟨i, hi, h⟩
    obtain ⟨v, hv, rfl⟩ := Option.map_eq_some_iff.mp h
    exact ⟨List.mem_range.mp hi, v, hv, rfl⟩
  · rintro ⟨h1, v, h2, h3⟩
    refine ⟨q.1, List.mem_range.mpr h1, ?_⟩
    rw [h2, Option.map_some, ← h3]
theorem zLs.has {f : Value → Value} {nL : Nat} {L : zL} {ls : Array Slot} (h : zLs f nL L ls) : lv_has ls nL (zlv f nL L) := ⟨h.2.1, h.2.2.1, fun q hq => by
  obtain ⟨-, v, h2, h3⟩ := zlv_mem.mp hq
  rw [h3]
  exact h.2.2.2 _ _ h2⟩
theorem zset_get {L : zL} {i j : Nat} {x : Option Value} {w : Value} (h : (L.set i x).getD j none = some w) : (j = i ∧ x = some w) ∨ (j ≠ i ∧ L.getD j none = some w) := by
  rw [List.getD_eq_getElem?_getD, List.getElem?_set] at h
  by_cases e : i = j
  · subst e
    rw [if_pos rfl] at h
    by_cases hl : i < L.length
    · rw [if_pos hl] at h
      exact Or.inl ⟨rfl, h⟩
    · rw [if_neg hl] at h
      cases h
  · rw [if_neg e] at h
    exact Or.inr ⟨fun q => e q.symm, by rw [List.getD_eq_getElem?_getD]; exact h⟩
theorem zclr_succ (L : zL) (j : Nat) : zclr L (j + 1) = (match L.getD j none with
    | some w => bif w.category == 2 then L.set j none else L
    | none => L) := rfl
theorem zclr_get {L : zL} {i j : Nat} {w : Value} (h : (zclr L i).getD j none = some w) : L.getD j none = some w ∧ (j + 1 = i → w.category ≠ 2) := by
  cases i with
  | zero => exact ⟨h, fun q => by omega⟩
  | succ i =>
    rw [zclr_succ] at h
    split at h
    · rename_i w2 hw2
      by_cases hc : w2.category = 2
      · rw [show (w2.category == 2) = true by simp [hc]] at h
        rcases zset_get h with ⟨-, q⟩ | ⟨h1, h2⟩
        · cases q
        · exact ⟨h2, fun q => absurd (by omega) h1⟩
      · rw [show (w2.category == 2) = false by simp [hc]] at h
        refine ⟨h, fun q => ?_⟩
        have e : j = i := by omega
        subst e
        have h' : L.getD j none = some w := h
        rw [hw2] at h'
        cases h'
        exact hc
    · rename_i hn
      refine ⟨h, fun q => ?_⟩
      have e : j = i := by omega
      subst e
      have h' : L.getD j none = some w := h
      rw [hn] at h'
      cases h'
theorem zclr_len (L : zL) (i : Nat) : (zclr L i).length = L.length := by
  cases i with
  | zero => rfl
  | succ i =>
    rw [zclr_succ]
    split
    · rename_i w hw
      cases (w.category == 2)
      · rfl
      · exact List.length_set
    · rfl
theorem zst_len (L : zL) (i : Nat) (v : Value) : (zst L i v).length = L.length := by
  unfold zst
  cases (v.category == 2)
  · show ((zclr L i).set i (some v)).length = _
    rw [List.length_set, zclr_len]
  · show (((zclr L i).set i (some v)).set (i + 1) none).length = _
    rw [List.length_set, List.length_set, zclr_len]
theorem zLs.store1 {f : Value → Value} (hf : ∀ w, (f w).category = w.category) {nL i : Nat} {L : zL} {x : Value} (hx : x.category = 1) (hl : L.length = nL) {ls' : Array Slot} (h : lv_has ls' nL ((i, f x) :: (zlv f nL L).filter (fun q => !(q.1 == i) && !(q.1 + 1 == i && q.2.category == 2)))) : zLs f nL (zst L i x) ls' := by
  refine ⟨by rw [zst_len]; exact hl, h.1, h.2.1, fun j w hw => ?_⟩
  unfold zst at hw
  rw [show (x.category == 2) = false by rw [hx]; rfl] at hw
  rcases zset_get hw with ⟨rfl, q⟩ | ⟨h1, h2⟩
  · cases q
    exact h.2.2 (j, f x) List.mem_cons_self
  · obtain ⟨h3, h4⟩ := zclr_get h2
    have hj : j < nL := by
      rw [← hl]
      rw [List.getD_eq_getElem?_getD] at h3
      by_cases q : j < L.length
      · exact q
      · rw [List.getElem?_eq_none (by omega)] at h3
        cases h3
    refine h.2.2 (j, f w) (List.mem_cons_of_mem _ (List.mem_filter.mpr ⟨zlv_mem.mpr ⟨hj, w, h3, rfl⟩, ?_⟩))
    have e1 : (j == i) = false := by simpa using h1
    have e2 : (j + 1 == i && (f w).category == 2) = false := by
      by_cases q : j + 1 = i
      · have := h4 q
        rw [hf]
        simp [this]
      · simp [q]
    simp [e1, e2]
theorem zLs.store2 {f : Value → Value} (hf : ∀ w, (f w).category = w.category) {nL i : Nat} {L : zL} {x : Value} (hx : x.category = 2) (hl : L.length = nL) {ls' : Array Slot} (h : lv_has ls' nL ((i, f x) :: (zlv f nL L).filter (fun q => !(q.1 == i) && (!(q.1 == i + 1) && !(q.1 + 1 == i && q.2.category == 2))))) : zLs f nL (zst L i x) ls' := by
  refine ⟨by rw [zst_len]; exact hl, h.1, h.2.1, fun j w hw => ?_⟩
  unfold zst at hw
  rw [show (x.category == 2) = true by rw [hx]; rfl] at hw
  rcases zset_get hw with ⟨-, q⟩ | ⟨h0, hw⟩
  · cases q
  rcases zset_get hw with ⟨rfl, q⟩ | ⟨h1, h2⟩
  · cases q
    exact h.2.2 (j, f x) List.mem_cons_self
  · obtain ⟨h3, h4⟩ := zclr_get h2
    have hj : j < nL := by
      rw [← hl]
      rw [List.getD_eq_getElem?_getD] at h3
      by_cases q : j < L.length
      · exact q
      · rw [List.getElem?_eq_none (by omega)] at h3
        cases h3
    refine h.2.2 (j, f w) (List.mem_cons_of_mem _ (List.mem_filter.mpr ⟨zlv_mem.mpr ⟨hj, w, h3, rfl⟩, ?_⟩))
    have e1 : (j == i) = false := by simpa using h1
    have e3 : (j == i + 1) = false := by simpa using h0
    have e2 : (j + 1 == i && (f w).category == 2) = false := by
      by_cases q : j + 1 = i
      · have := h4 q
        rw [hf]
        simp [this]
      · simp [q]
    simp [e1, e2, e3]
def wX (p : Program) (l : Launch) (e : Env) (R : Room) (s : State) (m : MethodId) (args : Array Value) (below : List Frame) (meth : Method) (c : Code) (Q : State → Prop) (B : Nat) (D : va_G) (cl : List vw_C) (dA : Nat → ClassId) (aS : Nat → Nat) (nL bc bs : Nat) : zX := fun pc L st h cn sn =>
  cn ≤ bc → sn ≤ bs → ∀ (H : Heap) (locs : List Loc) (lsA : Array Slot), zhR B D cl dA aS h H → va_S (fun q => B ≤ q) s.heap H locs → zLs (zcv B aS) nL L lsA → W p l e R s m args below meth c H locs cn sn Q (F0 m pc lsA (st.map (zcv B aS)))
section SIM1
variable {p : Program} {l : Launch} {e : Env} {R : Room} {s : State} {m : MethodId} {args : Array Value} {below : List Frame} {meth : Method} {c : Code} {Q : State → Prop} {cc : ByteArray} {B : Nat} {D : va_G} {cl : List vw_C} {dA : Nat → ClassId} {aS : Nat → Nat} {nL bc bs pc : Nat}
variable {a b d : Nat} {v : Value} {L : zL} {st : List Value} {h : zH} {cn sn : Nat}
theorem s_iconst {i : Int} (hx : p.tables.exec = Jvm.exec) (hb : c.code = cc) (hdg : decode cc pc = .ok (.iconst i, 1)) (hv : v = .int (Int32.ofInt i))  (hz : zex1 (wX p l e R s m args below meth c Q B D cl dA aS nL bc bs) (.aconst_null, pc + 1, a, b, d, v) L st h cn sn) : wX p l e R s m args below meth c Q B D cl dA aS nL bc bs pc L st h cn sn := by
  intro hc1 hc2 H locs lsA hH hS hL
  unfold zex1 at hz
  dsimp only at hz
  subst hv
  exact lv_iconst hx hb hdg rfl (hz hc1 hc2 _ _ _ hH hS hL)
theorem s_bipush {i : Int} (hx : p.tables.exec = Jvm.exec) (hb : c.code = cc) (hdg : decode cc pc = .ok (.bipush i, 2)) (hv : v = .int (Int8.ofInt i).toInt32)  (hz : zex1 (wX p l e R s m args below meth c Q B D cl dA aS nL bc bs) (.aconst_null, pc + 2, a, b, d, v) L st h cn sn) : wX p l e R s m args below meth c Q B D cl dA aS nL bc bs pc L st h cn sn := by
  intro hc1 hc2 H locs lsA hH hS hL
  unfold zex1 at hz
  dsimp only at hz
  subst hv
  exact lv_bipush hx hb hdg rfl (hz hc1 hc2 _ _ _ hH hS hL)
theorem s_sipush {i : Int} (hx : p.tables.exec = Jvm.exec) (hb : c.code = cc) (hdg : decode cc pc = .ok (.sipush i, 3)) (hv : v = .int (Int16.ofInt i).toInt32)  (hz : zex1 (wX p l e R s m args below meth c Q B D cl dA aS nL bc bs) (.aconst_null, pc + 3, a, b, d, v) L st h cn sn) : wX p l e R s m args below meth c Q B D cl dA aS nL bc bs pc L st h cn sn := by
  intro hc1 hc2 H locs lsA hH hS hL
  unfold zex1 at hz
  dsimp only at hz
  subst hv
  exact lv_sipush hx hb hdg rfl (hz hc1 hc2 _ _ _ hH hS hL)
theorem s_lconst {i : Fin 2} (hx : p.tables.exec = Jvm.exec) (hb : c.code = cc) (hdg : decode cc pc = .ok (.lconst i, 1)) (hv : v = .long (Int64.ofNat (i : Nat)))  (hz : zex1 (wX p l e R s m args below meth c Q B D cl dA aS nL bc bs) (.aconst_null, pc + 1, a, b, d, v) L st h cn sn) : wX p l e R s m args below meth c Q B D cl dA aS nL bc bs pc L st h cn sn := by
  intro hc1 hc2 H locs lsA hH hS hL
  unfold zex1 at hz
  dsimp only at hz
  subst hv
  exact lv_lconst hx hb hdg rfl (hz hc1 hc2 _ _ _ hH hS hL)
theorem s_null  (hx : p.tables.exec = Jvm.exec) (hb : c.code = cc) (hdg : decode cc pc = .ok (.aconst_null, 1)) (hv : v = .null) (hz : zex1 (wX p l e R s m args below meth c Q B D cl dA aS nL bc bs) (.aconst_null, pc + 1, a, b, d, v) L st h cn sn) : wX p l e R s m args below meth c Q B D cl dA aS nL bc bs pc L st h cn sn := by
  intro hc1 hc2 H locs lsA hH hS hL
  unfold zex1 at hz
  dsimp only at hz
  subst hv
  exact lv_null hx hb hdg (hz hc1 hc2 _ _ _ hH hS hL)
theorem s_ldc {i : Nat} (hx : p.tables.exec = Jvm.exec) (hb : c.code = cc) (hdg : decode cc pc = .ok (.ldc i, 2)) {own : String} {x : Int32} (hv : v = .int x) (hown : s.vm.findClass own = some m.cls) (hcon : (Jvm.Cond.constant own i x).before args s = true) (hz : zex1 (wX p l e R s m args below meth c Q B D cl dA aS nL bc bs) (.aconst_null, pc + 2, a, b, d, v) L st h cn sn) : wX p l e R s m args below meth c Q B D cl dA aS nL bc bs pc L st h cn sn := by
  intro hc1 hc2 H locs lsA hH hS hL
  unfold zex1 at hz
  dsimp only at hz
  subst hv
  exact lv_ldc hx hb hown hcon hdg (hz hc1 hc2 _ _ _ hH hS hL)
theorem s_ldcw {i : Nat} (hx : p.tables.exec = Jvm.exec) (hb : c.code = cc) (hdg : decode cc pc = .ok (.ldc_w i, 3)) {own : String} {x : Int32} (hv : v = .int x) (hown : s.vm.findClass own = some m.cls) (hcon : (Jvm.Cond.constant own i x).before args s = true) (hz : zex1 (wX p l e R s m args below meth c Q B D cl dA aS nL bc bs) (.aconst_null, pc + 3, a, b, d, v) L st h cn sn) : wX p l e R s m args below meth c Q B D cl dA aS nL bc bs pc L st h cn sn := by
  intro hc1 hc2 H locs lsA hH hS hL
  unfold zex1 at hz
  dsimp only at hz
  subst hv
  exact lv_ldcw hx hb hown hcon hdg (hz hc1 hc2 _ _ _ hH hS hL)
theorem s_ldc2 {i : Nat} (hx : p.tables.exec = Jvm.exec) (hb : c.code = cc) (hdg : decode cc pc = .ok (.ldc2_w i, 3)) {own : String} {x : Int64} (hv : v = .long x) (hown : s.vm.findClass own = some m.cls) (hcon : (Jvm.Cond.constantLong own i x).before args s = true) (hz : zex1 (wX p l e R s m args below meth c Q B D cl dA aS nL bc bs) (.aconst_null, pc + 3, a, b, d, v) L st h cn sn) : wX p l e R s m args below meth c Q B D cl dA aS nL bc bs pc L st h cn sn := by
  intro hc1 hc2 H locs lsA hH hS hL
  unfold zex1 at hz
  dsimp only at hz
  subst hv
  exact lv_ldc2 hx hb hown hcon hdg (hz hc1 hc2 _ _ _ hH hS hL)
theorem s_iload_n {j : Nat} {k : Fin 4} (hx : p.tables.exec = Jvm.exec) (hb : c.code = cc) (hdg : decode cc pc = .ok (.iload_n k, 1)) (hk : (k : Nat) = a) (hz : zex1 (wX p l e R s m args below meth c Q B D cl dA aS nL bc bs) (.iload j, pc + 1, a, b, d, v) L st h cn sn) : wX p l e R s m args below meth c Q B D cl dA aS nL bc bs pc L st h cn sn := by
  intro hc1 hc2 H locs lsA hH hS hL
  unfold zex1 at hz
  dsimp only at hz
  split at hz
  · rename_i x hx9
    exact lv_iload_n hx hb hdg hk (hL.2.2.2 _ _ hx9) (hz hc1 hc2 _ _ _ hH hS hL)
  · exact hz.elim
theorem s_iload {j : Nat}  (hx : p.tables.exec = Jvm.exec) (hb : c.code = cc) (hdg : decode cc pc = .ok (.iload a, 2))  (hz : zex1 (wX p l e R s m args below meth c Q B D cl dA aS nL bc bs) (.iload j, pc + 2, a, b, d, v) L st h cn sn) : wX p l e R s m args below meth c Q B D cl dA aS nL bc bs pc L st h cn sn := by
  intro hc1 hc2 H locs lsA hH hS hL
  unfold zex1 at hz
  dsimp only at hz
  split at hz
  · rename_i x hx9
    exact lv_iload hx hb hdg  (hL.2.2.2 _ _ hx9) (hz hc1 hc2 _ _ _ hH hS hL)
  · exact hz.elim
theorem s_lload_n {j : Nat} {k : Fin 4} (hx : p.tables.exec = Jvm.exec) (hb : c.code = cc) (hdg : decode cc pc = .ok (.lload_n k, 1)) (hk : (k : Nat) = a) (hz : zex1 (wX p l e R s m args below meth c Q B D cl dA aS nL bc bs) (.lload j, pc + 1, a, b, d, v) L st h cn sn) : wX p l e R s m args below meth c Q B D cl dA aS nL bc bs pc L st h cn sn := by
  intro hc1 hc2 H locs lsA hH hS hL
  unfold zex1 at hz
  dsimp only at hz
  split at hz
  · rename_i x hx9
    exact lv_lload_n hx hb hdg hk (hL.2.2.2 _ _ hx9) (hz hc1 hc2 _ _ _ hH hS hL)
  · exact hz.elim
theorem s_lload {j : Nat}  (hx : p.tables.exec = Jvm.exec) (hb : c.code = cc) (hdg : decode cc pc = .ok (.lload a, 2))  (hz : zex1 (wX p l e R s m args below meth c Q B D cl dA aS nL bc bs) (.lload j, pc + 2, a, b, d, v) L st h cn sn) : wX p l e R s m args below meth c Q B D cl dA aS nL bc bs pc L st h cn sn := by
  intro hc1 hc2 H locs lsA hH hS hL
  unfold zex1 at hz
  dsimp only at hz
  split at hz
  · rename_i x hx9
    exact lv_lload hx hb hdg  (hL.2.2.2 _ _ hx9) (hz hc1 hc2 _ _ _ hH hS hL)
  · exact hz.elim
theorem s_aload_n {j : Nat} {k : Fin 4} (hx : p.tables.exec = Jvm.exec) (hb : c.code = cc) (hdg : decode cc pc = .ok (.aload_n k, 1)) (hk : (k : Nat) = a) (hz : zex1 (wX p l e R s m args below meth c Q B D cl dA aS nL bc bs) (.aload j, pc + 1, a, b, d, v) L st h cn sn) : wX p l e R s m args below meth c Q B D cl dA aS nL bc bs pc L st h cn sn := by
  intro hc1 hc2 H locs lsA hH hS hL
  unfold zex1 at hz
  dsimp only at hz
  split at hz
  · rename_i x hx9
    exact lv_aload_n hx hb hdg hk (hL.2.2.2 _ _ hx9) (hz hc1 hc2 _ _ _ hH hS hL)
  · rename_i hx9
    exact lv_aload_nN hx hb hdg hk (hL.2.2.2 _ _ hx9) (hz hc1 hc2 _ _ _ hH hS hL)
  · rename_i x hx9
    exact lv_aload_n hx hb hdg hk (hL.2.2.2 _ _ hx9) (hz hc1 hc2 _ _ _ hH hS hL)
  · exact hz.elim
theorem s_aload {j : Nat}  (hx : p.tables.exec = Jvm.exec) (hb : c.code = cc) (hdg : decode cc pc = .ok (.aload a, 2))  (hz : zex1 (wX p l e R s m args below meth c Q B D cl dA aS nL bc bs) (.aload j, pc + 2, a, b, d, v) L st h cn sn) : wX p l e R s m args below meth c Q B D cl dA aS nL bc bs pc L st h cn sn := by
  intro hc1 hc2 H locs lsA hH hS hL
  unfold zex1 at hz
  dsimp only at hz
  split at hz
  · rename_i x hx9
    exact lv_aload hx hb hdg  (hL.2.2.2 _ _ hx9) (hz hc1 hc2 _ _ _ hH hS hL)
  · rename_i hx9
    exact lv_aloadN hx hb hdg  (hL.2.2.2 _ _ hx9) (hz hc1 hc2 _ _ _ hH hS hL)
  · rename_i x hx9
    exact lv_aload hx hb hdg  (hL.2.2.2 _ _ hx9) (hz hc1 hc2 _ _ _ hH hS hL)
  · exact hz.elim
theorem s_istore_n {j : Nat} {k : Fin 4} (hx : p.tables.exec = Jvm.exec) (hb : c.code = cc) (hdg : decode cc pc = .ok (.istore_n k, 1)) (hk : (k : Nat) = a) (hz : zex1 (wX p l e R s m args below meth c Q B D cl dA aS nL bc bs) (.istore j, pc + 1, a, b, d, v) L st h cn sn) : wX p l e R s m args below meth c Q B D cl dA aS nL bc bs pc L st h cn sn := by
  intro hc1 hc2 H locs lsA hH hS hL
  unfold zex1 at hz
  dsimp only at hz
  split at hz
  · exact lv_istore_n hx hb hdg hk hL.has (by have h9 := hz.1; rw [hL.1] at h9; exact h9) rfl (fun ls2 hl2 => hz.2 hc1 hc2 _ _ _ hH hS (zLs.store1 (zcv_cat B aS) rfl hL.1 hl2))
  · exact hz.elim
theorem s_istore {j : Nat}  (hx : p.tables.exec = Jvm.exec) (hb : c.code = cc) (hdg : decode cc pc = .ok (.istore a, 2))  (hz : zex1 (wX p l e R s m args below meth c Q B D cl dA aS nL bc bs) (.istore j, pc + 2, a, b, d, v) L st h cn sn) : wX p l e R s m args below meth c Q B D cl dA aS nL bc bs pc L st h cn sn := by
  intro hc1 hc2 H locs lsA hH hS hL
  unfold zex1 at hz
  dsimp only at hz
  split at hz
  · exact lv_istore hx hb hdg  hL.has (by have h9 := hz.1; rw [hL.1] at h9; exact h9) rfl (fun ls2 hl2 => hz.2 hc1 hc2 _ _ _ hH hS (zLs.store1 (zcv_cat B aS) rfl hL.1 hl2))
  · exact hz.elim
theorem s_lstore_n {j : Nat} {k : Fin 4} (hx : p.tables.exec = Jvm.exec) (hb : c.code = cc) (hdg : decode cc pc = .ok (.lstore_n k, 1)) (hk : (k : Nat) = a) (hz : zex1 (wX p l e R s m args below meth c Q B D cl dA aS nL bc bs) (.lstore j, pc + 1, a, b, d, v) L st h cn sn) : wX p l e R s m args below meth c Q B D cl dA aS nL bc bs pc L st h cn sn := by
  intro hc1 hc2 H locs lsA hH hS hL
  unfold zex1 at hz
  dsimp only at hz
  split at hz
  · exact lv_lstore_n hx hb hdg hk hL.has (by have h9 := hz.1; rw [hL.1] at h9; exact h9) rfl (fun ls2 hl2 => hz.2 hc1 hc2 _ _ _ hH hS (zLs.store2 (zcv_cat B aS) rfl hL.1 hl2))
  · exact hz.elim
theorem s_lstore {j : Nat}  (hx : p.tables.exec = Jvm.exec) (hb : c.code = cc) (hdg : decode cc pc = .ok (.lstore a, 2))  (hz : zex1 (wX p l e R s m args below meth c Q B D cl dA aS nL bc bs) (.lstore j, pc + 2, a, b, d, v) L st h cn sn) : wX p l e R s m args below meth c Q B D cl dA aS nL bc bs pc L st h cn sn := by
  intro hc1 hc2 H locs lsA hH hS hL
  unfold zex1 at hz
  dsimp only at hz
  split at hz
  · exact lv_lstore hx hb hdg  hL.has (by have h9 := hz.1; rw [hL.1] at h9; exact h9) rfl (fun ls2 hl2 => hz.2 hc1 hc2 _ _ _ hH hS (zLs.store2 (zcv_cat B aS) rfl hL.1 hl2))
  · exact hz.elim
theorem s_astore_n {j : Nat} {k : Fin 4} (hx : p.tables.exec = Jvm.exec) (hb : c.code = cc) (hdg : decode cc pc = .ok (.astore_n k, 1)) (hk : (k : Nat) = a) (hz : zex1 (wX p l e R s m args below meth c Q B D cl dA aS nL bc bs) (.astore j, pc + 1, a, b, d, v) L st h cn sn) : wX p l e R s m args below meth c Q B D cl dA aS nL bc bs pc L st h cn sn := by
  intro hc1 hc2 H locs lsA hH hS hL
  unfold zex1 at hz
  dsimp only at hz
  split at hz
  · exact lv_astore_n hx hb hdg hk hL.has (by have h9 := hz.1; rw [hL.1] at h9; exact h9) rfl (fun ls2 hl2 => hz.2 hc1 hc2 _ _ _ hH hS (zLs.store1 (zcv_cat B aS) rfl hL.1 hl2))
  · exact lv_astore_nN hx hb hdg hk hL.has (by have h9 := hz.1; rw [hL.1] at h9; exact h9) rfl (fun ls2 hl2 => hz.2 hc1 hc2 _ _ _ hH hS (zLs.store1 (zcv_cat B aS) rfl hL.1 hl2))
  · rename_i x s2
    exact lv_astore_n hx hb hdg hk hL.has (by have h9 := hz.1; rw [hL.1] at h9; exact h9) rfl (fun ls2 hl2 => hz.2 hc1 hc2 _ _ _ hH hS (zLs.store1 (x := .retAddr x) (zcv_cat B aS) rfl hL.1 hl2))
  · exact hz.elim
theorem s_astore {j : Nat}  (hx : p.tables.exec = Jvm.exec) (hb : c.code = cc) (hdg : decode cc pc = .ok (.astore a, 2))  (hz : zex1 (wX p l e R s m args below meth c Q B D cl dA aS nL bc bs) (.astore j, pc + 2, a, b, d, v) L st h cn sn) : wX p l e R s m args below meth c Q B D cl dA aS nL bc bs pc L st h cn sn := by
  intro hc1 hc2 H locs lsA hH hS hL
  unfold zex1 at hz
  dsimp only at hz
  split at hz
  · exact lv_astore hx hb hdg  hL.has (by have h9 := hz.1; rw [hL.1] at h9; exact h9) rfl (fun ls2 hl2 => hz.2 hc1 hc2 _ _ _ hH hS (zLs.store1 (zcv_cat B aS) rfl hL.1 hl2))
  · exact lv_astoreN hx hb hdg  hL.has (by have h9 := hz.1; rw [hL.1] at h9; exact h9) rfl (fun ls2 hl2 => hz.2 hc1 hc2 _ _ _ hH hS (zLs.store1 (zcv_cat B aS) rfl hL.1 hl2))
  · rename_i x s2
    exact lv_astore hx hb hdg  hL.has (by have h9 := hz.1; rw [hL.1] at h9; exact h9) rfl (fun ls2 hl2 => hz.2 hc1 hc2 _ _ _ hH hS (zLs.store1 (x := .retAddr x) (zcv_cat B aS) rfl hL.1 hl2))
  · exact hz.elim
theorem s_iinc {i z : Int} {j : Nat} (hx : p.tables.exec = Jvm.exec) (hb : c.code = cc) (hdg : decode cc pc = .ok (.iinc a i, 3)) (hv : v = .int (Int32.ofInt i)) (hz : zex1 (wX p l e R s m args below meth c Q B D cl dA aS nL bc bs) (.iinc j z, pc + 3, a, b, d, v) L st h cn sn) : wX p l e R s m args below meth c Q B D cl dA aS nL bc bs pc L st h cn sn := by
  intro hc1 hc2 H locs lsA hH hS hL
  unfold zex1 at hz
  dsimp only at hz
  subst hv
  split at hz
  · rename_i x y h9 h8
    cases h8
    obtain ⟨k9, hk9⟩ := List.getElem?_of_mem (zlv_mem (f := zcv B aS) (nL := nL) (L := L) (q := (a, .int x)) |>.mpr ⟨by have h7 := hz.1; rw [hL.1] at h7; exact h7, _, h9, rfl⟩)
    exact lv_iinc hx hb hdg hL.has hk9 rfl (by have h9 := hz.1; rw [hL.1] at h9; exact h9) rfl (fun ls2 hl2 => hz.2 hc1 hc2 _ _ _ hH hS (zLs.store1 (zcv_cat B aS) rfl hL.1 hl2))
  · exact hz.elim
theorem s_pop  (hx : p.tables.exec = Jvm.exec) (hb : c.code = cc) (hdg : decode cc pc = .ok (.pop, 1))  (hz : zex1 (wX p l e R s m args below meth c Q B D cl dA aS nL bc bs) (.pop, pc + 1, a, b, d, v) L st h cn sn) : wX p l e R s m args below meth c Q B D cl dA aS nL bc bs pc L st h cn sn := by
  intro hc1 hc2 H locs lsA hH hS hL
  unfold zex1 at hz
  dsimp only at hz
  split at hz
  · exact lv_pop hx hb hdg (by rw [zcv_cat]; exact hz.1) (hz.2 hc1 hc2 _ _ _ hH hS hL)
  · exact hz.elim
theorem s_dup  (hx : p.tables.exec = Jvm.exec) (hb : c.code = cc) (hdg : decode cc pc = .ok (.dup, 1))  (hz : zex1 (wX p l e R s m args below meth c Q B D cl dA aS nL bc bs) (.dup, pc + 1, a, b, d, v) L st h cn sn) : wX p l e R s m args below meth c Q B D cl dA aS nL bc bs pc L st h cn sn := by
  intro hc1 hc2 H locs lsA hH hS hL
  unfold zex1 at hz
  dsimp only at hz
  split at hz
  · exact lv_dup hx hb hdg (by rw [zcv_cat]; exact hz.1) (hz.2 hc1 hc2 _ _ _ hH hS hL)
  · exact hz.elim
theorem s_dup_x1  (hx : p.tables.exec = Jvm.exec) (hb : c.code = cc) (hdg : decode cc pc = .ok (.dup_x1, 1))  (hz : zex1 (wX p l e R s m args below meth c Q B D cl dA aS nL bc bs) (.dup_x1, pc + 1, a, b, d, v) L st h cn sn) : wX p l e R s m args below meth c Q B D cl dA aS nL bc bs pc L st h cn sn := by
  intro hc1 hc2 H locs lsA hH hS hL
  unfold zex1 at hz
  dsimp only at hz
  split at hz
  · exact lv_dup_x1 hx hb hdg (by rw [zcv_cat]; exact hz.1) (by rw [zcv_cat]; exact hz.2.1) (hz.2.2 hc1 hc2 _ _ _ hH hS hL)
  · exact hz.elim
theorem s_dup2  (hx : p.tables.exec = Jvm.exec) (hb : c.code = cc) (hdg : decode cc pc = .ok (.dup2, 1))  (hz : zex1 (wX p l e R s m args below meth c Q B D cl dA aS nL bc bs) (.dup2, pc + 1, a, b, d, v) L st h cn sn) : wX p l e R s m args below meth c Q B D cl dA aS nL bc bs pc L st h cn sn := by
  intro hc1 hc2 H locs lsA hH hS hL
  unfold zex1 at hz
  dsimp only at hz
  split at hz
  · exact lv_dup2_11 hx hb hdg (by rw [zcv_cat]; exact hz.1) (by rw [zcv_cat]; exact hz.2.1) (hz.2.2 hc1 hc2 _ _ _ hH hS hL)
  · exact hz.elim
theorem s_dupl  (hx : p.tables.exec = Jvm.exec) (hb : c.code = cc) (hdg : decode cc pc = .ok (.dup2, 1))  (hz : zex1 (wX p l e R s m args below meth c Q B D cl dA aS nL bc bs) (.dup2_x1, pc + 1, a, b, d, v) L st h cn sn) : wX p l e R s m args below meth c Q B D cl dA aS nL bc bs pc L st h cn sn := by
  intro hc1 hc2 H locs lsA hH hS hL
  unfold zex1 at hz
  dsimp only at hz
  split at hz
  · exact lv_dup2_2 hx hb hdg (by rw [zcv_cat]; exact hz.1) (hz.2 hc1 hc2 _ _ _ hH hS hL)
  · exact hz.elim
theorem s_iadd  (hx : p.tables.exec = Jvm.exec) (hb : c.code = cc) (hdg : decode cc pc = .ok (.iadd, 1))  (hz : zex1 (wX p l e R s m args below meth c Q B D cl dA aS nL bc bs) (.iadd, pc + 1, a, b, d, v) L st h cn sn) : wX p l e R s m args below meth c Q B D cl dA aS nL bc bs pc L st h cn sn := by
  intro hc1 hc2 H locs lsA hH hS hL
  unfold zex1 at hz
  dsimp only at hz
  split at hz <;> first | exact hz.elim | exact lv_iadd hx hb hdg (hz hc1 hc2 _ _ _ hH hS hL)
theorem s_isub  (hx : p.tables.exec = Jvm.exec) (hb : c.code = cc) (hdg : decode cc pc = .ok (.isub, 1))  (hz : zex1 (wX p l e R s m args below meth c Q B D cl dA aS nL bc bs) (.isub, pc + 1, a, b, d, v) L st h cn sn) : wX p l e R s m args below meth c Q B D cl dA aS nL bc bs pc L st h cn sn := by
  intro hc1 hc2 H locs lsA hH hS hL
  unfold zex1 at hz
  dsimp only at hz
  split at hz <;> first | exact hz.elim | exact lv_isub hx hb hdg (hz hc1 hc2 _ _ _ hH hS hL)
theorem s_imul  (hx : p.tables.exec = Jvm.exec) (hb : c.code = cc) (hdg : decode cc pc = .ok (.imul, 1))  (hz : zex1 (wX p l e R s m args below meth c Q B D cl dA aS nL bc bs) (.imul, pc + 1, a, b, d, v) L st h cn sn) : wX p l e R s m args below meth c Q B D cl dA aS nL bc bs pc L st h cn sn := by
  intro hc1 hc2 H locs lsA hH hS hL
  unfold zex1 at hz
  dsimp only at hz
  split at hz <;> first | exact hz.elim | exact lv_imul hx hb hdg (hz hc1 hc2 _ _ _ hH hS hL)
theorem s_iand  (hx : p.tables.exec = Jvm.exec) (hb : c.code = cc) (hdg : decode cc pc = .ok (.iand, 1))  (hz : zex1 (wX p l e R s m args below meth c Q B D cl dA aS nL bc bs) (.iand, pc + 1, a, b, d, v) L st h cn sn) : wX p l e R s m args below meth c Q B D cl dA aS nL bc bs pc L st h cn sn := by
  intro hc1 hc2 H locs lsA hH hS hL
  unfold zex1 at hz
  dsimp only at hz
  split at hz <;> first | exact hz.elim | exact lv_iand hx hb hdg (hz hc1 hc2 _ _ _ hH hS hL)
theorem s_ior  (hx : p.tables.exec = Jvm.exec) (hb : c.code = cc) (hdg : decode cc pc = .ok (.ior, 1))  (hz : zex1 (wX p l e R s m args below meth c Q B D cl dA aS nL bc bs) (.ior, pc + 1, a, b, d, v) L st h cn sn) : wX p l e R s m args below meth c Q B D cl dA aS nL bc bs pc L st h cn sn := by
  intro hc1 hc2 H locs lsA hH hS hL
  unfold zex1 at hz
  dsimp only at hz
  split at hz <;> first | exact hz.elim | exact lv_ior hx hb hdg (hz hc1 hc2 _ _ _ hH hS hL)
theorem s_ishl  (hx : p.tables.exec = Jvm.exec) (hb : c.code = cc) (hdg : decode cc pc = .ok (.ishl, 1))  (hz : zex1 (wX p l e R s m args below meth c Q B D cl dA aS nL bc bs) (.ishl, pc + 1, a, b, d, v) L st h cn sn) : wX p l e R s m args below meth c Q B D cl dA aS nL bc bs pc L st h cn sn := by
  intro hc1 hc2 H locs lsA hH hS hL
  unfold zex1 at hz
  dsimp only at hz
  split at hz <;> first | exact hz.elim | exact lv_ishl hx hb hdg (hz hc1 hc2 _ _ _ hH hS hL)
theorem s_ishr  (hx : p.tables.exec = Jvm.exec) (hb : c.code = cc) (hdg : decode cc pc = .ok (.ishr, 1))  (hz : zex1 (wX p l e R s m args below meth c Q B D cl dA aS nL bc bs) (.ishr, pc + 1, a, b, d, v) L st h cn sn) : wX p l e R s m args below meth c Q B D cl dA aS nL bc bs pc L st h cn sn := by
  intro hc1 hc2 H locs lsA hH hS hL
  unfold zex1 at hz
  dsimp only at hz
  split at hz <;> first | exact hz.elim | exact lv_ishr hx hb hdg (hz hc1 hc2 _ _ _ hH hS hL)
theorem s_ladd  (hx : p.tables.exec = Jvm.exec) (hb : c.code = cc) (hdg : decode cc pc = .ok (.ladd, 1))  (hz : zex1 (wX p l e R s m args below meth c Q B D cl dA aS nL bc bs) (.ladd, pc + 1, a, b, d, v) L st h cn sn) : wX p l e R s m args below meth c Q B D cl dA aS nL bc bs pc L st h cn sn := by
  intro hc1 hc2 H locs lsA hH hS hL
  unfold zex1 at hz
  dsimp only at hz
  split at hz <;> first | exact hz.elim | exact lv_ladd hx hb hdg (hz hc1 hc2 _ _ _ hH hS hL)
theorem s_lsub  (hx : p.tables.exec = Jvm.exec) (hb : c.code = cc) (hdg : decode cc pc = .ok (.lsub, 1))  (hz : zex1 (wX p l e R s m args below meth c Q B D cl dA aS nL bc bs) (.lsub, pc + 1, a, b, d, v) L st h cn sn) : wX p l e R s m args below meth c Q B D cl dA aS nL bc bs pc L st h cn sn := by
  intro hc1 hc2 H locs lsA hH hS hL
  unfold zex1 at hz
  dsimp only at hz
  split at hz <;> first | exact hz.elim | exact lv_lsub hx hb hdg (hz hc1 hc2 _ _ _ hH hS hL)
theorem s_lmul  (hx : p.tables.exec = Jvm.exec) (hb : c.code = cc) (hdg : decode cc pc = .ok (.lmul, 1))  (hz : zex1 (wX p l e R s m args below meth c Q B D cl dA aS nL bc bs) (.lmul, pc + 1, a, b, d, v) L st h cn sn) : wX p l e R s m args below meth c Q B D cl dA aS nL bc bs pc L st h cn sn := by
  intro hc1 hc2 H locs lsA hH hS hL
  unfold zex1 at hz
  dsimp only at hz
  split at hz <;> first | exact hz.elim | exact lv_lmul hx hb hdg (hz hc1 hc2 _ _ _ hH hS hL)
theorem s_land  (hx : p.tables.exec = Jvm.exec) (hb : c.code = cc) (hdg : decode cc pc = .ok (.land, 1))  (hz : zex1 (wX p l e R s m args below meth c Q B D cl dA aS nL bc bs) (.land, pc + 1, a, b, d, v) L st h cn sn) : wX p l e R s m args below meth c Q B D cl dA aS nL bc bs pc L st h cn sn := by
  intro hc1 hc2 H locs lsA hH hS hL
  unfold zex1 at hz
  dsimp only at hz
  split at hz <;> first | exact hz.elim | exact lv_land hx hb hdg (hz hc1 hc2 _ _ _ hH hS hL)
theorem s_lor  (hx : p.tables.exec = Jvm.exec) (hb : c.code = cc) (hdg : decode cc pc = .ok (.lor, 1))  (hz : zex1 (wX p l e R s m args below meth c Q B D cl dA aS nL bc bs) (.lor, pc + 1, a, b, d, v) L st h cn sn) : wX p l e R s m args below meth c Q B D cl dA aS nL bc bs pc L st h cn sn := by
  intro hc1 hc2 H locs lsA hH hS hL
  unfold zex1 at hz
  dsimp only at hz
  split at hz <;> first | exact hz.elim | exact lv_lor hx hb hdg (hz hc1 hc2 _ _ _ hH hS hL)
theorem s_lxor  (hx : p.tables.exec = Jvm.exec) (hb : c.code = cc) (hdg : decode cc pc = .ok (.lxor, 1))  (hz : zex1 (wX p l e R s m args below meth c Q B D cl dA aS nL bc bs) (.lxor, pc + 1, a, b, d, v) L st h cn sn) : wX p l e R s m args below meth c Q B D cl dA aS nL bc bs pc L st h cn sn := by
  intro hc1 hc2 H locs lsA hH hS hL
  unfold zex1 at hz
  dsimp only at hz
  split at hz <;> first | exact hz.elim | exact lv_lxor hx hb hdg (hz hc1 hc2 _ _ _ hH hS hL)
theorem s_lneg  (hx : p.tables.exec = Jvm.exec) (hb : c.code = cc) (hdg : decode cc pc = .ok (.lneg, 1))  (hz : zex1 (wX p l e R s m args below meth c Q B D cl dA aS nL bc bs) (.lneg, pc + 1, a, b, d, v) L st h cn sn) : wX p l e R s m args below meth c Q B D cl dA aS nL bc bs pc L st h cn sn := by
  intro hc1 hc2 H locs lsA hH hS hL
  unfold zex1 at hz
  dsimp only at hz
  split at hz <;> first | exact hz.elim | exact lv_lneg hx hb hdg (hz hc1 hc2 _ _ _ hH hS hL)
theorem s_idiv  (hx : p.tables.exec = Jvm.exec) (hb : c.code = cc) (hdg : decode cc pc = .ok (.idiv, 1))  (hz : zex1 (wX p l e R s m args below meth c Q B D cl dA aS nL bc bs) (.idiv, pc + 1, a, b, d, v) L st h cn sn) : wX p l e R s m args below meth c Q B D cl dA aS nL bc bs pc L st h cn sn := by
  intro hc1 hc2 H locs lsA hH hS hL
  unfold zex1 at hz
  dsimp only at hz
  split at hz <;> first | exact hz.elim | exact lv_idiv hx hb hdg hz.1 (hz.2 hc1 hc2 _ _ _ hH hS hL)
theorem s_ldiv  (hx : p.tables.exec = Jvm.exec) (hb : c.code = cc) (hdg : decode cc pc = .ok (.ldiv, 1))  (hz : zex1 (wX p l e R s m args below meth c Q B D cl dA aS nL bc bs) (.ldiv, pc + 1, a, b, d, v) L st h cn sn) : wX p l e R s m args below meth c Q B D cl dA aS nL bc bs pc L st h cn sn := by
  intro hc1 hc2 H locs lsA hH hS hL
  unfold zex1 at hz
  dsimp only at hz
  split at hz <;> first | exact hz.elim | exact lv_ldiv hx hb hdg hz.1 (hz.2 hc1 hc2 _ _ _ hH hS hL)
theorem s_lrem  (hx : p.tables.exec = Jvm.exec) (hb : c.code = cc) (hdg : decode cc pc = .ok (.lrem, 1))  (hz : zex1 (wX p l e R s m args below meth c Q B D cl dA aS nL bc bs) (.lrem, pc + 1, a, b, d, v) L st h cn sn) : wX p l e R s m args below meth c Q B D cl dA aS nL bc bs pc L st h cn sn := by
  intro hc1 hc2 H locs lsA hH hS hL
  unfold zex1 at hz
  dsimp only at hz
  split at hz <;> first | exact hz.elim | exact lv_lrem hx hb hdg hz.1 (hz.2 hc1 hc2 _ _ _ hH hS hL)
theorem s_lshl  (hx : p.tables.exec = Jvm.exec) (hb : c.code = cc) (hdg : decode cc pc = .ok (.lshl, 1))  (hz : zex1 (wX p l e R s m args below meth c Q B D cl dA aS nL bc bs) (.lshl, pc + 1, a, b, d, v) L st h cn sn) : wX p l e R s m args below meth c Q B D cl dA aS nL bc bs pc L st h cn sn := by
  intro hc1 hc2 H locs lsA hH hS hL
  unfold zex1 at hz
  dsimp only at hz
  split at hz <;> first | exact hz.elim | exact lv_lshl hx hb hdg rfl (hz hc1 hc2 _ _ _ hH hS hL)
theorem s_lshr  (hx : p.tables.exec = Jvm.exec) (hb : c.code = cc) (hdg : decode cc pc = .ok (.lshr, 1))  (hz : zex1 (wX p l e R s m args below meth c Q B D cl dA aS nL bc bs) (.lshr, pc + 1, a, b, d, v) L st h cn sn) : wX p l e R s m args below meth c Q B D cl dA aS nL bc bs pc L st h cn sn := by
  intro hc1 hc2 H locs lsA hH hS hL
  unfold zex1 at hz
  dsimp only at hz
  split at hz <;> first | exact hz.elim | exact lv_lshr hx hb hdg rfl (hz hc1 hc2 _ _ _ hH hS hL)
theorem s_i2l  (hx : p.tables.exec = Jvm.exec) (hb : c.code = cc) (hdg : decode cc pc = .ok (.i2l, 1))  (hz : zex1 (wX p l e R s m args below meth c Q B D cl dA aS nL bc bs) (.i2l, pc + 1, a, b, d, v) L st h cn sn) : wX p l e R s m args below meth c Q B D cl dA aS nL bc bs pc L st h cn sn := by
  intro hc1 hc2 H locs lsA hH hS hL
  unfold zex1 at hz
  dsimp only at hz
  split at hz <;> first | exact hz.elim | exact lv_i2l hx hb hdg rfl (hz hc1 hc2 _ _ _ hH hS hL)
theorem s_l2i  (hx : p.tables.exec = Jvm.exec) (hb : c.code = cc) (hdg : decode cc pc = .ok (.l2i, 1))  (hz : zex1 (wX p l e R s m args below meth c Q B D cl dA aS nL bc bs) (.l2i, pc + 1, a, b, d, v) L st h cn sn) : wX p l e R s m args below meth c Q B D cl dA aS nL bc bs pc L st h cn sn := by
  intro hc1 hc2 H locs lsA hH hS hL
  unfold zex1 at hz
  dsimp only at hz
  split at hz <;> first | exact hz.elim | exact lv_l2i hx hb hdg rfl (hz hc1 hc2 _ _ _ hH hS hL)
theorem s_i2b  (hx : p.tables.exec = Jvm.exec) (hb : c.code = cc) (hdg : decode cc pc = .ok (.i2b, 1))  (hz : zex1 (wX p l e R s m args below meth c Q B D cl dA aS nL bc bs) (.i2b, pc + 1, a, b, d, v) L st h cn sn) : wX p l e R s m args below meth c Q B D cl dA aS nL bc bs pc L st h cn sn := by
  intro hc1 hc2 H locs lsA hH hS hL
  unfold zex1 at hz
  dsimp only at hz
  split at hz <;> first | exact hz.elim | exact lv_i2b hx hb hdg rfl (hz hc1 hc2 _ _ _ hH hS hL)
theorem s_lcmp  (hx : p.tables.exec = Jvm.exec) (hb : c.code = cc) (hdg : decode cc pc = .ok (.lcmp, 1))  (hz : zex1 (wX p l e R s m args below meth c Q B D cl dA aS nL bc bs) (.lcmp, pc + 1, a, b, d, v) L st h cn sn) : wX p l e R s m args below meth c Q B D cl dA aS nL bc bs pc L st h cn sn := by
  intro hc1 hc2 H locs lsA hH hS hL
  unfold zex1 at hz
  dsimp only at hz
  split at hz <;> first | exact hz.elim | exact W.lcmp hx hb hdg (hz hc1 hc2 _ _ _ hH hS hL)
theorem s_goto {i z : Int} (hx : p.tables.exec = Jvm.exec) (hb : c.code = cc) (hdg : decode cc pc = .ok (.goto i, 3)) (ht : (pc : Int) + i = (a : Int)) (hz : zex1 (wX p l e R s m args below meth c Q B D cl dA aS nL bc bs) (.goto z, pc + 3, a, b, d, v) L st h cn sn) : wX p l e R s m args below meth c Q B D cl dA aS nL bc bs pc L st h cn sn := by
  intro hc1 hc2 H locs lsA hH hS hL
  unfold zex1 at hz
  dsimp only at hz
  exact lv_goto hx hb hdg ht (hz hc1 hc2 _ _ _ hH hS hL)
theorem s_if_eq {i z : Int} (hx : p.tables.exec = Jvm.exec) (hb : c.code = cc) (hdg : decode cc pc = .ok (.ifCond .eq i, 3)) (ht : (pc : Int) + i = (a : Int)) (hz : zex1 (wX p l e R s m args below meth c Q B D cl dA aS nL bc bs) (.ifCond .eq z, pc + 3, a, b, d, v) L st h cn sn) : wX p l e R s m args below meth c Q B D cl dA aS nL bc bs pc L st h cn sn := by
  intro hc1 hc2 H locs lsA hH hS hL
  unfold zex1 at hz
  dsimp only at hz
  split at hz <;> first | exact hz.elim | exact lv_if_eq hx hb hdg ht (fun q9 => hz.1 q9 hc1 hc2 _ _ _ hH hS hL) (fun q9 => hz.2 q9 hc1 hc2 _ _ _ hH hS hL)
theorem s_icmp_eq {i z : Int} (hx : p.tables.exec = Jvm.exec) (hb : c.code = cc) (hdg : decode cc pc = .ok (.if_icmp .eq i, 3)) (ht : (pc : Int) + i = (a : Int)) (hz : zex1 (wX p l e R s m args below meth c Q B D cl dA aS nL bc bs) (.if_icmp .eq z, pc + 3, a, b, d, v) L st h cn sn) : wX p l e R s m args below meth c Q B D cl dA aS nL bc bs pc L st h cn sn := by
  intro hc1 hc2 H locs lsA hH hS hL
  unfold zex1 at hz
  dsimp only at hz
  split at hz <;> first | exact hz.elim | exact lv_icmp_eq hx hb hdg ht (fun q9 => hz.1 q9 hc1 hc2 _ _ _ hH hS hL) (fun q9 => hz.2 q9 hc1 hc2 _ _ _ hH hS hL)
theorem s_if_ne {i z : Int} (hx : p.tables.exec = Jvm.exec) (hb : c.code = cc) (hdg : decode cc pc = .ok (.ifCond .ne i, 3)) (ht : (pc : Int) + i = (a : Int)) (hz : zex1 (wX p l e R s m args below meth c Q B D cl dA aS nL bc bs) (.ifCond .ne z, pc + 3, a, b, d, v) L st h cn sn) : wX p l e R s m args below meth c Q B D cl dA aS nL bc bs pc L st h cn sn := by
  intro hc1 hc2 H locs lsA hH hS hL
  unfold zex1 at hz
  dsimp only at hz
  split at hz <;> first | exact hz.elim | exact lv_if_ne hx hb hdg ht (fun q9 => hz.1 q9 hc1 hc2 _ _ _ hH hS hL) (fun q9 => hz.2 (by show ¬ ¬ _; exact fun z9 => z9 q9) hc1 hc2 _ _ _ hH hS hL)
theorem s_icmp_ne {i z : Int} (hx : p.tables.exec = Jvm.exec) (hb : c.code = cc) (hdg : decode cc pc = .ok (.if_icmp .ne i, 3)) (ht : (pc : Int) + i = (a : Int)) (hz : zex1 (wX p l e R s m args below meth c Q B D cl dA aS nL bc bs) (.if_icmp .ne z, pc + 3, a, b, d, v) L st h cn sn) : wX p l e R s m args below meth c Q B D cl dA aS nL bc bs pc L st h cn sn := by
  intro hc1 hc2 H locs lsA hH hS hL
  unfold zex1 at hz
  dsimp only at hz
  split at hz <;> first | exact hz.elim | exact lv_icmp_ne hx hb hdg ht (fun q9 => hz.1 q9 hc1 hc2 _ _ _ hH hS hL) (fun q9 => hz.2 (by show ¬ ¬ _; exact fun z9 => z9 q9) hc1 hc2 _ _ _ hH hS hL)
theorem s_if_lt {i z : Int} (hx : p.tables.exec = Jvm.exec) (hb : c.code = cc) (hdg : decode cc pc = .ok (.ifCond .lt i, 3)) (ht : (pc : Int) + i = (a : Int)) (hz : zex1 (wX p l e R s m args below meth c Q B D cl dA aS nL bc bs) (.ifCond .lt z, pc + 3, a, b, d, v) L st h cn sn) : wX p l e R s m args below meth c Q B D cl dA aS nL bc bs pc L st h cn sn := by
  intro hc1 hc2 H locs lsA hH hS hL
  unfold zex1 at hz
  dsimp only at hz
  split at hz <;> first | exact hz.elim | exact lv_if_lt hx hb hdg ht (fun q9 => hz.1 q9 hc1 hc2 _ _ _ hH hS hL) (fun q9 => hz.2 q9 hc1 hc2 _ _ _ hH hS hL)
theorem s_icmp_lt {i z : Int} (hx : p.tables.exec = Jvm.exec) (hb : c.code = cc) (hdg : decode cc pc = .ok (.if_icmp .lt i, 3)) (ht : (pc : Int) + i = (a : Int)) (hz : zex1 (wX p l e R s m args below meth c Q B D cl dA aS nL bc bs) (.if_icmp .lt z, pc + 3, a, b, d, v) L st h cn sn) : wX p l e R s m args below meth c Q B D cl dA aS nL bc bs pc L st h cn sn := by
  intro hc1 hc2 H locs lsA hH hS hL
  unfold zex1 at hz
  dsimp only at hz
  split at hz <;> first | exact hz.elim | exact lv_icmp_lt hx hb hdg ht (fun q9 => hz.1 q9 hc1 hc2 _ _ _ hH hS hL) (fun q9 => hz.2 q9 hc1 hc2 _ _ _ hH hS hL)
theorem s_if_ge {i z : Int} (hx : p.tables.exec = Jvm.exec) (hb : c.code = cc) (hdg : decode cc pc = .ok (.ifCond .ge i, 3)) (ht : (pc : Int) + i = (a : Int)) (hz : zex1 (wX p l e R s m args below meth c Q B D cl dA aS nL bc bs) (.ifCond .ge z, pc + 3, a, b, d, v) L st h cn sn) : wX p l e R s m args below meth c Q B D cl dA aS nL bc bs pc L st h cn sn := by
  intro hc1 hc2 H locs lsA hH hS hL
  unfold zex1 at hz
  dsimp only at hz
  split at hz <;> first | exact hz.elim | exact lv_if_ge hx hb hdg ht (fun q9 => hz.1 q9 hc1 hc2 _ _ _ hH hS hL) (fun q9 => hz.2 q9 hc1 hc2 _ _ _ hH hS hL)
theorem s_icmp_ge {i z : Int} (hx : p.tables.exec = Jvm.exec) (hb : c.code = cc) (hdg : decode cc pc = .ok (.if_icmp .ge i, 3)) (ht : (pc : Int) + i = (a : Int)) (hz : zex1 (wX p l e R s m args below meth c Q B D cl dA aS nL bc bs) (.if_icmp .ge z, pc + 3, a, b, d, v) L st h cn sn) : wX p l e R s m args below meth c Q B D cl dA aS nL bc bs pc L st h cn sn := by
  intro hc1 hc2 H locs lsA hH hS hL
  unfold zex1 at hz
  dsimp only at hz
  split at hz <;> first | exact hz.elim | exact lv_icmp_ge hx hb hdg ht (fun q9 => hz.1 q9 hc1 hc2 _ _ _ hH hS hL) (fun q9 => hz.2 q9 hc1 hc2 _ _ _ hH hS hL)
theorem s_if_gt {i z : Int} (hx : p.tables.exec = Jvm.exec) (hb : c.code = cc) (hdg : decode cc pc = .ok (.ifCond .gt i, 3)) (ht : (pc : Int) + i = (a : Int)) (hz : zex1 (wX p l e R s m args below meth c Q B D cl dA aS nL bc bs) (.ifCond .gt z, pc + 3, a, b, d, v) L st h cn sn) : wX p l e R s m args below meth c Q B D cl dA aS nL bc bs pc L st h cn sn := by
  intro hc1 hc2 H locs lsA hH hS hL
  unfold zex1 at hz
  dsimp only at hz
  split at hz <;> first | exact hz.elim | exact lv_if_gt hx hb hdg ht (fun q9 => hz.1 q9 hc1 hc2 _ _ _ hH hS hL) (fun q9 => hz.2 q9 hc1 hc2 _ _ _ hH hS hL)
theorem s_icmp_gt {i z : Int} (hx : p.tables.exec = Jvm.exec) (hb : c.code = cc) (hdg : decode cc pc = .ok (.if_icmp .gt i, 3)) (ht : (pc : Int) + i = (a : Int)) (hz : zex1 (wX p l e R s m args below meth c Q B D cl dA aS nL bc bs) (.if_icmp .gt z, pc + 3, a, b, d, v) L st h cn sn) : wX p l e R s m args below meth c Q B D cl dA aS nL bc bs pc L st h cn sn := by
  intro hc1 hc2 H locs lsA hH hS hL
  unfold zex1 at hz
  dsimp only at hz
  split at hz <;> first | exact hz.elim | exact lv_icmp_gt hx hb hdg ht (fun q9 => hz.1 q9 hc1 hc2 _ _ _ hH hS hL) (fun q9 => hz.2 q9 hc1 hc2 _ _ _ hH hS hL)
theorem s_if_le {i z : Int} (hx : p.tables.exec = Jvm.exec) (hb : c.code = cc) (hdg : decode cc pc = .ok (.ifCond .le i, 3)) (ht : (pc : Int) + i = (a : Int)) (hz : zex1 (wX p l e R s m args below meth c Q B D cl dA aS nL bc bs) (.ifCond .le z, pc + 3, a, b, d, v) L st h cn sn) : wX p l e R s m args below meth c Q B D cl dA aS nL bc bs pc L st h cn sn := by
  intro hc1 hc2 H locs lsA hH hS hL
  unfold zex1 at hz
  dsimp only at hz
  split at hz <;> first | exact hz.elim | exact lv_if_le hx hb hdg ht (fun q9 => hz.1 q9 hc1 hc2 _ _ _ hH hS hL) (fun q9 => hz.2 q9 hc1 hc2 _ _ _ hH hS hL)
theorem s_icmp_le {i z : Int} (hx : p.tables.exec = Jvm.exec) (hb : c.code = cc) (hdg : decode cc pc = .ok (.if_icmp .le i, 3)) (ht : (pc : Int) + i = (a : Int)) (hz : zex1 (wX p l e R s m args below meth c Q B D cl dA aS nL bc bs) (.if_icmp .le z, pc + 3, a, b, d, v) L st h cn sn) : wX p l e R s m args below meth c Q B D cl dA aS nL bc bs pc L st h cn sn := by
  intro hc1 hc2 H locs lsA hH hS hL
  unfold zex1 at hz
  dsimp only at hz
  split at hz <;> first | exact hz.elim | exact lv_icmp_le hx hb hdg ht (fun q9 => hz.1 q9 hc1 hc2 _ _ _ hH hS hL) (fun q9 => hz.2 q9 hc1 hc2 _ _ _ hH hS hL)
theorem s_ifnull {i z : Int} (hx : p.tables.exec = Jvm.exec) (hb : c.code = cc) (hdg : decode cc pc = .ok (.ifnull i, 3)) (ht : (pc : Int) + i = (a : Int)) (hz : zex1 (wX p l e R s m args below meth c Q B D cl dA aS nL bc bs) (.ifnull z, pc + 3, a, b, d, v) L st h cn sn) : wX p l e R s m args below meth c Q B D cl dA aS nL bc bs pc L st h cn sn := by
  intro hc1 hc2 H locs lsA hH hS hL
  unfold zex1 at hz
  dsimp only at hz
  split at hz
  · exact lv_ifnullN hx hb hdg ht (hz hc1 hc2 _ _ _ hH hS hL)
  · exact lv_ifnull hx hb hdg (hz hc1 hc2 _ _ _ hH hS hL)
  · exact hz.elim
theorem s_ifnonnull {i z : Int} (hx : p.tables.exec = Jvm.exec) (hb : c.code = cc) (hdg : decode cc pc = .ok (.ifnonnull i, 3)) (ht : (pc : Int) + i = (a : Int)) (hz : zex1 (wX p l e R s m args below meth c Q B D cl dA aS nL bc bs) (.ifnonnull z, pc + 3, a, b, d, v) L st h cn sn) : wX p l e R s m args below meth c Q B D cl dA aS nL bc bs pc L st h cn sn := by
  intro hc1 hc2 H locs lsA hH hS hL
  unfold zex1 at hz
  dsimp only at hz
  split at hz
  · exact lv_ifnonnullN hx hb hdg (hz hc1 hc2 _ _ _ hH hS hL)
  · exact lv_ifnonnull hx hb hdg ht (hz hc1 hc2 _ _ _ hH hS hL)
  · exact hz.elim
end SIM1
end
section
def zty : Nat → FieldType := fun k => match k with
  | 0 => .int
  | 1 => .boolean
  | 2 => .byte
  | 3 => .long
  | 4 => .array .int
  | _ => .object "TankBehind$Car"
def ztys (dA : Nat → ClassId) : List (ClassId × FieldType) := (List.range 6).map fun k => (dA k, zty k)
theorem ztys_get (dA : Nat → ClassId) {k : Nat} (hk : k < 6) : (ztys dA)[k]? = some (dA k, zty k) := by
  unfold ztys
  rw [List.getElem?_map, List.getElem?_range hk]
  rfl
theorem zP1 {D : va_G} {cl : List vw_C} {q : Nat × va_E} {H : Heap} (h : va_at D cl q H) : va_P D cl [q] H := by
  intro k x hx
  cases k with
  | zero => cases hx; exact h
  | succ k => cases hx
theorem zhR.set {B : Nat} {D : va_G} {cl : List vw_C} {dA : Nat → ClassId} {aS : Nat → Nat} {h : zH} {H H1 : Heap} {r : Nat} {e0 e1 : zC} (hH : zhR B D cl dA aS h H) (hr : h[r]? = some e0) (he : va_at D cl (B + r, zcE B dA aS e1) H1) (z : H1.size = H.size) (oq : ∀ q : Nat, q ≠ B + r → H1[q]? = H[q]?) : zhR B D cl dA aS (h.set r e1) H1 := by
  refine ⟨by rw [z, List.length_set]; exact hH.1, fun i e hi => ?_⟩
  rw [List.getElem?_set] at hi
  by_cases q : r = i
  · subst q
    rw [if_pos rfl] at hi
    rw [if_pos (List.getElem?_eq_some_iff.mp hr).1] at hi
    cases hi
    exact he
  · rw [if_neg q] at hi
    exact (hH.2 i e hi).kept (oq _ (by show B + i ≠ B + r; omega))
theorem zhR.app {B : Nat} {D : va_G} {cl : List vw_C} {dA : Nat → ClassId} {aS : Nat → Nat} {h es : zH} {H H1 : Heap} (hH : zhR B D cl dA aS h H) (he : ∀ (i : Nat) (e : zC), es[i]? = some e → va_at D cl (H.size + i, zcE B dA aS e) H1) (z : H1.size = H.size + es.length) (oq : ∀ q : Nat, q < H.size → H1[q]? = H[q]?) : zhR B D cl dA aS (h ++ es) H1 := by
  refine ⟨by rw [z, List.length_append, hH.1, Nat.add_assoc], fun i e hi => ?_⟩
  by_cases q : i < h.length
  · rw [List.getElem?_append_left q] at hi
    exact (hH.2 i e hi).kept (oq _ (by show B + i < H.size; rw [hH.1]; omega))
  · rw [List.getElem?_append_right (by omega)] at hi
    have h9 := he _ _ hi
    rw [show H.size + (i - h.length) = B + i by rw [hH.1]; omega] at h9
    exact h9
theorem zhR.push {B : Nat} {D : va_G} {cl : List vw_C} {dA : Nat → ClassId} {aS : Nat → Nat} {h : zH} {e : zC} {H H1 : Heap} (hH : zhR B D cl dA aS h H) (he : va_at D cl (H.size, zcE B dA aS e) H1) (z : H1.size = H.size + 1) (oq : ∀ q : Nat, q < H.size → H1[q]? = H[q]?) : zhR B D cl dA aS (h ++ [e]) H1 := by
  refine hH.app (fun i e2 hi => ?_) z oq
  cases i with
  | zero => cases hi; exact he
  | succ i => cases hi
theorem zS_push {A : Nat → Prop} {H0 H H1 : Heap} {locs : List Loc} (hS : va_S A H0 H locs) (z : H.size ≤ H1.size) (oq : ∀ q : Nat, q < H.size → H1[q]? = H[q]?) : va_S A H0 H1 locs := ⟨Nat.le_trans hS.1 z, fun x h1 h2 => (oq x (Nat.lt_of_lt_of_le h1 hS.1)).trans (hS.2.1 x h1 h2), hS.2.2⟩
theorem zrf_cv (B : Nat) (aS : Nat → Nat) (r : Option Nat) : zcv B aS (zrf r) = va_rf (r.map (fun a => B + a)) := by cases r <;> rfl
/-- what the classes' tables say -/
def zTT (tt : zT) (cl : List vw_C) (Ts : List Jvm.Cond) : Prop := ∀ (k : Nat) (q : vw_C), cl[k]? = some q → ∃ (ty : Nat → FieldType) (f : Nat → Bool), tt[k]? = some (ty, q.2.2, f) ∧ (∀ j, j < q.2.2 → parseFieldDescriptor (q.2.1 j).2.2.1 = some (ty j)) ∧ (∀ a, a < q.2.2 → ∀ b, b < q.2.2 → a ≠ b → (q.2.1 a).2.1 ≠ (q.2.1 b).2.1) ∧ ∀ w ∈ u_ws q.1 q.2.1 q.2.2, w ∈ Ts
theorem zfields_V (B : Nat) (aS : Nat → Nat) (ty : Nat → FieldType) {N j : Nat} (hj : j < N) : defaultValue (ty j) = vp_V ((zfields ty N).map (zcv B aS)) j := by
  unfold vp_V zfields
  rw [List.getD_eq_getElem?_getD, List.getElem?_map, List.getElem?_map, List.getElem?_range hj]
  show defaultValue (ty j) = zcv B aS (defaultValue (ty j))
  cases ty j <;> rfl
section SIM2
variable {p : Program} {l : Launch} {e : Env} {R : Room} {s : State} {m : MethodId} {args : Array Value} {below : List Frame} {meth : Method} {c : Code} {Q : State → Prop} {cc : ByteArray} {B : Nat} {D : va_G} {cl : List vw_C} {dA : Nat → ClassId} {aS : Nat → Nat} {nL bc bs pc : Nat}
variable {a b d : Nat} {v : Value} {L : zL} {st : List Value} {h : zH} {cn sn : Nat}
variable {tt : zT} {G : zG} {rt : Option FieldType} {M : zM} {ret : zQ} {Ts : List Jvm.Cond} {own : String}
theorem s_iaload (hx : p.tables.exec = Jvm.exec) (hb : c.code = cc) (hdg : decode cc pc = .ok (.iaload, 1)) (hK : va_K D cl (ztys dA) s) (hz : zex2 tt G bc bs rt M ret (wX p l e R s m args below meth c Q B D cl dA aS nL bc bs) (.iaload, pc + 1, a, b, d, v) L st h cn sn) : wX p l e R s m args below meth c Q B D cl dA aS nL bc bs pc L st h cn sn := by
  intro hc1 hc2 H locs lsA hH hS hL
  unfold zex2 at hz
  dsimp only at hz
  split at hz
  · obtain ⟨N, f, hr, hi, k⟩ := hz
    exact va_iald hx hb hK (zP1 (hH.2 _ _ hr)) 0 0 rfl (ztys_get dA (by omega)) hi hdg (k hc1 hc2 _ _ _ hH hS hL)
  · exact hz.elim
theorem s_baload (hx : p.tables.exec = Jvm.exec) (hb : c.code = cc) (hdg : decode cc pc = .ok (.baload, 1)) (hK : va_K D cl (ztys dA) s) (hz : zex2 tt G bc bs rt M ret (wX p l e R s m args below meth c Q B D cl dA aS nL bc bs) (.baload, pc + 1, a, b, d, v) L st h cn sn) : wX p l e R s m args below meth c Q B D cl dA aS nL bc bs pc L st h cn sn := by
  intro hc1 hc2 H locs lsA hH hS hL
  unfold zex2 at hz
  dsimp only at hz
  split at hz
  · obtain ⟨k0, N, f, hk, hr, hi, k⟩ := hz
    rcases hk with rfl | rfl
    · exact va_zald hx hb hK (zP1 (hH.2 _ _ hr)) 0 1 rfl (ztys_get dA (by omega)) hi hdg (k hc1 hc2 _ _ _ hH hS hL)
    · exact va_bald hx hb hK (zP1 (hH.2 _ _ hr)) 0 2 rfl (ztys_get dA (by omega)) hi hdg (k hc1 hc2 _ _ _ hH hS hL)
  · exact hz.elim
theorem s_laload (hx : p.tables.exec = Jvm.exec) (hb : c.code = cc) (hdg : decode cc pc = .ok (.laload, 1)) (hK : va_K D cl (ztys dA) s) (hz : zex2 tt G bc bs rt M ret (wX p l e R s m args below meth c Q B D cl dA aS nL bc bs) (.laload, pc + 1, a, b, d, v) L st h cn sn) : wX p l e R s m args below meth c Q B D cl dA aS nL bc bs pc L st h cn sn := by
  intro hc1 hc2 H locs lsA hH hS hL
  unfold zex2 at hz
  dsimp only at hz
  split at hz
  · obtain ⟨N, f, hr, hi, k⟩ := hz
    exact va_lald hx hb hK (zP1 (hH.2 _ _ hr)) 0 3 rfl (ztys_get dA (by omega)) hi hdg (k hc1 hc2 _ _ _ hH hS hL)
  · exact hz.elim
theorem zW_aald {k0 N : Nat} {f : Nat → Option Nat} {i : Int32} {r : Nat} {lsA : Array Slot} {H : Heap} {locs : List Loc} {rest : List Value} (hx : p.tables.exec = Jvm.exec) (hb : c.code = cc) (hdg : decode cc pc = .ok (.aaload, 1)) (hK : va_K D cl (ztys dA) s) (hk : k0 = 4 ∨ k0 = 5) (hH : zhR B D cl dA aS h H) (hr : h[r]? = some (.inl (k0, N, .inr (.inr (.inr (.inr f)))))) (hi : vp_in i N) (k : W p l e R s m args below meth c H locs cn sn Q (F0 m (pc + 1) lsA (zcv B aS (zrf (f i.toNatClampNeg)) :: rest))) : W p l e R s m args below meth c H locs cn sn Q (F0 m pc lsA (.int i :: .ref (B + r) :: rest)) := by
  have hlt : i.toNatClampNeg < N := Nat.not_le.mp fun q => hi (Or.inr q)
  have hat := hH.2 _ _ hr
  have ha : H[B + r]? = some (vp_cell (dA k0) (N, .inr (.inr (.inr (.inr (fun j => (f j).map (fun a => B + a))))))) := hat
  rw [zrf_cv] at k
  rcases hk with rfl | rfl
  · exact W.aald (v := va_rf ((f i.toNatClampNeg).map (fun a => B + a))) (ty := .array .int) hx hb ha ((hK.2 4 _ (ztys_get dA (by omega))).1 N (fun j => va_rf ((f j).map (fun a => B + a)))) rfl (fun q => by cases q) (by show ¬ (i < 0 ∨ (arrV _ _ _).slots.size ≤ _); rw [arrV_size]; exact hi) (by show (arrV _ _ _).slots[_]? = _; rw [arrV_read _ _ hlt]) rfl rfl hdg k
  · exact W.aald (v := va_rf ((f i.toNatClampNeg).map (fun a => B + a))) (ty := .object "TankBehind$Car") hx hb ha ((hK.2 5 _ (ztys_get dA (by omega))).1 N (fun j => va_rf ((f j).map (fun a => B + a)))) rfl (fun q => by cases q) (by show ¬ (i < 0 ∨ (arrV _ _ _).slots.size ≤ _); rw [arrV_size]; exact hi) (by show (arrV _ _ _).slots[_]? = _; rw [arrV_read _ _ hlt]) rfl rfl hdg k
theorem s_aaload (hx : p.tables.exec = Jvm.exec) (hb : c.code = cc) (hdg : decode cc pc = .ok (.aaload, 1)) (hK : va_K D cl (ztys dA) s) (hz : zex2 tt G bc bs rt M ret (wX p l e R s m args below meth c Q B D cl dA aS nL bc bs) (.aaload, pc + 1, a, b, d, v) L st h cn sn) : wX p l e R s m args below meth c Q B D cl dA aS nL bc bs pc L st h cn sn := by
  intro hc1 hc2 H locs lsA hH hS hL
  unfold zex2 at hz
  dsimp only at hz
  split at hz
  · obtain ⟨k0, N, f, hk, hr, hi, k⟩ := hz
    exact zW_aald hx hb hdg hK hk hH hr hi (k hc1 hc2 _ _ _ hH hS hL)
  · exact hz.elim
theorem s_alen (hx : p.tables.exec = Jvm.exec) (hb : c.code = cc) (hdg : decode cc pc = .ok (.arraylength, 1)) (hK : va_K D cl (ztys dA) s) (hz : zex2 tt G bc bs rt M ret (wX p l e R s m args below meth c Q B D cl dA aS nL bc bs) (.arraylength, pc + 1, a, b, d, v) L st h cn sn) : wX p l e R s m args below meth c Q B D cl dA aS nL bc bs pc L st h cn sn := by
  intro hc1 hc2 H locs lsA hH hS hL
  unfold zex2 at hz
  dsimp only at hz
  split at hz
  · obtain ⟨k0, N, x, hk, hr, k⟩ := hz
    refine va_alen hx hb hK (zP1 (hH.2 _ _ hr)) 0 k0 rfl (ztys_get dA hk) ?_ hdg (k hc1 hc2 _ _ _ hH hS hL)
    rcases x with x | x | x | x | x <;> rfl
  · exact hz.elim
theorem s_saload (hx : p.tables.exec = Jvm.exec) (hb : c.code = cc) (hdg : decode cc pc = .ok (.iaload, 1)) (hX : ∀ k, aS k < s.heap.size ∧ ¬ B ≤ aS k ∧ va_X (aS k) G.2.2.1 G.2.2.2 s s.heap) (hz : zex2 tt G bc bs rt M ret (wX p l e R s m args below meth c Q B D cl dA aS nL bc bs) (.saload, pc + 1, a, b, d, v) L st h cn sn) : wX p l e R s m args below meth c Q B D cl dA aS nL bc bs pc L st h cn sn := by
  intro hc1 hc2 H locs lsA hH hS hL
  unfold zex2 at hz
  dsimp only at hz
  split at hz
  · obtain ⟨hi, k⟩ := hz
    exact va_sld hx hb (hX _).2.2 (hX _).1 (hX _).2.1 hS hi hdg (k hc1 hc2 _ _ _ hH hS hL)
  · exact hz.elim
theorem s_slen (hx : p.tables.exec = Jvm.exec) (hb : c.code = cc) (hdg : decode cc pc = .ok (.arraylength, 1)) (hX : ∀ k, aS k < s.heap.size ∧ ¬ B ≤ aS k ∧ va_X (aS k) G.2.2.1 G.2.2.2 s s.heap) (hz : zex2 tt G bc bs rt M ret (wX p l e R s m args below meth c Q B D cl dA aS nL bc bs) (.i2s, pc + 1, a, b, d, v) L st h cn sn) : wX p l e R s m args below meth c Q B D cl dA aS nL bc bs pc L st h cn sn := by
  intro hc1 hc2 H locs lsA hH hS hL
  unfold zex2 at hz
  dsimp only at hz
  split at hz
  · exact va_slen hx hb (hX _).2.2 (hX _).1 (hX _).2.1 hS hdg (hz hc1 hc2 _ _ _ hH hS hL)
  · exact hz.elim
theorem s_iastore (hx : p.tables.exec = Jvm.exec) (hb : c.code = cc) (hdg : decode cc pc = .ok (.iastore, 1)) (hK : va_K D cl (ztys dA) s) (hz : zex2 tt G bc bs rt M ret (wX p l e R s m args below meth c Q B D cl dA aS nL bc bs) (.iastore, pc + 1, a, b, d, v) L st h cn sn) : wX p l e R s m args below meth c Q B D cl dA aS nL bc bs pc L st h cn sn := by
  intro hc1 hc2 H locs lsA hH hS hL
  unfold zex2 at hz
  dsimp only at hz
  split at hz
  · rename_i x i r s9
    obtain ⟨N, f, hr, hi, k⟩ := hz
    have ha : H[B + r]? = some (vp_cell (dA 0) (N, .inl f)) := hH.2 _ _ hr
    refine W.iast hx hb ha ((hK.2 0 _ (ztys_get dA (by omega))).1 N (fun j => .int (f j))) (fun q => by cases q) (by show ¬ (i < 0 ∨ (arrV _ _ _).slots.size ≤ _); rw [arrV_size]; exact hi) rfl rfl hdg fun H1 e9 z oq => ?_
    refine k hc1 hc2 _ _ _ (hH.set hr ?_ z oq) (hS.put z oq (Nat.le_add_right B r)) hL
    show H1[B + r]? = some (vp_cell _ _)
    rw [e9]
    rw [vp_cell_i, show zcA B (N, .inl (upd f i.toNatClampNeg x)) = (N, .inl (upd f i.toNatClampNeg x)) from rfl, vp_cell_i, arrV_store]
    congr 2
    funext q
    by_cases hq : q = i.toNatClampNeg
    · subst hq
      simp [updV, upd]
    · simp [updV, upd, hq]
  · exact hz.elim
theorem s_bastore (hx : p.tables.exec = Jvm.exec) (hb : c.code = cc) (hdg : decode cc pc = .ok (.bastore, 1)) (hK : va_K D cl (ztys dA) s) (hz : zex2 tt G bc bs rt M ret (wX p l e R s m args below meth c Q B D cl dA aS nL bc bs) (.bastore, pc + 1, a, b, d, v) L st h cn sn) : wX p l e R s m args below meth c Q B D cl dA aS nL bc bs pc L st h cn sn := by
  intro hc1 hc2 H locs lsA hH hS hL
  unfold zex2 at hz
  dsimp only at hz
  split at hz
  · rename_i x i r s9
    obtain ⟨k0, N, f, hk, hr, hi, k⟩ := hz
    have ha : H[B + r]? = some (vp_cell (dA k0) (N, .inl f)) := hH.2 _ _ hr
    rcases hk with rfl | rfl
    · refine W.zast hx hb ha ((hK.2 1 _ (ztys_get dA (by omega))).1 N (fun j => .int (f j))) (fun q => by cases q) (by show ¬ (i < 0 ∨ (arrV _ _ _).slots.size ≤ _); rw [arrV_size]; exact hi) rfl rfl hdg fun H1 e9 z oq => ?_
      refine k hc1 hc2 _ _ _ (hH.set hr ?_ z oq) (hS.put z oq (Nat.le_add_right B r)) hL
      show H1[B + r]? = some (vp_cell _ _)
      rw [e9]
      rw [vp_cell_i, show zcA B (N, .inl (upd f i.toNatClampNeg (vp_nar (if (1 : Nat) = 1 then .boolean else .byte) x))) = (N, .inl (upd f i.toNatClampNeg (vp_nar .boolean x))) from rfl, vp_cell_i, arrV_store]
      congr 2
      funext q
      by_cases hq : q = i.toNatClampNeg
      · subst hq
        simp [updV, upd, vp_nar]
        try rfl
      · simp [updV, upd, hq]
    · refine W.bast hx hb ha ((hK.2 2 _ (ztys_get dA (by omega))).1 N (fun j => .int (f j))) (fun q => by cases q) (by show ¬ (i < 0 ∨ (arrV _ _ _).slots.size ≤ _); rw [arrV_size]; exact hi) rfl rfl hdg fun H1 e9 z oq => ?_
      refine k hc1 hc2 _ _ _ (hH.set hr ?_ z oq) (hS.put z oq (Nat.le_add_right B r)) hL
      show H1[B + r]? = some (vp_cell _ _)
      rw [e9]
      rw [vp_cell_i, show zcA B (N, .inl (upd f i.toNatClampNeg (vp_nar (if (2 : Nat) = 1 then .boolean else .byte) x))) = (N, .inl (upd f i.toNatClampNeg (vp_nar .byte x))) from rfl, vp_cell_i, arrV_store]
      congr 2
      funext q
      by_cases hq : q = i.toNatClampNeg
      · subst hq
        simp [updV, upd, vp_nar]
        try rfl
      · simp [updV, upd, hq]
  · exact hz.elim
theorem s_lastore (hx : p.tables.exec = Jvm.exec) (hb : c.code = cc) (hdg : decode cc pc = .ok (.lastore, 1)) (hK : va_K D cl (ztys dA) s) (hz : zex2 tt G bc bs rt M ret (wX p l e R s m args below meth c Q B D cl dA aS nL bc bs) (.lastore, pc + 1, a, b, d, v) L st h cn sn) : wX p l e R s m args below meth c Q B D cl dA aS nL bc bs pc L st h cn sn := by
  intro hc1 hc2 H locs lsA hH hS hL
  unfold zex2 at hz
  dsimp only at hz
  split at hz
  · rename_i x i r s9
    obtain ⟨N, f, hr, hi, k⟩ := hz
    have ha : H[B + r]? = some (vp_cell (dA 3) (N, .inr (.inl f))) := hH.2 _ _ hr
    refine W.last hx hb ha ((hK.2 3 _ (ztys_get dA (by omega))).1 N (fun j => .long (f j))) (fun q => by cases q) (by show ¬ (i < 0 ∨ (arrV _ _ _).slots.size ≤ _); rw [arrV_size]; exact hi) rfl rfl hdg fun H1 e9 z oq => ?_
    refine k hc1 hc2 _ _ _ (hH.set hr ?_ z oq) (hS.put z oq (Nat.le_add_right B r)) hL
    show H1[B + r]? = some (vp_cell _ _)
    rw [e9]
    rw [vp_cell_l, show zcA B (N, .inr (.inl (vp_updL f i.toNatClampNeg x))) = (N, .inr (.inl (vp_updL f i.toNatClampNeg x))) from rfl, vp_cell_l, arrV_store]
    congr 2
    funext q
    by_cases hq : q = i.toNatClampNeg
    · subst hq
      simp [updV, vp_updL]
    · simp [updV, vp_updL, hq]
  · exact hz.elim
theorem s_getfield {C : String} {T : u_T} {N i : Nat} (hx : p.tables.exec = Jvm.exec) (hb : c.code = cc) (hdg : decode cc pc = .ok (.getfield i, 3)) (hts : ∀ w ∈ Ts, w.before args s = true) (hT : zTT tt cl Ts) (hown : s.vm.findClass own = some m.cls) (hK : va_K D cl (ztys dA) s) (hc : cl[a]? = some (C, T, N)) (hk : b < N) (hlink : (Jvm.Cond.fieldLink own i (T b).1 (T b).2.1 (T b).2.2.1).before args s = true) {z9 : Nat} (hz : zex2 tt G bc bs rt M ret (wX p l e R s m args below meth c Q B D cl dA aS nL bc bs) (.getfield z9, pc + 3, a, b, d, v) L st h cn sn) : wX p l e R s m args below meth c Q B D cl dA aS nL bc bs pc L st h cn sn := by
  intro hc1 hc2 H locs lsA hH hS hL
  unfold zex2 at hz
  dsimp only at hz
  split at hz
  · obtain ⟨fs, w, hr, hw, k⟩ := hz
    obtain ⟨ty, f, ht1, ht2, ht3, hin⟩ := hT a _ hc
    exact va_get (D := D) hx hb hts hin hown hK (zP1 (hH.2 _ _ hr)) 0 rfl hc b hk hlink (fun _ h9 => h9) (by rw [List.getElem?_map, hw]; rfl) hdg (k hc1 hc2 _ _ _ hH hS hL)
  · exact hz.elim
theorem s_putfield {C : String} {T : u_T} {N i : Nat} (hx : p.tables.exec = Jvm.exec) (hb : c.code = cc) (hdg : decode cc pc = .ok (.putfield i, 3)) (hts : ∀ w ∈ Ts, w.before args s = true) (hT : zTT tt cl Ts) (hown : s.vm.findClass own = some m.cls) (hK : va_K D cl (ztys dA) s) (hc : cl[a]? = some (C, T, N)) (hk : b < N) (hlink : (Jvm.Cond.fieldLink own i (T b).1 (T b).2.1 (T b).2.2.1).before args s = true) (hfin : (T b).2.2.2 = false ∨ (meth.name = "<init>" ∧ (T b).1 = own)) {z9 : Nat} (hz : zex2 tt G bc bs rt M ret (wX p l e R s m args below meth c Q B D cl dA aS nL bc bs) (.putfield z9, pc + 3, a, b, d, v) L st h cn sn) : wX p l e R s m args below meth c Q B D cl dA aS nL bc bs pc L st h cn sn := by
  intro hc1 hc2 H locs lsA hH hS hL
  unfold zex2 at hz
  dsimp only at hz
  split at hz
  · rename_i w r s9
    obtain ⟨fs, t, hr, hl, ht, hn, hf, k⟩ := hz
    obtain ⟨ty, f, ht1, ht2, ht3, hin⟩ := hT a _ hc
    rw [ht1] at ht
    have et : ty b = t := Option.some.inj ht
    subst et
    have hn' : narrow (ty b) (zcv B aS w) = zcv B aS w := by
      cases w <;> first | exact hn | (cases hty : ty b <;> rfl)
    have hf' : fits (ty b) (zcv B aS w) = true := by
      cases w <;> first | exact hf | (revert hf; cases ty b <;> first | exact fun q => q | (intro q; cases q))
    have hap := va_apart (own := own) hts hin ty ht2 ht3 hK hc
    obtain ⟨q0, h1, cell, q1, q2, q3, q4⟩ := hH.2 _ _ hr
    have hq0 : q0 = (C, T, N) := Option.some.inj (h1.symm.trans hc)
    subst hq0
    obtain ⟨hSl, hfc, kC, hkC, hkind⟩ := hK.1 a _ hc
    obtain ⟨cf, kf, fi, f2, hi, hsl⟩ := hSl b hk
    have hlay := u_lays hts hin hk
    have hst := (u_facts hfc hkC hlay hi).1
    have hln : b < (fs.map (zcv B aS)).length := by rw [List.length_map]; exact hl
    have fin : ∀ H' : Heap, H'[B + r]? = some (cell.setSlot (D.2 a b) (zcv B aS w)) → H'.size = H.size → (∀ q, q ≠ B + r → H'[q]? = H[q]?) → W p l e R s m args below meth c H' (locs ++ [⟨B + r, D.2 a b⟩]) cn sn Q (F0 m (pc + 3) lsA (s9.map (zcv B aS))) := by
      intro H' e1 e2 e3
      refine k hc1 hc2 _ _ _ (hH.set hr ?_ e2 e3) (hS.put e2 e3 (Nat.le_add_right B r)) hL
      show va_at D cl (B + r, .inr (a, (fs.set b w).map (zcv B aS))) H'
      rw [List.map_set]
      exact ⟨_, hc, t_OB.to (V := updV (vp_V (fs.map (zcv B aS))) b (zcv B aS w)) ⟨_, e1, q2, q3, t_set q4 hap hk _⟩ (fun j _ => vp_updV_set hln _ j)⟩
    rcases hfin with hfin | ⟨hin2, hdecl⟩
    · have hlay2 := hts _ (hin _ (u_in_lay hk))
      unfold u_lay at hlay2
      rw [if_neg (by rw [hfin]; decide)] at hlay2
      have h6 := u_store hfc hkC hkind hlay2 hi (ht2 b hk) hn' hf'
      refine W.putK hx hb (f := f2) ⟨hown, hlink, ⟨_, _, _, hi⟩, hst⟩ (by rw [q2]; exact h6) q1 q3 (by rw [hsl]; exact k2_hasslot (q4 b hk)) rfl rfl hdg fun H' e1 e2 e3 => ?_
      rw [hsl] at e1 ⊢
      exact fin H' e1 e2 e3
    · cases hfin2 : (T b).2.2.2 with
      | false =>
        have hlay2 := hts _ (hin _ (u_in_lay hk))
        unfold u_lay at hlay2
        rw [if_neg (by rw [hfin2]; decide)] at hlay2
        have h6 := u_store hfc hkC hkind hlay2 hi (ht2 b hk) hn' hf'
        refine W.putK hx hb (f := f2) ⟨hown, hlink, ⟨_, _, _, hi⟩, hst⟩ (by rw [q2]; exact h6) q1 q3 (by rw [hsl]; exact k2_hasslot (q4 b hk)) rfl rfl hdg fun H' e1 e2 e3 => ?_
        rw [hsl] at e1 ⊢
        exact fin H' e1 e2 e3
      | true =>
        have hlay2 := hts _ (hin _ (u_in_lay hk))
        unfold u_lay at hlay2
        rw [if_pos hfin2] at hlay2
        have hcf : m.cls = cf := by
          obtain ⟨_, _, c', _, _, _, -, -, hf', -, -, -, hown2, -⟩ := Cond.laysFinal_spec hlay2
          have e1 : c' = cf := by have := hi.symm.trans hf'; simp at this; exact this.1.symm
          rw [hdecl] at hown2
          rw [← e1]; exact Option.some.inj (hown.symm.trans hown2)
        have h6 := u_fits hfc hkC hkind (Or.inr hlay2) hi (ht2 b hk) hn' hf'
        refine W.putFinK hx hb hown hlink hi hst hcf hin2 (by rw [q2]; exact h6) q1 q3 (by rw [hsl]; exact k2_hasslot (q4 b hk)) rfl rfl hdg fun H' e1 e2 e3 => ?_
        rw [hsl] at e1 ⊢
        exact fin H' e1 e2 e3
  · exact hz.elim
theorem s_new {C : String} {T : u_T} {N i : Nat} (hx : p.tables.exec = Jvm.exec) (hb : c.code = cc) (hdg : decode cc pc = .ok (.new i, 3)) (hts : ∀ w ∈ Ts, w.before args s = true) (hT : zTT tt cl Ts) (hown : s.vm.findClass own = some m.cls) (hK : va_K D cl (ztys dA) s) (hc : cl[a]? = some (C, T, N)) (hR : bc ≤ R.cells ∧ bs ≤ R.slots) (hcl : (Jvm.Cond.classLink own i C).before args s = true) (hinst : (Jvm.Cond.instantiable C N).before args s = true) (hini : (Jvm.Cond.initialized C).before args s = true) {z9 : Nat} (hz : zex2 tt G bc bs rt M ret (wX p l e R s m args below meth c Q B D cl dA aS nL bc bs) (.new z9, pc + 3, a, b, d, v) L st h cn sn) : wX p l e R s m args below meth c Q B D cl dA aS nL bc bs pc L st h cn sn := by
  intro hc1 hc2 H locs lsA hH hS hL
  unfold zex2 at hz
  dsimp only at hz
  obtain ⟨g1, g2, k⟩ := hz
  obtain ⟨ty, f, ht1, ht2, ht3, hin⟩ := hT a _ hc
  have e0 : zcls tt a = zfields ty N := by unfold zcls; rw [ht1]
  have e2 : (zcls tt a).length = N := by rw [e0]; simp [zfields]
  rw [e2] at g2 k
  have hKn := hK.1 a _ hc
  refine W.newcK hx hb hown hcl hinst hini rfl hdg (by omega) (by omega) hKn.2.1 rfl fun H1 kC hkC e1 z1 o1 => ?_
  have h9 := k (by omega) (by omega) H1 locs lsA (hH.push (e := .inr (a, zcls tt a)) ?_ z1 o1) (zS_push hS (by omega) o1) hL
  · have e3 : (Value.ref h.length :: st).map (zcv B aS) = .ref H.size :: st.map (zcv B aS) := by rw [hH.1]; rfl
    rw [e3] at h9
    exact h9
  · refine ⟨_, hc, (u_born ty hts hin hKn hkC e1 ht2).to (fun j hj => ?_)⟩
    show defaultValue (ty j) = vp_V ((zcls tt a).map (zcv B aS)) j
    rw [e0]
    exact zfields_V B aS ty hj
theorem zat_arr {D : va_G} {cl : List vw_C} {q : Nat} {H : Heap} {k N : Nat} (hk : k < 6) (e1 : H[q]? = some (arrV (dA k) N (fun _ => defaultValue (zty k)))) : va_at D cl (q, zcE B dA aS (zarr k N)) H := by
  rcases (by omega : k = 0 ∨ k = 1 ∨ k = 2 ∨ k = 3 ∨ k = 4 ∨ k = 5) with rfl | rfl | rfl | rfl | rfl | rfl
  all_goals
    show H[q]? = some (vp_cell _ _)
    rw [e1]
  · rw [show zcA B (N, .inl (fun _ => (0 : Int32))) = (N, .inl (fun _ => (0 : Int32))) from rfl, vp_cell_i]; rfl
  · rw [show zcA B (N, .inl (fun _ => (0 : Int32))) = (N, .inl (fun _ => (0 : Int32))) from rfl, vp_cell_i]; rfl
  · rw [show zcA B (N, .inl (fun _ => (0 : Int32))) = (N, .inl (fun _ => (0 : Int32))) from rfl, vp_cell_i]; rfl
  · rw [show zcA B (N, .inr (.inl (fun _ => (0 : Int64)))) = (N, .inr (.inl (fun _ => (0 : Int64)))) from rfl, vp_cell_l]; rfl
  · rw [show zcA B (N, .inr (.inr (.inr (.inr (fun _ => (none : Option Nat)))))) = (N, .inr (.inr (.inr (.inr (fun _ => (none : Option Nat)))))) from rfl, vp_cell_q]; rfl
  · rw [show zcA B (N, .inr (.inr (.inr (.inr (fun _ => (none : Option Nat)))))) = (N, .inr (.inr (.inr (.inr (fun _ => (none : Option Nat)))))) from rfl, vp_cell_q]; rfl
theorem zRA_find {k : Nat} {cA : ClassId} (hk : k < 6) (hK : va_K D cl (ztys dA) s) (hf : s.vm.findClass ("[" ++ (zty k).toString) = some cA) : cA = dA k := by
  have h9 := (hK.2 k _ (ztys_get dA hk)).2
  rcases (by omega : k = 0 ∨ k = 1 ∨ k = 2 ∨ k = 3 ∨ k = 4 ∨ k = 5) with rfl | rfl | rfl | rfl | rfl | rfl
  · exact Option.some.inj (hf.symm.trans h9)
  · exact Option.some.inj (hf.symm.trans h9)
  · exact Option.some.inj (hf.symm.trans h9)
  · exact Option.some.inj (hf.symm.trans h9)
  · exact Option.some.inj (hf.symm.trans h9)
  · obtain ⟨kA, comp, h1, h2, h3, h4⟩ := h9
    exact Option.some.inj (hf.symm.trans h4)
theorem s_newarray {t : ArrayType} (hx : p.tables.exec = Jvm.exec) (hb : c.code = cc) (hdg : decode cc pc = .ok (.newarray t, 2)) (hK : va_K D cl (ztys dA) s) (hR : bc ≤ R.cells ∧ bs ≤ R.slots) (harr : (Jvm.Cond.arrayClass (newarray.typeOf t)).before args s = true) (hz : zex2 tt G bc bs rt M ret (wX p l e R s m args below meth c Q B D cl dA aS nL bc bs) (.newarray t, pc + 2, a, b, d, v) L st h cn sn) : wX p l e R s m args below meth c Q B D cl dA aS nL bc bs pc L st h cn sn := by
  intro hc1 hc2 H locs lsA hH hS hL
  unfold zex2 at hz
  dsimp only at hz
  split at hz
  · rename_i x s9
    obtain ⟨g0, g3, g1, g2, g4, k⟩ := hz
    have hty : newarray.typeOf t = zty (zkind t) ∧ zkind t < 6 ∧ componentBytes (newarray.typeOf t) ≤ 8 := by
      cases t <;> first | exact ⟨rfl, by decide, by decide⟩ | (exfalso; revert g4; decide)
    have hbytes : x.toNatClampNeg * componentBytes (newarray.typeOf t) ≤ 536870912 := Nat.le_trans (Nat.mul_le_mul g3 hty.2.2) (by decide)
    refine va_newaK hx hb harr rfl hdg rfl g0 rfl hbytes (by omega) (by omega) rfl fun H1 cA e1 z1 o1 hAr hNm => ?_
    rw [hty.1] at hNm e1
    have ec := zRA_find hty.2.1 hK hNm
    subst ec
    have h9 := k (by omega) (by omega) H1 locs lsA (hH.push (e := zarr (zkind t) x.toNatClampNeg) (zat_arr hty.2.1 e1) z1 o1) (zS_push hS (by omega) o1) hL
    have e3 : (Value.ref h.length :: s9).map (zcv B aS) = .ref H.size :: s9.map (zcv B aS) := by rw [hH.1]; rfl
    rw [e3] at h9
    exact h9
  · exact hz.elim
end SIM2
end
section
theorem ztoNat {i : Int} (h : 0 ≤ i) : ((i.toNat : Nat) : Int) = i := Int.toNat_of_nonneg h
def zPc (B : Nat) (D : va_G) (cl : List vw_C) (dA : Nat → ClassId) (aS : Nat → Nat) (Z : State → Prop) (as : List Value) (h : zH) : Array Value → State → Prop := va_Pc (as.map (zcv B aS)) (fun U => zhR B D cl dA aS h U.heap ∧ va_K D cl (ztys dA) U ∧ Z U)
def zQc (B : Nat) (D : va_G) (cl : List vw_C) (dA : Nat → ClassId) (aS : Nat → Nat) (K : zQ) : Array Value → State → Outcome → State → Prop := fun _ st o t => (∃ (w : Option Value) (h2 : zH), o = .returned (w.map (zcv B aS)) ∧ K w h2 ∧ zhR B D cl dA aS h2 t.heap) ∧ va_F (fun q => B ≤ q) st t
def zrm (d mc ms : Nat) : Room := { frames := d, cells := mc, slots := ms, locals := d * 64 }
/-- what the callees of depth d are worth in the machine -/
def zMet (l : Launch) (nm : List (MethodName × ByteArray × Nat)) (G : zG) (B : Nat) (D : va_G) (cl : List vw_C) (dA : Nat → ClassId) (aS : Nat → Nat) (Z : State → Prop) (Ts : List Jvm.Cond) (d : Nat) (M : zM) : Prop := ∀ (j : Nat) (as : List Value) (h : zH) (K : zQ), M j as h K → ∀ (y : MethodName) (bytes : ByteArray) (np : Nat) (cd : zK) (nL : Nat) (rt : Option FieldType) (mc ms : Nat), nm[j]? = some (y, bytes, np) → G.1[j]? = some (cd, nL, rt, mc, ms) → Met l y (.code y bytes nL rt :: Ts) (zrm d mc ms) (zPc B D cl dA aS Z as h) (zQc B D cl dA aS K) mc ms (fun q => B ≤ q)
/-- what is known below the world's own cells, and stays -/
def zStays (B : Nat) (Z : State → Prop) : Prop := (∀ s U : State, s.WarmedH U.vm → s.heap.size ≤ U.heap.size → (∀ q : Nat, q < B → U.heap[q]? = s.heap[q]?) → Z s → Z U) ∧ ∀ U V : State, V.heap = U.heap → V.vm = U.vm → Z U → Z V
theorem zPc_blind {B : Nat} {D : va_G} {cl : List vw_C} {dA : Nat → ClassId} {aS : Nat → Nat} {Z : State → Prop} (hZ : zStays B Z) {as : List Value} {h : zH} : FrameBlind (zPc B D cl dA aS Z as h) := fun a U g mk q => ⟨q.1, q.2.1, va_K.moved (u := U) (U := U.calling g mk a) (Vm.Alike.refl U.vm) q.2.2.1, hZ.2 U _ rfl rfl q.2.2.2⟩
section SIM3
variable {p : Program} {l : Launch} {e : Env} {R : Room} {s : State} {m : MethodId} {args : Array Value} {below : List Frame} {meth : Method} {c : Code} {Q : State → Prop} {cc : ByteArray} {B : Nat} {D : va_G} {cl : List vw_C} {dA : Nat → ClassId} {aS : Nat → Nat} {nL bc bs pc : Nat}
variable {a b d : Nat} {v : Value} {L : zL} {st : List Value} {h : zH} {cn sn : Nat}
variable {tt : zT} {G : zG} {rt : Option FieldType} {M : zM} {ret : zQ} {Ts : List Jvm.Cond} {own : String} {Z : State → Prop}
theorem s_tableswitch {df lo hi dflt : Int} {tg offs : Array Int} {len : Nat} (hx : p.tables.exec = Jvm.exec) (hb : c.code = cc) (hdg : decode cc pc = .ok (.tableswitch dflt lo hi offs, len)) (h1 : df = (pc : Int) + dflt) (h2 : tg = offs.map (fun o => (pc : Int) + o)) (h3 : 0 ≤ df) (h4 : ∀ t ∈ tg, (0 : Int) ≤ t) {nx : Nat} (hz : zex2 tt G bc bs rt M ret (wX p l e R s m args below meth c Q B D cl dA aS nL bc bs) (.tableswitch df lo hi tg, nx, a, b, d, v) L st h cn sn) : wX p l e R s m args below meth c Q B D cl dA aS nL bc bs pc L st h cn sn := by
  intro hc1 hc2 H locs lsA hH hS hL
  unfold zex2 at hz
  dsimp only at hz
  split at hz
  · rename_i x s9
    by_cases q1 : x.toInt < lo ∨ hi < x.toInt
    · exact lv_tableOut hx hb hdg q1 (by rw [ztoNat h3, h1]) (hz.1 q1 hc1 hc2 _ _ _ hH hS hL)
    · have q2 : ¬ x.toInt < lo := fun q => q1 (Or.inl q)
      have q3 : ¬ hi < x.toInt := fun q => q1 (Or.inr q)
      obtain ⟨t, ht, k⟩ := hz.2 q2 q3
      have ht0 : 0 ≤ t := h4 t (Array.mem_of_getElem? ht)
      rw [h2, Array.getElem?_map] at ht
      obtain ⟨off, ho, rfl⟩ := Option.map_eq_some_iff.mp ht
      exact lv_tableIn hx hb hdg q2 q3 ho (by rw [ztoNat ht0]) (k hc1 hc2 _ _ _ hH hS hL)
  · exact hz.elim
theorem zoff_map (pc : Int) (x : Int) (df : Int) : ∀ ps : List (Int × Int), Op.lookupswitch.offset (ps.map (fun q => (q.1, pc + q.2))) (pc + df) x = pc + Op.lookupswitch.offset ps df x
  | [] => rfl
  | (k, o) :: r => by
    rw [List.map_cons]
    unfold Op.lookupswitch.offset
    by_cases q : k = x
    · rw [if_pos q, if_pos q]
    · rw [if_neg q, if_neg q]
      exact zoff_map pc x df r
theorem s_lookupswitch {df dflt : Int} {qs ps : Array (Int × Int)} {len : Nat} (hx : p.tables.exec = Jvm.exec) (hb : c.code = cc) (hdg : decode cc pc = .ok (.lookupswitch dflt ps, len)) (hp : (ps.toList.zip (ps.toList.drop 1)).all (fun (a, next) => a.1 < next.1) = true) (h1 : df = (pc : Int) + dflt) (h2 : qs.toList = ps.toList.map (fun q => (q.1, (pc : Int) + q.2))) (h3 : 0 ≤ df) (h4 : ∀ t ∈ qs.toList, (0 : Int) ≤ t.2) {nx : Nat} (hz : zex2 tt G bc bs rt M ret (wX p l e R s m args below meth c Q B D cl dA aS nL bc bs) (.lookupswitch df qs, nx, a, b, d, v) L st h cn sn) : wX p l e R s m args below meth c Q B D cl dA aS nL bc bs pc L st h cn sn := by
  intro hc1 hc2 H locs lsA hH hS hL
  unfold zex2 at hz
  dsimp only at hz
  split at hz
  · rename_i x s9
    have e1 : Op.lookupswitch.offset qs.toList df x.toInt = (pc : Int) + Op.lookupswitch.offset ps.toList dflt x.toInt := by rw [h2, h1, zoff_map]
    have e2 : ∀ (qs : List (Int × Int)) (df : Int), 0 ≤ df → (∀ t ∈ qs, (0 : Int) ≤ t.2) → 0 ≤ Op.lookupswitch.offset qs df x.toInt := by
      intro qs
      induction qs with
      | nil => intro df h3 _; exact h3
      | cons q r ih =>
        intro df h3 h4
        obtain ⟨k, o⟩ := q
        unfold Op.lookupswitch.offset
        by_cases q : k = x.toInt
        · rw [if_pos q]; exact h4 _ List.mem_cons_self
        · rw [if_neg q]; exact ih df h3 (fun t ht => h4 t (List.mem_cons_of_mem _ ht))
    have e3 := e2 qs.toList df h3 h4
    exact lv_lookup hx hb hdg hp rfl (by rw [ztoNat e3, e1]) (hz hc1 hc2 _ _ _ hH hS hL)
  · exact hz.elim
theorem s_objInit {i : Nat} (hx : p.tables.exec = Jvm.exec) (hb : c.code = cc) (hml : c.maxLocals = nL) (hdg : decode cc pc = .ok (.invokespecial i, 3)) (hown : s.vm.findClass own = some m.cls) (hlink : (Jvm.Cond.methodLink own i Lib.objectInit).before args s = true) (hinst : (Jvm.Cond.instanceMethod Lib.objectInit).before args s = true) (hcode : (Jvm.Cond.code Lib.objectInit ⟨#[0xb1]⟩ 1 none).before args s = true) (hR1 : 1 ≤ R.frames) (hR2 : 20 ≤ R.locals) (hz : zex2 tt G bc bs rt M ret (wX p l e R s m args below meth c Q B D cl dA aS nL bc bs) (.pop2, pc + 3, a, b, d, v) L st h cn sn) : wX p l e R s m args below meth c Q B D cl dA aS nL bc bs pc L st h cn sn := by
  intro hc1 hc2 H locs lsA hH hS hL
  unfold zex2 at hz
  dsimp only at hz
  split at hz
  · rename_i r s9
    have h8 : ((s9.map (zcv B aS)).map fun v => v.category).sum ≤ 8 := by rw [zcv_sum]; exact hz.1
    have h9 : 2 * (F0 m pc lsA ((Value.ref r :: s9).map (zcv B aS))).monitorRoom + ((s9.map (zcv B aS)).map fun v => v.category).sum ≤ 8 := lv_room h8
    exact W.objInit hx hb hown hlink hinst hcode rfl (hL.2.1.trans hml.symm) rfl hdg hR1 (by omega) (hz.2 hc1 hc2 _ _ _ hH hS hL)
  · exact hz.elim
/-- behind a call -/
theorem zcall {mc ms : Nat} {K : zQ} {arr : Array Value} {lsA : Array Slot} {st0 rest : List Value} {H : Heap} {locs : List Loc} (hr : va_Run p l e R s m args below meth c H locs cn sn mc ms (F0 m pc lsA st0) rest (zQc B D cl dA aS K arr) (fun q => B ≤ q)) (hS : va_S (fun q => B ≤ q) s.heap H locs)
    (kk : ∀ (w : Option Value) (h2 : zH) (H1 : Heap) (locs1 : List Loc), K w h2 → zhR B D cl dA aS h2 H1 → va_S (fun q => B ≤ q) s.heap H1 locs1 → W p l e R s m args below meth c H1 locs1 (cn + mc) (sn + ms) Q (F0 m (pc + 3) lsA ((w.map (zcv B aS)).toList ++ rest))) : W p l e R s m args below meth c H locs cn sn Q (F0 m pc lsA st0) := by
  intro T hT X
  obtain ⟨v9, st1, t, T', L9, h0, X', hL9, e1, e2, ⟨⟨w, h2, ho, hk, hh2⟩, hF1, hF2⟩, st9⟩ := hr T hT X
  rw [h0] at hF1 hF2
  cases ho
  obtain ⟨t2, a1, b1⟩ := kk w h2 T'.heap (locs ++ L9) hk (by rw [e1]; exact hh2) ⟨by rw [e1]; exact Nat.le_trans hS.1 hF1, fun q g1 g2 => by rw [e1, hF2 q (Nat.lt_of_lt_of_le g1 hS.1) g2]; exact hS.2.1 q g1 g2, fun q hq => by
    rcases List.mem_append.mp hq with h9 | h9
    · exact hS.2.2 q h9
    · exact hL9 q h9⟩ T' rfl X'
  exact ⟨t2, st9 t2 a1, b1⟩
theorem zcv_toList (w : Option Value) (s9 : List Value) : (w.toList ++ s9).map (zcv B aS) = (w.map (zcv B aS)).toList ++ s9.map (zcv B aS) := by cases w <;> rfl
/-- the callee's start, out of the caller's world -/
theorem zpre {as : List Value} {H : Heap} {locs : List Loc} (hZ : zStays B Z) (hBs : B ≤ s.heap.size) (hK : va_K D cl (ztys dA) s) (hZs : Z s) (hH : zhR B D cl dA aS h H) (hS : va_S (fun q => B ≤ q) s.heap H locs) (U : State) (hU : U.heap = H) (hW : s.WarmedH U.vm) : zPc B D cl dA aS Z as h (as.map (zcv B aS)).toArray U := by
  refine ⟨rfl, by rw [hU]; exact hH, va_K.moved hW.alike hK, hZ.1 s U hW (by rw [hU]; exact hS.1) (fun q hq => ?_) hZs⟩
  rw [hU]
  exact hS.2.1 q (by omega) (Nat.not_le.mpr hq)
theorem s_virt {nm : List (MethodName × ByteArray × Nat)} {y : MethodName} {bytes : ByteArray} {cd : zK} {nL2 mc ms i d9 : Nat} {rt2 : Option FieldType} {T : u_T} {N : Nat} (hx : p.tables.exec = Jvm.exec) (hb : c.code = cc) (hml : c.maxLocals = nL) (hdg : decode cc pc = .ok (.invokevirtual i, 3)) (hts : ∀ w ∈ Ts, w.before args s = true) (hG : GoodIn Ts Ts) (hown : s.vm.findClass own = some m.cls) (hK : va_K D cl (ztys dA) s) (hZ : zStays B Z) (hZs : Z s) (hBs : B ≤ s.heap.size) (hM : zMet l nm G B D cl dA aS Z Ts d9 M)
    (hR : bc ≤ R.cells ∧ bs ≤ R.slots) (hR1 : d9 + 1 ≤ R.frames) (hR2 : d9 * 64 + 64 ≤ R.locals) (h1 : nm[a]? = some (y, bytes, b)) (h2 : G.1[a]? = some (cd, nL2, rt2, mc, ms)) (h3 : nL2 ≤ 40) (hc : cl[d]? = some (y.cls, T, N)) (w1 : Jvm.Cond.methodLink own i y ∈ Ts) (w2 : Jvm.Cond.instanceMethod y ∈ Ts) (w3 : Jvm.Cond.selects y.cls y y ∈ Ts) (w4 : Jvm.Cond.initialized y.cls ∈ Ts) (w5 : Jvm.Cond.code y bytes nL2 rt2 ∈ Ts)
    (hd : y.cls ≠ "java/lang/invoke/MethodHandle" ∧ y.cls ≠ "java/lang/invoke/VarHandle" ∧ (parseMethodDescriptor y.desc).map (fun d => d.parameters.length) = some b) {z9 : Nat} (hz : zex2 tt G bc bs rt M ret (wX p l e R s m args below meth c Q B D cl dA aS nL bc bs) (.invokevirtual z9, pc + 3, a, b, d, v) L st h cn sn) : wX p l e R s m args below meth c Q B D cl dA aS nL bc bs pc L st h cn sn := by
  intro hc1 hc2 H locs lsA hH hS hL
  unfold zex2 at hz
  dsimp only at hz
  have hbud : zbud G a = (mc, ms) := by unfold zbud; rw [h2]
  rw [hbud] at hz
  split at hz
  · rename_i r s9 hdrop
    obtain ⟨g1, ⟨fs, g2⟩, g3, g4, g5, g6⟩ := hz
    have hst : st = (st.take b).reverse.reverse ++ .ref r :: s9 := by rw [List.reverse_reverse, ← hdrop, List.take_append_drop]
    generalize has : (st.take b).reverse = as at g6 hst
    have hlen : as.length = b := by rw [← has, List.length_reverse]; exact g1
    have hMet := hM a _ h _ g6 y bytes b cd nL2 rt2 mc ms h1 h2
    have hGc : GoodIn Ts (wsV own i y.cls y (.code y bytes nL2 rt2 :: Ts)) := fun w hw => by
      rcases List.mem_append.mp hw with q | q
      · rcases List.mem_cons.mp q with rfl | q
        · exact hG _ w1
        rcases List.mem_cons.mp q with rfl | q
        · exact hG _ w2
        rcases List.mem_cons.mp q with rfl | q
        · exact hG _ w3
        rcases List.mem_cons.mp q with rfl | q
        · exact hG _ w4
        cases q
      · rcases List.mem_cons.mp q with rfl | q
        · exact hG _ w5
        · exact hG _ q
    have h8 : ((s9.map (zcv B aS)).map fun v => v.category).sum ≤ 8 := by rw [zcv_sum]; exact g3
    have hstk : st.map (zcv B aS) = (as.map (zcv B aS)).reverse ++ .ref (B + r) :: s9.map (zcv B aS) := by rw [hst, List.map_append, List.map_reverse]; rfl
    refine zcall (va_runV (As := as.map (zcv B aS)) (rest := s9.map (zcv B aS)) ⟨hx, hb, hml, hown, hts⟩ hMet (cwV b hts hGc rfl rfl rfl ⟨rfl, hd⟩ ⟨hR1, by show 8 + (nL2 + 11) + d9 * 64 ≤ R.locals; omega⟩) ⟨zPc_blind hZ, va_recv hK (zP1 (hH.2 _ _ g2)) (q0 := 0) hc rfl, fun U hU hW => zpre hZ hBs hK hZs hH hS U hU hW⟩ rfl (by rw [List.length_map]; exact hlen) hL.2.1 hstk (lv_room h8) hdg ⟨by omega, by omega⟩) hS (fun w h3 H1 locs1 hk hh2 hS2 => ?_)
    have h9 := hk (by omega) (by omega) H1 locs1 lsA hh2 hS2 hL
    rw [zcv_toList] at h9
    exact h9
  · exact hz.elim
theorem s_spec {nm : List (MethodName × ByteArray × Nat)} {y : MethodName} {bytes : ByteArray} {cd : zK} {nL2 mc ms i d9 : Nat} (hx : p.tables.exec = Jvm.exec) (hb : c.code = cc) (hml : c.maxLocals = nL) (hdg : decode cc pc = .ok (.invokespecial i, 3)) (hts : ∀ w ∈ Ts, w.before args s = true) (hG : GoodIn Ts Ts) (hown : s.vm.findClass own = some m.cls) (hK : va_K D cl (ztys dA) s) (hZ : zStays B Z) (hZs : Z s) (hBs : B ≤ s.heap.size) (hM : zMet l nm G B D cl dA aS Z Ts d9 M)
    (hR : bc ≤ R.cells ∧ bs ≤ R.slots) (hR1 : d9 + 1 ≤ R.frames) (hR2 : d9 * 64 + 64 ≤ R.locals) (h1 : nm[a]? = some (y, bytes, b)) (h2 : G.1[a]? = some (cd, nL2, none, mc, ms)) (h3 : nL2 ≤ 40) (w1 : Jvm.Cond.methodLink own i y ∈ Ts ∨ ∃ host, va_Nw (Jvm.Cond.methodLinkNest own i y host) s) (w2 : Jvm.Cond.instanceMethod y ∈ Ts) (w4 : Jvm.Cond.initialized y.cls ∈ Ts) (w5 : Jvm.Cond.code y bytes nL2 none ∈ Ts) (hy : y.name = "<init>")
    (hd : y.cls ≠ "java/lang/invoke/MethodHandle" ∧ y.cls ≠ "java/lang/invoke/VarHandle" ∧ (parseMethodDescriptor y.desc).map (fun d => d.parameters.length) = some b) {z9 : Nat} (hz : zex2 tt G bc bs rt M ret (wX p l e R s m args below meth c Q B D cl dA aS nL bc bs) (.invokespecial z9, pc + 3, a, b, d, v) L st h cn sn) : wX p l e R s m args below meth c Q B D cl dA aS nL bc bs pc L st h cn sn := by
  intro hc1 hc2 H locs lsA hH hS hL
  unfold zex2 at hz
  dsimp only at hz
  have hbud : zbud G a = (mc, ms) := by unfold zbud; rw [h2]
  rw [hbud] at hz
  split at hz
  · rename_i r s9 hdrop
    obtain ⟨g1, g3, g4, g5, g6⟩ := hz
    have hst : st = (st.take b).reverse.reverse ++ .ref r :: s9 := by rw [List.reverse_reverse, ← hdrop, List.take_append_drop]
    generalize has : (st.take b).reverse = as at g6 hst
    have hlen : as.length = b := by rw [← has, List.length_reverse]; exact g1
    have hMet := hM a _ h _ g6 y bytes b cd nL2 none mc ms h1 h2
    have hGc : GoodIn Ts (.code y bytes nL2 none :: Ts) := fun w hw => by
      rcases List.mem_cons.mp hw with rfl | q
      · exact hG _ w5
      · exact hG _ q
    have h8 : ((s9.map (zcv B aS)).map fun v => v.category).sum ≤ 8 := by rw [zcv_sum]; exact g3
    have hstk : st.map (zcv B aS) = (as.map (zcv B aS)).reverse ++ .ref (B + r) :: s9.map (zcv B aS) := by rw [hst, List.map_append, List.map_reverse]; rfl
    refine zcall (B := B) (D := D) (cl := cl) (dA := dA) (aS := aS) (K := fun w h2 => wX p l e R s m args below meth c Q B D cl dA aS nL bc bs (pc + 3) L (w.toList ++ s9) h2 (cn + mc) (sn + ms)) (mc := mc) (ms := ms) (rest := s9.map (zcv B aS)) (arr := (Value.ref (B + r) :: as.map (zcv B aS)).toArray) ?_ hS (fun w h3 H1 locs1 hk hh2 hS2 => ?_)
    · rcases w1 with w1 | ⟨host, w1⟩
      · exact va_runI (As := as.map (zcv B aS)) (rest := s9.map (zcv B aS)) ⟨hx, hb, hml, hown, hts⟩ hMet (cwI b hts hGc rfl rfl rfl (hts _ w4) (hts _ w1) (hts _ w2) hy hd ⟨hR1, by show 8 + (nL2 + 11) + d9 * 64 ≤ R.locals; omega⟩) ⟨zPc_blind hZ, fun U hU hW => zpre hZ hBs hK hZs hH hS U hU hW⟩ rfl (by rw [List.length_map]; exact hlen) hL.2.1 hstk (lv_room h8) hdg ⟨by omega, by omega⟩
      · exact va_runIN (As := as.map (zcv B aS)) (rest := s9.map (zcv B aS)) ⟨hx, hb, hml, hown, hts⟩ hMet ⟨va_cnB b hts hGc rfl rfl rfl w1 (hts _ w4) hd ⟨hR1, by show 8 + (nL2 + 11) + d9 * 64 ≤ R.locals; omega⟩, hy, hts _ w2⟩ ⟨zPc_blind hZ, fun U hU hW => zpre hZ hBs hK hZs hH hS U hU hW⟩ rfl (by rw [List.length_map]; exact hlen) hL.2.1 hstk (lv_room h8) hdg ⟨by omega, by omega⟩
    · have h9 := hk (by omega) (by omega) H1 locs1 lsA hh2 hS2 hL
      rw [zcv_toList] at h9
      exact h9
  · exact hz.elim
theorem s_stat {nm : List (MethodName × ByteArray × Nat)} {y : MethodName} {bytes : ByteArray} {cd : zK} {nL2 mc ms i d9 : Nat} {rt2 : Option FieldType} (hx : p.tables.exec = Jvm.exec) (hb : c.code = cc) (hml : c.maxLocals = nL) (hdg : decode cc pc = .ok (.invokestatic i, 3)) (hts : ∀ w ∈ Ts, w.before args s = true) (hG : GoodIn Ts Ts) (hown : s.vm.findClass own = some m.cls) (hK : va_K D cl (ztys dA) s) (hZ : zStays B Z) (hZs : Z s) (hBs : B ≤ s.heap.size) (hM : zMet l nm G B D cl dA aS Z Ts d9 M)
    (hR : bc ≤ R.cells ∧ bs ≤ R.slots) (hR1 : d9 + 1 ≤ R.frames) (hR2 : d9 * 64 + 64 ≤ R.locals) (h1 : nm[a]? = some (y, bytes, b)) (h2 : G.1[a]? = some (cd, nL2, rt2, mc, ms)) (h3 : nL2 ≤ 40) (w1 : Jvm.Cond.methodLink own i y ∈ Ts ∨ ∃ host, va_Nw (Jvm.Cond.methodLinkNest own i y host) s) (w2 : Jvm.Cond.static y ∈ Ts) (w4 : Jvm.Cond.initialized y.cls ∈ Ts) (w5 : Jvm.Cond.code y bytes nL2 rt2 ∈ Ts)
    (hd : y.cls ≠ "java/lang/invoke/MethodHandle" ∧ y.cls ≠ "java/lang/invoke/VarHandle" ∧ (parseMethodDescriptor y.desc).map (fun d => d.parameters.length) = some b) {z9 : Nat} (hz : zex2 tt G bc bs rt M ret (wX p l e R s m args below meth c Q B D cl dA aS nL bc bs) (.invokestatic z9, pc + 3, a, b, d, v) L st h cn sn) : wX p l e R s m args below meth c Q B D cl dA aS nL bc bs pc L st h cn sn := by
  intro hc1 hc2 H locs lsA hH hS hL
  unfold zex2 at hz
  dsimp only at hz
  have hbud : zbud G a = (mc, ms) := by unfold zbud; rw [h2]
  rw [hbud] at hz
  obtain ⟨g1, g3, g4, g5, g6⟩ := hz
  have hst : st = (st.take b).reverse.reverse ++ st.drop b := by rw [List.reverse_reverse, List.take_append_drop]
  generalize has : (st.take b).reverse = as at g6 hst
  generalize hs9 : st.drop b = s9 at g6 g3 hst
  have hlen : as.length = b := by rw [← has, List.length_reverse]; exact g1
  have hMet := hM a _ h _ g6 y bytes b cd nL2 rt2 mc ms h1 h2
  have hGc : GoodIn Ts (.code y bytes nL2 rt2 :: Ts) := fun w hw => by
    rcases List.mem_cons.mp hw with rfl | q
    · exact hG _ w5
    · exact hG _ q
  have h8 : ((s9.map (zcv B aS)).map fun v => v.category).sum ≤ 8 := by rw [zcv_sum]; exact g3
  have hstk : st.map (zcv B aS) = (as.map (zcv B aS)).reverse ++ s9.map (zcv B aS) := by rw [hst, List.map_append, List.map_reverse]
  refine zcall (B := B) (D := D) (cl := cl) (dA := dA) (aS := aS) (K := fun w h2 => wX p l e R s m args below meth c Q B D cl dA aS nL bc bs (pc + 3) L (w.toList ++ s9) h2 (cn + mc) (sn + ms)) (mc := mc) (ms := ms) (rest := s9.map (zcv B aS)) (arr := (as.map (zcv B aS)).toArray) ?_ hS (fun w h3 H1 locs1 hk hh2 hS2 => ?_)
  · rcases w1 with w1 | ⟨host, w1⟩
    · refine va_runS (As := as.map (zcv B aS)) (rest := s9.map (zcv B aS)) ⟨hx, hb, hml, hown, hts⟩ hMet (va_cwS b hts (fun w hw => ?_) rfl rfl rfl hd ⟨hR1, by show 8 + (nL2 + 11) + d9 * 64 ≤ R.locals; omega⟩) ⟨zPc_blind hZ, fun U hU hW => zpre hZ hBs hK hZs hH hS U hU hW⟩ rfl (by rw [List.length_map]; exact hlen) hL.2.1 hstk (lv_room h8) hdg ⟨by omega, by omega⟩
      rcases List.mem_append.mp hw with q | q
      · rcases List.mem_cons.mp q with rfl | q
        · exact hG _ w1
        rcases List.mem_cons.mp q with rfl | q
        · exact hG _ w2
        rcases List.mem_cons.mp q with rfl | q
        · exact hG _ w4
        cases q
      · exact hGc _ q
    · exact va_runSN (As := as.map (zcv B aS)) (rest := s9.map (zcv B aS)) ⟨hx, hb, hml, hown, hts⟩ hMet ⟨va_cnB b hts hGc rfl rfl rfl w1 (hts _ w4) hd ⟨hR1, by show 8 + (nL2 + 11) + d9 * 64 ≤ R.locals; omega⟩, hts _ w2, trivial⟩ ⟨zPc_blind hZ, fun U hU hW => zpre hZ hBs hK hZs hH hS U hU hW⟩ rfl (by rw [List.length_map]; exact hlen) hL.2.1 hstk (lv_room h8) hdg ⟨by omega, by omega⟩
  · have h9 := hk (by omega) (by omega) H1 locs1 lsA hh2 hS2 hL
    rw [zcv_toList] at h9
    exact h9
end SIM3
end
section
theorem zouter (c : ClassId) (N h0 : Nat) : ∀ i : Nat, Jvm.Free.Multi.outerC c N h0 i = arrV c N (fun j => va_rf (if j < i then some (h0 + 1 + j) else none))
  | 0 => by
    show ({ cls := c, slots := Array.replicate N .null, vm := .none } : Cell) = _
    rw [arrV_new]
    refine congrArg (arrV c N) (funext fun j => ?_)
    simp [va_rf]
  | i + 1 => by
    show (Jvm.Free.Multi.outerC c N h0 i).setSlot i (.ref (h0 + 1 + i)) = _
    rw [zouter c N h0 i, arrV_store]
    refine congrArg (arrV c N) (funext fun j => ?_)
    by_cases e : j = i
    · subst e
      simp [updV, va_rf]
    · by_cases h : j < i
      · simp [updV, e, h, Nat.lt_succ_of_lt h]
      · simp [updV, e, h, show ¬ j < i + 1 by omega]
section SIM4
variable {p : Program} {l : Launch} {e : Env} {R : Room} {s : State} {m : MethodId} {args : Array Value} {below : List Frame} {meth : Method} {c : Code} {Q : State → Prop} {cc : ByteArray} {B : Nat} {D : va_G} {cl : List vw_C} {dA : Nat → ClassId} {aS : Nat → Nat} {nL bc bs pc : Nat}
variable {a b d : Nat} {v : Value} {L : zL} {st : List Value} {h : zH} {cn sn : Nat}
variable {tt : zT} {G : zG} {rt : Option FieldType} {M : zM} {ret : zQ} {Ts : List Jvm.Cond} {own : String} {Z : State → Prop}
theorem s_anewarray {i : Nat} (hx : p.tables.exec = Jvm.exec) (hb : c.code = cc) (hdg : decode cc pc = .ok (.anewarray i, 3)) (hown : s.vm.findClass own = some m.cls) (hK : va_K D cl (ztys dA) s) (hR : bc ≤ R.cells ∧ bs ≤ R.slots) (hw : (a = 5 ∧ (Jvm.Cond.classLink own i "TankBehind$Car").before args s = true ∧ (Jvm.Cond.arrayOver (.object "TankBehind$Car")).before args s = true) ∨ (a = 4 ∧ (Jvm.Cond.classLink own i (FieldType.array .int).toString).before args s = true ∧ (Jvm.Cond.arrayOver (.array .int)).before args s = true)) {z9 : Nat} (hz : zex2 tt G bc bs rt M ret (wX p l e R s m args below meth c Q B D cl dA aS nL bc bs) (.anewarray z9, pc + 3, a, b, d, v) L st h cn sn) : wX p l e R s m args below meth c Q B D cl dA aS nL bc bs pc L st h cn sn := by
  intro hc1 hc2 H locs lsA hH hS hL
  unfold zex2 at hz
  dsimp only at hz
  split at hz
  · rename_i x s9
    obtain ⟨g0, g3, g1, g2, g4, k⟩ := hz
    have fin : ∀ cA : ClassId, s.vm.findClass ("[" ++ (zty a).toString) = some cA → a < 6 → (∀ (q : Nat) (H : Heap), H[q]? = some (arrV (dA a) x.toNatClampNeg (fun _ => .null)) → va_at D cl (q, zcE B dA aS (zarr a x.toNatClampNeg)) H) → W p l e R s m args below meth c (H.push { cls := cA, slots := Array.replicate x.toNatClampNeg .null, vm := .none }) locs (cn + 1) (sn + x.toNatClampNeg) Q (F0 m (pc + 3) lsA (.ref H.size :: s9.map (zcv B aS))) := by
      intro cA hf ha hat
      have ec := zRA_find ha hK hf
      subst ec
      generalize hH1 : H.push ({ cls := dA a, slots := Array.replicate x.toNatClampNeg .null, vm := .none } : Cell) = H1
      have z1 : H1.size = H.size + 1 := by rw [← hH1, Array.size_push]
      have e1 : H1[H.size]? = some (arrV (dA a) x.toNatClampNeg (fun _ => .null)) := by rw [← hH1, Array.getElem?_push_size, ← arrV_new]
      have o1 : ∀ q : Nat, q < H.size → H1[q]? = H[q]? := fun q hq => by rw [← hH1, Array.getElem?_push, if_neg (Nat.ne_of_lt hq)]
      have h9 := k (by omega) (by omega) H1 locs lsA (hH.push (e := zarr a x.toNatClampNeg) (hat _ _ e1) z1 o1) (zS_push hS (by omega) o1) hL
      have e3 : (Value.ref h.length :: s9).map (zcv B aS) = .ref H.size :: s9.map (zcv B aS) := by rw [hH.1]; rfl
      rw [e3] at h9
      exact h9
    rcases hw with ⟨rfl, hcl, hov⟩ | ⟨rfl, hcl, hov⟩
    · exact W.anew hx hb hown hcl hov rfl hdg rfl g0 (by omega) (by omega) (by omega) fun cA kA comp f1 f2 f3 f4 => fin cA f1 (by omega) (fun q H e1 => zat_arr (by omega) e1)
    · exact W.anewA hx hb hown hcl hov rfl hdg rfl g0 (by omega) (by omega) (by omega) fun cA kA comp f1 f2 f3 f4 => fin cA f1 (by omega) (fun q H e1 => zat_arr (by omega) e1)
  · exact hz.elim
theorem s_multi {i : Nat} (hx : p.tables.exec = Jvm.exec) (hb : c.code = cc) (hdg : decode cc pc = .ok (.multianewarray i 2, 4)) (hown : s.vm.findClass own = some m.cls) (hK : va_K D cl (ztys dA) s) (hR : bc ≤ R.cells ∧ bs ≤ R.slots) (hcl : (Jvm.Cond.classLink own i ("[" ++ (FieldType.array .int).toString)).before args s = true) (hov : (Jvm.Cond.arrayOver (.array .int)).before args s = true) (harr : (Jvm.Cond.arrayClass .int).before args s = true) {z9 y9 : Nat} (hz : zex2 tt G bc bs rt M ret (wX p l e R s m args below meth c Q B D cl dA aS nL bc bs) (.multianewarray z9 y9, pc + 4, a, b, d, v) L st h cn sn) : wX p l e R s m args below meth c Q B D cl dA aS nL bc bs pc L st h cn sn := by
  intro hc1 hc2 H locs lsA hH hS hL
  unfold zex2 at hz
  dsimp only at hz
  split at hz
  · rename_i y x s9
    obtain ⟨g0, g5, g3, g4, g1, g2, k⟩ := hz
    intro T hT X
    obtain ⟨vm₁, cA, comp, -, fA, fC, hO, -, X', step⟩ := X.multianewarray2F hx hown hcl hov harr (g := F0 m pc lsA ((Value.int y :: Value.int x :: s9).map (zcv B aS))) rfl (by rw [hb]; exact hdg) rfl g0 g5 (by omega) (by show _ * 4 ≤ _; omega) (by omega) rfl rfl (by omega) (by omega)
    have ea : cA = dA 4 := zRA_find (k := 4) (by omega) hK fA
    have ec : comp = dA 0 := zRA_find (k := 0) (by omega) hK fC
    subst ea
    subst ec
    generalize hF : Jvm.Free.Multi.fill (T.setVm vm₁) (dA 4) (dA 0) x.toNatClampNeg y.toNatClampNeg (defaultValue .int) x.toNatClampNeg = F at X' step
    have hTh : (T.setVm vm₁).heap = H := hT
    obtain ⟨f1, f2, -, -⟩ := Jvm.Free.Multi.fill_facts (T.setVm vm₁) (dA 4) (dA 0) x.toNatClampNeg y.toNatClampNeg (defaultValue .int) x.toNatClampNeg
    rw [hF, hTh] at f1 f2
    have hold : ∀ q : Nat, q < H.size → F.heap[q]? = H[q]? := fun q hq => by
      have := Jvm.Free.Multi.fill_old (T.setVm vm₁) (dA 4) (dA 0) x.toNatClampNeg y.toNatClampNeg (defaultValue .int) (a := q) (by rw [hTh]; exact hq) x.toNatClampNeg
      rw [hF, hTh] at this
      exact this
    have hrow : ∀ j : Nat, j < x.toNatClampNeg → F.heap[H.size + 1 + j]? = some (Jvm.Free.Multi.innerC (dA 0) y.toNatClampNeg (defaultValue .int)) := fun j hj => by
      have := Jvm.Free.Multi.fill_inner (T.setVm vm₁) (dA 4) (dA 0) x.toNatClampNeg y.toNatClampNeg (defaultValue .int) x.toNatClampNeg j hj
      rw [hF, hTh] at this
      exact this
    rw [zouter] at f2
    have hlen : (zrows h.length x.toNatClampNeg y.toNatClampNeg).length = 1 + x.toNatClampNeg := by
      unfold zrows
      rw [List.length_cons, List.length_replicate, Nat.add_comm]
    have hnew : zhR B D cl dA aS (h ++ zrows h.length x.toNatClampNeg y.toNatClampNeg) F.heap := by
      refine hH.app (fun j e9 he9 => ?_) (by rw [f1, hlen]; omega) hold
      unfold zrows at he9
      cases j with
      | zero =>
        cases he9
        show F.heap[H.size + 0]? = some (vp_cell _ _)
        rw [Nat.add_zero, f2]
        rw [show zcA B (x.toNatClampNeg, .inr (.inr (.inr (.inr (fun i => if i < x.toNatClampNeg then some (h.length + 1 + i) else none))))) = (x.toNatClampNeg, .inr (.inr (.inr (.inr (fun j => (if j < x.toNatClampNeg then some (h.length + 1 + j) else none).map (fun a => B + a)))))) from rfl, vp_cell_q]
        refine congrArg some (congrArg (arrV (dA 4) x.toNatClampNeg) (funext fun j => ?_))
        by_cases q : j < x.toNatClampNeg
        · rw [if_pos q, if_pos q, hH.1]
          show Value.ref (B + h.length + 1 + j) = Value.ref (B + (h.length + 1 + j))
          rw [Nat.add_assoc, Nat.add_assoc, Nat.add_assoc]
        · rw [if_neg q, if_neg q]
          rfl
      | succ j =>
        rw [List.getElem?_cons_succ, List.getElem?_replicate] at he9
        by_cases q : j < x.toNatClampNeg
        · rw [if_pos q] at he9
          cases he9
          show F.heap[H.size + (j + 1)]? = some (vp_cell _ _)
          rw [show H.size + (j + 1) = H.size + 1 + j by omega, hrow j q]
          rw [show zcA B (y.toNatClampNeg, .inl (fun _ => (0 : Int32))) = (y.toNatClampNeg, .inl (fun _ => (0 : Int32))) from rfl, vp_cell_i]
          exact congrArg some (arrV_new (dA 0) y.toNatClampNeg (.int 0))
        · rw [if_neg q] at he9
          cases he9
    have h9 := k (by omega) (by omega) F.heap locs lsA hnew (zS_push hS (by omega) hold) hL
    have e3 : (Value.ref h.length :: s9).map (zcv B aS) = .ref T.heap.size :: s9.map (zcv B aS) := by rw [hT, hH.1]; rfl
    rw [e3] at h9
    obtain ⟨t, a1, b1⟩ := h9 F rfl X'
    exact ⟨t, step t a1, b1⟩
  · exact hz.elim
end SIM4
end
section
/-- a word of the tables, by its table and its place there -/
def ziu (tb : List (List Jvm.Cond)) (p : Nat) (w : Jvm.Cond) : Bool := decide ((tb.getD (p / 1000) [])[p % 1000]? = some w)
def zin (tb : List (List Jvm.Cond)) (p : Nat) (w : Jvm.Cond) : Bool := ziu tb p w && goodWord w
/-- words that a change of the tables keeps, but not by the kit's own reading -/
def zspec (w : Jvm.Cond) : Bool := match w with
  | .arrayOver _ => true
  | .methodLinkNest .. => true
  | _ => false
def zcint (f : Int32 → Bool) (v : Value) : Bool := match v with
  | .int x => f x
  | _ => false
theorem zcint_of {f : Int32 → Bool} {v : Value} (h : zcint f v = true) : ∃ x, v = .int x ∧ f x = true := by
  cases v <;> first | exact ⟨_, rfl, h⟩ | cases h
def zclong (f : Int64 → Bool) (v : Value) : Bool := match v with
  | .long x => f x
  | _ => false
theorem zclong_of {f : Int64 → Bool} {v : Value} (h : zclong f v = true) : ∃ x, v = .long x ∧ f x = true := by
  cases v <;> first | exact ⟨_, rfl, h⟩ | cases h
def zcl (cl : List vw_C) (a : Nat) (f : String → u_T → Nat → Bool) : Bool := match cl[a]? with
  | some (C, T, N) => f C T N
  | none => false
theorem zcl_of {cl : List vw_C} {a : Nat} {f : String → u_T → Nat → Bool} (h : zcl cl a f = true) : ∃ C T N, cl[a]? = some (C, T, N) ∧ f C T N = true := by
  unfold zcl at h
  split at h
  · rename_i C T N hq
    exact ⟨C, T, N, hq, h⟩
  · cases h
def zcm (nm : List (MethodName × ByteArray × Nat)) (a : Nat) (f : MethodName → Nat → Bool) : Bool := match nm[a]? with
  | some (y, _, np) => f y np
  | none => false
theorem zcm_of {nm : List (MethodName × ByteArray × Nat)} {a : Nat} {f : MethodName → Nat → Bool} (h : zcm nm a f = true) : ∃ y bytes np, nm[a]? = some (y, bytes, np) ∧ f y np = true := by
  unfold zcm at h
  split at h
  · rename_i y bytes np hq
    exact ⟨y, bytes, np, hq, h⟩
  · cases h
/-- a canonical instruction is what stands in the code -/
def zchk (Ts : List (List Jvm.Cond)) (cl : List vw_C) (nm : List (MethodName × ByteArray × Nat)) (km : List Nat) (law ini : Bool) (own : String) (raw : Instr) (len pc : Nat) (e : zE) (ps : List Nat) : Bool := match e with
  | (ins, nx, a, b, d, v) => match ins with
    | .aconst_null => match raw with
      | .aconst_null => ((decide (len = 1)) && (decide (v = .null)))
      | .iconst i => ((decide (len = 1)) && (decide (v = .int (Int32.ofInt i))))
      | .bipush i => ((decide (len = 2)) && (decide (v = .int (Int8.ofInt i).toInt32)))
      | .sipush i => ((decide (len = 3)) && (decide (v = .int (Int16.ofInt i).toInt32)))
      | .lconst i => ((decide (len = 1)) && (decide (v = .long (Int64.ofNat (i : Nat)))))
      | .ldc i => ((decide (len = 2)) && (zcint (fun x => zin Ts (ps.getD 0 0) (.constant own i x)) v))
      | .ldc_w i => ((decide (len = 3)) && (zcint (fun x => zin Ts (ps.getD 0 0) (.constant own i x)) v))
      | .ldc2_w i => ((decide (len = 3)) && (zclong (fun x => zin Ts (ps.getD 0 0) (.constantLong own i x)) v))
      | _ => false
    | .iload _ => match raw with
      | .iload i => ((decide (len = 2)) && (decide (i = a)))
      | .iload_n k => ((decide (len = 1)) && (decide ((k : Nat) = a)))
      | _ => false
    | .lload _ => match raw with
      | .lload i => ((decide (len = 2)) && (decide (i = a)))
      | .lload_n k => ((decide (len = 1)) && (decide ((k : Nat) = a)))
      | _ => false
    | .aload _ => match raw with
      | .aload i => ((decide (len = 2)) && (decide (i = a)))
      | .aload_n k => ((decide (len = 1)) && (decide ((k : Nat) = a)))
      | _ => false
    | .istore _ => match raw with
      | .istore i => ((decide (len = 2)) && (decide (i = a)))
      | .istore_n k => ((decide (len = 1)) && (decide ((k : Nat) = a)))
      | _ => false
    | .lstore _ => match raw with
      | .lstore i => ((decide (len = 2)) && (decide (i = a)))
      | .lstore_n k => ((decide (len = 1)) && (decide ((k : Nat) = a)))
      | _ => false
    | .astore _ => match raw with
      | .astore i => ((decide (len = 2)) && (decide (i = a)))
      | .astore_n k => ((decide (len = 1)) && (decide ((k : Nat) = a)))
      | _ => false
    | .iinc _ _ => match raw with
      | .iinc i z => ((decide (len = 3)) && ((decide (i = a)) && (decide (v = .int (Int32.ofInt z)))))
      | _ => false
    | .pop => match raw with
      | .pop => (decide (len = 1))
      | _ => false
    | .dup => match raw with
      | .dup => (decide (len = 1))
      | _ => false
    | .dup_x1 => match raw with
      | .dup_x1 => (decide (len = 1))
      | _ => false
    | .dup2 => match raw with
      | .dup2 => (decide (len = 1))
      | _ => false
    | .dup2_x1 => match raw with
      | .dup2 => (decide (len = 1))
      | _ => false
    | .iadd => match raw with
      | .iadd => (decide (len = 1))
      | _ => false
    | .isub => match raw with
      | .isub => (decide (len = 1))
      | _ => false
    | .imul => match raw with
      | .imul => (decide (len = 1))
      | _ => false
    | .idiv => match raw with
      | .idiv => (decide (len = 1))
      | _ => false
    | .iand => match raw with
      | .iand => (decide (len = 1))
      | _ => false
    | .ior => match raw with
      | .ior => (decide (len = 1))
      | _ => false
    | .ishl => match raw with
      | .ishl => (decide (len = 1))
      | _ => false
    | .ishr => match raw with
      | .ishr => (decide (len = 1))
      | _ => false
    | .ladd => match raw with
      | .ladd => (decide (len = 1))
      | _ => false
    | .lsub => match raw with
      | .lsub => (decide (len = 1))
      | _ => false
    | .lmul => match raw with
      | .lmul => (decide (len = 1))
      | _ => false
    | .ldiv => match raw with
      | .ldiv => (decide (len = 1))
      | _ => false
    | .lrem => match raw with
      | .lrem => (decide (len = 1))
      | _ => false
    | .lneg => match raw with
      | .lneg => (decide (len = 1))
      | _ => false
    | .land => match raw with
      | .land => (decide (len = 1))
      | _ => false
    | .lor => match raw with
      | .lor => (decide (len = 1))
      | _ => false
    | .lxor => match raw with
      | .lxor => (decide (len = 1))
      | _ => false
    | .lshl => match raw with
      | .lshl => (decide (len = 1))
      | _ => false
    | .lshr => match raw with
      | .lshr => (decide (len = 1))
      | _ => false
    | .lcmp => match raw with
      | .lcmp => (decide (len = 1))
      | _ => false
    | .i2l => match raw with
      | .i2l => (decide (len = 1))
      | _ => false
    | .l2i => match raw with
      | .l2i => (decide (len = 1))
      | _ => false
    | .i2b => match raw with
      | .i2b => (decide (len = 1))
      | _ => false
    | .goto _ => match raw with
      | .goto i => ((decide (len = 3)) && (decide ((pc : Int) + i = (a : Int))))
      | _ => false
    | .ifnull _ => match raw with
      | .ifnull i => ((decide (len = 3)) && (decide ((pc : Int) + i = (a : Int))))
      | _ => false
    | .ifnonnull _ => match raw with
      | .ifnonnull i => ((decide (len = 3)) && (decide ((pc : Int) + i = (a : Int))))
      | _ => false
    | .ifCond o _ => match raw with
      | .ifCond o2 i => ((decide (len = 3)) && ((decide (o2 = o)) && (decide ((pc : Int) + i = (a : Int)))))
      | _ => false
    | .if_icmp o _ => match raw with
      | .if_icmp o2 i => ((decide (len = 3)) && ((decide (o2 = o)) && (decide ((pc : Int) + i = (a : Int)))))
      | _ => false
    | .tableswitch df lo hi tg => match raw with
      | .tableswitch dflt lo2 hi2 offs => ((decide (lo2 = lo)) && ((decide (hi2 = hi)) && ((decide (df = (pc : Int) + dflt)) && ((decide (tg = offs.map (fun o => (pc : Int) + o))) && ((decide (0 ≤ df)) && (tg.toList.all (fun t => decide ((0 : Int) ≤ t))))))))
      | _ => false
    | .lookupswitch df qs => match raw with
      | .lookupswitch dflt qr => (((qr.toList.zip (qr.toList.drop 1)).all (fun (a, next) => a.1 < next.1)) && ((decide (df = (pc : Int) + dflt)) && ((decide (qs.toList = qr.toList.map (fun q => (q.1, (pc : Int) + q.2)))) && ((decide (0 ≤ df)) && (qs.toList.all (fun t => decide ((0 : Int) ≤ t.2)))))))
      | _ => false
    | .iaload => match raw with
      | .iaload => (decide (len = 1))
      | _ => false
    | .baload => match raw with
      | .baload => (decide (len = 1))
      | _ => false
    | .laload => match raw with
      | .laload => (decide (len = 1))
      | _ => false
    | .aaload => match raw with
      | .aaload => (decide (len = 1))
      | _ => false
    | .iastore => match raw with
      | .iastore => (decide (len = 1))
      | _ => false
    | .bastore => match raw with
      | .bastore => (decide (len = 1))
      | _ => false
    | .lastore => match raw with
      | .lastore => (decide (len = 1))
      | _ => false
    | .arraylength => match raw with
      | .arraylength => (decide (len = 1))
      | _ => false
    | .saload => match raw with
      | .iaload => ((decide (len = 1)) && (law))
      | _ => false
    | .i2s => match raw with
      | .arraylength => ((decide (len = 1)) && (law))
      | _ => false
    | .newarray t => match raw with
      | .newarray t2 => ((decide (len = 2)) && ((decide (t2 = t)) && (zin Ts (ps.getD 0 0) (.arrayClass (newarray.typeOf t)))))
      | _ => false
    | .anewarray _ => match raw with
      | .anewarray i => ((decide (len = 3)) && ((decide (a = 5) && (zin Ts (ps.getD 0 0) (.classLink own i "TankBehind$Car") && ziu Ts (ps.getD 1 0) (.arrayOver (.object "TankBehind$Car")))) || (decide (a = 4) && (zin Ts (ps.getD 0 0) (.classLink own i (FieldType.array .int).toString) && ziu Ts (ps.getD 1 0) (.arrayOver (.array .int))))))
      | _ => false
    | .multianewarray _ _ => match raw with
      | .multianewarray i n2 => ((decide (len = 4)) && ((decide (n2 = 2)) && ((zin Ts (ps.getD 0 0) (.classLink own i ("[" ++ (FieldType.array .int).toString))) && ((ziu Ts (ps.getD 1 0) (.arrayOver (.array .int))) && (zin Ts (ps.getD 2 0) (.arrayClass .int))))))
      | _ => false
    | .new _ => match raw with
      | .new i => ((decide (len = 3)) && (zcl cl a (fun C T N => zin Ts (ps.getD 0 0) (.classLink own i C) && (zin Ts (ps.getD 1 0) (.instantiable C N) && zin Ts (ps.getD 2 0) (.initialized C)))))
      | _ => false
    | .getfield _ => match raw with
      | .getfield i => ((decide (len = 3)) && (zcl cl a (fun C T N => decide (b < N) && zin Ts (ps.getD 0 0) (.fieldLink own i (T b).1 (T b).2.1 (T b).2.2.1))))
      | _ => false
    | .putfield _ => match raw with
      | .putfield i => ((decide (len = 3)) && (zcl cl a (fun C T N => decide (b < N) && (zin Ts (ps.getD 0 0) (.fieldLink own i (T b).1 (T b).2.1 (T b).2.2.1) && (decide ((T b).2.2.2 = false) || (ini && decide ((T b).1 = own)))))))
      | _ => false
    | .pop2 => match raw with
      | .invokespecial i => ((decide (len = 3)) && ((zin Ts (ps.getD 0 0) (.methodLink own i Lib.objectInit)) && ((zin Ts (ps.getD 1 0) (.instanceMethod Lib.objectInit)) && (zin Ts (ps.getD 2 0) (.code Lib.objectInit ⟨#[0xb1]⟩ 1 none)))))
      | _ => false
    | .invokevirtual _ => match raw with
      | .invokevirtual i => ((decide (len = 3)) && (zcm nm a (fun y np => decide (np = b) && (zin Ts (ps.getD 0 0) (.methodLink own i y) && (decide ((cl[d]?).map (fun q => q.1) = some y.cls) && decide (km.getD a 9 = 1))))))
      | _ => false
    | .invokespecial _ => match raw with
      | .invokespecial i => ((decide (len = 3)) && (zcm nm a (fun y np => decide (np = b) && ((zin Ts (ps.getD 0 0) (.methodLink own i y) || ziu Ts (ps.getD 0 0) (.methodLinkNest own i y "TankBehind")) && decide (km.getD a 9 = 2)))))
      | _ => false
    | .invokestatic _ => match raw with
      | .invokestatic i => ((decide (len = 3)) && (zcm nm a (fun y np => decide (np = b) && ((zin Ts (ps.getD 0 0) (.methodLink own i y) || ziu Ts (ps.getD 0 0) (.methodLinkNest own i y "TankBehind")) && decide (km.getD a 9 = 0)))))
      | _ => false
    | .ireturn => match raw with
      | .ireturn => (decide (len = 1))
      | _ => false
    | .lreturn => match raw with
      | .lreturn => (decide (len = 1))
      | _ => false
    | .areturn => match raw with
      | .areturn => (decide (len = 1))
      | _ => false
    | .return_ => match raw with
      | .return_ => (decide (len = 1))
      | _ => false
    | _ => false
/-- what the methods' own words are -/
def zMok (Ts : List Jvm.Cond) (nm : List (MethodName × ByteArray × Nat)) (km : List Nat) (G : zG) : Prop := ∀ (j : Nat) (y : MethodName) (bytes : ByteArray) (np : Nat), nm[j]? = some (y, bytes, np) → ∃ (cd : zK) (nL : Nat) (rt : Option FieldType) (mc ms : Nat), G.1[j]? = some (cd, nL, rt, mc, ms) ∧ nL ≤ 40 ∧ Jvm.Cond.initialized y.cls ∈ Ts ∧ Jvm.Cond.code y bytes nL rt ∈ Ts ∧ (y.cls ≠ "java/lang/invoke/MethodHandle" ∧ y.cls ≠ "java/lang/invoke/VarHandle" ∧ (parseMethodDescriptor y.desc).map (fun d => d.parameters.length) = some np) ∧ (km.getD j 9 = 0 → Jvm.Cond.static y ∈ Ts) ∧ (km.getD j 9 = 1 → Jvm.Cond.instanceMethod y ∈ Ts ∧ Jvm.Cond.selects y.cls y y ∈ Ts) ∧ (km.getD j 9 = 2 → Jvm.Cond.instanceMethod y ∈ Ts ∧ y.name = "<init>" ∧ rt = none)
section SIM5
variable {p : Program} {l : Launch} {e : Env} {R : Room} {s : State} {m : MethodId} {args : Array Value} {below : List Frame} {meth : Method} {c : Code} {Q : State → Prop} {cc : ByteArray} {B : Nat} {D : va_G} {cl : List vw_C} {dA : Nat → ClassId} {aS : Nat → Nat} {nL bc bs pc : Nat}
variable {L : zL} {st : List Value} {h : zH} {cn sn : Nat}
variable {tt : zT} {G : zG} {rt : Option FieldType} {M : zM} {ret : zQ} {Ts : List Jvm.Cond} {own : String} {Z : State → Prop}
set_option maxHeartbeats 4000000 in
theorem zsnd {nm : List (MethodName × ByteArray × Nat)} {km : List Nat} {law ini : Bool} {raw : Instr} {len d9 : Nat} {ze : zE} {ps : List Nat} {tb : List (List Jvm.Cond)} (hx : p.tables.exec = Jvm.exec) (hb : c.code = cc) (hml : c.maxLocals = nL) (hts : ∀ w ∈ Ts, w.before args s = true) (hG : GoodIn Ts Ts) (hT : zTT tt cl Ts) (hMk : zMok Ts nm km G) (hown : s.vm.findClass own = some m.cls) (hini : ini = true → meth.name = "<init>") (hK : va_K D cl (ztys dA) s) (hZ : zStays B Z) (hZs : Z s) (hBs : B ≤ s.heap.size) (hM : zMet l nm G B D cl dA aS Z Ts d9 M)
    (hX : law = true → ∀ k, aS k < s.heap.size ∧ ¬ B ≤ aS k ∧ va_X (aS k) G.2.2.1 G.2.2.2 s s.heap) (hR : bc ≤ R.cells ∧ bs ≤ R.slots) (hR1 : d9 + 1 ≤ R.frames) (hR2 : d9 * 64 + 64 ≤ R.locals)
    (hri : ∀ (x : Int32) (h : zH) (H : Heap) (locs : List Loc) (lsA : Array Slot) (pc cn sn : Nat), ret (some (.int x)) h → cn ≤ bc → sn ≤ bs → zhR B D cl dA aS h H → va_S (fun q => B ≤ q) s.heap H locs → decode cc pc = .ok (.ireturn, 1) → (∃ t : FieldType, rt = some t ∧ narrow t (.int x) = .int x) → W p l e R s m args below meth c H locs cn sn Q (F0 m pc lsA [.int x]))
    (hrl : ∀ (x : Int64) (h : zH) (H : Heap) (locs : List Loc) (lsA : Array Slot) (pc cn sn : Nat), ret (some (.long x)) h → cn ≤ bc → sn ≤ bs → zhR B D cl dA aS h H → va_S (fun q => B ≤ q) s.heap H locs → decode cc pc = .ok (.lreturn, 1) → rt = some .long → W p l e R s m args below meth c H locs cn sn Q (F0 m pc lsA [.long x]))
    (hra : ∀ (w : Value) (h : zH) (H : Heap) (locs : List Loc) (lsA : Array Slot) (pc cn sn : Nat), (w = .null ∨ (∃ r, w = .ref r) ∨ ∃ r, w = .retAddr r) → ret (some w) h → cn ≤ bc → sn ≤ bs → zhR B D cl dA aS h H → va_S (fun q => B ≤ q) s.heap H locs → decode cc pc = .ok (.areturn, 1) → (∃ t : FieldType, rt = some t ∧ fits t .null = true) → W p l e R s m args below meth c H locs cn sn Q (F0 m pc lsA [zcv B aS w]))
    (hrv : ∀ (h : zH) (H : Heap) (locs : List Loc) (lsA : Array Slot) (pc cn sn : Nat), ret none h → cn ≤ bc → sn ≤ bs → zhR B D cl dA aS h H → va_S (fun q => B ≤ q) s.heap H locs → decode cc pc = .ok (.return_, 1) → rt = none → W p l e R s m args below meth c H locs cn sn Q (F0 m pc lsA []))
    (hdg : decode cc pc = .ok (raw, len)) (hnx : ze.2.1 = pc + len) (hin : ∀ (p : Nat) (w : Jvm.Cond), zin tb p w = true → w ∈ Ts) (hiu : ∀ (p : Nat) (w : Jvm.Cond), ziu tb p w = true → zspec w = true → w.before #[] s = true) (hk : zchk tb cl nm km law ini own raw len pc ze ps = true) (hz : zex tt G bc bs rt M ret (wX p l e R s m args below meth c Q B D cl dA aS nL bc bs) ze L st h cn sn) : wX p l e R s m args below meth c Q B D cl dA aS nL bc bs pc L st h cn sn := by
  obtain ⟨ins, nx, a, b, d, v⟩ := ze
  have hnx : nx = pc + len := hnx
  subst hnx
  unfold zchk at hk
  dsimp only at hk
  cases ins

  case aconst_null =>
    have Z1 := hz.resolve_right (fun q => q)
    dsimp only at hk
    split at hk
    · simp only [Bool.and_eq_true, Bool.or_eq_true, decide_eq_true_eq] at hk
      obtain ⟨h0, h1⟩ := hk
      subst h0
      exact s_null hx hb hdg h1 Z1
    · rename_i i
      simp only [Bool.and_eq_true, Bool.or_eq_true, decide_eq_true_eq] at hk
      obtain ⟨h0, h1⟩ := hk
      subst h0
      exact s_iconst hx hb hdg h1 Z1
    · rename_i i
      simp only [Bool.and_eq_true, Bool.or_eq_true, decide_eq_true_eq] at hk
      obtain ⟨h0, h1⟩ := hk
      subst h0
      exact s_bipush hx hb hdg h1 Z1
    · rename_i i
      simp only [Bool.and_eq_true, Bool.or_eq_true, decide_eq_true_eq] at hk
      obtain ⟨h0, h1⟩ := hk
      subst h0
      exact s_sipush hx hb hdg h1 Z1
    · rename_i i
      simp only [Bool.and_eq_true, Bool.or_eq_true, decide_eq_true_eq] at hk
      obtain ⟨h0, h1⟩ := hk
      subst h0
      exact s_lconst hx hb hdg h1 Z1
    · rename_i i
      simp only [Bool.and_eq_true, Bool.or_eq_true, decide_eq_true_eq] at hk
      obtain ⟨h0, h1⟩ := hk
      subst h0
      obtain ⟨x, e1, e2⟩ := zcint_of h1
      exact s_ldc hx hb hdg e1 hown (hts _ (hin _ _ e2)) Z1
    · rename_i i
      simp only [Bool.and_eq_true, Bool.or_eq_true, decide_eq_true_eq] at hk
      obtain ⟨h0, h1⟩ := hk
      subst h0
      obtain ⟨x, e1, e2⟩ := zcint_of h1
      exact s_ldcw hx hb hdg e1 hown (hts _ (hin _ _ e2)) Z1
    · rename_i i
      simp only [Bool.and_eq_true, Bool.or_eq_true, decide_eq_true_eq] at hk
      obtain ⟨h0, h1⟩ := hk
      subst h0
      obtain ⟨x, e1, e2⟩ := zclong_of h1
      exact s_ldc2 hx hb hdg e1 hown (hts _ (hin _ _ e2)) Z1
    · cases hk
  case iload w0 =>
    have Z1 := hz.resolve_right (fun q => q)
    dsimp only at hk
    split at hk
    · rename_i i
      simp only [Bool.and_eq_true, Bool.or_eq_true, decide_eq_true_eq] at hk
      obtain ⟨h0, h1⟩ := hk
      subst h0
      subst h1
      exact s_iload hx hb hdg Z1
    · rename_i k
      simp only [Bool.and_eq_true, Bool.or_eq_true, decide_eq_true_eq] at hk
      obtain ⟨h0, h1⟩ := hk
      subst h0
      exact s_iload_n hx hb hdg h1 Z1
    · cases hk
  case lload w0 =>
    have Z1 := hz.resolve_right (fun q => q)
    dsimp only at hk
    split at hk
    · rename_i i
      simp only [Bool.and_eq_true, Bool.or_eq_true, decide_eq_true_eq] at hk
      obtain ⟨h0, h1⟩ := hk
      subst h0
      subst h1
      exact s_lload hx hb hdg Z1
    · rename_i k
      simp only [Bool.and_eq_true, Bool.or_eq_true, decide_eq_true_eq] at hk
      obtain ⟨h0, h1⟩ := hk
      subst h0
      exact s_lload_n hx hb hdg h1 Z1
    · cases hk
  case aload w0 =>
    have Z1 := hz.resolve_right (fun q => q)
    dsimp only at hk
    split at hk
    · rename_i i
      simp only [Bool.and_eq_true, Bool.or_eq_true, decide_eq_true_eq] at hk
      obtain ⟨h0, h1⟩ := hk
      subst h0
      subst h1
      exact s_aload hx hb hdg Z1
    · rename_i k
      simp only [Bool.and_eq_true, Bool.or_eq_true, decide_eq_true_eq] at hk
      obtain ⟨h0, h1⟩ := hk
      subst h0
      exact s_aload_n hx hb hdg h1 Z1
    · cases hk
  case istore w0 =>
    have Z1 := hz.resolve_right (fun q => q)
    dsimp only at hk
    split at hk
    · rename_i i
      simp only [Bool.and_eq_true, Bool.or_eq_true, decide_eq_true_eq] at hk
      obtain ⟨h0, h1⟩ := hk
      subst h0
      subst h1
      exact s_istore hx hb hdg Z1
    · rename_i k
      simp only [Bool.and_eq_true, Bool.or_eq_true, decide_eq_true_eq] at hk
      obtain ⟨h0, h1⟩ := hk
      subst h0
      exact s_istore_n hx hb hdg h1 Z1
    · cases hk
  case lstore w0 =>
    have Z1 := hz.resolve_right (fun q => q)
    dsimp only at hk
    split at hk
    · rename_i i
      simp only [Bool.and_eq_true, Bool.or_eq_true, decide_eq_true_eq] at hk
      obtain ⟨h0, h1⟩ := hk
      subst h0
      subst h1
      exact s_lstore hx hb hdg Z1
    · rename_i k
      simp only [Bool.and_eq_true, Bool.or_eq_true, decide_eq_true_eq] at hk
      obtain ⟨h0, h1⟩ := hk
      subst h0
      exact s_lstore_n hx hb hdg h1 Z1
    · cases hk
  case astore w0 =>
    have Z1 := hz.resolve_right (fun q => q)
    dsimp only at hk
    split at hk
    · rename_i i
      simp only [Bool.and_eq_true, Bool.or_eq_true, decide_eq_true_eq] at hk
      obtain ⟨h0, h1⟩ := hk
      subst h0
      subst h1
      exact s_astore hx hb hdg Z1
    · rename_i k
      simp only [Bool.and_eq_true, Bool.or_eq_true, decide_eq_true_eq] at hk
      obtain ⟨h0, h1⟩ := hk
      subst h0
      exact s_astore_n hx hb hdg h1 Z1
    · cases hk
  case iinc w0 w1 =>
    have Z1 := hz.resolve_right (fun q => q)
    dsimp only at hk
    split at hk
    · rename_i i z
      simp only [Bool.and_eq_true, Bool.or_eq_true, decide_eq_true_eq] at hk
      obtain ⟨h0, h1, h2⟩ := hk
      subst h0
      subst h1
      exact s_iinc hx hb hdg h2 Z1
    · cases hk
  case pop =>
    have Z1 := hz.resolve_right (fun q => q)
    dsimp only at hk
    split at hk
    · simp only [Bool.and_eq_true, Bool.or_eq_true, decide_eq_true_eq] at hk
      have h0 := hk
      subst h0
      exact s_pop hx hb hdg Z1
    · cases hk
  case dup =>
    have Z1 := hz.resolve_right (fun q => q)
    dsimp only at hk
    split at hk
    · simp only [Bool.and_eq_true, Bool.or_eq_true, decide_eq_true_eq] at hk
      have h0 := hk
      subst h0
      exact s_dup hx hb hdg Z1
    · cases hk
  case dup_x1 =>
    have Z1 := hz.resolve_right (fun q => q)
    dsimp only at hk
    split at hk
    · simp only [Bool.and_eq_true, Bool.or_eq_true, decide_eq_true_eq] at hk
      have h0 := hk
      subst h0
      exact s_dup_x1 hx hb hdg Z1
    · cases hk
  case dup2 =>
    have Z1 := hz.resolve_right (fun q => q)
    dsimp only at hk
    split at hk
    · simp only [Bool.and_eq_true, Bool.or_eq_true, decide_eq_true_eq] at hk
      have h0 := hk
      subst h0
      exact s_dup2 hx hb hdg Z1
    · cases hk
  case dup2_x1 =>
    have Z1 := hz.resolve_right (fun q => q)
    dsimp only at hk
    split at hk
    · simp only [Bool.and_eq_true, Bool.or_eq_true, decide_eq_true_eq] at hk
      have h0 := hk
      subst h0
      exact s_dupl hx hb hdg Z1
    · cases hk
  case iadd =>
    have Z1 := hz.resolve_right (fun q => q)
    dsimp only at hk
    split at hk
    · simp only [Bool.and_eq_true, Bool.or_eq_true, decide_eq_true_eq] at hk
      have h0 := hk
      subst h0
      exact s_iadd hx hb hdg Z1
    · cases hk
  case isub =>
    have Z1 := hz.resolve_right (fun q => q)
    dsimp only at hk
    split at hk
    · simp only [Bool.and_eq_true, Bool.or_eq_true, decide_eq_true_eq] at hk
      have h0 := hk
      subst h0
      exact s_isub hx hb hdg Z1
    · cases hk
  case imul =>
    have Z1 := hz.resolve_right (fun q => q)
    dsimp only at hk
    split at hk
    · simp only [Bool.and_eq_true, Bool.or_eq_true, decide_eq_true_eq] at hk
      have h0 := hk
      subst h0
      exact s_imul hx hb hdg Z1
    · cases hk
  case idiv =>
    have Z1 := hz.resolve_right (fun q => q)
    dsimp only at hk
    split at hk
    · simp only [Bool.and_eq_true, Bool.or_eq_true, decide_eq_true_eq] at hk
      have h0 := hk
      subst h0
      exact s_idiv hx hb hdg Z1
    · cases hk
  case iand =>
    have Z1 := hz.resolve_right (fun q => q)
    dsimp only at hk
    split at hk
    · simp only [Bool.and_eq_true, Bool.or_eq_true, decide_eq_true_eq] at hk
      have h0 := hk
      subst h0
      exact s_iand hx hb hdg Z1
    · cases hk
  case ior =>
    have Z1 := hz.resolve_right (fun q => q)
    dsimp only at hk
    split at hk
    · simp only [Bool.and_eq_true, Bool.or_eq_true, decide_eq_true_eq] at hk
      have h0 := hk
      subst h0
      exact s_ior hx hb hdg Z1
    · cases hk
  case ishl =>
    have Z1 := hz.resolve_right (fun q => q)
    dsimp only at hk
    split at hk
    · simp only [Bool.and_eq_true, Bool.or_eq_true, decide_eq_true_eq] at hk
      have h0 := hk
      subst h0
      exact s_ishl hx hb hdg Z1
    · cases hk
  case ishr =>
    have Z1 := hz.resolve_right (fun q => q)
    dsimp only at hk
    split at hk
    · simp only [Bool.and_eq_true, Bool.or_eq_true, decide_eq_true_eq] at hk
      have h0 := hk
      subst h0
      exact s_ishr hx hb hdg Z1
    · cases hk
  case ladd =>
    have Z1 := hz.resolve_right (fun q => q)
    dsimp only at hk
    split at hk
    · simp only [Bool.and_eq_true, Bool.or_eq_true, decide_eq_true_eq] at hk
      have h0 := hk
      subst h0
      exact s_ladd hx hb hdg Z1
    · cases hk
  case lsub =>
    have Z1 := hz.resolve_right (fun q => q)
    dsimp only at hk
    split at hk
    · simp only [Bool.and_eq_true, Bool.or_eq_true, decide_eq_true_eq] at hk
      have h0 := hk
      subst h0
      exact s_lsub hx hb hdg Z1
    · cases hk
  case lmul =>
    have Z1 := hz.resolve_right (fun q => q)
    dsimp only at hk
    split at hk
    · simp only [Bool.and_eq_true, Bool.or_eq_true, decide_eq_true_eq] at hk
      have h0 := hk
      subst h0
      exact s_lmul hx hb hdg Z1
    · cases hk
  case ldiv =>
    have Z1 := hz.resolve_right (fun q => q)
    dsimp only at hk
    split at hk
    · simp only [Bool.and_eq_true, Bool.or_eq_true, decide_eq_true_eq] at hk
      have h0 := hk
      subst h0
      exact s_ldiv hx hb hdg Z1
    · cases hk
  case lrem =>
    have Z1 := hz.resolve_right (fun q => q)
    dsimp only at hk
    split at hk
    · simp only [Bool.and_eq_true, Bool.or_eq_true, decide_eq_true_eq] at hk
      have h0 := hk
      subst h0
      exact s_lrem hx hb hdg Z1
    · cases hk
  case lneg =>
    have Z1 := hz.resolve_right (fun q => q)
    dsimp only at hk
    split at hk
    · simp only [Bool.and_eq_true, Bool.or_eq_true, decide_eq_true_eq] at hk
      have h0 := hk
      subst h0
      exact s_lneg hx hb hdg Z1
    · cases hk
  case land =>
    have Z1 := hz.resolve_right (fun q => q)
    dsimp only at hk
    split at hk
    · simp only [Bool.and_eq_true, Bool.or_eq_true, decide_eq_true_eq] at hk
      have h0 := hk
      subst h0
      exact s_land hx hb hdg Z1
    · cases hk
  case lor =>
    have Z1 := hz.resolve_right (fun q => q)
    dsimp only at hk
    split at hk
    · simp only [Bool.and_eq_true, Bool.or_eq_true, decide_eq_true_eq] at hk
      have h0 := hk
      subst h0
      exact s_lor hx hb hdg Z1
    · cases hk
  case lxor =>
    have Z1 := hz.resolve_right (fun q => q)
    dsimp only at hk
    split at hk
    · simp only [Bool.and_eq_true, Bool.or_eq_true, decide_eq_true_eq] at hk
      have h0 := hk
      subst h0
      exact s_lxor hx hb hdg Z1
    · cases hk
  case lshl =>
    have Z1 := hz.resolve_right (fun q => q)
    dsimp only at hk
    split at hk
    · simp only [Bool.and_eq_true, Bool.or_eq_true, decide_eq_true_eq] at hk
      have h0 := hk
      subst h0
      exact s_lshl hx hb hdg Z1
    · cases hk
  case lshr =>
    have Z1 := hz.resolve_right (fun q => q)
    dsimp only at hk
    split at hk
    · simp only [Bool.and_eq_true, Bool.or_eq_true, decide_eq_true_eq] at hk
      have h0 := hk
      subst h0
      exact s_lshr hx hb hdg Z1
    · cases hk
  case lcmp =>
    have Z1 := hz.resolve_right (fun q => q)
    dsimp only at hk
    split at hk
    · simp only [Bool.and_eq_true, Bool.or_eq_true, decide_eq_true_eq] at hk
      have h0 := hk
      subst h0
      exact s_lcmp hx hb hdg Z1
    · cases hk
  case i2l =>
    have Z1 := hz.resolve_right (fun q => q)
    dsimp only at hk
    split at hk
    · simp only [Bool.and_eq_true, Bool.or_eq_true, decide_eq_true_eq] at hk
      have h0 := hk
      subst h0
      exact s_i2l hx hb hdg Z1
    · cases hk
  case l2i =>
    have Z1 := hz.resolve_right (fun q => q)
    dsimp only at hk
    split at hk
    · simp only [Bool.and_eq_true, Bool.or_eq_true, decide_eq_true_eq] at hk
      have h0 := hk
      subst h0
      exact s_l2i hx hb hdg Z1
    · cases hk
  case i2b =>
    have Z1 := hz.resolve_right (fun q => q)
    dsimp only at hk
    split at hk
    · simp only [Bool.and_eq_true, Bool.or_eq_true, decide_eq_true_eq] at hk
      have h0 := hk
      subst h0
      exact s_i2b hx hb hdg Z1
    · cases hk
  case goto w0 =>
    have Z1 := hz.resolve_right (fun q => q)
    dsimp only at hk
    split at hk
    · rename_i i
      simp only [Bool.and_eq_true, Bool.or_eq_true, decide_eq_true_eq] at hk
      obtain ⟨h0, h1⟩ := hk
      subst h0
      exact s_goto hx hb hdg h1 Z1
    · cases hk
  case ifnull w0 =>
    have Z1 := hz.resolve_right (fun q => q)
    dsimp only at hk
    split at hk
    · rename_i i
      simp only [Bool.and_eq_true, Bool.or_eq_true, decide_eq_true_eq] at hk
      obtain ⟨h0, h1⟩ := hk
      subst h0
      exact s_ifnull hx hb hdg h1 Z1
    · cases hk
  case ifnonnull w0 =>
    have Z1 := hz.resolve_right (fun q => q)
    dsimp only at hk
    split at hk
    · rename_i i
      simp only [Bool.and_eq_true, Bool.or_eq_true, decide_eq_true_eq] at hk
      obtain ⟨h0, h1⟩ := hk
      subst h0
      exact s_ifnonnull hx hb hdg h1 Z1
    · cases hk
  case ifCond o w1 =>
    have Z1 := hz.resolve_right (fun q => q)
    dsimp only at hk
    split at hk
    · rename_i o2 i
      simp only [Bool.and_eq_true, Bool.or_eq_true, decide_eq_true_eq] at hk
      obtain ⟨h0, h1, h2⟩ := hk
      subst h0
      subst h1
      cases o2 <;> first | exact s_if_eq hx hb hdg h2 Z1 | exact s_if_ne hx hb hdg h2 Z1 | exact s_if_lt hx hb hdg h2 Z1 | exact s_if_ge hx hb hdg h2 Z1 | exact s_if_gt hx hb hdg h2 Z1 | exact s_if_le hx hb hdg h2 Z1
    · cases hk
  case if_icmp o w1 =>
    have Z1 := hz.resolve_right (fun q => q)
    dsimp only at hk
    split at hk
    · rename_i o2 i
      simp only [Bool.and_eq_true, Bool.or_eq_true, decide_eq_true_eq] at hk
      obtain ⟨h0, h1, h2⟩ := hk
      subst h0
      subst h1
      cases o2 <;> first | exact s_icmp_eq hx hb hdg h2 Z1 | exact s_icmp_ne hx hb hdg h2 Z1 | exact s_icmp_lt hx hb hdg h2 Z1 | exact s_icmp_ge hx hb hdg h2 Z1 | exact s_icmp_gt hx hb hdg h2 Z1 | exact s_icmp_le hx hb hdg h2 Z1
    · cases hk
  case tableswitch df lo hi tg =>
    have Z2 := hz.resolve_left (fun q => q)
    dsimp only at hk
    split at hk
    · rename_i dflt lo2 hi2 offs
      simp only [Bool.and_eq_true, Bool.or_eq_true, decide_eq_true_eq] at hk
      obtain ⟨h0, h1, h2, h3, h4, h5⟩ := hk
      subst h0
      subst h1
      exact s_tableswitch hx hb hdg h2 h3 h4 (fun t ht => of_decide_eq_true (List.all_eq_true.mp h5 t (Array.mem_toList_iff.mpr ht))) Z2
    · cases hk
  case lookupswitch df qs =>
    have Z2 := hz.resolve_left (fun q => q)
    dsimp only at hk
    split at hk
    · rename_i dflt qr
      simp only [Bool.and_eq_true, Bool.or_eq_true, decide_eq_true_eq] at hk
      obtain ⟨h0, h1, h2, h3, h4⟩ := hk
      exact s_lookupswitch hx hb hdg h0 h1 h2 h3 (fun t ht => of_decide_eq_true (List.all_eq_true.mp h4 t ht)) Z2
    · cases hk
  case iaload =>
    have Z2 := hz.resolve_left (fun q => q)
    dsimp only at hk
    split at hk
    · simp only [Bool.and_eq_true, Bool.or_eq_true, decide_eq_true_eq] at hk
      have h0 := hk
      subst h0
      exact s_iaload hx hb hdg hK Z2
    · cases hk
  case baload =>
    have Z2 := hz.resolve_left (fun q => q)
    dsimp only at hk
    split at hk
    · simp only [Bool.and_eq_true, Bool.or_eq_true, decide_eq_true_eq] at hk
      have h0 := hk
      subst h0
      exact s_baload hx hb hdg hK Z2
    · cases hk
  case laload =>
    have Z2 := hz.resolve_left (fun q => q)
    dsimp only at hk
    split at hk
    · simp only [Bool.and_eq_true, Bool.or_eq_true, decide_eq_true_eq] at hk
      have h0 := hk
      subst h0
      exact s_laload hx hb hdg hK Z2
    · cases hk
  case aaload =>
    have Z2 := hz.resolve_left (fun q => q)
    dsimp only at hk
    split at hk
    · simp only [Bool.and_eq_true, Bool.or_eq_true, decide_eq_true_eq] at hk
      have h0 := hk
      subst h0
      exact s_aaload hx hb hdg hK Z2
    · cases hk
  case iastore =>
    have Z2 := hz.resolve_left (fun q => q)
    dsimp only at hk
    split at hk
    · simp only [Bool.and_eq_true, Bool.or_eq_true, decide_eq_true_eq] at hk
      have h0 := hk
      subst h0
      exact s_iastore hx hb hdg hK Z2
    · cases hk
  case bastore =>
    have Z2 := hz.resolve_left (fun q => q)
    dsimp only at hk
    split at hk
    · simp only [Bool.and_eq_true, Bool.or_eq_true, decide_eq_true_eq] at hk
      have h0 := hk
      subst h0
      exact s_bastore hx hb hdg hK Z2
    · cases hk
  case lastore =>
    have Z2 := hz.resolve_left (fun q => q)
    dsimp only at hk
    split at hk
    · simp only [Bool.and_eq_true, Bool.or_eq_true, decide_eq_true_eq] at hk
      have h0 := hk
      subst h0
      exact s_lastore hx hb hdg hK Z2
    · cases hk
  case arraylength =>
    have Z2 := hz.resolve_left (fun q => q)
    dsimp only at hk
    split at hk
    · simp only [Bool.and_eq_true, Bool.or_eq_true, decide_eq_true_eq] at hk
      have h0 := hk
      subst h0
      exact s_alen hx hb hdg hK Z2
    · cases hk
  case saload =>
    have Z2 := hz.resolve_left (fun q => q)
    dsimp only at hk
    split at hk
    · simp only [Bool.and_eq_true, Bool.or_eq_true, decide_eq_true_eq] at hk
      obtain ⟨h0, h1⟩ := hk
      subst h0
      exact s_saload hx hb hdg (hX h1) Z2
    · cases hk
  case i2s =>
    have Z2 := hz.resolve_left (fun q => q)
    dsimp only at hk
    split at hk
    · simp only [Bool.and_eq_true, Bool.or_eq_true, decide_eq_true_eq] at hk
      obtain ⟨h0, h1⟩ := hk
      subst h0
      exact s_slen hx hb hdg (hX h1) Z2
    · cases hk
  case newarray t =>
    have Z2 := hz.resolve_left (fun q => q)
    dsimp only at hk
    split at hk
    · rename_i t2
      simp only [Bool.and_eq_true, Bool.or_eq_true, decide_eq_true_eq] at hk
      obtain ⟨h0, h1, h2⟩ := hk
      subst h0
      subst h1
      exact s_newarray hx hb hdg hK hR (hts _ (hin _ _ h2)) Z2
    · cases hk
  case anewarray w0 =>
    have Z2 := hz.resolve_left (fun q => q)
    dsimp only at hk
    split at hk
    · rename_i i
      simp only [Bool.and_eq_true, Bool.or_eq_true, decide_eq_true_eq] at hk
      obtain ⟨h0, h1⟩ := hk
      subst h0
      exact s_anewarray hx hb hdg hown hK hR (h1.imp (fun q => ⟨q.1, hts _ (hin _ _ q.2.1), hiu _ _ q.2.2 rfl⟩) (fun q => ⟨q.1, hts _ (hin _ _ q.2.1), hiu _ _ q.2.2 rfl⟩)) Z2
    · cases hk
  case multianewarray w0 w1 =>
    have Z2 := hz.resolve_left (fun q => q)
    dsimp only at hk
    split at hk
    · rename_i i n2
      simp only [Bool.and_eq_true, Bool.or_eq_true, decide_eq_true_eq] at hk
      obtain ⟨h0, h1, h2, h3, h4⟩ := hk
      subst h0
      subst h1
      exact s_multi hx hb hdg hown hK hR (hts _ (hin _ _ h2)) (hiu _ _ h3 rfl) (hts _ (hin _ _ h4)) Z2
    · cases hk
  case new w0 =>
    have Z2 := hz.resolve_left (fun q => q)
    dsimp only at hk
    split at hk
    · rename_i i
      simp only [Bool.and_eq_true, Bool.or_eq_true, decide_eq_true_eq] at hk
      obtain ⟨h0, h1⟩ := hk
      subst h0
      obtain ⟨C, T, N, e1, e2⟩ := zcl_of h1
      simp only [Bool.and_eq_true] at e2
      exact s_new hx hb hdg hts hT hown hK e1 hR (hts _ (hin _ _ e2.1)) (hts _ (hin _ _ e2.2.1)) (hts _ (hin _ _ e2.2.2)) Z2
    · cases hk
  case getfield w0 =>
    have Z2 := hz.resolve_left (fun q => q)
    dsimp only at hk
    split at hk
    · rename_i i
      simp only [Bool.and_eq_true, Bool.or_eq_true, decide_eq_true_eq] at hk
      obtain ⟨h0, h1⟩ := hk
      subst h0
      obtain ⟨C, T, N, e1, e2⟩ := zcl_of h1
      simp only [Bool.and_eq_true, decide_eq_true_eq] at e2
      exact s_getfield hx hb hdg hts hT hown hK e1 e2.1 (hts _ (hin _ _ e2.2)) Z2
    · cases hk
  case putfield w0 =>
    have Z2 := hz.resolve_left (fun q => q)
    dsimp only at hk
    split at hk
    · rename_i i
      simp only [Bool.and_eq_true, Bool.or_eq_true, decide_eq_true_eq] at hk
      obtain ⟨h0, h1⟩ := hk
      subst h0
      obtain ⟨C, T, N, e1, e2⟩ := zcl_of h1
      simp only [Bool.and_eq_true, Bool.or_eq_true, decide_eq_true_eq] at e2
      exact s_putfield hx hb hdg hts hT hown hK e1 e2.1 (hts _ (hin _ _ e2.2.1)) (e2.2.2.imp id (fun q => ⟨hini q.1, q.2⟩)) Z2
    · cases hk
  case pop2 =>
    have Z2 := hz.resolve_left (fun q => q)
    dsimp only at hk
    split at hk
    · rename_i i
      simp only [Bool.and_eq_true, Bool.or_eq_true, decide_eq_true_eq] at hk
      obtain ⟨h0, h1, h2, h3⟩ := hk
      subst h0
      exact s_objInit hx hb hml hdg hown (hts _ (hin _ _ h1)) (hts _ (hin _ _ h2)) (hts _ (hin _ _ h3)) (by omega) (by omega) Z2
    · cases hk
  case invokevirtual w0 =>
    have Z2 := hz.resolve_left (fun q => q)
    dsimp only at hk
    split at hk
    · rename_i i
      simp only [Bool.and_eq_true, Bool.or_eq_true, decide_eq_true_eq] at hk
      obtain ⟨h0, h1⟩ := hk
      subst h0
      obtain ⟨y, bytes, np, e1, e2⟩ := zcm_of h1
      simp only [Bool.and_eq_true, decide_eq_true_eq] at e2
      obtain ⟨e3, e4, e5, e6⟩ := e2
      subst e3
      obtain ⟨cd2, nL2, rt2, mc2, ms2, f1, f2, f3, f4, f5, f6, f7, f8⟩ := hMk a _ _ _ e1
      obtain ⟨q9, g1, g2⟩ := Option.map_eq_some_iff.mp e5
      obtain ⟨C9, T9, N9⟩ := q9
      have g3 : C9 = y.cls := g2
      subst g3
      exact s_virt hx hb hml hdg hts hG hown hK hZ hZs hBs hM hR hR1 hR2 e1 f1 f2 g1 (hin _ _ e4) (f7 e6).1 (f7 e6).2 f3 f4 f5 Z2
    · cases hk
  case invokespecial w0 =>
    have Z2 := hz.resolve_left (fun q => q)
    dsimp only at hk
    split at hk
    · rename_i i
      simp only [Bool.and_eq_true, Bool.or_eq_true, decide_eq_true_eq] at hk
      obtain ⟨h0, h1⟩ := hk
      subst h0
      obtain ⟨y, bytes, np, e1, e2⟩ := zcm_of h1
      simp only [Bool.and_eq_true, Bool.or_eq_true, decide_eq_true_eq] at e2
      obtain ⟨e3, e4, e6⟩ := e2
      subst e3
      obtain ⟨cd2, nL2, rt2, mc2, ms2, f1, f2, f3, f4, f5, f6, f7, f8⟩ := hMk a _ _ _ e1
      obtain ⟨g1, g2, g3⟩ := f8 e6
      subst g3
      exact s_spec hx hb hml hdg hts hG hown hK hZ hZs hBs hM hR hR1 hR2 e1 f1 f2 (e4.imp (hin _ _) (fun q => ⟨_, hiu _ _ q rfl⟩)) g1 f3 f4 g2 f5 Z2
    · cases hk
  case invokestatic w0 =>
    have Z2 := hz.resolve_left (fun q => q)
    dsimp only at hk
    split at hk
    · rename_i i
      simp only [Bool.and_eq_true, Bool.or_eq_true, decide_eq_true_eq] at hk
      obtain ⟨h0, h1⟩ := hk
      subst h0
      obtain ⟨y, bytes, np, e1, e2⟩ := zcm_of h1
      simp only [Bool.and_eq_true, Bool.or_eq_true, decide_eq_true_eq] at e2
      obtain ⟨e3, e4, e6⟩ := e2
      subst e3
      obtain ⟨cd2, nL2, rt2, mc2, ms2, f1, f2, f3, f4, f5, f6, f7, f8⟩ := hMk a _ _ _ e1
      exact s_stat hx hb hml hdg hts hG hown hK hZ hZs hBs hM hR hR1 hR2 e1 f1 f2 (e4.imp (hin _ _) (fun q => ⟨_, hiu _ _ q rfl⟩)) (f6 e6) f3 f4 f5 Z2
    · cases hk
  case ireturn =>
    have Z2 := hz.resolve_left (fun q => q)
    dsimp only at hk
    split at hk
    · simp only [Bool.and_eq_true, Bool.or_eq_true, decide_eq_true_eq] at hk
      have h0 := hk
      subst h0
      intro hc1 hc2 H locs lsA hH hS hL
      unfold zex2 at Z2
      dsimp only at Z2
      split at Z2
      · exact hri _ _ _ _ _ _ _ _ Z2.2 hc1 hc2 hH hS hdg Z2.1
      · exact Z2.elim
    · cases hk
  case lreturn =>
    have Z2 := hz.resolve_left (fun q => q)
    dsimp only at hk
    split at hk
    · simp only [Bool.and_eq_true, Bool.or_eq_true, decide_eq_true_eq] at hk
      have h0 := hk
      subst h0
      intro hc1 hc2 H locs lsA hH hS hL
      unfold zex2 at Z2
      dsimp only at Z2
      split at Z2
      · exact hrl _ _ _ _ _ _ _ _ Z2.2 hc1 hc2 hH hS hdg Z2.1
      · exact Z2.elim
    · cases hk
  case areturn =>
    have Z2 := hz.resolve_left (fun q => q)
    dsimp only at hk
    split at hk
    · simp only [Bool.and_eq_true, Bool.or_eq_true, decide_eq_true_eq] at hk
      have h0 := hk
      subst h0
      intro hc1 hc2 H locs lsA hH hS hL
      unfold zex2 at Z2
      dsimp only at Z2
      split at Z2
      · exact hra _ _ _ _ _ _ _ _ (by exact Or.inr (Or.inl ⟨_, rfl⟩)) Z2.2 hc1 hc2 hH hS hdg Z2.1
      · exact hra _ _ _ _ _ _ _ _ (Or.inl rfl) Z2.2 hc1 hc2 hH hS hdg Z2.1
      · exact hra _ _ _ _ _ _ _ _ (Or.inr (Or.inr ⟨_, rfl⟩)) Z2.2 hc1 hc2 hH hS hdg Z2.1
      · exact Z2.elim
    · cases hk
  case return_ =>
    have Z2 := hz.resolve_left (fun q => q)
    dsimp only at hk
    split at hk
    · simp only [Bool.and_eq_true, Bool.or_eq_true, decide_eq_true_eq] at hk
      have h0 := hk
      subst h0
      intro hc1 hc2 H locs lsA hH hS hL
      unfold zex2 at Z2
      dsimp only at Z2
      split at Z2
      · exact hrv _ _ _ _ _ _ _ Z2.2 hc1 hc2 hH hS hdg Z2.1
      · exact Z2.elim
    · cases hk
  all_goals cases hk
end SIM5
end
section
def zall (tb : List (List Jvm.Cond)) (cl : List vw_C) (nm : List (MethodName × ByteArray × Nat)) (km : List Nat) (law ini : Bool) (own : String) (bytes : ByteArray) : Nat → zK → List (List Nat) → Bool
  | pc, some e :: r, p :: ps => (match decode bytes pc with
    | .ok (raw, len) => decide (e.2.1 = pc + len) && zchk tb cl nm km law ini own raw len pc e p
    | .error _ => false) && zall tb cl nm km law ini own bytes (pc + 1) r ps
  | pc, none :: r, _ :: ps => zall tb cl nm km law ini own bytes (pc + 1) r ps
  | _, [], _ => true
  | _, _ :: _, [] => false
/-- each canonical instruction of a method stands in its code -/
def zCok (tb : List (List Jvm.Cond)) (cl : List vw_C) (nm : List (MethodName × ByteArray × Nat)) (km : List Nat) (law ini : Bool) (own : String) (bytes : ByteArray) (cd : zK) : Prop := ∀ (pc : Nat) (e : zE), cd[pc]? = some (some e) → ∃ (raw : Instr) (len : Nat) (ps : List Nat), decode bytes pc = .ok (raw, len) ∧ e.2.1 = pc + len ∧ zchk tb cl nm km law ini own raw len pc e ps = true
theorem zall_ok {tb : List (List Jvm.Cond)} {cl : List vw_C} {nm : List (MethodName × ByteArray × Nat)} {km : List Nat} {law ini : Bool} {own : String} {bytes : ByteArray} : ∀ (cd : zK) (pp : List (List Nat)) (k : Nat), zall tb cl nm km law ini own bytes k cd pp = true → ∀ (i : Nat) (e : zE), cd[i]? = some (some e) → ∃ (raw : Instr) (len : Nat) (ps : List Nat), decode bytes (k + i) = .ok (raw, len) ∧ e.2.1 = k + i + len ∧ zchk tb cl nm km law ini own raw len (k + i) e ps = true
  | [], _, _, _, i, e, hi => by simp at hi
  | none :: r, [], k, h, i, e, hi => by cases h
  | some e0 :: r, [], k, h, i, e, hi => by cases h
  | none :: r, p :: ps, k, h, i, e, hi => by
    cases i with
    | zero => cases hi
    | succ i =>
      have h9 := zall_ok r ps (k + 1) h i e hi
      rw [show k + (i + 1) = k + 1 + i by omega]
      exact h9
  | some e0 :: r, p :: ps, k, h, i, e, hi => by
    unfold zall at h
    rw [Bool.and_eq_true] at h
    cases i with
    | zero =>
      cases hi
      have h1 := h.1
      split at h1
      · rename_i raw len hdec
        rw [Bool.and_eq_true, decide_eq_true_eq] at h1
        exact ⟨raw, len, p, hdec, h1.1, h1.2⟩
      · cases h1
    | succ i =>
      have h9 := zall_ok r ps (k + 1) h.2 i e hi
      rw [show k + (i + 1) = k + 1 + i by omega]
      exact h9
theorem zCok_of {tb : List (List Jvm.Cond)} {cl : List vw_C} {nm : List (MethodName × ByteArray × Nat)} {km : List Nat} {law ini : Bool} {own : String} {bytes : ByteArray} {cd : zK} (pp : List (List Nat)) (h : zall tb cl nm km law ini own bytes 0 cd pp = true) : zCok tb cl nm km law ini own bytes cd := fun pc e hi => by
  have h9 := zall_ok cd pp 0 h pc e hi
  rw [Nat.zero_add] at h9
  exact h9
def zPok (tb : List (List Jvm.Cond)) (cl : List vw_C) (nm : List (MethodName × ByteArray × Nat)) (km : List Nat) (G : zG) : Prop := ∀ (j : Nat) (y : MethodName) (bytes : ByteArray) (np : Nat), nm[j]? = some (y, bytes, np) → ∀ (cd : zK) (nL : Nat) (rt : Option FieldType) (mc ms : Nat), G.1[j]? = some (cd, nL, rt, mc, ms) → plainName y.cls = true ∧ zCok tb cl nm km false (decide (y.name = "<init>")) y.cls bytes cd
theorem zargs_in (f : Value → Value) (hf : ∀ w, (f w).category = w.category) : ∀ (as : List Value) (k i : Nat) (v : Value), (zargs as).getD i none = some v → (k + i, f v) ∈ lv_args k (as.map f)
  | [], k, i, v, h => by simp [zargs] at h
  | a :: as, k, i, v, h => by
    unfold zargs at h
    by_cases hc : a.category = 2
    · rw [show (a.category == 2) = true by simp [hc]] at h
      rw [List.map_cons]
      unfold lv_args
      rw [if_pos (by rw [hf]; exact hc)]
      match i, h with
      | 0, h => cases h; exact List.mem_cons_self
      | 1, h => cases h
      | i + 2, h =>
        have h9 := zargs_in f hf as (k + 2) i v h
        rw [show k + (i + 2) = k + 2 + i by omega]
        exact List.mem_cons_of_mem _ h9
    · rw [show (a.category == 2) = false by simp [hc]] at h
      rw [List.map_cons]
      unfold lv_args
      rw [if_neg (by rw [hf]; exact hc)]
      match i, h with
      | 0, h => cases h; exact List.mem_cons_self
      | i + 1, h =>
        have h9 := zargs_in f hf as (k + 1) i v h
        rw [show k + (i + 1) = k + 1 + i by omega]
        exact List.mem_cons_of_mem _ h9
theorem zargs_len (f : Value → Value) (hf : ∀ w, (f w).category = w.category) : ∀ as : List Value, (zargs as).length = (lg_sl (as.map f)).length
  | [] => rfl
  | a :: as => by
    have ih := zargs_len f hf as
    rw [List.map_cons]
    unfold zargs
    unfold lg_sl at ih ⊢
    rw [List.flatMap_cons, List.length_append, ← ih, hf]
    by_cases hc : a.category = 2
    · rw [show (a.category == 2) = true by simp [hc], if_pos hc]
      show (some a :: none :: zargs as).length = _
      simp only [List.length_cons, List.length_nil]; omega
    · rw [show (a.category == 2) = false by simp [hc], if_neg hc]
      show (some a :: zargs as).length = _
      simp only [List.length_cons, List.length_nil]; omega
theorem zentry_has {f : Value → Value} (hf : ∀ w, (f w).category = w.category) {as : List Value} {nL : Nat} (hl : (zargs as).length ≤ nL) : zLs f nL (zentry as nL) ((lg_sl (as.map f) ++ List.replicate (nL - (lg_sl (as.map f)).length) Slot.unset).toArray) := by
  have h9 := lv_entry (as.map f) (n := nL) (by rw [← zargs_len f hf]; exact hl)
  refine ⟨by unfold zentry; rw [List.length_append, List.length_replicate]; omega, h9.1, h9.2.1, fun i v hv => ?_⟩
  have h1 : (zargs as).getD i none = some v := by
    unfold zentry at hv
    rw [List.getD_eq_getElem?_getD] at hv ⊢
    by_cases q : i < (zargs as).length
    · rw [List.getElem?_append_left q] at hv
      exact hv
    · rw [List.getElem?_append_right (by omega), List.getElem?_replicate] at hv
      split at hv <;> cases hv
  have h2 := h9.2.2 (0 + i, f v) (zargs_in f hf as 0 i v h1)
  rw [Nat.zero_add] at h2
  exact h2
set_option maxHeartbeats 4000000 in
/-- the methods of the program are worth in the machine what the small machine says of them -/
theorem zMet_all (l : Launch) {nm : List (MethodName × ByteArray × Nat)} {km : List Nat} {G : zG} {B : Nat} {D : va_G} {cl : List vw_C} {dA : Nat → ClassId} {aS : Nat → Nat} {Z : State → Prop} {Ts : List Jvm.Cond} {tt : zT} {tb : List (List Jvm.Cond)} (hit : ∀ (p : Nat) (w : Jvm.Cond), zin tb p w = true → w ∈ Ts) (hZU : ∀ U : State, Z U → ∀ (p : Nat) (w : Jvm.Cond), ziu tb p w = true → zspec w = true → w.before #[] U = true) (hG : GoodIn Ts Ts) (hT : zTT tt cl Ts) (hMk : zMok Ts nm km G) (hPk : zPok tb cl nm km G) (hZ : zStays B Z) : ∀ d : Nat, zMet l nm G B D cl dA aS Z Ts d (zW tt G d)
  | 0 => fun _ _ _ _ k => k.elim
  | d + 1 => by
    have ihM := zMet_all l (B := B) (D := D) (dA := dA) (aS := aS) hit hZU hG hT hMk hPk hZ d
    intro j as h K k y bytes np cd nL rt mc ms h1 h2
    unfold zW at k
    rw [h2] at k
    obtain ⟨k1, k2⟩ := k
    obtain ⟨hpl, hcok⟩ := hPk j y bytes np h1 cd nL rt mc ms h2
    obtain ⟨cd', nL', rt', mc', ms', f1, f2, f3, f4, f5, f6, f7, f8⟩ := hMk j y bytes np h1
    rw [h2] at f1
    cases f1
    refine Met.ofW (cc := bytes) (maxL := nL) (ret := rt) hpl rfl ?_
    intro p e s m args below meth c s₁ Bd hml hv
    obtain ⟨rfl, hH, hK, hZs⟩ := hv
    have hx := Bd.exec
    have hb := Bd.bytes
    have hr := Bd.returns
    have hts0 := atoms_spec (ws := .code y bytes nL rt :: Ts) Bd.pre
    have hts : ∀ w ∈ Ts, w.before (as.map (zcv B aS)).toArray s = true := fun w hw => hts0 w (List.mem_cons_of_mem _ hw)
    have hown : s.vm.findClass y.cls = some m.cls := findClass_of_methodNamed Bd.named
    have hlocks := Bd.notSynchronized
    have hin : meth.name = y.name := (name_of_methodNamed Bd.named Bd.method).1
    have hBs : B ≤ s.heap.size := by rw [hH.1]; exact Nat.le_add_right _ _
    rw [lg_entry_eq]
    refine k2 (wX p l e (headSpec (.code y bytes nL rt :: Ts) (zrm (d + 1) mc ms)).room s m (as.map (zcv B aS)).toArray below meth c (MQ below (zQc B D cl dA aS K) (as.map (zcv B aS)).toArray s mc ms (fun q => B ≤ q)) B D cl dA aS nL mc ms) ?_ (Nat.zero_le _) (Nat.zero_le _) s.heap [] _ hH va_S.rf (zentry_has (zcv_cat B aS) k1)
    intro pc L st h' cn sn hz
    unfold zstep at hz
    split at hz
    · rename_i ze hze
      obtain ⟨raw, len, ps, g1, g2, g3⟩ := hcok pc ze hze
      refine zsnd (R := (headSpec (.code y bytes nL rt :: Ts) (zrm (d + 1) mc ms)).room) hx hb hml hts hG hT hMk hown (fun q => ?_) hK hZ hZs hBs ihM (fun q => by cases q) ⟨Nat.le_refl _, Nat.le_refl _⟩ (Nat.le_refl _) (by show d * 64 + 64 ≤ (d + 1) * 64; omega) ?_ ?_ ?_ ?_ g1 g2 hit (hZU s hZs) g3 hz
      · rw [hin]; exact of_decide_eq_true q
      · intro x h9 H locs lsA pc9 cn9 sn9 q1 q2 q3 q4 q5 q6 q7
        obtain ⟨t, rfl, hn⟩ := q7
        refine W.widen q2 q3 ?_
        exact W.zret hx hb hr hn (fun t ht hW => ⟨⟨some (.int x), h9, rfl, q1, by rw [ht]; exact q4⟩, q5.F ht⟩) q5.2.2 q6
      · intro x h9 H locs lsA pc9 cn9 sn9 q1 q2 q3 q4 q5 q6 q7
        subst q7
        refine W.widen q2 q3 ?_
        exact W.lret hx hb hr (fun t ht hW => ⟨⟨some (.long x), h9, rfl, q1, by rw [ht]; exact q4⟩, q5.F ht⟩) q5.2.2 q6
      · intro w h9 H locs lsA pc9 cn9 sn9 q0 q1 q2 q3 q4 q5 q6 q7
        obtain ⟨t, rfl, hn⟩ := q7
        refine W.widen q2 q3 ?_
        refine W.aret hx hb hr ?_ ?_ (fun t ht hW => ⟨⟨some w, h9, rfl, q1, by rw [ht]; exact q4⟩, q5.F ht⟩) q5.2.2 q6
        · cases t <;> first | exact Or.inl ⟨_, rfl⟩ | exact Or.inr ⟨_, rfl⟩ | cases hn
        · rcases q0 with rfl | ⟨r, rfl⟩ | ⟨r, rfl⟩
          · exact Or.inl rfl
          · exact Or.inr ⟨_, rfl⟩
          · exact Or.inr ⟨_, rfl⟩
      · intro h9 H locs lsA pc9 cn9 sn9 q1 q2 q3 q4 q5 q6 q7
        subst q7
        refine W.widen q2 q3 ?_
        exact W.vret hx hb hr (fun t ht hW => ⟨⟨none, h9, rfl, q1, by rw [ht]; exact q4⟩, q5.F ht⟩) q5.2.2 q6
    · exact hz.elim
end
section
abbrev zi (i : Instr) (nx a b d : Nat) (v : Value) : Option zE := some (i, nx, a, b, d, v)
abbrev zj (i : Instr) (nx a b d : Nat) : Option zE := some (i, nx, a, b, d, .null)
noncomputable def cd_0 : zK := [zj (.aload 0) 1 0 0 0, zj (.pop2) 4 0 0 0, none, none, zj (.aload 0) 5 0 0 0, zi (.aconst_null) 7 0 0 0 (.int 12), none, zj (.newarray .int) 9 0 0 0, none, zj (.putfield 0) 12 0 10 0, none, none, zj (.aload 0) 13 0 0 0, zj (.iload 1) 14 1 0 0, zj (.putfield 0) 17 0 0 0, none, none, zj (.aload 0) 18 0 0 0, zj (.iload 2) 19 2 0 0, zj (.putfield 0) 22 0 1 0, none, none, zj (.aload 0) 23 0 0 0, zj (.iload 4) 25 4 0 0, none, zj (.putfield 0) 28 0 2 0, none, none, zj (.aload 0) 29 0 0 0, zj (.iload 3) 30 3 0 0, zj (.putfield 0) 33 0 3 0, none, none, zj (.aload 0) 34 0 0 0, zj (.iload 3) 35 3 0 0, zj (.putfield 0) 38 0 4 0, none, none, zj (.aload 0) 39 0 0 0, zj (.iload 2) 40 2 0 0, zj (.putfield 0) 43 0 5 0, none, none, zj (.aload 0) 44 0 0 0, zj (.iload 2) 45 2 0 0, zj (.putfield 0) 48 0 6 0, none, none, zj (.aload 0) 49 0 0 0, zj (.getfield 0) 52 0 10 0, none, none, zi (.aconst_null) 55 0 0 0 (.int 600), none, none, zj (.invokestatic 0) 58 281 2 0, none, none, zj (.return_) 59 0 0 0]
noncomputable def pp_0 : List (List Nat) := [[], [3035, 1027, 1028], [], [], [], [], [], [1068], [], [3063], [], [], [], [], [3037], [], [], [], [], [3041], [], [], [], [], [], [3044], [], [], [], [], [3047], [], [], [], [], [3049], [], [], [], [], [3053], [], [], [], [], [3056], [], [], [], [3063], [], [], [], [], [], [3036], [], [], []]
noncomputable def cd_1 : zK := [zi (.aconst_null) 1 0 0 0 (.int 0), zj (.istore 2) 2 2 0 0, zi (.aconst_null) 3 0 0 0 (.int 0), zj (.istore 3) 4 3 0 0, zj (.iload 3) 5 3 0 0, zi (.aconst_null) 7 0 0 0 (.int 12), none, zj (.if_icmp .ge 0) 10 32 0 0, none, none, zj (.aload 0) 11 0 0 0, zj (.getfield 0) 14 0 10 0, none, none, zj (.iload 3) 15 3 0 0, zj (.iaload) 16 0 0 0, zj (.iload 1) 17 1 0 0, zj (.if_icmp .gt 0) 20 26 0 0, none, none, zj (.iload 2) 21 2 0 0, zi (.aconst_null) 22 0 0 0 (.int 1), zj (.iload 3) 23 3 0 0, zj (.ishl) 24 0 0 0, zj (.ior) 25 0 0 0, zj (.istore 2) 26 2 0 0, zi (.iinc 3 1) 29 3 0 0 (.int 1), none, none, zj (.goto 0) 32 4 0 0, none, none, zj (.iload 2) 33 2 0 0, zj (.ireturn) 34 0 0 0]
noncomputable def pp_1 : List (List Nat) := [[], [], [], [], [], [], [], [], [], [], [], [3063], [], [], [], [], [], [], [], [], [], [], [], [], [], [], [], [], [], [], [], [], [], []]
noncomputable def cd_2 : zK := [zj (.aload 0) 1 0 0 0, zj (.getfield 0) 4 0 8 0, none, none, zj (.iload 1) 5 1 0 0, zj (.ishr) 6 0 0 0, zi (.aconst_null) 7 0 0 0 (.int 1), zj (.iand) 8 0 0 0, zi (.aconst_null) 9 0 0 0 (.int 1), zj (.if_icmp .ne 0) 12 16 0 0, none, none, zi (.aconst_null) 13 0 0 0 (.int 1), zj (.goto 0) 16 17 0 0, none, none, zi (.aconst_null) 17 0 0 0 (.int 0), zj (.ireturn) 18 0 0 0]
noncomputable def pp_2 : List (List Nat) := [[], [3060], [], [], [], [], [], [], [], [], [], [], [], [], [], [], [], []]
noncomputable def cd_3 : zK := [zj (.aload 0) 1 0 0 0, zj (.getfield 0) 4 0 7 0, none, none, zj (.ifCond .ne 0) 7 22 0 0, none, none, zj (.aload 0) 8 0 0 0, zj (.getfield 0) 11 0 9 0, none, none, zj (.iload 1) 12 1 0 0, zj (.ishr) 13 0 0 0, zi (.aconst_null) 14 0 0 0 (.int 1), zj (.iand) 15 0 0 0, zj (.ifCond .ne 0) 18 22 0 0, none, none, zi (.aconst_null) 19 0 0 0 (.int 1), zj (.goto 0) 22 23 0 0, none, none, zi (.aconst_null) 23 0 0 0 (.int 0), zj (.ireturn) 24 0 0 0]
noncomputable def pp_3 : List (List Nat) := [[], [3058], [], [], [], [], [], [], [3062], [], [], [], [], [], [], [], [], [], [], [], [], [], [], []]
noncomputable def cd_4 : zK := [zj (.aload 0) 1 0 0 0, zj (.dup) 2 0 0 0, zj (.getfield 0) 5 0 9 0, none, none, zi (.aconst_null) 6 0 0 0 (.int 1), zj (.iload 1) 7 1 0 0, zj (.ishl) 8 0 0 0, zj (.ior) 9 0 0 0, zj (.putfield 0) 12 0 9 0, none, none, zj (.aload 0) 13 0 0 0, zj (.getfield 0) 16 0 10 0, none, none, zj (.iload 2) 17 2 0 0, zj (.aload 0) 18 0 0 0, zj (.getfield 0) 21 0 10 0, none, none, zj (.iload 2) 22 2 0 0, zj (.iaload) 23 0 0 0, zj (.iload 3) 24 3 0 0, none, none, none, zj (.iastore) 28 0 0 0, zj (.return_) 29 0 0 0]
noncomputable def pp_4 : List (List Nat) := [[], [], [3062], [], [], [], [], [], [], [3062], [], [], [], [3063], [], [], [], [], [3063], [], [], [], [], [], [], [], [], [], []]
noncomputable def cd_5 : zK := [zj (.aload 0) 1 0 0 0, zj (.pop2) 4 0 0 0, none, none, zj (.aload 0) 5 0 0 0, zi (.aconst_null) 8 0 0 0 (.int 200), none, none, zj (.newarray .int) 10 0 0 0, none, zj (.putfield 0) 13 1 0 0, none, none, zj (.aload 0) 14 0 0 0, zi (.aconst_null) 17 0 0 0 (.int 200), none, none, zj (.newarray .int) 19 0 0 0, none, zj (.putfield 0) 22 1 1 0, none, none, zj (.aload 0) 23 0 0 0, zi (.aconst_null) 26 0 0 0 (.int 200), none, none, zj (.newarray .int) 28 0 0 0, none, zj (.putfield 0) 31 1 2 0, none, none, zj (.aload 0) 32 0 0 0, zi (.aconst_null) 35 0 0 0 (.int 200), none, none, zj (.newarray .int) 37 0 0 0, none, zj (.putfield 0) 40 1 3 0, none, none, zj (.aload 0) 41 0 0 0, zi (.aconst_null) 44 0 0 0 (.int 200), none, none, zj (.newarray .int) 46 0 0 0, none, zj (.putfield 0) 49 1 4 0, none, none, zj (.aload 0) 50 0 0 0, zi (.aconst_null) 53 0 0 0 (.int 200), none, none, zj (.newarray .int) 55 0 0 0, none, zj (.putfield 0) 58 1 5 0, none, none, zj (.aload 0) 59 0 0 0, zi (.aconst_null) 62 0 0 0 (.int 200), none, none, zj (.newarray .int) 64 0 0 0, none, zj (.putfield 0) 67 1 6 0, none, none, zj (.aload 0) 68 0 0 0, zi (.aconst_null) 71 0 0 0 (.int 200), none, none, zj (.newarray .boolean) 73 0 0 0, none, zj (.putfield 0) 76 1 7 0, none, none, zj (.aload 0) 77 0 0 0, zi (.aconst_null) 79 0 0 0 (.int 9), none, zj (.newarray .int) 81 0 0 0, none, zj (.putfield 0) 84 1 9 0, none, none, zj (.aload 0) 85 0 0 0, zi (.aconst_null) 87 0 0 0 (.int 9), none, zj (.newarray .int) 89 0 0 0, none, zj (.putfield 0) 92 1 10 0, none, none, zj (.aload 0) 93 0 0 0, zi (.aconst_null) 95 0 0 0 (.int 9), none, zj (.newarray .int) 97 0 0 0, none, zj (.putfield 0) 100 1 11 0, none, none, zj (.aload 0) 101 0 0 0, zi (.aconst_null) 103 0 0 0 (.int 9), none, zj (.newarray .int) 105 0 0 0, none, zj (.putfield 0) 108 1 12 0, none, none, zj (.return_) 109 0 0 0]
noncomputable def pp_5 : List (List Nat) := [[], [1228, 1027, 1028], [], [], [], [], [], [], [1068], [], [1229], [], [], [], [], [], [], [1068], [], [1231], [], [], [], [], [], [], [1068], [], [1232], [], [], [], [], [], [], [1068], [], [1234], [], [], [], [], [], [], [1068], [], [1235], [], [], [], [], [], [], [1068], [], [1237], [], [], [], [], [], [], [1068], [], [1239], [], [], [], [], [], [], [1112], [], [2001], [], [], [], [], [], [1068], [], [2005], [], [], [], [], [], [1068], [], [2006], [], [], [], [], [], [1068], [], [2007], [], [], [], [], [], [1068], [], [2008], [], [], []]
noncomputable def cd_6 : zK := [zj (.iload 1) 1 1 0 0, zj (.ifCond .lt 0) 4 16 0 0, none, none, zj (.iload 1) 5 1 0 0, zj (.aload 0) 6 0 0 0, zj (.getfield 0) 9 1 8 0, none, none, zj (.if_icmp .ge 0) 12 16 0 0, none, none, zi (.aconst_null) 13 0 0 0 (.int 1), zj (.goto 0) 16 17 0 0, none, none, zi (.aconst_null) 17 0 0 0 (.int 0), zj (.ireturn) 18 0 0 0]
noncomputable def pp_6 : List (List Nat) := [[], [], [], [], [], [], [2003], [], [], [], [], [], [], [], [], [], [], []]
noncomputable def cd_7 : zK := [zj (.aload 0) 1 0 0 0, zj (.getfield 0) 4 1 8 0, none, none, zi (.aconst_null) 7 0 0 0 (.int 200), none, none, zj (.if_icmp .ne 0) 10 14 0 0, none, none, zi (.aconst_null) 11 0 0 0 (.int 1), zj (.goto 0) 14 15 0 0, none, none, zi (.aconst_null) 15 0 0 0 (.int 0), zj (.ireturn) 16 0 0 0]
noncomputable def pp_7 : List (List Nat) := [[], [2003], [], [], [], [], [], [], [], [], [], [], [], [], [], []]
noncomputable def cd_8 : zK := [zj (.aload 0) 1 0 0 0, zj (.invokevirtual 0) 4 7 0 1, none, none, zj (.ifCond .eq 0) 7 9 0 0, none, none, zi (.aconst_null) 8 0 0 0 (.int (-1)), zj (.ireturn) 9 0 0 0, zj (.aload 0) 10 0 0 0, zj (.getfield 0) 13 1 0 0, none, none, zj (.aload 0) 14 0 0 0, zj (.getfield 0) 17 1 8 0, none, none, zj (.iload 1) 18 1 0 0, zj (.iastore) 19 0 0 0, zj (.aload 0) 20 0 0 0, zj (.getfield 0) 23 1 1 0, none, none, zj (.aload 0) 24 0 0 0, zj (.getfield 0) 27 1 8 0, none, none, zj (.iload 2) 28 2 0 0, zj (.iastore) 29 0 0 0, zj (.aload 0) 30 0 0 0, zj (.getfield 0) 33 1 2 0, none, none, zj (.aload 0) 34 0 0 0, zj (.getfield 0) 37 1 8 0, none, none, zj (.iload 3) 38 3 0 0, zj (.iastore) 39 0 0 0, zj (.aload 0) 40 0 0 0, zj (.getfield 0) 43 1 3 0, none, none, zj (.aload 0) 44 0 0 0, zj (.getfield 0) 47 1 8 0, none, none, zj (.iload 4) 49 4 0 0, none, zj (.iastore) 50 0 0 0, zj (.aload 0) 51 0 0 0, zj (.dup) 52 0 0 0, zj (.getfield 0) 55 1 8 0, none, none, zj (.dup_x1) 56 0 0 0, zi (.aconst_null) 57 0 0 0 (.int 1), zj (.iadd) 58 0 0 0, zj (.putfield 0) 61 1 8 0, none, none, zj (.ireturn) 62 0 0 0]
noncomputable def pp_8 : List (List Nat) := [[], [4236], [], [], [], [], [], [], [], [], [1229], [], [], [], [2003], [], [], [], [], [], [1231], [], [], [], [2003], [], [], [], [], [], [1232], [], [], [], [2003], [], [], [], [], [], [1234], [], [], [], [2003], [], [], [], [], [], [], [], [2003], [], [], [], [], [], [2003], [], [], []]
noncomputable def cd_9 : zK := [zj (.aload 0) 1 0 0 0, zj (.iload 1) 2 1 0 0, zj (.invokevirtual 0) 5 6 1 1, none, none, zj (.ifCond .ne 0) 8 9 0 0, none, none, zj (.return_) 9 0 0 0, zj (.aload 0) 10 0 0 0, zj (.getfield 0) 13 1 4 0, none, none, zj (.iload 1) 14 1 0 0, zj (.iload 2) 15 2 0 0, zj (.iastore) 16 0 0 0, zj (.aload 0) 17 0 0 0, zj (.getfield 0) 20 1 5 0, none, none, zj (.iload 1) 21 1 0 0, zj (.iload 3) 22 3 0 0, zj (.iastore) 23 0 0 0, zj (.aload 0) 24 0 0 0, zj (.getfield 0) 27 1 6 0, none, none, zj (.iload 1) 28 1 0 0, zj (.iload 4) 30 4 0 0, none, zj (.iastore) 31 0 0 0, zj (.aload 0) 32 0 0 0, zj (.getfield 0) 35 1 7 0, none, none, zj (.iload 1) 36 1 0 0, zj (.iload 5) 38 5 0 0, none, zj (.bastore) 39 0 0 0, zj (.return_) 40 0 0 0]
noncomputable def pp_9 : List (List Nat) := [[], [], [5001], [], [], [], [], [], [], [], [1235], [], [], [], [], [], [], [1237], [], [], [], [], [], [], [1239], [], [], [], [], [], [], [], [2001], [], [], [], [], [], [], []]
noncomputable def cd_10 : zK := [zj (.aload 2) 1 2 0 0, zi (.aconst_null) 2 0 0 0 (.int 0), zj (.invokestatic 0) 5 281 2 0, none, none, zj (.aload 3) 6 3 0 0, zi (.aconst_null) 7 0 0 0 (.int 0), zj (.invokestatic 0) 10 281 2 0, none, none, zi (.aconst_null) 11 0 0 0 (.int 0), zj (.istore 4) 13 4 0 0, none, zj (.iload 4) 15 4 0 0, none, zj (.aload 0) 16 0 0 0, zj (.getfield 0) 19 1 8 0, none, none, zj (.if_icmp .ge 0) 22 81 0 0, none, none, zj (.aload 0) 23 0 0 0, zj (.getfield 0) 26 1 1 0, none, none, zj (.iload 4) 28 4 0 0, none, zj (.iaload) 29 0 0 0, zj (.iload 1) 30 1 0 0, zj (.if_icmp .ne 0) 33 75 0 0, none, none, zj (.aload 0) 34 0 0 0, zj (.getfield 0) 37 1 7 0, none, none, zj (.iload 4) 39 4 0 0, none, zj (.baload) 40 0 0 0, zj (.ifCond .eq 0) 43 75 0 0, none, none, zj (.aload 2) 44 2 0 0, zj (.aload 0) 45 0 0 0, zj (.getfield 0) 48 1 3 0, none, none, zj (.iload 4) 50 4 0 0, none, zj (.iaload) 51 0 0 0, zj (.dup2) 52 0 0 0, zj (.iaload) 53 0 0 0, zi (.aconst_null) 54 0 0 0 (.int 1), zj (.iadd) 55 0 0 0, zj (.iastore) 56 0 0 0, zj (.aload 3) 57 3 0 0, zj (.aload 0) 58 0 0 0, zj (.getfield 0) 61 1 3 0, none, none, zj (.iload 4) 63 4 0 0, none, zj (.iaload) 64 0 0 0, zj (.dup2) 65 0 0 0, zj (.iaload) 66 0 0 0, zj (.aload 0) 67 0 0 0, zj (.getfield 0) 70 1 6 0, none, none, zj (.iload 4) 72 4 0 0, none, zj (.iaload) 73 0 0 0, zj (.iadd) 74 0 0 0, zj (.iastore) 75 0 0 0, zi (.iinc 4 1) 78 4 0 0 (.int 1), none, none, zj (.goto 0) 81 13 0 0, none, none, zj (.aload 2) 82 2 0 0, zj (.invokestatic 0) 85 169 1 0, none, none, zj (.aload 3) 86 3 0 0, zj (.invokestatic 0) 89 169 1 0, none, none, zj (.return_) 90 0 0 0]
noncomputable def pp_10 : List (List Nat) := [[], [], [4120], [], [], [], [], [4120], [], [], [], [], [], [], [], [], [2003], [], [], [], [], [], [], [1231], [], [], [], [], [], [], [], [], [], [], [2001], [], [], [], [], [], [], [], [], [], [], [1234], [], [], [], [], [], [], [], [], [], [], [], [], [1234], [], [], [], [], [], [], [], [], [1239], [], [], [], [], [], [], [], [], [], [], [], [], [], [], [4121], [], [], [], [4121], [], [], []]
noncomputable def cd_11 : zK := [zj (.aload 0) 1 0 0 0, zj (.iload 1) 2 1 0 0, zj (.iload 2) 3 2 0 0, zj (.invokevirtual 0) 6 12 2 1, none, none, zi (.aconst_null) 7 0 0 0 (.long 0), zj (.lstore 4) 9 4 0 0, none, zi (.aconst_null) 10 0 0 0 (.long 1), zj (.lstore 6) 12 6 0 0, none, zi (.aconst_null) 13 0 0 0 (.long 0), zj (.lstore 8) 15 8 0 0, none, zi (.aconst_null) 16 0 0 0 (.long 0), zj (.lstore 10) 18 10 0 0, none, zi (.aconst_null) 19 0 0 0 (.int 0), zj (.istore 12) 21 12 0 0, none, zj (.iload 12) 23 12 0 0, none, zi (.aconst_null) 25 0 0 0 (.int 9), none, zj (.if_icmp .ge 0) 28 135 0 0, none, none, zj (.aload 0) 29 0 0 0, zj (.getfield 0) 32 1 11 0, none, none, zj (.iload 12) 34 12 0 0, none, zj (.iaload) 35 0 0 0, zj (.i2l) 36 0 0 0, zj (.lstore 13) 38 13 0 0, none, zj (.lload 13) 40 13 0 0, none, zi (.aconst_null) 41 0 0 0 (.long 0), zj (.lcmp) 42 0 0 0, zj (.ifCond .le 0) 45 129 0 0, none, none, zj (.lload 4) 47 4 0 0, none, zj (.lload 13) 49 13 0 0, none, zj (.lmul) 50 0 0 0, zj (.aload 0) 51 0 0 0, zj (.getfield 0) 54 1 9 0, none, none, zj (.iload 12) 56 12 0 0, none, zj (.iaload) 57 0 0 0, zj (.i2l) 58 0 0 0, zj (.aload 0) 59 0 0 0, zj (.getfield 0) 62 1 12 0, none, none, zj (.iload 12) 64 12 0 0, none, zj (.iaload) 65 0 0 0, zj (.i2l) 66 0 0 0, zj (.lmul) 67 0 0 0, zj (.lload 6) 69 6 0 0, none, zj (.lmul) 70 0 0 0, zj (.ladd) 71 0 0 0, zj (.lstore 4) 73 4 0 0, none, zj (.lload 6) 75 6 0 0, none, zj (.lload 13) 77 13 0 0, none, zj (.lmul) 78 0 0 0, zj (.lstore 6) 80 6 0 0, none, zj (.lload 4) 82 4 0 0, none, zj (.lload 6) 84 6 0 0, none, zj (.invokestatic 0) 87 13 2 0, none, none, zj (.lstore 15) 89 15 0 0, none, zj (.lload 4) 91 4 0 0, none, zj (.lload 15) 93 15 0 0, none, zj (.ldiv) 94 0 0 0, zj (.lstore 4) 96 4 0 0, none, zj (.lload 6) 98 6 0 0, none, zj (.lload 15) 100 15 0 0, none, zj (.ldiv) 101 0 0 0, zj (.lstore 6) 103 6 0 0, none, zj (.lload 8) 105 8 0 0, none, zj (.aload 0) 106 0 0 0, zj (.getfield 0) 109 1 10 0, none, none, zj (.iload 12) 111 12 0 0, none, zj (.iaload) 112 0 0 0, zj (.i2l) 113 0 0 0, zj (.ladd) 114 0 0 0, zj (.lstore 8) 116 8 0 0, none, zj (.lload 10) 118 10 0 0, none, zj (.aload 0) 119 0 0 0, zj (.getfield 0) 122 1 9 0, none, none, zj (.iload 12) 124 12 0 0, none, zj (.iaload) 125 0 0 0, zj (.i2l) 126 0 0 0, zj (.ladd) 127 0 0 0, zj (.lstore 10) 129 10 0 0, none, zi (.iinc 12 1) 132 12 0 0 (.int 1), none, none, zj (.goto 0) 135 21 0 0, none, none, zj (.iload 3) 136 3 0 0, zj (.tableswitch 173 0 2 #[164, 167, 170]) 164 0 0 0, none, none, none, none, none, none, none, none, none, none, none, none, none, none, none, none, none, none, none, none, none, none, none, none, none, none, none, zj (.lload 4) 166 4 0 0, none, zj (.lreturn) 167 0 0 0, zj (.lload 6) 169 6 0 0, none, zj (.lreturn) 170 0 0 0, zj (.lload 8) 172 8 0 0, none, zj (.lreturn) 173 0 0 0, zj (.lload 10) 175 10 0 0, none, zj (.lreturn) 176 0 0 0]
noncomputable def pp_11 : List (List Nat) := [[], [], [], [5019], [], [], [], [], [], [], [], [], [], [], [], [], [], [], [], [], [], [], [], [], [], [], [], [], [], [2007], [], [], [], [], [], [], [], [], [], [], [], [], [], [], [], [], [], [], [], [], [], [2005], [], [], [], [], [], [], [], [2008], [], [], [], [], [], [], [], [], [], [], [], [], [], [], [], [], [], [], [], [], [], [], [], [], [5024], [], [], [], [], [], [], [], [], [], [], [], [], [], [], [], [], [], [], [], [], [], [2006], [], [], [], [], [], [], [], [], [], [], [], [], [2005], [], [], [], [], [], [], [], [], [], [], [], [], [], [], [], [], [], [], [], [], [], [], [], [], [], [], [], [], [], [], [], [], [], [], [], [], [], [], [], [], [], [], [], [], [], [], [], [], [], [], [], [], [], [], [], []]
noncomputable def cd_12 : zK := [zj (.aload 0) 1 0 0 0, zj (.getfield 0) 4 1 9 0, none, none, zi (.aconst_null) 5 0 0 0 (.int 0), zj (.invokestatic 0) 8 281 2 0, none, none, zj (.aload 0) 9 0 0 0, zj (.getfield 0) 12 1 10 0, none, none, zi (.aconst_null) 13 0 0 0 (.int 0), zj (.invokestatic 0) 16 281 2 0, none, none, zj (.aload 0) 17 0 0 0, zj (.getfield 0) 20 1 11 0, none, none, zi (.aconst_null) 21 0 0 0 (.int 0), zj (.invokestatic 0) 24 281 2 0, none, none, zj (.aload 0) 25 0 0 0, zj (.getfield 0) 28 1 12 0, none, none, zi (.aconst_null) 29 0 0 0 (.int 0), zj (.invokestatic 0) 32 281 2 0, none, none, zi (.aconst_null) 33 0 0 0 (.int 0), zj (.istore 3) 34 3 0 0, zj (.iload 3) 35 3 0 0, zj (.aload 0) 36 0 0 0, zj (.getfield 0) 39 1 8 0, none, none, zj (.if_icmp .ge 0) 42 166 0 0, none, none, zj (.aload 0) 43 0 0 0, zj (.getfield 0) 46 1 3 0, none, none, zj (.iload 3) 47 3 0 0, zj (.iaload) 48 0 0 0, zj (.iload 2) 49 2 0 0, zj (.if_icmp .gt 0) 52 160 0 0, none, none, zj (.aload 0) 53 0 0 0, zj (.getfield 0) 56 1 1 0, none, none, zj (.iload 3) 57 3 0 0, zj (.iaload) 58 0 0 0, zj (.iload 1) 59 1 0 0, zj (.if_icmp .ne 0) 62 66 0 0, none, none, zi (.aconst_null) 63 0 0 0 (.int 1), zj (.goto 0) 66 67 0 0, none, none, zi (.aconst_null) 67 0 0 0 (.int 0), zj (.istore 4) 69 4 0 0, none, zj (.aload 0) 70 0 0 0, zj (.getfield 0) 73 1 4 0, none, none, zj (.iload 3) 74 3 0 0, zj (.iaload) 75 0 0 0, zi (.aconst_null) 76 0 0 0 (.int 3), zj (.imul) 77 0 0 0, zj (.aload 0) 78 0 0 0, zj (.getfield 0) 81 1 5 0, none, none, zj (.iload 3) 82 3 0 0, zj (.iaload) 83 0 0 0, zi (.aconst_null) 85 0 0 0 (.int 50), none, zj (.idiv) 86 0 0 0, zi (.aconst_null) 87 0 0 0 (.int 2), none, none, none, zj (.iadd) 91 0 0 0, zj (.istore 5) 93 5 0 0, none, zj (.iload 4) 95 4 0 0, none, zj (.ifCond .eq 0) 98 105 0 0, none, none, zj (.aload 0) 99 0 0 0, zj (.getfield 0) 102 1 9 0, none, none, zj (.goto 0) 105 109 0 0, none, none, zj (.aload 0) 106 0 0 0, zj (.getfield 0) 109 1 11 0, none, none, zj (.astore 6) 111 6 0 0, none, zj (.iload 4) 113 4 0 0, none, zj (.ifCond .eq 0) 116 123 0 0, none, none, zj (.aload 0) 117 0 0 0, zj (.getfield 0) 120 1 10 0, none, none, zj (.goto 0) 123 127 0 0, none, none, zj (.aload 0) 124 0 0 0, zj (.getfield 0) 127 1 12 0, none, none, zj (.astore 7) 129 7 0 0, none, zj (.aload 6) 131 6 0 0, none, zj (.iload 5) 133 5 0 0, none, zj (.dup2) 134 0 0 0, zj (.iaload) 135 0 0 0, zi (.aconst_null) 136 0 0 0 (.int 1), zj (.iadd) 137 0 0 0, zj (.iastore) 138 0 0 0, zj (.aload 7) 140 7 0 0, none, zj (.iload 5) 142 5 0 0, none, zj (.dup2) 143 0 0 0, zj (.iaload) 144 0 0 0, zj (.aload 0) 145 0 0 0, zj (.getfield 0) 148 1 7 0, none, none, zj (.iload 3) 149 3 0 0, zj (.baload) 150 0 0 0, zj (.ifCond .eq 0) 153 157 0 0, none, none, zi (.aconst_null) 154 0 0 0 (.int 1), zj (.goto 0) 157 158 0 0, none, none, zi (.aconst_null) 158 0 0 0 (.int 0), zj (.iadd) 159 0 0 0, zj (.iastore) 160 0 0 0, zi (.iinc 3 1) 163 3 0 0 (.int 1), none, none, zj (.goto 0) 166 34 0 0, none, none, zj (.return_) 167 0 0 0]
noncomputable def pp_12 : List (List Nat) := [[], [2005], [], [], [], [4120], [], [], [], [2006], [], [], [], [4120], [], [], [], [2007], [], [], [], [4120], [], [], [], [2008], [], [], [], [4120], [], [], [], [], [], [], [2003], [], [], [], [], [], [], [1234], [], [], [], [], [], [], [], [], [], [1231], [], [], [], [], [], [], [], [], [], [], [], [], [], [], [], [], [1235], [], [], [], [], [], [], [], [1237], [], [], [], [], [], [], [], [], [], [], [], [], [], [], [], [], [], [], [], [], [2005], [], [], [], [], [], [], [2007], [], [], [], [], [], [], [], [], [], [], [2006], [], [], [], [], [], [], [2008], [], [], [], [], [], [], [], [], [], [], [], [], [], [], [], [], [], [], [], [], [2001], [], [], [], [], [], [], [], [], [], [], [], [], [], [], [], [], [], [], [], [], []]
noncomputable def cd_13 : zK := [zj (.lload 2) 1 2 0 0, zj (.lstore 4) 3 4 0 0, none, zj (.lload 0) 4 0 0 0, zj (.lstore 6) 6 6 0 0, none, zi (.aconst_null) 7 0 0 0 (.int 0), zj (.istore 8) 9 8 0 0, none, zj (.iload 8) 11 8 0 0, none, zi (.aconst_null) 14 0 0 0 (.int 200), none, none, zj (.if_icmp .ge 0) 17 45 0 0, none, none, zj (.lload 6) 19 6 0 0, none, zi (.aconst_null) 20 0 0 0 (.long 0), zj (.lcmp) 21 0 0 0, zj (.ifCond .le 0) 24 45 0 0, none, none, zj (.lload 4) 26 4 0 0, none, zj (.lload 6) 28 6 0 0, none, zj (.lrem) 29 0 0 0, zj (.lstore 9) 31 9 0 0, none, zj (.lload 6) 33 6 0 0, none, zj (.lstore 4) 35 4 0 0, none, zj (.lload 9) 37 9 0 0, none, zj (.lstore 6) 39 6 0 0, none, zi (.iinc 8 1) 42 8 0 0 (.int 1), none, none, zj (.goto 0) 45 9 0 0, none, none, zi (.aconst_null) 46 0 0 0 (.long 1), zj (.lload 4) 48 4 0 0, none, none, none, none, zj (.lreturn) 52 0 0 0]
noncomputable def pp_13 : List (List Nat) := [[], [], [], [], [], [], [], [], [], [], [], [], [], [], [], [], [], [], [], [], [], [], [], [], [], [], [], [], [], [], [], [], [], [], [], [], [], [], [], [], [], [], [], [], [], [], [], [], [], [], [], []]
noncomputable def cd_14 : zK := [zj (.aload 0) 1 0 0 0, zj (.pop2) 4 0 0 0, none, none, zj (.aload 0) 5 0 0 0, zi (.aconst_null) 7 0 0 0 (.int 60), none, zj (.newarray .int) 9 0 0 0, none, zj (.putfield 0) 12 2 0 0, none, none, zj (.aload 0) 13 0 0 0, zi (.aconst_null) 15 0 0 0 (.int 60), none, zj (.newarray .boolean) 17 0 0 0, none, zj (.putfield 0) 20 2 1 0, none, none, zj (.aload 0) 21 0 0 0, zi (.aconst_null) 24 0 0 0 (.int 300), none, none, zj (.anewarray 0) 27 5 0 0, none, none, zj (.putfield 0) 30 2 3 0, none, none, zj (.aload 0) 31 0 0 0, zi (.aconst_null) 34 0 0 0 (.int 400), none, none, zj (.newarray .int) 36 0 0 0, none, zj (.putfield 0) 39 2 5 0, none, none, zj (.aload 0) 40 0 0 0, zi (.aconst_null) 43 0 0 0 (.int 400), none, none, zj (.newarray .int) 45 0 0 0, none, zj (.putfield 0) 48 2 6 0, none, none, zj (.aload 0) 49 0 0 0, zi (.aconst_null) 52 0 0 0 (.int 400), none, none, zj (.newarray .int) 54 0 0 0, none, zj (.putfield 0) 57 2 7 0, none, none, zj (.aload 0) 58 0 0 0, zi (.aconst_null) 61 0 0 0 (.int 400), none, none, zj (.newarray .int) 63 0 0 0, none, zj (.putfield 0) 66 2 8 0, none, none, zj (.return_) 67 0 0 0]
noncomputable def pp_14 : List (List Nat) := [[], [1074, 1027, 1028], [], [], [], [], [], [1068], [], [1077], [], [], [], [], [], [1112], [], [1078], [], [], [], [], [], [], [1075, 1076], [], [], [1082], [], [], [], [], [], [], [1068], [], [1086], [], [], [], [], [], [], [1068], [], [1087], [], [], [], [], [], [], [1068], [], [1088], [], [], [], [], [], [], [1068], [], [1089], [], [], []]
noncomputable def cd_15 : zK := [zj (.iload 1) 1 1 0 0, zj (.ifCond .lt 0) 4 16 0 0, none, none, zj (.iload 1) 5 1 0 0, zj (.aload 0) 6 0 0 0, zj (.getfield 0) 9 2 2 0, none, none, zj (.if_icmp .ge 0) 12 16 0 0, none, none, zi (.aconst_null) 13 0 0 0 (.int 1), zj (.goto 0) 16 17 0 0, none, none, zi (.aconst_null) 17 0 0 0 (.int 0), zj (.ireturn) 18 0 0 0]
noncomputable def pp_15 : List (List Nat) := [[], [], [], [], [], [], [1080], [], [], [], [], [], [], [], [], [], [], []]
noncomputable def cd_16 : zK := [zj (.aload 0) 1 0 0 0, zj (.getfield 0) 4 2 2 0, none, none, zi (.aconst_null) 6 0 0 0 (.int 60), none, zj (.if_icmp .ne 0) 9 11 0 0, none, none, zi (.aconst_null) 10 0 0 0 (.int (-1)), zj (.ireturn) 11 0 0 0, zj (.aload 0) 12 0 0 0, zj (.getfield 0) 15 2 0 0, none, none, zj (.aload 0) 16 0 0 0, zj (.getfield 0) 19 2 2 0, none, none, zj (.iload 1) 20 1 0 0, zj (.iastore) 21 0 0 0, zj (.aload 0) 22 0 0 0, zj (.dup) 23 0 0 0, zj (.getfield 0) 26 2 2 0, none, none, zj (.dup_x1) 27 0 0 0, zi (.aconst_null) 28 0 0 0 (.int 1), zj (.iadd) 29 0 0 0, zj (.putfield 0) 32 2 2 0, none, none, zj (.ireturn) 33 0 0 0]
noncomputable def pp_16 : List (List Nat) := [[], [1080], [], [], [], [], [], [], [], [], [], [], [1077], [], [], [], [1080], [], [], [], [], [], [], [1080], [], [], [], [], [], [1080], [], [], []]
noncomputable def cd_17 : zK := [zj (.aload 0) 1 0 0 0, zj (.getfield 0) 4 2 1 0, none, none, zj (.iload 1) 5 1 0 0, zj (.baload) 6 0 0 0, zj (.iload 2) 7 2 0 0, zj (.if_icmp .ne 0) 10 12 0 0, none, none, zi (.aconst_null) 11 0 0 0 (.int 0), zj (.ireturn) 12 0 0 0, zj (.aload 0) 13 0 0 0, zj (.getfield 0) 16 2 1 0, none, none, zj (.iload 1) 17 1 0 0, zj (.iload 2) 18 2 0 0, zj (.bastore) 19 0 0 0, zi (.aconst_null) 20 0 0 0 (.int 1), zj (.ireturn) 21 0 0 0]
noncomputable def pp_17 : List (List Nat) := [[], [1078], [], [], [], [], [], [], [], [], [], [], [], [1078], [], [], [], [], [], [], []]
noncomputable def cd_18 : zK := [zi (.aconst_null) 1 0 0 0 (.long 0), zj (.lstore 2) 2 2 0 0, zi (.aconst_null) 3 0 0 0 (.int 0), zj (.istore 4) 5 4 0 0, none, zj (.iload 4) 7 4 0 0, none, zj (.aload 0) 8 0 0 0, zj (.getfield 0) 11 2 2 0, none, none, zj (.if_icmp .ge 0) 14 38 0 0, none, none, zj (.aload 0) 15 0 0 0, zj (.getfield 0) 18 2 0 0, none, none, zj (.iload 4) 20 4 0 0, none, zj (.iaload) 21 0 0 0, zj (.iload 1) 22 1 0 0, zj (.if_icmp .ne 0) 25 32 0 0, none, none, zj (.lload 2) 26 2 0 0, zi (.aconst_null) 27 0 0 0 (.long 1), zj (.iload 4) 29 4 0 0, none, zj (.lshl) 30 0 0 0, zj (.lor) 31 0 0 0, zj (.lstore 2) 32 2 0 0, zi (.iinc 4 1) 35 4 0 0 (.int 1), none, none, zj (.goto 0) 38 5 0 0, none, none, zj (.lload 2) 39 2 0 0, zj (.lreturn) 40 0 0 0]
noncomputable def pp_18 : List (List Nat) := [[], [], [], [], [], [], [], [], [1080], [], [], [], [], [], [], [1077], [], [], [], [], [], [], [], [], [], [], [], [], [], [], [], [], [], [], [], [], [], [], [], []]
noncomputable def cd_19 : zK := [zj (.iload 1) 1 1 0 0, zj (.ifCond .lt 0) 4 21 0 0, none, none, zj (.iload 1) 5 1 0 0, zj (.aload 0) 6 0 0 0, zj (.getfield 0) 9 2 4 0, none, none, zj (.if_icmp .ge 0) 12 21 0 0, none, none, zj (.aload 0) 13 0 0 0, zj (.getfield 0) 16 2 3 0, none, none, zj (.iload 1) 17 1 0 0, zj (.aaload) 18 0 0 0, zj (.goto 0) 21 22 0 0, none, none, zj (.aconst_null) 22 0 0 0, zj (.areturn) 23 0 0 0]
noncomputable def pp_19 : List (List Nat) := [[], [], [], [], [], [], [1083], [], [], [], [], [], [], [1082], [], [], [], [], [], [], [], [], []]
noncomputable def cd_20 : zK := [zj (.aload 0) 1 0 0 0, zj (.getfield 0) 4 2 4 0, none, none, zi (.aconst_null) 7 0 0 0 (.int 300), none, none, zj (.if_icmp .ne 0) 10 12 0 0, none, none, zi (.aconst_null) 11 0 0 0 (.int (-1)), zj (.ireturn) 12 0 0 0, zj (.aload 0) 13 0 0 0, zj (.getfield 0) 16 2 3 0, none, none, zj (.aload 0) 17 0 0 0, zj (.getfield 0) 20 2 4 0, none, none, zj (.new 0) 23 0 0 0, none, none, zj (.dup) 24 0 0 0, zj (.iload 1) 25 1 0 0, zj (.iload 2) 26 2 0 0, zj (.iload 3) 27 3 0 0, zj (.iload 4) 29 4 0 0, none, zj (.invokespecial 0) 32 0 4 0, none, none, none, zj (.aload 0) 34 0 0 0, zj (.dup) 35 0 0 0, zj (.getfield 0) 38 2 4 0, none, none, zj (.dup_x1) 39 0 0 0, zi (.aconst_null) 40 0 0 0 (.int 1), zj (.iadd) 41 0 0 0, zj (.putfield 0) 44 2 4 0, none, none, zj (.ireturn) 45 0 0 0]
noncomputable def pp_20 : List (List Nat) := [[], [1083], [], [], [], [], [], [], [], [], [], [], [], [1082], [], [], [], [1083], [], [], [1075, 3031, 1014], [], [], [], [], [], [], [], [], [3032], [], [], [], [], [], [1083], [], [], [], [], [], [1083], [], [], []]
noncomputable def cd_21 : zK := [zj (.aload 0) 1 0 0 0, zj (.iload 1) 2 1 0 0, zj (.invokevirtual 0) 5 19 1 2, none, none, zj (.astore 5) 7 5 0 0, none, zj (.aload 5) 9 5 0 0, none, zj (.ifnull 0) 12 22 0 0, none, none, zj (.aload 0) 13 0 0 0, zj (.getfield 0) 16 2 9 0, none, none, zi (.aconst_null) 19 0 0 0 (.int 400), none, none, zj (.if_icmp .ne 0) 22 24 0 0, none, none, zi (.aconst_null) 23 0 0 0 (.int 0), zj (.ireturn) 24 0 0 0, zj (.aload 0) 25 0 0 0, zj (.getfield 0) 28 2 5 0, none, none, zj (.aload 0) 29 0 0 0, zj (.getfield 0) 32 2 9 0, none, none, zj (.iload 1) 33 1 0 0, zj (.iastore) 34 0 0 0, zj (.aload 0) 35 0 0 0, zj (.getfield 0) 38 2 6 0, none, none, zj (.aload 0) 39 0 0 0, zj (.getfield 0) 42 2 9 0, none, none, zj (.iload 2) 43 2 0 0, zj (.iastore) 44 0 0 0, zj (.aload 0) 45 0 0 0, zj (.getfield 0) 48 2 7 0, none, none, zj (.aload 0) 49 0 0 0, zj (.getfield 0) 52 2 9 0, none, none, zj (.iload 3) 53 3 0 0, zj (.iastore) 54 0 0 0, zj (.aload 0) 55 0 0 0, zj (.getfield 0) 58 2 8 0, none, none, zj (.aload 0) 59 0 0 0, zj (.getfield 0) 62 2 9 0, none, none, zj (.iload 4) 64 4 0 0, none, zj (.iastore) 65 0 0 0, zj (.aload 0) 66 0 0 0, zj (.dup) 67 0 0 0, zj (.getfield 0) 70 2 9 0, none, none, zi (.aconst_null) 71 0 0 0 (.int 1), zj (.iadd) 72 0 0 0, zj (.putfield 0) 75 2 9 0, none, none, zj (.aload 5) 77 5 0 0, none, zj (.iload 2) 78 2 0 0, zj (.putfield 0) 81 0 4 0, none, none, zj (.aload 5) 83 5 0 0, none, zj (.iload 3) 84 3 0 0, zj (.putfield 0) 87 0 5 0, none, none, zi (.aconst_null) 88 0 0 0 (.int 1), zj (.ireturn) 89 0 0 0]
noncomputable def pp_21 : List (List Nat) := [[], [], [3099], [], [], [], [], [], [], [], [], [], [], [1090], [], [], [], [], [], [], [], [], [], [], [], [1086], [], [], [], [1090], [], [], [], [], [], [1087], [], [], [], [1090], [], [], [], [], [], [1088], [], [], [], [1090], [], [], [], [], [], [1089], [], [], [], [1090], [], [], [], [], [], [], [], [1090], [], [], [], [], [1090], [], [], [], [], [], [3051], [], [], [], [], [], [3054], [], [], [], []]
noncomputable def cd_22 : zK := [zj (.aload 0) 1 0 0 0, zj (.getfield 0) 4 2 9 0, none, none, zi (.aconst_null) 5 0 0 0 (.int 1), zj (.isub) 6 0 0 0, zj (.istore 4) 8 4 0 0, none, zj (.iload 4) 10 4 0 0, none, zj (.ifCond .lt 0) 13 60 0 0, none, none, zj (.aload 0) 14 0 0 0, zj (.getfield 0) 17 2 5 0, none, none, zj (.iload 4) 19 4 0 0, none, zj (.iaload) 20 0 0 0, zj (.iload 1) 21 1 0 0, zj (.if_icmp .ne 0) 24 54 0 0, none, none, zj (.aload 0) 25 0 0 0, zj (.getfield 0) 28 2 8 0, none, none, zj (.iload 4) 30 4 0 0, none, zj (.iaload) 31 0 0 0, zj (.iload 3) 32 3 0 0, zj (.if_icmp .gt 0) 35 54 0 0, none, none, zj (.aload 0) 36 0 0 0, zj (.getfield 0) 39 2 7 0, none, none, zj (.iload 4) 41 4 0 0, none, zj (.iaload) 42 0 0 0, zj (.iload 2) 43 2 0 0, zj (.if_icmp .gt 0) 46 54 0 0, none, none, zj (.aload 0) 47 0 0 0, zj (.getfield 0) 50 2 6 0, none, none, zj (.iload 4) 52 4 0 0, none, zj (.iaload) 53 0 0 0, zj (.ireturn) 54 0 0 0, zi (.iinc 4 (-1)) 57 4 0 0 (.int (-1)), none, none, zj (.goto 0) 60 8 0 0, none, none, zj (.aload 0) 61 0 0 0, zj (.iload 1) 62 1 0 0, zj (.invokevirtual 0) 65 19 1 2, none, none, zj (.astore 4) 67 4 0 0, none, zj (.aload 4) 69 4 0 0, none, zj (.ifnonnull 0) 72 76 0 0, none, none, zi (.aconst_null) 73 0 0 0 (.int (-1)), zj (.goto 0) 76 81 0 0, none, none, zj (.aload 4) 78 4 0 0, none, zj (.getfield 0) 81 0 3 0, none, none, zj (.ireturn) 82 0 0 0]
noncomputable def pp_22 : List (List Nat) := [[], [1090], [], [], [], [], [], [], [], [], [], [], [], [], [1086], [], [], [], [], [], [], [], [], [], [], [1089], [], [], [], [], [], [], [], [], [], [], [1088], [], [], [], [], [], [], [], [], [], [], [1087], [], [], [], [], [], [], [], [], [], [], [], [], [], [], [3099], [], [], [], [], [], [], [], [], [], [], [], [], [], [], [], [3048], [], [], []]
noncomputable def cd_23 : zK := [zj (.aload 2) 1 2 0 0, zi (.aconst_null) 2 0 0 0 (.int 0), zj (.invokestatic 0) 5 281 2 0, none, none, zi (.aconst_null) 6 0 0 0 (.int 0), zj (.istore 3) 7 3 0 0, zj (.iload 3) 8 3 0 0, zj (.aload 0) 9 0 0 0, zj (.getfield 0) 12 2 4 0, none, none, zj (.if_icmp .ge 0) 15 53 0 0, none, none, zj (.aload 0) 16 0 0 0, zj (.iload 3) 17 3 0 0, zj (.invokevirtual 0) 20 19 1 2, none, none, zj (.astore 4) 22 4 0 0, none, zj (.aload 4) 24 4 0 0, none, zj (.ifnull 0) 27 47 0 0, none, none, zj (.aload 4) 29 4 0 0, none, zj (.getfield 0) 32 0 0 0, none, none, zj (.iload 1) 33 1 0 0, zj (.if_icmp .ne 0) 36 47 0 0, none, none, zj (.aload 2) 37 2 0 0, zj (.aload 4) 39 4 0 0, none, zj (.getfield 0) 42 0 2 0, none, none, zj (.dup2) 43 0 0 0, zj (.iaload) 44 0 0 0, zi (.aconst_null) 45 0 0 0 (.int 1), zj (.iadd) 46 0 0 0, zj (.iastore) 47 0 0 0, zi (.iinc 3 1) 50 3 0 0 (.int 1), none, none, zj (.goto 0) 53 7 0 0, none, none, zj (.aload 2) 54 2 0 0, zj (.invokestatic 0) 57 169 1 0, none, none, zj (.return_) 58 0 0 0]
noncomputable def pp_23 : List (List Nat) := [[], [], [4112], [], [], [], [], [], [], [1083], [], [], [], [], [], [], [], [3099], [], [], [], [], [], [], [], [], [], [], [], [3039], [], [], [], [], [], [], [], [], [], [3045], [], [], [], [], [], [], [], [], [], [], [], [], [], [], [4113], [], [], []]
noncomputable def cd_24 : zK := [zj (.aload 0) 1 0 0 0, zj (.pop2) 4 0 0 0, none, none, zj (.aload 0) 5 0 0 0, zi (.aconst_null) 6 0 0 0 (.int 3), zj (.newarray .int) 8 0 0 0, none, zj (.putfield 0) 11 3 0 0, none, none, zj (.aload 0) 12 0 0 0, zi (.aconst_null) 14 0 0 0 (.int 8), none, zj (.newarray .int) 16 0 0 0, none, zj (.putfield 0) 19 3 1 0, none, none, zj (.aload 0) 20 0 0 0, zi (.aconst_null) 22 0 0 0 (.int 8), none, zi (.aconst_null) 23 0 0 0 (.int 3), zj (.multianewarray 0 0) 27 0 0 0, none, none, none, zj (.putfield 0) 30 3 2 0, none, none, zj (.aload 0) 31 0 0 0, zi (.aconst_null) 33 0 0 0 (.int 12), none, zj (.newarray .int) 35 0 0 0, none, zj (.putfield 0) 38 3 3 0, none, none, zj (.aload 0) 39 0 0 0, zi (.aconst_null) 41 0 0 0 (.int 12), none, zi (.aconst_null) 42 0 0 0 (.int 3), zj (.multianewarray 0 0) 46 0 0 0, none, none, none, zj (.putfield 0) 49 3 4 0, none, none, zj (.aload 0) 50 0 0 0, zi (.aconst_null) 52 0 0 0 (.int 8), none, zi (.aconst_null) 54 0 0 0 (.int 12), none, zj (.multianewarray 0 0) 58 0 0 0, none, none, none, zj (.putfield 0) 61 3 5 0, none, none, zj (.aload 0) 62 0 0 0, zj (.getfield 0) 65 3 0 0, none, none, zi (.aconst_null) 67 0 0 0 (.int 100), none, zj (.invokestatic 0) 70 281 2 0, none, none, zi (.aconst_null) 71 0 0 0 (.int 0), zj (.istore 1) 72 1 0 0, zj (.iload 1) 73 1 0 0, zi (.aconst_null) 75 0 0 0 (.int 8), none, zj (.if_icmp .ge 0) 78 96 0 0, none, none, zj (.aload 0) 79 0 0 0, zj (.getfield 0) 82 3 5 0, none, none, zj (.iload 1) 83 1 0 0, zj (.aaload) 84 0 0 0, zi (.aconst_null) 87 0 0 0 (.int 600), none, none, zj (.invokestatic 0) 90 281 2 0, none, none, zi (.iinc 1 1) 93 1 0 0 (.int 1), none, none, zj (.goto 0) 96 72 0 0, none, none, zj (.return_) 97 0 0 0]
noncomputable def pp_24 : List (List Nat) := [[], [1034, 1027, 1028], [], [], [], [], [1068], [], [1040], [], [], [], [], [], [1068], [], [1041], [], [], [], [], [], [], [1035, 1036, 1068], [], [], [], [1043], [], [], [], [], [], [1068], [], [1044], [], [], [], [], [], [], [1035, 1036, 1068], [], [], [], [1045], [], [], [], [], [], [], [], [1035, 1036, 1068], [], [], [], [1046], [], [], [], [1040], [], [], [], [], [1037], [], [], [], [], [], [], [], [], [], [], [], [1046], [], [], [], [], [], [], [], [1037], [], [], [], [], [], [], [], [], []]
noncomputable def cd_25 : zK := [zj (.iload 1) 1 1 0 0, zj (.ifCond .lt 0) 4 16 0 0, none, none, zj (.iload 1) 5 1 0 0, zj (.aload 0) 6 0 0 0, zj (.getfield 0) 9 3 6 0, none, none, zj (.if_icmp .ge 0) 12 16 0 0, none, none, zi (.aconst_null) 13 0 0 0 (.int 1), zj (.goto 0) 16 17 0 0, none, none, zi (.aconst_null) 17 0 0 0 (.int 0), zj (.ireturn) 18 0 0 0]
noncomputable def pp_25 : List (List Nat) := [[], [], [], [], [], [], [1047], [], [], [], [], [], [], [], [], [], [], []]
noncomputable def cd_26 : zK := [zj (.iload 1) 1 1 0 0, zj (.ifCond .lt 0) 4 16 0 0, none, none, zj (.iload 1) 5 1 0 0, zj (.aload 0) 6 0 0 0, zj (.getfield 0) 9 3 7 0, none, none, zj (.if_icmp .ge 0) 12 16 0 0, none, none, zi (.aconst_null) 13 0 0 0 (.int 1), zj (.goto 0) 16 17 0 0, none, none, zi (.aconst_null) 17 0 0 0 (.int 0), zj (.ireturn) 18 0 0 0]
noncomputable def pp_26 : List (List Nat) := [[], [], [], [], [], [], [1049], [], [], [], [], [], [], [], [], [], [], []]
noncomputable def cd_27 : zK := [zj (.aload 0) 1 0 0 0, zj (.getfield 0) 4 3 0 0, none, none, zj (.iload 1) 5 1 0 0, zj (.iaload) 6 0 0 0, zj (.istore 3) 7 3 0 0, zj (.aload 0) 8 0 0 0, zj (.getfield 0) 11 3 0 0, none, none, zj (.iload 1) 12 1 0 0, zj (.iload 2) 13 2 0 0, zj (.iastore) 14 0 0 0, zj (.iload 3) 15 3 0 0, zj (.ireturn) 16 0 0 0]
noncomputable def pp_27 : List (List Nat) := [[], [1040], [], [], [], [], [], [], [1040], [], [], [], [], [], [], []]
noncomputable def cd_28 : zK := [zj (.aload 0) 1 0 0 0, zj (.getfield 0) 4 3 6 0, none, none, zi (.aconst_null) 6 0 0 0 (.int 8), none, zj (.if_icmp .ne 0) 9 11 0 0, none, none, zi (.aconst_null) 10 0 0 0 (.int (-1)), zj (.ireturn) 11 0 0 0, zj (.aload 0) 12 0 0 0, zj (.getfield 0) 15 3 1 0, none, none, zj (.aload 0) 16 0 0 0, zj (.getfield 0) 19 3 6 0, none, none, zj (.iload 1) 20 1 0 0, zj (.iastore) 21 0 0 0, zj (.aload 0) 22 0 0 0, zj (.getfield 0) 25 3 2 0, none, none, zj (.aload 0) 26 0 0 0, zj (.getfield 0) 29 3 6 0, none, none, zj (.aaload) 30 0 0 0, zj (.iload 2) 31 2 0 0, zj (.iload 3) 32 3 0 0, zj (.iload 4) 34 4 0 0, none, zj (.invokestatic 0) 37 30 4 0, none, none, zj (.aload 0) 38 0 0 0, zj (.dup) 39 0 0 0, zj (.getfield 0) 42 3 6 0, none, none, zj (.dup_x1) 43 0 0 0, zi (.aconst_null) 44 0 0 0 (.int 1), zj (.iadd) 45 0 0 0, zj (.putfield 0) 48 3 6 0, none, none, zj (.ireturn) 49 0 0 0]
noncomputable def pp_28 : List (List Nat) := [[], [1047], [], [], [], [], [], [], [], [], [], [], [1041], [], [], [], [1047], [], [], [], [], [], [1043], [], [], [], [1047], [], [], [], [], [], [], [], [2232], [], [], [], [], [1047], [], [], [], [], [], [1047], [], [], []]
noncomputable def cd_29 : zK := [zj (.aload 0) 1 0 0 0, zj (.getfield 0) 4 3 7 0, none, none, zi (.aconst_null) 6 0 0 0 (.int 12), none, zj (.if_icmp .ne 0) 9 11 0 0, none, none, zi (.aconst_null) 10 0 0 0 (.int (-1)), zj (.ireturn) 11 0 0 0, zj (.aload 0) 12 0 0 0, zj (.getfield 0) 15 3 3 0, none, none, zj (.aload 0) 16 0 0 0, zj (.getfield 0) 19 3 7 0, none, none, zj (.iload 1) 20 1 0 0, zj (.iastore) 21 0 0 0, zj (.aload 0) 22 0 0 0, zj (.getfield 0) 25 3 4 0, none, none, zj (.aload 0) 26 0 0 0, zj (.getfield 0) 29 3 7 0, none, none, zj (.aaload) 30 0 0 0, zj (.iload 2) 31 2 0 0, zj (.iload 3) 32 3 0 0, zj (.iload 4) 34 4 0 0, none, zj (.invokestatic 0) 37 30 4 0, none, none, zj (.aload 0) 38 0 0 0, zj (.dup) 39 0 0 0, zj (.getfield 0) 42 3 7 0, none, none, zj (.dup_x1) 43 0 0 0, zi (.aconst_null) 44 0 0 0 (.int 1), zj (.iadd) 45 0 0 0, zj (.putfield 0) 48 3 7 0, none, none, zj (.ireturn) 49 0 0 0]
noncomputable def pp_29 : List (List Nat) := [[], [1049], [], [], [], [], [], [], [], [], [], [], [1044], [], [], [], [1049], [], [], [], [], [], [1045], [], [], [], [1049], [], [], [], [], [], [], [], [2232], [], [], [], [], [1049], [], [], [], [], [], [1049], [], [], []]
noncomputable def cd_30 : zK := [zj (.aload 0) 1 0 0 0, zi (.aconst_null) 2 0 0 0 (.int 0), zj (.iload 1) 3 1 0 0, zj (.iastore) 4 0 0 0, zj (.aload 0) 5 0 0 0, zi (.aconst_null) 6 0 0 0 (.int 1), zj (.iload 2) 7 2 0 0, zj (.iastore) 8 0 0 0, zj (.aload 0) 9 0 0 0, zi (.aconst_null) 10 0 0 0 (.int 2), zj (.iload 3) 11 3 0 0, zj (.iastore) 12 0 0 0, zj (.return_) 13 0 0 0]
noncomputable def pp_30 : List (List Nat) := [[], [], [], [], [], [], [], [], [], [], [], [], []]
noncomputable def cd_31 : zK := [zj (.aload 0) 1 0 0 0, zj (.getfield 0) 4 3 5 0, none, none, zj (.iload 1) 5 1 0 0, zj (.aaload) 6 0 0 0, zj (.iload 2) 7 2 0 0, zj (.iaload) 8 0 0 0, zj (.iload 3) 9 3 0 0, zj (.if_icmp .gt 0) 12 14 0 0, none, none, zi (.aconst_null) 13 0 0 0 (.int 0), zj (.ireturn) 14 0 0 0, zj (.aload 0) 15 0 0 0, zj (.getfield 0) 18 3 5 0, none, none, zj (.iload 1) 19 1 0 0, zj (.aaload) 20 0 0 0, zj (.iload 2) 21 2 0 0, zj (.iload 3) 22 3 0 0, zj (.iastore) 23 0 0 0, zi (.aconst_null) 24 0 0 0 (.int 1), zj (.ireturn) 25 0 0 0]
noncomputable def pp_31 : List (List Nat) := [[], [1046], [], [], [], [], [], [], [], [], [], [], [], [], [], [1046], [], [], [], [], [], [], [], [], []]
noncomputable def cd_32 : zK := [zi (.aconst_null) 1 0 0 0 (.int 0), zj (.istore 3) 2 3 0 0, zi (.aconst_null) 3 0 0 0 (.int 0), zj (.istore 4) 5 4 0 0, none, zj (.iload 4) 7 4 0 0, none, zj (.aload 0) 8 0 0 0, zj (.getfield 0) 11 3 7 0, none, none, zj (.if_icmp .ge 0) 14 40 0 0, none, none, zj (.aload 0) 15 0 0 0, zj (.getfield 0) 18 3 5 0, none, none, zj (.iload 1) 19 1 0 0, zj (.aaload) 20 0 0 0, zj (.iload 4) 22 4 0 0, none, zj (.iaload) 23 0 0 0, zj (.iload 2) 24 2 0 0, zj (.if_icmp .gt 0) 27 34 0 0, none, none, zj (.iload 3) 28 3 0 0, zi (.aconst_null) 29 0 0 0 (.int 1), zj (.iload 4) 31 4 0 0, none, zj (.ishl) 32 0 0 0, zj (.ior) 33 0 0 0, zj (.istore 3) 34 3 0 0, zi (.iinc 4 1) 37 4 0 0 (.int 1), none, none, zj (.goto 0) 40 5 0 0, none, none, zj (.iload 3) 41 3 0 0, zj (.ireturn) 42 0 0 0]
noncomputable def pp_32 : List (List Nat) := [[], [], [], [], [], [], [], [], [1049], [], [], [], [], [], [], [1046], [], [], [], [], [], [], [], [], [], [], [], [], [], [], [], [], [], [], [], [], [], [], [], [], [], []]
noncomputable def cd_33 : zK := [zj (.iload 2) 1 2 0 0, zj (.iload 2) 2 2 0 0, zj (.imul) 3 0 0 0, zj (.aload 0) 4 0 0 0, zj (.getfield 0) 7 3 0 0, none, none, zj (.iload 1) 8 1 0 0, zj (.iaload) 9 0 0 0, zj (.imul) 10 0 0 0, zi (.aconst_null) 12 0 0 0 (.int 100), none, zj (.idiv) 13 0 0 0, zj (.ireturn) 14 0 0 0]
noncomputable def pp_33 : List (List Nat) := [[], [], [], [], [1040], [], [], [], [], [], [], [], [], []]
noncomputable def cd_34 : zK := [zj (.aload 0) 1 0 0 0, zj (.getfield 0) 4 3 2 0, none, none, zj (.iload 1) 5 1 0 0, zj (.aaload) 6 0 0 0, zj (.iload 3) 7 3 0 0, zj (.iaload) 8 0 0 0, zj (.istore 5) 10 5 0 0, none, zi (.aconst_null) 11 0 0 0 (.int 0), zj (.istore 6) 13 6 0 0, none, zj (.iload 6) 15 6 0 0, none, zj (.aload 0) 16 0 0 0, zj (.getfield 0) 19 3 7 0, none, none, zj (.if_icmp .ge 0) 22 52 0 0, none, none, zj (.iload 2) 23 2 0 0, zj (.iload 6) 25 6 0 0, none, zj (.ishr) 26 0 0 0, zi (.aconst_null) 27 0 0 0 (.int 1), zj (.iand) 28 0 0 0, zi (.aconst_null) 29 0 0 0 (.int 1), zj (.if_icmp .ne 0) 32 46 0 0, none, none, zj (.iload 5) 34 5 0 0, none, zj (.aload 0) 35 0 0 0, zj (.getfield 0) 38 3 4 0, none, none, zj (.iload 6) 40 6 0 0, none, zj (.aaload) 41 0 0 0, zj (.iload 3) 42 3 0 0, zj (.iaload) 43 0 0 0, zj (.iadd) 44 0 0 0, zj (.istore 5) 46 5 0 0, none, zi (.iinc 6 1) 49 6 0 0 (.int 1), none, none, zj (.goto 0) 52 13 0 0, none, none, zj (.aload 0) 53 0 0 0, zj (.iload 3) 54 3 0 0, zj (.iload 4) 56 4 0 0, none, zj (.invokevirtual 0) 59 33 2 3, none, none, zj (.iload 5) 61 5 0 0, none, zj (.if_icmp .le 0) 64 68 0 0, none, none, zi (.aconst_null) 65 0 0 0 (.int 1), zj (.goto 0) 68 69 0 0, none, none, zi (.aconst_null) 69 0 0 0 (.int 0), zj (.ireturn) 70 0 0 0]
noncomputable def pp_34 : List (List Nat) := [[], [1043], [], [], [], [], [], [], [], [], [], [], [], [], [], [], [1049], [], [], [], [], [], [], [], [], [], [], [], [], [], [], [], [], [], [], [1045], [], [], [], [], [], [], [], [], [], [], [], [], [], [], [], [], [], [], [], [], [3143], [], [], [], [], [], [], [], [], [], [], [], [], []]
noncomputable def cd_35 : zK := [zi (.aconst_null) 1 0 0 0 (.int (-1)), zj (.istore 5) 3 5 0 0, none, zi (.aconst_null) 4 0 0 0 (.int 0), zj (.istore 6) 6 6 0 0, none, zj (.iload 6) 8 6 0 0, none, zj (.aload 0) 9 0 0 0, zj (.getfield 0) 12 3 7 0, none, none, zj (.if_icmp .ge 0) 15 77 0 0, none, none, zj (.iload 5) 17 5 0 0, none, zi (.aconst_null) 18 0 0 0 (.int (-1)), zj (.if_icmp .eq 0) 21 33 0 0, none, none, zj (.aload 0) 22 0 0 0, zj (.getfield 0) 25 3 3 0, none, none, zj (.iload 6) 27 6 0 0, none, zj (.iaload) 28 0 0 0, zj (.iload 5) 30 5 0 0, none, zj (.if_icmp .ge 0) 33 37 0 0, none, none, zi (.aconst_null) 34 0 0 0 (.int 1), zj (.goto 0) 37 38 0 0, none, none, zi (.aconst_null) 38 0 0 0 (.int 0), zj (.istore 7) 40 7 0 0, none, zj (.iload 7) 42 7 0 0, none, zj (.ifCond .eq 0) 45 71 0 0, none, none, zj (.aload 0) 46 0 0 0, zj (.iload 1) 47 1 0 0, zj (.iload 2) 48 2 0 0, zi (.aconst_null) 49 0 0 0 (.int 1), zj (.iload 6) 51 6 0 0, none, zj (.ishl) 52 0 0 0, zj (.ior) 53 0 0 0, zj (.iload 3) 54 3 0 0, zj (.iload 4) 56 4 0 0, none, zj (.invokevirtual 0) 59 34 4 3, none, none, zj (.ifCond .ne 0) 62 71 0 0, none, none, zj (.aload 0) 63 0 0 0, zj (.getfield 0) 66 3 3 0, none, none, zj (.iload 6) 68 6 0 0, none, zj (.iaload) 69 0 0 0, zj (.istore 5) 71 5 0 0, none, zi (.iinc 6 1) 74 6 0 0 (.int 1), none, none, zj (.goto 0) 77 6 0 0, none, none, zj (.iload 5) 79 5 0 0, none, zi (.aconst_null) 80 0 0 0 (.int (-1)), zj (.if_icmp .ne 0) 83 87 0 0, none, none, zi (.aconst_null) 84 0 0 0 (.int 0), zj (.goto 0) 87 89 0 0, none, none, zj (.iload 5) 89 5 0 0, none, zj (.ireturn) 90 0 0 0]
noncomputable def pp_35 : List (List Nat) := [[], [], [], [], [], [], [], [], [], [1049], [], [], [], [], [], [], [], [], [], [], [], [], [1044], [], [], [], [], [], [], [], [], [], [], [], [], [], [], [], [], [], [], [], [], [], [], [], [], [], [], [], [], [], [], [], [], [], [5236], [], [], [], [], [], [], [1044], [], [], [], [], [], [], [], [], [], [], [], [], [], [], [], [], [], [], [], [], [], [], [], [], [], []]
noncomputable def cd_36 : zK := [zj (.aload 0) 1 0 0 0, zj (.pop2) 4 0 0 0, none, none, zj (.aload 0) 5 0 0 0, zi (.aconst_null) 7 0 0 0 (.int 20), none, zj (.newarray .int) 9 0 0 0, none, zj (.putfield 0) 12 4 1 0, none, none, zj (.aload 0) 13 0 0 0, zi (.aconst_null) 15 0 0 0 (.int 120), none, zj (.newarray .boolean) 17 0 0 0, none, zj (.putfield 0) 20 4 2 0, none, none, zj (.aload 0) 21 0 0 0, zi (.aconst_null) 23 0 0 0 (.int 120), none, zj (.newarray .int) 25 0 0 0, none, zj (.putfield 0) 28 4 3 0, none, none, zj (.aload 0) 29 0 0 0, zi (.aconst_null) 31 0 0 0 (.int 120), none, zj (.newarray .int) 33 0 0 0, none, zj (.putfield 0) 36 4 4 0, none, none, zj (.return_) 37 0 0 0]
noncomputable def pp_36 : List (List Nat) := [[], [2041, 1027, 1028], [], [], [], [], [], [1068], [], [2044], [], [], [], [], [], [1112], [], [2045], [], [], [], [], [], [1068], [], [2046], [], [], [], [], [], [1068], [], [2047], [], [], []]
noncomputable def cd_37 : zK := [zj (.iload 1) 1 1 0 0, zj (.ifCond .lt 0) 4 16 0 0, none, none, zj (.iload 1) 5 1 0 0, zj (.aload 0) 6 0 0 0, zj (.getfield 0) 9 4 0 0, none, none, zj (.if_icmp .ge 0) 12 16 0 0, none, none, zi (.aconst_null) 13 0 0 0 (.int 1), zj (.goto 0) 16 17 0 0, none, none, zi (.aconst_null) 17 0 0 0 (.int 0), zj (.ireturn) 18 0 0 0]
noncomputable def pp_37 : List (List Nat) := [[], [], [], [], [], [], [2042], [], [], [], [], [], [], [], [], [], [], []]
noncomputable def cd_38 : zK := [zj (.iload 2) 1 2 0 0, zj (.ifCond .lt 0) 4 18 0 0, none, none, zj (.iload 2) 5 2 0 0, zj (.aload 0) 6 0 0 0, zj (.getfield 0) 9 4 1 0, none, none, zj (.iload 1) 10 1 0 0, zj (.iaload) 11 0 0 0, zj (.if_icmp .ge 0) 14 18 0 0, none, none, zi (.aconst_null) 15 0 0 0 (.int 1), zj (.goto 0) 18 19 0 0, none, none, zi (.aconst_null) 19 0 0 0 (.int 0), zj (.ireturn) 20 0 0 0]
noncomputable def pp_38 : List (List Nat) := [[], [], [], [], [], [], [2044], [], [], [], [], [], [], [], [], [], [], [], [], []]
noncomputable def cd_39 : zK := [zj (.aload 0) 1 0 0 0, zj (.getfield 0) 4 4 0 0, none, none, zi (.aconst_null) 6 0 0 0 (.int 20), none, zj (.if_icmp .ne 0) 9 13 0 0, none, none, zi (.aconst_null) 10 0 0 0 (.int (-1)), zj (.goto 0) 13 24 0 0, none, none, zj (.aload 0) 14 0 0 0, zj (.dup) 15 0 0 0, zj (.getfield 0) 18 4 0 0, none, none, zj (.dup_x1) 19 0 0 0, zi (.aconst_null) 20 0 0 0 (.int 1), zj (.iadd) 21 0 0 0, zj (.putfield 0) 24 4 0 0, none, none, zj (.ireturn) 25 0 0 0]
noncomputable def pp_39 : List (List Nat) := [[], [2042], [], [], [], [], [], [], [], [], [], [], [], [], [], [2042], [], [], [], [], [], [2042], [], [], []]
noncomputable def cd_40 : zK := [zj (.aload 0) 1 0 0 0, zj (.getfield 0) 4 4 1 0, none, none, zj (.iload 1) 5 1 0 0, zj (.iaload) 6 0 0 0, zj (.istore 5) 8 5 0 0, none, zj (.iload 5) 10 5 0 0, none, zi (.aconst_null) 12 0 0 0 (.int 6), none, zj (.if_icmp .ne 0) 15 17 0 0, none, none, zi (.aconst_null) 16 0 0 0 (.int (-1)), zj (.ireturn) 17 0 0 0, zj (.iload 1) 18 1 0 0, zi (.aconst_null) 20 0 0 0 (.int 6), none, zj (.imul) 21 0 0 0, zj (.iload 5) 23 5 0 0, none, zj (.iadd) 24 0 0 0, zj (.istore 6) 26 6 0 0, none, zj (.aload 0) 27 0 0 0, zj (.getfield 0) 30 4 2 0, none, none, zj (.iload 6) 32 6 0 0, none, zj (.iload 2) 33 2 0 0, zj (.bastore) 34 0 0 0, zj (.aload 0) 35 0 0 0, zj (.getfield 0) 38 4 3 0, none, none, zj (.iload 6) 40 6 0 0, none, zj (.iload 3) 41 3 0 0, zj (.iastore) 42 0 0 0, zj (.aload 0) 43 0 0 0, zj (.getfield 0) 46 4 4 0, none, none, zj (.iload 6) 48 6 0 0, none, zj (.iload 4) 50 4 0 0, none, zj (.iastore) 51 0 0 0, zj (.aload 0) 52 0 0 0, zj (.getfield 0) 55 4 1 0, none, none, zj (.iload 1) 56 1 0 0, zj (.dup2) 57 0 0 0, zj (.iaload) 58 0 0 0, zi (.aconst_null) 59 0 0 0 (.int 1), zj (.iadd) 60 0 0 0, zj (.iastore) 61 0 0 0, zj (.iload 5) 63 5 0 0, none, zj (.ireturn) 64 0 0 0]
noncomputable def pp_40 : List (List Nat) := [[], [2044], [], [], [], [], [], [], [], [], [], [], [], [], [], [], [], [], [], [], [], [], [], [], [], [], [], [2045], [], [], [], [], [], [], [], [2046], [], [], [], [], [], [], [], [2047], [], [], [], [], [], [], [], [], [2044], [], [], [], [], [], [], [], [], [], [], []]
noncomputable def cd_41 : zK := [zj (.aload 0) 1 0 0 0, zj (.iload 1) 2 1 0 0, zj (.iload 1) 3 1 0 0, zi (.aconst_null) 4 0 0 0 (.int 0), zj (.invokevirtual 0) 7 42 3 4, none, none, zj (.lreturn) 8 0 0 0]
noncomputable def pp_41 : List (List Nat) := [[], [], [], [], [5058], [], [], []]
noncomputable def cd_42 : zK := [zi (.aconst_null) 1 0 0 0 (.long 0), zj (.lstore 4) 3 4 0 0, none, zi (.aconst_null) 4 0 0 0 (.int 0), zj (.istore 6) 6 6 0 0, none, zj (.iload 6) 8 6 0 0, none, zj (.aload 0) 9 0 0 0, zj (.getfield 0) 12 4 1 0, none, none, zj (.iload 1) 13 1 0 0, zj (.iaload) 14 0 0 0, zj (.if_icmp .ge 0) 17 116 0 0, none, none, zj (.iload 1) 18 1 0 0, zi (.aconst_null) 20 0 0 0 (.int 6), none, zj (.imul) 21 0 0 0, zj (.iload 6) 23 6 0 0, none, zj (.iadd) 24 0 0 0, zj (.istore 7) 26 7 0 0, none, zj (.iload 3) 27 3 0 0, zj (.iload 6) 29 6 0 0, none, zj (.ishr) 30 0 0 0, zi (.aconst_null) 31 0 0 0 (.int 1), zj (.iand) 32 0 0 0, zi (.aconst_null) 33 0 0 0 (.int 1), zj (.if_icmp .ne 0) 36 50 0 0, none, none, zj (.aload 0) 37 0 0 0, zj (.iload 2) 38 2 0 0, zj (.iload 6) 40 6 0 0, none, zj (.invokevirtual 0) 43 38 2 4, none, none, zj (.ifCond .eq 0) 46 50 0 0, none, none, zi (.aconst_null) 47 0 0 0 (.int 1), zj (.goto 0) 50 51 0 0, none, none, zi (.aconst_null) 51 0 0 0 (.int 0), zj (.istore 8) 53 8 0 0, none, zj (.aload 0) 54 0 0 0, zj (.getfield 0) 57 4 3 0, none, none, zj (.iload 7) 59 7 0 0, none, zj (.iaload) 60 0 0 0, zj (.i2l) 61 0 0 0, zj (.aload 0) 62 0 0 0, zj (.getfield 0) 65 4 4 0, none, none, zj (.iload 8) 67 8 0 0, none, zj (.ifCond .eq 0) 70 80 0 0, none, none, zj (.iload 2) 71 2 0 0, zi (.aconst_null) 73 0 0 0 (.int 6), none, zj (.imul) 74 0 0 0, zj (.iload 6) 76 6 0 0, none, zj (.iadd) 77 0 0 0, zj (.goto 0) 80 82 0 0, none, none, zj (.iload 7) 82 7 0 0, none, zj (.iaload) 83 0 0 0, zj (.i2l) 84 0 0 0, zj (.lmul) 85 0 0 0, zj (.lstore 9) 87 9 0 0, none, zj (.lload 4) 89 4 0 0, none, zj (.aload 0) 90 0 0 0, zj (.getfield 0) 93 4 2 0, none, none, zj (.iload 7) 95 7 0 0, none, zj (.baload) 96 0 0 0, zj (.ifCond .eq 0) 99 104 0 0, none, none, zj (.lload 9) 101 9 0 0, none, zj (.goto 0) 104 107 0 0, none, none, zj (.lload 9) 106 9 0 0, none, zj (.lneg) 107 0 0 0, zj (.ladd) 108 0 0 0, zj (.lstore 4) 110 4 0 0, none, zi (.iinc 6 1) 113 6 0 0 (.int 1), none, none, zj (.goto 0) 116 6 0 0, none, none, zj (.lload 4) 118 4 0 0, none, zj (.lreturn) 119 0 0 0]
noncomputable def pp_42 : List (List Nat) := [[], [], [], [], [], [], [], [], [], [2044], [], [], [], [], [], [], [], [], [], [], [], [], [], [], [], [], [], [], [], [], [], [], [], [], [], [], [], [], [], [], [5062], [], [], [], [], [], [], [], [], [], [], [], [], [], [2046], [], [], [], [], [], [], [], [2047], [], [], [], [], [], [], [], [], [], [], [], [], [], [], [], [], [], [], [], [], [], [], [], [], [], [], [], [2045], [], [], [], [], [], [], [], [], [], [], [], [], [], [], [], [], [], [], [], [], [], [], [], [], [], [], [], []]
noncomputable def cd_43 : zK := [zj (.iload 1) 1 1 0 0, zi (.aconst_null) 3 0 0 0 (.int 6), none, zj (.imul) 4 0 0 0, zj (.iload 2) 5 2 0 0, zj (.iadd) 6 0 0 0, zj (.istore 4) 8 4 0 0, none, zj (.iload 3) 9 3 0 0, zj (.ifCond .eq 0) 12 23 0 0, none, none, zj (.aload 0) 13 0 0 0, zj (.getfield 0) 16 4 4 0, none, none, zj (.iload 4) 18 4 0 0, none, zj (.iaload) 19 0 0 0, zj (.i2l) 20 0 0 0, zj (.goto 0) 23 31 0 0, none, none, zj (.aload 0) 24 0 0 0, zj (.getfield 0) 27 4 3 0, none, none, zj (.iload 4) 29 4 0 0, none, zj (.iaload) 30 0 0 0, zj (.i2l) 31 0 0 0, zj (.lstore 5) 33 5 0 0, none, zj (.lload 5) 35 5 0 0, none, zi (.aconst_null) 36 0 0 0 (.long 0), zj (.lcmp) 37 0 0 0, zj (.ifCond .ne 0) 40 44 0 0, none, none, zi (.aconst_null) 43 0 0 0 (.long (-1)), none, none, zj (.lreturn) 44 0 0 0, zj (.aload 0) 45 0 0 0, zj (.iload 1) 46 1 0 0, zj (.invokevirtual 0) 49 41 1 4, none, none, zj (.lstore 7) 51 7 0 0, none, zj (.aload 0) 52 0 0 0, zj (.getfield 0) 55 4 3 0, none, none, zj (.iload 4) 57 4 0 0, none, zj (.iaload) 58 0 0 0, zj (.i2l) 59 0 0 0, zj (.aload 0) 60 0 0 0, zj (.getfield 0) 63 4 4 0, none, none, zj (.iload 4) 65 4 0 0, none, zj (.iaload) 66 0 0 0, zj (.i2l) 67 0 0 0, zj (.lmul) 68 0 0 0, zj (.lstore 9) 70 9 0 0, none, zj (.aload 0) 71 0 0 0, zj (.getfield 0) 74 4 2 0, none, none, zj (.iload 4) 76 4 0 0, none, zj (.baload) 77 0 0 0, zj (.ifCond .eq 0) 80 115 0 0, none, none, zj (.lload 9) 82 9 0 0, none, zj (.lload 7) 84 7 0 0, none, zj (.lsub) 85 0 0 0, zj (.lload 5) 87 5 0 0, none, none, none, none, zj (.lstore 11) 92 11 0 0, none, zj (.lload 7) 94 7 0 0, none, zi (.aconst_null) 95 0 0 0 (.long 0), zj (.lcmp) 96 0 0 0, zj (.ifCond .le 0) 99 110 0 0, none, none, zi (.aconst_null) 102 0 0 0 (.long (-1)), none, none, zj (.lload 11) 104 11 0 0, none, none, none, none, zj (.goto 0) 110 114 0 0, none, none, zj (.lload 11) 112 11 0 0, none, zi (.aconst_null) 113 0 0 0 (.long 1), zj (.ladd) 114 0 0 0, zj (.lreturn) 115 0 0 0, zj (.lload 7) 117 7 0 0, none, zj (.lload 9) 119 9 0 0, none, zj (.ladd) 120 0 0 0, zj (.lneg) 121 0 0 0, zj (.lload 5) 123 5 0 0, none, none, none, none, zj (.lneg) 127 0 0 0, zj (.lstore 11) 129 11 0 0, none, zj (.lload 7) 131 7 0 0, none, zi (.aconst_null) 132 0 0 0 (.long 0), zj (.lcmp) 133 0 0 0, zj (.ifCond .le 0) 136 141 0 0, none, none, zj (.lload 11) 138 11 0 0, none, zj (.goto 0) 141 151 0 0, none, none, zi (.aconst_null) 144 0 0 0 (.long (-1)), none, none, zj (.lload 11) 146 11 0 0, none, zi (.aconst_null) 147 0 0 0 (.long 1), zj (.lsub) 148 0 0 0, none, none, none, zj (.lreturn) 152 0 0 0]
noncomputable def pp_43 : List (List Nat) := [[], [], [], [], [], [], [], [], [], [], [], [], [], [2047], [], [], [], [], [], [], [], [], [], [], [2046], [], [], [], [], [], [], [], [], [], [], [], [], [], [], [], [5076], [], [], [], [], [], [5077], [], [], [], [], [], [2046], [], [], [], [], [], [], [], [2047], [], [], [], [], [], [], [], [], [], [], [2045], [], [], [], [], [], [], [], [], [], [], [], [], [], [], [], [], [], [], [], [], [], [], [], [], [], [], [], [5076], [], [], [], [], [], [], [], [], [], [], [], [], [], [], [], [], [], [], [], [], [], [], [], [], [], [], [], [], [], [], [], [], [], [], [], [], [], [], [], [], [], [5076], [], [], [], [], [], [], [], [], [], []]
noncomputable def cd_44 : zK := [zj (.aload 0) 1 0 0 0, zj (.pop2) 4 0 0 0, none, none, zj (.aload 0) 5 0 0 0, zi (.aconst_null) 7 0 0 0 (.int 24), none, zj (.newarray .int) 9 0 0 0, none, zj (.putfield 0) 12 5 0 0, none, none, zj (.aload 0) 13 0 0 0, zi (.aconst_null) 15 0 0 0 (.int 24), none, zj (.newarray .int) 17 0 0 0, none, zj (.putfield 0) 20 5 1 0, none, none, zj (.aload 0) 21 0 0 0, zi (.aconst_null) 23 0 0 0 (.int 24), none, zj (.newarray .int) 25 0 0 0, none, zj (.putfield 0) 28 5 2 0, none, none, zj (.aload 0) 29 0 0 0, zi (.aconst_null) 31 0 0 0 (.int 24), none, zj (.newarray .int) 33 0 0 0, none, zj (.putfield 0) 36 5 3 0, none, none, zj (.aload 0) 37 0 0 0, zi (.aconst_null) 39 0 0 0 (.int 24), none, zj (.newarray .int) 41 0 0 0, none, zj (.putfield 0) 44 5 4 0, none, none, zj (.aload 0) 45 0 0 0, zi (.aconst_null) 47 0 0 0 (.int 24), none, zj (.newarray .int) 49 0 0 0, none, zj (.putfield 0) 52 5 5 0, none, none, zj (.aload 0) 53 0 0 0, zi (.aconst_null) 55 0 0 0 (.int 24), none, zj (.newarray .int) 57 0 0 0, none, zj (.putfield 0) 60 5 6 0, none, none, zj (.return_) 61 0 0 0]
noncomputable def pp_44 : List (List Nat) := [[], [2064, 1027, 1028], [], [], [], [], [], [1068], [], [2065], [], [], [], [], [], [1068], [], [2066], [], [], [], [], [], [1068], [], [2067], [], [], [], [], [], [1068], [], [2068], [], [], [], [], [], [1068], [], [2069], [], [], [], [], [], [1068], [], [2071], [], [], [], [], [], [1068], [], [2073], [], [], []]
noncomputable def cd_45 : zK := [zj (.iload 1) 1 1 0 0, zj (.ifCond .lt 0) 4 16 0 0, none, none, zj (.iload 1) 5 1 0 0, zj (.aload 0) 6 0 0 0, zj (.getfield 0) 9 5 7 0, none, none, zj (.if_icmp .ge 0) 12 16 0 0, none, none, zi (.aconst_null) 13 0 0 0 (.int 1), zj (.goto 0) 16 17 0 0, none, none, zi (.aconst_null) 17 0 0 0 (.int 0), zj (.ireturn) 18 0 0 0]
noncomputable def pp_45 : List (List Nat) := [[], [], [], [], [], [], [2074], [], [], [], [], [], [], [], [], [], [], []]
noncomputable def cd_46 : zK := [zj (.iload 1) 1 1 0 0, zj (.ifCond .lt 0) 4 17 0 0, none, none, zj (.iload 1) 5 1 0 0, zj (.aload 0) 6 0 0 0, zj (.getfield 0) 9 5 7 0, none, none, zj (.ishr) 10 0 0 0, zj (.ifCond .ne 0) 13 17 0 0, none, none, zi (.aconst_null) 14 0 0 0 (.int 1), zj (.goto 0) 17 18 0 0, none, none, zi (.aconst_null) 18 0 0 0 (.int 0), zj (.ireturn) 19 0 0 0]
noncomputable def pp_46 : List (List Nat) := [[], [], [], [], [], [], [2074], [], [], [], [], [], [], [], [], [], [], [], []]
noncomputable def cd_47 : zK := [zj (.aload 0) 1 0 0 0, zj (.getfield 0) 4 5 7 0, none, none, zi (.aconst_null) 6 0 0 0 (.int 24), none, zj (.if_icmp .ne 0) 9 11 0 0, none, none, zi (.aconst_null) 10 0 0 0 (.int (-1)), zj (.ireturn) 11 0 0 0, zj (.aload 0) 12 0 0 0, zj (.getfield 0) 15 5 0 0, none, none, zj (.aload 0) 16 0 0 0, zj (.getfield 0) 19 5 7 0, none, none, zj (.iload 1) 20 1 0 0, zj (.iastore) 21 0 0 0, zj (.aload 0) 22 0 0 0, zj (.getfield 0) 25 5 1 0, none, none, zj (.aload 0) 26 0 0 0, zj (.getfield 0) 29 5 7 0, none, none, zj (.iload 2) 30 2 0 0, zj (.iastore) 31 0 0 0, zj (.aload 0) 32 0 0 0, zj (.getfield 0) 35 5 2 0, none, none, zj (.aload 0) 36 0 0 0, zj (.getfield 0) 39 5 7 0, none, none, zj (.iload 3) 40 3 0 0, zj (.iastore) 41 0 0 0, zj (.aload 0) 42 0 0 0, zj (.getfield 0) 45 5 3 0, none, none, zj (.aload 0) 46 0 0 0, zj (.getfield 0) 49 5 7 0, none, none, zj (.iload 4) 51 4 0 0, none, zj (.iastore) 52 0 0 0, zj (.aload 0) 53 0 0 0, zj (.getfield 0) 56 5 4 0, none, none, zj (.aload 0) 57 0 0 0, zj (.getfield 0) 60 5 7 0, none, none, zj (.aload 0) 61 0 0 0, zj (.aload 0) 62 0 0 0, zj (.getfield 0) 65 5 7 0, none, none, zj (.aload 0) 66 0 0 0, zj (.getfield 0) 69 5 5 0, none, none, zj (.invokevirtual 0) 72 48 2 5, none, none, zj (.iastore) 73 0 0 0, zj (.aload 0) 74 0 0 0, zj (.getfield 0) 77 5 5 0, none, none, zj (.aload 0) 78 0 0 0, zj (.getfield 0) 81 5 7 0, none, none, zj (.aload 0) 82 0 0 0, zj (.getfield 0) 85 5 4 0, none, none, zj (.aload 0) 86 0 0 0, zj (.getfield 0) 89 5 7 0, none, none, zj (.iaload) 90 0 0 0, zj (.iload 1) 91 1 0 0, zj (.iadd) 92 0 0 0, zj (.iastore) 93 0 0 0, zj (.aload 0) 94 0 0 0, zj (.dup) 95 0 0 0, zj (.getfield 0) 98 5 7 0, none, none, zj (.dup_x1) 99 0 0 0, zi (.aconst_null) 100 0 0 0 (.int 1), zj (.iadd) 101 0 0 0, zj (.putfield 0) 104 5 7 0, none, none, zj (.ireturn) 105 0 0 0]
noncomputable def pp_47 : List (List Nat) := [[], [2074], [], [], [], [], [], [], [], [], [], [], [2065], [], [], [], [2074], [], [], [], [], [], [2066], [], [], [], [2074], [], [], [], [], [], [2067], [], [], [], [2074], [], [], [], [], [], [2068], [], [], [], [2074], [], [], [], [], [], [], [2069], [], [], [], [2074], [], [], [], [], [2074], [], [], [], [2071], [], [], [5100], [], [], [], [], [2071], [], [], [], [2074], [], [], [], [2069], [], [], [], [2074], [], [], [], [], [], [], [], [], [2074], [], [], [], [], [], [2074], [], [], []]
noncomputable def cd_48 : zK := [zi (.aconst_null) 1 0 0 0 (.int 0), zj (.istore 3) 2 3 0 0, zi (.aconst_null) 3 0 0 0 (.int 0), zj (.istore 4) 5 4 0 0, none, zj (.iload 4) 7 4 0 0, none, zj (.iload 1) 8 1 0 0, zj (.if_icmp .ge 0) 11 36 0 0, none, none, zj (.aload 0) 12 0 0 0, zj (.iload 1) 13 1 0 0, zj (.iload 4) 15 4 0 0, none, zj (.invokevirtual 0) 18 49 2 5, none, none, zj (.ifCond .eq 0) 21 30 0 0, none, none, zj (.iload 3) 22 3 0 0, zj (.aload 2) 23 2 0 0, zj (.iload 4) 25 4 0 0, none, zj (.iaload) 26 0 0 0, none, none, none, zj (.istore 3) 30 3 0 0, zi (.iinc 4 1) 33 4 0 0 (.int 1), none, none, zj (.goto 0) 36 5 0 0, none, none, zj (.iload 3) 37 3 0 0, zj (.ireturn) 38 0 0 0]
noncomputable def pp_48 : List (List Nat) := [[], [], [], [], [], [], [], [], [], [], [], [], [], [], [], [5104], [], [], [], [], [], [], [], [], [], [], [], [], [], [], [], [], [], [], [], [], [], []]
noncomputable def cd_49 : zK := [zj (.aload 0) 1 0 0 0, zj (.getfield 0) 4 5 2 0, none, none, zj (.iload 1) 5 1 0 0, zj (.iaload) 6 0 0 0, zj (.iload 2) 7 2 0 0, zj (.ishr) 8 0 0 0, zi (.aconst_null) 9 0 0 0 (.int 1), zj (.iand) 10 0 0 0, zi (.aconst_null) 11 0 0 0 (.int 1), zj (.if_icmp .ne 0) 14 18 0 0, none, none, zi (.aconst_null) 15 0 0 0 (.int 1), zj (.goto 0) 18 19 0 0, none, none, zi (.aconst_null) 19 0 0 0 (.int 0), zj (.ireturn) 20 0 0 0]
noncomputable def pp_49 : List (List Nat) := [[], [2067], [], [], [], [], [], [], [], [], [], [], [], [], [], [], [], [], [], []]
noncomputable def cd_50 : zK := [zi (.aconst_null) 1 0 0 0 (.int 0), zj (.istore 2) 2 2 0 0, zj (.iload 2) 3 2 0 0, zj (.aload 0) 4 0 0 0, zj (.getfield 0) 7 5 7 0, none, none, zj (.if_icmp .ge 0) 10 52 0 0, none, none, zj (.aload 0) 11 0 0 0, zj (.getfield 0) 14 5 6 0, none, none, zj (.iload 2) 15 2 0 0, zj (.aload 0) 16 0 0 0, zj (.iload 2) 17 2 0 0, zj (.aload 0) 18 0 0 0, zj (.getfield 0) 21 5 6 0, none, none, zj (.invokevirtual 0) 24 48 2 5, none, none, zj (.aload 0) 25 0 0 0, zj (.getfield 0) 28 5 1 0, none, none, zj (.iload 2) 29 2 0 0, zj (.iaload) 30 0 0 0, zj (.iload 1) 31 1 0 0, zj (.if_icmp .ne 0) 34 38 0 0, none, none, zi (.aconst_null) 35 0 0 0 (.int 0), zj (.goto 0) 38 44 0 0, none, none, zj (.aload 0) 39 0 0 0, zj (.getfield 0) 42 5 0 0, none, none, zj (.iload 2) 43 2 0 0, zj (.iaload) 44 0 0 0, zj (.iadd) 45 0 0 0, zj (.iastore) 46 0 0 0, zi (.iinc 2 1) 49 2 0 0 (.int 1), none, none, zj (.goto 0) 52 2 0 0, none, none, zj (.aload 0) 53 0 0 0, zj (.getfield 0) 56 5 7 0, none, none, zj (.ifCond .ne 0) 59 63 0 0, none, none, zi (.aconst_null) 60 0 0 0 (.int 0), zj (.goto 0) 63 86 0 0, none, none, zj (.aload 0) 64 0 0 0, zj (.getfield 0) 67 5 5 0, none, none, zj (.aload 0) 68 0 0 0, zj (.getfield 0) 71 5 7 0, none, none, zi (.aconst_null) 72 0 0 0 (.int 1), zj (.isub) 73 0 0 0, zj (.iaload) 74 0 0 0, zj (.aload 0) 75 0 0 0, zj (.getfield 0) 78 5 6 0, none, none, zj (.aload 0) 79 0 0 0, zj (.getfield 0) 82 5 7 0, none, none, zi (.aconst_null) 83 0 0 0 (.int 1), zj (.isub) 84 0 0 0, zj (.iaload) 85 0 0 0, zj (.isub) 86 0 0 0, zj (.ireturn) 87 0 0 0]
noncomputable def pp_50 : List (List Nat) := [[], [], [], [], [2074], [], [], [], [], [], [], [2073], [], [], [], [], [], [], [2073], [], [], [5100], [], [], [], [2066], [], [], [], [], [], [], [], [], [], [], [], [], [], [2065], [], [], [], [], [], [], [], [], [], [], [], [], [], [2074], [], [], [], [], [], [], [], [], [], [], [2071], [], [], [], [2074], [], [], [], [], [], [], [2073], [], [], [], [2074], [], [], [], [], [], [], []]
noncomputable def cd_51 : zK := [zj (.aload 0) 1 0 0 0, zj (.getfield 0) 4 5 7 0, none, none, zi (.aconst_null) 5 0 0 0 (.int 1), zj (.isub) 6 0 0 0, zj (.istore 2) 7 2 0 0, zj (.aload 0) 8 0 0 0, zj (.getfield 0) 11 5 6 0, none, none, zj (.astore 3) 12 3 0 0, zj (.aload 3) 13 3 0 0, zi (.aconst_null) 14 0 0 0 (.int (-1)), zj (.invokestatic 0) 17 281 2 0, none, none, zj (.iload 2) 18 2 0 0, zj (.ifCond .lt 0) 21 30 0 0, none, none, zj (.aload 3) 22 3 0 0, zj (.iload 2) 23 2 0 0, zj (.aload 0) 24 0 0 0, zj (.getfield 0) 27 5 5 0, none, none, zj (.iload 2) 28 2 0 0, zj (.iaload) 29 0 0 0, zj (.iastore) 30 0 0 0, zj (.iload 2) 31 2 0 0, zj (.istore 4) 33 4 0 0, none, zj (.iload 4) 35 4 0 0, none, zj (.iload 1) 36 1 0 0, zj (.if_icmp .le 0) 39 120 0 0, none, none, zj (.aload 3) 40 3 0 0, zj (.iload 4) 42 4 0 0, none, zj (.iaload) 43 0 0 0, zj (.aload 0) 44 0 0 0, zj (.getfield 0) 47 5 0 0, none, none, zj (.iload 4) 49 4 0 0, none, zj (.iaload) 50 0 0 0, zj (.isub) 51 0 0 0, zj (.istore 5) 53 5 0 0, none, zi (.aconst_null) 54 0 0 0 (.int 0), zj (.istore 6) 56 6 0 0, none, zj (.iload 6) 58 6 0 0, none, zj (.iload 4) 60 4 0 0, none, zj (.if_icmp .ge 0) 63 114 0 0, none, none, zj (.aload 3) 64 3 0 0, zj (.iload 4) 66 4 0 0, none, zj (.iaload) 67 0 0 0, zi (.aconst_null) 68 0 0 0 (.int (-1)), zj (.if_icmp .eq 0) 71 114 0 0, none, none, zj (.aload 0) 72 0 0 0, zj (.iload 4) 74 4 0 0, none, zj (.iload 6) 76 6 0 0, none, zj (.invokevirtual 0) 79 49 2 5, none, none, zj (.ifCond .eq 0) 82 108 0 0, none, none, zj (.aload 3) 83 3 0 0, zj (.iload 6) 85 6 0 0, none, zj (.aload 3) 86 3 0 0, zj (.iload 6) 88 6 0 0, none, zj (.iaload) 89 0 0 0, zi (.aconst_null) 90 0 0 0 (.int (-1)), zj (.if_icmp .ne 0) 93 98 0 0, none, none, zj (.iload 5) 95 5 0 0, none, zj (.goto 0) 98 107 0 0, none, none, zj (.aload 3) 99 3 0 0, zj (.iload 6) 101 6 0 0, none, zj (.iaload) 102 0 0 0, zj (.iload 5) 104 5 0 0, none, none, none, none, zj (.iastore) 108 0 0 0, zi (.iinc 6 1) 111 6 0 0 (.int 1), none, none, zj (.goto 0) 114 56 0 0, none, none, zi (.iinc 4 (-1)) 117 4 0 0 (.int (-1)), none, none, zj (.goto 0) 120 33 0 0, none, none, zj (.aload 3) 121 3 0 0, zj (.iload 1) 122 1 0 0, zj (.iaload) 123 0 0 0, zi (.aconst_null) 124 0 0 0 (.int (-1)), zj (.if_icmp .ne 0) 127 131 0 0, none, none, zi (.aconst_null) 128 0 0 0 (.int (-1)), zj (.goto 0) 131 141 0 0, none, none, zj (.aload 3) 132 3 0 0, zj (.iload 1) 133 1 0 0, zj (.iaload) 134 0 0 0, zj (.aload 0) 135 0 0 0, zj (.getfield 0) 138 5 5 0, none, none, zj (.iload 1) 139 1 0 0, zj (.iaload) 140 0 0 0, zj (.isub) 141 0 0 0, zj (.ireturn) 142 0 0 0]
noncomputable def pp_51 : List (List Nat) := [[], [2074], [], [], [], [], [], [], [2073], [], [], [], [], [], [5121], [], [], [], [], [], [], [], [], [], [2071], [], [], [], [], [], [], [], [], [], [], [], [], [], [], [], [], [], [], [], [2065], [], [], [], [], [], [], [], [], [], [], [], [], [], [], [], [], [], [], [], [], [], [], [], [], [], [], [], [], [], [], [], [5104], [], [], [], [], [], [], [], [], [], [], [], [], [], [], [], [], [], [], [], [], [], [], [], [], [], [], [], [], [], [], [], [], [], [], [], [], [], [], [], [], [], [], [], [], [], [], [], [], [], [], [], [], [], [], [], [], [], [], [2071], [], [], [], [], [], []]
noncomputable def cd_52 : zK := [zj (.iload 2) 1 2 0 0, zj (.aload 0) 2 0 0 0, zj (.getfield 0) 5 5 5 0, none, none, zj (.iload 1) 6 1 0 0, zj (.iaload) 7 0 0 0, zj (.if_icmp .lt 0) 10 20 0 0, none, none, zi (.aconst_null) 12 0 0 0 (.int 9), none, zj (.aload 0) 13 0 0 0, zj (.getfield 0) 16 5 3 0, none, none, zj (.iload 1) 17 1 0 0, zj (.iaload) 18 0 0 0, zj (.imul) 19 0 0 0, zj (.ireturn) 20 0 0 0, zj (.iload 2) 21 2 0 0, zj (.aload 0) 22 0 0 0, zj (.getfield 0) 25 5 4 0, none, none, zj (.iload 1) 26 1 0 0, zj (.iaload) 27 0 0 0, zj (.if_icmp .lt 0) 30 41 0 0, none, none, zi (.aconst_null) 31 0 0 0 (.int 3), zj (.aload 0) 32 0 0 0, zj (.getfield 0) 35 5 3 0, none, none, zj (.iload 1) 36 1 0 0, zj (.iaload) 37 0 0 0, zj (.imul) 38 0 0 0, zj (.goto 0) 41 47 0 0, none, none, zj (.aload 0) 42 0 0 0, zj (.getfield 0) 45 5 3 0, none, none, zj (.iload 1) 46 1 0 0, zj (.iaload) 47 0 0 0, zj (.ireturn) 48 0 0 0]
noncomputable def pp_52 : List (List Nat) := [[], [], [2071], [], [], [], [], [], [], [], [], [], [], [2068], [], [], [], [], [], [], [], [], [2069], [], [], [], [], [], [], [], [], [], [2068], [], [], [], [], [], [], [], [], [], [2068], [], [], [], [], []]
noncomputable def cd_53 : zK := [zi (.aconst_null) 3 0 0 0 (.int 599), none, none, zj (.istore 3) 4 3 0 0, zj (.iload 3) 5 3 0 0, zj (.ifCond .lt 0) 8 26 0 0, none, none, zj (.aload 0) 9 0 0 0, zj (.iload 1) 10 1 0 0, zj (.iload 3) 11 3 0 0, zj (.invokevirtual 0) 14 52 2 5, none, none, zj (.iload 2) 15 2 0 0, zj (.if_icmp .gt 0) 18 20 0 0, none, none, zj (.iload 3) 19 3 0 0, zj (.ireturn) 20 0 0 0, zi (.iinc 3 (-1)) 23 3 0 0 (.int (-1)), none, none, zj (.goto 0) 26 4 0 0, none, none, zi (.aconst_null) 27 0 0 0 (.int (-1)), zj (.ireturn) 28 0 0 0]
noncomputable def pp_53 : List (List Nat) := [[], [], [], [], [], [], [], [], [], [], [], [5147], [], [], [], [], [], [], [], [], [], [], [], [], [], [], [], []]
noncomputable def cd_54 : zK := [zj (.aload 0) 1 0 0 0, zj (.pop2) 4 0 0 0, none, none, zj (.aload 0) 5 0 0 0, zi (.aconst_null) 7 0 0 0 (.int 20), none, zj (.newarray .int) 9 0 0 0, none, zj (.putfield 0) 12 6 0 0, none, none, zj (.aload 0) 13 0 0 0, zi (.aconst_null) 15 0 0 0 (.int 20), none, zj (.newarray .int) 17 0 0 0, none, zj (.putfield 0) 20 6 1 0, none, none, zj (.aload 0) 21 0 0 0, zi (.aconst_null) 23 0 0 0 (.int 20), none, zj (.newarray .int) 25 0 0 0, none, zj (.putfield 0) 28 6 2 0, none, none, zj (.aload 0) 29 0 0 0, zi (.aconst_null) 31 0 0 0 (.int 20), none, zj (.newarray .int) 33 0 0 0, none, zj (.putfield 0) 36 6 3 0, none, none, zj (.return_) 37 0 0 0]
noncomputable def pp_54 : List (List Nat) := [[], [2098, 1027, 1028], [], [], [], [], [], [1068], [], [2099], [], [], [], [], [], [1068], [], [2100], [], [], [], [], [], [1068], [], [2101], [], [], [], [], [], [1068], [], [2102], [], [], []]
noncomputable def cd_55 : zK := [zj (.iload 1) 1 1 0 0, zj (.ifCond .lt 0) 4 16 0 0, none, none, zj (.iload 1) 5 1 0 0, zj (.aload 0) 6 0 0 0, zj (.getfield 0) 9 6 4 0, none, none, zj (.if_icmp .ge 0) 12 16 0 0, none, none, zi (.aconst_null) 13 0 0 0 (.int 1), zj (.goto 0) 16 17 0 0, none, none, zi (.aconst_null) 17 0 0 0 (.int 0), zj (.ireturn) 18 0 0 0]
noncomputable def pp_55 : List (List Nat) := [[], [], [], [], [], [], [2104], [], [], [], [], [], [], [], [], [], [], []]
noncomputable def cd_56 : zK := [zj (.aload 0) 1 0 0 0, zj (.getfield 0) 4 6 4 0, none, none, zi (.aconst_null) 6 0 0 0 (.int 20), none, zj (.if_icmp .ne 0) 9 11 0 0, none, none, zi (.aconst_null) 10 0 0 0 (.int (-1)), zj (.ireturn) 11 0 0 0, zj (.aload 0) 12 0 0 0, zj (.getfield 0) 15 6 0 0, none, none, zj (.aload 0) 16 0 0 0, zj (.getfield 0) 19 6 4 0, none, none, zj (.iload 1) 20 1 0 0, zj (.iastore) 21 0 0 0, zj (.aload 0) 22 0 0 0, zj (.getfield 0) 25 6 1 0, none, none, zj (.aload 0) 26 0 0 0, zj (.getfield 0) 29 6 4 0, none, none, zj (.iload 2) 30 2 0 0, zj (.iastore) 31 0 0 0, zj (.aload 0) 32 0 0 0, zj (.getfield 0) 35 6 2 0, none, none, zj (.aload 0) 36 0 0 0, zj (.getfield 0) 39 6 4 0, none, none, zj (.iload 3) 40 3 0 0, zj (.iastore) 41 0 0 0, zj (.aload 0) 42 0 0 0, zj (.getfield 0) 45 6 3 0, none, none, zj (.aload 0) 46 0 0 0, zj (.getfield 0) 49 6 4 0, none, none, zj (.iload 4) 51 4 0 0, none, zj (.iastore) 52 0 0 0, zj (.aload 0) 53 0 0 0, zj (.dup) 54 0 0 0, zj (.getfield 0) 57 6 4 0, none, none, zj (.dup_x1) 58 0 0 0, zi (.aconst_null) 59 0 0 0 (.int 1), zj (.iadd) 60 0 0 0, zj (.putfield 0) 63 6 4 0, none, none, zj (.ireturn) 64 0 0 0]
noncomputable def pp_56 : List (List Nat) := [[], [2104], [], [], [], [], [], [], [], [], [], [], [2099], [], [], [], [2104], [], [], [], [], [], [2100], [], [], [], [2104], [], [], [], [], [], [2101], [], [], [], [2104], [], [], [], [], [], [2102], [], [], [], [2104], [], [], [], [], [], [], [], [2104], [], [], [], [], [], [2104], [], [], []]
noncomputable def cd_57 : zK := [zj (.aload 2) 1 2 0 0, zj (.getfield 0) 4 0 0 0, none, none, zj (.aload 0) 5 0 0 0, zj (.getfield 0) 8 6 0 0, none, none, zj (.iload 1) 9 1 0 0, zj (.iaload) 10 0 0 0, zj (.if_icmp .ne 0) 13 43 0 0, none, none, zj (.aload 2) 14 2 0 0, zj (.getfield 0) 17 0 1 0, none, none, zj (.aload 0) 18 0 0 0, zj (.getfield 0) 21 6 1 0, none, none, zj (.iload 1) 22 1 0 0, zj (.iaload) 23 0 0 0, zj (.if_icmp .lt 0) 26 43 0 0, none, none, zj (.aload 2) 27 2 0 0, zj (.getfield 0) 30 0 1 0, none, none, zj (.aload 0) 31 0 0 0, zj (.getfield 0) 34 6 2 0, none, none, zj (.iload 1) 35 1 0 0, zj (.iaload) 36 0 0 0, zj (.if_icmp .gt 0) 39 43 0 0, none, none, zi (.aconst_null) 40 0 0 0 (.int 1), zj (.goto 0) 43 44 0 0, none, none, zi (.aconst_null) 44 0 0 0 (.int 0), zj (.ireturn) 45 0 0 0]
noncomputable def pp_57 : List (List Nat) := [[], [3038], [], [], [], [2099], [], [], [], [], [], [], [], [], [3042], [], [], [], [2100], [], [], [], [], [], [], [], [], [3042], [], [], [], [2101], [], [], [], [], [], [], [], [], [], [], [], [], []]
noncomputable def cd_58 : zK := [zj (.aload 2) 1 2 0 0, zj (.ifnull 0) 4 25 0 0, none, none, zj (.aload 0) 5 0 0 0, zj (.iload 1) 6 1 0 0, zj (.aload 2) 7 2 0 0, zj (.invokevirtual 0) 10 57 2 6, none, none, zj (.ifCond .eq 0) 13 25 0 0, none, none, zj (.aload 2) 14 2 0 0, zj (.iload 1) 15 1 0 0, zj (.invokevirtual 0) 18 3 1 0, none, none, zj (.ifCond .eq 0) 21 25 0 0, none, none, zi (.aconst_null) 22 0 0 0 (.int 1), zj (.goto 0) 25 26 0 0, none, none, zi (.aconst_null) 26 0 0 0 (.int 0), zj (.ireturn) 27 0 0 0]
noncomputable def pp_58 : List (List Nat) := [[], [], [], [], [], [], [], [5173], [], [], [], [], [], [], [], [5177], [], [], [], [], [], [], [], [], [], [], []]
noncomputable def cd_59 : zK := [zi (.aconst_null) 1 0 0 0 (.int 0), zj (.istore 3) 2 3 0 0, zi (.aconst_null) 3 0 0 0 (.int 0), zj (.istore 4) 5 4 0 0, none, zj (.iload 4) 7 4 0 0, none, zj (.aload 2) 8 2 0 0, zj (.getfield 0) 11 2 4 0, none, none, zj (.if_icmp .ge 0) 14 67 0 0, none, none, zj (.aload 2) 15 2 0 0, zj (.iload 4) 17 4 0 0, none, zj (.invokevirtual 0) 20 19 1 2, none, none, zj (.astore 5) 22 5 0 0, none, zj (.aload 0) 23 0 0 0, zj (.iload 1) 24 1 0 0, zj (.aload 5) 26 5 0 0, none, zj (.invokevirtual 0) 29 58 2 6, none, none, zj (.ifCond .eq 0) 32 61 0 0, none, none, zj (.aload 2) 33 2 0 0, zj (.getfield 0) 36 2 1 0, none, none, zj (.aload 5) 38 5 0 0, none, zj (.getfield 0) 41 0 4 0, none, none, zj (.baload) 42 0 0 0, zj (.ifCond .ne 0) 45 61 0 0, none, none, zj (.aload 5) 47 5 0 0, none, zj (.dup) 48 0 0 0, zj (.getfield 0) 51 0 8 0, none, none, zi (.aconst_null) 52 0 0 0 (.int 1), zj (.iload 1) 53 1 0 0, zj (.ishl) 54 0 0 0, zj (.ior) 55 0 0 0, zj (.putfield 0) 58 0 8 0, none, none, zi (.iinc 3 1) 61 3 0 0 (.int 1), none, none, zi (.iinc 4 1) 64 4 0 0 (.int 1), none, none, zj (.goto 0) 67 5 0 0, none, none, zj (.iload 3) 68 3 0 0, zj (.ireturn) 69 0 0 0]
noncomputable def pp_59 : List (List Nat) := [[], [], [], [], [], [], [], [], [1084], [], [], [], [], [], [], [], [], [5168], [], [], [], [], [], [], [], [], [5169], [], [], [], [], [], [], [1079], [], [], [], [], [3050], [], [], [], [], [], [], [], [], [], [3061], [], [], [], [], [], [], [3061], [], [], [], [], [], [], [], [], [], [], [], [], []]
noncomputable def cd_60 : zK := [zi (.aconst_null) 1 0 0 0 (.int 0), zj (.istore 3) 2 3 0 0, zi (.aconst_null) 3 0 0 0 (.int 0), zj (.istore 4) 5 4 0 0, none, zj (.iload 4) 7 4 0 0, none, zj (.aload 2) 8 2 0 0, zj (.getfield 0) 11 2 4 0, none, none, zj (.if_icmp .ge 0) 14 37 0 0, none, none, zj (.aload 0) 15 0 0 0, zj (.iload 1) 16 1 0 0, zj (.aload 2) 17 2 0 0, zj (.iload 4) 19 4 0 0, none, zj (.invokevirtual 0) 22 19 1 2, none, none, zj (.invokevirtual 0) 25 58 2 6, none, none, zj (.ifCond .eq 0) 28 31 0 0, none, none, zi (.iinc 3 1) 31 3 0 0 (.int 1), none, none, zi (.iinc 4 1) 34 4 0 0 (.int 1), none, none, zj (.goto 0) 37 5 0 0, none, none, zj (.iload 3) 38 3 0 0, zj (.ireturn) 39 0 0 0]
noncomputable def pp_60 : List (List Nat) := [[], [], [], [], [], [], [], [], [1084], [], [], [], [], [], [], [], [], [], [], [5168], [], [], [5169], [], [], [], [], [], [], [], [], [], [], [], [], [], [], [], []]
noncomputable def cd_61 : zK := [zi (.aconst_null) 1 0 0 0 (.int 0), zj (.istore 4) 3 4 0 0, none, zi (.aconst_null) 4 0 0 0 (.int 0), zj (.istore 5) 6 5 0 0, none, zj (.iload 5) 8 5 0 0, none, zj (.aload 3) 9 3 0 0, zj (.getfield 0) 12 2 4 0, none, none, zj (.if_icmp .ge 0) 15 47 0 0, none, none, zj (.aload 0) 16 0 0 0, zj (.iload 1) 17 1 0 0, zj (.aload 3) 18 3 0 0, zj (.iload 5) 20 5 0 0, none, zj (.invokevirtual 0) 23 19 1 2, none, none, zj (.invokevirtual 0) 26 58 2 6, none, none, zj (.ifCond .eq 0) 29 41 0 0, none, none, zj (.iload 4) 31 4 0 0, none, zj (.iload 2) 32 2 0 0, zj (.if_icmp .ne 0) 35 38 0 0, none, none, zj (.iload 5) 37 5 0 0, none, zj (.ireturn) 38 0 0 0, zi (.iinc 4 1) 41 4 0 0 (.int 1), none, none, zi (.iinc 5 1) 44 5 0 0 (.int 1), none, none, zj (.goto 0) 47 6 0 0, none, none, zi (.aconst_null) 48 0 0 0 (.int (-1)), zj (.ireturn) 49 0 0 0]
noncomputable def pp_61 : List (List Nat) := [[], [], [], [], [], [], [], [], [], [1084], [], [], [], [], [], [], [], [], [], [], [5168], [], [], [5169], [], [], [], [], [], [], [], [], [], [], [], [], [], [], [], [], [], [], [], [], [], [], [], [], []]
noncomputable def cd_62 : zK := [zj (.aload 0) 1 0 0 0, zj (.pop2) 4 0 0 0, none, none, zj (.aload 0) 5 0 0 0, zi (.aconst_null) 7 0 0 0 (.int 10), none, zj (.newarray .int) 9 0 0 0, none, zj (.putfield 0) 12 7 0 0, none, none, zj (.aload 0) 13 0 0 0, zi (.aconst_null) 15 0 0 0 (.int 10), none, zj (.anewarray 0) 18 4 0 0, none, none, zj (.putfield 0) 21 7 1 0, none, none, zj (.aload 0) 22 0 0 0, zi (.aconst_null) 24 0 0 0 (.int 10), none, zj (.anewarray 0) 27 4 0 0, none, none, zj (.putfield 0) 30 7 2 0, none, none, zj (.aload 0) 31 0 0 0, zi (.aconst_null) 33 0 0 0 (.int 12), none, zj (.newarray .long) 35 0 0 0, none, zj (.putfield 0) 38 7 4 0, none, none, zj (.aload 0) 39 0 0 0, zi (.aconst_null) 41 0 0 0 (.int 80), none, zj (.newarray .long) 43 0 0 0, none, zj (.putfield 0) 46 7 5 0, none, none, zj (.return_) 47 0 0 0]
noncomputable def pp_62 : List (List Nat) := [[], [1161, 1027, 1028], [], [], [], [], [], [1068], [], [1163], [], [], [], [], [], [1162, 1036], [], [], [1164], [], [], [], [], [], [1162, 1036], [], [], [1165], [], [], [], [], [], [1184], [], [1168], [], [], [], [], [], [1184], [], [1170], [], [], []]
noncomputable def cd_63 : zK := [zj (.aload 0) 1 0 0 0, zj (.getfield 0) 4 7 3 0, none, none, zi (.aconst_null) 6 0 0 0 (.int 10), none, zj (.if_icmp .ne 0) 9 13 0 0, none, none, zi (.aconst_null) 10 0 0 0 (.int 1), zj (.goto 0) 13 14 0 0, none, none, zi (.aconst_null) 14 0 0 0 (.int 0), zj (.ireturn) 15 0 0 0]
noncomputable def pp_63 : List (List Nat) := [[], [1166], [], [], [], [], [], [], [], [], [], [], [], [], []]
noncomputable def cd_64 : zK := [zj (.aload 0) 1 0 0 0, zj (.invokevirtual 0) 4 63 0 7, none, none, zj (.ifCond .eq 0) 7 9 0 0, none, none, zi (.aconst_null) 8 0 0 0 (.int (-1)), zj (.ireturn) 9 0 0 0, zj (.aload 0) 10 0 0 0, zj (.getfield 0) 13 7 0 0, none, none, zj (.aload 0) 14 0 0 0, zj (.getfield 0) 17 7 3 0, none, none, zj (.iload 1) 18 1 0 0, zj (.iastore) 19 0 0 0, zj (.aload 0) 20 0 0 0, zj (.getfield 0) 23 7 1 0, none, none, zj (.aload 0) 24 0 0 0, zj (.getfield 0) 27 7 3 0, none, none, zj (.aload 2) 28 2 0 0, zj (.getfield 0) 31 8 4 0, none, none, zj (.aload 2) 32 2 0 0, zj (.getfield 0) 35 8 5 0, none, none, none, none, none, none, zj (.aload 0) 40 0 0 0, zj (.getfield 0) 43 7 2 0, none, none, zj (.aload 0) 44 0 0 0, zj (.getfield 0) 47 7 3 0, none, none, zj (.aload 2) 48 2 0 0, zj (.getfield 0) 51 8 6 0, none, none, zj (.aload 2) 52 2 0 0, zj (.getfield 0) 55 8 7 0, none, none, zi (.aconst_null) 56 0 0 0 (.int 4), zj (.imul) 57 0 0 0, none, none, none, none, zj (.aload 0) 62 0 0 0, zj (.dup) 63 0 0 0, zj (.getfield 0) 66 7 3 0, none, none, zj (.dup_x1) 67 0 0 0, zi (.aconst_null) 68 0 0 0 (.int 1), zj (.iadd) 69 0 0 0, zj (.putfield 0) 72 7 3 0, none, none, zj (.ireturn) 73 0 0 0]
noncomputable def pp_64 : List (List Nat) := [[], [4077], [], [], [], [], [], [], [], [], [1163], [], [], [], [1166], [], [], [], [], [], [1164], [], [], [], [1166], [], [], [], [1125], [], [], [], [1126], [], [], [], [], [], [], [], [1165], [], [], [], [1166], [], [], [], [1129], [], [], [], [1130], [], [], [], [], [], [], [], [], [], [], [1166], [], [], [], [], [], [1166], [], [], []]
noncomputable def cd_65 : zK := [zi (.aconst_null) 1 0 0 0 (.int (-1)), zj (.istore 2) 2 2 0 0, zi (.aconst_null) 3 0 0 0 (.int 0), zj (.istore 3) 4 3 0 0, zj (.iload 3) 5 3 0 0, zj (.aload 0) 6 0 0 0, zj (.getfield 0) 9 7 3 0, none, none, zj (.if_icmp .ge 0) 12 50 0 0, none, none, zj (.aload 0) 13 0 0 0, zj (.getfield 0) 16 7 0 0, none, none, zj (.iload 3) 17 3 0 0, zj (.iaload) 18 0 0 0, zj (.iload 1) 19 1 0 0, zj (.if_icmp .gt 0) 22 44 0 0, none, none, zj (.iload 2) 23 2 0 0, zi (.aconst_null) 24 0 0 0 (.int (-1)), zj (.if_icmp .eq 0) 27 42 0 0, none, none, zj (.aload 0) 28 0 0 0, zj (.getfield 0) 31 7 0 0, none, none, zj (.iload 3) 32 3 0 0, zj (.iaload) 33 0 0 0, zj (.aload 0) 34 0 0 0, zj (.getfield 0) 37 7 0 0, none, none, zj (.iload 2) 38 2 0 0, zj (.iaload) 39 0 0 0, zj (.if_icmp .lt 0) 42 44 0 0, none, none, zj (.iload 3) 43 3 0 0, zj (.istore 2) 44 2 0 0, zi (.iinc 3 1) 47 3 0 0 (.int 1), none, none, zj (.goto 0) 50 4 0 0, none, none, zj (.iload 2) 51 2 0 0, zj (.ireturn) 52 0 0 0]
noncomputable def pp_65 : List (List Nat) := [[], [], [], [], [], [], [1166], [], [], [], [], [], [], [1163], [], [], [], [], [], [], [], [], [], [], [], [], [], [], [1163], [], [], [], [], [], [1163], [], [], [], [], [], [], [], [], [], [], [], [], [], [], [], [], []]
noncomputable def cd_66 : zK := [zj (.iload 1) 1 1 0 0, zj (.ifCond .lt 0) 4 12 0 0, none, none, zj (.iload 1) 5 1 0 0, zj (.aload 0) 6 0 0 0, zj (.getfield 0) 9 7 3 0, none, none, zj (.if_icmp .lt 0) 12 14 0 0, none, none, zi (.aconst_null) 13 0 0 0 (.int (-1)), zj (.ireturn) 14 0 0 0, zj (.aload 0) 15 0 0 0, zj (.getfield 0) 18 7 2 0, none, none, zj (.iload 1) 19 1 0 0, zj (.aaload) 20 0 0 0, zj (.astore 3) 21 3 0 0, zi (.aconst_null) 22 0 0 0 (.int 0), zj (.istore 4) 24 4 0 0, none, zj (.iload 4) 26 4 0 0, none, zi (.aconst_null) 27 0 0 0 (.int 4), zj (.iadd) 28 0 0 0, zj (.aload 3) 29 3 0 0, zj (.arraylength) 30 0 0 0, zj (.if_icmp .gt 0) 33 104 0 0, none, none, zj (.aload 3) 34 3 0 0, zj (.iload 4) 36 4 0 0, none, zi (.aconst_null) 37 0 0 0 (.int 2), zj (.iadd) 38 0 0 0, zj (.iaload) 39 0 0 0, zj (.aload 3) 40 3 0 0, zj (.iload 4) 42 4 0 0, none, zi (.aconst_null) 43 0 0 0 (.int 3), zj (.iadd) 44 0 0 0, zj (.iaload) 45 0 0 0, zj (.if_icmp .ne 0) 48 52 0 0, none, none, zi (.aconst_null) 49 0 0 0 (.int 1), zj (.goto 0) 52 53 0 0, none, none, zi (.aconst_null) 53 0 0 0 (.int 0), zj (.istore 5) 55 5 0 0, none, zj (.aload 3) 56 3 0 0, zj (.iload 4) 58 4 0 0, none, zj (.iaload) 59 0 0 0, zj (.iload 2) 60 2 0 0, zj (.if_icmp .ne 0) 63 98 0 0, none, none, zj (.iload 5) 65 5 0 0, none, zj (.ifCond .ne 0) 68 95 0 0, none, none, zj (.aload 0) 69 0 0 0, zj (.aload 0) 70 0 0 0, zj (.getfield 0) 73 7 1 0, none, none, zj (.iload 1) 74 1 0 0, zj (.aaload) 75 0 0 0, zj (.aload 3) 76 3 0 0, zj (.iload 4) 78 4 0 0, none, zi (.aconst_null) 79 0 0 0 (.int 2), zj (.iadd) 80 0 0 0, zj (.iaload) 81 0 0 0, zj (.aload 3) 82 3 0 0, zj (.iload 4) 84 4 0 0, none, zi (.aconst_null) 85 0 0 0 (.int 3), zj (.iadd) 86 0 0 0, zj (.iaload) 87 0 0 0, zj (.invokevirtual 0) 90 68 3 7, none, none, zi (.aconst_null) 91 0 0 0 (.long 0), zj (.lcmp) 92 0 0 0, zj (.ifCond .eq 0) 95 98 0 0, none, none, zj (.iload 4) 97 4 0 0, none, zj (.ireturn) 98 0 0 0, zi (.iinc 4 4) 101 4 0 0 (.int 4), none, none, zj (.goto 0) 104 24 0 0, none, none, zi (.aconst_null) 105 0 0 0 (.int (-1)), zj (.ireturn) 106 0 0 0]
noncomputable def pp_66 : List (List Nat) := [[], [], [], [], [], [], [1166], [], [], [], [], [], [], [], [], [1165], [], [], [], [], [], [], [], [], [], [], [], [], [], [], [], [], [], [], [], [], [], [], [], [], [], [], [], [], [], [], [], [], [], [], [], [], [], [], [], [], [], [], [], [], [], [], [], [], [], [], [], [], [], [], [1164], [], [], [], [], [], [], [], [], [], [], [], [], [], [], [], [], [4137], [], [], [], [], [], [], [], [], [], [], [], [], [], [], [], [], [], []]
noncomputable def cd_67 : zK := [zj (.aload 0) 1 0 0 0, zj (.aload 0) 2 0 0 0, zj (.getfield 0) 5 7 1 0, none, none, zj (.iload 1) 6 1 0 0, zj (.aaload) 7 0 0 0, zj (.aload 0) 8 0 0 0, zj (.getfield 0) 11 7 2 0, none, none, zj (.iload 1) 12 1 0 0, zj (.aaload) 13 0 0 0, zj (.iload 2) 14 2 0 0, zi (.aconst_null) 15 0 0 0 (.int 1), zj (.iadd) 16 0 0 0, zj (.iaload) 17 0 0 0, zj (.aload 0) 18 0 0 0, zj (.getfield 0) 21 7 2 0, none, none, zj (.iload 1) 22 1 0 0, zj (.aaload) 23 0 0 0, zj (.iload 2) 24 2 0 0, zi (.aconst_null) 25 0 0 0 (.int 2), zj (.iadd) 26 0 0 0, zj (.iaload) 27 0 0 0, zj (.invokevirtual 0) 30 68 3 7, none, none, zj (.lreturn) 31 0 0 0]
noncomputable def pp_67 : List (List Nat) := [[], [], [1164], [], [], [], [], [], [1165], [], [], [], [], [], [], [], [], [], [1165], [], [], [], [], [], [], [], [], [4137], [], [], []]
noncomputable def cd_68 : zK := [zi (.aconst_null) 1 0 0 0 (.int 0), zj (.istore 4) 3 4 0 0, none, zj (.iload 2) 4 2 0 0, zj (.istore 5) 6 5 0 0, none, zj (.iload 5) 8 5 0 0, none, zj (.iload 3) 9 3 0 0, zj (.if_icmp .ge 0) 12 141 0 0, none, none, zj (.iload 5) 14 5 0 0, none, zj (.aload 1) 15 1 0 0, zj (.arraylength) 16 0 0 0, zj (.if_icmp .ge 0) 19 141 0 0, none, none, zj (.aload 1) 20 1 0 0, zj (.iload 5) 22 5 0 0, none, zj (.iaload) 23 0 0 0, zj (.istore 6) 25 6 0 0, none, zj (.iload 6) 27 6 0 0, none, zi (.aconst_null) 29 0 0 0 (.int 100100), none, zj (.if_icmp .ge 0) 32 61 0 0, none, none, zj (.iload 4) 34 4 0 0, none, zj (.aload 0) 35 0 0 0, zj (.getfield 0) 38 7 5 0, none, none, zj (.arraylength) 39 0 0 0, zj (.if_icmp .ge 0) 42 135 0 0, none, none, zj (.aload 0) 43 0 0 0, zj (.getfield 0) 46 7 5 0, none, none, zj (.iload 4) 48 4 0 0, none, zj (.aload 0) 49 0 0 0, zj (.iload 6) 51 6 0 0, none, zj (.invokevirtual 0) 54 69 1 7, none, none, zj (.lastore) 55 0 0 0, zi (.iinc 4 1) 58 4 0 0 (.int 1), none, none, zj (.goto 0) 61 135 0 0, none, none, zj (.iload 6) 63 6 0 0, none, zi (.aconst_null) 65 0 0 0 (.int 100110), none, zj (.if_icmp .ne 0) 68 96 0 0, none, none, zj (.iload 4) 70 4 0 0, none, zj (.ifCond .le 0) 73 135 0 0, none, none, zj (.aload 0) 74 0 0 0, zj (.getfield 0) 77 7 5 0, none, none, zj (.iload 4) 79 4 0 0, none, zi (.aconst_null) 80 0 0 0 (.int 1), zj (.isub) 81 0 0 0, zi (.aconst_null) 82 0 0 0 (.long 1), zj (.aload 0) 83 0 0 0, zj (.getfield 0) 86 7 5 0, none, none, zj (.iload 4) 88 4 0 0, none, zi (.aconst_null) 89 0 0 0 (.int 1), zj (.isub) 90 0 0 0, zj (.laload) 91 0 0 0, zj (.lsub) 92 0 0 0, zj (.lastore) 93 0 0 0, zj (.goto 0) 96 135 0 0, none, none, zj (.iload 4) 98 4 0 0, none, zi (.aconst_null) 99 0 0 0 (.int 1), zj (.if_icmp .le 0) 102 135 0 0, none, none, zi (.iinc 4 (-1)) 105 4 0 0 (.int (-1)), none, none, zj (.aload 0) 106 0 0 0, zj (.getfield 0) 109 7 5 0, none, none, zj (.iload 4) 111 4 0 0, none, zi (.aconst_null) 112 0 0 0 (.int 1), zj (.isub) 113 0 0 0, zj (.iload 6) 115 6 0 0, none, zj (.aload 0) 116 0 0 0, zj (.getfield 0) 119 7 5 0, none, none, zj (.iload 4) 121 4 0 0, none, zi (.aconst_null) 122 0 0 0 (.int 1), zj (.isub) 123 0 0 0, zj (.laload) 124 0 0 0, zj (.aload 0) 125 0 0 0, zj (.getfield 0) 128 7 5 0, none, none, zj (.iload 4) 130 4 0 0, none, zj (.laload) 131 0 0 0, zj (.invokestatic 0) 134 70 3 0, none, none, zj (.lastore) 135 0 0 0, zi (.iinc 5 1) 138 5 0 0 (.int 1), none, none, zj (.goto 0) 141 6 0 0, none, none, zj (.iload 4) 143 4 0 0, none, zj (.ifCond .le 0) 146 155 0 0, none, none, zj (.aload 0) 147 0 0 0, zj (.getfield 0) 150 7 5 0, none, none, zi (.aconst_null) 151 0 0 0 (.int 0), zj (.laload) 152 0 0 0, zj (.goto 0) 155 156 0 0, none, none, zi (.aconst_null) 156 0 0 0 (.long 0), zj (.lreturn) 157 0 0 0]
noncomputable def pp_68 : List (List Nat) := [[], [], [], [], [], [], [], [], [], [], [], [], [], [], [], [], [], [], [], [], [], [], [], [], [], [], [], [4141], [], [], [], [], [], [], [], [1170], [], [], [], [], [], [], [], [1170], [], [], [], [], [], [], [], [4142], [], [], [], [], [], [], [], [], [], [], [], [4147], [], [], [], [], [], [], [], [], [], [], [1170], [], [], [], [], [], [], [], [], [1170], [], [], [], [], [], [], [], [], [], [], [], [], [], [], [], [], [], [], [], [], [], [], [1170], [], [], [], [], [], [], [], [], [], [1170], [], [], [], [], [], [], [], [], [1170], [], [], [], [], [], [4148], [], [], [], [], [], [], [], [], [], [], [], [], [], [], [], [1170], [], [], [], [], [], [], [], [], []]
noncomputable def cd_69 : zK := [zj (.iload 1) 1 1 0 0, zi (.aconst_null) 3 0 0 0 (.int 100000), none, zj (.isub) 4 0 0 0, zj (.istore 2) 5 2 0 0, zj (.iload 2) 6 2 0 0, zj (.ifCond .lt 0) 9 27 0 0, none, none, zj (.iload 2) 10 2 0 0, zj (.aload 0) 11 0 0 0, zj (.getfield 0) 14 7 4 0, none, none, zj (.arraylength) 15 0 0 0, zj (.if_icmp .ge 0) 18 27 0 0, none, none, zj (.aload 0) 19 0 0 0, zj (.getfield 0) 22 7 4 0, none, none, zj (.iload 2) 23 2 0 0, zj (.laload) 24 0 0 0, zj (.goto 0) 27 29 0 0, none, none, zj (.iload 1) 28 1 0 0, zj (.i2l) 29 0 0 0, zj (.lreturn) 30 0 0 0]
noncomputable def pp_69 : List (List Nat) := [[], [4146], [], [], [], [], [], [], [], [], [], [1168], [], [], [], [], [], [], [], [1168], [], [], [], [], [], [], [], [], [], []]
noncomputable def cd_70 : zK := [zj (.iload 0) 1 0 0 0, zj (.tableswitch 124 100100 100109 #[56, 60, 64, 76, 88, 100, 112, 124, 68, 72]) 56 0 0 0, none, none, none, none, none, none, none, none, none, none, none, none, none, none, none, none, none, none, none, none, none, none, none, none, none, none, none, none, none, none, none, none, none, none, none, none, none, none, none, none, none, none, none, none, none, none, none, none, none, none, none, none, none, none, zj (.lload 1) 57 1 0 0, zj (.lload 3) 58 3 0 0, zj (.ladd) 59 0 0 0, zj (.lreturn) 60 0 0 0, zj (.lload 1) 61 1 0 0, zj (.lload 3) 62 3 0 0, zj (.lsub) 63 0 0 0, zj (.lreturn) 64 0 0 0, zj (.lload 1) 65 1 0 0, zj (.lload 3) 66 3 0 0, zj (.lmul) 67 0 0 0, zj (.lreturn) 68 0 0 0, zj (.lload 1) 69 1 0 0, zj (.lload 3) 70 3 0 0, zj (.lor) 71 0 0 0, zj (.lreturn) 72 0 0 0, zj (.lload 1) 73 1 0 0, zj (.lload 3) 74 3 0 0, zj (.land) 75 0 0 0, zj (.lreturn) 76 0 0 0, zj (.lload 1) 77 1 0 0, zj (.lload 3) 78 3 0 0, zj (.lcmp) 79 0 0 0, zj (.ifCond .ge 0) 82 86 0 0, none, none, zi (.aconst_null) 83 0 0 0 (.long 1), zj (.goto 0) 86 87 0 0, none, none, zi (.aconst_null) 87 0 0 0 (.long 0), zj (.lreturn) 88 0 0 0, zj (.lload 1) 89 1 0 0, zj (.lload 3) 90 3 0 0, zj (.lcmp) 91 0 0 0, zj (.ifCond .gt 0) 94 98 0 0, none, none, zi (.aconst_null) 95 0 0 0 (.long 1), zj (.goto 0) 98 99 0 0, none, none, zi (.aconst_null) 99 0 0 0 (.long 0), zj (.lreturn) 100 0 0 0, zj (.lload 1) 101 1 0 0, zj (.lload 3) 102 3 0 0, zj (.lcmp) 103 0 0 0, zj (.ifCond .ne 0) 106 110 0 0, none, none, zi (.aconst_null) 107 0 0 0 (.long 1), zj (.goto 0) 110 111 0 0, none, none, zi (.aconst_null) 111 0 0 0 (.long 0), zj (.lreturn) 112 0 0 0, zj (.lload 1) 113 1 0 0, zj (.lload 3) 114 3 0 0, zj (.lcmp) 115 0 0 0, zj (.ifCond .lt 0) 118 122 0 0, none, none, zi (.aconst_null) 119 0 0 0 (.long 1), zj (.goto 0) 122 123 0 0, none, none, zi (.aconst_null) 123 0 0 0 (.long 0), zj (.lreturn) 124 0 0 0, zj (.lload 1) 125 1 0 0, zj (.lload 3) 126 3 0 0, zj (.lcmp) 127 0 0 0, zj (.ifCond .le 0) 130 134 0 0, none, none, zi (.aconst_null) 131 0 0 0 (.long 1), zj (.goto 0) 134 135 0 0, none, none, zi (.aconst_null) 135 0 0 0 (.long 0), zj (.lreturn) 136 0 0 0]
noncomputable def pp_70 : List (List Nat) := [[], [], [], [], [], [], [], [], [], [], [], [], [], [], [], [], [], [], [], [], [], [], [], [], [], [], [], [], [], [], [], [], [], [], [], [], [], [], [], [], [], [], [], [], [], [], [], [], [], [], [], [], [], [], [], [], [], [], [], [], [], [], [], [], [], [], [], [], [], [], [], [], [], [], [], [], [], [], [], [], [], [], [], [], [], [], [], [], [], [], [], [], [], [], [], [], [], [], [], [], [], [], [], [], [], [], [], [], [], [], [], [], [], [], [], [], [], [], [], [], [], [], [], [], [], [], [], [], [], [], [], [], [], [], [], []]
noncomputable def cd_71 : zK := [zj (.aload 0) 1 0 0 0, zj (.pop2) 4 0 0 0, none, none, zj (.aload 0) 5 0 0 0, zi (.aconst_null) 8 0 0 0 (.int 400), none, none, zj (.newarray .byte) 10 0 0 0, none, zj (.putfield 0) 13 8 0 0, none, none, zj (.aload 0) 14 0 0 0, zi (.aconst_null) 17 0 0 0 (.int 400), none, none, zj (.newarray .int) 19 0 0 0, none, zj (.putfield 0) 22 8 4 0, none, none, zj (.aload 0) 23 0 0 0, zi (.aconst_null) 25 0 0 0 (.int 48), none, zj (.newarray .int) 27 0 0 0, none, zj (.putfield 0) 30 8 6 0, none, none, zj (.return_) 31 0 0 0]
noncomputable def pp_71 : List (List Nat) := [[], [1118, 1027, 1028], [], [], [], [], [], [], [1155], [], [1119], [], [], [], [], [], [], [1068], [], [1124], [], [], [], [], [], [1068], [], [1128], [], [], []]
noncomputable def cd_72 : zK := [zj (.aload 0) 1 0 0 0, zj (.getfield 0) 4 8 1 0, none, none, zj (.iload 1) 5 1 0 0, zj (.iadd) 6 0 0 0, zi (.aconst_null) 9 0 0 0 (.int 400), none, none, zj (.if_icmp .gt 0) 12 16 0 0, none, none, zi (.aconst_null) 13 0 0 0 (.int 1), zj (.goto 0) 16 17 0 0, none, none, zi (.aconst_null) 17 0 0 0 (.int 0), zj (.ireturn) 18 0 0 0]
noncomputable def pp_72 : List (List Nat) := [[], [1120], [], [], [], [], [], [], [], [], [], [], [], [], [], [], [], []]
noncomputable def cd_73 : zK := [zi (.aconst_null) 2 0 0 0 (.int 24), none, zj (.istore 2) 3 2 0 0, zj (.iload 2) 4 2 0 0, zj (.ifCond .lt 0) 7 46 0 0, none, none, zj (.aload 0) 8 0 0 0, zj (.getfield 0) 11 8 1 0, none, none, zi (.aconst_null) 14 0 0 0 (.int 400), none, none, zj (.if_icmp .ge 0) 17 46 0 0, none, none, zj (.aload 0) 18 0 0 0, zj (.getfield 0) 21 8 0 0, none, none, zj (.aload 0) 22 0 0 0, zj (.getfield 0) 25 8 1 0, none, none, zj (.iload 1) 26 1 0 0, zj (.iload 2) 27 2 0 0, zj (.ishr) 28 0 0 0, zj (.i2b) 29 0 0 0, zj (.bastore) 30 0 0 0, zj (.aload 0) 31 0 0 0, zj (.dup) 32 0 0 0, zj (.getfield 0) 35 8 1 0, none, none, zi (.aconst_null) 36 0 0 0 (.int 1), zj (.iadd) 37 0 0 0, zj (.putfield 0) 40 8 1 0, none, none, zi (.iinc 2 (-8)) 43 2 0 0 (.int (-8)), none, none, zj (.goto 0) 46 3 0 0, none, none, zj (.return_) 47 0 0 0]
noncomputable def pp_73 : List (List Nat) := [[], [], [], [], [], [], [], [], [1120], [], [], [], [], [], [], [], [], [], [1119], [], [], [], [1120], [], [], [], [], [], [], [], [], [], [1120], [], [], [], [], [1120], [], [], [], [], [], [], [], [], []]
noncomputable def cd_74 : zK := [zj (.aload 0) 1 0 0 0, zj (.iload 1) 2 1 0 0, zj (.putfield 0) 5 8 1 0, none, none, zj (.iload 1) 6 1 0 0, zj (.ireturn) 7 0 0 0]
noncomputable def pp_74 : List (List Nat) := [[], [], [1120], [], [], [], []]
noncomputable def cd_75 : zK := [zj (.aload 0) 1 0 0 0, zi (.aconst_null) 2 0 0 0 (.int 0), zj (.putfield 0) 5 8 2 0, none, none, zj (.aload 0) 6 0 0 0, zi (.aconst_null) 7 0 0 0 (.int 0), zj (.putfield 0) 10 8 5 0, none, none, zj (.aload 0) 11 0 0 0, zi (.aconst_null) 12 0 0 0 (.int 0), zj (.putfield 0) 15 8 7 0, none, none, zj (.aload 0) 16 0 0 0, zi (.aconst_null) 17 0 0 0 (.int 0), zj (.putfield 0) 20 8 8 0, none, none, zj (.aload 0) 21 0 0 0, zi (.aconst_null) 22 0 0 0 (.int (-1)), zj (.putfield 0) 25 8 9 0, none, none, zi (.aconst_null) 26 0 0 0 (.int 0), zj (.istore 1) 27 1 0 0, zj (.iload 1) 28 1 0 0, zi (.aconst_null) 30 0 0 0 (.int 12), none, zj (.if_icmp .gt 0) 33 66 0 0, none, none, zj (.aload 0) 34 0 0 0, zj (.invokevirtual 0) 37 76 0 8, none, none, zj (.ifCond .eq 0) 40 66 0 0, none, none, zj (.aload 0) 41 0 0 0, zj (.invokevirtual 0) 44 90 0 8, none, none, zi (.aconst_null) 45 0 0 0 (.int (-1)), zj (.if_icmp .eq 0) 48 66 0 0, none, none, zj (.aload 0) 49 0 0 0, zi (.aconst_null) 51 0 0 0 (.int 59), none, zj (.invokevirtual 0) 54 88 1 8, none, none, zj (.ifCond .ne 0) 57 60 0 0, none, none, zj (.goto 0) 60 66 0 0, none, none, zi (.iinc 1 1) 63 1 0 0 (.int 1), none, none, zj (.goto 0) 66 27 0 0, none, none, zj (.aload 0) 67 0 0 0, zj (.getfield 0) 70 8 9 0, none, none, zj (.ireturn) 71 0 0 0]
noncomputable def pp_75 : List (List Nat) := [[], [], [1122], [], [], [], [], [1127], [], [], [], [], [1131], [], [], [], [], [1132], [], [], [], [], [1133], [], [], [], [], [], [], [], [], [], [], [], [3176], [], [], [], [], [], [], [3184], [], [], [], [], [], [], [], [], [], [4025], [], [], [], [], [], [], [], [], [], [], [], [], [], [], [], [1133], [], [], []]
noncomputable def cd_76 : zK := [zj (.aload 0) 1 0 0 0, zj (.invokevirtual 0) 4 91 0 8, none, none, zj (.istore 1) 5 1 0 0, zj (.iload 1) 6 1 0 0, zi (.aconst_null) 8 0 0 0 (.int 12), none, zj (.if_icmp .lt 0) 11 17 0 0, none, none, zj (.iload 1) 12 1 0 0, zi (.aconst_null) 14 0 0 0 (.int 15), none, zj (.if_icmp .le 0) 17 27 0 0, none, none, zj (.aload 0) 18 0 0 0, zj (.aload 0) 19 0 0 0, zj (.getfield 0) 22 8 2 0, none, none, zi (.aconst_null) 23 0 0 0 (.int 0), zj (.invokevirtual 0) 26 93 2 8, none, none, zj (.ireturn) 27 0 0 0, zj (.aload 0) 28 0 0 0, zj (.getfield 0) 31 8 7 0, none, none, zi (.aconst_null) 33 0 0 0 (.int 12), none, zj (.if_icmp .ne 0) 36 46 0 0, none, none, zj (.aload 0) 37 0 0 0, zj (.aload 0) 38 0 0 0, zj (.getfield 0) 41 8 2 0, none, none, zi (.aconst_null) 42 0 0 0 (.int 4), zj (.invokevirtual 0) 45 93 2 8, none, none, zj (.ireturn) 46 0 0 0, zj (.aload 0) 47 0 0 0, zj (.aload 0) 48 0 0 0, zj (.getfield 0) 51 8 3 0, none, none, zj (.putfield 0) 54 8 2 0, none, none, zj (.iload 1) 55 1 0 0, zi (.aconst_null) 57 0 0 0 (.int 15), none, zj (.if_icmp .ne 0) 60 64 0 0, none, none, zi (.aconst_null) 61 0 0 0 (.int 1), zj (.goto 0) 64 65 0 0, none, none, zi (.aconst_null) 65 0 0 0 (.int 0), zj (.istore 2) 66 2 0 0, zj (.iload 1) 67 1 0 0, zi (.aconst_null) 69 0 0 0 (.int 12), none, zj (.if_icmp .ne 0) 72 85 0 0, none, none, zj (.aload 0) 73 0 0 0, zi (.aconst_null) 74 0 0 0 (.int 2), zj (.invokevirtual 0) 77 89 1 8, none, none, zj (.istore 1) 78 1 0 0, zj (.iload 1) 79 1 0 0, zi (.aconst_null) 80 0 0 0 (.int (-1)), zj (.if_icmp .ne 0) 83 85 0 0, none, none, zi (.aconst_null) 84 0 0 0 (.int 0), zj (.ireturn) 85 0 0 0, zj (.aload 0) 86 0 0 0, zj (.getfield 0) 89 8 5 0, none, none, zj (.istore 3) 90 3 0 0, zj (.iload 2) 91 2 0 0, zj (.ifCond .ne 0) 94 104 0 0, none, none, zj (.aload 0) 95 0 0 0, zi (.aconst_null) 96 0 0 0 (.int 0), zj (.invokevirtual 0) 99 83 1 8, none, none, zj (.ifCond .ne 0) 102 104 0 0, none, none, zi (.aconst_null) 103 0 0 0 (.int 0), zj (.ireturn) 104 0 0 0, zj (.aload 0) 105 0 0 0, zj (.getfield 0) 108 8 5 0, none, none, zj (.istore 4) 110 4 0 0, none, zj (.aload 0) 111 0 0 0, zj (.invokevirtual 0) 114 91 0 8, none, none, zi (.aconst_null) 116 0 0 0 (.int 16), none, zj (.if_icmp .ne 0) 119 137 0 0, none, none, zj (.aload 0) 120 0 0 0, zj (.aload 0) 121 0 0 0, zj (.getfield 0) 124 8 3 0, none, none, zj (.putfield 0) 127 8 2 0, none, none, zj (.aload 0) 128 0 0 0, zi (.aconst_null) 129 0 0 0 (.int 0), zj (.invokevirtual 0) 132 78 1 8, none, none, zj (.ifCond .ne 0) 135 151 0 0, none, none, zi (.aconst_null) 136 0 0 0 (.int 0), zj (.ireturn) 137 0 0 0, zj (.iload 2) 138 2 0 0, zj (.ifCond .eq 0) 141 151 0 0, none, none, zj (.aload 0) 142 0 0 0, zj (.aload 0) 143 0 0 0, zj (.getfield 0) 146 8 2 0, none, none, zi (.aconst_null) 147 0 0 0 (.int 0), zj (.invokevirtual 0) 150 93 2 8, none, none, zj (.ireturn) 151 0 0 0, zj (.aload 0) 152 0 0 0, zj (.iload 1) 153 1 0 0, zj (.iload 3) 154 3 0 0, zj (.iload 4) 156 4 0 0, none, zj (.invokevirtual 0) 159 77 3 8, none, none, zi (.aconst_null) 160 0 0 0 (.int 1), zj (.ireturn) 161 0 0 0]
noncomputable def pp_76 : List (List Nat) := [[], [3180], [], [], [], [], [], [], [], [], [], [], [], [], [], [], [], [], [], [1122], [], [], [], [3237], [], [], [], [], [1131], [], [], [], [], [], [], [], [], [], [1122], [], [], [], [3237], [], [], [], [], [], [1123], [], [], [1122], [], [], [], [], [], [], [], [], [], [], [], [], [], [], [], [], [], [], [], [], [], [], [4001], [], [], [], [], [], [], [], [], [], [], [], [1127], [], [], [], [], [], [], [], [], [], [4009], [], [], [], [], [], [], [], [], [1127], [], [], [], [], [], [3180], [], [], [], [], [], [], [], [], [], [1123], [], [], [1122], [], [], [], [], [4041], [], [], [], [], [], [], [], [], [], [], [], [], [], [1122], [], [], [], [3237], [], [], [], [], [], [], [], [], [4069], [], [], [], []]
noncomputable def cd_77 : zK := [zj (.aload 0) 1 0 0 0, zj (.getfield 0) 4 8 7 0, none, none, zi (.aconst_null) 5 0 0 0 (.int 4), zj (.imul) 6 0 0 0, zj (.istore 4) 8 4 0 0, none, zj (.iload 4) 10 4 0 0, none, zi (.aconst_null) 11 0 0 0 (.int 4), zj (.iadd) 12 0 0 0, zj (.aload 0) 13 0 0 0, zj (.getfield 0) 16 8 6 0, none, none, zj (.arraylength) 17 0 0 0, zj (.if_icmp .le 0) 20 21 0 0, none, none, zj (.return_) 21 0 0 0, zj (.aload 0) 22 0 0 0, zj (.getfield 0) 25 8 6 0, none, none, zj (.iload 4) 27 4 0 0, none, zj (.iload 1) 28 1 0 0, zj (.iastore) 29 0 0 0, zj (.aload 0) 30 0 0 0, zj (.getfield 0) 33 8 6 0, none, none, zj (.iload 4) 35 4 0 0, none, zi (.aconst_null) 36 0 0 0 (.int 1), zj (.iadd) 37 0 0 0, zj (.iload 2) 38 2 0 0, zj (.iastore) 39 0 0 0, zj (.aload 0) 40 0 0 0, zj (.getfield 0) 43 8 6 0, none, none, zj (.iload 4) 45 4 0 0, none, zi (.aconst_null) 46 0 0 0 (.int 2), zj (.iadd) 47 0 0 0, zj (.iload 3) 48 3 0 0, zj (.iastore) 49 0 0 0, zj (.aload 0) 50 0 0 0, zj (.getfield 0) 53 8 6 0, none, none, zj (.iload 4) 55 4 0 0, none, zi (.aconst_null) 56 0 0 0 (.int 3), zj (.iadd) 57 0 0 0, zj (.aload 0) 58 0 0 0, zj (.getfield 0) 61 8 5 0, none, none, zj (.iastore) 62 0 0 0, zj (.aload 0) 63 0 0 0, zj (.dup) 64 0 0 0, zj (.getfield 0) 67 8 7 0, none, none, zi (.aconst_null) 68 0 0 0 (.int 1), zj (.iadd) 69 0 0 0, zj (.putfield 0) 72 8 7 0, none, none, zj (.return_) 73 0 0 0]
noncomputable def pp_77 : List (List Nat) := [[], [1131], [], [], [], [], [], [], [], [], [], [], [], [1128], [], [], [], [], [], [], [], [], [1128], [], [], [], [], [], [], [], [1128], [], [], [], [], [], [], [], [], [], [1128], [], [], [], [], [], [], [], [], [], [1128], [], [], [], [], [], [], [], [1127], [], [], [], [], [], [1131], [], [], [], [], [1131], [], [], []]
noncomputable def cd_78 : zK := [zj (.aload 0) 1 0 0 0, zj (.iload 1) 2 1 0 0, zj (.invokevirtual 0) 5 79 1 8, none, none, zj (.ifCond .ne 0) 8 10 0 0, none, none, zi (.aconst_null) 9 0 0 0 (.int 0), zj (.ireturn) 10 0 0 0, zi (.aconst_null) 11 0 0 0 (.int 0), zj (.istore 2) 12 2 0 0, zj (.iload 2) 13 2 0 0, zi (.aconst_null) 16 0 0 0 (.int 400), none, none, zj (.if_icmp .ge 0) 19 58 0 0, none, none, zj (.aload 0) 20 0 0 0, zj (.invokevirtual 0) 23 91 0 8, none, none, zi (.aconst_null) 25 0 0 0 (.int 17), none, zj (.if_icmp .ne 0) 28 58 0 0, none, none, zj (.aload 0) 29 0 0 0, zj (.aload 0) 30 0 0 0, zj (.getfield 0) 33 8 3 0, none, none, zj (.putfield 0) 36 8 2 0, none, none, zj (.aload 0) 37 0 0 0, zj (.iload 1) 38 1 0 0, zj (.invokevirtual 0) 41 79 1 8, none, none, zj (.ifCond .ne 0) 44 46 0 0, none, none, zi (.aconst_null) 45 0 0 0 (.int 0), zj (.ireturn) 46 0 0 0, zj (.aload 0) 47 0 0 0, zi (.aconst_null) 49 0 0 0 (.int 100108), none, zj (.invokevirtual 0) 52 92 1 8, none, none, zi (.iinc 2 1) 55 2 0 0 (.int 1), none, none, zj (.goto 0) 58 12 0 0, none, none, zi (.aconst_null) 59 0 0 0 (.int 1), zj (.ireturn) 60 0 0 0]
noncomputable def pp_78 : List (List Nat) := [[], [], [4045], [], [], [], [], [], [], [], [], [], [], [], [], [], [], [], [], [], [3180], [], [], [], [], [], [], [], [], [], [1123], [], [], [1122], [], [], [], [], [4045], [], [], [], [], [], [], [], [], [4068], [], [4033], [], [], [], [], [], [], [], [], [], []]
noncomputable def cd_79 : zK := [zj (.aload 0) 1 0 0 0, zj (.iload 1) 2 1 0 0, zj (.invokevirtual 0) 5 80 1 8, none, none, zj (.ifCond .ne 0) 8 10 0 0, none, none, zi (.aconst_null) 9 0 0 0 (.int 0), zj (.ireturn) 10 0 0 0, zi (.aconst_null) 11 0 0 0 (.int 0), zj (.istore 2) 12 2 0 0, zj (.iload 2) 13 2 0 0, zi (.aconst_null) 16 0 0 0 (.int 400), none, none, zj (.if_icmp .ge 0) 19 58 0 0, none, none, zj (.aload 0) 20 0 0 0, zj (.invokevirtual 0) 23 91 0 8, none, none, zi (.aconst_null) 25 0 0 0 (.int 18), none, zj (.if_icmp .ne 0) 28 58 0 0, none, none, zj (.aload 0) 29 0 0 0, zj (.aload 0) 30 0 0 0, zj (.getfield 0) 33 8 3 0, none, none, zj (.putfield 0) 36 8 2 0, none, none, zj (.aload 0) 37 0 0 0, zj (.iload 1) 38 1 0 0, zj (.invokevirtual 0) 41 80 1 8, none, none, zj (.ifCond .ne 0) 44 46 0 0, none, none, zi (.aconst_null) 45 0 0 0 (.int 0), zj (.ireturn) 46 0 0 0, zj (.aload 0) 47 0 0 0, zi (.aconst_null) 49 0 0 0 (.int 100109), none, zj (.invokevirtual 0) 52 92 1 8, none, none, zi (.iinc 2 1) 55 2 0 0 (.int 1), none, none, zj (.goto 0) 58 12 0 0, none, none, zi (.aconst_null) 59 0 0 0 (.int 1), zj (.ireturn) 60 0 0 0]
noncomputable def pp_79 : List (List Nat) := [[], [], [4049], [], [], [], [], [], [], [], [], [], [], [], [], [], [], [], [], [], [3180], [], [], [], [], [], [], [], [], [], [1123], [], [], [1122], [], [], [], [], [4049], [], [], [], [], [], [], [], [], [4067], [], [4033], [], [], [], [], [], [], [], [], [], []]
noncomputable def cd_80 : zK := [zj (.aload 0) 1 0 0 0, zj (.invokevirtual 0) 4 91 0 8, none, none, zi (.aconst_null) 6 0 0 0 (.int 19), none, zj (.if_icmp .ne 0) 9 13 0 0, none, none, zi (.aconst_null) 10 0 0 0 (.int 1), zj (.goto 0) 13 14 0 0, none, none, zi (.aconst_null) 14 0 0 0 (.int 0), zj (.istore 2) 15 2 0 0, zj (.aload 0) 16 0 0 0, zj (.invokevirtual 0) 19 90 0 8, none, none, zi (.aconst_null) 21 0 0 0 (.int 91), none, zj (.if_icmp .ne 0) 24 28 0 0, none, none, zi (.aconst_null) 25 0 0 0 (.int 1), zj (.goto 0) 28 29 0 0, none, none, zi (.aconst_null) 29 0 0 0 (.int 0), zj (.istore 3) 30 3 0 0, zj (.iload 2) 31 2 0 0, zj (.ifCond .ne 0) 34 44 0 0, none, none, zj (.iload 3) 35 3 0 0, zj (.ifCond .ne 0) 38 44 0 0, none, none, zj (.aload 0) 39 0 0 0, zj (.iload 1) 40 1 0 0, zj (.invokevirtual 0) 43 81 1 8, none, none, zj (.ireturn) 44 0 0 0, zj (.iload 1) 45 1 0 0, zi (.aconst_null) 47 0 0 0 (.int 10), none, zj (.if_icmp .ne 0) 50 60 0 0, none, none, zj (.aload 0) 51 0 0 0, zj (.aload 0) 52 0 0 0, zj (.getfield 0) 55 8 2 0, none, none, zi (.aconst_null) 56 0 0 0 (.int 2), zj (.invokevirtual 0) 59 93 2 8, none, none, zj (.ireturn) 60 0 0 0, zj (.iload 3) 61 3 0 0, zj (.ifCond .eq 0) 64 99 0 0, none, none, zj (.aload 0) 65 0 0 0, zj (.dup) 66 0 0 0, zj (.getfield 0) 69 8 2 0, none, none, zi (.aconst_null) 70 0 0 0 (.int 1), zj (.iadd) 71 0 0 0, zj (.putfield 0) 74 8 2 0, none, none, zj (.aload 0) 75 0 0 0, zj (.iload 1) 76 1 0 0, zi (.aconst_null) 77 0 0 0 (.int 1), zj (.iadd) 78 0 0 0, zj (.invokevirtual 0) 81 78 1 8, none, none, zj (.ifCond .eq 0) 84 97 0 0, none, none, zj (.aload 0) 85 0 0 0, zi (.aconst_null) 87 0 0 0 (.int 93), none, zj (.invokevirtual 0) 90 88 1 8, none, none, zj (.ifCond .eq 0) 93 97 0 0, none, none, zi (.aconst_null) 94 0 0 0 (.int 1), zj (.goto 0) 97 98 0 0, none, none, zi (.aconst_null) 98 0 0 0 (.int 0), zj (.ireturn) 99 0 0 0, zj (.aload 0) 100 0 0 0, zj (.aload 0) 101 0 0 0, zj (.getfield 0) 104 8 3 0, none, none, zj (.putfield 0) 107 8 2 0, none, none, zj (.aload 0) 108 0 0 0, zj (.iload 1) 109 1 0 0, zi (.aconst_null) 110 0 0 0 (.int 1), zj (.iadd) 111 0 0 0, zj (.invokevirtual 0) 114 80 1 8, none, none, zj (.ifCond .ne 0) 117 119 0 0, none, none, zi (.aconst_null) 118 0 0 0 (.int 0), zj (.ireturn) 119 0 0 0, zj (.aload 0) 120 0 0 0, zi (.aconst_null) 122 0 0 0 (.int 100110), none, zj (.invokevirtual 0) 125 92 1 8, none, none, zi (.aconst_null) 126 0 0 0 (.int 1), zj (.ireturn) 127 0 0 0]
noncomputable def pp_80 : List (List Nat) := [[], [3180], [], [], [], [], [], [], [], [], [], [], [], [], [], [], [3184], [], [], [], [], [], [], [], [], [], [], [], [], [], [], [], [], [], [], [], [], [], [], [], [4053], [], [], [], [], [], [], [], [], [], [], [], [1122], [], [], [], [3237], [], [], [], [], [], [], [], [], [], [1122], [], [], [], [], [1122], [], [], [], [], [], [], [4041], [], [], [], [], [], [], [], [], [4025], [], [], [], [], [], [], [], [], [], [], [], [], [], [1123], [], [], [1122], [], [], [], [], [], [], [4049], [], [], [], [], [], [], [], [], [4066], [], [4033], [], [], [], []]
noncomputable def cd_81 : zK := [zj (.aload 0) 1 0 0 0, zj (.iload 1) 2 1 0 0, zj (.invokevirtual 0) 5 83 1 8, none, none, zj (.ifCond .ne 0) 8 10 0 0, none, none, zi (.aconst_null) 9 0 0 0 (.int 0), zj (.ireturn) 10 0 0 0, zj (.aload 0) 11 0 0 0, zj (.invokevirtual 0) 14 82 0 8, none, none, zj (.istore 2) 15 2 0 0, zj (.iload 2) 16 2 0 0, zi (.aconst_null) 17 0 0 0 (.int (-1)), zj (.if_icmp .eq 0) 20 28 0 0, none, none, zj (.aload 0) 21 0 0 0, zj (.iload 1) 22 1 0 0, zj (.invokevirtual 0) 25 83 1 8, none, none, zj (.ifCond .ne 0) 28 30 0 0, none, none, zi (.aconst_null) 29 0 0 0 (.int 0), zj (.ireturn) 30 0 0 0, zj (.aload 0) 31 0 0 0, zj (.iload 2) 32 2 0 0, zj (.invokevirtual 0) 35 92 1 8, none, none, zi (.aconst_null) 36 0 0 0 (.int 1), zj (.ireturn) 37 0 0 0]
noncomputable def pp_81 : List (List Nat) := [[], [], [4009], [], [], [], [], [], [], [], [], [4057], [], [], [], [], [], [], [], [], [], [], [4009], [], [], [], [], [], [], [], [], [], [4033], [], [], [], []]
noncomputable def cd_82 : zK := [zj (.aload 0) 1 0 0 0, zj (.invokevirtual 0) 4 90 0 8, none, none, zj (.istore 1) 5 1 0 0, zj (.iload 1) 6 1 0 0, zi (.aconst_null) 8 0 0 0 (.int 60), none, zj (.if_icmp .eq 0) 11 35 0 0, none, none, zj (.iload 1) 12 1 0 0, zi (.aconst_null) 14 0 0 0 (.int 61), none, zj (.if_icmp .eq 0) 17 35 0 0, none, none, zj (.iload 1) 18 1 0 0, zi (.aconst_null) 20 0 0 0 (.int 62), none, zj (.if_icmp .eq 0) 23 35 0 0, none, none, zj (.aload 0) 24 0 0 0, zj (.aload 0) 25 0 0 0, zj (.getfield 0) 28 8 2 0, none, none, zi (.aconst_null) 29 0 0 0 (.int 0), zj (.invokevirtual 0) 32 93 2 8, none, none, zj (.pop) 33 0 0 0, zi (.aconst_null) 34 0 0 0 (.int (-1)), zj (.ireturn) 35 0 0 0, zj (.aload 0) 36 0 0 0, zj (.invokevirtual 0) 39 87 0 8, none, none, zj (.ifCond .ne 0) 42 44 0 0, none, none, zi (.aconst_null) 43 0 0 0 (.int (-1)), zj (.ireturn) 44 0 0 0, zj (.aload 0) 45 0 0 0, zj (.dup) 46 0 0 0, zj (.getfield 0) 49 8 2 0, none, none, zi (.aconst_null) 50 0 0 0 (.int 1), zj (.iadd) 51 0 0 0, zj (.putfield 0) 54 8 2 0, none, none, zj (.iload 1) 55 1 0 0, zi (.aconst_null) 57 0 0 0 (.int 61), none, zj (.if_icmp .ne 0) 60 63 0 0, none, none, zi (.aconst_null) 62 0 0 0 (.int 100105), none, zj (.ireturn) 63 0 0 0, zj (.aload 0) 64 0 0 0, zj (.getfield 0) 67 8 2 0, none, none, zj (.aload 0) 68 0 0 0, zj (.getfield 0) 71 8 1 0, none, none, zj (.if_icmp .ge 0) 74 112 0 0, none, none, zj (.aload 0) 75 0 0 0, zj (.getfield 0) 78 8 0 0, none, none, zj (.aload 0) 79 0 0 0, zj (.getfield 0) 82 8 2 0, none, none, zj (.baload) 83 0 0 0, zi (.aconst_null) 85 0 0 0 (.int 61), none, zj (.if_icmp .ne 0) 88 112 0 0, none, none, zj (.aload 0) 89 0 0 0, zj (.dup) 90 0 0 0, zj (.getfield 0) 93 8 2 0, none, none, zi (.aconst_null) 94 0 0 0 (.int 1), zj (.iadd) 95 0 0 0, zj (.putfield 0) 98 8 2 0, none, none, zj (.iload 1) 99 1 0 0, zi (.aconst_null) 101 0 0 0 (.int 60), none, zj (.if_icmp .ne 0) 104 109 0 0, none, none, zi (.aconst_null) 106 0 0 0 (.int 100104), none, zj (.goto 0) 109 111 0 0, none, none, zi (.aconst_null) 111 0 0 0 (.int 100106), none, zj (.ireturn) 112 0 0 0, zj (.iload 1) 113 1 0 0, zi (.aconst_null) 115 0 0 0 (.int 60), none, zj (.if_icmp .ne 0) 118 123 0 0, none, none, zi (.aconst_null) 120 0 0 0 (.int 100103), none, zj (.goto 0) 123 125 0 0, none, none, zi (.aconst_null) 125 0 0 0 (.int 100107), none, zj (.ireturn) 126 0 0 0]
noncomputable def pp_82 : List (List Nat) := [[], [3184], [], [], [], [], [], [], [], [], [], [], [], [], [], [], [], [], [], [], [], [], [], [], [], [1122], [], [], [], [3237], [], [], [], [], [], [], [4021], [], [], [], [], [], [], [], [], [], [1122], [], [], [], [], [1122], [], [], [], [], [], [], [], [], [4061], [], [], [], [1122], [], [], [], [1120], [], [], [], [], [], [], [1119], [], [], [], [1122], [], [], [], [], [], [], [], [], [], [], [1122], [], [], [], [], [1122], [], [], [], [], [], [], [], [], [4062], [], [], [], [], [4063], [], [], [], [], [], [], [], [], [4064], [], [], [], [], [4065], [], []]
noncomputable def cd_83 : zK := [zj (.aload 0) 1 0 0 0, zj (.iload 1) 2 1 0 0, zj (.invokevirtual 0) 5 84 1 8, none, none, zj (.ifCond .ne 0) 8 10 0 0, none, none, zi (.aconst_null) 9 0 0 0 (.int 0), zj (.ireturn) 10 0 0 0, zi (.aconst_null) 11 0 0 0 (.int 0), zj (.istore 2) 12 2 0 0, zj (.iload 2) 13 2 0 0, zi (.aconst_null) 16 0 0 0 (.int 400), none, none, zj (.if_icmp .ge 0) 19 82 0 0, none, none, zj (.aload 0) 20 0 0 0, zj (.invokevirtual 0) 23 90 0 8, none, none, zj (.istore 3) 24 3 0 0, zj (.iload 3) 25 3 0 0, zi (.aconst_null) 27 0 0 0 (.int 43), none, zj (.if_icmp .eq 0) 30 39 0 0, none, none, zj (.iload 3) 31 3 0 0, zi (.aconst_null) 33 0 0 0 (.int 45), none, zj (.if_icmp .eq 0) 36 39 0 0, none, none, zj (.goto 0) 39 82 0 0, none, none, zj (.aload 0) 40 0 0 0, zj (.dup) 41 0 0 0, zj (.getfield 0) 44 8 2 0, none, none, zi (.aconst_null) 45 0 0 0 (.int 1), zj (.iadd) 46 0 0 0, zj (.putfield 0) 49 8 2 0, none, none, zj (.aload 0) 50 0 0 0, zj (.iload 1) 51 1 0 0, zj (.invokevirtual 0) 54 84 1 8, none, none, zj (.ifCond .ne 0) 57 59 0 0, none, none, zi (.aconst_null) 58 0 0 0 (.int 0), zj (.ireturn) 59 0 0 0, zj (.aload 0) 60 0 0 0, zj (.iload 3) 61 3 0 0, zi (.aconst_null) 63 0 0 0 (.int 43), none, zj (.if_icmp .ne 0) 66 71 0 0, none, none, zi (.aconst_null) 68 0 0 0 (.int 100100), none, zj (.goto 0) 71 73 0 0, none, none, zi (.aconst_null) 73 0 0 0 (.int 100101), none, zj (.invokevirtual 0) 76 92 1 8, none, none, zi (.iinc 2 1) 79 2 0 0 (.int 1), none, none, zj (.goto 0) 82 12 0 0, none, none, zi (.aconst_null) 83 0 0 0 (.int 1), zj (.ireturn) 84 0 0 0]
noncomputable def pp_83 : List (List Nat) := [[], [], [4013], [], [], [], [], [], [], [], [], [], [], [], [], [], [], [], [], [], [3184], [], [], [], [], [], [], [], [], [], [], [], [], [], [], [], [], [], [], [], [], [1122], [], [], [], [], [1122], [], [], [], [], [4013], [], [], [], [], [], [], [], [], [], [], [], [], [], [], [4039], [], [], [], [], [4040], [], [4033], [], [], [], [], [], [], [], [], [], []]
noncomputable def cd_84 : zK := [zj (.aload 0) 1 0 0 0, zj (.iload 1) 2 1 0 0, zj (.invokevirtual 0) 5 85 1 8, none, none, zj (.ifCond .ne 0) 8 10 0 0, none, none, zi (.aconst_null) 9 0 0 0 (.int 0), zj (.ireturn) 10 0 0 0, zi (.aconst_null) 11 0 0 0 (.int 0), zj (.istore 2) 12 2 0 0, zj (.iload 2) 13 2 0 0, zi (.aconst_null) 16 0 0 0 (.int 400), none, none, zj (.if_icmp .ge 0) 19 60 0 0, none, none, zj (.aload 0) 20 0 0 0, zj (.invokevirtual 0) 23 90 0 8, none, none, zi (.aconst_null) 25 0 0 0 (.int 42), none, zj (.if_icmp .ne 0) 28 60 0 0, none, none, zj (.aload 0) 29 0 0 0, zj (.dup) 30 0 0 0, zj (.getfield 0) 33 8 2 0, none, none, zi (.aconst_null) 34 0 0 0 (.int 1), zj (.iadd) 35 0 0 0, zj (.putfield 0) 38 8 2 0, none, none, zj (.aload 0) 39 0 0 0, zj (.iload 1) 40 1 0 0, zj (.invokevirtual 0) 43 85 1 8, none, none, zj (.ifCond .ne 0) 46 48 0 0, none, none, zi (.aconst_null) 47 0 0 0 (.int 0), zj (.ireturn) 48 0 0 0, zj (.aload 0) 49 0 0 0, zi (.aconst_null) 51 0 0 0 (.int 100102), none, zj (.invokevirtual 0) 54 92 1 8, none, none, zi (.iinc 2 1) 57 2 0 0 (.int 1), none, none, zj (.goto 0) 60 12 0 0, none, none, zi (.aconst_null) 61 0 0 0 (.int 1), zj (.ireturn) 62 0 0 0]
noncomputable def pp_84 : List (List Nat) := [[], [], [4017], [], [], [], [], [], [], [], [], [], [], [], [], [], [], [], [], [], [3184], [], [], [], [], [], [], [], [], [], [1122], [], [], [], [], [1122], [], [], [], [], [4017], [], [], [], [], [], [], [], [], [4038], [], [4033], [], [], [], [], [], [], [], [], [], []]
noncomputable def cd_85 : zK := [zj (.aload 0) 1 0 0 0, zj (.invokevirtual 0) 4 90 0 8, none, none, zi (.aconst_null) 6 0 0 0 (.int 40), none, zj (.if_icmp .ne 0) 9 69 0 0, none, none, zj (.iload 1) 10 1 0 0, zi (.aconst_null) 12 0 0 0 (.int 10), none, zj (.if_icmp .ne 0) 15 25 0 0, none, none, zj (.aload 0) 16 0 0 0, zj (.aload 0) 17 0 0 0, zj (.getfield 0) 20 8 2 0, none, none, zi (.aconst_null) 21 0 0 0 (.int 2), zj (.invokevirtual 0) 24 93 2 8, none, none, zj (.ireturn) 25 0 0 0, zj (.aload 0) 26 0 0 0, zj (.invokevirtual 0) 29 87 0 8, none, none, zj (.ifCond .ne 0) 32 34 0 0, none, none, zi (.aconst_null) 33 0 0 0 (.int 0), zj (.ireturn) 34 0 0 0, zj (.aload 0) 35 0 0 0, zj (.dup) 36 0 0 0, zj (.getfield 0) 39 8 2 0, none, none, zi (.aconst_null) 40 0 0 0 (.int 1), zj (.iadd) 41 0 0 0, zj (.putfield 0) 44 8 2 0, none, none, zj (.aload 0) 45 0 0 0, zj (.iload 1) 46 1 0 0, zi (.aconst_null) 47 0 0 0 (.int 1), zj (.iadd) 48 0 0 0, zj (.invokevirtual 0) 51 83 1 8, none, none, zj (.ifCond .eq 0) 54 67 0 0, none, none, zj (.aload 0) 55 0 0 0, zi (.aconst_null) 57 0 0 0 (.int 41), none, zj (.invokevirtual 0) 60 88 1 8, none, none, zj (.ifCond .eq 0) 63 67 0 0, none, none, zi (.aconst_null) 64 0 0 0 (.int 1), zj (.goto 0) 67 68 0 0, none, none, zi (.aconst_null) 68 0 0 0 (.int 0), zj (.ireturn) 69 0 0 0, zj (.aload 0) 70 0 0 0, zj (.invokevirtual 0) 73 91 0 8, none, none, zj (.istore 2) 74 2 0 0, zj (.iload 2) 75 2 0 0, zi (.aconst_null) 76 0 0 0 (.int (-1)), zj (.if_icmp .eq 0) 79 106 0 0, none, none, zj (.iload 2) 80 2 0 0, zi (.aconst_null) 82 0 0 0 (.int 12), none, zj (.if_icmp .ge 0) 85 106 0 0, none, none, zj (.aload 0) 86 0 0 0, zj (.invokevirtual 0) 89 87 0 8, none, none, zj (.ifCond .eq 0) 92 104 0 0, none, none, zj (.aload 0) 93 0 0 0, zj (.iload 2) 94 2 0 0, zj (.invokevirtual 0) 97 86 1 8, none, none, zj (.ifCond .eq 0) 100 104 0 0, none, none, zi (.aconst_null) 101 0 0 0 (.int 1), zj (.goto 0) 104 105 0 0, none, none, zi (.aconst_null) 105 0 0 0 (.int 0), zj (.ireturn) 106 0 0 0, zj (.aload 0) 107 0 0 0, zj (.getfield 0) 110 8 2 0, none, none, zj (.istore 3) 111 3 0 0, zj (.aload 0) 112 0 0 0, zi (.aconst_null) 114 0 0 0 (.int 99999), none, zj (.invokevirtual 0) 117 89 1 8, none, none, zj (.istore 4) 119 4 0 0, none, zj (.iload 4) 121 4 0 0, none, zi (.aconst_null) 122 0 0 0 (.int (-1)), zj (.if_icmp .ne 0) 125 127 0 0, none, none, zi (.aconst_null) 126 0 0 0 (.int 0), zj (.ireturn) 127 0 0 0, zj (.aload 0) 128 0 0 0, zj (.getfield 0) 131 8 8 0, none, none, zi (.aconst_null) 133 0 0 0 (.int 80), none, zj (.if_icmp .ne 0) 136 143 0 0, none, none, zj (.aload 0) 137 0 0 0, zj (.iload 3) 138 3 0 0, zi (.aconst_null) 139 0 0 0 (.int 3), zj (.invokevirtual 0) 142 93 2 8, none, none, zj (.ireturn) 143 0 0 0, zj (.aload 0) 144 0 0 0, zj (.dup) 145 0 0 0, zj (.getfield 0) 148 8 8 0, none, none, zi (.aconst_null) 149 0 0 0 (.int 1), zj (.iadd) 150 0 0 0, zj (.putfield 0) 153 8 8 0, none, none, zj (.aload 0) 154 0 0 0, zj (.iload 4) 156 4 0 0, none, zj (.invokevirtual 0) 159 92 1 8, none, none, zi (.aconst_null) 160 0 0 0 (.int 1), zj (.ireturn) 161 0 0 0]
noncomputable def pp_85 : List (List Nat) := [[], [3184], [], [], [], [], [], [], [], [], [], [], [], [], [], [], [], [1122], [], [], [], [3237], [], [], [], [], [4021], [], [], [], [], [], [], [], [], [], [1122], [], [], [], [], [1122], [], [], [], [], [], [], [4009], [], [], [], [], [], [], [], [], [4025], [], [], [], [], [], [], [], [], [], [], [], [], [3180], [], [], [], [], [], [], [], [], [], [], [], [], [], [], [], [4021], [], [], [], [], [], [], [], [4029], [], [], [], [], [], [], [], [], [], [], [], [], [1122], [], [], [], [], [4037], [], [4001], [], [], [], [], [], [], [], [], [], [], [], [], [], [1132], [], [], [], [], [], [], [], [], [], [], [3237], [], [], [], [], [], [1132], [], [], [], [], [1132], [], [], [], [], [], [4033], [], [], [], []]
noncomputable def cd_86 : zK := [zj (.aload 0) 1 0 0 0, zj (.aload 0) 2 0 0 0, zj (.getfield 0) 5 8 3 0, none, none, zj (.putfield 0) 8 8 2 0, none, none, zj (.aload 0) 9 0 0 0, zi (.aconst_null) 11 0 0 0 (.int 100000), none, zj (.iload 1) 12 1 0 0, zj (.iadd) 13 0 0 0, zj (.invokevirtual 0) 16 92 1 8, none, none, zi (.aconst_null) 17 0 0 0 (.int 1), zj (.ireturn) 18 0 0 0]
noncomputable def pp_86 : List (List Nat) := [[], [], [1123], [], [], [1122], [], [], [], [4005], [], [], [], [4033], [], [], [], []]
noncomputable def cd_87 : zK := [zj (.aload 0) 1 0 0 0, zj (.getfield 0) 4 8 8 0, none, none, zi (.aconst_null) 6 0 0 0 (.int 80), none, zj (.if_icmp .ne 0) 9 19 0 0, none, none, zj (.aload 0) 10 0 0 0, zj (.aload 0) 11 0 0 0, zj (.getfield 0) 14 8 2 0, none, none, zi (.aconst_null) 15 0 0 0 (.int 3), zj (.invokevirtual 0) 18 93 2 8, none, none, zj (.ireturn) 19 0 0 0, zj (.aload 0) 20 0 0 0, zj (.dup) 21 0 0 0, zj (.getfield 0) 24 8 8 0, none, none, zi (.aconst_null) 25 0 0 0 (.int 1), zj (.iadd) 26 0 0 0, zj (.putfield 0) 29 8 8 0, none, none, zi (.aconst_null) 30 0 0 0 (.int 1), zj (.ireturn) 31 0 0 0]
noncomputable def pp_87 : List (List Nat) := [[], [1132], [], [], [], [], [], [], [], [], [], [1122], [], [], [], [3237], [], [], [], [], [], [1132], [], [], [], [], [1132], [], [], [], []]
noncomputable def cd_88 : zK := [zj (.aload 0) 1 0 0 0, zj (.invokevirtual 0) 4 90 0 8, none, none, zj (.iload 1) 5 1 0 0, zj (.if_icmp .eq 0) 8 18 0 0, none, none, zj (.aload 0) 9 0 0 0, zj (.aload 0) 10 0 0 0, zj (.getfield 0) 13 8 2 0, none, none, zi (.aconst_null) 14 0 0 0 (.int 0), zj (.invokevirtual 0) 17 93 2 8, none, none, zj (.ireturn) 18 0 0 0, zj (.aload 0) 19 0 0 0, zj (.dup) 20 0 0 0, zj (.getfield 0) 23 8 2 0, none, none, zi (.aconst_null) 24 0 0 0 (.int 1), zj (.iadd) 25 0 0 0, zj (.putfield 0) 28 8 2 0, none, none, zi (.aconst_null) 29 0 0 0 (.int 1), zj (.ireturn) 30 0 0 0]
noncomputable def pp_88 : List (List Nat) := [[], [3184], [], [], [], [], [], [], [], [], [1122], [], [], [], [3237], [], [], [], [], [], [1122], [], [], [], [], [1122], [], [], [], []]
noncomputable def cd_89 : zK := [zj (.aload 0) 1 0 0 0, zj (.invokevirtual 0) 4 90 0 8, none, none, zj (.istore 2) 5 2 0 0, zj (.aload 0) 6 0 0 0, zj (.getfield 0) 9 8 2 0, none, none, zj (.istore 3) 10 3 0 0, zi (.aconst_null) 11 0 0 0 (.int 0), zj (.istore 4) 13 4 0 0, none, zj (.iload 3) 14 3 0 0, zj (.aload 0) 15 0 0 0, zj (.getfield 0) 18 8 1 0, none, none, zj (.if_icmp .ge 0) 21 71 0 0, none, none, zj (.aload 0) 22 0 0 0, zj (.getfield 0) 25 8 0 0, none, none, zj (.iload 3) 26 3 0 0, zj (.baload) 27 0 0 0, zi (.aconst_null) 29 0 0 0 (.int 48), none, zj (.if_icmp .lt 0) 32 71 0 0, none, none, zj (.aload 0) 33 0 0 0, zj (.getfield 0) 36 8 0 0, none, none, zj (.iload 3) 37 3 0 0, zj (.baload) 38 0 0 0, zi (.aconst_null) 40 0 0 0 (.int 57), none, zj (.if_icmp .gt 0) 43 71 0 0, none, none, zj (.iload 4) 45 4 0 0, none, zi (.aconst_null) 47 0 0 0 (.int 10), none, zj (.imul) 48 0 0 0, zj (.aload 0) 49 0 0 0, zj (.getfield 0) 52 8 0 0, none, none, zj (.iload 3) 53 3 0 0, zj (.baload) 54 0 0 0, zi (.aconst_null) 56 0 0 0 (.int 48), none, zj (.isub) 57 0 0 0, zj (.iadd) 58 0 0 0, zi (.aconst_null) 60 0 0 0 (.int 100000), none, none, none, none, zj (.istore 4) 65 4 0 0, none, zi (.iinc 3 1) 68 3 0 0 (.int 1), none, none, zj (.goto 0) 71 13 0 0, none, none, zj (.iload 3) 72 3 0 0, zj (.aload 0) 73 0 0 0, zj (.getfield 0) 76 8 2 0, none, none, zj (.if_icmp .ne 0) 79 91 0 0, none, none, zj (.aload 0) 80 0 0 0, zj (.aload 0) 81 0 0 0, zj (.getfield 0) 84 8 2 0, none, none, zi (.aconst_null) 85 0 0 0 (.int 0), zj (.invokevirtual 0) 88 93 2 8, none, none, zj (.pop) 89 0 0 0, zi (.aconst_null) 90 0 0 0 (.int (-1)), zj (.ireturn) 91 0 0 0, zj (.iload 3) 92 3 0 0, zj (.aload 0) 93 0 0 0, zj (.getfield 0) 96 8 2 0, none, none, zj (.isub) 97 0 0 0, zi (.aconst_null) 98 0 0 0 (.int 5), zj (.if_icmp .gt 0) 101 107 0 0, none, none, zj (.iload 4) 103 4 0 0, none, zj (.iload 1) 104 1 0 0, zj (.if_icmp .le 0) 107 119 0 0, none, none, zj (.aload 0) 108 0 0 0, zj (.aload 0) 109 0 0 0, zj (.getfield 0) 112 8 2 0, none, none, zi (.aconst_null) 113 0 0 0 (.int 1), zj (.invokevirtual 0) 116 93 2 8, none, none, zj (.pop) 117 0 0 0, zi (.aconst_null) 118 0 0 0 (.int (-1)), zj (.ireturn) 119 0 0 0, zj (.aload 0) 120 0 0 0, zj (.iload 3) 121 3 0 0, zj (.putfield 0) 124 8 2 0, none, none, zj (.iload 4) 126 4 0 0, none, zj (.ireturn) 127 0 0 0]
noncomputable def pp_89 : List (List Nat) := [[], [3184], [], [], [], [], [1122], [], [], [], [], [], [], [], [], [1120], [], [], [], [], [], [], [1119], [], [], [], [], [], [], [], [], [], [], [1119], [], [], [], [], [], [], [], [], [], [], [], [], [], [], [], [1119], [], [], [], [], [], [], [], [], [4005], [], [], [], [], [], [], [], [], [], [], [], [], [], [], [1122], [], [], [], [], [], [], [], [1122], [], [], [], [3237], [], [], [], [], [], [], [], [1122], [], [], [], [], [], [], [], [], [], [], [], [], [], [], [], [1122], [], [], [], [3237], [], [], [], [], [], [], [], [1122], [], [], [], [], []]
noncomputable def cd_90 : zK := [zj (.aload 0) 1 0 0 0, zj (.getfield 0) 4 8 2 0, none, none, zj (.aload 0) 5 0 0 0, zj (.getfield 0) 8 8 1 0, none, none, zj (.if_icmp .ge 0) 11 38 0 0, none, none, zj (.aload 0) 12 0 0 0, zj (.getfield 0) 15 8 0 0, none, none, zj (.aload 0) 16 0 0 0, zj (.getfield 0) 19 8 2 0, none, none, zj (.baload) 20 0 0 0, zi (.aconst_null) 22 0 0 0 (.int 32), none, zj (.if_icmp .ne 0) 25 38 0 0, none, none, zj (.aload 0) 26 0 0 0, zj (.dup) 27 0 0 0, zj (.getfield 0) 30 8 2 0, none, none, zi (.aconst_null) 31 0 0 0 (.int 1), zj (.iadd) 32 0 0 0, zj (.putfield 0) 35 8 2 0, none, none, zj (.goto 0) 38 0 0 0, none, none, zj (.aload 0) 39 0 0 0, zj (.getfield 0) 42 8 2 0, none, none, zj (.aload 0) 43 0 0 0, zj (.getfield 0) 46 8 1 0, none, none, zj (.if_icmp .ge 0) 49 65 0 0, none, none, zj (.aload 0) 50 0 0 0, zj (.getfield 0) 53 8 0 0, none, none, zj (.aload 0) 54 0 0 0, zj (.getfield 0) 57 8 2 0, none, none, zj (.baload) 58 0 0 0, zi (.aconst_null) 61 0 0 0 (.int 255), none, none, zj (.iand) 62 0 0 0, zj (.goto 0) 65 66 0 0, none, none, zi (.aconst_null) 66 0 0 0 (.int (-1)), zj (.ireturn) 67 0 0 0]
noncomputable def pp_90 : List (List Nat) := [[], [1122], [], [], [], [1120], [], [], [], [], [], [], [1119], [], [], [], [1122], [], [], [], [], [], [], [], [], [], [], [1122], [], [], [], [], [1122], [], [], [], [], [], [], [1122], [], [], [], [1120], [], [], [], [], [], [], [1119], [], [], [], [1122], [], [], [], [], [], [], [], [], [], [], [], []]
noncomputable def cd_91 : zK := [zj (.aload 0) 1 0 0 0, zj (.invokevirtual 0) 4 90 0 8, none, none, zj (.pop) 5 0 0 0, zj (.aload 0) 6 0 0 0, zj (.aload 0) 7 0 0 0, zj (.getfield 0) 10 8 2 0, none, none, zj (.putfield 0) 13 8 3 0, none, none, zj (.aload 0) 14 0 0 0, zj (.getfield 0) 17 8 3 0, none, none, zj (.aload 0) 18 0 0 0, zj (.getfield 0) 21 8 1 0, none, none, zj (.if_icmp .ge 0) 24 65 0 0, none, none, zj (.aload 0) 25 0 0 0, zj (.getfield 0) 28 8 0 0, none, none, zj (.aload 0) 29 0 0 0, zj (.getfield 0) 32 8 3 0, none, none, zj (.baload) 33 0 0 0, zi (.aconst_null) 35 0 0 0 (.int 97), none, zj (.if_icmp .lt 0) 38 65 0 0, none, none, zj (.aload 0) 39 0 0 0, zj (.getfield 0) 42 8 0 0, none, none, zj (.aload 0) 43 0 0 0, zj (.getfield 0) 46 8 3 0, none, none, zj (.baload) 47 0 0 0, zi (.aconst_null) 49 0 0 0 (.int 122), none, zj (.if_icmp .gt 0) 52 65 0 0, none, none, zj (.aload 0) 53 0 0 0, zj (.dup) 54 0 0 0, zj (.getfield 0) 57 8 3 0, none, none, zi (.aconst_null) 58 0 0 0 (.int 1), zj (.iadd) 59 0 0 0, zj (.putfield 0) 62 8 3 0, none, none, zj (.goto 0) 65 13 0 0, none, none, zi (.aconst_null) 66 0 0 0 (.int 0), zj (.istore 1) 67 1 0 0, zj (.aload 0) 68 0 0 0, zj (.getfield 0) 71 8 2 0, none, none, zj (.istore 2) 72 2 0 0, zi (.aconst_null) 73 0 0 0 (.int 1), zj (.istore 3) 74 3 0 0, zi (.aconst_null) 75 0 0 0 (.int 0), zj (.istore 4) 77 4 0 0, none, zj (.iload 4) 79 4 0 0, none, none, none, none, none, none, zj (.if_icmp .ge 0) 87 168 0 0, none, none, none, none, zj (.iload 4) 91 4 0 0, none, none, none, none, zj (.istore 5) 96 5 0 0, none, zj (.iload 5) 98 5 0 0, none, zi (.aconst_null) 100 0 0 0 (.int 32), none, zj (.if_icmp .eq 0) 103 138 0 0, none, none, zj (.iload 3) 104 3 0 0, zj (.ifCond .eq 0) 107 130 0 0, none, none, zj (.iload 2) 108 2 0 0, zj (.aload 0) 109 0 0 0, zj (.getfield 0) 112 8 3 0, none, none, zj (.if_icmp .ge 0) 115 130 0 0, none, none, zj (.aload 0) 116 0 0 0, zj (.getfield 0) 119 8 0 0, none, none, zj (.iload 2) 120 2 0 0, zj (.baload) 121 0 0 0, zj (.iload 5) 123 5 0 0, none, zj (.if_icmp .ne 0) 126 130 0 0, none, none, zi (.aconst_null) 127 0 0 0 (.int 1), zj (.goto 0) 130 131 0 0, none, none, zi (.aconst_null) 131 0 0 0 (.int 0), zj (.istore 3) 132 3 0 0, zi (.iinc 2 1) 135 2 0 0 (.int 1), none, none, zj (.goto 0) 138 162 0 0, none, none, zj (.iload 3) 139 3 0 0, zj (.ifCond .eq 0) 142 152 0 0, none, none, zj (.iload 2) 143 2 0 0, zj (.aload 0) 144 0 0 0, zj (.getfield 0) 147 8 3 0, none, none, zj (.if_icmp .ne 0) 150 152 0 0, none, none, zj (.iload 1) 151 1 0 0, zj (.ireturn) 152 0 0 0, zi (.iinc 1 1) 155 1 0 0 (.int 1), none, none, zj (.aload 0) 156 0 0 0, zj (.getfield 0) 159 8 2 0, none, none, zj (.istore 2) 160 2 0 0, zi (.aconst_null) 161 0 0 0 (.int 1), zj (.istore 3) 162 3 0 0, zi (.iinc 4 1) 165 4 0 0 (.int 1), none, none, zj (.goto 0) 168 77 0 0, none, none, zi (.aconst_null) 169 0 0 0 (.int (-1)), zj (.ireturn) 170 0 0 0]
noncomputable def pp_91 : List (List Nat) := [[], [3184], [], [], [], [], [], [1122], [], [], [1123], [], [], [], [1123], [], [], [], [1120], [], [], [], [], [], [], [1119], [], [], [], [1123], [], [], [], [], [], [], [], [], [], [1119], [], [], [], [1123], [], [], [], [], [], [], [], [], [], [], [1123], [], [], [], [], [1123], [], [], [], [], [], [], [], [], [1122], [], [], [], [], [], [], [], [], [], [], [], [], [], [], [], [], [], [], [], [], [], [], [], [], [], [], [], [], [], [], [], [], [], [], [], [], [], [], [], [], [1123], [], [], [], [], [], [], [1119], [], [], [], [], [], [], [], [], [], [], [], [], [], [], [], [], [], [], [], [], [], [], [], [], [], [], [], [1123], [], [], [], [], [], [], [], [], [], [], [], [1122], [], [], [], [], [], [], [], [], [], [], [], [], []]
noncomputable def cd_92 : zK := [zj (.aload 0) 1 0 0 0, zj (.getfield 0) 4 8 5 0, none, none, zj (.aload 0) 5 0 0 0, zj (.getfield 0) 8 8 4 0, none, none, zj (.arraylength) 9 0 0 0, zj (.if_icmp .ge 0) 12 32 0 0, none, none, zj (.aload 0) 13 0 0 0, zj (.getfield 0) 16 8 4 0, none, none, zj (.aload 0) 17 0 0 0, zj (.getfield 0) 20 8 5 0, none, none, zj (.iload 1) 21 1 0 0, zj (.iastore) 22 0 0 0, zj (.aload 0) 23 0 0 0, zj (.dup) 24 0 0 0, zj (.getfield 0) 27 8 5 0, none, none, zi (.aconst_null) 28 0 0 0 (.int 1), zj (.iadd) 29 0 0 0, zj (.putfield 0) 32 8 5 0, none, none, zj (.return_) 33 0 0 0]
noncomputable def pp_92 : List (List Nat) := [[], [1127], [], [], [], [1124], [], [], [], [], [], [], [], [1124], [], [], [], [1127], [], [], [], [], [], [], [1127], [], [], [], [], [1127], [], [], []]
noncomputable def cd_93 : zK := [zj (.aload 0) 1 0 0 0, zi (.aconst_null) 2 0 0 0 (.int 1), zi (.aconst_null) 4 0 0 0 (.int 8), none, zj (.iload 1) 5 1 0 0, zj (.imul) 6 0 0 0, zj (.iadd) 7 0 0 0, zj (.iload 2) 8 2 0 0, zj (.iadd) 9 0 0 0, zj (.putfield 0) 12 8 9 0, none, none, zi (.aconst_null) 13 0 0 0 (.int 0), zj (.ireturn) 14 0 0 0]
noncomputable def pp_93 : List (List Nat) := [[], [], [], [], [], [], [], [], [], [1133], [], [], [], []]
noncomputable def cd_94 : zK := [zj (.aload 0) 1 0 0 0, zj (.pop2) 4 0 0 0, none, none, zj (.aload 0) 5 0 0 0, zi (.aconst_null) 7 0 0 0 (.int 9), none, zj (.newarray .int) 9 0 0 0, none, zj (.putfield 0) 12 9 0 0, none, none, zj (.aload 0) 13 0 0 0, zi (.aconst_null) 15 0 0 0 (.int 9), none, zj (.newarray .int) 17 0 0 0, none, zj (.putfield 0) 20 9 1 0, none, none, zj (.aload 0) 21 0 0 0, zi (.aconst_null) 23 0 0 0 (.int 9), none, zi (.aconst_null) 25 0 0 0 (.int 9), none, zj (.multianewarray 0 0) 29 0 0 0, none, none, none, zj (.putfield 0) 32 9 2 0, none, none, zj (.aload 0) 33 0 0 0, zi (.aconst_null) 34 0 0 0 (.int (-1)), zj (.putfield 0) 37 9 4 0, none, none, zj (.aload 0) 38 0 0 0, zi (.aconst_null) 39 0 0 0 (.int (-1)), zj (.putfield 0) 42 9 5 0, none, none, zj (.return_) 43 0 0 0]
noncomputable def pp_94 : List (List Nat) := [[], [2122, 1027, 1028], [], [], [], [], [], [1068], [], [2124], [], [], [], [], [], [1068], [], [2125], [], [], [], [], [], [], [], [2123, 1036, 1068], [], [], [], [2126], [], [], [], [], [2128], [], [], [], [], [2130], [], [], []]
noncomputable def cd_95 : zK := [zj (.iload 1) 1 1 0 0, zj (.ifCond .lt 0) 4 16 0 0, none, none, zj (.iload 1) 5 1 0 0, zj (.aload 0) 6 0 0 0, zj (.getfield 0) 9 9 3 0, none, none, zj (.if_icmp .ge 0) 12 16 0 0, none, none, zi (.aconst_null) 13 0 0 0 (.int 1), zj (.goto 0) 16 17 0 0, none, none, zi (.aconst_null) 17 0 0 0 (.int 0), zj (.ireturn) 18 0 0 0]
noncomputable def pp_95 : List (List Nat) := [[], [], [], [], [], [], [2127], [], [], [], [], [], [], [], [], [], [], []]
noncomputable def cd_96 : zK := [zj (.aload 0) 1 0 0 0, zj (.getfield 0) 4 9 3 0, none, none, zi (.aconst_null) 6 0 0 0 (.int 9), none, zj (.if_icmp .ne 0) 9 11 0 0, none, none, zi (.aconst_null) 10 0 0 0 (.int (-1)), zj (.ireturn) 11 0 0 0, zj (.aload 0) 12 0 0 0, zj (.getfield 0) 15 9 0 0, none, none, zj (.aload 0) 16 0 0 0, zj (.getfield 0) 19 9 3 0, none, none, zj (.iload 1) 20 1 0 0, zj (.iastore) 21 0 0 0, zj (.aload 0) 22 0 0 0, zj (.getfield 0) 25 9 1 0, none, none, zj (.aload 0) 26 0 0 0, zj (.getfield 0) 29 9 3 0, none, none, zj (.iload 2) 30 2 0 0, zj (.iastore) 31 0 0 0, zj (.aload 0) 32 0 0 0, zj (.dup) 33 0 0 0, zj (.getfield 0) 36 9 3 0, none, none, zj (.dup_x1) 37 0 0 0, zi (.aconst_null) 38 0 0 0 (.int 1), zj (.iadd) 39 0 0 0, zj (.putfield 0) 42 9 3 0, none, none, zj (.ireturn) 43 0 0 0]
noncomputable def pp_96 : List (List Nat) := [[], [2127], [], [], [], [], [], [], [], [], [], [], [2124], [], [], [], [2127], [], [], [], [], [], [2125], [], [], [], [2127], [], [], [], [], [], [], [2127], [], [], [], [], [], [2127], [], [], []]
noncomputable def cd_97 : zK := [zj (.aload 0) 1 0 0 0, zj (.getfield 0) 4 9 2 0, none, none, zj (.iload 1) 5 1 0 0, zj (.aaload) 6 0 0 0, zj (.iload 2) 7 2 0 0, zj (.iaload) 8 0 0 0, zj (.istore 4) 10 4 0 0, none, zj (.aload 0) 11 0 0 0, zj (.getfield 0) 14 9 2 0, none, none, zj (.iload 1) 15 1 0 0, zj (.aaload) 16 0 0 0, zj (.iload 2) 17 2 0 0, zj (.iload 3) 18 3 0 0, zj (.iastore) 19 0 0 0, zj (.aload 0) 20 0 0 0, zj (.getfield 0) 23 9 2 0, none, none, zj (.iload 2) 24 2 0 0, zj (.aaload) 25 0 0 0, zj (.iload 1) 26 1 0 0, zj (.iload 3) 27 3 0 0, zj (.iastore) 28 0 0 0, zj (.iload 4) 30 4 0 0, none, zj (.ireturn) 31 0 0 0]
noncomputable def pp_97 : List (List Nat) := [[], [2126], [], [], [], [], [], [], [], [], [], [2126], [], [], [], [], [], [], [], [], [2126], [], [], [], [], [], [], [], [], [], []]
noncomputable def cd_98 : zK := [zi (.aconst_null) 1 0 0 0 (.int 0), zj (.istore 2) 2 2 0 0, zj (.aload 0) 3 0 0 0, zi (.aconst_null) 4 0 0 0 (.int 0), zj (.putfield 0) 7 9 4 0, none, none, zj (.aload 0) 8 0 0 0, zi (.aconst_null) 9 0 0 0 (.int 0), zj (.putfield 0) 12 9 5 0, none, none, zi (.aconst_null) 13 0 0 0 (.int 1), zj (.istore 3) 14 3 0 0, zj (.iload 3) 15 3 0 0, zi (.aconst_null) 16 0 0 0 (.int 1), zj (.aload 0) 17 0 0 0, zj (.getfield 0) 20 9 3 0, none, none, zj (.ishl) 21 0 0 0, zj (.if_icmp .ge 0) 24 89 0 0, none, none, zj (.aload 0) 25 0 0 0, zj (.iload 3) 26 3 0 0, zj (.invokevirtual 0) 29 99 1 9, none, none, zj (.istore 4) 31 4 0 0, none, zj (.iload 4) 33 4 0 0, none, zj (.iload 1) 34 1 0 0, zj (.if_icmp .gt 0) 37 45 0 0, none, none, zj (.aload 0) 38 0 0 0, zj (.iload 3) 39 3 0 0, zj (.invokevirtual 0) 42 100 1 9, none, none, zj (.goto 0) 45 46 0 0, none, none, zi (.aconst_null) 46 0 0 0 (.int (-1)), zj (.istore 5) 48 5 0 0, none, zj (.iload 5) 50 5 0 0, none, zj (.iload 2) 51 2 0 0, zj (.if_icmp .gt 0) 54 69 0 0, none, none, zj (.iload 5) 56 5 0 0, none, zj (.iload 2) 57 2 0 0, zj (.if_icmp .ne 0) 60 83 0 0, none, none, zj (.iload 4) 62 4 0 0, none, zj (.aload 0) 63 0 0 0, zj (.getfield 0) 66 9 5 0, none, none, zj (.if_icmp .ge 0) 69 83 0 0, none, none, zj (.iload 5) 71 5 0 0, none, zj (.istore 2) 72 2 0 0, zj (.aload 0) 73 0 0 0, zj (.iload 3) 74 3 0 0, zj (.putfield 0) 77 9 4 0, none, none, zj (.aload 0) 78 0 0 0, zj (.iload 4) 80 4 0 0, none, zj (.putfield 0) 83 9 5 0, none, none, zi (.iinc 3 1) 86 3 0 0 (.int 1), none, none, zj (.goto 0) 89 14 0 0, none, none, zj (.iload 2) 90 2 0 0, zj (.ireturn) 91 0 0 0]
noncomputable def pp_98 : List (List Nat) := [[], [], [], [], [2128], [], [], [], [], [2130], [], [], [], [], [], [], [], [2127], [], [], [], [], [], [], [], [], [6025], [], [], [], [], [], [], [], [], [], [], [], [], [6029], [], [], [], [], [], [], [], [], [], [], [], [], [], [], [], [], [], [], [], [], [], [], [], [2130], [], [], [], [], [], [], [], [], [], [], [2128], [], [], [], [], [], [2130], [], [], [], [], [], [], [], [], [], []]
noncomputable def cd_99 : zK := [zi (.aconst_null) 1 0 0 0 (.int 0), zj (.istore 2) 2 2 0 0, zi (.aconst_null) 3 0 0 0 (.int 0), zj (.istore 3) 4 3 0 0, zj (.iload 3) 5 3 0 0, zj (.aload 0) 6 0 0 0, zj (.getfield 0) 9 9 3 0, none, none, zj (.if_icmp .ge 0) 12 33 0 0, none, none, zj (.iload 2) 13 2 0 0, zj (.iload 1) 14 1 0 0, zj (.iload 3) 15 3 0 0, zj (.ishr) 16 0 0 0, zi (.aconst_null) 17 0 0 0 (.int 1), zj (.iand) 18 0 0 0, zj (.aload 0) 19 0 0 0, zj (.getfield 0) 22 9 0 0, none, none, zj (.iload 3) 23 3 0 0, zj (.iaload) 24 0 0 0, zj (.imul) 25 0 0 0, zj (.iadd) 26 0 0 0, zj (.istore 2) 27 2 0 0, zi (.iinc 3 1) 30 3 0 0 (.int 1), none, none, zj (.goto 0) 33 4 0 0, none, none, zj (.iload 2) 34 2 0 0, zj (.ireturn) 35 0 0 0]
noncomputable def pp_99 : List (List Nat) := [[], [], [], [], [], [], [2127], [], [], [], [], [], [], [], [], [], [], [], [], [2124], [], [], [], [], [], [], [], [], [], [], [], [], [], [], []]
noncomputable def cd_100 : zK := [zi (.aconst_null) 1 0 0 0 (.int 0), zj (.istore 2) 2 2 0 0, zi (.aconst_null) 3 0 0 0 (.int 0), zj (.istore 3) 4 3 0 0, zj (.iload 3) 5 3 0 0, zj (.aload 0) 6 0 0 0, zj (.getfield 0) 9 9 3 0, none, none, zj (.if_icmp .ge 0) 12 70 0 0, none, none, zj (.iload 1) 13 1 0 0, zj (.iload 3) 14 3 0 0, zj (.ishr) 15 0 0 0, zi (.aconst_null) 16 0 0 0 (.int 1), zj (.iand) 17 0 0 0, zi (.aconst_null) 18 0 0 0 (.int 1), zj (.if_icmp .ne 0) 21 64 0 0, none, none, zj (.iload 2) 22 2 0 0, zj (.aload 0) 23 0 0 0, zj (.getfield 0) 26 9 1 0, none, none, zj (.iload 3) 27 3 0 0, zj (.iaload) 28 0 0 0, zj (.iadd) 29 0 0 0, zj (.istore 2) 30 2 0 0, zi (.aconst_null) 31 0 0 0 (.int 0), zj (.istore 4) 33 4 0 0, none, zj (.iload 4) 35 4 0 0, none, zj (.iload 3) 36 3 0 0, zj (.if_icmp .ge 0) 39 64 0 0, none, none, zj (.iload 2) 40 2 0 0, zj (.iload 1) 41 1 0 0, zj (.iload 4) 43 4 0 0, none, zj (.ishr) 44 0 0 0, zi (.aconst_null) 45 0 0 0 (.int 1), zj (.iand) 46 0 0 0, zj (.aload 0) 47 0 0 0, zj (.getfield 0) 50 9 2 0, none, none, zj (.iload 3) 51 3 0 0, zj (.aaload) 52 0 0 0, zj (.iload 4) 54 4 0 0, none, zj (.iaload) 55 0 0 0, zj (.imul) 56 0 0 0, zj (.isub) 57 0 0 0, zj (.istore 2) 58 2 0 0, zi (.iinc 4 1) 61 4 0 0 (.int 1), none, none, zj (.goto 0) 64 33 0 0, none, none, zi (.iinc 3 1) 67 3 0 0 (.int 1), none, none, zj (.goto 0) 70 4 0 0, none, none, zj (.iload 2) 71 2 0 0, zj (.ireturn) 72 0 0 0]
noncomputable def pp_100 : List (List Nat) := [[], [], [], [], [], [], [2127], [], [], [], [], [], [], [], [], [], [], [], [], [], [], [], [], [2125], [], [], [], [], [], [], [], [], [], [], [], [], [], [], [], [], [], [], [], [], [], [], [], [2126], [], [], [], [], [], [], [], [], [], [], [], [], [], [], [], [], [], [], [], [], [], [], [], []]
noncomputable def cd_101 : zK := [zj (.aload 0) 1 0 0 0, zj (.pop2) 4 0 0 0, none, none, zj (.aload 0) 5 0 0 0, zi (.aconst_null) 8 0 0 0 (.int 200), none, none, zj (.newarray .int) 10 0 0 0, none, zj (.putfield 0) 13 10 0 0, none, none, zj (.aload 0) 14 0 0 0, zi (.aconst_null) 17 0 0 0 (.int 200), none, none, zj (.newarray .int) 19 0 0 0, none, zj (.putfield 0) 22 10 1 0, none, none, zj (.aload 0) 23 0 0 0, zi (.aconst_null) 26 0 0 0 (.int 200), none, none, zj (.newarray .int) 28 0 0 0, none, zj (.putfield 0) 31 10 2 0, none, none, zj (.aload 0) 32 0 0 0, zi (.aconst_null) 35 0 0 0 (.int 200), none, none, zj (.newarray .boolean) 37 0 0 0, none, zj (.putfield 0) 40 10 3 0, none, none, zj (.aload 0) 41 0 0 0, zi (.aconst_null) 44 0 0 0 (.int 200), none, none, zj (.newarray .long) 46 0 0 0, none, zj (.putfield 0) 49 10 4 0, none, none, zj (.aload 0) 50 0 0 0, zi (.aconst_null) 53 0 0 0 (.int 600), none, none, zj (.newarray .int) 55 0 0 0, none, zj (.putfield 0) 58 10 6 0, none, none, zj (.aload 0) 59 0 0 0, zi (.aconst_null) 62 0 0 0 (.int 600), none, none, zj (.newarray .int) 64 0 0 0, none, zj (.putfield 0) 67 10 7 0, none, none, zj (.aload 0) 68 0 0 0, zi (.aconst_null) 71 0 0 0 (.int 600), none, none, zj (.newarray .int) 73 0 0 0, none, zj (.putfield 0) 76 10 8 0, none, none, zj (.return_) 77 0 0 0]
noncomputable def pp_101 : List (List Nat) := [[], [1190, 1027, 1028], [], [], [], [], [], [], [1068], [], [1191], [], [], [], [], [], [], [1068], [], [1192], [], [], [], [], [], [], [1068], [], [1193], [], [], [], [], [], [], [1112], [], [1194], [], [], [], [], [], [], [1184], [], [1195], [], [], [], [], [], [], [1068], [], [1198], [], [], [], [], [], [], [1068], [], [1199], [], [], [], [], [], [], [1068], [], [1200], [], [], []]
noncomputable def cd_102 : zK := [zj (.iload 1) 1 1 0 0, zj (.ifCond .lt 0) 4 16 0 0, none, none, zj (.iload 1) 5 1 0 0, zj (.aload 0) 6 0 0 0, zj (.getfield 0) 9 10 5 0, none, none, zj (.if_icmp .ge 0) 12 16 0 0, none, none, zi (.aconst_null) 13 0 0 0 (.int 1), zj (.goto 0) 16 17 0 0, none, none, zi (.aconst_null) 17 0 0 0 (.int 0), zj (.ireturn) 18 0 0 0]
noncomputable def pp_102 : List (List Nat) := [[], [], [], [], [], [], [1196], [], [], [], [], [], [], [], [], [], [], []]
noncomputable def cd_103 : zK := [zj (.aload 0) 1 0 0 0, zj (.getfield 0) 4 10 5 0, none, none, zi (.aconst_null) 7 0 0 0 (.int 200), none, none, zj (.if_icmp .ne 0) 10 12 0 0, none, none, zi (.aconst_null) 11 0 0 0 (.int (-1)), zj (.ireturn) 12 0 0 0, zj (.aload 0) 13 0 0 0, zj (.getfield 0) 16 10 0 0, none, none, zj (.aload 0) 17 0 0 0, zj (.getfield 0) 20 10 5 0, none, none, zj (.iload 1) 21 1 0 0, zj (.iastore) 22 0 0 0, zj (.aload 0) 23 0 0 0, zj (.getfield 0) 26 10 1 0, none, none, zj (.aload 0) 27 0 0 0, zj (.getfield 0) 30 10 5 0, none, none, zj (.iload 2) 31 2 0 0, zj (.iastore) 32 0 0 0, zj (.aload 0) 33 0 0 0, zj (.getfield 0) 36 10 2 0, none, none, zj (.aload 0) 37 0 0 0, zj (.getfield 0) 40 10 5 0, none, none, zj (.iload 3) 41 3 0 0, zj (.iastore) 42 0 0 0, zj (.aload 0) 43 0 0 0, zj (.getfield 0) 46 10 3 0, none, none, zj (.aload 0) 47 0 0 0, zj (.getfield 0) 50 10 5 0, none, none, zj (.iload 4) 52 4 0 0, none, zj (.bastore) 53 0 0 0, zj (.aload 0) 54 0 0 0, zj (.dup) 55 0 0 0, zj (.getfield 0) 58 10 5 0, none, none, zj (.dup_x1) 59 0 0 0, zi (.aconst_null) 60 0 0 0 (.int 1), zj (.iadd) 61 0 0 0, zj (.putfield 0) 64 10 5 0, none, none, zj (.ireturn) 65 0 0 0]
noncomputable def pp_103 : List (List Nat) := [[], [1196], [], [], [], [], [], [], [], [], [], [], [], [1191], [], [], [], [1196], [], [], [], [], [], [1192], [], [], [], [1196], [], [], [], [], [], [1193], [], [], [], [1196], [], [], [], [], [], [1194], [], [], [], [1196], [], [], [], [], [], [], [], [1196], [], [], [], [], [], [1196], [], [], []]
noncomputable def cd_104 : zK := [zj (.aload 0) 1 0 0 0, zj (.getfield 0) 4 10 9 0, none, none, zi (.aconst_null) 7 0 0 0 (.int 600), none, none, zj (.if_icmp .eq 0) 10 25 0 0, none, none, zj (.aload 0) 11 0 0 0, zj (.getfield 0) 14 10 4 0, none, none, zj (.iload 1) 15 1 0 0, zj (.laload) 16 0 0 0, zj (.iload 2) 17 2 0 0, zj (.lshr) 18 0 0 0, zi (.aconst_null) 19 0 0 0 (.long 1), zj (.land) 20 0 0 0, zi (.aconst_null) 21 0 0 0 (.long 1), zj (.lcmp) 22 0 0 0, zj (.ifCond .ne 0) 25 27 0 0, none, none, zi (.aconst_null) 26 0 0 0 (.int 0), zj (.ireturn) 27 0 0 0, zj (.aload 0) 28 0 0 0, zj (.getfield 0) 31 10 4 0, none, none, zj (.iload 1) 32 1 0 0, zj (.dup2) 33 0 0 0, zj (.laload) 34 0 0 0, zi (.aconst_null) 35 0 0 0 (.long 1), zj (.iload 2) 36 2 0 0, zj (.lshl) 37 0 0 0, zj (.lor) 38 0 0 0, zj (.lastore) 39 0 0 0, zj (.aload 0) 40 0 0 0, zj (.getfield 0) 43 10 6 0, none, none, zj (.aload 0) 44 0 0 0, zj (.getfield 0) 47 10 9 0, none, none, zj (.iload 1) 48 1 0 0, zj (.iastore) 49 0 0 0, zj (.aload 0) 50 0 0 0, zj (.getfield 0) 53 10 7 0, none, none, zj (.aload 0) 54 0 0 0, zj (.getfield 0) 57 10 9 0, none, none, zj (.iload 2) 58 2 0 0, zj (.iastore) 59 0 0 0, zj (.aload 0) 60 0 0 0, zj (.getfield 0) 63 10 8 0, none, none, zj (.aload 0) 64 0 0 0, zj (.getfield 0) 67 10 9 0, none, none, zj (.iload 3) 68 3 0 0, zj (.iastore) 69 0 0 0, zj (.aload 0) 70 0 0 0, zj (.dup) 71 0 0 0, zj (.getfield 0) 74 10 9 0, none, none, zi (.aconst_null) 75 0 0 0 (.int 1), zj (.iadd) 76 0 0 0, zj (.putfield 0) 79 10 9 0, none, none, zi (.aconst_null) 80 0 0 0 (.int 1), zj (.ireturn) 81 0 0 0]
noncomputable def pp_104 : List (List Nat) := [[], [1201], [], [], [], [], [], [], [], [], [], [1195], [], [], [], [], [], [], [], [], [], [], [], [], [], [], [], [], [1195], [], [], [], [], [], [], [], [], [], [], [], [1198], [], [], [], [1201], [], [], [], [], [], [1199], [], [], [], [1201], [], [], [], [], [], [1200], [], [], [], [1201], [], [], [], [], [], [], [1201], [], [], [], [], [1201], [], [], [], []]
noncomputable def cd_105 : zK := [zj (.aload 0) 1 0 0 0, zj (.getfield 0) 4 10 0 0, none, none, zj (.iload 1) 5 1 0 0, zj (.iaload) 6 0 0 0, zj (.iload 2) 7 2 0 0, zj (.if_icmp .ne 0) 10 24 0 0, none, none, zj (.aload 0) 11 0 0 0, zj (.getfield 0) 14 10 1 0, none, none, zj (.iload 1) 15 1 0 0, zj (.iaload) 16 0 0 0, zj (.iload 3) 17 3 0 0, zj (.if_icmp .ne 0) 20 24 0 0, none, none, zi (.aconst_null) 21 0 0 0 (.int 1), zj (.goto 0) 24 25 0 0, none, none, zi (.aconst_null) 25 0 0 0 (.int 0), zj (.ireturn) 26 0 0 0]
noncomputable def pp_105 : List (List Nat) := [[], [1191], [], [], [], [], [], [], [], [], [], [1192], [], [], [], [], [], [], [], [], [], [], [], [], [], []]
noncomputable def cd_106 : zK := [zi (.aconst_null) 1 0 0 0 (.int (-1)), zj (.istore 5) 3 5 0 0, none, zi (.aconst_null) 4 0 0 0 (.int 0), zj (.istore 6) 6 6 0 0, none, zj (.iload 6) 8 6 0 0, none, zj (.aload 0) 9 0 0 0, zj (.getfield 0) 12 10 9 0, none, none, zj (.if_icmp .ge 0) 15 104 0 0, none, none, zj (.aload 0) 16 0 0 0, zj (.getfield 0) 19 10 8 0, none, none, zj (.iload 6) 21 6 0 0, none, zj (.iaload) 22 0 0 0, zj (.iload 4) 24 4 0 0, none, zj (.if_icmp .gt 0) 27 104 0 0, none, none, zj (.aload 0) 28 0 0 0, zj (.getfield 0) 31 10 6 0, none, none, zj (.iload 6) 33 6 0 0, none, zj (.iaload) 34 0 0 0, zj (.istore 7) 36 7 0 0, none, zj (.aload 0) 37 0 0 0, zj (.getfield 0) 40 10 7 0, none, none, zj (.iload 6) 42 6 0 0, none, zj (.iaload) 43 0 0 0, zj (.iload 1) 44 1 0 0, zj (.if_icmp .ne 0) 47 98 0 0, none, none, zj (.aload 0) 48 0 0 0, zj (.iload 7) 50 7 0 0, none, zj (.iload 2) 51 2 0 0, zj (.iload 3) 52 3 0 0, zj (.invokevirtual 0) 55 105 3 10, none, none, zj (.ifCond .eq 0) 58 98 0 0, none, none, zj (.aload 0) 59 0 0 0, zj (.getfield 0) 62 10 3 0, none, none, zj (.iload 7) 64 7 0 0, none, zj (.baload) 65 0 0 0, zj (.ifCond .eq 0) 68 98 0 0, none, none, zj (.iload 5) 70 5 0 0, none, zi (.aconst_null) 71 0 0 0 (.int (-1)), zj (.if_icmp .ne 0) 74 84 0 0, none, none, zj (.aload 0) 75 0 0 0, zj (.getfield 0) 78 10 2 0, none, none, zj (.iload 7) 80 7 0 0, none, zj (.iaload) 81 0 0 0, zj (.goto 0) 84 96 0 0, none, none, zj (.iload 5) 86 5 0 0, none, zj (.aload 0) 87 0 0 0, zj (.getfield 0) 90 10 2 0, none, none, zj (.iload 7) 92 7 0 0, none, zj (.iaload) 93 0 0 0, none, none, none, zj (.istore 5) 98 5 0 0, none, zi (.iinc 6 1) 101 6 0 0 (.int 1), none, none, zj (.goto 0) 104 6 0 0, none, none, zj (.iload 5) 106 5 0 0, none, zj (.ireturn) 107 0 0 0]
noncomputable def pp_106 : List (List Nat) := [[], [], [], [], [], [], [], [], [], [1201], [], [], [], [], [], [], [1200], [], [], [], [], [], [], [], [], [], [], [], [1198], [], [], [], [], [], [], [], [], [1199], [], [], [], [], [], [], [], [], [], [], [], [], [], [], [4199], [], [], [], [], [], [], [1194], [], [], [], [], [], [], [], [], [], [], [], [], [], [], [], [1193], [], [], [], [], [], [], [], [], [], [], [], [1193], [], [], [], [], [], [], [], [], [], [], [], [], [], [], [], [], [], [], []]
noncomputable def cd_107 : zK := [zi (.aconst_null) 1 0 0 0 (.int (-1)), zj (.istore 5) 3 5 0 0, none, zi (.aconst_null) 4 0 0 0 (.int 0), zj (.istore 6) 6 6 0 0, none, zj (.iload 6) 8 6 0 0, none, zj (.aload 0) 9 0 0 0, zj (.getfield 0) 12 10 9 0, none, none, zj (.if_icmp .ge 0) 15 88 0 0, none, none, zj (.aload 0) 16 0 0 0, zj (.getfield 0) 19 10 8 0, none, none, zj (.iload 6) 21 6 0 0, none, zj (.iaload) 22 0 0 0, zj (.iload 4) 24 4 0 0, none, zj (.if_icmp .gt 0) 27 88 0 0, none, none, zj (.aload 0) 28 0 0 0, zj (.getfield 0) 31 10 6 0, none, none, zj (.iload 6) 33 6 0 0, none, zj (.iaload) 34 0 0 0, zj (.istore 7) 36 7 0 0, none, zj (.aload 0) 37 0 0 0, zj (.getfield 0) 40 10 7 0, none, none, zj (.iload 6) 42 6 0 0, none, zj (.iaload) 43 0 0 0, zj (.iload 1) 44 1 0 0, zj (.if_icmp .ne 0) 47 82 0 0, none, none, zj (.aload 0) 48 0 0 0, zj (.iload 7) 50 7 0 0, none, zj (.iload 2) 51 2 0 0, zj (.iload 3) 52 3 0 0, zj (.invokevirtual 0) 55 105 3 10, none, none, zj (.ifCond .eq 0) 58 82 0 0, none, none, zj (.aload 0) 59 0 0 0, zj (.getfield 0) 62 10 3 0, none, none, zj (.iload 7) 64 7 0 0, none, zj (.baload) 65 0 0 0, zj (.ifCond .ne 0) 68 82 0 0, none, none, zj (.iload 5) 70 5 0 0, none, zj (.aload 0) 71 0 0 0, zj (.getfield 0) 74 10 2 0, none, none, zj (.iload 7) 76 7 0 0, none, zj (.iaload) 77 0 0 0, none, none, none, zj (.istore 5) 82 5 0 0, none, zi (.iinc 6 1) 85 6 0 0 (.int 1), none, none, zj (.goto 0) 88 6 0 0, none, none, zj (.iload 5) 90 5 0 0, none, zj (.ireturn) 91 0 0 0]
noncomputable def pp_107 : List (List Nat) := [[], [], [], [], [], [], [], [], [], [1201], [], [], [], [], [], [], [1200], [], [], [], [], [], [], [], [], [], [], [], [1198], [], [], [], [], [], [], [], [], [1199], [], [], [], [], [], [], [], [], [], [], [], [], [], [], [4199], [], [], [], [], [], [], [1194], [], [], [], [], [], [], [], [], [], [], [], [1193], [], [], [], [], [], [], [], [], [], [], [], [], [], [], [], [], [], [], []]
noncomputable def cd_108 : zK := [zj (.aload 5) 2 5 0 0, none, zi (.aconst_null) 5 0 0 0 (.int 201), none, none, zj (.invokestatic 0) 8 281 2 0, none, none, zi (.aconst_null) 9 0 0 0 (.int 0), zj (.istore 6) 11 6 0 0, none, zj (.iload 6) 13 6 0 0, none, zj (.aload 0) 14 0 0 0, zj (.getfield 0) 17 10 9 0, none, none, zj (.if_icmp .ge 0) 20 102 0 0, none, none, zj (.aload 0) 21 0 0 0, zj (.getfield 0) 24 10 6 0, none, none, zj (.iload 6) 26 6 0 0, none, zj (.iaload) 27 0 0 0, zj (.istore 7) 29 7 0 0, none, zj (.aload 0) 30 0 0 0, zj (.getfield 0) 33 10 8 0, none, none, zj (.iload 6) 35 6 0 0, none, zj (.iaload) 36 0 0 0, zj (.istore 8) 38 8 0 0, none, zj (.lload 1) 39 1 0 0, zj (.aload 0) 40 0 0 0, zj (.getfield 0) 43 10 7 0, none, none, zj (.iload 6) 45 6 0 0, none, zj (.iaload) 46 0 0 0, zj (.lshr) 47 0 0 0, zi (.aconst_null) 48 0 0 0 (.long 1), zj (.land) 49 0 0 0, zi (.aconst_null) 50 0 0 0 (.long 1), zj (.lcmp) 51 0 0 0, zj (.ifCond .ne 0) 54 96 0 0, none, none, zj (.aload 0) 55 0 0 0, zj (.iload 7) 57 7 0 0, none, zj (.iload 3) 58 3 0 0, zj (.iload 4) 60 4 0 0, none, zj (.invokevirtual 0) 63 105 3 10, none, none, zj (.ifCond .eq 0) 66 96 0 0, none, none, zj (.aload 0) 67 0 0 0, zj (.getfield 0) 70 10 3 0, none, none, zj (.iload 7) 72 7 0 0, none, zj (.baload) 73 0 0 0, zj (.ifCond .eq 0) 76 96 0 0, none, none, zj (.aload 5) 78 5 0 0, none, zj (.iload 8) 80 8 0 0, none, zj (.aload 5) 82 5 0 0, none, zj (.iload 8) 84 8 0 0, none, zj (.iaload) 85 0 0 0, zj (.aload 0) 86 0 0 0, zj (.getfield 0) 89 10 2 0, none, none, zj (.iload 7) 91 7 0 0, none, zj (.iaload) 92 0 0 0, none, none, none, zj (.iastore) 96 0 0 0, zi (.iinc 6 1) 99 6 0 0 (.int 1), none, none, zj (.goto 0) 102 11 0 0, none, none, zi (.aconst_null) 103 0 0 0 (.int 1), zj (.istore 6) 105 6 0 0, none, zj (.iload 6) 107 6 0 0, none, zj (.aload 5) 109 5 0 0, none, zj (.arraylength) 110 0 0 0, zj (.if_icmp .ge 0) 113 139 0 0, none, none, zj (.aload 5) 115 5 0 0, none, zj (.iload 6) 117 6 0 0, none, zj (.aload 5) 119 5 0 0, none, zj (.iload 6) 121 6 0 0, none, zj (.iaload) 122 0 0 0, zj (.aload 5) 124 5 0 0, none, zj (.iload 6) 126 6 0 0, none, zi (.aconst_null) 127 0 0 0 (.int 1), zj (.isub) 128 0 0 0, zj (.iaload) 129 0 0 0, none, none, none, zj (.iastore) 133 0 0 0, zi (.iinc 6 1) 136 6 0 0 (.int 1), none, none, zj (.goto 0) 139 105 0 0, none, none, zj (.return_) 140 0 0 0]
noncomputable def pp_108 : List (List Nat) := [[], [], [], [], [], [4223], [], [], [], [], [], [], [], [], [1201], [], [], [], [], [], [], [1198], [], [], [], [], [], [], [], [], [1200], [], [], [], [], [], [], [], [], [], [1199], [], [], [], [], [], [], [], [], [], [], [], [], [], [], [], [], [], [], [], [4199], [], [], [], [], [], [], [1194], [], [], [], [], [], [], [], [], [], [], [], [], [], [], [], [], [], [], [1193], [], [], [], [], [], [], [], [], [], [], [], [], [], [], [], [], [], [], [], [], [], [], [], [], [], [], [], [], [], [], [], [], [], [], [], [], [], [], [], [], [], [], [], [], [], [], [], [], [], [], [], [], []]
noncomputable def cd_109 : zK := [zj (.aload 0) 1 0 0 0, zj (.pop2) 4 0 0 0, none, none, zj (.aload 0) 5 0 0 0, zj (.new 0) 8 3 0 0, none, none, zj (.dup) 9 0 0 0, zj (.invokespecial 0) 12 24 0 0, none, none, zj (.putfield 0) 15 11 0 0, none, none, zj (.aload 0) 16 0 0 0, zj (.new 0) 19 2 0 0, none, none, zj (.dup) 20 0 0 0, zj (.invokespecial 0) 23 14 0 0, none, none, zj (.putfield 0) 26 11 1 0, none, none, zj (.aload 0) 27 0 0 0, zj (.new 0) 30 8 0 0, none, none, zj (.dup) 31 0 0 0, zj (.invokespecial 0) 34 71 0 0, none, none, zj (.putfield 0) 37 11 2 0, none, none, zj (.aload 0) 38 0 0 0, zj (.new 0) 41 7 0 0, none, none, zj (.dup) 42 0 0 0, zj (.invokespecial 0) 45 62 0 0, none, none, zj (.putfield 0) 48 11 3 0, none, none, zj (.aload 0) 49 0 0 0, zj (.new 0) 52 10 0 0, none, none, zj (.dup) 53 0 0 0, zj (.invokespecial 0) 56 101 0 0, none, none, zj (.putfield 0) 59 11 4 0, none, none, zj (.aload 0) 60 0 0 0, zj (.new 0) 63 1 0 0, none, none, zj (.dup) 64 0 0 0, zj (.invokespecial 0) 67 5 0 0, none, none, zj (.putfield 0) 70 11 5 0, none, none, zj (.aload 0) 71 0 0 0, zj (.new 0) 74 4 0 0, none, none, zj (.dup) 75 0 0 0, zj (.invokespecial 0) 78 36 0 0, none, none, zj (.putfield 0) 81 11 6 0, none, none, zj (.aload 0) 82 0 0 0, zj (.new 0) 85 5 0 0, none, none, zj (.dup) 86 0 0 0, zj (.invokespecial 0) 89 44 0 0, none, none, zj (.putfield 0) 92 11 7 0, none, none, zj (.aload 0) 93 0 0 0, zj (.new 0) 96 6 0 0, none, none, zj (.dup) 97 0 0 0, zj (.invokespecial 0) 100 54 0 0, none, none, zj (.putfield 0) 103 11 8 0, none, none, zj (.aload 0) 104 0 0 0, zj (.new 0) 107 9 0 0, none, none, zj (.dup) 108 0 0 0, zj (.invokespecial 0) 111 94 0 0, none, none, zj (.putfield 0) 114 11 9 0, none, none, zj (.aload 0) 115 0 0 0, zi (.aconst_null) 118 0 0 0 (.int 600), none, none, zj (.newarray .int) 120 0 0 0, none, zj (.putfield 0) 123 11 10 0, none, none, zj (.aload 0) 124 0 0 0, zi (.aconst_null) 127 0 0 0 (.int 600), none, none, zj (.newarray .int) 129 0 0 0, none, zj (.putfield 0) 132 11 11 0, none, none, zj (.aload 0) 133 0 0 0, zi (.aconst_null) 136 0 0 0 (.int 600), none, none, zj (.newarray .int) 138 0 0 0, none, zj (.putfield 0) 141 11 12 0, none, none, zj (.aload 0) 142 0 0 0, zi (.aconst_null) 145 0 0 0 (.int 600), none, none, zj (.newarray .int) 147 0 0 0, none, zj (.putfield 0) 150 11 13 0, none, none, zj (.aload 0) 151 0 0 0, zi (.aconst_null) 152 0 0 0 (.int 0), zj (.putfield 0) 155 11 14 0, none, none, zj (.return_) 156 0 0 0]
noncomputable def pp_109 : List (List Nat) := [[], [1026, 1027, 1028], [], [], [], [1029, 1030, 1002], [], [], [], [1031], [], [], [2145], [], [], [], [1069, 1070, 1004], [], [], [], [1071], [], [], [2146], [], [], [], [1113, 1114, 1005], [], [], [], [1115], [], [], [2147], [], [], [], [1156, 1157, 1006], [], [], [], [1158], [], [], [2148], [], [], [], [1185, 1186, 1007], [], [], [], [1187], [], [], [2149], [], [], [], [1223, 1224, 1008], [], [], [], [1225], [], [], [2150], [], [], [], [2036, 2037, 1009], [], [], [], [2038], [], [], [2151], [], [], [], [2059, 2060, 1010], [], [], [], [2061], [], [], [2152], [], [], [], [2093, 2094, 1011], [], [], [], [2095], [], [], [2153], [], [], [], [2117, 2118, 1012], [], [], [], [2119], [], [], [2154], [], [], [], [], [], [], [1068], [], [2155], [], [], [], [], [], [], [1068], [], [2156], [], [], [], [], [], [], [1068], [], [2157], [], [], [], [], [], [], [1068], [], [2158], [], [], [], [], [2159], [], [], []]
noncomputable def cd_110 : zK := [zj (.iload 1) 1 1 0 0, zj (.invokestatic 0) 4 159 1 0, none, none, zj (.ifCond .eq 0) 7 15 0 0, none, none, zj (.iload 1) 8 1 0 0, zj (.aload 0) 9 0 0 0, zj (.getfield 0) 12 11 14 0, none, none, zj (.if_icmp .ge 0) 15 17 0 0, none, none, zi (.aconst_null) 16 0 0 0 (.int 0), zj (.ireturn) 17 0 0 0, zj (.aload 0) 18 0 0 0, zj (.iload 1) 19 1 0 0, zj (.putfield 0) 22 11 14 0, none, none, zi (.aconst_null) 23 0 0 0 (.int 1), zj (.ireturn) 24 0 0 0]
noncomputable def pp_110 : List (List Nat) := [[], [2195], [], [], [], [], [], [], [], [2159], [], [], [], [], [], [], [], [], [], [2159], [], [], [], []]
noncomputable def cd_111 : zK := [zj (.iload 1) 1 1 0 0, zi (.aconst_null) 2 0 0 0 (.int (-1)), zj (.if_icmp .eq 0) 5 12 0 0, none, none, zj (.iload 1) 6 1 0 0, zj (.invokestatic 0) 9 160 1 0, none, none, zj (.ifCond .eq 0) 12 23 0 0, none, none, zj (.aload 0) 13 0 0 0, zj (.getfield 0) 16 11 1 0, none, none, zj (.iload 1) 17 1 0 0, zj (.invokevirtual 0) 20 16 1 2, none, none, zj (.goto 0) 23 24 0 0, none, none, zi (.aconst_null) 24 0 0 0 (.int (-1)), zj (.ireturn) 25 0 0 0]
noncomputable def pp_111 : List (List Nat) := [[], [], [], [], [], [], [2205], [], [], [], [], [], [], [2146], [], [], [], [2208], [], [], [], [], [], [], []]
noncomputable def cd_112 : zK := [zj (.iload 1) 1 1 0 0, zj (.invokestatic 0) 4 161 1 0, none, none, zj (.ifCond .eq 0) 7 30 0 0, none, none, zj (.iload 2) 8 2 0 0, zi (.aconst_null) 9 0 0 0 (.int 1), zi (.aconst_null) 12 0 0 0 (.int 999), none, none, zj (.invokestatic 0) 15 158 3 0, none, none, zj (.ifCond .eq 0) 18 30 0 0, none, none, zj (.aload 0) 19 0 0 0, zj (.getfield 0) 22 11 0 0, none, none, zj (.iload 1) 23 1 0 0, zj (.iload 2) 24 2 0 0, zj (.invokevirtual 0) 27 27 2 3, none, none, zj (.goto 0) 30 31 0 0, none, none, zi (.aconst_null) 31 0 0 0 (.int (-1)), zj (.ireturn) 32 0 0 0]
noncomputable def pp_112 : List (List Nat) := [[], [2216], [], [], [], [], [], [], [], [], [], [], [2198], [], [], [], [], [], [], [2145], [], [], [], [], [2219], [], [], [], [], [], [], []]
noncomputable def cd_113 : zK := [zj (.iload 1) 1 1 0 0, zj (.invokestatic 0) 4 160 1 0, none, none, zj (.ifCond .eq 0) 7 42 0 0, none, none, zj (.iload 2) 8 2 0 0, zi (.aconst_null) 9 0 0 0 (.int 0), zi (.aconst_null) 11 0 0 0 (.int 99999), none, zj (.invokestatic 0) 14 158 3 0, none, none, zj (.ifCond .eq 0) 17 42 0 0, none, none, zj (.iload 3) 18 3 0 0, zi (.aconst_null) 19 0 0 0 (.int 0), zi (.aconst_null) 21 0 0 0 (.int 99999), none, zj (.invokestatic 0) 24 158 3 0, none, none, zj (.ifCond .eq 0) 27 42 0 0, none, none, zj (.iload 4) 29 4 0 0, none, zi (.aconst_null) 30 0 0 0 (.int 0), zi (.aconst_null) 32 0 0 0 (.int 99999), none, zj (.invokestatic 0) 35 158 3 0, none, none, zj (.ifCond .eq 0) 38 42 0 0, none, none, zi (.aconst_null) 39 0 0 0 (.int 1), zj (.goto 0) 42 43 0 0, none, none, zi (.aconst_null) 43 0 0 0 (.int 0), zj (.istore 5) 45 5 0 0, none, zj (.iload 5) 47 5 0 0, none, zj (.ifCond .eq 0) 50 65 0 0, none, none, zj (.aload 0) 51 0 0 0, zj (.getfield 0) 54 11 0 0, none, none, zj (.iload 1) 55 1 0 0, zj (.iload 2) 56 2 0 0, zj (.iload 3) 57 3 0 0, zj (.iload 4) 59 4 0 0, none, zj (.invokevirtual 0) 62 28 4 3, none, none, zj (.goto 0) 65 66 0 0, none, none, zi (.aconst_null) 66 0 0 0 (.int (-1)), zj (.ireturn) 67 0 0 0]
noncomputable def pp_113 : List (List Nat) := [[], [2205], [], [], [], [], [], [], [], [2227], [], [2198], [], [], [], [], [], [], [], [2227], [], [2198], [], [], [], [], [], [], [], [], [2227], [], [2198], [], [], [], [], [], [], [], [], [], [], [], [], [], [], [], [], [], [], [2145], [], [], [], [], [], [], [], [2228], [], [], [], [], [], [], []]
noncomputable def cd_114 : zK := [zj (.iload 1) 1 1 0 0, zi (.aconst_null) 2 0 0 0 (.int 0), zi (.aconst_null) 5 0 0 0 (.int 9999), none, none, zj (.invokestatic 0) 8 158 3 0, none, none, zj (.ifCond .eq 0) 11 49 0 0, none, none, zj (.iload 2) 12 2 0 0, zi (.aconst_null) 13 0 0 0 (.int 0), zi (.aconst_null) 16 0 0 0 (.int 9999), none, none, zj (.invokestatic 0) 19 158 3 0, none, none, zj (.ifCond .eq 0) 22 49 0 0, none, none, zj (.iload 3) 23 3 0 0, zi (.aconst_null) 24 0 0 0 (.int 0), zi (.aconst_null) 27 0 0 0 (.int 9999), none, none, zj (.invokestatic 0) 30 158 3 0, none, none, zj (.ifCond .eq 0) 33 49 0 0, none, none, zj (.iload 4) 35 4 0 0, none, zi (.aconst_null) 36 0 0 0 (.int 0), zi (.aconst_null) 39 0 0 0 (.int 9999), none, none, zj (.invokestatic 0) 42 158 3 0, none, none, zj (.ifCond .eq 0) 45 49 0 0, none, none, zi (.aconst_null) 46 0 0 0 (.int 1), zj (.goto 0) 49 50 0 0, none, none, zi (.aconst_null) 50 0 0 0 (.int 0), zj (.istore 5) 52 5 0 0, none, zj (.iload 5) 54 5 0 0, none, zj (.ifCond .eq 0) 57 72 0 0, none, none, zj (.aload 0) 58 0 0 0, zj (.getfield 0) 61 11 0 0, none, none, zj (.iload 1) 62 1 0 0, zj (.iload 2) 63 2 0 0, zj (.iload 3) 64 3 0 0, zj (.iload 4) 66 4 0 0, none, zj (.invokevirtual 0) 69 29 4 3, none, none, zj (.goto 0) 72 73 0 0, none, none, zi (.aconst_null) 73 0 0 0 (.int (-1)), zj (.ireturn) 74 0 0 0]
noncomputable def pp_114 : List (List Nat) := [[], [], [], [], [], [2198], [], [], [], [], [], [], [], [], [], [], [2198], [], [], [], [], [], [], [], [], [], [], [2198], [], [], [], [], [], [], [], [], [], [], [], [2198], [], [], [], [], [], [], [], [], [], [], [], [], [], [], [], [], [], [], [2145], [], [], [], [], [], [], [], [2239], [], [], [], [], [], [], []]
noncomputable def cd_115 : zK := [zj (.aload 0) 1 0 0 0, zj (.getfield 0) 4 11 0 0, none, none, zj (.iload 1) 5 1 0 0, zj (.invokevirtual 0) 8 25 1 3, none, none, zj (.ifCond .eq 0) 11 46 0 0, none, none, zj (.aload 0) 12 0 0 0, zj (.getfield 0) 15 11 0 0, none, none, zj (.iload 2) 16 2 0 0, zj (.invokevirtual 0) 19 26 1 3, none, none, zj (.ifCond .eq 0) 22 46 0 0, none, none, zj (.iload 3) 23 3 0 0, zj (.invokestatic 0) 26 159 1 0, none, none, zj (.ifCond .eq 0) 29 46 0 0, none, none, zj (.aload 0) 30 0 0 0, zj (.getfield 0) 33 11 0 0, none, none, zj (.iload 1) 34 1 0 0, zj (.iload 2) 35 2 0 0, zj (.iload 3) 36 3 0 0, zj (.invokevirtual 0) 39 31 3 3, none, none, zj (.ifCond .eq 0) 42 46 0 0, none, none, zi (.aconst_null) 43 0 0 0 (.int 1), zj (.goto 0) 46 47 0 0, none, none, zi (.aconst_null) 47 0 0 0 (.int 0), zj (.ireturn) 48 0 0 0]
noncomputable def pp_115 : List (List Nat) := [[], [2145], [], [], [], [3007], [], [], [], [], [], [], [2145], [], [], [], [3011], [], [], [], [], [], [], [2195], [], [], [], [], [], [], [2145], [], [], [], [], [], [3015], [], [], [], [], [], [], [], [], [], [], []]
noncomputable def cd_116 : zK := [zj (.aload 0) 1 0 0 0, zj (.getfield 0) 4 11 0 0, none, none, zj (.iload 1) 5 1 0 0, zj (.invokevirtual 0) 8 25 1 3, none, none, zj (.ifCond .eq 0) 11 38 0 0, none, none, zj (.iload 2) 12 2 0 0, zi (.aconst_null) 13 0 0 0 (.int 0), zj (.aload 0) 14 0 0 0, zj (.getfield 0) 17 11 14 0, none, none, zj (.invokestatic 0) 20 158 3 0, none, none, zj (.ifCond .eq 0) 23 38 0 0, none, none, zj (.aload 0) 24 0 0 0, zj (.getfield 0) 27 11 1 0, none, none, zj (.iload 3) 28 3 0 0, zj (.invokevirtual 0) 31 15 1 2, none, none, zj (.ifCond .eq 0) 34 38 0 0, none, none, zi (.aconst_null) 35 0 0 0 (.int 1), zj (.goto 0) 38 39 0 0, none, none, zi (.aconst_null) 39 0 0 0 (.int 0), zj (.istore 4) 41 4 0 0, none, zj (.iload 4) 43 4 0 0, none, zj (.ifCond .eq 0) 46 63 0 0, none, none, zj (.aload 0) 47 0 0 0, zj (.getfield 0) 50 11 1 0, none, none, zj (.iload 1) 51 1 0 0, zj (.iload 2) 52 2 0 0, zj (.iload 3) 53 3 0 0, zj (.aload 0) 54 0 0 0, zj (.getfield 0) 57 11 14 0, none, none, zj (.invokevirtual 0) 60 20 4 2, none, none, zj (.goto 0) 63 64 0 0, none, none, zi (.aconst_null) 64 0 0 0 (.int (-1)), zj (.ireturn) 65 0 0 0]
noncomputable def pp_116 : List (List Nat) := [[], [2145], [], [], [], [3007], [], [], [], [], [], [], [], [], [2159], [], [], [2198], [], [], [], [], [], [], [2146], [], [], [], [3023], [], [], [], [], [], [], [], [], [], [], [], [], [], [], [], [], [], [], [2146], [], [], [], [], [], [], [2159], [], [], [3027], [], [], [], [], [], [], []]
noncomputable def cd_117 : zK := [zj (.aload 0) 1 0 0 0, zj (.getfield 0) 4 11 1 0, none, none, zj (.iload 1) 5 1 0 0, zj (.invokevirtual 0) 8 19 1 2, none, none, zj (.astore 4) 10 4 0 0, none, zj (.aload 4) 12 4 0 0, none, zj (.ifnull 0) 15 51 0 0, none, none, zj (.aload 0) 16 0 0 0, zj (.getfield 0) 19 11 1 0, none, none, zj (.iload 2) 20 2 0 0, zj (.invokevirtual 0) 23 15 1 2, none, none, zj (.ifCond .eq 0) 26 51 0 0, none, none, zj (.iload 2) 27 2 0 0, zj (.aload 4) 29 4 0 0, none, zj (.getfield 0) 32 0 4 0, none, none, zj (.if_icmp .eq 0) 35 51 0 0, none, none, zj (.iload 3) 36 3 0 0, zj (.aload 4) 38 4 0 0, none, zj (.getfield 0) 41 0 5 0, none, none, zj (.aload 0) 42 0 0 0, zj (.getfield 0) 45 11 14 0, none, none, zj (.invokestatic 0) 48 158 3 0, none, none, zj (.ifCond .ne 0) 51 53 0 0, none, none, zi (.aconst_null) 52 0 0 0 (.int 0), zj (.ireturn) 53 0 0 0, zj (.aload 0) 54 0 0 0, zj (.getfield 0) 57 11 1 0, none, none, zj (.iload 1) 58 1 0 0, zj (.iload 2) 59 2 0 0, zj (.iload 3) 60 3 0 0, zj (.aload 0) 61 0 0 0, zj (.getfield 0) 64 11 14 0, none, none, zj (.invokevirtual 0) 67 21 4 2, none, none, zj (.ireturn) 68 0 0 0]
noncomputable def pp_117 : List (List Nat) := [[], [2146], [], [], [], [3091], [], [], [], [], [], [], [], [], [], [], [2146], [], [], [], [3023], [], [], [], [], [], [], [], [], [3052], [], [], [], [], [], [], [], [], [3055], [], [], [], [2159], [], [], [2198], [], [], [], [], [], [], [], [], [2146], [], [], [], [], [], [], [2159], [], [], [3095], [], [], []]
noncomputable def cd_118 : zK := [zj (.aload 0) 1 0 0 0, zj (.getfield 0) 4 11 1 0, none, none, zj (.iload 1) 5 1 0 0, zj (.invokevirtual 0) 8 19 1 2, none, none, zj (.astore 4) 10 4 0 0, none, zj (.aload 4) 12 4 0 0, none, zj (.ifnull 0) 15 47 0 0, none, none, zj (.iload 2) 16 2 0 0, zj (.invokestatic 0) 19 159 1 0, none, none, zj (.ifCond .eq 0) 22 47 0 0, none, none, zj (.iload 3) 23 3 0 0, zj (.invokestatic 0) 26 159 1 0, none, none, zj (.ifCond .eq 0) 29 47 0 0, none, none, zj (.iload 2) 30 2 0 0, zj (.aload 4) 32 4 0 0, none, zj (.getfield 0) 35 0 1 0, none, none, zj (.if_icmp .lt 0) 38 47 0 0, none, none, zj (.iload 3) 39 3 0 0, zj (.aload 4) 41 4 0 0, none, zj (.getfield 0) 44 0 2 0, none, none, zj (.if_icmp .ge 0) 47 49 0 0, none, none, zi (.aconst_null) 48 0 0 0 (.int (-1)), zj (.ireturn) 49 0 0 0, zj (.aload 0) 50 0 0 0, zj (.getfield 0) 53 11 1 0, none, none, zj (.iload 1) 54 1 0 0, zj (.iload 2) 55 2 0 0, zj (.iload 3) 56 3 0 0, zj (.invokevirtual 0) 59 22 3 2, none, none, zj (.ireturn) 60 0 0 0]
noncomputable def pp_118 : List (List Nat) := [[], [2146], [], [], [], [3091], [], [], [], [], [], [], [], [], [], [], [2195], [], [], [], [], [], [], [2195], [], [], [], [], [], [], [], [], [3043], [], [], [], [], [], [], [], [], [3046], [], [], [], [], [], [], [], [], [2146], [], [], [], [], [], [3104], [], [], []]
noncomputable def cd_119 : zK := [zj (.aload 0) 1 0 0 0, zj (.getfield 0) 4 11 1 0, none, none, zj (.iload 1) 5 1 0 0, zj (.invokevirtual 0) 8 19 1 2, none, none, zj (.astore 3) 9 3 0 0, zj (.aload 3) 10 3 0 0, zj (.ifnonnull 0) 13 15 0 0, none, none, zi (.aconst_null) 14 0 0 0 (.int (-1)), zj (.ireturn) 15 0 0 0, zj (.iload 2) 16 2 0 0, zj (.tableswitch 81 0 3 #[48, 53, 58, 71]) 48 0 0 0, none, none, none, none, none, none, none, none, none, none, none, none, none, none, none, none, none, none, none, none, none, none, none, none, none, none, none, none, none, none, none, zj (.aload 3) 49 3 0 0, zj (.getfield 0) 52 0 0 0, none, none, zj (.ireturn) 53 0 0 0, zj (.aload 3) 54 3 0 0, zj (.getfield 0) 57 0 1 0, none, none, zj (.ireturn) 58 0 0 0, zj (.aload 3) 59 3 0 0, zj (.getfield 0) 62 0 7 0, none, none, zj (.ifCond .eq 0) 65 69 0 0, none, none, zi (.aconst_null) 66 0 0 0 (.int 1), zj (.goto 0) 69 70 0 0, none, none, zi (.aconst_null) 70 0 0 0 (.int 0), zj (.ireturn) 71 0 0 0, zj (.aload 0) 72 0 0 0, zj (.aload 3) 73 3 0 0, zj (.aload 0) 74 0 0 0, zj (.getfield 0) 77 11 14 0, none, none, zj (.invokevirtual 0) 80 163 2 11, none, none, zj (.ireturn) 81 0 0 0, zi (.aconst_null) 82 0 0 0 (.int (-1)), zj (.ireturn) 83 0 0 0]
noncomputable def pp_119 : List (List Nat) := [[], [2146], [], [], [], [3091], [], [], [], [], [], [], [], [], [], [], [], [], [], [], [], [], [], [], [], [], [], [], [], [], [], [], [], [], [], [], [], [], [], [], [], [], [], [], [], [], [], [], [], [3040], [], [], [], [], [3043], [], [], [], [], [3059], [], [], [], [], [], [], [], [], [], [], [], [], [], [], [2159], [], [], [3112], [], [], [], [], []]
noncomputable def cd_120 : zK := [zj (.iload 1) 1 1 0 0, zj (.invokestatic 0) 4 161 1 0, none, none, zj (.ifCond .eq 0) 7 26 0 0, none, none, zj (.iload 2) 8 2 0 0, zj (.invokestatic 0) 11 162 1 0, none, none, zj (.ifCond .eq 0) 14 26 0 0, none, none, zj (.aload 0) 15 0 0 0, zj (.getfield 0) 18 11 0 0, none, none, zj (.iload 1) 19 1 0 0, zj (.iload 2) 20 2 0 0, zj (.invokevirtual 0) 23 33 2 3, none, none, zj (.goto 0) 26 27 0 0, none, none, zi (.aconst_null) 27 0 0 0 (.int (-1)), zj (.ireturn) 28 0 0 0]
noncomputable def pp_120 : List (List Nat) := [[], [2216], [], [], [], [], [], [], [3128], [], [], [], [], [], [], [2145], [], [], [], [], [3131], [], [], [], [], [], [], []]
noncomputable def cd_121 : zK := [zj (.aload 0) 1 0 0 0, zj (.getfield 0) 4 11 1 0, none, none, zj (.iload 1) 5 1 0 0, zj (.invokevirtual 0) 8 19 1 2, none, none, zj (.astore 6) 10 6 0 0, none, zj (.aload 6) 12 6 0 0, none, zj (.ifnull 0) 15 46 0 0, none, none, zj (.iload 2) 16 2 0 0, zj (.invokestatic 0) 19 159 1 0, none, none, zj (.ifCond .eq 0) 22 46 0 0, none, none, zj (.iload 2) 23 2 0 0, zj (.aload 6) 25 6 0 0, none, zj (.getfield 0) 28 0 1 0, none, none, zj (.if_icmp .lt 0) 31 46 0 0, none, none, zj (.iload 3) 32 3 0 0, zj (.invokestatic 0) 35 161 1 0, none, none, zj (.ifCond .eq 0) 38 46 0 0, none, none, zj (.iload 4) 40 4 0 0, none, zj (.invokestatic 0) 43 162 1 0, none, none, zj (.ifCond .ne 0) 46 48 0 0, none, none, zi (.aconst_null) 47 0 0 0 (.int (-1)), zj (.ireturn) 48 0 0 0, zj (.iload 5) 50 5 0 0, none, zi (.aconst_null) 51 0 0 0 (.int (-1)), zj (.if_icmp .eq 0) 54 68 0 0, none, none, zj (.aload 0) 55 0 0 0, zj (.getfield 0) 58 11 0 0, none, none, zj (.iload 5) 60 5 0 0, none, zj (.invokevirtual 0) 63 26 1 3, none, none, zj (.ifCond .ne 0) 66 68 0 0, none, none, zi (.aconst_null) 67 0 0 0 (.int (-1)), zj (.ireturn) 68 0 0 0, zj (.aload 0) 69 0 0 0, zj (.aload 6) 71 6 0 0, none, zj (.iload 2) 72 2 0 0, zj (.invokevirtual 0) 75 163 2 11, none, none, zj (.iload 5) 77 5 0 0, none, zi (.aconst_null) 78 0 0 0 (.int (-1)), zj (.if_icmp .ne 0) 81 85 0 0, none, none, zi (.aconst_null) 82 0 0 0 (.int 0), zj (.goto 0) 85 89 0 0, none, none, zi (.aconst_null) 86 0 0 0 (.int 1), zj (.iload 5) 88 5 0 0, none, zj (.ishl) 89 0 0 0, zj (.ior) 90 0 0 0, zj (.istore 7) 92 7 0 0, none, zj (.aload 0) 93 0 0 0, zj (.getfield 0) 96 11 0 0, none, none, zj (.aload 6) 98 6 0 0, none, zj (.getfield 0) 101 0 0 0, none, none, zj (.iload 7) 103 7 0 0, none, zj (.iload 3) 104 3 0 0, zj (.iload 4) 106 4 0 0, none, zj (.invokevirtual 0) 109 34 4 3, none, none, zj (.ifCond .eq 0) 112 116 0 0, none, none, zi (.aconst_null) 113 0 0 0 (.int 1), zj (.goto 0) 116 117 0 0, none, none, zi (.aconst_null) 117 0 0 0 (.int 0), zj (.ireturn) 118 0 0 0]
noncomputable def pp_121 : List (List Nat) := [[], [2146], [], [], [], [3091], [], [], [], [], [], [], [], [], [], [], [2195], [], [], [], [], [], [], [], [], [3043], [], [], [], [], [], [], [2216], [], [], [], [], [], [], [], [3128], [], [], [], [], [], [], [], [], [], [], [], [], [], [], [2145], [], [], [], [], [3011], [], [], [], [], [], [], [], [], [], [], [], [3112], [], [], [], [], [], [], [], [], [], [], [], [], [], [], [], [], [], [], [], [], [2145], [], [], [], [], [3040], [], [], [], [], [], [], [], [3139], [], [], [], [], [], [], [], [], [], [], []]
noncomputable def cd_122 : zK := [zj (.aload 0) 1 0 0 0, zj (.getfield 0) 4 11 2 0, none, none, zi (.aconst_null) 6 0 0 0 (.int 20), none, zj (.invokevirtual 0) 9 72 1 8, none, none, zj (.ifCond .ne 0) 12 14 0 0, none, none, zi (.aconst_null) 13 0 0 0 (.int (-1)), zj (.ireturn) 14 0 0 0, zj (.aload 0) 15 0 0 0, zj (.getfield 0) 18 11 2 0, none, none, zj (.iload 1) 19 1 0 0, zj (.invokevirtual 0) 22 73 1 8, none, none, zj (.aload 0) 23 0 0 0, zj (.getfield 0) 26 11 2 0, none, none, zj (.iload 2) 27 2 0 0, zj (.invokevirtual 0) 30 73 1 8, none, none, zj (.aload 0) 31 0 0 0, zj (.getfield 0) 34 11 2 0, none, none, zj (.iload 3) 35 3 0 0, zj (.invokevirtual 0) 38 73 1 8, none, none, zj (.aload 0) 39 0 0 0, zj (.getfield 0) 42 11 2 0, none, none, zj (.iload 4) 44 4 0 0, none, zj (.invokevirtual 0) 47 73 1 8, none, none, zj (.aload 0) 48 0 0 0, zj (.getfield 0) 51 11 2 0, none, none, zj (.iload 5) 53 5 0 0, none, zj (.invokevirtual 0) 56 73 1 8, none, none, zj (.aload 0) 57 0 0 0, zj (.getfield 0) 60 11 2 0, none, none, zj (.getfield 0) 63 8 1 0, none, none, zj (.ireturn) 64 0 0 0]
noncomputable def pp_122 : List (List Nat) := [[], [2147], [], [], [], [], [3148], [], [], [], [], [], [], [], [], [2147], [], [], [], [3152], [], [], [], [2147], [], [], [], [3152], [], [], [], [2147], [], [], [], [3152], [], [], [], [2147], [], [], [], [], [3152], [], [], [], [2147], [], [], [], [], [3152], [], [], [], [2147], [], [], [1121], [], [], []]
noncomputable def cd_123 : zK := [zj (.iload 1) 1 1 0 0, zi (.aconst_null) 2 0 0 0 (.int 0), zj (.aload 0) 3 0 0 0, zj (.getfield 0) 6 11 2 0, none, none, zj (.getfield 0) 9 8 1 0, none, none, zj (.invokestatic 0) 12 158 3 0, none, none, zj (.ifCond .eq 0) 15 26 0 0, none, none, zj (.aload 0) 16 0 0 0, zj (.getfield 0) 19 11 2 0, none, none, zj (.iload 1) 20 1 0 0, zj (.invokevirtual 0) 23 74 1 8, none, none, zj (.goto 0) 26 27 0 0, none, none, zi (.aconst_null) 27 0 0 0 (.int (-1)), zj (.ireturn) 28 0 0 0]
noncomputable def pp_123 : List (List Nat) := [[], [], [], [2147], [], [], [1121], [], [], [2198], [], [], [], [], [], [], [2147], [], [], [], [3160], [], [], [], [], [], [], []]
noncomputable def cd_124 : zK := [zj (.aload 0) 1 0 0 0, zj (.getfield 0) 4 11 3 0, none, none, zj (.invokevirtual 0) 7 63 0 7, none, none, zj (.ifCond .ne 0) 10 24 0 0, none, none, zj (.iload 1) 11 1 0 0, zj (.aload 0) 12 0 0 0, zj (.getfield 0) 15 11 14 0, none, none, zi (.aconst_null) 18 0 0 0 (.int 599), none, none, zj (.invokestatic 0) 21 158 3 0, none, none, zj (.ifCond .ne 0) 24 26 0 0, none, none, zi (.aconst_null) 25 0 0 0 (.int (-1)), zj (.ireturn) 26 0 0 0, zj (.aload 0) 27 0 0 0, zj (.getfield 0) 30 11 2 0, none, none, zj (.invokevirtual 0) 33 75 0 8, none, none, zj (.istore 2) 34 2 0 0, zj (.aload 0) 35 0 0 0, zj (.getfield 0) 38 11 2 0, none, none, zi (.aconst_null) 39 0 0 0 (.int 0), zj (.invokevirtual 0) 42 74 1 8, none, none, zj (.pop) 43 0 0 0, zj (.iload 2) 44 2 0 0, zi (.aconst_null) 45 0 0 0 (.int (-1)), zj (.if_icmp .ne 0) 48 63 0 0, none, none, zj (.aload 0) 49 0 0 0, zj (.getfield 0) 52 11 3 0, none, none, zj (.iload 1) 53 1 0 0, zj (.aload 0) 54 0 0 0, zj (.getfield 0) 57 11 2 0, none, none, zj (.invokevirtual 0) 60 64 2 7, none, none, zj (.goto 0) 63 67 0 0, none, none, zi (.aconst_null) 65 0 0 0 (.int (-2)), none, zj (.iload 2) 66 2 0 0, zj (.isub) 67 0 0 0, zj (.ireturn) 68 0 0 0]
noncomputable def pp_124 : List (List Nat) := [[], [2148], [], [], [3168], [], [], [], [], [], [], [], [2159], [], [], [], [], [], [2198], [], [], [], [], [], [], [], [], [2147], [], [], [3172], [], [], [], [], [2147], [], [], [], [3160], [], [], [], [], [], [], [], [], [], [2148], [], [], [], [], [2147], [], [], [4073], [], [], [], [], [], [], [], [], [], []]
noncomputable def cd_125 : zK := [zj (.iload 1) 1 1 0 0, zj (.invokestatic 0) 4 159 1 0, none, none, zj (.ifCond .eq 0) 7 18 0 0, none, none, zj (.aload 0) 8 0 0 0, zj (.getfield 0) 11 11 3 0, none, none, zj (.iload 1) 12 1 0 0, zj (.invokevirtual 0) 15 65 1 7, none, none, zj (.goto 0) 18 19 0 0, none, none, zi (.aconst_null) 19 0 0 0 (.int (-1)), zj (.ireturn) 20 0 0 0]
noncomputable def pp_125 : List (List Nat) := [[], [2195], [], [], [], [], [], [], [2148], [], [], [], [4096], [], [], [], [], [], [], []]
noncomputable def cd_126 : zK := [zj (.aload 0) 1 0 0 0, zj (.getfield 0) 4 11 0 0, none, none, zj (.iload 1) 5 1 0 0, zj (.invokevirtual 0) 8 25 1 3, none, none, zj (.ifCond .eq 0) 11 25 0 0, none, none, zj (.iload 2) 12 2 0 0, zj (.invokestatic 0) 15 161 1 0, none, none, zj (.ifCond .eq 0) 18 25 0 0, none, none, zj (.iload 3) 19 3 0 0, zj (.invokestatic 0) 22 159 1 0, none, none, zj (.ifCond .ne 0) 25 28 0 0, none, none, zi (.aconst_null) 27 0 0 0 (.int (-2)), none, zj (.ireturn) 28 0 0 0, zj (.aload 0) 29 0 0 0, zj (.iload 1) 30 1 0 0, zj (.invokevirtual 0) 33 164 1 11, none, none, zj (.aload 0) 34 0 0 0, zj (.iload 1) 35 1 0 0, zj (.iload 2) 36 2 0 0, zj (.iload 3) 37 3 0 0, zj (.invokevirtual 0) 40 167 3 11, none, none, zj (.ireturn) 41 0 0 0]
noncomputable def pp_126 : List (List Nat) := [[], [2145], [], [], [], [3007], [], [], [], [], [], [], [2216], [], [], [], [], [], [], [2195], [], [], [], [], [], [], [], [], [], [], [4104], [], [], [], [], [], [], [4122], [], [], []]
noncomputable def cd_127 : zK := [zj (.aload 0) 1 0 0 0, zj (.iload 1) 2 1 0 0, zj (.iload 2) 3 2 0 0, zj (.iload 3) 4 3 0 0, zj (.invokevirtual 0) 7 126 3 11, none, none, zj (.istore 4) 9 4 0 0, none, zj (.iload 4) 11 4 0 0, none, zi (.aconst_null) 13 0 0 0 (.int (-2)), none, zj (.if_icmp .ne 0) 16 18 0 0, none, none, zi (.aconst_null) 17 0 0 0 (.int (-1)), zj (.ireturn) 18 0 0 0, zj (.iload 4) 20 4 0 0, none, zi (.aconst_null) 21 0 0 0 (.int (-1)), zj (.if_icmp .eq 0) 24 51 0 0, none, none, zj (.aload 0) 25 0 0 0, zj (.getfield 0) 28 11 0 0, none, none, zj (.iload 1) 29 1 0 0, zj (.aload 0) 30 0 0 0, zj (.getfield 0) 33 11 0 0, none, none, zj (.iload 1) 34 1 0 0, zj (.iload 3) 35 3 0 0, zj (.invokevirtual 0) 38 32 2 3, none, none, zj (.iload 2) 39 2 0 0, zj (.iload 4) 41 4 0 0, none, zj (.invokevirtual 0) 44 34 4 3, none, none, zj (.ifCond .eq 0) 47 51 0 0, none, none, zi (.aconst_null) 48 0 0 0 (.int 1), zj (.goto 0) 51 52 0 0, none, none, zi (.aconst_null) 52 0 0 0 (.int 0), zj (.ireturn) 53 0 0 0]
noncomputable def pp_127 : List (List Nat) := [[], [], [], [], [4166], [], [], [], [], [], [], [], [], [], [], [], [], [], [], [], [], [], [], [], [], [2145], [], [], [], [], [2145], [], [], [], [], [3116], [], [], [], [], [], [3139], [], [], [], [], [], [], [], [], [], [], []]
noncomputable def cd_128 : zK := [zj (.aload 0) 1 0 0 0, zj (.getfield 0) 4 11 0 0, none, none, zj (.iload 1) 5 1 0 0, zj (.invokevirtual 0) 8 25 1 3, none, none, zj (.ifCond .eq 0) 11 18 0 0, none, none, zj (.iload 2) 12 2 0 0, zj (.invokestatic 0) 15 159 1 0, none, none, zj (.ifCond .ne 0) 18 20 0 0, none, none, zi (.aconst_null) 19 0 0 0 (.int (-1)), zj (.ireturn) 20 0 0 0, zj (.aload 0) 21 0 0 0, zj (.iload 1) 22 1 0 0, zj (.invokevirtual 0) 25 164 1 11, none, none, zj (.aload 0) 26 0 0 0, zj (.iload 1) 27 1 0 0, zj (.iload 2) 28 2 0 0, zi (.aconst_null) 29 0 0 0 (.int 0), zj (.invokevirtual 0) 32 165 3 11, none, none, zj (.aload 0) 33 0 0 0, zj (.getfield 0) 36 11 3 0, none, none, zj (.aload 0) 37 0 0 0, zj (.getfield 0) 40 11 3 0, none, none, zj (.iload 2) 41 2 0 0, zj (.invokevirtual 0) 44 65 1 7, none, none, zi (.aconst_null) 46 0 0 0 (.int 15), none, zj (.invokevirtual 0) 49 66 2 7, none, none, zi (.aconst_null) 50 0 0 0 (.int (-1)), zj (.if_icmp .ne 0) 53 57 0 0, none, none, zi (.aconst_null) 54 0 0 0 (.int 0), zj (.goto 0) 57 58 0 0, none, none, zi (.aconst_null) 58 0 0 0 (.int 1), zj (.ireturn) 59 0 0 0]
noncomputable def pp_128 : List (List Nat) := [[], [2145], [], [], [], [3007], [], [], [], [], [], [], [2195], [], [], [], [], [], [], [], [], [], [4104], [], [], [], [], [], [], [4126], [], [], [], [2148], [], [], [], [2148], [], [], [], [4096], [], [], [], [], [4133], [], [], [], [], [], [], [], [], [], [], [], []]
noncomputable def cd_129 : zK := [zj (.aload 0) 1 0 0 0, zj (.getfield 0) 4 11 0 0, none, none, zj (.iload 1) 5 1 0 0, zj (.invokevirtual 0) 8 25 1 3, none, none, zj (.ifCond .eq 0) 11 29 0 0, none, none, zj (.iload 2) 12 2 0 0, zj (.invokestatic 0) 15 161 1 0, none, none, zj (.ifCond .eq 0) 18 29 0 0, none, none, zj (.iload 3) 19 3 0 0, zj (.invokestatic 0) 22 162 1 0, none, none, zj (.ifCond .eq 0) 25 29 0 0, none, none, zi (.aconst_null) 26 0 0 0 (.int 1), zj (.goto 0) 29 30 0 0, none, none, zi (.aconst_null) 30 0 0 0 (.int 0), zj (.istore 5) 32 5 0 0, none, zj (.iload 5) 34 5 0 0, none, zj (.ifCond .eq 0) 37 52 0 0, none, none, zj (.aload 0) 38 0 0 0, zj (.getfield 0) 41 11 4 0, none, none, zj (.iload 1) 42 1 0 0, zj (.iload 2) 43 2 0 0, zj (.iload 3) 44 3 0 0, zj (.iload 4) 46 4 0 0, none, zj (.invokevirtual 0) 49 103 4 10, none, none, zj (.goto 0) 52 53 0 0, none, none, zi (.aconst_null) 53 0 0 0 (.int (-1)), zj (.ireturn) 54 0 0 0]
noncomputable def pp_129 : List (List Nat) := [[], [2145], [], [], [], [3007], [], [], [], [], [], [], [2216], [], [], [], [], [], [], [3128], [], [], [], [], [], [], [], [], [], [], [], [], [], [], [], [], [], [], [2149], [], [], [], [], [], [], [], [4175], [], [], [], [], [], [], []]
noncomputable def cd_130 : zK := [zj (.aload 0) 1 0 0 0, zj (.getfield 0) 4 11 4 0, none, none, zj (.iload 1) 5 1 0 0, zj (.invokevirtual 0) 8 102 1 10, none, none, zj (.ifCond .eq 0) 11 42 0 0, none, none, zj (.aload 0) 12 0 0 0, zj (.getfield 0) 15 11 1 0, none, none, zj (.iload 2) 16 2 0 0, zj (.invokevirtual 0) 19 15 1 2, none, none, zj (.ifCond .eq 0) 22 42 0 0, none, none, zj (.aload 0) 23 0 0 0, zj (.getfield 0) 26 11 4 0, none, none, zj (.iload 1) 27 1 0 0, zj (.iload 2) 28 2 0 0, zj (.aload 0) 29 0 0 0, zj (.getfield 0) 32 11 14 0, none, none, zj (.invokevirtual 0) 35 104 3 10, none, none, zj (.ifCond .eq 0) 38 42 0 0, none, none, zi (.aconst_null) 39 0 0 0 (.int 1), zj (.goto 0) 42 43 0 0, none, none, zi (.aconst_null) 43 0 0 0 (.int 0), zj (.ireturn) 44 0 0 0]
noncomputable def pp_130 : List (List Nat) := [[], [2149], [], [], [], [4183], [], [], [], [], [], [], [2146], [], [], [], [3023], [], [], [], [], [], [], [2149], [], [], [], [], [], [2159], [], [], [4187], [], [], [], [], [], [], [], [], [], [], []]
noncomputable def cd_131 : zK := [zj (.aload 0) 1 0 0 0, zj (.getfield 0) 4 11 1 0, none, none, zj (.iload 1) 5 1 0 0, zj (.invokevirtual 0) 8 15 1 2, none, none, zj (.ifCond .eq 0) 11 41 0 0, none, none, zj (.aload 0) 12 0 0 0, zj (.getfield 0) 15 11 0 0, none, none, zj (.iload 2) 16 2 0 0, zj (.invokevirtual 0) 19 25 1 3, none, none, zj (.ifCond .eq 0) 22 41 0 0, none, none, zj (.iload 3) 23 3 0 0, zj (.invokestatic 0) 26 161 1 0, none, none, zj (.ifCond .eq 0) 29 41 0 0, none, none, zj (.iload 4) 31 4 0 0, none, zj (.invokestatic 0) 34 159 1 0, none, none, zj (.ifCond .eq 0) 37 41 0 0, none, none, zi (.aconst_null) 38 0 0 0 (.int 1), zj (.goto 0) 41 42 0 0, none, none, zi (.aconst_null) 42 0 0 0 (.int 0), zj (.istore 6) 44 6 0 0, none, zj (.iload 6) 46 6 0 0, none, zj (.ifCond .eq 0) 49 59 0 0, none, none, zj (.iload 5) 51 5 0 0, none, zi (.aconst_null) 52 0 0 0 (.int 0), zi (.aconst_null) 53 0 0 0 (.int 1), zj (.invokestatic 0) 56 158 3 0, none, none, zj (.ifCond .ne 0) 59 62 0 0, none, none, zi (.aconst_null) 61 0 0 0 (.int (-2)), none, zj (.ireturn) 62 0 0 0, zj (.iload 5) 64 5 0 0, none, zj (.ifCond .ne 0) 67 80 0 0, none, none, zj (.aload 0) 68 0 0 0, zj (.getfield 0) 71 11 4 0, none, none, zj (.iload 1) 72 1 0 0, zj (.iload 2) 73 2 0 0, zj (.iload 3) 74 3 0 0, zj (.iload 4) 76 4 0 0, none, zj (.invokevirtual 0) 79 106 4 10, none, none, zj (.ireturn) 80 0 0 0, zj (.aload 0) 81 0 0 0, zj (.getfield 0) 84 11 4 0, none, none, zj (.iload 1) 85 1 0 0, zj (.iload 2) 86 2 0 0, zj (.iload 3) 87 3 0 0, zj (.iload 4) 89 4 0 0, none, zj (.invokevirtual 0) 92 107 4 10, none, none, zj (.ireturn) 93 0 0 0]
noncomputable def pp_131 : List (List Nat) := [[], [2146], [], [], [], [3023], [], [], [], [], [], [], [2145], [], [], [], [3007], [], [], [], [], [], [], [2216], [], [], [], [], [], [], [], [2195], [], [], [], [], [], [], [], [], [], [], [], [], [], [], [], [], [], [], [], [], [], [2198], [], [], [], [], [], [], [], [], [], [], [], [], [], [], [2149], [], [], [], [], [], [], [], [4195], [], [], [], [], [2149], [], [], [], [], [], [], [], [4204], [], [], []]
noncomputable def cd_132 : zK := [zj (.aload 0) 1 0 0 0, zj (.getfield 0) 4 11 1 0, none, none, zj (.iload 1) 5 1 0 0, zj (.invokevirtual 0) 8 15 1 2, none, none, zj (.ifCond .eq 0) 11 29 0 0, none, none, zj (.aload 0) 12 0 0 0, zj (.getfield 0) 15 11 0 0, none, none, zj (.iload 2) 16 2 0 0, zj (.invokevirtual 0) 19 25 1 3, none, none, zj (.ifCond .eq 0) 22 29 0 0, none, none, zj (.iload 3) 23 3 0 0, zj (.invokestatic 0) 26 161 1 0, none, none, zj (.ifCond .ne 0) 29 32 0 0, none, none, zi (.aconst_null) 31 0 0 0 (.int (-2)), none, zj (.ireturn) 32 0 0 0, zj (.aload 0) 33 0 0 0, zj (.iload 2) 34 2 0 0, zj (.invokevirtual 0) 37 164 1 11, none, none, zj (.aload 0) 38 0 0 0, zi (.aconst_null) 39 0 0 0 (.long 1), zj (.iload 1) 40 1 0 0, zj (.lshl) 41 0 0 0, zj (.iload 2) 42 2 0 0, zj (.iload 3) 43 3 0 0, zj (.invokevirtual 0) 46 168 3 11, none, none, zj (.ireturn) 47 0 0 0]
noncomputable def pp_132 : List (List Nat) := [[], [2146], [], [], [], [3023], [], [], [], [], [], [], [2145], [], [], [], [3007], [], [], [], [], [], [], [2216], [], [], [], [], [], [], [], [], [], [], [4104], [], [], [], [], [], [], [], [], [4215], [], [], []]
noncomputable def cd_133 : zK := [zj (.aload 0) 1 0 0 0, zj (.getfield 0) 4 11 1 0, none, none, zj (.iload 1) 5 1 0 0, zj (.invokevirtual 0) 8 19 1 2, none, none, zj (.astore 8) 10 8 0 0, none, zj (.aload 8) 12 8 0 0, none, zj (.ifnull 0) 15 39 0 0, none, none, zj (.aload 8) 17 8 0 0, none, zj (.getfield 0) 20 0 7 0, none, none, zj (.ifCond .ne 0) 23 39 0 0, none, none, zj (.iload 2) 24 2 0 0, zj (.aload 8) 26 8 0 0, none, zj (.getfield 0) 29 0 6 0, none, none, zj (.aload 0) 30 0 0 0, zj (.getfield 0) 33 11 14 0, none, none, zj (.invokestatic 0) 36 158 3 0, none, none, zj (.ifCond .ne 0) 39 41 0 0, none, none, zi (.aconst_null) 40 0 0 0 (.int (-1)), zj (.ireturn) 41 0 0 0, zj (.iload 3) 42 3 0 0, zj (.invokestatic 0) 45 161 1 0, none, none, zj (.ifCond .eq 0) 48 77 0 0, none, none, zj (.iload 4) 50 4 0 0, none, zj (.invokestatic 0) 53 162 1 0, none, none, zj (.ifCond .eq 0) 56 77 0 0, none, none, zj (.iload 5) 58 5 0 0, none, zi (.aconst_null) 59 0 0 0 (.int 0), zi (.aconst_null) 61 0 0 0 (.int 9), none, zj (.invokestatic 0) 64 158 3 0, none, none, zj (.ifCond .eq 0) 67 77 0 0, none, none, zj (.aload 0) 68 0 0 0, zj (.getfield 0) 71 11 5 0, none, none, zj (.invokevirtual 0) 74 7 0 1, none, none, zj (.ifCond .eq 0) 77 79 0 0, none, none, zi (.aconst_null) 78 0 0 0 (.int (-1)), zj (.ireturn) 79 0 0 0, zj (.aload 8) 81 8 0 0, none, zj (.iload 2) 82 2 0 0, zj (.putfield 0) 85 0 6 0, none, none, zj (.aload 8) 87 8 0 0, none, zj (.iload 7) 89 7 0 0, none, zj (.putfield 0) 92 0 7 0, none, none, zj (.aload 0) 93 0 0 0, zj (.getfield 0) 96 11 5 0, none, none, zj (.iload 1) 97 1 0 0, zj (.aload 8) 99 8 0 0, none, zj (.getfield 0) 102 0 0 0, none, none, zj (.iload 2) 103 2 0 0, zj (.aload 0) 104 0 0 0, zj (.getfield 0) 107 11 14 0, none, none, zj (.invokevirtual 0) 110 8 4 1, none, none, zj (.istore 9) 112 9 0 0, none, zj (.aload 0) 113 0 0 0, zj (.getfield 0) 116 11 5 0, none, none, zj (.iload 9) 118 9 0 0, none, zj (.iload 3) 119 3 0 0, zj (.iload 4) 121 4 0 0, none, zj (.iload 5) 123 5 0 0, none, zj (.iload 6) 125 6 0 0, none, zj (.invokevirtual 0) 128 9 5 1, none, none, zj (.iload 9) 130 9 0 0, none, zj (.ireturn) 131 0 0 0]
noncomputable def pp_133 : List (List Nat) := [[], [2146], [], [], [], [3091], [], [], [], [], [], [], [], [], [], [], [], [3059], [], [], [], [], [], [], [], [], [3057], [], [], [], [2159], [], [], [2198], [], [], [], [], [], [], [], [], [2216], [], [], [], [], [], [], [], [3128], [], [], [], [], [], [], [], [], [], [], [2198], [], [], [], [], [], [], [2150], [], [], [4228], [], [], [], [], [], [], [], [], [], [], [3057], [], [], [], [], [], [], [3059], [], [], [], [2150], [], [], [], [], [], [3040], [], [], [], [], [2159], [], [], [4232], [], [], [], [], [], [2150], [], [], [], [], [], [], [], [], [], [], [], [4237], [], [], [], [], []]
noncomputable def cd_134 : zK := [zj (.aload 0) 1 0 0 0, zj (.getfield 0) 4 11 5 0, none, none, zj (.iload 1) 5 1 0 0, zj (.invokevirtual 0) 8 6 1 1, none, none, zj (.ifCond .ne 0) 11 13 0 0, none, none, zi (.aconst_null) 12 0 0 0 (.int (-1)), zj (.ireturn) 13 0 0 0, zj (.aload 0) 14 0 0 0, zj (.getfield 0) 17 11 1 0, none, none, zj (.aload 0) 18 0 0 0, zj (.getfield 0) 21 11 5 0, none, none, zj (.getfield 0) 24 1 0 0, none, none, zj (.iload 1) 25 1 0 0, zj (.iaload) 26 0 0 0, zj (.invokevirtual 0) 29 19 1 2, none, none, zj (.astore 2) 30 2 0 0, zj (.aload 2) 31 2 0 0, zj (.ifnonnull 0) 34 36 0 0, none, none, zi (.aconst_null) 35 0 0 0 (.int (-1)), zj (.ireturn) 36 0 0 0, zj (.aload 0) 37 0 0 0, zj (.aload 2) 38 2 0 0, zj (.aload 0) 39 0 0 0, zj (.getfield 0) 42 11 5 0, none, none, zj (.getfield 0) 45 1 2 0, none, none, zj (.iload 1) 46 1 0 0, zj (.iaload) 47 0 0 0, zj (.invokevirtual 0) 50 163 2 11, none, none, zj (.istore 3) 51 3 0 0, zj (.aload 0) 52 0 0 0, zj (.getfield 0) 55 11 0 0, none, none, zj (.aload 2) 56 2 0 0, zj (.getfield 0) 59 0 0 0, none, none, zj (.iload 3) 60 3 0 0, zj (.aload 0) 61 0 0 0, zj (.getfield 0) 64 11 5 0, none, none, zj (.getfield 0) 67 1 4 0, none, none, zj (.iload 1) 68 1 0 0, zj (.iaload) 69 0 0 0, zj (.aload 0) 70 0 0 0, zj (.getfield 0) 73 11 5 0, none, none, zj (.getfield 0) 76 1 5 0, none, none, zj (.iload 1) 77 1 0 0, zj (.iaload) 78 0 0 0, zj (.invokevirtual 0) 81 34 4 3, none, none, zj (.istore 4) 83 4 0 0, none, zj (.iload 4) 85 4 0 0, none, zj (.aload 0) 86 0 0 0, zj (.getfield 0) 89 11 5 0, none, none, zj (.getfield 0) 92 1 7 0, none, none, zj (.iload 1) 93 1 0 0, zj (.baload) 94 0 0 0, zj (.if_icmp .ne 0) 97 101 0 0, none, none, zi (.aconst_null) 98 0 0 0 (.int 0), zj (.goto 0) 101 102 0 0, none, none, zi (.aconst_null) 102 0 0 0 (.int 1), zj (.ireturn) 103 0 0 0]
noncomputable def pp_134 : List (List Nat) := [[], [2150], [], [], [], [5009], [], [], [], [], [], [], [], [], [2146], [], [], [], [2150], [], [], [1230], [], [], [], [], [3091], [], [], [], [], [], [], [], [], [], [], [], [], [2150], [], [], [1233], [], [], [], [], [3112], [], [], [], [], [2145], [], [], [], [3040], [], [], [], [], [2150], [], [], [1236], [], [], [], [], [], [2150], [], [], [1238], [], [], [], [], [3139], [], [], [], [], [], [], [], [2150], [], [], [2002], [], [], [], [], [], [], [], [], [], [], [], [], []]
noncomputable def cd_135 : zK := [zj (.aload 0) 1 0 0 0, zj (.getfield 0) 4 11 0 0, none, none, zj (.iload 1) 5 1 0 0, zj (.invokevirtual 0) 8 25 1 3, none, none, zj (.ifCond .eq 0) 11 27 0 0, none, none, zj (.iload 2) 12 2 0 0, zj (.invokestatic 0) 15 159 1 0, none, none, zj (.ifCond .eq 0) 18 27 0 0, none, none, zj (.iload 3) 19 3 0 0, zi (.aconst_null) 20 0 0 0 (.int 0), zi (.aconst_null) 21 0 0 0 (.int 3), zj (.invokestatic 0) 24 158 3 0, none, none, zj (.ifCond .ne 0) 27 31 0 0, none, none, zi (.aconst_null) 30 0 0 0 (.long (-1)), none, none, zj (.lreturn) 31 0 0 0, zj (.aload 0) 32 0 0 0, zj (.getfield 0) 35 11 5 0, none, none, zj (.iload 1) 36 1 0 0, zj (.iload 2) 37 2 0 0, zj (.iload 3) 38 3 0 0, zj (.invokevirtual 0) 41 11 3 1, none, none, zj (.lreturn) 42 0 0 0]
noncomputable def pp_135 : List (List Nat) := [[], [2145], [], [], [], [3007], [], [], [], [], [], [], [2195], [], [], [], [], [], [], [], [], [2198], [], [], [], [], [], [5014], [], [], [], [], [2150], [], [], [], [], [], [5015], [], [], []]
noncomputable def cd_136 : zK := [zj (.aload 0) 1 0 0 0, zj (.getfield 0) 4 11 1 0, none, none, zj (.iload 1) 5 1 0 0, zj (.invokevirtual 0) 8 15 1 2, none, none, zj (.ifCond .eq 0) 11 21 0 0, none, none, zj (.aload 0) 12 0 0 0, zj (.getfield 0) 15 11 6 0, none, none, zj (.invokevirtual 0) 18 39 0 4, none, none, zj (.goto 0) 21 22 0 0, none, none, zi (.aconst_null) 22 0 0 0 (.int (-1)), zj (.ireturn) 23 0 0 0]
noncomputable def pp_136 : List (List Nat) := [[], [2146], [], [], [], [3023], [], [], [], [], [], [], [2151], [], [], [5032], [], [], [], [], [], [], []]
noncomputable def cd_137 : zK := [zj (.aload 0) 1 0 0 0, zj (.getfield 0) 4 11 6 0, none, none, zj (.iload 1) 5 1 0 0, zj (.invokevirtual 0) 8 37 1 4, none, none, zj (.ifCond .eq 0) 11 38 0 0, none, none, zj (.iload 3) 12 3 0 0, zi (.aconst_null) 13 0 0 0 (.int 0), zi (.aconst_null) 16 0 0 0 (.int 999999), none, none, zj (.invokestatic 0) 19 158 3 0, none, none, zj (.ifCond .eq 0) 22 38 0 0, none, none, zj (.iload 4) 24 4 0 0, none, zi (.aconst_null) 25 0 0 0 (.int 0), zi (.aconst_null) 28 0 0 0 (.int 9999999), none, none, zj (.invokestatic 0) 31 158 3 0, none, none, zj (.ifCond .eq 0) 34 38 0 0, none, none, zi (.aconst_null) 35 0 0 0 (.int 1), zj (.goto 0) 38 39 0 0, none, none, zi (.aconst_null) 39 0 0 0 (.int 0), zj (.istore 5) 41 5 0 0, none, zj (.iload 5) 43 5 0 0, none, zj (.ifCond .eq 0) 46 61 0 0, none, none, zj (.aload 0) 47 0 0 0, zj (.getfield 0) 50 11 6 0, none, none, zj (.iload 1) 51 1 0 0, zj (.iload 2) 52 2 0 0, zj (.iload 3) 53 3 0 0, zj (.iload 4) 55 4 0 0, none, zj (.invokevirtual 0) 58 40 4 4, none, none, zj (.goto 0) 61 62 0 0, none, none, zi (.aconst_null) 62 0 0 0 (.int (-1)), zj (.ireturn) 63 0 0 0]
noncomputable def pp_137 : List (List Nat) := [[], [2151], [], [], [], [5040], [], [], [], [], [], [], [], [5044], [], [], [2198], [], [], [], [], [], [], [], [], [5045], [], [], [2198], [], [], [], [], [], [], [], [], [], [], [], [], [], [], [], [], [], [], [2151], [], [], [], [], [], [], [], [5046], [], [], [], [], [], [], []]
noncomputable def cd_138 : zK := [zj (.aload 0) 1 0 0 0, zj (.getfield 0) 4 11 6 0, none, none, zj (.iload 1) 5 1 0 0, zj (.invokevirtual 0) 8 37 1 4, none, none, zj (.ifCond .eq 0) 11 22 0 0, none, none, zj (.aload 0) 12 0 0 0, zj (.getfield 0) 15 11 6 0, none, none, zj (.iload 1) 16 1 0 0, zj (.invokevirtual 0) 19 41 1 4, none, none, zj (.goto 0) 22 25 0 0, none, none, zi (.aconst_null) 25 0 0 0 (.long (-9000000000000000000)), none, none, zj (.lreturn) 26 0 0 0]
noncomputable def pp_138 : List (List Nat) := [[], [2151], [], [], [], [5040], [], [], [], [], [], [], [2151], [], [], [], [5054], [], [], [], [], [], [5066], [], [], []]
noncomputable def cd_139 : zK := [zj (.aload 0) 1 0 0 0, zj (.getfield 0) 4 11 6 0, none, none, zj (.iload 1) 5 1 0 0, zj (.invokevirtual 0) 8 37 1 4, none, none, zj (.ifCond .eq 0) 11 36 0 0, none, none, zj (.aload 0) 12 0 0 0, zj (.getfield 0) 15 11 6 0, none, none, zj (.iload 1) 16 1 0 0, zj (.iload 2) 17 2 0 0, zj (.invokevirtual 0) 20 38 2 4, none, none, zj (.ifCond .eq 0) 23 36 0 0, none, none, zj (.iload 3) 24 3 0 0, zi (.aconst_null) 25 0 0 0 (.int 0), zi (.aconst_null) 26 0 0 0 (.int 1), zj (.invokestatic 0) 29 158 3 0, none, none, zj (.ifCond .eq 0) 32 36 0 0, none, none, zi (.aconst_null) 33 0 0 0 (.int 1), zj (.goto 0) 36 37 0 0, none, none, zi (.aconst_null) 37 0 0 0 (.int 0), zj (.istore 4) 39 4 0 0, none, zj (.iload 4) 41 4 0 0, none, zj (.ifCond .eq 0) 44 65 0 0, none, none, zj (.aload 0) 45 0 0 0, zj (.getfield 0) 48 11 6 0, none, none, zj (.iload 1) 49 1 0 0, zj (.iload 2) 50 2 0 0, zj (.iload 3) 51 3 0 0, zj (.ifCond .ne 0) 54 58 0 0, none, none, zi (.aconst_null) 55 0 0 0 (.int 1), zj (.goto 0) 58 59 0 0, none, none, zi (.aconst_null) 59 0 0 0 (.int 0), zj (.invokevirtual 0) 62 43 3 4, none, none, zj (.goto 0) 65 68 0 0, none, none, zi (.aconst_null) 68 0 0 0 (.long (-2)), none, none, zj (.lreturn) 69 0 0 0]
noncomputable def pp_139 : List (List Nat) := [[], [2151], [], [], [], [5040], [], [], [], [], [], [], [2151], [], [], [], [], [5071], [], [], [], [], [], [], [], [], [2198], [], [], [], [], [], [], [], [], [], [], [], [], [], [], [], [], [], [], [2151], [], [], [], [], [], [], [], [], [], [], [], [], [], [5072], [], [], [], [], [], [5082], [], [], []]
noncomputable def cd_140 : zK := [zj (.aload 0) 1 0 0 0, zj (.getfield 0) 4 11 6 0, none, none, zj (.iload 1) 5 1 0 0, zj (.invokevirtual 0) 8 37 1 4, none, none, zj (.ifCond .eq 0) 11 41 0 0, none, none, zj (.aload 0) 12 0 0 0, zj (.getfield 0) 15 11 6 0, none, none, zj (.iload 2) 16 2 0 0, zj (.invokevirtual 0) 19 37 1 4, none, none, zj (.ifCond .eq 0) 22 41 0 0, none, none, zj (.iload 1) 23 1 0 0, zj (.iload 2) 24 2 0 0, zj (.if_icmp .eq 0) 27 41 0 0, none, none, zj (.iload 3) 28 3 0 0, zi (.aconst_null) 29 0 0 0 (.int 0), zi (.aconst_null) 31 0 0 0 (.int 63), none, zj (.invokestatic 0) 34 158 3 0, none, none, zj (.ifCond .eq 0) 37 41 0 0, none, none, zi (.aconst_null) 38 0 0 0 (.int 1), zj (.goto 0) 41 42 0 0, none, none, zi (.aconst_null) 42 0 0 0 (.int 0), zj (.istore 4) 44 4 0 0, none, zj (.iload 4) 46 4 0 0, none, zj (.ifCond .eq 0) 49 62 0 0, none, none, zj (.aload 0) 50 0 0 0, zj (.getfield 0) 53 11 6 0, none, none, zj (.iload 1) 54 1 0 0, zj (.iload 2) 55 2 0 0, zj (.iload 3) 56 3 0 0, zj (.invokevirtual 0) 59 42 3 4, none, none, zj (.goto 0) 62 65 0 0, none, none, zi (.aconst_null) 65 0 0 0 (.long (-9000000000000000000)), none, none, zj (.lreturn) 66 0 0 0]
noncomputable def pp_140 : List (List Nat) := [[], [2151], [], [], [], [5040], [], [], [], [], [], [], [2151], [], [], [], [5040], [], [], [], [], [], [], [], [], [], [], [], [], [], [], [2198], [], [], [], [], [], [], [], [], [], [], [], [], [], [], [], [], [], [], [2151], [], [], [], [], [], [5087], [], [], [], [], [], [5066], [], [], []]
noncomputable def cd_141 : zK := [zj (.iload 1) 1 1 0 0, zi (.aconst_null) 2 0 0 0 (.int 0), zi (.aconst_null) 4 0 0 0 (.int 99), none, zj (.invokestatic 0) 7 158 3 0, none, none, zj (.ifCond .eq 0) 10 49 0 0, none, none, zj (.iload 2) 11 2 0 0, zi (.aconst_null) 12 0 0 0 (.int (-1)), zj (.if_icmp .eq 0) 15 22 0 0, none, none, zj (.iload 2) 16 2 0 0, zj (.invokestatic 0) 19 160 1 0, none, none, zj (.ifCond .eq 0) 22 49 0 0, none, none, zj (.aload 0) 23 0 0 0, zj (.getfield 0) 26 11 7 0, none, none, zj (.iload 3) 27 3 0 0, zj (.invokevirtual 0) 30 46 1 5, none, none, zj (.ifCond .eq 0) 33 49 0 0, none, none, zj (.iload 4) 35 4 0 0, none, zi (.aconst_null) 36 0 0 0 (.int 0), zi (.aconst_null) 39 0 0 0 (.int 9999), none, none, zj (.invokestatic 0) 42 158 3 0, none, none, zj (.ifCond .eq 0) 45 49 0 0, none, none, zi (.aconst_null) 46 0 0 0 (.int 1), zj (.goto 0) 49 50 0 0, none, none, zi (.aconst_null) 50 0 0 0 (.int 0), zj (.istore 5) 52 5 0 0, none, zj (.iload 5) 54 5 0 0, none, zj (.ifCond .eq 0) 57 72 0 0, none, none, zj (.aload 0) 58 0 0 0, zj (.getfield 0) 61 11 7 0, none, none, zj (.iload 1) 62 1 0 0, zj (.iload 2) 63 2 0 0, zj (.iload 3) 64 3 0 0, zj (.iload 4) 66 4 0 0, none, zj (.invokevirtual 0) 69 47 4 5, none, none, zj (.goto 0) 72 73 0 0, none, none, zi (.aconst_null) 73 0 0 0 (.int (-1)), zj (.ireturn) 74 0 0 0]
noncomputable def pp_141 : List (List Nat) := [[], [], [], [], [2198], [], [], [], [], [], [], [], [], [], [], [], [2205], [], [], [], [], [], [], [2152], [], [], [], [5092], [], [], [], [], [], [], [], [], [], [], [], [2198], [], [], [], [], [], [], [], [], [], [], [], [], [], [], [], [], [], [], [2152], [], [], [], [], [], [], [], [5096], [], [], [], [], [], [], []]
noncomputable def cd_142 : zK := [zj (.aload 0) 1 0 0 0, zj (.getfield 0) 4 11 7 0, none, none, zj (.iload 1) 5 1 0 0, zj (.invokevirtual 0) 8 45 1 5, none, none, zj (.ifCond .ne 0) 11 14 0 0, none, none, zi (.aconst_null) 13 0 0 0 (.int (-2)), none, zj (.ireturn) 14 0 0 0, zj (.iload 2) 15 2 0 0, zj (.tableswitch 69 0 2 #[40, 50, 60]) 40 0 0 0, none, none, none, none, none, none, none, none, none, none, none, none, none, none, none, none, none, none, none, none, none, none, none, none, zj (.aload 0) 41 0 0 0, zj (.getfield 0) 44 11 7 0, none, none, zj (.getfield 0) 47 5 4 0, none, none, zj (.iload 1) 48 1 0 0, zj (.iaload) 49 0 0 0, zj (.ireturn) 50 0 0 0, zj (.aload 0) 51 0 0 0, zj (.getfield 0) 54 11 7 0, none, none, zj (.getfield 0) 57 5 5 0, none, none, zj (.iload 1) 58 1 0 0, zj (.iaload) 59 0 0 0, zj (.ireturn) 60 0 0 0, zj (.aload 0) 61 0 0 0, zj (.getfield 0) 64 11 7 0, none, none, zj (.iload 1) 65 1 0 0, zj (.invokevirtual 0) 68 51 1 5, none, none, zj (.ireturn) 69 0 0 0, zi (.aconst_null) 71 0 0 0 (.int (-2)), none, zj (.ireturn) 72 0 0 0]
noncomputable def pp_142 : List (List Nat) := [[], [2152], [], [], [], [5113], [], [], [], [], [], [], [], [], [], [], [], [], [], [], [], [], [], [], [], [], [], [], [], [], [], [], [], [], [], [], [], [], [], [], [], [2152], [], [], [2070], [], [], [], [], [], [], [2152], [], [], [2072], [], [], [], [], [], [], [2152], [], [], [], [5117], [], [], [], [], [], []]
noncomputable def cd_143 : zK := [zj (.iload 1) 1 1 0 0, zj (.invokestatic 0) 4 160 1 0, none, none, zj (.ifCond .eq 0) 7 28 0 0, none, none, zj (.aload 0) 8 0 0 0, zj (.getfield 0) 11 11 7 0, none, none, zj (.getfield 0) 14 5 7 0, none, none, zj (.ifCond .le 0) 17 28 0 0, none, none, zj (.aload 0) 18 0 0 0, zj (.getfield 0) 21 11 7 0, none, none, zj (.iload 1) 22 1 0 0, zj (.invokevirtual 0) 25 50 1 5, none, none, zj (.goto 0) 28 29 0 0, none, none, zi (.aconst_null) 29 0 0 0 (.int (-1)), zj (.ireturn) 30 0 0 0]
noncomputable def pp_143 : List (List Nat) := [[], [2205], [], [], [], [], [], [], [2152], [], [], [2075], [], [], [], [], [], [], [2152], [], [], [], [5127], [], [], [], [], [], [], []]
noncomputable def cd_144 : zK := [zj (.aload 0) 1 0 0 0, zj (.getfield 0) 4 11 7 0, none, none, zj (.iload 1) 5 1 0 0, zj (.invokevirtual 0) 8 45 1 5, none, none, zj (.ifCond .eq 0) 11 30 0 0, none, none, zj (.iload 2) 12 2 0 0, zj (.invokestatic 0) 15 159 1 0, none, none, zj (.ifCond .eq 0) 18 30 0 0, none, none, zj (.aload 0) 19 0 0 0, zj (.getfield 0) 22 11 7 0, none, none, zj (.iload 1) 23 1 0 0, zj (.iload 2) 24 2 0 0, zj (.invokevirtual 0) 27 52 2 5, none, none, zj (.goto 0) 30 31 0 0, none, none, zi (.aconst_null) 31 0 0 0 (.int (-1)), zj (.ireturn) 32 0 0 0]
noncomputable def pp_144 : List (List Nat) := [[], [2152], [], [], [], [5113], [], [], [], [], [], [], [2195], [], [], [], [], [], [], [2152], [], [], [], [], [5135], [], [], [], [], [], [], []]
noncomputable def cd_145 : zK := [zj (.aload 0) 1 0 0 0, zj (.getfield 0) 4 11 7 0, none, none, zj (.iload 1) 5 1 0 0, zj (.invokevirtual 0) 8 45 1 5, none, none, zj (.ifCond .eq 0) 11 27 0 0, none, none, zj (.iload 2) 12 2 0 0, zj (.ifCond .lt 0) 15 27 0 0, none, none, zj (.aload 0) 16 0 0 0, zj (.getfield 0) 19 11 7 0, none, none, zj (.iload 1) 20 1 0 0, zj (.iload 2) 21 2 0 0, zj (.invokevirtual 0) 24 53 2 5, none, none, zj (.goto 0) 27 29 0 0, none, none, zi (.aconst_null) 29 0 0 0 (.int (-2)), none, zj (.ireturn) 30 0 0 0]
noncomputable def pp_145 : List (List Nat) := [[], [2152], [], [], [], [5113], [], [], [], [], [], [], [], [], [], [], [2152], [], [], [], [], [5143], [], [], [], [], [], [], [], []]
noncomputable def cd_146 : zK := [zj (.aload 0) 1 0 0 0, zj (.getfield 0) 4 11 0 0, none, none, zj (.iload 1) 5 1 0 0, zj (.invokevirtual 0) 8 25 1 3, none, none, zj (.ifCond .eq 0) 11 46 0 0, none, none, zj (.iload 2) 12 2 0 0, zj (.invokestatic 0) 15 159 1 0, none, none, zj (.ifCond .eq 0) 18 46 0 0, none, none, zj (.iload 3) 19 3 0 0, zj (.invokestatic 0) 22 159 1 0, none, none, zj (.ifCond .eq 0) 25 46 0 0, none, none, zj (.iload 2) 26 2 0 0, zj (.iload 3) 27 3 0 0, zj (.if_icmp .gt 0) 30 46 0 0, none, none, zj (.aload 0) 31 0 0 0, zj (.getfield 0) 34 11 0 0, none, none, zj (.iload 4) 36 4 0 0, none, zj (.invokevirtual 0) 39 26 1 3, none, none, zj (.ifCond .eq 0) 42 46 0 0, none, none, zi (.aconst_null) 43 0 0 0 (.int 1), zj (.goto 0) 46 47 0 0, none, none, zi (.aconst_null) 47 0 0 0 (.int 0), zj (.istore 5) 49 5 0 0, none, zj (.iload 5) 51 5 0 0, none, zj (.ifCond .eq 0) 54 69 0 0, none, none, zj (.aload 0) 55 0 0 0, zj (.getfield 0) 58 11 8 0, none, none, zj (.iload 1) 59 1 0 0, zj (.iload 2) 60 2 0 0, zj (.iload 3) 61 3 0 0, zj (.iload 4) 63 4 0 0, none, zj (.invokevirtual 0) 66 56 4 6, none, none, zj (.goto 0) 69 70 0 0, none, none, zi (.aconst_null) 70 0 0 0 (.int (-1)), zj (.ireturn) 71 0 0 0]
noncomputable def pp_146 : List (List Nat) := [[], [2145], [], [], [], [3007], [], [], [], [], [], [], [2195], [], [], [], [], [], [], [2195], [], [], [], [], [], [], [], [], [], [], [], [2145], [], [], [], [], [3011], [], [], [], [], [], [], [], [], [], [], [], [], [], [], [], [], [], [], [2153], [], [], [], [], [], [], [], [5152], [], [], [], [], [], [], []]
noncomputable def cd_147 : zK := [zj (.aload 0) 1 0 0 0, zj (.getfield 0) 4 11 8 0, none, none, zj (.iload 1) 5 1 0 0, zj (.invokevirtual 0) 8 55 1 6, none, none, zj (.ifCond .eq 0) 11 26 0 0, none, none, zj (.aload 0) 12 0 0 0, zj (.getfield 0) 15 11 8 0, none, none, zj (.iload 1) 16 1 0 0, zj (.aload 0) 17 0 0 0, zj (.getfield 0) 20 11 1 0, none, none, zj (.invokevirtual 0) 23 59 2 6, none, none, zj (.goto 0) 26 27 0 0, none, none, zi (.aconst_null) 27 0 0 0 (.int (-1)), zj (.ireturn) 28 0 0 0]
noncomputable def pp_147 : List (List Nat) := [[], [2153], [], [], [], [5160], [], [], [], [], [], [], [2153], [], [], [], [], [2146], [], [], [5164], [], [], [], [], [], [], []]
noncomputable def cd_148 : zK := [zj (.aload 0) 1 0 0 0, zj (.getfield 0) 4 11 1 0, none, none, zj (.iload 2) 5 2 0 0, zj (.invokevirtual 0) 8 19 1 2, none, none, zj (.astore 3) 9 3 0 0, zj (.aload 0) 10 0 0 0, zj (.getfield 0) 13 11 8 0, none, none, zj (.iload 1) 14 1 0 0, zj (.invokevirtual 0) 17 55 1 6, none, none, zj (.ifCond .eq 0) 20 36 0 0, none, none, zj (.aload 3) 21 3 0 0, zj (.ifnull 0) 24 36 0 0, none, none, zj (.aload 0) 25 0 0 0, zj (.getfield 0) 28 11 8 0, none, none, zj (.iload 1) 29 1 0 0, zj (.aload 3) 30 3 0 0, zj (.invokevirtual 0) 33 57 2 6, none, none, zj (.ifCond .ne 0) 36 38 0 0, none, none, zi (.aconst_null) 37 0 0 0 (.int (-1)), zj (.ireturn) 38 0 0 0, zj (.aload 3) 39 3 0 0, zj (.iload 1) 40 1 0 0, zj (.invokevirtual 0) 43 2 1 0, none, none, zj (.ifCond .eq 0) 46 50 0 0, none, none, zi (.aconst_null) 47 0 0 0 (.int 1), zj (.goto 0) 50 51 0 0, none, none, zi (.aconst_null) 51 0 0 0 (.int 0), zj (.ireturn) 52 0 0 0]
noncomputable def pp_148 : List (List Nat) := [[], [2146], [], [], [], [3091], [], [], [], [], [2153], [], [], [], [5160], [], [], [], [], [], [], [], [], [], [], [2153], [], [], [], [], [5185], [], [], [], [], [], [], [], [], [], [5186], [], [], [], [], [], [], [], [], [], [], []]
noncomputable def cd_149 : zK := [zj (.aload 0) 1 0 0 0, zj (.getfield 0) 4 11 1 0, none, none, zj (.iload 2) 5 2 0 0, zj (.invokevirtual 0) 8 19 1 2, none, none, zj (.astore 3) 9 3 0 0, zj (.aload 0) 10 0 0 0, zj (.getfield 0) 13 11 8 0, none, none, zj (.iload 1) 14 1 0 0, zj (.invokevirtual 0) 17 55 1 6, none, none, zj (.ifCond .eq 0) 20 40 0 0, none, none, zj (.aload 3) 21 3 0 0, zj (.ifnull 0) 24 40 0 0, none, none, zj (.aload 3) 25 3 0 0, zj (.iload 1) 26 1 0 0, zj (.invokevirtual 0) 29 2 1 0, none, none, zj (.ifCond .eq 0) 32 40 0 0, none, none, zj (.aload 3) 33 3 0 0, zj (.iload 1) 34 1 0 0, zj (.invokevirtual 0) 37 3 1 0, none, none, zj (.ifCond .ne 0) 40 42 0 0, none, none, zi (.aconst_null) 41 0 0 0 (.int 0), zj (.ireturn) 42 0 0 0, zj (.aload 3) 43 3 0 0, zj (.iload 1) 44 1 0 0, zj (.aload 0) 45 0 0 0, zj (.getfield 0) 48 11 8 0, none, none, zj (.getfield 0) 51 6 3 0, none, none, zj (.iload 1) 52 1 0 0, zj (.iaload) 53 0 0 0, zj (.aload 0) 54 0 0 0, zj (.getfield 0) 57 11 14 0, none, none, zj (.invokevirtual 0) 60 4 3 0, none, none, zi (.aconst_null) 61 0 0 0 (.int 1), zj (.ireturn) 62 0 0 0]
noncomputable def pp_149 : List (List Nat) := [[], [2146], [], [], [], [3091], [], [], [], [], [2153], [], [], [], [5160], [], [], [], [], [], [], [], [], [], [], [], [5186], [], [], [], [], [], [], [], [5194], [], [], [], [], [], [], [], [], [], [], [2153], [], [], [2103], [], [], [], [], [], [2159], [], [], [5195], [], [], [], []]
noncomputable def cd_150 : zK := [zj (.aload 0) 1 0 0 0, zj (.getfield 0) 4 11 8 0, none, none, zj (.iload 1) 5 1 0 0, zj (.invokevirtual 0) 8 55 1 6, none, none, zj (.ifCond .ne 0) 11 13 0 0, none, none, zi (.aconst_null) 12 0 0 0 (.int (-1)), zj (.ireturn) 13 0 0 0, zj (.iload 2) 14 2 0 0, zi (.aconst_null) 15 0 0 0 (.int (-1)), zj (.if_icmp .ne 0) 18 33 0 0, none, none, zj (.aload 0) 19 0 0 0, zj (.getfield 0) 22 11 8 0, none, none, zj (.iload 1) 23 1 0 0, zj (.aload 0) 24 0 0 0, zj (.getfield 0) 27 11 1 0, none, none, zj (.invokevirtual 0) 30 60 2 6, none, none, zj (.goto 0) 33 46 0 0, none, none, zj (.aload 0) 34 0 0 0, zj (.getfield 0) 37 11 8 0, none, none, zj (.iload 1) 38 1 0 0, zj (.iload 2) 39 2 0 0, zj (.aload 0) 40 0 0 0, zj (.getfield 0) 43 11 1 0, none, none, zj (.invokevirtual 0) 46 61 3 6, none, none, zj (.ireturn) 47 0 0 0]
noncomputable def pp_150 : List (List Nat) := [[], [2153], [], [], [], [5160], [], [], [], [], [], [], [], [], [], [], [], [], [], [2153], [], [], [], [], [2146], [], [], [5204], [], [], [], [], [], [], [2153], [], [], [], [], [], [2146], [], [], [5208], [], [], []]
noncomputable def cd_151 : zK := [zj (.aload 0) 1 0 0 0, zj (.getfield 0) 4 11 1 0, none, none, zj (.iload 1) 5 1 0 0, zj (.invokevirtual 0) 8 15 1 2, none, none, zj (.ifCond .eq 0) 11 27 0 0, none, none, zj (.aload 0) 12 0 0 0, zj (.getfield 0) 15 11 1 0, none, none, zj (.iload 1) 16 1 0 0, zj (.iload 2) 17 2 0 0, zj (.invokevirtual 0) 20 17 2 2, none, none, zj (.ifCond .eq 0) 23 27 0 0, none, none, zi (.aconst_null) 24 0 0 0 (.int 1), zj (.goto 0) 27 28 0 0, none, none, zi (.aconst_null) 28 0 0 0 (.int 0), zj (.ireturn) 29 0 0 0]
noncomputable def pp_151 : List (List Nat) := [[], [2146], [], [], [], [3023], [], [], [], [], [], [], [2146], [], [], [], [], [5216], [], [], [], [], [], [], [], [], [], [], []]
noncomputable def cd_152 : zK := [zj (.aload 0) 1 0 0 0, zj (.getfield 0) 4 11 5 0, none, none, zj (.iload 1) 5 1 0 0, zj (.invokevirtual 0) 8 6 1 1, none, none, zj (.ifCond .eq 0) 11 23 0 0, none, none, zj (.aload 0) 12 0 0 0, zj (.getfield 0) 15 11 5 0, none, none, zj (.getfield 0) 18 1 7 0, none, none, zj (.iload 1) 19 1 0 0, zj (.baload) 20 0 0 0, zj (.ifCond .ne 0) 23 27 0 0, none, none, zi (.aconst_null) 26 0 0 0 (.long (-1)), none, none, zj (.lreturn) 27 0 0 0, zj (.aload 0) 28 0 0 0, zj (.getfield 0) 31 11 1 0, none, none, zj (.aload 0) 32 0 0 0, zj (.getfield 0) 35 11 5 0, none, none, zj (.getfield 0) 38 1 0 0, none, none, zj (.iload 1) 39 1 0 0, zj (.iaload) 40 0 0 0, zj (.invokevirtual 0) 43 19 1 2, none, none, zj (.astore 2) 44 2 0 0, zj (.aload 2) 45 2 0 0, zj (.ifnonnull 0) 48 52 0 0, none, none, zi (.aconst_null) 51 0 0 0 (.long (-1)), none, none, zj (.lreturn) 52 0 0 0, zj (.aload 0) 53 0 0 0, zj (.getfield 0) 56 11 3 0, none, none, zj (.aload 0) 57 0 0 0, zj (.getfield 0) 60 11 14 0, none, none, zj (.invokevirtual 0) 63 65 1 7, none, none, zj (.istore 3) 64 3 0 0, zj (.aload 0) 65 0 0 0, zj (.iload 1) 66 1 0 0, zj (.aload 2) 67 2 0 0, zj (.invokevirtual 0) 70 166 2 11, none, none, zj (.aload 0) 71 0 0 0, zj (.getfield 0) 74 11 3 0, none, none, zj (.iload 3) 75 3 0 0, zi (.aconst_null) 77 0 0 0 (.int 13), none, zj (.invokevirtual 0) 80 66 2 7, none, none, zj (.istore 4) 82 4 0 0, none, zj (.iload 4) 84 4 0 0, none, zi (.aconst_null) 85 0 0 0 (.int (-1)), zj (.if_icmp .ne 0) 88 90 0 0, none, none, zi (.aconst_null) 89 0 0 0 (.long 0), zj (.lreturn) 90 0 0 0, zi (.aconst_null) 91 0 0 0 (.long 0), zj (.aload 0) 92 0 0 0, zj (.getfield 0) 95 11 3 0, none, none, zj (.iload 3) 96 3 0 0, zj (.iload 4) 98 4 0 0, none, zj (.invokevirtual 0) 101 67 2 7, none, none, none, none, none, zj (.lstore 5) 106 5 0 0, none, zj (.aload 0) 107 0 0 0, zj (.getfield 0) 110 11 3 0, none, none, zj (.iload 3) 111 3 0 0, zi (.aconst_null) 113 0 0 0 (.int 14), none, zj (.invokevirtual 0) 116 66 2 7, none, none, zj (.istore 7) 118 7 0 0, none, zj (.iload 7) 120 7 0 0, none, zi (.aconst_null) 121 0 0 0 (.int (-1)), zj (.if_icmp .ne 0) 124 129 0 0, none, none, zj (.lload 5) 126 5 0 0, none, zj (.goto 0) 129 148 0 0, none, none, zj (.lload 5) 131 5 0 0, none, zi (.aconst_null) 132 0 0 0 (.long 0), zj (.aload 0) 133 0 0 0, zj (.getfield 0) 136 11 3 0, none, none, zj (.iload 3) 137 3 0 0, zj (.iload 7) 139 7 0 0, none, zj (.invokevirtual 0) 142 67 2 7, none, none, none, none, none, none, none, none, zj (.lreturn) 149 0 0 0]
noncomputable def pp_152 : List (List Nat) := [[], [2150], [], [], [], [5009], [], [], [], [], [], [], [2150], [], [], [2002], [], [], [], [], [], [], [], [5014], [], [], [], [], [2146], [], [], [], [2150], [], [], [1230], [], [], [], [], [3091], [], [], [], [], [], [], [], [5014], [], [], [], [], [2148], [], [], [], [2159], [], [], [4096], [], [], [], [], [], [], [5224], [], [], [], [2148], [], [], [], [], [], [4133], [], [], [], [], [], [], [], [], [], [], [], [], [], [], [2148], [], [], [], [], [], [4152], [], [], [], [], [], [], [], [], [2148], [], [], [], [], [], [4133], [], [], [], [], [], [], [], [], [], [], [], [], [], [], [], [], [], [], [], [2148], [], [], [], [], [], [4152], [], [], [], [], [], [], [], [], []]
noncomputable def cd_153 : zK := [zj (.iload 1) 1 1 0 0, zi (.aconst_null) 2 0 0 0 (.int 0), zi (.aconst_null) 4 0 0 0 (.int 99999), none, zj (.invokestatic 0) 7 158 3 0, none, none, zj (.ifCond .eq 0) 10 33 0 0, none, none, zj (.iload 2) 11 2 0 0, zi (.aconst_null) 12 0 0 0 (.int 0), zi (.aconst_null) 15 0 0 0 (.int 999), none, none, zj (.invokestatic 0) 18 158 3 0, none, none, zj (.ifCond .eq 0) 21 33 0 0, none, none, zj (.aload 0) 22 0 0 0, zj (.getfield 0) 25 11 9 0, none, none, zj (.iload 1) 26 1 0 0, zj (.iload 2) 27 2 0 0, zj (.invokevirtual 0) 30 96 2 9, none, none, zj (.goto 0) 33 34 0 0, none, none, zi (.aconst_null) 34 0 0 0 (.int (-1)), zj (.ireturn) 35 0 0 0]
noncomputable def pp_153 : List (List Nat) := [[], [], [2227], [], [2198], [], [], [], [], [], [], [], [], [], [], [2198], [], [], [], [], [], [], [2154], [], [], [], [], [6001], [], [], [], [], [], [], []]
noncomputable def cd_154 : zK := [zj (.aload 0) 1 0 0 0, zj (.getfield 0) 4 11 9 0, none, none, zj (.iload 1) 5 1 0 0, zj (.invokevirtual 0) 8 95 1 9, none, none, zj (.ifCond .eq 0) 11 42 0 0, none, none, zj (.aload 0) 12 0 0 0, zj (.getfield 0) 15 11 9 0, none, none, zj (.iload 2) 16 2 0 0, zj (.invokevirtual 0) 19 95 1 9, none, none, zj (.ifCond .eq 0) 22 42 0 0, none, none, zj (.iload 1) 23 1 0 0, zj (.iload 2) 24 2 0 0, zj (.if_icmp .eq 0) 27 42 0 0, none, none, zj (.iload 3) 28 3 0 0, zi (.aconst_null) 29 0 0 0 (.int 0), zi (.aconst_null) 32 0 0 0 (.int 999), none, none, zj (.invokestatic 0) 35 158 3 0, none, none, zj (.ifCond .eq 0) 38 42 0 0, none, none, zi (.aconst_null) 39 0 0 0 (.int 1), zj (.goto 0) 42 43 0 0, none, none, zi (.aconst_null) 43 0 0 0 (.int 0), zj (.istore 4) 45 4 0 0, none, zj (.iload 4) 47 4 0 0, none, zj (.ifCond .eq 0) 50 63 0 0, none, none, zj (.aload 0) 51 0 0 0, zj (.getfield 0) 54 11 9 0, none, none, zj (.iload 1) 55 1 0 0, zj (.iload 2) 56 2 0 0, zj (.iload 3) 57 3 0 0, zj (.invokevirtual 0) 60 97 3 9, none, none, zj (.goto 0) 63 64 0 0, none, none, zi (.aconst_null) 64 0 0 0 (.int (-1)), zj (.ireturn) 65 0 0 0]
noncomputable def pp_154 : List (List Nat) := [[], [2154], [], [], [], [6009], [], [], [], [], [], [], [2154], [], [], [], [6009], [], [], [], [], [], [], [], [], [], [], [], [], [], [], [], [2198], [], [], [], [], [], [], [], [], [], [], [], [], [], [], [], [], [], [], [2154], [], [], [], [], [], [6013], [], [], [], [], [], [], []]
noncomputable def cd_155 : zK := [zj (.iload 1) 1 1 0 0, zi (.aconst_null) 2 0 0 0 (.int 0), zi (.aconst_null) 5 0 0 0 (.int 999999), none, none, zj (.invokestatic 0) 8 158 3 0, none, none, zj (.ifCond .eq 0) 11 22 0 0, none, none, zj (.aload 0) 12 0 0 0, zj (.getfield 0) 15 11 9 0, none, none, zj (.iload 1) 16 1 0 0, zj (.invokevirtual 0) 19 98 1 9, none, none, zj (.goto 0) 22 23 0 0, none, none, zi (.aconst_null) 23 0 0 0 (.int (-1)), zj (.ireturn) 24 0 0 0]
noncomputable def pp_155 : List (List Nat) := [[], [], [5044], [], [], [2198], [], [], [], [], [], [], [2154], [], [], [], [6021], [], [], [], [], [], [], []]
noncomputable def cd_156 : zK := [zj (.iload 1) 1 1 0 0, zj (.lookupswitch 44 #[(0, 28), (1, 36)]) 28 0 0 0, none, none, none, none, none, none, none, none, none, none, none, none, none, none, none, none, none, none, none, none, none, none, none, none, none, none, zj (.aload 0) 29 0 0 0, zj (.getfield 0) 32 11 9 0, none, none, zj (.getfield 0) 35 9 4 0, none, none, zj (.ireturn) 36 0 0 0, zj (.aload 0) 37 0 0 0, zj (.getfield 0) 40 11 9 0, none, none, zj (.getfield 0) 43 9 5 0, none, none, zj (.ireturn) 44 0 0 0, zi (.aconst_null) 45 0 0 0 (.int (-1)), zj (.ireturn) 46 0 0 0]
noncomputable def pp_156 : List (List Nat) := [[], [], [], [], [], [], [], [], [], [], [], [], [], [], [], [], [], [], [], [], [], [], [], [], [], [], [], [], [], [2154], [], [], [2129], [], [], [], [], [2154], [], [], [2131], [], [], [], [], []]
noncomputable def cd_157 : zK := [zj (.iload 1) 1 1 0 0, zj (.tableswitch 157 0 11 #[64, 69, 77, 85, 93, 101, 109, 117, 125, 133, 141, 149]) 64 0 0 0, none, none, none, none, none, none, none, none, none, none, none, none, none, none, none, none, none, none, none, none, none, none, none, none, none, none, none, none, none, none, none, none, none, none, none, none, none, none, none, none, none, none, none, none, none, none, none, none, none, none, none, none, none, none, none, none, none, none, none, none, none, none, zj (.aload 0) 65 0 0 0, zj (.getfield 0) 68 11 14 0, none, none, zj (.ireturn) 69 0 0 0, zj (.aload 0) 70 0 0 0, zj (.getfield 0) 73 11 1 0, none, none, zj (.getfield 0) 76 2 2 0, none, none, zj (.ireturn) 77 0 0 0, zj (.aload 0) 78 0 0 0, zj (.getfield 0) 81 11 0 0, none, none, zj (.getfield 0) 84 3 6 0, none, none, zj (.ireturn) 85 0 0 0, zj (.aload 0) 86 0 0 0, zj (.getfield 0) 89 11 0 0, none, none, zj (.getfield 0) 92 3 7 0, none, none, zj (.ireturn) 93 0 0 0, zj (.aload 0) 94 0 0 0, zj (.getfield 0) 97 11 1 0, none, none, zj (.getfield 0) 100 2 4 0, none, none, zj (.ireturn) 101 0 0 0, zj (.aload 0) 102 0 0 0, zj (.getfield 0) 105 11 3 0, none, none, zj (.getfield 0) 108 7 3 0, none, none, zj (.ireturn) 109 0 0 0, zj (.aload 0) 110 0 0 0, zj (.getfield 0) 113 11 4 0, none, none, zj (.getfield 0) 116 10 5 0, none, none, zj (.ireturn) 117 0 0 0, zj (.aload 0) 118 0 0 0, zj (.getfield 0) 121 11 5 0, none, none, zj (.getfield 0) 124 1 8 0, none, none, zj (.ireturn) 125 0 0 0, zj (.aload 0) 126 0 0 0, zj (.getfield 0) 129 11 6 0, none, none, zj (.getfield 0) 132 4 0 0, none, none, zj (.ireturn) 133 0 0 0, zj (.aload 0) 134 0 0 0, zj (.getfield 0) 137 11 7 0, none, none, zj (.getfield 0) 140 5 7 0, none, none, zj (.ireturn) 141 0 0 0, zj (.aload 0) 142 0 0 0, zj (.getfield 0) 145 11 8 0, none, none, zj (.getfield 0) 148 6 4 0, none, none, zj (.ireturn) 149 0 0 0, zj (.aload 0) 150 0 0 0, zj (.getfield 0) 153 11 2 0, none, none, zj (.getfield 0) 156 8 1 0, none, none, zj (.ireturn) 157 0 0 0, zi (.aconst_null) 158 0 0 0 (.int (-1)), zj (.ireturn) 159 0 0 0]
noncomputable def pp_157 : List (List Nat) := [[], [], [], [], [], [], [], [], [], [], [], [], [], [], [], [], [], [], [], [], [], [], [], [], [], [], [], [], [], [], [], [], [], [], [], [], [], [], [], [], [], [], [], [], [], [], [], [], [], [], [], [], [], [], [], [], [], [], [], [], [], [], [], [], [], [2159], [], [], [], [], [2146], [], [], [1081], [], [], [], [], [2145], [], [], [1048], [], [], [], [], [2145], [], [], [1050], [], [], [], [], [2146], [], [], [1085], [], [], [], [], [2148], [], [], [1167], [], [], [], [], [2149], [], [], [1197], [], [], [], [], [2150], [], [], [2004], [], [], [], [], [2151], [], [], [2043], [], [], [], [], [2152], [], [], [2075], [], [], [], [], [2153], [], [], [2105], [], [], [], [], [2147], [], [], [1121], [], [], [], [], []]
noncomputable def cd_158 : zK := [zj (.iload 0) 1 0 0 0, zj (.iload 1) 2 1 0 0, zj (.if_icmp .lt 0) 5 14 0 0, none, none, zj (.iload 0) 6 0 0 0, zj (.iload 2) 7 2 0 0, zj (.if_icmp .gt 0) 10 14 0 0, none, none, zi (.aconst_null) 11 0 0 0 (.int 1), zj (.goto 0) 14 15 0 0, none, none, zi (.aconst_null) 15 0 0 0 (.int 0), zj (.ireturn) 16 0 0 0]
noncomputable def pp_158 : List (List Nat) := [[], [], [], [], [], [], [], [], [], [], [], [], [], [], [], []]
noncomputable def cd_159 : zK := [zj (.iload 0) 1 0 0 0, zi (.aconst_null) 2 0 0 0 (.int 0), zi (.aconst_null) 5 0 0 0 (.int 599), none, none, zj (.invokestatic 0) 8 158 3 0, none, none, zj (.ireturn) 9 0 0 0]
noncomputable def pp_159 : List (List Nat) := [[], [], [], [], [], [2198], [], [], []]
noncomputable def cd_160 : zK := [zj (.iload 0) 1 0 0 0, zi (.aconst_null) 2 0 0 0 (.int 0), zi (.aconst_null) 3 0 0 0 (.int 3), zj (.invokestatic 0) 6 158 3 0, none, none, zj (.ireturn) 7 0 0 0]
noncomputable def pp_160 : List (List Nat) := [[], [], [], [2198], [], [], []]
noncomputable def cd_161 : zK := [zj (.iload 0) 1 0 0 0, zi (.aconst_null) 2 0 0 0 (.int 0), zi (.aconst_null) 3 0 0 0 (.int 2), zj (.invokestatic 0) 6 158 3 0, none, none, zj (.ireturn) 7 0 0 0]
noncomputable def pp_161 : List (List Nat) := [[], [], [], [2198], [], [], []]
noncomputable def cd_162 : zK := [zj (.iload 0) 1 0 0 0, zi (.aconst_null) 2 0 0 0 (.int 0), zi (.aconst_null) 5 0 0 0 (.int 200), none, none, zj (.invokestatic 0) 8 158 3 0, none, none, zj (.ireturn) 9 0 0 0]
noncomputable def pp_162 : List (List Nat) := [[], [], [], [], [], [2198], [], [], []]
noncomputable def cd_163 : zK := [zj (.aload 0) 1 0 0 0, zj (.getfield 0) 4 11 0 0, none, none, zj (.aload 1) 5 1 0 0, zj (.getfield 0) 8 0 0 0, none, none, zj (.aload 1) 9 1 0 0, zj (.getfield 0) 12 0 1 0, none, none, zj (.invokevirtual 0) 15 32 2 3, none, none, zj (.aload 1) 16 1 0 0, zj (.iload 2) 17 2 0 0, zj (.invokevirtual 0) 20 1 1 0, none, none, zj (.ior) 21 0 0 0, zj (.ireturn) 22 0 0 0]
noncomputable def pp_163 : List (List Nat) := [[], [2145], [], [], [], [3040], [], [], [], [3043], [], [], [3116], [], [], [], [], [3120], [], [], [], []]
noncomputable def cd_164 : zK := [zj (.aload 0) 1 0 0 0, zj (.getfield 0) 4 11 1 0, none, none, zj (.iload 1) 5 1 0 0, zj (.aload 0) 6 0 0 0, zj (.getfield 0) 9 11 10 0, none, none, zj (.invokevirtual 0) 12 23 2 2, none, none, zj (.aload 0) 13 0 0 0, zj (.getfield 0) 16 11 5 0, none, none, zj (.iload 1) 17 1 0 0, zj (.aload 0) 18 0 0 0, zj (.getfield 0) 21 11 11 0, none, none, zj (.aload 0) 22 0 0 0, zj (.getfield 0) 25 11 12 0, none, none, zj (.invokevirtual 0) 28 10 3 1, none, none, zj (.return_) 29 0 0 0]
noncomputable def pp_164 : List (List Nat) := [[], [2146], [], [], [], [], [2155], [], [], [4108], [], [], [], [2150], [], [], [], [], [2156], [], [], [], [2157], [], [], [4116], [], [], []]
noncomputable def cd_165 : zK := [zj (.aload 0) 1 0 0 0, zj (.getfield 0) 4 11 3 0, none, none, zj (.getfield 0) 7 7 4 0, none, none, zj (.astore 4) 9 4 0 0, none, zj (.aload 4) 11 4 0 0, none, zi (.aconst_null) 12 0 0 0 (.long 0), zj (.invokestatic 0) 15 280 2 0, none, none, zj (.aload 4) 17 4 0 0, none, zi (.aconst_null) 18 0 0 0 (.int 0), zj (.iload 2) 19 2 0 0, zj (.i2l) 20 0 0 0, zj (.lastore) 21 0 0 0, zj (.aload 4) 23 4 0 0, none, zi (.aconst_null) 24 0 0 0 (.int 1), zj (.iload 1) 25 1 0 0, zj (.i2l) 26 0 0 0, zj (.lastore) 27 0 0 0, zj (.aload 4) 29 4 0 0, none, zi (.aconst_null) 30 0 0 0 (.int 2), zj (.aload 0) 31 0 0 0, zj (.getfield 0) 34 11 0 0, none, none, zj (.getfield 0) 37 3 1 0, none, none, zj (.iload 1) 38 1 0 0, zj (.iaload) 39 0 0 0, zj (.i2l) 40 0 0 0, zj (.lastore) 41 0 0 0, zj (.aload 4) 43 4 0 0, none, zi (.aconst_null) 44 0 0 0 (.int 3), zj (.iload 3) 45 3 0 0, zj (.i2l) 46 0 0 0, zj (.lastore) 47 0 0 0, zj (.aload 4) 49 4 0 0, none, zi (.aconst_null) 50 0 0 0 (.int 4), zj (.aload 0) 51 0 0 0, zj (.getfield 0) 54 11 10 0, none, none, zj (.iload 2) 55 2 0 0, zj (.iaload) 56 0 0 0, zj (.i2l) 57 0 0 0, zj (.lastore) 58 0 0 0, zj (.aload 4) 60 4 0 0, none, zi (.aconst_null) 61 0 0 0 (.int 5), zj (.aload 0) 62 0 0 0, zj (.getfield 0) 65 11 11 0, none, none, zj (.iload 2) 66 2 0 0, zj (.iaload) 67 0 0 0, zj (.i2l) 68 0 0 0, zj (.lastore) 69 0 0 0, zj (.aload 4) 71 4 0 0, none, zi (.aconst_null) 73 0 0 0 (.int 6), none, zj (.aload 0) 74 0 0 0, zj (.getfield 0) 77 11 12 0, none, none, zj (.iload 2) 78 2 0 0, zj (.iaload) 79 0 0 0, zj (.i2l) 80 0 0 0, zj (.lastore) 81 0 0 0, zj (.return_) 82 0 0 0]
noncomputable def pp_165 : List (List Nat) := [[], [2148], [], [], [1169], [], [], [], [], [], [], [], [4130], [], [], [], [], [], [], [], [], [], [], [], [], [], [], [], [], [], [], [2145], [], [], [1042], [], [], [], [], [], [], [], [], [], [], [], [], [], [], [], [], [2155], [], [], [], [], [], [], [], [], [], [], [2156], [], [], [], [], [], [], [], [], [], [], [], [2157], [], [], [], [], [], [], []]
noncomputable def cd_166 : zK := [zj (.aload 0) 1 0 0 0, zj (.getfield 0) 4 11 5 0, none, none, zj (.getfield 0) 7 1 4 0, none, none, zj (.iload 1) 8 1 0 0, zj (.iaload) 9 0 0 0, zj (.istore 3) 10 3 0 0, zj (.aload 0) 11 0 0 0, zj (.getfield 0) 14 11 5 0, none, none, zj (.getfield 0) 17 1 5 0, none, none, zj (.iload 1) 18 1 0 0, zj (.iaload) 19 0 0 0, zj (.istore 4) 21 4 0 0, none, zj (.aload 0) 22 0 0 0, zj (.aload 2) 23 2 0 0, zj (.getfield 0) 26 0 0 0, none, none, zj (.invokevirtual 0) 29 164 1 11, none, none, zj (.aload 0) 30 0 0 0, zj (.aload 0) 31 0 0 0, zj (.getfield 0) 34 11 1 0, none, none, zj (.aload 0) 35 0 0 0, zj (.getfield 0) 38 11 0 0, none, none, zj (.getfield 0) 41 3 1 0, none, none, zj (.aload 2) 42 2 0 0, zj (.getfield 0) 45 0 0 0, none, none, zj (.iaload) 46 0 0 0, zj (.invokevirtual 0) 49 18 1 2, none, none, zj (.aload 2) 50 2 0 0, zj (.getfield 0) 53 0 0 0, none, none, zj (.iload 3) 54 3 0 0, zj (.invokevirtual 0) 57 168 3 11, none, none, zj (.istore 5) 59 5 0 0, none, zj (.aload 0) 60 0 0 0, zj (.aload 2) 61 2 0 0, zj (.getfield 0) 64 0 0 0, none, none, zj (.aload 0) 65 0 0 0, zj (.getfield 0) 68 11 14 0, none, none, zj (.aload 2) 69 2 0 0, zj (.getfield 0) 72 0 1 0, none, none, zj (.invokevirtual 0) 75 165 3 11, none, none, zj (.aload 0) 76 0 0 0, zj (.getfield 0) 79 11 3 0, none, none, zj (.getfield 0) 82 7 4 0, none, none, zj (.astore 6) 84 6 0 0, none, zj (.aload 6) 86 6 0 0, none, zi (.aconst_null) 88 0 0 0 (.int 7), none, zj (.aload 0) 89 0 0 0, zj (.getfield 0) 92 11 5 0, none, none, zj (.getfield 0) 95 1 6 0, none, none, zj (.iload 1) 96 1 0 0, zj (.iaload) 97 0 0 0, zj (.i2l) 98 0 0 0, zj (.lastore) 99 0 0 0, zj (.aload 6) 101 6 0 0, none, zi (.aconst_null) 103 0 0 0 (.int 8), none, zj (.iload 4) 105 4 0 0, none, zj (.i2l) 106 0 0 0, zj (.lastore) 107 0 0 0, zj (.aload 6) 109 6 0 0, none, zi (.aconst_null) 111 0 0 0 (.int 9), none, zj (.iload 3) 112 3 0 0, zj (.i2l) 113 0 0 0, zj (.lastore) 114 0 0 0, zj (.aload 6) 116 6 0 0, none, zi (.aconst_null) 118 0 0 0 (.int 10), none, zj (.iload 5) 120 5 0 0, none, zi (.aconst_null) 121 0 0 0 (.int (-1)), zj (.if_icmp .eq 0) 124 142 0 0, none, none, zj (.iload 5) 126 5 0 0, none, zj (.aload 0) 127 0 0 0, zj (.getfield 0) 130 11 5 0, none, none, zj (.getfield 0) 133 1 2 0, none, none, zj (.iload 1) 134 1 0 0, zj (.iaload) 135 0 0 0, zj (.if_icmp .gt 0) 138 142 0 0, none, none, zi (.aconst_null) 139 0 0 0 (.long 1), zj (.goto 0) 142 143 0 0, none, none, zi (.aconst_null) 143 0 0 0 (.long 0), zj (.lastore) 144 0 0 0, zj (.aload 6) 146 6 0 0, none, zi (.aconst_null) 148 0 0 0 (.int 11), none, zj (.aload 0) 149 0 0 0, zj (.getfield 0) 152 11 0 0, none, none, zj (.aload 2) 153 2 0 0, zj (.getfield 0) 156 0 0 0, none, none, zj (.aload 0) 157 0 0 0, zj (.aload 2) 158 2 0 0, zj (.aload 0) 159 0 0 0, zj (.getfield 0) 162 11 5 0, none, none, zj (.getfield 0) 165 1 2 0, none, none, zj (.iload 1) 166 1 0 0, zj (.iaload) 167 0 0 0, zj (.invokevirtual 0) 170 163 2 11, none, none, zj (.iload 3) 171 3 0 0, zj (.iload 4) 173 4 0 0, none, zj (.invokevirtual 0) 176 35 4 3, none, none, zj (.i2l) 177 0 0 0, zj (.lastore) 178 0 0 0, zj (.return_) 179 0 0 0]
noncomputable def pp_166 : List (List Nat) := [[], [2150], [], [], [1236], [], [], [], [], [], [], [2150], [], [], [1238], [], [], [], [], [], [], [], [], [3040], [], [], [4104], [], [], [], [], [2146], [], [], [], [2145], [], [], [1042], [], [], [], [3040], [], [], [], [5228], [], [], [], [3040], [], [], [], [4215], [], [], [], [], [], [], [3040], [], [], [], [2159], [], [], [], [3043], [], [], [4126], [], [], [], [2148], [], [], [1169], [], [], [], [], [], [], [], [], [], [2150], [], [], [2000], [], [], [], [], [], [], [], [], [], [], [], [], [], [], [], [], [], [], [], [], [], [], [], [], [], [], [], [], [], [], [], [], [], [], [2150], [], [], [1233], [], [], [], [], [], [], [], [], [], [], [], [], [], [], [], [], [], [], [2145], [], [], [], [3040], [], [], [], [], [], [2150], [], [], [1233], [], [], [], [], [3112], [], [], [], [], [], [5232], [], [], [], [], []]
noncomputable def cd_167 : zK := [zj (.aload 0) 1 0 0 0, zj (.getfield 0) 4 11 3 0, none, none, zj (.iload 3) 5 3 0 0, zj (.invokevirtual 0) 8 65 1 7, none, none, zj (.istore 4) 10 4 0 0, none, zj (.aload 0) 11 0 0 0, zj (.iload 1) 12 1 0 0, zj (.iload 3) 13 3 0 0, zj (.iload 3) 14 3 0 0, zj (.invokevirtual 0) 17 165 3 11, none, none, zj (.aload 0) 18 0 0 0, zj (.getfield 0) 21 11 3 0, none, none, zj (.iload 4) 23 4 0 0, none, zj (.iload 2) 24 2 0 0, zj (.invokevirtual 0) 27 66 2 7, none, none, zj (.istore 5) 29 5 0 0, none, zj (.iload 5) 31 5 0 0, none, zi (.aconst_null) 32 0 0 0 (.int (-1)), zj (.if_icmp .ne 0) 35 37 0 0, none, none, zi (.aconst_null) 36 0 0 0 (.int (-1)), zj (.ireturn) 37 0 0 0, zi (.aconst_null) 38 0 0 0 (.long 0), zi (.aconst_null) 41 0 0 0 (.long 200), none, none, zj (.aload 0) 42 0 0 0, zj (.getfield 0) 45 11 3 0, none, none, zj (.iload 4) 47 4 0 0, none, zj (.iload 5) 49 5 0 0, none, zj (.invokevirtual 0) 52 67 2 7, none, none, none, none, none, none, none, none, zj (.l2i) 59 0 0 0, zj (.ireturn) 60 0 0 0]
noncomputable def pp_167 : List (List Nat) := [[], [2148], [], [], [], [4096], [], [], [], [], [], [], [], [], [4126], [], [], [], [2148], [], [], [], [], [], [4133], [], [], [], [], [], [], [], [], [], [], [], [], [], [4151], [], [], [], [2148], [], [], [], [], [], [], [4152], [], [], [], [], [], [], [], [], [], []]
noncomputable def cd_168 : zK := [zj (.aload 0) 1 0 0 0, zj (.getfield 0) 4 11 4 0, none, none, zj (.lload 1) 5 1 0 0, zj (.iload 3) 6 3 0 0, zj (.iload 4) 8 4 0 0, none, zj (.aload 0) 9 0 0 0, zj (.getfield 0) 12 11 13 0, none, none, zj (.invokevirtual 0) 15 108 4 10, none, none, zi (.aconst_null) 16 0 0 0 (.int 0), zj (.istore 5) 18 5 0 0, none, zj (.iload 5) 20 5 0 0, none, zj (.aload 0) 21 0 0 0, zj (.getfield 0) 24 11 14 0, none, none, zj (.if_icmp .gt 0) 27 68 0 0, none, none, zj (.aload 0) 28 0 0 0, zj (.getfield 0) 31 11 13 0, none, none, zj (.iload 5) 33 5 0 0, none, zj (.iaload) 34 0 0 0, zi (.aconst_null) 37 0 0 0 (.int 200), none, none, zj (.if_icmp .gt 0) 40 62 0 0, none, none, zj (.aload 0) 41 0 0 0, zj (.getfield 0) 44 11 13 0, none, none, zj (.iload 5) 46 5 0 0, none, zj (.iaload) 47 0 0 0, zj (.aload 0) 48 0 0 0, zj (.iload 3) 49 3 0 0, zj (.iload 4) 51 4 0 0, none, zj (.iload 5) 53 5 0 0, none, zj (.invokevirtual 0) 56 167 3 11, none, none, zj (.if_icmp .gt 0) 59 62 0 0, none, none, zj (.iload 5) 61 5 0 0, none, zj (.ireturn) 62 0 0 0, zi (.iinc 5 1) 65 5 0 0 (.int 1), none, none, zj (.goto 0) 68 18 0 0, none, none, zi (.aconst_null) 69 0 0 0 (.int (-1)), zj (.ireturn) 70 0 0 0]
noncomputable def pp_168 : List (List Nat) := [[], [2149], [], [], [], [], [], [], [], [2158], [], [], [4219], [], [], [], [], [], [], [], [], [2159], [], [], [], [], [], [], [2158], [], [], [], [], [], [], [], [], [], [], [], [], [2158], [], [], [], [], [], [], [], [], [], [], [], [4122], [], [], [], [], [], [], [], [], [], [], [], [], [], [], [], []]
noncomputable def cd_169 : zK := [zi (.aconst_null) 1 0 0 0 (.int 1), zj (.istore 1) 2 1 0 0, zj (.iload 1) 3 1 0 0, zj (.aload 0) 4 0 0 0, zj (.arraylength) 5 0 0 0, zj (.if_icmp .ge 0) 8 25 0 0, none, none, zj (.aload 0) 9 0 0 0, zj (.iload 1) 10 1 0 0, zj (.dup2) 11 0 0 0, zj (.iaload) 12 0 0 0, zj (.aload 0) 13 0 0 0, zj (.iload 1) 14 1 0 0, zi (.aconst_null) 15 0 0 0 (.int 1), zj (.isub) 16 0 0 0, zj (.iaload) 17 0 0 0, zj (.iadd) 18 0 0 0, zj (.iastore) 19 0 0 0, zi (.iinc 1 1) 22 1 0 0 (.int 1), none, none, zj (.goto 0) 25 2 0 0, none, none, zj (.return_) 26 0 0 0]
noncomputable def pp_169 : List (List Nat) := [[], [], [], [], [], [], [], [], [], [], [], [], [], [], [], [], [], [], [], [], [], [], [], [], [], []]
noncomputable def cd_170 : zK := [zj (.aload 0) 1 0 0 0, zj (.pop2) 4 0 0 0, none, none, zj (.aload 0) 5 0 0 0, zi (.aconst_null) 7 0 0 0 (.int 60), none, zj (.newarray .int) 9 0 0 0, none, zj (.putfield 0) 12 12 7 0, none, none, zj (.aload 0) 13 0 0 0, zi (.aconst_null) 14 0 0 0 (.int 3), zj (.newarray .int) 16 0 0 0, none, zj (.putfield 0) 19 12 8 0, none, none, zj (.aload 0) 20 0 0 0, zi (.aconst_null) 22 0 0 0 (.int 8), none, zj (.newarray .int) 24 0 0 0, none, zj (.putfield 0) 27 12 9 0, none, none, zj (.aload 0) 28 0 0 0, zi (.aconst_null) 30 0 0 0 (.int 24), none, zj (.newarray .int) 32 0 0 0, none, zj (.putfield 0) 35 12 10 0, none, none, zj (.aload 0) 36 0 0 0, zi (.aconst_null) 38 0 0 0 (.int 12), none, zj (.newarray .int) 40 0 0 0, none, zj (.putfield 0) 43 12 11 0, none, none, zj (.aload 0) 44 0 0 0, zi (.aconst_null) 46 0 0 0 (.int 36), none, zj (.newarray .int) 48 0 0 0, none, zj (.putfield 0) 51 12 12 0, none, none, zj (.aload 0) 52 0 0 0, zi (.aconst_null) 54 0 0 0 (.int 96), none, zj (.newarray .int) 56 0 0 0, none, zj (.putfield 0) 59 12 13 0, none, none, zj (.aload 0) 60 0 0 0, zi (.aconst_null) 62 0 0 0 (.int 60), none, zj (.newarray .boolean) 64 0 0 0, none, zj (.putfield 0) 67 12 14 0, none, none, zj (.aload 0) 68 0 0 0, zi (.aconst_null) 71 0 0 0 (.int 300), none, none, zj (.newarray .boolean) 73 0 0 0, none, zj (.putfield 0) 76 12 15 0, none, none, zj (.aload 0) 77 0 0 0, zi (.aconst_null) 80 0 0 0 (.int 300), none, none, zj (.newarray .int) 82 0 0 0, none, zj (.putfield 0) 85 12 16 0, none, none, zj (.aload 0) 86 0 0 0, zi (.aconst_null) 89 0 0 0 (.int 300), none, none, zj (.newarray .int) 91 0 0 0, none, zj (.putfield 0) 94 12 17 0, none, none, zj (.aload 0) 95 0 0 0, zi (.aconst_null) 98 0 0 0 (.int 300), none, none, zj (.newarray .int) 100 0 0 0, none, zj (.putfield 0) 103 12 18 0, none, none, zj (.aload 0) 104 0 0 0, zi (.aconst_null) 107 0 0 0 (.int 300), none, none, zj (.newarray .int) 109 0 0 0, none, zj (.putfield 0) 112 12 19 0, none, none, zj (.aload 0) 113 0 0 0, zi (.aconst_null) 116 0 0 0 (.int 300), none, none, zj (.newarray .int) 118 0 0 0, none, zj (.putfield 0) 121 12 20 0, none, none, zj (.aload 0) 122 0 0 0, zi (.aconst_null) 125 0 0 0 (.int 300), none, none, zj (.newarray .int) 127 0 0 0, none, zj (.putfield 0) 130 12 21 0, none, none, zj (.aload 0) 131 0 0 0, zi (.aconst_null) 134 0 0 0 (.int 300), none, none, zj (.newarray .int) 136 0 0 0, none, zj (.putfield 0) 139 12 22 0, none, none, zj (.aload 0) 140 0 0 0, zi (.aconst_null) 143 0 0 0 (.int 400), none, none, zj (.newarray .int) 145 0 0 0, none, zj (.putfield 0) 148 12 23 0, none, none, zj (.aload 0) 149 0 0 0, zi (.aconst_null) 152 0 0 0 (.int 400), none, none, zj (.newarray .int) 154 0 0 0, none, zj (.putfield 0) 157 12 24 0, none, none, zj (.aload 0) 158 0 0 0, zi (.aconst_null) 161 0 0 0 (.int 400), none, none, zj (.newarray .int) 163 0 0 0, none, zj (.putfield 0) 166 12 25 0, none, none, zj (.aload 0) 167 0 0 0, zi (.aconst_null) 170 0 0 0 (.int 400), none, none, zj (.newarray .int) 172 0 0 0, none, zj (.putfield 0) 175 12 26 0, none, none, zj (.aload 0) 176 0 0 0, zi (.aconst_null) 179 0 0 0 (.int 400), none, none, zj (.newarray .byte) 181 0 0 0, none, zj (.putfield 0) 184 12 35 0, none, none, zj (.aload 0) 185 0 0 0, zi (.aconst_null) 188 0 0 0 (.int 5000), none, none, zj (.newarray .int) 190 0 0 0, none, zj (.putfield 0) 193 12 36 0, none, none, zj (.aload 0) 194 0 0 0, zi (.aconst_null) 197 0 0 0 (.int 5000), none, none, zj (.newarray .int) 199 0 0 0, none, zj (.putfield 0) 202 12 37 0, none, none, zj (.aload 0) 203 0 0 0, zi (.aconst_null) 205 0 0 0 (.int 120), none, zj (.newarray .int) 207 0 0 0, none, zj (.putfield 0) 210 12 38 0, none, none, zj (.aload 0) 211 0 0 0, zi (.aconst_null) 213 0 0 0 (.int 120), none, zj (.newarray .int) 215 0 0 0, none, zj (.putfield 0) 218 12 39 0, none, none, zj (.aload 0) 219 0 0 0, zi (.aconst_null) 221 0 0 0 (.int 120), none, zj (.newarray .int) 223 0 0 0, none, zj (.putfield 0) 226 12 40 0, none, none, zj (.aload 0) 227 0 0 0, zi (.aconst_null) 229 0 0 0 (.int 120), none, zj (.newarray .int) 231 0 0 0, none, zj (.putfield 0) 234 12 41 0, none, none, zj (.aload 0) 235 0 0 0, zi (.aconst_null) 237 0 0 0 (.int 120), none, zj (.newarray .int) 239 0 0 0, none, zj (.putfield 0) 242 12 42 0, none, none, zj (.aload 0) 243 0 0 0, zi (.aconst_null) 245 0 0 0 (.int 10), none, zj (.newarray .int) 247 0 0 0, none, zj (.putfield 0) 250 12 43 0, none, none, zj (.aload 0) 251 0 0 0, zi (.aconst_null) 253 0 0 0 (.int 10), none, zj (.newarray .int) 255 0 0 0, none, zj (.putfield 0) 258 12 44 0, none, none, zj (.aload 0) 259 0 0 0, zi (.aconst_null) 262 0 0 0 (.int 400), none, none, zj (.newarray .int) 264 0 0 0, none, zj (.putfield 0) 267 12 45 0, none, none, zj (.aload 0) 268 0 0 0, zi (.aconst_null) 270 0 0 0 (.int 12), none, zj (.newarray .long) 272 0 0 0, none, zj (.putfield 0) 275 12 48 0, none, none, zj (.aload 0) 276 0 0 0, zi (.aconst_null) 279 0 0 0 (.int 500), none, none, zj (.newarray .long) 281 0 0 0, none, zj (.putfield 0) 284 12 49 0, none, none, zj (.aload 0) 285 0 0 0, zi (.aconst_null) 288 0 0 0 (.int 200), none, none, zj (.newarray .int) 290 0 0 0, none, zj (.putfield 0) 293 12 52 0, none, none, zj (.aload 0) 294 0 0 0, zi (.aconst_null) 297 0 0 0 (.int 200), none, none, zj (.newarray .int) 299 0 0 0, none, zj (.putfield 0) 302 12 53 0, none, none, zj (.aload 0) 303 0 0 0, zi (.aconst_null) 306 0 0 0 (.int 200), none, none, zj (.newarray .int) 308 0 0 0, none, zj (.putfield 0) 311 12 54 0, none, none, zj (.aload 0) 312 0 0 0, zi (.aconst_null) 315 0 0 0 (.int 600), none, none, zj (.newarray .int) 317 0 0 0, none, zj (.putfield 0) 320 12 55 0, none, none, zj (.aload 0) 321 0 0 0, zi (.aconst_null) 324 0 0 0 (.int 600), none, none, zj (.newarray .int) 326 0 0 0, none, zj (.putfield 0) 329 12 56 0, none, none, zj (.aload 0) 330 0 0 0, zi (.aconst_null) 333 0 0 0 (.int 600), none, none, zj (.newarray .int) 335 0 0 0, none, zj (.putfield 0) 338 12 57 0, none, none, zj (.aload 0) 339 0 0 0, zi (.aconst_null) 342 0 0 0 (.int 200), none, none, zj (.newarray .boolean) 344 0 0 0, none, zj (.putfield 0) 347 12 58 0, none, none, zj (.aload 0) 348 0 0 0, zi (.aconst_null) 351 0 0 0 (.int 200), none, none, zj (.newarray .int) 353 0 0 0, none, zj (.putfield 0) 356 12 60 0, none, none, zj (.aload 0) 357 0 0 0, zi (.aconst_null) 360 0 0 0 (.int 200), none, none, zj (.newarray .int) 362 0 0 0, none, zj (.putfield 0) 365 12 61 0, none, none, zj (.aload 0) 366 0 0 0, zi (.aconst_null) 369 0 0 0 (.int 200), none, none, zj (.newarray .int) 371 0 0 0, none, zj (.putfield 0) 374 12 62 0, none, none, zj (.aload 0) 375 0 0 0, zi (.aconst_null) 378 0 0 0 (.int 200), none, none, zj (.newarray .int) 380 0 0 0, none, zj (.putfield 0) 383 12 63 0, none, none, zj (.aload 0) 384 0 0 0, zi (.aconst_null) 387 0 0 0 (.int 200), none, none, zj (.newarray .int) 389 0 0 0, none, zj (.putfield 0) 392 12 64 0, none, none, zj (.aload 0) 393 0 0 0, zi (.aconst_null) 396 0 0 0 (.int 200), none, none, zj (.newarray .int) 398 0 0 0, none, zj (.putfield 0) 401 12 65 0, none, none, zj (.aload 0) 402 0 0 0, zi (.aconst_null) 405 0 0 0 (.int 200), none, none, zj (.newarray .boolean) 407 0 0 0, none, zj (.putfield 0) 410 12 66 0, none, none, zj (.aload 0) 411 0 0 0, zi (.aconst_null) 413 0 0 0 (.int 9), none, zj (.newarray .int) 415 0 0 0, none, zj (.putfield 0) 418 12 67 0, none, none, zj (.aload 0) 419 0 0 0, zi (.aconst_null) 421 0 0 0 (.int 9), none, zj (.newarray .int) 423 0 0 0, none, zj (.putfield 0) 426 12 68 0, none, none, zj (.aload 0) 427 0 0 0, zi (.aconst_null) 429 0 0 0 (.int 9), none, zj (.newarray .int) 431 0 0 0, none, zj (.putfield 0) 434 12 69 0, none, none, zj (.aload 0) 435 0 0 0, zi (.aconst_null) 437 0 0 0 (.int 9), none, zj (.newarray .int) 439 0 0 0, none, zj (.putfield 0) 442 12 70 0, none, none, zj (.aload 0) 443 0 0 0, zi (.aconst_null) 445 0 0 0 (.int 20), none, zj (.newarray .int) 447 0 0 0, none, zj (.putfield 0) 450 12 72 0, none, none, zj (.aload 0) 451 0 0 0, zi (.aconst_null) 453 0 0 0 (.int 120), none, zj (.newarray .int) 455 0 0 0, none, zj (.putfield 0) 458 12 73 0, none, none, zj (.aload 0) 459 0 0 0, zi (.aconst_null) 461 0 0 0 (.int 120), none, zj (.newarray .int) 463 0 0 0, none, zj (.putfield 0) 466 12 74 0, none, none, zj (.aload 0) 467 0 0 0, zi (.aconst_null) 469 0 0 0 (.int 120), none, zj (.newarray .boolean) 471 0 0 0, none, zj (.putfield 0) 474 12 75 0, none, none, zj (.aload 0) 475 0 0 0, zi (.aconst_null) 477 0 0 0 (.int 24), none, zj (.newarray .int) 479 0 0 0, none, zj (.putfield 0) 482 12 77 0, none, none, zj (.aload 0) 483 0 0 0, zi (.aconst_null) 485 0 0 0 (.int 24), none, zj (.newarray .int) 487 0 0 0, none, zj (.putfield 0) 490 12 78 0, none, none, zj (.aload 0) 491 0 0 0, zi (.aconst_null) 493 0 0 0 (.int 24), none, zj (.newarray .int) 495 0 0 0, none, zj (.putfield 0) 498 12 79 0, none, none, zj (.aload 0) 499 0 0 0, zi (.aconst_null) 501 0 0 0 (.int 24), none, zj (.newarray .int) 503 0 0 0, none, zj (.putfield 0) 506 12 80 0, none, none, zj (.aload 0) 507 0 0 0, zi (.aconst_null) 509 0 0 0 (.int 24), none, zj (.newarray .int) 511 0 0 0, none, zj (.putfield 0) 514 12 81 0, none, none, zj (.aload 0) 515 0 0 0, zi (.aconst_null) 517 0 0 0 (.int 24), none, zj (.newarray .int) 519 0 0 0, none, zj (.putfield 0) 522 12 82 0, none, none, zj (.aload 0) 523 0 0 0, zi (.aconst_null) 525 0 0 0 (.int 20), none, zj (.newarray .int) 527 0 0 0, none, zj (.putfield 0) 530 12 84 0, none, none, zj (.aload 0) 531 0 0 0, zi (.aconst_null) 533 0 0 0 (.int 20), none, zj (.newarray .int) 535 0 0 0, none, zj (.putfield 0) 538 12 85 0, none, none, zj (.aload 0) 539 0 0 0, zi (.aconst_null) 541 0 0 0 (.int 20), none, zj (.newarray .int) 543 0 0 0, none, zj (.putfield 0) 546 12 86 0, none, none, zj (.aload 0) 547 0 0 0, zi (.aconst_null) 549 0 0 0 (.int 20), none, zj (.newarray .int) 551 0 0 0, none, zj (.putfield 0) 554 12 87 0, none, none, zj (.aload 0) 555 0 0 0, zi (.aconst_null) 558 0 0 0 (.int 6000), none, none, zj (.newarray .int) 560 0 0 0, none, zj (.putfield 0) 563 12 88 0, none, none, zj (.aload 0) 564 0 0 0, zi (.aconst_null) 567 0 0 0 (.int 6000), none, none, zj (.newarray .boolean) 569 0 0 0, none, zj (.putfield 0) 572 12 89 0, none, none, zj (.aload 0) 573 0 0 0, zi (.aconst_null) 574 0 0 0 (.int (-1)), zj (.putfield 0) 577 12 91 0, none, none, zj (.aload 0) 578 0 0 0, zi (.aconst_null) 580 0 0 0 (.int 9), none, zj (.newarray .int) 582 0 0 0, none, zj (.putfield 0) 585 12 93 0, none, none, zj (.aload 0) 586 0 0 0, zi (.aconst_null) 588 0 0 0 (.int 9), none, zj (.newarray .int) 590 0 0 0, none, zj (.putfield 0) 593 12 94 0, none, none, zj (.aload 0) 594 0 0 0, zi (.aconst_null) 596 0 0 0 (.int 81), none, zj (.newarray .int) 598 0 0 0, none, zj (.putfield 0) 601 12 95 0, none, none, zi (.aconst_null) 602 0 0 0 (.int 0), zj (.istore 1) 603 1 0 0, zj (.iload 1) 604 1 0 0, zi (.aconst_null) 605 0 0 0 (.int 3), zj (.if_icmp .ge 0) 608 622 0 0, none, none, zj (.aload 0) 609 0 0 0, zj (.getfield 0) 612 12 8 0, none, none, zj (.iload 1) 613 1 0 0, zi (.aconst_null) 615 0 0 0 (.int 100), none, zj (.iastore) 616 0 0 0, zi (.iinc 1 1) 619 1 0 0 (.int 1), none, none, zj (.goto 0) 622 603 0 0, none, none, zi (.aconst_null) 623 0 0 0 (.int 0), zj (.istore 1) 624 1 0 0, zj (.iload 1) 625 1 0 0, zi (.aconst_null) 627 0 0 0 (.int 96), none, zj (.if_icmp .ge 0) 630 644 0 0, none, none, zj (.aload 0) 631 0 0 0, zj (.getfield 0) 634 12 13 0, none, none, zj (.iload 1) 635 1 0 0, zi (.aconst_null) 637 0 0 0 (.int 1000000), none, zj (.iastore) 638 0 0 0, zi (.iinc 1 1) 641 1 0 0 (.int 1), none, none, zj (.goto 0) 644 624 0 0, none, none, zj (.return_) 645 0 0 0]
noncomputable def pp_170 : List (List Nat) := [[], [6046, 1027, 1028], [], [], [], [], [], [1068], [], [6054], [], [], [], [], [1068], [], [6055], [], [], [], [], [], [1068], [], [6056], [], [], [], [], [], [1068], [], [6057], [], [], [], [], [], [1068], [], [6058], [], [], [], [], [], [1068], [], [6059], [], [], [], [], [], [1068], [], [6060], [], [], [], [], [], [1112], [], [6061], [], [], [], [], [], [], [1112], [], [6062], [], [], [], [], [], [], [1068], [], [6063], [], [], [], [], [], [], [1068], [], [6064], [], [], [], [], [], [], [1068], [], [6065], [], [], [], [], [], [], [1068], [], [6066], [], [], [], [], [], [], [1068], [], [6067], [], [], [], [], [], [], [1068], [], [6068], [], [], [], [], [], [], [1068], [], [6069], [], [], [], [], [], [], [1068], [], [6070], [], [], [], [], [], [], [1068], [], [6071], [], [], [], [], [], [], [1068], [], [6072], [], [], [], [], [], [], [1068], [], [6073], [], [], [], [], [], [], [1155], [], [6082], [], [], [], [], [], [], [1068], [], [6083], [], [], [], [], [], [], [1068], [], [6084], [], [], [], [], [], [1068], [], [6085], [], [], [], [], [], [1068], [], [6086], [], [], [], [], [], [1068], [], [6087], [], [], [], [], [], [1068], [], [6088], [], [], [], [], [], [1068], [], [6089], [], [], [], [], [], [1068], [], [6090], [], [], [], [], [], [1068], [], [6091], [], [], [], [], [], [], [1068], [], [6092], [], [], [], [], [], [1184], [], [6095], [], [], [], [], [], [], [1184], [], [6096], [], [], [], [], [], [], [1068], [], [6099], [], [], [], [], [], [], [1068], [], [6100], [], [], [], [], [], [], [1068], [], [6101], [], [], [], [], [], [], [1068], [], [6102], [], [], [], [], [], [], [1068], [], [6103], [], [], [], [], [], [], [1068], [], [6104], [], [], [], [], [], [], [1112], [], [6105], [], [], [], [], [], [], [1068], [], [6107], [], [], [], [], [], [], [1068], [], [6108], [], [], [], [], [], [], [1068], [], [6109], [], [], [], [], [], [], [1068], [], [6110], [], [], [], [], [], [], [1068], [], [6111], [], [], [], [], [], [], [1068], [], [6112], [], [], [], [], [], [], [1112], [], [6113], [], [], [], [], [], [1068], [], [6114], [], [], [], [], [], [1068], [], [6115], [], [], [], [], [], [1068], [], [6116], [], [], [], [], [], [1068], [], [6117], [], [], [], [], [], [1068], [], [6119], [], [], [], [], [], [1068], [], [6120], [], [], [], [], [], [1068], [], [6121], [], [], [], [], [], [1112], [], [6122], [], [], [], [], [], [1068], [], [6124], [], [], [], [], [], [1068], [], [6125], [], [], [], [], [], [1068], [], [6126], [], [], [], [], [], [1068], [], [6127], [], [], [], [], [], [1068], [], [6128], [], [], [], [], [], [1068], [], [6129], [], [], [], [], [], [1068], [], [6131], [], [], [], [], [], [1068], [], [6132], [], [], [], [], [], [1068], [], [6133], [], [], [], [], [], [1068], [], [6134], [], [], [], [], [], [], [1068], [], [6135], [], [], [], [], [], [], [1112], [], [6136], [], [], [], [], [6138], [], [], [], [], [], [1068], [], [6140], [], [], [], [], [], [1068], [], [6141], [], [], [], [], [], [1068], [], [6142], [], [], [], [], [], [], [], [], [], [], [6055], [], [], [], [], [], [], [], [], [], [], [], [], [], [], [], [], [], [], [], [], [], [6060], [], [], [], [6047], [], [], [], [], [], [], [], [], []]
noncomputable def cd_171 : zK := [zj (.lload 0) 1 0 0 0, zj (.lload 2) 2 2 0 0, zj (.lcmp) 3 0 0 0, zj (.ifCond .lt 0) 6 17 0 0, none, none, zj (.lload 0) 7 0 0 0, zj (.lload 4) 9 4 0 0, none, zj (.lcmp) 10 0 0 0, zj (.ifCond .gt 0) 13 17 0 0, none, none, zi (.aconst_null) 14 0 0 0 (.int 1), zj (.goto 0) 17 18 0 0, none, none, zi (.aconst_null) 18 0 0 0 (.int 0), zj (.ireturn) 19 0 0 0]
noncomputable def pp_171 : List (List Nat) := [[], [], [], [], [], [], [], [], [], [], [], [], [], [], [], [], [], [], []]
noncomputable def cd_172 : zK := [zj (.iload 0) 1 0 0 0, zj (.i2l) 2 0 0 0, zi (.aconst_null) 3 0 0 0 (.long 0), zi (.aconst_null) 6 0 0 0 (.long 599), none, none, zj (.invokestatic 0) 9 171 3 0, none, none, zj (.ireturn) 10 0 0 0]
noncomputable def pp_172 : List (List Nat) := [[], [], [], [7100], [], [], [7101], [], [], []]
noncomputable def cd_173 : zK := [zj (.iload 0) 1 0 0 0, zj (.i2l) 2 0 0 0, zi (.aconst_null) 3 0 0 0 (.long 0), zi (.aconst_null) 6 0 0 0 (.long 2), none, none, zj (.invokestatic 0) 9 171 3 0, none, none, zj (.ireturn) 10 0 0 0]
noncomputable def pp_173 : List (List Nat) := [[], [], [], [7117], [], [], [7101], [], [], []]
noncomputable def cd_174 : zK := [zj (.iload 1) 1 1 0 0, zj (.i2l) 2 0 0 0, zj (.aload 0) 3 0 0 0, zj (.getfield 0) 6 12 1 0, none, none, zj (.i2l) 7 0 0 0, zi (.aconst_null) 10 0 0 0 (.long 599), none, none, zj (.invokestatic 0) 13 171 3 0, none, none, zj (.ifCond .ne 0) 16 18 0 0, none, none, zi (.aconst_null) 17 0 0 0 (.int 0), zj (.ireturn) 18 0 0 0, zj (.aload 0) 19 0 0 0, zj (.iload 1) 20 1 0 0, zj (.putfield 0) 23 12 1 0, none, none, zi (.aconst_null) 24 0 0 0 (.int 1), zj (.ireturn) 25 0 0 0]
noncomputable def pp_174 : List (List Nat) := [[], [], [], [6048], [], [], [], [7100], [], [], [7101], [], [], [], [], [], [], [], [], [], [6048], [], [], [], []]
noncomputable def cd_175 : zK := [zj (.iload 1) 1 1 0 0, zj (.i2l) 2 0 0 0, zi (.aconst_null) 3 0 0 0 (.long 0), zj (.aload 0) 4 0 0 0, zj (.getfield 0) 7 12 2 0, none, none, zi (.aconst_null) 8 0 0 0 (.int 1), zj (.isub) 9 0 0 0, zj (.i2l) 10 0 0 0, zj (.invokestatic 0) 13 171 3 0, none, none, zj (.ireturn) 14 0 0 0]
noncomputable def pp_175 : List (List Nat) := [[], [], [], [], [6049], [], [], [], [], [], [7101], [], [], []]
noncomputable def cd_176 : zK := [zj (.iload 1) 1 1 0 0, zj (.i2l) 2 0 0 0, zi (.aconst_null) 3 0 0 0 (.long 0), zj (.aload 0) 4 0 0 0, zj (.getfield 0) 7 12 3 0, none, none, zi (.aconst_null) 8 0 0 0 (.int 1), zj (.isub) 9 0 0 0, zj (.i2l) 10 0 0 0, zj (.invokestatic 0) 13 171 3 0, none, none, zj (.ireturn) 14 0 0 0]
noncomputable def pp_176 : List (List Nat) := [[], [], [], [], [6050], [], [], [], [], [], [7101], [], [], []]
noncomputable def cd_177 : zK := [zj (.iload 1) 1 1 0 0, zj (.i2l) 2 0 0 0, zi (.aconst_null) 3 0 0 0 (.long 0), zj (.aload 0) 4 0 0 0, zj (.getfield 0) 7 12 4 0, none, none, zi (.aconst_null) 8 0 0 0 (.int 1), zj (.isub) 9 0 0 0, zj (.i2l) 10 0 0 0, zj (.invokestatic 0) 13 171 3 0, none, none, zj (.ireturn) 14 0 0 0]
noncomputable def pp_177 : List (List Nat) := [[], [], [], [], [6051], [], [], [], [], [], [7101], [], [], []]
noncomputable def cd_178 : zK := [zj (.iload 1) 1 1 0 0, zj (.i2l) 2 0 0 0, zi (.aconst_null) 3 0 0 0 (.long 0), zj (.aload 0) 4 0 0 0, zj (.getfield 0) 7 12 5 0, none, none, zi (.aconst_null) 8 0 0 0 (.int 1), zj (.isub) 9 0 0 0, zj (.i2l) 10 0 0 0, zj (.invokestatic 0) 13 171 3 0, none, none, zj (.ireturn) 14 0 0 0]
noncomputable def pp_178 : List (List Nat) := [[], [], [], [], [6052], [], [], [], [], [], [7101], [], [], []]
noncomputable def cd_179 : zK := [zj (.aload 0) 1 0 0 0, zj (.getfield 0) 4 12 2 0, none, none, zi (.aconst_null) 6 0 0 0 (.int 60), none, zj (.if_icmp .eq 0) 9 23 0 0, none, none, zj (.iload 1) 10 1 0 0, zj (.i2l) 11 0 0 0, zi (.aconst_null) 14 0 0 0 (.long (-1)), none, none, zi (.aconst_null) 17 0 0 0 (.long 3), none, none, zj (.invokestatic 0) 20 171 3 0, none, none, zj (.ifCond .ne 0) 23 25 0 0, none, none, zi (.aconst_null) 24 0 0 0 (.int (-1)), zj (.ireturn) 25 0 0 0, zj (.aload 0) 26 0 0 0, zj (.getfield 0) 29 12 7 0, none, none, zj (.aload 0) 30 0 0 0, zj (.getfield 0) 33 12 2 0, none, none, zj (.iload 1) 34 1 0 0, zj (.iastore) 35 0 0 0, zj (.aload 0) 36 0 0 0, zj (.dup) 37 0 0 0, zj (.getfield 0) 40 12 2 0, none, none, zi (.aconst_null) 41 0 0 0 (.int 1), zj (.iadd) 42 0 0 0, zj (.putfield 0) 45 12 2 0, none, none, zj (.aload 0) 46 0 0 0, zj (.getfield 0) 49 12 2 0, none, none, zi (.aconst_null) 50 0 0 0 (.int 1), zj (.isub) 51 0 0 0, zj (.ireturn) 52 0 0 0]
noncomputable def pp_179 : List (List Nat) := [[], [6049], [], [], [], [], [], [], [], [], [], [7108], [], [], [7109], [], [], [7101], [], [], [], [], [], [], [], [], [6054], [], [], [], [6049], [], [], [], [], [], [], [6049], [], [], [], [], [6049], [], [], [], [6049], [], [], [], [], []]
noncomputable def cd_180 : zK := [zj (.iload 1) 1 1 0 0, zj (.invokestatic 0) 4 173 1 0, none, none, zj (.ifCond .eq 0) 7 19 0 0, none, none, zj (.iload 2) 8 2 0 0, zj (.i2l) 9 0 0 0, zi (.aconst_null) 10 0 0 0 (.long 1), zi (.aconst_null) 13 0 0 0 (.long 999), none, none, zj (.invokestatic 0) 16 171 3 0, none, none, zj (.ifCond .ne 0) 19 21 0 0, none, none, zi (.aconst_null) 20 0 0 0 (.int (-1)), zj (.ireturn) 21 0 0 0, zj (.aload 0) 22 0 0 0, zj (.getfield 0) 25 12 8 0, none, none, zj (.iload 1) 26 1 0 0, zj (.iaload) 27 0 0 0, zj (.istore 3) 28 3 0 0, zj (.aload 0) 29 0 0 0, zj (.getfield 0) 32 12 8 0, none, none, zj (.iload 1) 33 1 0 0, zj (.iload 2) 34 2 0 0, zj (.iastore) 35 0 0 0, zj (.iload 3) 36 3 0 0, zj (.ireturn) 37 0 0 0]
noncomputable def pp_180 : List (List Nat) := [[], [7114], [], [], [], [], [], [], [], [], [7118], [], [], [7101], [], [], [], [], [], [], [], [], [6055], [], [], [], [], [], [], [6055], [], [], [], [], [], [], []]
noncomputable def cd_181 : zK := [zj (.aload 0) 1 0 0 0, zj (.getfield 0) 4 12 3 0, none, none, zi (.aconst_null) 6 0 0 0 (.int 8), none, zj (.if_icmp .eq 0) 9 58 0 0, none, none, zj (.iload 1) 10 1 0 0, zj (.i2l) 11 0 0 0, zi (.aconst_null) 12 0 0 0 (.long 0), zi (.aconst_null) 15 0 0 0 (.long 3), none, none, zj (.invokestatic 0) 18 171 3 0, none, none, zj (.ifCond .eq 0) 21 58 0 0, none, none, zj (.iload 2) 22 2 0 0, zj (.i2l) 23 0 0 0, zi (.aconst_null) 24 0 0 0 (.long 0), zi (.aconst_null) 27 0 0 0 (.long 99999), none, none, zj (.invokestatic 0) 30 171 3 0, none, none, zj (.ifCond .eq 0) 33 58 0 0, none, none, zj (.iload 3) 34 3 0 0, zj (.i2l) 35 0 0 0, zi (.aconst_null) 36 0 0 0 (.long 0), zi (.aconst_null) 39 0 0 0 (.long 99999), none, none, zj (.invokestatic 0) 42 171 3 0, none, none, zj (.ifCond .eq 0) 45 58 0 0, none, none, zj (.iload 4) 47 4 0 0, none, zj (.i2l) 48 0 0 0, zi (.aconst_null) 49 0 0 0 (.long 0), zi (.aconst_null) 52 0 0 0 (.long 99999), none, none, zj (.invokestatic 0) 55 171 3 0, none, none, zj (.ifCond .ne 0) 58 60 0 0, none, none, zi (.aconst_null) 59 0 0 0 (.int (-1)), zj (.ireturn) 60 0 0 0, zj (.aload 0) 61 0 0 0, zj (.getfield 0) 64 12 9 0, none, none, zj (.aload 0) 65 0 0 0, zj (.getfield 0) 68 12 3 0, none, none, zj (.iload 1) 69 1 0 0, zj (.iastore) 70 0 0 0, zj (.aload 0) 71 0 0 0, zj (.getfield 0) 74 12 10 0, none, none, zi (.aconst_null) 75 0 0 0 (.int 3), zj (.aload 0) 76 0 0 0, zj (.getfield 0) 79 12 3 0, none, none, zj (.imul) 80 0 0 0, zj (.iload 2) 81 2 0 0, zj (.iastore) 82 0 0 0, zj (.aload 0) 83 0 0 0, zj (.getfield 0) 86 12 10 0, none, none, zi (.aconst_null) 87 0 0 0 (.int 3), zj (.aload 0) 88 0 0 0, zj (.getfield 0) 91 12 3 0, none, none, zj (.imul) 92 0 0 0, zi (.aconst_null) 93 0 0 0 (.int 1), zj (.iadd) 94 0 0 0, zj (.iload 3) 95 3 0 0, zj (.iastore) 96 0 0 0, zj (.aload 0) 97 0 0 0, zj (.getfield 0) 100 12 10 0, none, none, zi (.aconst_null) 101 0 0 0 (.int 3), zj (.aload 0) 102 0 0 0, zj (.getfield 0) 105 12 3 0, none, none, zj (.imul) 106 0 0 0, zi (.aconst_null) 107 0 0 0 (.int 2), zj (.iadd) 108 0 0 0, zj (.iload 4) 110 4 0 0, none, zj (.iastore) 111 0 0 0, zj (.aload 0) 112 0 0 0, zj (.dup) 113 0 0 0, zj (.getfield 0) 116 12 3 0, none, none, zi (.aconst_null) 117 0 0 0 (.int 1), zj (.iadd) 118 0 0 0, zj (.putfield 0) 121 12 3 0, none, none, zj (.aload 0) 122 0 0 0, zj (.getfield 0) 125 12 3 0, none, none, zi (.aconst_null) 126 0 0 0 (.int 1), zj (.isub) 127 0 0 0, zj (.ireturn) 128 0 0 0]
noncomputable def pp_181 : List (List Nat) := [[], [6050], [], [], [], [], [], [], [], [], [], [], [7109], [], [], [7101], [], [], [], [], [], [], [], [], [7123], [], [], [7101], [], [], [], [], [], [], [], [], [7123], [], [], [7101], [], [], [], [], [], [], [], [], [], [7123], [], [], [7101], [], [], [], [], [], [], [], [], [6056], [], [], [], [6050], [], [], [], [], [], [6057], [], [], [], [], [6050], [], [], [], [], [], [], [6057], [], [], [], [], [6050], [], [], [], [], [], [], [], [], [6057], [], [], [], [], [6050], [], [], [], [], [], [], [], [], [], [], [6050], [], [], [], [], [6050], [], [], [], [6050], [], [], [], [], []]
noncomputable def cd_182 : zK := [zj (.aload 0) 1 0 0 0, zj (.getfield 0) 4 12 4 0, none, none, zi (.aconst_null) 6 0 0 0 (.int 12), none, zj (.if_icmp .eq 0) 9 58 0 0, none, none, zj (.iload 1) 10 1 0 0, zj (.i2l) 11 0 0 0, zi (.aconst_null) 12 0 0 0 (.long 0), zi (.aconst_null) 15 0 0 0 (.long 9999), none, none, zj (.invokestatic 0) 18 171 3 0, none, none, zj (.ifCond .eq 0) 21 58 0 0, none, none, zj (.iload 2) 22 2 0 0, zj (.i2l) 23 0 0 0, zi (.aconst_null) 24 0 0 0 (.long 0), zi (.aconst_null) 27 0 0 0 (.long 9999), none, none, zj (.invokestatic 0) 30 171 3 0, none, none, zj (.ifCond .eq 0) 33 58 0 0, none, none, zj (.iload 3) 34 3 0 0, zj (.i2l) 35 0 0 0, zi (.aconst_null) 36 0 0 0 (.long 0), zi (.aconst_null) 39 0 0 0 (.long 9999), none, none, zj (.invokestatic 0) 42 171 3 0, none, none, zj (.ifCond .eq 0) 45 58 0 0, none, none, zj (.iload 4) 47 4 0 0, none, zj (.i2l) 48 0 0 0, zi (.aconst_null) 49 0 0 0 (.long 0), zi (.aconst_null) 52 0 0 0 (.long 9999), none, none, zj (.invokestatic 0) 55 171 3 0, none, none, zj (.ifCond .ne 0) 58 60 0 0, none, none, zi (.aconst_null) 59 0 0 0 (.int (-1)), zj (.ireturn) 60 0 0 0, zj (.aload 0) 61 0 0 0, zj (.getfield 0) 64 12 11 0, none, none, zj (.aload 0) 65 0 0 0, zj (.getfield 0) 68 12 4 0, none, none, zj (.iload 1) 69 1 0 0, zj (.iastore) 70 0 0 0, zj (.aload 0) 71 0 0 0, zj (.getfield 0) 74 12 12 0, none, none, zi (.aconst_null) 75 0 0 0 (.int 3), zj (.aload 0) 76 0 0 0, zj (.getfield 0) 79 12 4 0, none, none, zj (.imul) 80 0 0 0, zj (.iload 2) 81 2 0 0, zj (.iastore) 82 0 0 0, zj (.aload 0) 83 0 0 0, zj (.getfield 0) 86 12 12 0, none, none, zi (.aconst_null) 87 0 0 0 (.int 3), zj (.aload 0) 88 0 0 0, zj (.getfield 0) 91 12 4 0, none, none, zj (.imul) 92 0 0 0, zi (.aconst_null) 93 0 0 0 (.int 1), zj (.iadd) 94 0 0 0, zj (.iload 3) 95 3 0 0, zj (.iastore) 96 0 0 0, zj (.aload 0) 97 0 0 0, zj (.getfield 0) 100 12 12 0, none, none, zi (.aconst_null) 101 0 0 0 (.int 3), zj (.aload 0) 102 0 0 0, zj (.getfield 0) 105 12 4 0, none, none, zj (.imul) 106 0 0 0, zi (.aconst_null) 107 0 0 0 (.int 2), zj (.iadd) 108 0 0 0, zj (.iload 4) 110 4 0 0, none, zj (.iastore) 111 0 0 0, zj (.aload 0) 112 0 0 0, zj (.dup) 113 0 0 0, zj (.getfield 0) 116 12 4 0, none, none, zi (.aconst_null) 117 0 0 0 (.int 1), zj (.iadd) 118 0 0 0, zj (.putfield 0) 121 12 4 0, none, none, zj (.aload 0) 122 0 0 0, zj (.getfield 0) 125 12 4 0, none, none, zi (.aconst_null) 126 0 0 0 (.int 1), zj (.isub) 127 0 0 0, zj (.ireturn) 128 0 0 0]
noncomputable def pp_182 : List (List Nat) := [[], [6051], [], [], [], [], [], [], [], [], [], [], [7128], [], [], [7101], [], [], [], [], [], [], [], [], [7128], [], [], [7101], [], [], [], [], [], [], [], [], [7128], [], [], [7101], [], [], [], [], [], [], [], [], [], [7128], [], [], [7101], [], [], [], [], [], [], [], [], [6058], [], [], [], [6051], [], [], [], [], [], [6059], [], [], [], [], [6051], [], [], [], [], [], [], [6059], [], [], [], [], [6051], [], [], [], [], [], [], [], [], [6059], [], [], [], [], [6051], [], [], [], [], [], [], [], [], [], [], [6051], [], [], [], [], [6051], [], [], [], [6051], [], [], [], [], []]
noncomputable def cd_183 : zK := [zj (.aload 0) 1 0 0 0, zj (.iload 1) 2 1 0 0, zj (.invokevirtual 0) 5 176 1 12, none, none, zj (.ifCond .eq 0) 8 38 0 0, none, none, zj (.aload 0) 9 0 0 0, zj (.iload 2) 10 2 0 0, zj (.invokevirtual 0) 13 177 1 12, none, none, zj (.ifCond .eq 0) 16 38 0 0, none, none, zj (.iload 3) 17 3 0 0, zj (.invokestatic 0) 20 172 1 0, none, none, zj (.ifCond .eq 0) 23 38 0 0, none, none, zj (.aload 0) 24 0 0 0, zj (.getfield 0) 27 12 13 0, none, none, zi (.aconst_null) 29 0 0 0 (.int 12), none, zj (.iload 1) 30 1 0 0, zj (.imul) 31 0 0 0, zj (.iload 2) 32 2 0 0, zj (.iadd) 33 0 0 0, zj (.iaload) 34 0 0 0, zj (.iload 3) 35 3 0 0, zj (.if_icmp .gt 0) 38 40 0 0, none, none, zi (.aconst_null) 39 0 0 0 (.int 0), zj (.ireturn) 40 0 0 0, zj (.aload 0) 41 0 0 0, zj (.getfield 0) 44 12 13 0, none, none, zi (.aconst_null) 46 0 0 0 (.int 12), none, zj (.iload 1) 47 1 0 0, zj (.imul) 48 0 0 0, zj (.iload 2) 49 2 0 0, zj (.iadd) 50 0 0 0, zj (.iload 3) 51 3 0 0, zj (.iastore) 52 0 0 0, zi (.aconst_null) 53 0 0 0 (.int 1), zj (.ireturn) 54 0 0 0]
noncomputable def pp_183 : List (List Nat) := [[], [], [7133], [], [], [], [], [], [], [], [7137], [], [], [], [], [], [], [7141], [], [], [], [], [], [], [6060], [], [], [], [], [], [], [], [], [], [], [], [], [], [], [], [], [6060], [], [], [], [], [], [], [], [], [], [], [], []]
noncomputable def cd_184 : zK := [zj (.aload 0) 1 0 0 0, zj (.getfield 0) 4 12 5 0, none, none, zi (.aconst_null) 7 0 0 0 (.int 300), none, none, zj (.if_icmp .eq 0) 10 40 0 0, none, none, zj (.aload 0) 11 0 0 0, zj (.iload 1) 12 1 0 0, zj (.invokevirtual 0) 15 176 1 12, none, none, zj (.ifCond .eq 0) 18 40 0 0, none, none, zj (.iload 2) 19 2 0 0, zj (.i2l) 20 0 0 0, zi (.aconst_null) 21 0 0 0 (.long 0), zj (.aload 0) 22 0 0 0, zj (.getfield 0) 25 12 1 0, none, none, zj (.i2l) 26 0 0 0, zj (.invokestatic 0) 29 171 3 0, none, none, zj (.ifCond .eq 0) 32 40 0 0, none, none, zj (.aload 0) 33 0 0 0, zj (.iload 3) 34 3 0 0, zj (.invokevirtual 0) 37 175 1 12, none, none, zj (.ifCond .ne 0) 40 42 0 0, none, none, zi (.aconst_null) 41 0 0 0 (.int (-1)), zj (.ireturn) 42 0 0 0, zj (.aload 0) 43 0 0 0, zj (.getfield 0) 46 12 16 0, none, none, zj (.aload 0) 47 0 0 0, zj (.getfield 0) 50 12 5 0, none, none, zj (.iload 1) 51 1 0 0, zj (.iastore) 52 0 0 0, zj (.aload 0) 53 0 0 0, zj (.getfield 0) 56 12 17 0, none, none, zj (.aload 0) 57 0 0 0, zj (.getfield 0) 60 12 5 0, none, none, zj (.iload 2) 61 2 0 0, zj (.iastore) 62 0 0 0, zj (.aload 0) 63 0 0 0, zj (.getfield 0) 66 12 18 0, none, none, zj (.aload 0) 67 0 0 0, zj (.getfield 0) 70 12 5 0, none, none, zj (.aload 0) 71 0 0 0, zj (.getfield 0) 74 12 1 0, none, none, zj (.iastore) 75 0 0 0, zj (.aload 0) 76 0 0 0, zj (.getfield 0) 79 12 19 0, none, none, zj (.aload 0) 80 0 0 0, zj (.getfield 0) 83 12 5 0, none, none, zj (.iload 3) 84 3 0 0, zj (.iastore) 85 0 0 0, zj (.aload 0) 86 0 0 0, zj (.getfield 0) 89 12 20 0, none, none, zj (.aload 0) 90 0 0 0, zj (.getfield 0) 93 12 5 0, none, none, zj (.iload 3) 94 3 0 0, zj (.iastore) 95 0 0 0, zj (.aload 0) 96 0 0 0, zj (.getfield 0) 99 12 21 0, none, none, zj (.aload 0) 100 0 0 0, zj (.getfield 0) 103 12 5 0, none, none, zj (.iload 2) 104 2 0 0, zj (.iastore) 105 0 0 0, zj (.aload 0) 106 0 0 0, zj (.getfield 0) 109 12 22 0, none, none, zj (.aload 0) 110 0 0 0, zj (.getfield 0) 113 12 5 0, none, none, zj (.iload 2) 114 2 0 0, zj (.iastore) 115 0 0 0, zj (.aload 0) 116 0 0 0, zj (.dup) 117 0 0 0, zj (.getfield 0) 120 12 5 0, none, none, zi (.aconst_null) 121 0 0 0 (.int 1), zj (.iadd) 122 0 0 0, zj (.putfield 0) 125 12 5 0, none, none, zj (.aload 0) 126 0 0 0, zj (.getfield 0) 129 12 5 0, none, none, zi (.aconst_null) 130 0 0 0 (.int 1), zj (.isub) 131 0 0 0, zj (.ireturn) 132 0 0 0]
noncomputable def pp_184 : List (List Nat) := [[], [6052], [], [], [], [], [], [], [], [], [], [], [7133], [], [], [], [], [], [], [], [], [], [6048], [], [], [], [7101], [], [], [], [], [], [], [], [7148], [], [], [], [], [], [], [], [], [6063], [], [], [], [6052], [], [], [], [], [], [6064], [], [], [], [6052], [], [], [], [], [], [6065], [], [], [], [6052], [], [], [], [6048], [], [], [], [], [6066], [], [], [], [6052], [], [], [], [], [], [6067], [], [], [], [6052], [], [], [], [], [], [6068], [], [], [], [6052], [], [], [], [], [], [6069], [], [], [], [6052], [], [], [], [], [], [], [6052], [], [], [], [], [6052], [], [], [], [6052], [], [], [], [], []]
noncomputable def cd_185 : zK := [zj (.aload 0) 1 0 0 0, zj (.getfield 0) 4 12 6 0, none, none, zi (.aconst_null) 7 0 0 0 (.int 400), none, none, zj (.if_icmp .eq 0) 10 56 0 0, none, none, zj (.aload 0) 11 0 0 0, zj (.iload 1) 12 1 0 0, zj (.invokevirtual 0) 15 178 1 12, none, none, zj (.ifCond .eq 0) 18 56 0 0, none, none, zj (.aload 0) 19 0 0 0, zj (.iload 2) 20 2 0 0, zj (.invokevirtual 0) 23 175 1 12, none, none, zj (.ifCond .eq 0) 26 56 0 0, none, none, zj (.aload 0) 27 0 0 0, zj (.getfield 0) 30 12 20 0, none, none, zj (.iload 1) 31 1 0 0, zj (.iaload) 32 0 0 0, zj (.iload 2) 33 2 0 0, zj (.if_icmp .eq 0) 36 56 0 0, none, none, zj (.iload 3) 37 3 0 0, zj (.i2l) 38 0 0 0, zj (.aload 0) 39 0 0 0, zj (.getfield 0) 42 12 21 0, none, none, zj (.iload 1) 43 1 0 0, zj (.iaload) 44 0 0 0, zj (.i2l) 45 0 0 0, zj (.aload 0) 46 0 0 0, zj (.getfield 0) 49 12 1 0, none, none, zj (.i2l) 50 0 0 0, zj (.invokestatic 0) 53 171 3 0, none, none, zj (.ifCond .ne 0) 56 58 0 0, none, none, zi (.aconst_null) 57 0 0 0 (.int 0), zj (.ireturn) 58 0 0 0, zj (.aload 0) 59 0 0 0, zj (.getfield 0) 62 12 23 0, none, none, zj (.aload 0) 63 0 0 0, zj (.getfield 0) 66 12 6 0, none, none, zj (.iload 1) 67 1 0 0, zj (.iastore) 68 0 0 0, zj (.aload 0) 69 0 0 0, zj (.getfield 0) 72 12 24 0, none, none, zj (.aload 0) 73 0 0 0, zj (.getfield 0) 76 12 6 0, none, none, zj (.iload 2) 77 2 0 0, zj (.iastore) 78 0 0 0, zj (.aload 0) 79 0 0 0, zj (.getfield 0) 82 12 25 0, none, none, zj (.aload 0) 83 0 0 0, zj (.getfield 0) 86 12 6 0, none, none, zj (.iload 3) 87 3 0 0, zj (.iastore) 88 0 0 0, zj (.aload 0) 89 0 0 0, zj (.getfield 0) 92 12 26 0, none, none, zj (.aload 0) 93 0 0 0, zj (.getfield 0) 96 12 6 0, none, none, zj (.aload 0) 97 0 0 0, zj (.getfield 0) 100 12 1 0, none, none, zj (.iastore) 101 0 0 0, zj (.aload 0) 102 0 0 0, zj (.dup) 103 0 0 0, zj (.getfield 0) 106 12 6 0, none, none, zi (.aconst_null) 107 0 0 0 (.int 1), zj (.iadd) 108 0 0 0, zj (.putfield 0) 111 12 6 0, none, none, zj (.aload 0) 112 0 0 0, zj (.getfield 0) 115 12 20 0, none, none, zj (.iload 1) 116 1 0 0, zj (.iload 2) 117 2 0 0, zj (.iastore) 118 0 0 0, zj (.aload 0) 119 0 0 0, zj (.getfield 0) 122 12 21 0, none, none, zj (.iload 1) 123 1 0 0, zj (.iload 3) 124 3 0 0, zj (.iastore) 125 0 0 0, zi (.aconst_null) 126 0 0 0 (.int 1), zj (.ireturn) 127 0 0 0]
noncomputable def pp_185 : List (List Nat) := [[], [6053], [], [], [], [], [], [], [], [], [], [], [7156], [], [], [], [], [], [], [], [7148], [], [], [], [], [], [], [6067], [], [], [], [], [], [], [], [], [], [], [], [6068], [], [], [], [], [], [], [6048], [], [], [], [7101], [], [], [], [], [], [], [], [], [6070], [], [], [], [6053], [], [], [], [], [], [6071], [], [], [], [6053], [], [], [], [], [], [6072], [], [], [], [6053], [], [], [], [], [], [6073], [], [], [], [6053], [], [], [], [6048], [], [], [], [], [], [6053], [], [], [], [], [6053], [], [], [], [6067], [], [], [], [], [], [], [6068], [], [], [], [], [], [], []]
noncomputable def cd_186 : zK := [zj (.aload 0) 1 0 0 0, zj (.getfield 0) 4 12 19 0, none, none, zj (.iload 1) 5 1 0 0, zj (.iaload) 6 0 0 0, zj (.istore 4) 8 4 0 0, none, zi (.aconst_null) 9 0 0 0 (.int 0), zj (.istore 5) 11 5 0 0, none, zj (.iload 5) 13 5 0 0, none, zj (.aload 0) 14 0 0 0, zj (.getfield 0) 17 12 6 0, none, none, zj (.if_icmp .ge 0) 20 73 0 0, none, none, zj (.aload 0) 21 0 0 0, zj (.getfield 0) 24 12 23 0, none, none, zj (.iload 5) 26 5 0 0, none, zj (.iaload) 27 0 0 0, zj (.iload 1) 28 1 0 0, zj (.if_icmp .ne 0) 31 63 0 0, none, none, zj (.aload 0) 32 0 0 0, zj (.getfield 0) 35 12 26 0, none, none, zj (.iload 5) 37 5 0 0, none, zj (.iaload) 38 0 0 0, zj (.iload 3) 39 3 0 0, zj (.if_icmp .gt 0) 42 63 0 0, none, none, zj (.aload 0) 43 0 0 0, zj (.getfield 0) 46 12 25 0, none, none, zj (.iload 5) 48 5 0 0, none, zj (.iaload) 49 0 0 0, zj (.iload 2) 50 2 0 0, zj (.if_icmp .gt 0) 53 63 0 0, none, none, zj (.aload 0) 54 0 0 0, zj (.getfield 0) 57 12 24 0, none, none, zj (.iload 5) 59 5 0 0, none, zj (.iaload) 60 0 0 0, zj (.goto 0) 63 65 0 0, none, none, zj (.iload 4) 65 4 0 0, none, zj (.istore 4) 67 4 0 0, none, zi (.iinc 5 1) 70 5 0 0 (.int 1), none, none, zj (.goto 0) 73 11 0 0, none, none, zj (.iload 4) 75 4 0 0, none, zj (.ireturn) 76 0 0 0]
noncomputable def pp_186 : List (List Nat) := [[], [6066], [], [], [], [], [], [], [], [], [], [], [], [], [6053], [], [], [], [], [], [], [6070], [], [], [], [], [], [], [], [], [], [], [6073], [], [], [], [], [], [], [], [], [], [], [6072], [], [], [], [], [], [], [], [], [], [], [6071], [], [], [], [], [], [], [], [], [], [], [], [], [], [], [], [], [], [], [], [], []]
noncomputable def cd_187 : zK := [zj (.aload 0) 1 0 0 0, zj (.iload 1) 2 1 0 0, zj (.invokevirtual 0) 5 178 1 12, none, none, zj (.ifCond .eq 0) 8 42 0 0, none, none, zj (.iload 2) 9 2 0 0, zj (.invokestatic 0) 12 172 1 0, none, none, zj (.ifCond .eq 0) 15 42 0 0, none, none, zj (.iload 3) 16 3 0 0, zj (.invokestatic 0) 19 172 1 0, none, none, zj (.ifCond .eq 0) 22 42 0 0, none, none, zj (.iload 2) 23 2 0 0, zj (.aload 0) 24 0 0 0, zj (.getfield 0) 27 12 17 0, none, none, zj (.iload 1) 28 1 0 0, zj (.iaload) 29 0 0 0, zj (.if_icmp .lt 0) 32 42 0 0, none, none, zj (.aload 0) 33 0 0 0, zj (.getfield 0) 36 12 18 0, none, none, zj (.iload 1) 37 1 0 0, zj (.iaload) 38 0 0 0, zj (.iload 3) 39 3 0 0, zj (.if_icmp .le 0) 42 44 0 0, none, none, zi (.aconst_null) 43 0 0 0 (.int (-1)), zj (.ireturn) 44 0 0 0, zj (.aload 0) 45 0 0 0, zj (.iload 1) 46 1 0 0, zj (.iload 2) 47 2 0 0, zj (.iload 3) 48 3 0 0, zj (.invokevirtual 0) 51 186 3 12, none, none, zj (.ireturn) 52 0 0 0]
noncomputable def pp_187 : List (List Nat) := [[], [], [7156], [], [], [], [], [], [], [7141], [], [], [], [], [], [], [7141], [], [], [], [], [], [], [], [6064], [], [], [], [], [], [], [], [], [6065], [], [], [], [], [], [], [], [], [], [], [], [], [], [], [7164], [], [], []]
noncomputable def cd_188 : zK := [zi (.aconst_null) 1 0 0 0 (.int 0), zj (.istore 3) 2 3 0 0, zi (.aconst_null) 3 0 0 0 (.int 0), zj (.istore 4) 5 4 0 0, none, zj (.iload 4) 7 4 0 0, none, zj (.aload 0) 8 0 0 0, zj (.getfield 0) 11 12 4 0, none, none, zj (.if_icmp .ge 0) 14 47 0 0, none, none, zj (.iload 3) 15 3 0 0, zj (.aload 0) 16 0 0 0, zj (.getfield 0) 19 12 13 0, none, none, zi (.aconst_null) 21 0 0 0 (.int 12), none, zj (.iload 1) 22 1 0 0, zj (.imul) 23 0 0 0, zj (.iload 4) 25 4 0 0, none, zj (.iadd) 26 0 0 0, zj (.iaload) 27 0 0 0, zj (.iload 2) 28 2 0 0, zj (.if_icmp .gt 0) 31 38 0 0, none, none, zi (.aconst_null) 32 0 0 0 (.int 1), zj (.iload 4) 34 4 0 0, none, zj (.ishl) 35 0 0 0, zj (.goto 0) 38 39 0 0, none, none, zi (.aconst_null) 39 0 0 0 (.int 0), zj (.ior) 40 0 0 0, zj (.istore 3) 41 3 0 0, zi (.iinc 4 1) 44 4 0 0 (.int 1), none, none, zj (.goto 0) 47 5 0 0, none, none, zj (.iload 3) 48 3 0 0, zj (.ireturn) 49 0 0 0]
noncomputable def pp_188 : List (List Nat) := [[], [], [], [], [], [], [], [], [6051], [], [], [], [], [], [], [], [6060], [], [], [], [], [], [], [], [], [], [], [], [], [], [], [], [], [], [], [], [], [], [], [], [], [], [], [], [], [], [], [], []]
noncomputable def cd_189 : zK := [zj (.aload 0) 1 0 0 0, zj (.aload 0) 2 0 0 0, zj (.getfield 0) 5 12 16 0, none, none, zj (.iload 1) 6 1 0 0, zj (.iaload) 7 0 0 0, zj (.aload 0) 8 0 0 0, zj (.getfield 0) 11 12 17 0, none, none, zj (.iload 1) 12 1 0 0, zj (.iaload) 13 0 0 0, zj (.invokevirtual 0) 16 188 2 12, none, none, zj (.istore 3) 17 3 0 0, zi (.aconst_null) 18 0 0 0 (.int 0), zj (.istore 4) 20 4 0 0, none, zj (.iload 4) 22 4 0 0, none, zj (.aload 0) 23 0 0 0, zj (.getfield 0) 26 12 83 0, none, none, zj (.if_icmp .ge 0) 29 86 0 0, none, none, zj (.iload 3) 30 3 0 0, zj (.aload 0) 31 0 0 0, zj (.getfield 0) 34 12 88 0, none, none, zi (.aconst_null) 37 0 0 0 (.int 300), none, none, zj (.iload 4) 39 4 0 0, none, zj (.imul) 40 0 0 0, zj (.iload 1) 41 1 0 0, zj (.iadd) 42 0 0 0, zj (.iaload) 43 0 0 0, zj (.ifCond .le 0) 46 77 0 0, none, none, zj (.aload 0) 47 0 0 0, zj (.getfield 0) 50 12 88 0, none, none, zi (.aconst_null) 53 0 0 0 (.int 300), none, none, zj (.iload 4) 55 4 0 0, none, zj (.imul) 56 0 0 0, zj (.iload 1) 57 1 0 0, zj (.iadd) 58 0 0 0, zj (.iaload) 59 0 0 0, zi (.aconst_null) 60 0 0 0 (.int 1), zj (.isub) 61 0 0 0, zj (.iload 2) 62 2 0 0, zj (.if_icmp .gt 0) 65 77 0 0, none, none, zi (.aconst_null) 66 0 0 0 (.int 1), zj (.aload 0) 67 0 0 0, zj (.getfield 0) 70 12 87 0, none, none, zj (.iload 4) 72 4 0 0, none, zj (.iaload) 73 0 0 0, zj (.ishl) 74 0 0 0, zj (.goto 0) 77 78 0 0, none, none, zi (.aconst_null) 78 0 0 0 (.int 0), zj (.ior) 79 0 0 0, zj (.istore 3) 80 3 0 0, zi (.iinc 4 1) 83 4 0 0 (.int 1), none, none, zj (.goto 0) 86 20 0 0, none, none, zj (.iload 3) 87 3 0 0, zj (.ireturn) 88 0 0 0]
noncomputable def pp_189 : List (List Nat) := [[], [], [6063], [], [], [], [], [], [6064], [], [], [], [], [7176], [], [], [], [], [], [], [], [], [], [6130], [], [], [], [], [], [], [], [6135], [], [], [], [], [], [], [], [], [], [], [], [], [], [], [], [6135], [], [], [], [], [], [], [], [], [], [], [], [], [], [], [], [], [], [], [], [6134], [], [], [], [], [], [], [], [], [], [], [], [], [], [], [], [], [], [], [], []]
noncomputable def cd_190 : zK := [zj (.iload 2) 1 2 0 0, zj (.iload 2) 2 2 0 0, zj (.imul) 3 0 0 0, zj (.aload 0) 4 0 0 0, zj (.getfield 0) 7 12 8 0, none, none, zj (.iload 1) 8 1 0 0, zj (.iaload) 9 0 0 0, zj (.imul) 10 0 0 0, zi (.aconst_null) 12 0 0 0 (.int 100), none, zj (.idiv) 13 0 0 0, zj (.ireturn) 14 0 0 0]
noncomputable def pp_190 : List (List Nat) := [[], [], [], [], [6055], [], [], [], [], [], [], [], [], []]
noncomputable def cd_191 : zK := [zj (.aload 0) 1 0 0 0, zj (.getfield 0) 4 12 10 0, none, none, zi (.aconst_null) 5 0 0 0 (.int 3), zj (.iload 1) 6 1 0 0, zj (.imul) 7 0 0 0, zj (.iload 3) 8 3 0 0, zj (.iadd) 9 0 0 0, zj (.iaload) 10 0 0 0, zj (.istore 5) 12 5 0 0, none, zi (.aconst_null) 13 0 0 0 (.int 0), zj (.istore 6) 15 6 0 0, none, zj (.iload 6) 17 6 0 0, none, zj (.aload 0) 18 0 0 0, zj (.getfield 0) 21 12 4 0, none, none, zj (.if_icmp .ge 0) 24 60 0 0, none, none, zj (.iload 5) 26 5 0 0, none, zj (.iload 2) 27 2 0 0, zj (.iload 6) 29 6 0 0, none, zj (.ishr) 30 0 0 0, zi (.aconst_null) 31 0 0 0 (.int 1), zj (.iand) 32 0 0 0, zi (.aconst_null) 33 0 0 0 (.int 1), zj (.if_icmp .ne 0) 36 50 0 0, none, none, zj (.aload 0) 37 0 0 0, zj (.getfield 0) 40 12 12 0, none, none, zi (.aconst_null) 41 0 0 0 (.int 3), zj (.iload 6) 43 6 0 0, none, zj (.imul) 44 0 0 0, zj (.iload 3) 45 3 0 0, zj (.iadd) 46 0 0 0, zj (.iaload) 47 0 0 0, zj (.goto 0) 50 51 0 0, none, none, zi (.aconst_null) 51 0 0 0 (.int 0), zj (.iadd) 52 0 0 0, zj (.istore 5) 54 5 0 0, none, zi (.iinc 6 1) 57 6 0 0 (.int 1), none, none, zj (.goto 0) 60 15 0 0, none, none, zj (.aload 0) 61 0 0 0, zj (.iload 3) 62 3 0 0, zj (.iload 4) 64 4 0 0, none, zj (.invokevirtual 0) 67 190 2 12, none, none, zj (.iload 5) 69 5 0 0, none, zj (.if_icmp .le 0) 72 76 0 0, none, none, zi (.aconst_null) 73 0 0 0 (.int 1), zj (.goto 0) 76 77 0 0, none, none, zi (.aconst_null) 77 0 0 0 (.int 0), zj (.ireturn) 78 0 0 0]
noncomputable def pp_191 : List (List Nat) := [[], [6057], [], [], [], [], [], [], [], [], [], [], [], [], [], [], [], [], [6051], [], [], [], [], [], [], [], [], [], [], [], [], [], [], [], [], [], [], [6059], [], [], [], [], [], [], [], [], [], [], [], [], [], [], [], [], [], [], [], [], [], [], [], [], [], [], [7185], [], [], [], [], [], [], [], [], [], [], [], [], []]
noncomputable def cd_192 : zK := [zj (.aload 0) 1 0 0 0, zj (.iload 1) 2 1 0 0, zj (.invokevirtual 0) 5 178 1 12, none, none, zj (.ifCond .ne 0) 8 10 0 0, none, none, zi (.aconst_null) 9 0 0 0 (.int (-1)), zj (.ireturn) 10 0 0 0, zj (.iload 2) 11 2 0 0, zj (.tableswitch 79 0 3 #[40, 47, 54, 69]) 40 0 0 0, none, none, none, none, none, none, none, none, none, none, none, none, none, none, none, none, none, none, none, none, none, none, none, none, none, none, none, none, zj (.aload 0) 41 0 0 0, zj (.getfield 0) 44 12 16 0, none, none, zj (.iload 1) 45 1 0 0, zj (.iaload) 46 0 0 0, zj (.ireturn) 47 0 0 0, zj (.aload 0) 48 0 0 0, zj (.getfield 0) 51 12 17 0, none, none, zj (.iload 1) 52 1 0 0, zj (.iaload) 53 0 0 0, zj (.ireturn) 54 0 0 0, zj (.aload 0) 55 0 0 0, zj (.getfield 0) 58 12 15 0, none, none, zj (.iload 1) 59 1 0 0, zj (.baload) 60 0 0 0, zj (.ifCond .eq 0) 63 67 0 0, none, none, zi (.aconst_null) 64 0 0 0 (.int 1), zj (.goto 0) 67 68 0 0, none, none, zi (.aconst_null) 68 0 0 0 (.int 0), zj (.ireturn) 69 0 0 0, zj (.aload 0) 70 0 0 0, zj (.iload 1) 71 1 0 0, zj (.aload 0) 72 0 0 0, zj (.getfield 0) 75 12 1 0, none, none, zj (.invokevirtual 0) 78 189 2 12, none, none, zj (.ireturn) 79 0 0 0, zi (.aconst_null) 80 0 0 0 (.int (-1)), zj (.ireturn) 81 0 0 0]
noncomputable def pp_192 : List (List Nat) := [[], [], [7156], [], [], [], [], [], [], [], [], [], [], [], [], [], [], [], [], [], [], [], [], [], [], [], [], [], [], [], [], [], [], [], [], [], [], [], [], [], [], [6063], [], [], [], [], [], [], [6064], [], [], [], [], [], [], [6062], [], [], [], [], [], [], [], [], [], [], [], [], [], [], [], [], [6048], [], [], [7172], [], [], [], [], []]
noncomputable def cd_193 : zK := [zj (.iload 1) 1 1 0 0, zj (.invokestatic 0) 4 173 1 0, none, none, zj (.ifCond .eq 0) 7 28 0 0, none, none, zj (.iload 2) 8 2 0 0, zj (.i2l) 9 0 0 0, zi (.aconst_null) 10 0 0 0 (.long 0), zi (.aconst_null) 13 0 0 0 (.long 200), none, none, zj (.invokestatic 0) 16 171 3 0, none, none, zj (.ifCond .eq 0) 19 28 0 0, none, none, zj (.aload 0) 20 0 0 0, zj (.iload 1) 21 1 0 0, zj (.iload 2) 22 2 0 0, zj (.invokevirtual 0) 25 190 2 12, none, none, zj (.goto 0) 28 29 0 0, none, none, zi (.aconst_null) 29 0 0 0 (.int (-1)), zj (.ireturn) 30 0 0 0]
noncomputable def pp_193 : List (List Nat) := [[], [7114], [], [], [], [], [], [], [], [], [7184], [], [], [7101], [], [], [], [], [], [], [], [], [7185], [], [], [], [], [], [], []]
noncomputable def cd_194 : zK := [zj (.aload 0) 1 0 0 0, zj (.aload 0) 2 0 0 0, zj (.getfield 0) 5 12 16 0, none, none, zj (.iload 1) 6 1 0 0, zj (.iaload) 7 0 0 0, zj (.aload 0) 8 0 0 0, zj (.iload 1) 9 1 0 0, zj (.iload 2) 10 2 0 0, zj (.invokevirtual 0) 13 189 2 12, none, none, zj (.iload 5) 15 5 0 0, none, zi (.aconst_null) 16 0 0 0 (.int (-1)), zj (.if_icmp .ne 0) 19 23 0 0, none, none, zi (.aconst_null) 20 0 0 0 (.int 0), zj (.goto 0) 23 27 0 0, none, none, zi (.aconst_null) 24 0 0 0 (.int 1), zj (.iload 5) 26 5 0 0, none, zj (.ishl) 27 0 0 0, zj (.ior) 28 0 0 0, zj (.iload 3) 29 3 0 0, zj (.iload 4) 31 4 0 0, none, zj (.invokevirtual 0) 34 191 4 12, none, none, zj (.ireturn) 35 0 0 0]
noncomputable def pp_194 : List (List Nat) := [[], [], [6063], [], [], [], [], [], [], [], [7172], [], [], [], [], [], [], [], [], [], [], [], [], [], [], [], [], [], [], [], [], [7197], [], [], []]
noncomputable def cd_195 : zK := [zj (.aload 0) 1 0 0 0, zj (.iload 1) 2 1 0 0, zj (.invokevirtual 0) 5 178 1 12, none, none, zj (.ifCond .eq 0) 8 60 0 0, none, none, zj (.iload 2) 9 2 0 0, zj (.invokestatic 0) 12 172 1 0, none, none, zj (.ifCond .eq 0) 15 60 0 0, none, none, zj (.iload 2) 16 2 0 0, zj (.aload 0) 17 0 0 0, zj (.getfield 0) 20 12 17 0, none, none, zj (.iload 1) 21 1 0 0, zj (.iaload) 22 0 0 0, zj (.if_icmp .lt 0) 25 60 0 0, none, none, zj (.iload 3) 26 3 0 0, zj (.invokestatic 0) 29 173 1 0, none, none, zj (.ifCond .eq 0) 32 60 0 0, none, none, zj (.iload 4) 34 4 0 0, none, zj (.i2l) 35 0 0 0, zi (.aconst_null) 36 0 0 0 (.long 0), zi (.aconst_null) 39 0 0 0 (.long 200), none, none, zj (.invokestatic 0) 42 171 3 0, none, none, zj (.ifCond .eq 0) 45 60 0 0, none, none, zj (.iload 5) 47 5 0 0, none, zi (.aconst_null) 48 0 0 0 (.int (-1)), zj (.if_icmp .eq 0) 51 62 0 0, none, none, zj (.aload 0) 52 0 0 0, zj (.iload 5) 54 5 0 0, none, zj (.invokevirtual 0) 57 177 1 12, none, none, zj (.ifCond .ne 0) 60 62 0 0, none, none, zi (.aconst_null) 61 0 0 0 (.int (-1)), zj (.ireturn) 62 0 0 0, zj (.aload 0) 63 0 0 0, zj (.iload 1) 64 1 0 0, zj (.iload 2) 65 2 0 0, zj (.iload 3) 66 3 0 0, zj (.iload 4) 68 4 0 0, none, zj (.iload 5) 70 5 0 0, none, zj (.invokevirtual 0) 73 194 5 12, none, none, zj (.ifCond .eq 0) 76 80 0 0, none, none, zi (.aconst_null) 77 0 0 0 (.int 1), zj (.goto 0) 80 81 0 0, none, none, zi (.aconst_null) 81 0 0 0 (.int 0), zj (.ireturn) 82 0 0 0]
noncomputable def pp_195 : List (List Nat) := [[], [], [7156], [], [], [], [], [], [], [7141], [], [], [], [], [], [], [], [6064], [], [], [], [], [], [], [], [], [7114], [], [], [], [], [], [], [], [], [], [7184], [], [], [7101], [], [], [], [], [], [], [], [], [], [], [], [], [], [], [7137], [], [], [], [], [], [], [], [], [], [], [], [], [], [], [], [7193], [], [], [], [], [], [], [], [], [], [], []]
noncomputable def cd_196 : zK := [zj (.aload 0) 1 0 0 0, zj (.getfield 0) 4 12 27 0, none, none, zi (.aconst_null) 6 0 0 0 (.int 20), none, zj (.iadd) 7 0 0 0, zi (.aconst_null) 10 0 0 0 (.int 400), none, none, zj (.if_icmp .le 0) 13 15 0 0, none, none, zi (.aconst_null) 14 0 0 0 (.int (-1)), zj (.ireturn) 15 0 0 0, zj (.aload 0) 16 0 0 0, zj (.iload 1) 17 1 0 0, zj (.invokevirtual 0) 20 197 1 12, none, none, zj (.aload 0) 21 0 0 0, zj (.iload 2) 22 2 0 0, zj (.invokevirtual 0) 25 197 1 12, none, none, zj (.aload 0) 26 0 0 0, zj (.iload 3) 27 3 0 0, zj (.invokevirtual 0) 30 197 1 12, none, none, zj (.aload 0) 31 0 0 0, zj (.iload 4) 33 4 0 0, none, zj (.invokevirtual 0) 36 197 1 12, none, none, zj (.aload 0) 37 0 0 0, zj (.iload 5) 39 5 0 0, none, zj (.invokevirtual 0) 42 197 1 12, none, none, zj (.aload 0) 43 0 0 0, zj (.getfield 0) 46 12 27 0, none, none, zj (.ireturn) 47 0 0 0]
noncomputable def pp_196 : List (List Nat) := [[], [6074], [], [], [], [], [], [], [], [], [], [], [], [], [], [], [], [7205], [], [], [], [], [7205], [], [], [], [], [7205], [], [], [], [], [], [7205], [], [], [], [], [], [7205], [], [], [], [6074], [], [], []]
noncomputable def cd_197 : zK := [zi (.aconst_null) 2 0 0 0 (.int 24), none, zj (.istore 2) 3 2 0 0, zj (.iload 2) 4 2 0 0, zj (.ifCond .lt 0) 7 36 0 0, none, none, zj (.aload 0) 8 0 0 0, zj (.getfield 0) 11 12 35 0, none, none, zj (.aload 0) 12 0 0 0, zj (.getfield 0) 15 12 27 0, none, none, zj (.iload 1) 16 1 0 0, zj (.iload 2) 17 2 0 0, zj (.ishr) 18 0 0 0, zj (.i2b) 19 0 0 0, zj (.bastore) 20 0 0 0, zj (.aload 0) 21 0 0 0, zj (.dup) 22 0 0 0, zj (.getfield 0) 25 12 27 0, none, none, zi (.aconst_null) 26 0 0 0 (.int 1), zj (.iadd) 27 0 0 0, zj (.putfield 0) 30 12 27 0, none, none, zi (.iinc 2 (-8)) 33 2 0 0 (.int (-8)), none, none, zj (.goto 0) 36 3 0 0, none, none, zj (.return_) 37 0 0 0]
noncomputable def pp_197 : List (List Nat) := [[], [], [], [], [], [], [], [], [6082], [], [], [], [6074], [], [], [], [], [], [], [], [], [], [6074], [], [], [], [], [6074], [], [], [], [], [], [], [], [], []]
noncomputable def cd_198 : zK := [zj (.iload 1) 1 1 0 0, zj (.ifCond .lt 0) 4 12 0 0, none, none, zj (.iload 1) 5 1 0 0, zj (.aload 0) 6 0 0 0, zj (.getfield 0) 9 12 27 0, none, none, zj (.if_icmp .le 0) 12 14 0 0, none, none, zi (.aconst_null) 13 0 0 0 (.int (-1)), zj (.ireturn) 14 0 0 0, zj (.aload 0) 15 0 0 0, zj (.iload 1) 16 1 0 0, zj (.putfield 0) 19 12 27 0, none, none, zj (.iload 1) 20 1 0 0, zj (.ireturn) 21 0 0 0]
noncomputable def pp_198 : List (List Nat) := [[], [], [], [], [], [], [6074], [], [], [], [], [], [], [], [], [], [6074], [], [], [], []]
noncomputable def cd_199 : zK := [zj (.iload 0) 1 0 0 0, zj (.tableswitch 104 0 10 #[60, 64, 68, 72, 76, 80, 84, 88, 92, 96, 100]) 60 0 0 0, none, none, none, none, none, none, none, none, none, none, none, none, none, none, none, none, none, none, none, none, none, none, none, none, none, none, none, none, none, none, none, none, none, none, none, none, none, none, none, none, none, none, none, none, none, none, none, none, none, none, none, none, none, none, none, none, none, none, none, none, none, zj (.areturn) 64 0 0 0, none, none, none, zj (.areturn) 68 0 0 0, none, none, none, zj (.areturn) 72 0 0 0, none, none, none, zj (.areturn) 76 0 0 0, none, none, none, zj (.areturn) 80 0 0 0, none, none, none, zj (.areturn) 84 0 0 0, none, none, none, zj (.areturn) 88 0 0 0, none, none, none, zj (.areturn) 92 0 0 0, none, none, none, zj (.areturn) 96 0 0 0, none, none, none, zj (.areturn) 100 0 0 0, none, none, none, zj (.areturn) 104 0 0 0, none, none, none, zj (.areturn) 108 0 0 0]
noncomputable def pp_199 : List (List Nat) := [[], [], [], [], [], [], [], [], [], [], [], [], [], [], [], [], [], [], [], [], [], [], [], [], [], [], [], [], [], [], [], [], [], [], [], [], [], [], [], [], [], [], [], [], [], [], [], [], [], [], [], [], [], [], [], [], [], [], [], [], [], [], [], [], [], [], [], [], [], [], [], [], [], [], [], [], [], [], [], [], [], [], [], [], [], [], [], [], [], [], [], [], [], [], [], [], [], [], [], [], [], [], [], [], [], [], [], []]
noncomputable def cd_200 : zK := [zj (.iload 0) 1 0 0 0, zj (.tableswitch 40 0 2 #[28, 32, 36]) 28 0 0 0, none, none, none, none, none, none, none, none, none, none, none, none, none, none, none, none, none, none, none, none, none, none, none, none, none, none, none, none, none, zj (.areturn) 32 0 0 0, none, none, none, zj (.areturn) 36 0 0 0, none, none, none, zj (.areturn) 40 0 0 0, none, none, none, zj (.areturn) 44 0 0 0]
noncomputable def pp_200 : List (List Nat) := [[], [], [], [], [], [], [], [], [], [], [], [], [], [], [], [], [], [], [], [], [], [], [], [], [], [], [], [], [], [], [], [], [], [], [], [], [], [], [], [], [], [], [], []]
noncomputable def cd_201 : zK := [zj (.aload 0) 1 0 0 0, zj (.aload 0) 2 0 0 0, zj (.getfield 0) 5 12 29 0, none, none, zj (.ifCond .ne 0) 8 19 0 0, none, none, zi (.aconst_null) 9 0 0 0 (.int 1), zi (.aconst_null) 11 0 0 0 (.int 8), none, zj (.iload 2) 12 2 0 0, zj (.imul) 13 0 0 0, zj (.iadd) 14 0 0 0, zj (.iload 1) 15 1 0 0, zj (.iadd) 16 0 0 0, zj (.goto 0) 19 23 0 0, none, none, zj (.aload 0) 20 0 0 0, zj (.getfield 0) 23 12 29 0, none, none, zj (.putfield 0) 26 12 29 0, none, none, zj (.return_) 27 0 0 0]
noncomputable def pp_201 : List (List Nat) := [[], [], [6076], [], [], [], [], [], [], [], [], [], [], [], [], [], [], [], [], [], [6076], [], [], [6076], [], [], []]
noncomputable def cd_202 : zK := [zj (.aload 0) 1 0 0 0, zj (.getfield 0) 4 12 28 0, none, none, zj (.aload 0) 5 0 0 0, zj (.getfield 0) 8 12 27 0, none, none, zj (.if_icmp .ge 0) 11 23 0 0, none, none, zj (.aload 0) 12 0 0 0, zj (.getfield 0) 15 12 35 0, none, none, zj (.aload 0) 16 0 0 0, zj (.getfield 0) 19 12 28 0, none, none, zj (.baload) 20 0 0 0, zj (.goto 0) 23 24 0 0, none, none, zi (.aconst_null) 24 0 0 0 (.int (-1)), zj (.ireturn) 25 0 0 0]
noncomputable def pp_202 : List (List Nat) := [[], [6075], [], [], [], [6074], [], [], [], [], [], [], [6082], [], [], [], [6075], [], [], [], [], [], [], [], []]
noncomputable def cd_203 : zK := [zj (.aload 0) 1 0 0 0, zj (.invokevirtual 0) 4 202 0 12, none, none, zi (.aconst_null) 6 0 0 0 (.int 32), none, zj (.if_icmp .ne 0) 9 22 0 0, none, none, zj (.aload 0) 10 0 0 0, zj (.dup) 11 0 0 0, zj (.getfield 0) 14 12 28 0, none, none, zi (.aconst_null) 15 0 0 0 (.int 1), zj (.iadd) 16 0 0 0, zj (.putfield 0) 19 12 28 0, none, none, zj (.goto 0) 22 0 0 0, none, none, zj (.return_) 23 0 0 0]
noncomputable def pp_203 : List (List Nat) := [[], [7225], [], [], [], [], [], [], [], [], [], [6075], [], [], [], [], [6075], [], [], [], [], [], []]
noncomputable def cd_204 : zK := [zj (.iload 0) 1 0 0 0, zi (.aconst_null) 3 0 0 0 (.int 48), none, zj (.if_icmp .lt 0) 6 16 0 0, none, none, zj (.iload 0) 7 0 0 0, zi (.aconst_null) 9 0 0 0 (.int 57), none, zj (.if_icmp .gt 0) 12 16 0 0, none, none, zi (.aconst_null) 13 0 0 0 (.int 1), zj (.goto 0) 16 17 0 0, none, none, zi (.aconst_null) 17 0 0 0 (.int 0), zj (.ireturn) 18 0 0 0]
noncomputable def pp_204 : List (List Nat) := [[], [], [], [], [], [], [], [], [], [], [], [], [], [], [], [], [], []]
noncomputable def cd_205 : zK := [zj (.aload 0) 1 0 0 0, zj (.getfield 0) 4 12 28 0, none, none, zj (.istore 2) 5 2 0 0, zj (.iload 2) 6 2 0 0, zj (.aload 0) 7 0 0 0, zj (.getfield 0) 10 12 27 0, none, none, zj (.if_icmp .ge 0) 13 41 0 0, none, none, zj (.aload 0) 14 0 0 0, zj (.getfield 0) 17 12 35 0, none, none, zj (.iload 2) 18 2 0 0, zj (.baload) 19 0 0 0, zi (.aconst_null) 21 0 0 0 (.int 97), none, zj (.if_icmp .lt 0) 24 41 0 0, none, none, zj (.aload 0) 25 0 0 0, zj (.getfield 0) 28 12 35 0, none, none, zj (.iload 2) 29 2 0 0, zj (.baload) 30 0 0 0, zi (.aconst_null) 32 0 0 0 (.int 122), none, zj (.if_icmp .gt 0) 35 41 0 0, none, none, zi (.iinc 2 1) 38 2 0 0 (.int 1), none, none, zj (.goto 0) 41 5 0 0, none, none, zj (.iload 2) 42 2 0 0, zj (.aload 0) 43 0 0 0, zj (.getfield 0) 46 12 28 0, none, none, zj (.isub) 47 0 0 0, zj (.aload 1) 48 1 0 0, none, none, none, zj (.if_icmp .ne 0) 54 58 0 0, none, none, zi (.aconst_null) 55 0 0 0 (.int 1), zj (.goto 0) 58 59 0 0, none, none, zi (.aconst_null) 59 0 0 0 (.int 0), zj (.istore 3) 60 3 0 0, zi (.aconst_null) 61 0 0 0 (.int 0), zj (.istore 4) 63 4 0 0, none, zj (.iload 4) 65 4 0 0, none, zj (.aload 1) 66 1 0 0, none, none, none, zj (.if_icmp .ge 0) 72 109 0 0, none, none, zj (.iload 3) 73 3 0 0, zj (.ifCond .eq 0) 76 109 0 0, none, none, zj (.aload 0) 77 0 0 0, zj (.getfield 0) 80 12 35 0, none, none, zj (.aload 0) 81 0 0 0, zj (.getfield 0) 84 12 28 0, none, none, zj (.iload 4) 86 4 0 0, none, zj (.iadd) 87 0 0 0, zj (.baload) 88 0 0 0, zj (.aload 1) 89 1 0 0, zj (.iload 4) 91 4 0 0, none, none, none, none, zj (.if_icmp .ne 0) 97 101 0 0, none, none, zi (.aconst_null) 98 0 0 0 (.int 1), zj (.goto 0) 101 102 0 0, none, none, zi (.aconst_null) 102 0 0 0 (.int 0), zj (.istore 3) 103 3 0 0, zi (.iinc 4 1) 106 4 0 0 (.int 1), none, none, zj (.goto 0) 109 63 0 0, none, none, zj (.iload 3) 110 3 0 0, zj (.ireturn) 111 0 0 0]
noncomputable def pp_205 : List (List Nat) := [[], [6075], [], [], [], [], [], [6074], [], [], [], [], [], [], [6082], [], [], [], [], [], [], [], [], [], [], [6082], [], [], [], [], [], [], [], [], [], [], [], [], [], [], [], [], [], [6075], [], [], [], [], [], [], [], [], [], [], [], [], [], [], [], [], [], [], [], [], [], [], [], [], [], [], [], [], [], [], [], [], [], [6082], [], [], [], [6075], [], [], [], [], [], [], [], [], [], [], [], [], [], [], [], [], [], [], [], [], [], [], [], [], [], [], [], [], []]
noncomputable def cd_206 : zK := [zj (.aload 0) 1 0 0 0, zj (.getfield 0) 4 12 29 0, none, none, zj (.ifCond .ne 0) 7 55 0 0, none, none, zj (.aload 0) 8 0 0 0, zj (.getfield 0) 11 12 36 0, none, none, zi (.aconst_null) 14 0 0 0 (.int 500), none, none, zj (.aload 0) 15 0 0 0, zj (.getfield 0) 18 12 30 0, none, none, zj (.imul) 19 0 0 0, zj (.aload 0) 20 0 0 0, zj (.getfield 0) 23 12 31 0, none, none, zj (.iadd) 24 0 0 0, zj (.iload 1) 25 1 0 0, zj (.iastore) 26 0 0 0, zj (.aload 0) 27 0 0 0, zj (.getfield 0) 30 12 37 0, none, none, zi (.aconst_null) 33 0 0 0 (.int 500), none, none, zj (.aload 0) 34 0 0 0, zj (.getfield 0) 37 12 30 0, none, none, zj (.imul) 38 0 0 0, zj (.aload 0) 39 0 0 0, zj (.getfield 0) 42 12 31 0, none, none, zj (.iadd) 43 0 0 0, zj (.iload 2) 44 2 0 0, zj (.iastore) 45 0 0 0, zj (.aload 0) 46 0 0 0, zj (.dup) 47 0 0 0, zj (.getfield 0) 50 12 31 0, none, none, zi (.aconst_null) 51 0 0 0 (.int 1), zj (.iadd) 52 0 0 0, zj (.putfield 0) 55 12 31 0, none, none, zj (.return_) 56 0 0 0]
noncomputable def pp_206 : List (List Nat) := [[], [6076], [], [], [], [], [], [], [6083], [], [], [], [], [], [], [6077], [], [], [], [], [6078], [], [], [], [], [], [], [6084], [], [], [], [], [], [], [6077], [], [], [], [], [6078], [], [], [], [], [], [], [], [6078], [], [], [], [], [6078], [], [], []]
noncomputable def cd_207 : zK := [zj (.aload 0) 1 0 0 0, zj (.getfield 0) 4 12 33 0, none, none, zi (.aconst_null) 6 0 0 0 (.int 80), none, zj (.if_icmp .ne 0) 9 15 0 0, none, none, zj (.aload 0) 10 0 0 0, zi (.aconst_null) 11 0 0 0 (.int 3), zj (.iload 1) 12 1 0 0, zj (.invokevirtual 0) 15 201 2 12, none, none, zj (.aload 0) 16 0 0 0, zj (.dup) 17 0 0 0, zj (.getfield 0) 20 12 33 0, none, none, zi (.aconst_null) 21 0 0 0 (.int 1), zj (.iadd) 22 0 0 0, zj (.putfield 0) 25 12 33 0, none, none, zj (.return_) 26 0 0 0]
noncomputable def pp_207 : List (List Nat) := [[], [6080], [], [], [], [], [], [], [], [], [], [], [8002], [], [], [], [], [6080], [], [], [], [], [6080], [], [], []]
noncomputable def cd_208 : zK := [zj (.aload 0) 1 0 0 0, zj (.getfield 0) 4 12 45 0, none, none, zj (.aload 0) 5 0 0 0, zj (.getfield 0) 8 12 34 0, none, none, zj (.iload 1) 9 1 0 0, zj (.iastore) 10 0 0 0, zj (.aload 0) 11 0 0 0, zj (.dup) 12 0 0 0, zj (.getfield 0) 15 12 34 0, none, none, zi (.aconst_null) 16 0 0 0 (.int 1), zj (.iadd) 17 0 0 0, zj (.putfield 0) 20 12 34 0, none, none, zj (.return_) 21 0 0 0]
noncomputable def pp_208 : List (List Nat) := [[], [6092], [], [], [], [6081], [], [], [], [], [], [], [6081], [], [], [], [], [6081], [], [], []]
noncomputable def cd_209 : zK := [zj (.aload 0) 1 0 0 0, zj (.getfield 0) 4 12 32 0, none, none, zi (.aconst_null) 6 0 0 0 (.int 10), none, zj (.if_icmp .ne 0) 9 15 0 0, none, none, zj (.aload 0) 10 0 0 0, zi (.aconst_null) 11 0 0 0 (.int 2), zj (.iload 2) 12 2 0 0, zj (.invokevirtual 0) 15 201 2 12, none, none, zj (.aload 0) 16 0 0 0, zj (.dup) 17 0 0 0, zj (.getfield 0) 20 12 32 0, none, none, zi (.aconst_null) 21 0 0 0 (.int 1), zj (.iadd) 22 0 0 0, zj (.putfield 0) 25 12 32 0, none, none, zj (.aload 0) 26 0 0 0, zj (.iload 1) 27 1 0 0, zj (.invokevirtual 0) 30 208 1 12, none, none, zj (.return_) 31 0 0 0]
noncomputable def pp_209 : List (List Nat) := [[], [6079], [], [], [], [], [], [], [], [], [], [], [8002], [], [], [], [], [6079], [], [], [], [], [6079], [], [], [], [], [8026], [], [], []]
noncomputable def cd_210 : zK := [zj (.aload 0) 1 0 0 0, zj (.getfield 0) 4 12 34 0, none, none, zj (.ifCond .ne 0) 7 11 0 0, none, none, zi (.aconst_null) 8 0 0 0 (.int (-1)), zj (.goto 0) 11 22 0 0, none, none, zj (.aload 0) 12 0 0 0, zj (.getfield 0) 15 12 45 0, none, none, zj (.aload 0) 16 0 0 0, zj (.getfield 0) 19 12 34 0, none, none, zi (.aconst_null) 20 0 0 0 (.int 1), zj (.isub) 21 0 0 0, zj (.iaload) 22 0 0 0, zj (.ireturn) 23 0 0 0]
noncomputable def pp_210 : List (List Nat) := [[], [6081], [], [], [], [], [], [], [], [], [], [], [6092], [], [], [], [6081], [], [], [], [], [], []]
noncomputable def cd_211 : zK := [zj (.aload 0) 1 0 0 0, zj (.getfield 0) 4 12 28 0, none, none, zj (.istore 2) 5 2 0 0, zj (.aload 0) 6 0 0 0, zj (.invokevirtual 0) 9 202 0 12, none, none, zj (.invokestatic 0) 12 204 1 0, none, none, zj (.ifCond .ne 0) 15 26 0 0, none, none, zj (.aload 0) 16 0 0 0, zi (.aconst_null) 17 0 0 0 (.int 0), zj (.aload 0) 18 0 0 0, zj (.getfield 0) 21 12 28 0, none, none, zj (.invokevirtual 0) 24 201 2 12, none, none, zi (.aconst_null) 25 0 0 0 (.int 0), zj (.ireturn) 26 0 0 0, zi (.aconst_null) 27 0 0 0 (.int 0), zj (.istore 3) 28 3 0 0, zi (.aconst_null) 29 0 0 0 (.int 0), zj (.istore 4) 31 4 0 0, none, zj (.aload 0) 32 0 0 0, zj (.invokevirtual 0) 35 202 0 12, none, none, zj (.invokestatic 0) 38 204 1 0, none, none, zj (.ifCond .eq 0) 41 82 0 0, none, none, zj (.iload 3) 42 3 0 0, zi (.aconst_null) 43 0 0 0 (.int 5), zj (.if_icmp .ge 0) 46 62 0 0, none, none, zi (.aconst_null) 48 0 0 0 (.int 10), none, zj (.iload 4) 50 4 0 0, none, zj (.imul) 51 0 0 0, zj (.aload 0) 52 0 0 0, zj (.invokevirtual 0) 55 202 0 12, none, none, zj (.iadd) 56 0 0 0, zi (.aconst_null) 58 0 0 0 (.int 48), none, zj (.isub) 59 0 0 0, zj (.goto 0) 62 64 0 0, none, none, zj (.iload 4) 64 4 0 0, none, zj (.istore 4) 66 4 0 0, none, zi (.iinc 3 1) 69 3 0 0 (.int 1), none, none, zj (.aload 0) 70 0 0 0, zj (.dup) 71 0 0 0, zj (.getfield 0) 74 12 28 0, none, none, zi (.aconst_null) 75 0 0 0 (.int 1), zj (.iadd) 76 0 0 0, zj (.putfield 0) 79 12 28 0, none, none, zj (.goto 0) 82 31 0 0, none, none, zj (.iload 3) 83 3 0 0, zi (.aconst_null) 84 0 0 0 (.int 5), zj (.if_icmp .gt 0) 87 93 0 0, none, none, zj (.iload 4) 89 4 0 0, none, zj (.iload 1) 90 1 0 0, zj (.if_icmp .le 0) 93 99 0 0, none, none, zj (.aload 0) 94 0 0 0, zi (.aconst_null) 95 0 0 0 (.int 1), zj (.iload 2) 96 2 0 0, zj (.invokevirtual 0) 99 201 2 12, none, none, zj (.iload 4) 101 4 0 0, none, zj (.ireturn) 102 0 0 0]
noncomputable def pp_211 : List (List Nat) := [[], [6075], [], [], [], [], [7225], [], [], [8010], [], [], [], [], [], [], [], [], [6075], [], [], [8002], [], [], [], [], [], [], [], [], [], [], [7225], [], [], [8010], [], [], [], [], [], [], [], [], [], [], [], [], [], [], [], [], [7225], [], [], [], [], [], [], [], [], [], [], [], [], [], [], [], [], [], [], [6075], [], [], [], [], [6075], [], [], [], [], [], [], [], [], [], [], [], [], [], [], [], [], [], [], [], [8002], [], [], [], [], []]
noncomputable def cd_212 : zK := [zj (.aload 0) 1 0 0 0, zj (.invokevirtual 0) 4 202 0 12, none, none, zj (.istore 1) 5 1 0 0, zj (.iload 1) 6 1 0 0, zi (.aconst_null) 8 0 0 0 (.int 60), none, zj (.if_icmp .eq 0) 11 25 0 0, none, none, zj (.iload 1) 12 1 0 0, zi (.aconst_null) 14 0 0 0 (.int 62), none, zj (.if_icmp .eq 0) 17 25 0 0, none, none, zj (.iload 1) 18 1 0 0, zi (.aconst_null) 20 0 0 0 (.int 61), none, zj (.if_icmp .eq 0) 23 25 0 0, none, none, zi (.aconst_null) 24 0 0 0 (.int 0), zj (.ireturn) 25 0 0 0, zj (.aload 0) 26 0 0 0, zj (.aload 0) 27 0 0 0, zj (.getfield 0) 30 12 28 0, none, none, zj (.invokevirtual 0) 33 207 1 12, none, none, zj (.aload 0) 34 0 0 0, zj (.dup) 35 0 0 0, zj (.getfield 0) 38 12 28 0, none, none, zi (.aconst_null) 39 0 0 0 (.int 1), zj (.iadd) 40 0 0 0, zj (.putfield 0) 43 12 28 0, none, none, zj (.iload 1) 44 1 0 0, zi (.aconst_null) 46 0 0 0 (.int 61), none, zj (.if_icmp .eq 0) 49 62 0 0, none, none, zj (.aload 0) 50 0 0 0, zj (.invokevirtual 0) 53 202 0 12, none, none, zi (.aconst_null) 55 0 0 0 (.int 61), none, zj (.if_icmp .ne 0) 58 62 0 0, none, none, zi (.aconst_null) 59 0 0 0 (.int 1), zj (.goto 0) 62 63 0 0, none, none, zi (.aconst_null) 63 0 0 0 (.int 0), zj (.istore 2) 64 2 0 0, zj (.aload 0) 65 0 0 0, zj (.dup) 66 0 0 0, zj (.getfield 0) 69 12 28 0, none, none, zj (.iload 2) 70 2 0 0, zj (.ifCond .eq 0) 73 77 0 0, none, none, zi (.aconst_null) 74 0 0 0 (.int 1), zj (.goto 0) 77 78 0 0, none, none, zi (.aconst_null) 78 0 0 0 (.int 0), zj (.iadd) 79 0 0 0, zj (.putfield 0) 82 12 28 0, none, none, zj (.iload 1) 83 1 0 0, zi (.aconst_null) 85 0 0 0 (.int 61), none, zj (.if_icmp .ne 0) 88 93 0 0, none, none, zi (.aconst_null) 90 0 0 0 (.int 7), none, zj (.goto 0) 93 123 0 0, none, none, zj (.iload 1) 94 1 0 0, zi (.aconst_null) 96 0 0 0 (.int 60), none, zj (.if_icmp .ne 0) 99 112 0 0, none, none, zj (.iload 2) 100 2 0 0, zj (.ifCond .eq 0) 103 108 0 0, none, none, zi (.aconst_null) 105 0 0 0 (.int 6), none, zj (.goto 0) 108 123 0 0, none, none, zi (.aconst_null) 109 0 0 0 (.int 5), zj (.goto 0) 112 123 0 0, none, none, zj (.iload 2) 113 2 0 0, zj (.ifCond .eq 0) 116 121 0 0, none, none, zi (.aconst_null) 118 0 0 0 (.int 8), none, zj (.goto 0) 121 123 0 0, none, none, zi (.aconst_null) 123 0 0 0 (.int 9), none, zj (.ireturn) 124 0 0 0]
noncomputable def pp_212 : List (List Nat) := [[], [7225], [], [], [], [], [], [], [], [], [], [], [], [], [], [], [], [], [], [], [], [], [], [], [], [], [], [6075], [], [], [8034], [], [], [], [], [6075], [], [], [], [], [6075], [], [], [], [], [], [], [], [], [], [7225], [], [], [], [], [], [], [], [], [], [], [], [], [], [], [], [6075], [], [], [], [], [], [], [], [], [], [], [], [], [6075], [], [], [], [], [], [], [], [], [], [], [], [], [], [], [], [], [], [], [], [], [], [], [], [], [], [], [], [], [], [], [], [], [], [], [], [], [], [], [], [], [], [], [], []]
noncomputable def cd_213 : zK := [zj (.aload 0) 1 0 0 0, zj (.invokevirtual 0) 4 203 0 12, none, none, zj (.aload 0) 5 0 0 0, zj (.getfield 0) 8 12 28 0, none, none, zj (.istore 1) 9 1 0 0, zj (.aload 0) 10 0 0 0, zj (.invokevirtual 0) 13 202 0 12, none, none, zi (.aconst_null) 15 0 0 0 (.int 40), none, zj (.if_icmp .ne 0) 18 43 0 0, none, none, zj (.aload 0) 19 0 0 0, zi (.aconst_null) 21 0 0 0 (.int 50), none, zj (.iload 1) 22 1 0 0, zj (.invokevirtual 0) 25 209 2 12, none, none, zj (.aload 0) 26 0 0 0, zj (.iload 1) 27 1 0 0, zj (.invokevirtual 0) 30 207 1 12, none, none, zj (.aload 0) 31 0 0 0, zj (.dup) 32 0 0 0, zj (.getfield 0) 35 12 28 0, none, none, zi (.aconst_null) 36 0 0 0 (.int 1), zj (.iadd) 37 0 0 0, zj (.putfield 0) 40 12 28 0, none, none, zj (.goto 0) 43 152 0 0, none, none, zj (.aload 0) 44 0 0 0, zj (.invokevirtual 0) 47 202 0 12, none, none, zj (.invokestatic 0) 50 204 1 0, none, none, zj (.ifCond .eq 0) 53 80 0 0, none, none, zj (.aload 0) 54 0 0 0, zi (.aconst_null) 57 0 0 0 (.int 99999), none, none, zj (.invokevirtual 0) 60 211 1 12, none, none, zj (.istore 2) 61 2 0 0, zj (.aload 0) 62 0 0 0, zj (.iload 1) 63 1 0 0, zj (.invokevirtual 0) 66 207 1 12, none, none, zj (.aload 0) 67 0 0 0, zi (.aconst_null) 68 0 0 0 (.int 0), zj (.iload 2) 69 2 0 0, zj (.invokevirtual 0) 72 206 2 12, none, none, zj (.aload 0) 73 0 0 0, zi (.aconst_null) 74 0 0 0 (.int 2), zj (.putfield 0) 77 12 46 0, none, none, zj (.goto 0) 80 152 0 0, none, none, zi (.aconst_null) 81 0 0 0 (.int 0), zj (.istore 2) 82 2 0 0, zj (.iload 2) 83 2 0 0, zi (.aconst_null) 85 0 0 0 (.int 12), none, zj (.if_icmp .ge 0) 88 105 0 0, none, none, zj (.aload 0) 89 0 0 0, zj (.iload 2) 90 2 0 0, zj (.invokestatic 0) 93 199 1 0, none, none, zj (.invokevirtual 0) 96 205 1 12, none, none, zj (.ifCond .ne 0) 99 105 0 0, none, none, zi (.iinc 2 1) 102 2 0 0 (.int 1), none, none, zj (.goto 0) 105 82 0 0, none, none, zj (.iload 2) 106 2 0 0, zi (.aconst_null) 108 0 0 0 (.int 12), none, zj (.if_icmp .ne 0) 111 120 0 0, none, none, zj (.aload 0) 112 0 0 0, zi (.aconst_null) 113 0 0 0 (.int 0), zj (.iload 1) 114 1 0 0, zj (.invokevirtual 0) 117 201 2 12, none, none, zj (.goto 0) 120 152 0 0, none, none, zj (.aload 0) 121 0 0 0, zj (.iload 1) 122 1 0 0, zj (.invokevirtual 0) 125 207 1 12, none, none, zj (.aload 0) 126 0 0 0, zi (.aconst_null) 127 0 0 0 (.int 1), zj (.iload 2) 128 2 0 0, zj (.invokevirtual 0) 131 206 2 12, none, none, zj (.aload 0) 132 0 0 0, zj (.dup) 133 0 0 0, zj (.getfield 0) 136 12 28 0, none, none, zj (.iload 2) 137 2 0 0, zj (.invokestatic 0) 140 199 1 0, none, none, none, none, none, zj (.iadd) 144 0 0 0, zj (.putfield 0) 147 12 28 0, none, none, zj (.aload 0) 148 0 0 0, zi (.aconst_null) 149 0 0 0 (.int 2), zj (.putfield 0) 152 12 46 0, none, none, zj (.return_) 153 0 0 0]
noncomputable def pp_213 : List (List Nat) := [[], [7221], [], [], [], [6075], [], [], [], [], [7225], [], [], [], [], [], [], [], [], [], [], [], [8022], [], [], [], [], [8034], [], [], [], [], [6075], [], [], [], [], [6075], [], [], [], [], [], [], [7225], [], [], [8010], [], [], [], [], [], [], [8038], [], [], [8006], [], [], [], [], [], [8034], [], [], [], [], [], [8039], [], [], [], [], [6093], [], [], [], [], [], [], [], [], [], [], [], [], [], [], [], [8043], [], [], [7236], [], [], [], [], [], [], [], [], [], [], [], [], [], [], [], [], [], [], [], [], [8002], [], [], [], [], [], [], [], [8034], [], [], [], [], [], [8039], [], [], [], [], [6075], [], [], [], [8043], [], [], [], [], [], [], [6075], [], [], [], [], [6093], [], [], []]
noncomputable def cd_214 : zK := [zj (.aload 0) 1 0 0 0, zj (.invokevirtual 0) 4 210 0 12, none, none, zi (.aconst_null) 6 0 0 0 (.int 102), none, zj (.if_icmp .ne 0) 9 28 0 0, none, none, zj (.aload 0) 10 0 0 0, zi (.aconst_null) 11 0 0 0 (.int 2), zi (.aconst_null) 12 0 0 0 (.int 0), zj (.invokevirtual 0) 15 206 2 12, none, none, zj (.aload 0) 16 0 0 0, zj (.dup) 17 0 0 0, zj (.getfield 0) 20 12 34 0, none, none, zi (.aconst_null) 21 0 0 0 (.int 1), zj (.isub) 22 0 0 0, zj (.putfield 0) 25 12 34 0, none, none, zj (.goto 0) 28 0 0 0, none, none, zj (.return_) 29 0 0 0]
noncomputable def pp_214 : List (List Nat) := [[], [8066], [], [], [], [], [], [], [], [], [], [], [8039], [], [], [], [], [6081], [], [], [], [], [6081], [], [], [], [], [], []]
noncomputable def cd_215 : zK := [zj (.aload 0) 1 0 0 0, zj (.invokevirtual 0) 4 214 0 12, none, none, zj (.aload 0) 5 0 0 0, zj (.invokevirtual 0) 8 210 0 12, none, none, zi (.aconst_null) 10 0 0 0 (.int 103), none, zj (.if_icmp .eq 0) 13 22 0 0, none, none, zj (.aload 0) 14 0 0 0, zj (.invokevirtual 0) 17 210 0 12, none, none, zi (.aconst_null) 19 0 0 0 (.int 104), none, zj (.if_icmp .ne 0) 22 47 0 0, none, none, zj (.aload 0) 23 0 0 0, zj (.aload 0) 24 0 0 0, zj (.invokevirtual 0) 27 210 0 12, none, none, zi (.aconst_null) 29 0 0 0 (.int 100), none, zj (.isub) 30 0 0 0, zi (.aconst_null) 31 0 0 0 (.int 0), zj (.invokevirtual 0) 34 206 2 12, none, none, zj (.aload 0) 35 0 0 0, zj (.dup) 36 0 0 0, zj (.getfield 0) 39 12 34 0, none, none, zi (.aconst_null) 40 0 0 0 (.int 1), zj (.isub) 41 0 0 0, zj (.putfield 0) 44 12 34 0, none, none, zj (.goto 0) 47 4 0 0, none, none, zj (.return_) 48 0 0 0]
noncomputable def pp_215 : List (List Nat) := [[], [8062], [], [], [], [8066], [], [], [], [], [], [], [], [], [8066], [], [], [], [], [], [], [], [], [], [8066], [], [], [], [], [], [], [8039], [], [], [], [], [6081], [], [], [], [], [6081], [], [], [], [], [], []]
noncomputable def cd_216 : zK := [zj (.aload 0) 1 0 0 0, zj (.invokevirtual 0) 4 203 0 12, none, none, zj (.aload 0) 5 0 0 0, none, none, none, zj (.invokevirtual 0) 11 205 1 12, none, none, zj (.ifCond .eq 0) 14 37 0 0, none, none, zj (.aload 0) 15 0 0 0, zi (.aconst_null) 17 0 0 0 (.int 10), none, zj (.aload 0) 18 0 0 0, zj (.getfield 0) 21 12 28 0, none, none, zj (.invokevirtual 0) 24 209 2 12, none, none, zj (.aload 0) 25 0 0 0, zj (.dup) 26 0 0 0, zj (.getfield 0) 29 12 28 0, none, none, zi (.aconst_null) 30 0 0 0 (.int 3), zj (.iadd) 31 0 0 0, zj (.putfield 0) 34 12 28 0, none, none, zj (.goto 0) 37 74 0 0, none, none, zj (.aload 0) 38 0 0 0, zj (.invokevirtual 0) 41 202 0 12, none, none, zi (.aconst_null) 43 0 0 0 (.int 91), none, zj (.if_icmp .ne 0) 46 69 0 0, none, none, zj (.aload 0) 47 0 0 0, zi (.aconst_null) 49 0 0 0 (.int 13), none, zj (.aload 0) 50 0 0 0, zj (.getfield 0) 53 12 28 0, none, none, zj (.invokevirtual 0) 56 209 2 12, none, none, zj (.aload 0) 57 0 0 0, zj (.dup) 58 0 0 0, zj (.getfield 0) 61 12 28 0, none, none, zi (.aconst_null) 62 0 0 0 (.int 1), zj (.iadd) 63 0 0 0, zj (.putfield 0) 66 12 28 0, none, none, zj (.goto 0) 69 74 0 0, none, none, zj (.aload 0) 70 0 0 0, zi (.aconst_null) 71 0 0 0 (.int 1), zj (.putfield 0) 74 12 46 0, none, none, zj (.return_) 75 0 0 0]
noncomputable def pp_216 : List (List Nat) := [[], [7221], [], [], [], [], [], [], [7236], [], [], [], [], [], [], [], [], [], [6075], [], [], [8022], [], [], [], [], [6075], [], [], [], [], [6075], [], [], [], [], [], [], [7225], [], [], [], [], [], [], [], [], [], [], [], [6075], [], [], [8022], [], [], [], [], [6075], [], [], [], [], [6075], [], [], [], [], [], [], [], [6093], [], [], []]
noncomputable def cd_217 : zK := [zj (.aload 0) 1 0 0 0, zj (.invokevirtual 0) 4 203 0 12, none, none, zj (.aload 0) 5 0 0 0, zj (.invokevirtual 0) 8 202 0 12, none, none, zj (.istore 1) 9 1 0 0, zj (.iload 1) 10 1 0 0, zi (.aconst_null) 12 0 0 0 (.int 42), none, zj (.if_icmp .ne 0) 15 43 0 0, none, none, zj (.aload 0) 16 0 0 0, zj (.invokevirtual 0) 19 214 0 12, none, none, zj (.aload 0) 20 0 0 0, zi (.aconst_null) 22 0 0 0 (.int 102), none, zj (.invokevirtual 0) 25 208 1 12, none, none, zj (.aload 0) 26 0 0 0, zj (.dup) 27 0 0 0, zj (.getfield 0) 30 12 28 0, none, none, zi (.aconst_null) 31 0 0 0 (.int 1), zj (.iadd) 32 0 0 0, zj (.putfield 0) 35 12 28 0, none, none, zj (.aload 0) 36 0 0 0, zi (.aconst_null) 37 0 0 0 (.int 1), zj (.putfield 0) 40 12 46 0, none, none, zj (.goto 0) 43 221 0 0, none, none, zj (.iload 1) 44 1 0 0, zi (.aconst_null) 46 0 0 0 (.int 43), none, zj (.if_icmp .eq 0) 49 55 0 0, none, none, zj (.iload 1) 50 1 0 0, zi (.aconst_null) 52 0 0 0 (.int 45), none, zj (.if_icmp .ne 0) 55 95 0 0, none, none, zj (.aload 0) 56 0 0 0, zj (.invokevirtual 0) 59 215 0 12, none, none, zj (.aload 0) 60 0 0 0, zi (.aconst_null) 62 0 0 0 (.int 100), none, zj (.iload 1) 63 1 0 0, zi (.aconst_null) 65 0 0 0 (.int 43), none, zj (.if_icmp .ne 0) 68 72 0 0, none, none, zi (.aconst_null) 69 0 0 0 (.int 3), zj (.goto 0) 72 73 0 0, none, none, zi (.aconst_null) 73 0 0 0 (.int 4), zj (.iadd) 74 0 0 0, zj (.invokevirtual 0) 77 208 1 12, none, none, zj (.aload 0) 78 0 0 0, zj (.dup) 79 0 0 0, zj (.getfield 0) 82 12 28 0, none, none, zi (.aconst_null) 83 0 0 0 (.int 1), zj (.iadd) 84 0 0 0, zj (.putfield 0) 87 12 28 0, none, none, zj (.aload 0) 88 0 0 0, zi (.aconst_null) 89 0 0 0 (.int 1), zj (.putfield 0) 92 12 46 0, none, none, zj (.goto 0) 95 221 0 0, none, none, zj (.aload 0) 96 0 0 0, zj (.invokevirtual 0) 99 215 0 12, none, none, zj (.aload 0) 100 0 0 0, zj (.invokevirtual 0) 103 210 0 12, none, none, zi (.aconst_null) 105 0 0 0 (.int 50), none, zj (.if_icmp .ne 0) 108 116 0 0, none, none, zj (.aload 0) 109 0 0 0, zj (.iload 1) 110 1 0 0, zj (.invokevirtual 0) 113 218 1 12, none, none, zj (.goto 0) 116 221 0 0, none, none, zj (.aload 0) 117 0 0 0, zj (.getfield 0) 120 12 47 0, none, none, zj (.ifCond .eq 0) 123 178 0 0, none, none, zj (.aload 0) 124 0 0 0, zj (.invokevirtual 0) 127 210 0 12, none, none, zi (.aconst_null) 130 0 0 0 (.int 205), none, none, zj (.if_icmp .lt 0) 133 143 0 0, none, none, zj (.aload 0) 134 0 0 0, zj (.invokevirtual 0) 137 210 0 12, none, none, zi (.aconst_null) 140 0 0 0 (.int 209), none, none, zj (.if_icmp .le 0) 143 178 0 0, none, none, zj (.aload 0) 144 0 0 0, zj (.invokevirtual 0) 147 212 0 12, none, none, zj (.istore 2) 148 2 0 0, zj (.iload 2) 149 2 0 0, zj (.ifCond .ne 0) 152 161 0 0, none, none, zj (.aload 0) 153 0 0 0, zi (.aconst_null) 154 0 0 0 (.int 0), zj (.aload 0) 155 0 0 0, zj (.getfield 0) 158 12 28 0, none, none, zj (.invokevirtual 0) 161 201 2 12, none, none, zj (.aload 0) 162 0 0 0, zi (.aconst_null) 165 0 0 0 (.int 200), none, none, zj (.iload 2) 166 2 0 0, zj (.iadd) 167 0 0 0, zj (.invokevirtual 0) 170 208 1 12, none, none, zj (.aload 0) 171 0 0 0, zi (.aconst_null) 172 0 0 0 (.int 1), zj (.putfield 0) 175 12 46 0, none, none, zj (.goto 0) 178 221 0 0, none, none, zj (.aload 0) 179 0 0 0, zj (.getfield 0) 182 12 47 0, none, none, zj (.ifCond .eq 0) 185 216 0 0, none, none, zj (.aload 0) 186 0 0 0, zj (.aload 0) 187 0 0 0, zj (.invokevirtual 0) 190 210 0 12, none, none, zi (.aconst_null) 193 0 0 0 (.int 200), none, none, zj (.isub) 194 0 0 0, zi (.aconst_null) 195 0 0 0 (.int 0), zj (.invokevirtual 0) 198 206 2 12, none, none, zj (.aload 0) 199 0 0 0, zj (.dup) 200 0 0 0, zj (.getfield 0) 203 12 34 0, none, none, zi (.aconst_null) 204 0 0 0 (.int 1), zj (.isub) 205 0 0 0, zj (.putfield 0) 208 12 34 0, none, none, zj (.aload 0) 209 0 0 0, zi (.aconst_null) 210 0 0 0 (.int 3), zj (.putfield 0) 213 12 46 0, none, none, zj (.goto 0) 216 221 0 0, none, none, zj (.aload 0) 217 0 0 0, zi (.aconst_null) 218 0 0 0 (.int 4), zj (.putfield 0) 221 12 46 0, none, none, zj (.return_) 222 0 0 0]
noncomputable def pp_217 : List (List Nat) := [[], [7221], [], [], [], [7225], [], [], [], [], [], [], [], [], [], [], [8062], [], [], [], [], [], [8026], [], [], [], [], [6075], [], [], [], [], [6075], [], [], [], [], [6093], [], [], [], [], [], [], [], [], [], [], [], [], [], [], [], [], [], [], [8070], [], [], [], [], [], [], [], [], [], [], [], [], [], [], [], [], [], [8026], [], [], [], [], [6075], [], [], [], [], [6075], [], [], [], [], [6093], [], [], [], [], [], [], [8070], [], [], [], [8066], [], [], [], [], [], [], [], [], [], [8074], [], [], [], [], [], [], [6094], [], [], [], [], [], [], [8066], [], [], [], [], [], [], [], [], [], [8066], [], [], [], [], [], [], [], [], [], [8078], [], [], [], [], [], [], [], [], [], [], [6075], [], [], [8002], [], [], [], [], [], [], [], [], [8026], [], [], [], [], [6093], [], [], [], [], [], [], [6094], [], [], [], [], [], [], [], [8066], [], [], [], [], [], [], [], [8039], [], [], [], [], [6081], [], [], [], [], [6081], [], [], [], [], [6093], [], [], [], [], [], [], [], [6093], [], [], []]
noncomputable def cd_218 : zK := [zj (.iload 1) 1 1 0 0, zi (.aconst_null) 3 0 0 0 (.int 41), none, zj (.if_icmp .eq 0) 6 15 0 0, none, none, zj (.aload 0) 7 0 0 0, zi (.aconst_null) 8 0 0 0 (.int 0), zj (.aload 0) 9 0 0 0, zj (.getfield 0) 12 12 28 0, none, none, zj (.invokevirtual 0) 15 201 2 12, none, none, zj (.aload 0) 16 0 0 0, zj (.dup) 17 0 0 0, zj (.getfield 0) 20 12 28 0, none, none, zi (.aconst_null) 21 0 0 0 (.int 1), zj (.iadd) 22 0 0 0, zj (.putfield 0) 25 12 28 0, none, none, zj (.aload 0) 26 0 0 0, zj (.dup) 27 0 0 0, zj (.getfield 0) 30 12 34 0, none, none, zi (.aconst_null) 31 0 0 0 (.int 1), zj (.isub) 32 0 0 0, zj (.putfield 0) 35 12 34 0, none, none, zj (.aload 0) 36 0 0 0, zj (.dup) 37 0 0 0, zj (.getfield 0) 40 12 32 0, none, none, zi (.aconst_null) 41 0 0 0 (.int 1), zj (.isub) 42 0 0 0, zj (.putfield 0) 45 12 32 0, none, none, zj (.return_) 46 0 0 0]
noncomputable def pp_218 : List (List Nat) := [[], [], [], [], [], [], [], [], [], [6075], [], [], [8002], [], [], [], [], [6075], [], [], [], [], [6075], [], [], [], [], [6081], [], [], [], [], [6081], [], [], [], [], [6079], [], [], [], [], [6079], [], [], []]
noncomputable def cd_219 : zK := [zj (.aload 0) 1 0 0 0, zj (.invokevirtual 0) 4 210 0 12, none, none, zi (.aconst_null) 6 0 0 0 (.int 10), none, zj (.if_icmp .ne 0) 9 39 0 0, none, none, zj (.aload 0) 10 0 0 0, zi (.aconst_null) 12 0 0 0 (.int 10), none, zi (.aconst_null) 13 0 0 0 (.int 0), zj (.invokevirtual 0) 16 206 2 12, none, none, zj (.aload 0) 17 0 0 0, zj (.dup) 18 0 0 0, zj (.getfield 0) 21 12 34 0, none, none, zi (.aconst_null) 22 0 0 0 (.int 1), zj (.isub) 23 0 0 0, zj (.putfield 0) 26 12 34 0, none, none, zj (.aload 0) 27 0 0 0, zj (.dup) 28 0 0 0, zj (.getfield 0) 31 12 32 0, none, none, zi (.aconst_null) 32 0 0 0 (.int 1), zj (.isub) 33 0 0 0, zj (.putfield 0) 36 12 32 0, none, none, zj (.goto 0) 39 0 0 0, none, none, zj (.return_) 40 0 0 0]
noncomputable def pp_219 : List (List Nat) := [[], [8066], [], [], [], [], [], [], [], [], [], [], [], [8039], [], [], [], [], [6081], [], [], [], [], [6081], [], [], [], [], [6079], [], [], [], [], [6079], [], [], [], [], [], []]
noncomputable def cd_220 : zK := [zj (.aload 0) 1 0 0 0, zj (.invokevirtual 0) 4 210 0 12, none, none, zi (.aconst_null) 6 0 0 0 (.int 11), none, zj (.if_icmp .ne 0) 9 29 0 0, none, none, zj (.aload 0) 10 0 0 0, zi (.aconst_null) 12 0 0 0 (.int 11), none, zi (.aconst_null) 13 0 0 0 (.int 0), zj (.invokevirtual 0) 16 206 2 12, none, none, zj (.aload 0) 17 0 0 0, zj (.dup) 18 0 0 0, zj (.getfield 0) 21 12 34 0, none, none, zi (.aconst_null) 22 0 0 0 (.int 1), zj (.isub) 23 0 0 0, zj (.putfield 0) 26 12 34 0, none, none, zj (.goto 0) 29 0 0 0, none, none, zj (.return_) 30 0 0 0]
noncomputable def pp_220 : List (List Nat) := [[], [8066], [], [], [], [], [], [], [], [], [], [], [], [8039], [], [], [], [], [6081], [], [], [], [], [6081], [], [], [], [], [], []]
noncomputable def cd_221 : zK := [zj (.aload 0) 1 0 0 0, zj (.invokevirtual 0) 4 220 0 12, none, none, zj (.aload 0) 5 0 0 0, zj (.invokevirtual 0) 8 210 0 12, none, none, zi (.aconst_null) 10 0 0 0 (.int 12), none, zj (.if_icmp .ne 0) 13 33 0 0, none, none, zj (.aload 0) 14 0 0 0, zi (.aconst_null) 16 0 0 0 (.int 12), none, zi (.aconst_null) 17 0 0 0 (.int 0), zj (.invokevirtual 0) 20 206 2 12, none, none, zj (.aload 0) 21 0 0 0, zj (.dup) 22 0 0 0, zj (.getfield 0) 25 12 34 0, none, none, zi (.aconst_null) 26 0 0 0 (.int 1), zj (.isub) 27 0 0 0, zj (.putfield 0) 30 12 34 0, none, none, zj (.goto 0) 33 4 0 0, none, none, zj (.return_) 34 0 0 0]
noncomputable def pp_221 : List (List Nat) := [[], [8091], [], [], [], [8066], [], [], [], [], [], [], [], [], [], [], [], [8039], [], [], [], [], [6081], [], [], [], [], [6081], [], [], [], [], [], []]
noncomputable def cd_222 : zK := [zj (.aload 0) 1 0 0 0, zj (.invokevirtual 0) 4 219 0 12, none, none, zj (.aload 0) 5 0 0 0, zj (.invokevirtual 0) 8 203 0 12, none, none, zj (.aload 0) 9 0 0 0, none, none, none, zj (.invokevirtual 0) 15 205 1 12, none, none, zj (.ifCond .eq 0) 18 46 0 0, none, none, zj (.aload 0) 19 0 0 0, zj (.invokevirtual 0) 22 220 0 12, none, none, zj (.aload 0) 23 0 0 0, zi (.aconst_null) 25 0 0 0 (.int 11), none, zj (.invokevirtual 0) 28 208 1 12, none, none, zj (.aload 0) 29 0 0 0, zj (.dup) 30 0 0 0, zj (.getfield 0) 33 12 28 0, none, none, zi (.aconst_null) 34 0 0 0 (.int 3), zj (.iadd) 35 0 0 0, zj (.putfield 0) 38 12 28 0, none, none, zj (.aload 0) 39 0 0 0, zi (.aconst_null) 40 0 0 0 (.int 0), zj (.putfield 0) 43 12 46 0, none, none, zj (.goto 0) 46 153 0 0, none, none, zj (.aload 0) 47 0 0 0, none, none, none, zj (.invokevirtual 0) 53 205 1 12, none, none, zj (.ifCond .eq 0) 56 84 0 0, none, none, zj (.aload 0) 57 0 0 0, zj (.invokevirtual 0) 60 221 0 12, none, none, zj (.aload 0) 61 0 0 0, zi (.aconst_null) 63 0 0 0 (.int 12), none, zj (.invokevirtual 0) 66 208 1 12, none, none, zj (.aload 0) 67 0 0 0, zj (.dup) 68 0 0 0, zj (.getfield 0) 71 12 28 0, none, none, zi (.aconst_null) 72 0 0 0 (.int 2), zj (.iadd) 73 0 0 0, zj (.putfield 0) 76 12 28 0, none, none, zj (.aload 0) 77 0 0 0, zi (.aconst_null) 78 0 0 0 (.int 0), zj (.putfield 0) 81 12 46 0, none, none, zj (.goto 0) 84 153 0 0, none, none, zj (.aload 0) 85 0 0 0, zj (.invokevirtual 0) 88 221 0 12, none, none, zj (.aload 0) 89 0 0 0, zj (.invokevirtual 0) 92 210 0 12, none, none, zi (.aconst_null) 94 0 0 0 (.int 13), none, zj (.if_icmp .ne 0) 97 148 0 0, none, none, zj (.aload 0) 98 0 0 0, zj (.invokevirtual 0) 101 202 0 12, none, none, zi (.aconst_null) 103 0 0 0 (.int 93), none, zj (.if_icmp .eq 0) 106 115 0 0, none, none, zj (.aload 0) 107 0 0 0, zi (.aconst_null) 108 0 0 0 (.int 0), zj (.aload 0) 109 0 0 0, zj (.getfield 0) 112 12 28 0, none, none, zj (.invokevirtual 0) 115 201 2 12, none, none, zj (.aload 0) 116 0 0 0, zj (.dup) 117 0 0 0, zj (.getfield 0) 120 12 28 0, none, none, zi (.aconst_null) 121 0 0 0 (.int 1), zj (.iadd) 122 0 0 0, zj (.putfield 0) 125 12 28 0, none, none, zj (.aload 0) 126 0 0 0, zj (.dup) 127 0 0 0, zj (.getfield 0) 130 12 34 0, none, none, zi (.aconst_null) 131 0 0 0 (.int 1), zj (.isub) 132 0 0 0, zj (.putfield 0) 135 12 34 0, none, none, zj (.aload 0) 136 0 0 0, zj (.dup) 137 0 0 0, zj (.getfield 0) 140 12 32 0, none, none, zi (.aconst_null) 141 0 0 0 (.int 1), zj (.isub) 142 0 0 0, zj (.putfield 0) 145 12 32 0, none, none, zj (.goto 0) 148 153 0 0, none, none, zj (.aload 0) 149 0 0 0, zi (.aconst_null) 150 0 0 0 (.int 4), zj (.putfield 0) 153 12 46 0, none, none, zj (.return_) 154 0 0 0]
noncomputable def pp_222 : List (List Nat) := [[], [8086], [], [], [], [7221], [], [], [], [], [], [], [7236], [], [], [], [], [], [], [8091], [], [], [], [], [], [8026], [], [], [], [], [6075], [], [], [], [], [6075], [], [], [], [], [6093], [], [], [], [], [], [], [], [], [], [7236], [], [], [], [], [], [], [8096], [], [], [], [], [], [8026], [], [], [], [], [6075], [], [], [], [], [6075], [], [], [], [], [6093], [], [], [], [], [], [], [8096], [], [], [], [8066], [], [], [], [], [], [], [], [], [7225], [], [], [], [], [], [], [], [], [], [], [6075], [], [], [8002], [], [], [], [], [6075], [], [], [], [], [6075], [], [], [], [], [6081], [], [], [], [], [6081], [], [], [], [], [6079], [], [], [], [], [6079], [], [], [], [], [], [], [], [6093], [], [], []]
noncomputable def cd_223 : zK := [zj (.aload 0) 1 0 0 0, zj (.iload 1) 2 1 0 0, zj (.putfield 0) 5 12 46 0, none, none, zj (.aload 0) 6 0 0 0, zi (.aconst_null) 7 0 0 0 (.int 0), zj (.putfield 0) 10 12 34 0, none, none, zj (.aload 0) 11 0 0 0, zj (.iload 1) 12 1 0 0, zj (.ifCond .ne 0) 15 19 0 0, none, none, zi (.aconst_null) 16 0 0 0 (.int 1), zj (.goto 0) 19 20 0 0, none, none, zi (.aconst_null) 20 0 0 0 (.int 0), zj (.putfield 0) 23 12 47 0, none, none, zj (.aload 0) 24 0 0 0, zj (.getfield 0) 27 12 46 0, none, none, zi (.aconst_null) 28 0 0 0 (.int 4), zj (.if_icmp .eq 0) 31 96 0 0, none, none, zj (.aload 0) 32 0 0 0, zj (.getfield 0) 35 12 29 0, none, none, zj (.ifCond .ne 0) 38 96 0 0, none, none, zj (.aload 0) 39 0 0 0, zj (.getfield 0) 42 12 46 0, none, none, zj (.tableswitch 89 0 2 #[68, 75, 82]) 68 0 0 0, none, none, none, none, none, none, none, none, none, none, none, none, none, none, none, none, none, none, none, none, none, none, none, none, none, zj (.aload 0) 69 0 0 0, zj (.invokevirtual 0) 72 216 0 12, none, none, zj (.goto 0) 75 23 0 0, none, none, zj (.aload 0) 76 0 0 0, zj (.invokevirtual 0) 79 213 0 12, none, none, zj (.goto 0) 82 23 0 0, none, none, zj (.aload 0) 83 0 0 0, zj (.invokevirtual 0) 86 217 0 12, none, none, zj (.goto 0) 89 23 0 0, none, none, zj (.aload 0) 90 0 0 0, zj (.invokevirtual 0) 93 222 0 12, none, none, zj (.goto 0) 96 23 0 0, none, none, zj (.return_) 97 0 0 0]
noncomputable def pp_223 : List (List Nat) := [[], [], [6093], [], [], [], [], [6081], [], [], [], [], [], [], [], [], [], [], [], [], [6094], [], [], [], [6093], [], [], [], [], [], [], [], [6076], [], [], [], [], [], [], [6093], [], [], [], [], [], [], [], [], [], [], [], [], [], [], [], [], [], [], [], [], [], [], [], [], [], [], [], [], [], [8017], [], [], [], [], [], [], [8030], [], [], [], [], [], [], [8058], [], [], [], [], [], [], [8082], [], [], [], [], [], []]
noncomputable def cd_224 : zK := [zj (.aload 0) 1 0 0 0, zj (.invokevirtual 0) 4 203 0 12, none, none, zj (.aload 0) 5 0 0 0, zj (.getfield 0) 8 12 28 0, none, none, zj (.istore 2) 9 2 0 0, zi (.aconst_null) 10 0 0 0 (.int 0), zj (.istore 3) 11 3 0 0, zj (.iload 3) 12 3 0 0, zi (.aconst_null) 13 0 0 0 (.int 4), zj (.if_icmp .ge 0) 16 33 0 0, none, none, zj (.aload 0) 17 0 0 0, zj (.iload 3) 18 3 0 0, zj (.invokestatic 0) 21 200 1 0, none, none, zj (.invokevirtual 0) 24 205 1 12, none, none, zj (.ifCond .ne 0) 27 33 0 0, none, none, zi (.iinc 3 1) 30 3 0 0 (.int 1), none, none, zj (.goto 0) 33 11 0 0, none, none, zj (.iload 3) 34 3 0 0, zi (.aconst_null) 35 0 0 0 (.int 4), zj (.if_icmp .ne 0) 38 45 0 0, none, none, zj (.aload 0) 39 0 0 0, zi (.aconst_null) 40 0 0 0 (.int 0), zj (.iload 2) 41 2 0 0, zj (.invokevirtual 0) 44 201 2 12, none, none, zj (.return_) 45 0 0 0, zj (.iload 1) 46 1 0 0, zi (.aconst_null) 48 0 0 0 (.int 12), none, zj (.if_icmp .ne 0) 51 58 0 0, none, none, zj (.aload 0) 52 0 0 0, zi (.aconst_null) 53 0 0 0 (.int 4), zj (.iload 2) 54 2 0 0, zj (.invokevirtual 0) 57 201 2 12, none, none, zj (.return_) 58 0 0 0, zj (.aload 0) 59 0 0 0, zj (.dup) 60 0 0 0, zj (.getfield 0) 63 12 28 0, none, none, zj (.iload 3) 64 3 0 0, zj (.invokestatic 0) 67 200 1 0, none, none, none, none, none, zj (.iadd) 71 0 0 0, zj (.putfield 0) 74 12 28 0, none, none, zi (.aconst_null) 76 0 0 0 (.int 12), none, zj (.aload 0) 77 0 0 0, zj (.getfield 0) 80 12 30 0, none, none, zj (.imul) 81 0 0 0, zj (.iload 1) 82 1 0 0, zj (.iadd) 83 0 0 0, zj (.istore 4) 85 4 0 0, none, zj (.aload 0) 86 0 0 0, zj (.getfield 0) 89 12 38 0, none, none, zj (.iload 4) 91 4 0 0, none, zj (.iload 3) 92 3 0 0, zj (.iastore) 93 0 0 0, zj (.aload 0) 94 0 0 0, zj (.getfield 0) 97 12 39 0, none, none, zj (.iload 4) 99 4 0 0, none, zi (.aconst_null) 100 0 0 0 (.int 0), zj (.iastore) 101 0 0 0, zj (.iload 3) 102 3 0 0, zj (.ifCond .ne 0) 105 121 0 0, none, none, zj (.aload 0) 106 0 0 0, zj (.invokevirtual 0) 109 203 0 12, none, none, zj (.aload 0) 110 0 0 0, zj (.getfield 0) 113 12 39 0, none, none, zj (.iload 4) 115 4 0 0, none, zj (.aload 0) 116 0 0 0, zi (.aconst_null) 117 0 0 0 (.int 2), zj (.invokevirtual 0) 120 211 1 12, none, none, zj (.iastore) 121 0 0 0, zj (.aload 0) 122 0 0 0, zj (.getfield 0) 125 12 40 0, none, none, zj (.iload 4) 127 4 0 0, none, zj (.aload 0) 128 0 0 0, zj (.getfield 0) 131 12 31 0, none, none, zj (.iastore) 132 0 0 0, zj (.iload 3) 133 3 0 0, zi (.aconst_null) 134 0 0 0 (.int 3), zj (.if_icmp .eq 0) 137 149 0 0, none, none, zj (.aload 0) 138 0 0 0, zj (.getfield 0) 141 12 29 0, none, none, zj (.ifCond .ne 0) 144 149 0 0, none, none, zj (.aload 0) 145 0 0 0, zi (.aconst_null) 146 0 0 0 (.int 1), zj (.invokevirtual 0) 149 223 1 12, none, none, zj (.aload 0) 150 0 0 0, zj (.getfield 0) 153 12 41 0, none, none, zj (.iload 4) 155 4 0 0, none, zj (.aload 0) 156 0 0 0, zj (.getfield 0) 159 12 31 0, none, none, zj (.iastore) 160 0 0 0, zj (.aload 0) 161 0 0 0, zj (.invokevirtual 0) 164 203 0 12, none, none, zj (.aload 0) 165 0 0 0, none, none, none, zj (.invokevirtual 0) 171 205 1 12, none, none, zj (.istore 5) 173 5 0 0, none, zj (.iload 3) 174 3 0 0, zi (.aconst_null) 175 0 0 0 (.int 3), zj (.if_icmp .ne 0) 178 192 0 0, none, none, zj (.iload 5) 180 5 0 0, none, zj (.ifCond .ne 0) 183 192 0 0, none, none, zj (.aload 0) 184 0 0 0, zi (.aconst_null) 185 0 0 0 (.int 0), zj (.aload 0) 186 0 0 0, zj (.getfield 0) 189 12 28 0, none, none, zj (.invokevirtual 0) 192 201 2 12, none, none, zj (.iload 5) 194 5 0 0, none, zj (.ifCond .eq 0) 197 219 0 0, none, none, zj (.aload 0) 198 0 0 0, zj (.getfield 0) 201 12 29 0, none, none, zj (.ifCond .ne 0) 204 219 0 0, none, none, zj (.aload 0) 205 0 0 0, zj (.dup) 206 0 0 0, zj (.getfield 0) 209 12 28 0, none, none, zi (.aconst_null) 210 0 0 0 (.int 2), zj (.iadd) 211 0 0 0, zj (.putfield 0) 214 12 28 0, none, none, zj (.aload 0) 215 0 0 0, zi (.aconst_null) 216 0 0 0 (.int 0), zj (.invokevirtual 0) 219 223 1 12, none, none, zj (.aload 0) 220 0 0 0, zj (.getfield 0) 223 12 42 0, none, none, zj (.iload 4) 225 4 0 0, none, zj (.aload 0) 226 0 0 0, zj (.getfield 0) 229 12 31 0, none, none, zj (.iastore) 230 0 0 0, zj (.return_) 231 0 0 0]
noncomputable def pp_224 : List (List Nat) := [[], [7221], [], [], [], [6075], [], [], [], [], [], [], [], [], [], [], [], [], [7229], [], [], [7236], [], [], [], [], [], [], [], [], [], [], [], [], [], [], [], [], [], [], [], [8002], [], [], [], [], [], [], [], [], [], [], [], [], [8002], [], [], [], [], [], [6075], [], [], [], [7229], [], [], [], [], [], [], [6075], [], [], [], [], [], [6077], [], [], [], [], [], [], [], [], [6085], [], [], [], [], [], [], [], [6086], [], [], [], [], [], [], [], [], [], [], [], [7221], [], [], [], [6086], [], [], [], [], [], [], [8006], [], [], [], [], [6087], [], [], [], [], [], [6078], [], [], [], [], [], [], [], [], [], [6076], [], [], [], [], [], [], [], [8013], [], [], [], [6088], [], [], [], [], [], [6078], [], [], [], [], [7221], [], [], [], [], [], [], [7236], [], [], [], [], [], [], [], [], [], [], [], [], [], [], [], [], [], [6075], [], [], [8002], [], [], [], [], [], [], [], [], [6076], [], [], [], [], [], [], [], [6075], [], [], [], [], [6075], [], [], [], [], [8013], [], [], [], [6089], [], [], [], [], [], [6078], [], [], [], []]
noncomputable def cd_225 : zK := [zj (.aload 0) 1 0 0 0, zj (.getfield 0) 4 12 30 0, none, none, zi (.aconst_null) 6 0 0 0 (.int 10), none, zj (.if_icmp .eq 0) 9 25 0 0, none, none, zj (.iload 1) 10 1 0 0, zj (.i2l) 11 0 0 0, zj (.aload 0) 12 0 0 0, zj (.getfield 0) 15 12 1 0, none, none, zj (.i2l) 16 0 0 0, zi (.aconst_null) 19 0 0 0 (.long 599), none, none, zj (.invokestatic 0) 22 171 3 0, none, none, zj (.ifCond .ne 0) 25 27 0 0, none, none, zi (.aconst_null) 26 0 0 0 (.int (-1)), zj (.ireturn) 27 0 0 0, zj (.aload 0) 28 0 0 0, zi (.aconst_null) 29 0 0 0 (.int 0), zj (.putfield 0) 32 12 28 0, none, none, zj (.aload 0) 33 0 0 0, zi (.aconst_null) 34 0 0 0 (.int 0), zj (.putfield 0) 37 12 29 0, none, none, zj (.aload 0) 38 0 0 0, zi (.aconst_null) 39 0 0 0 (.int 0), zj (.putfield 0) 42 12 31 0, none, none, zj (.aload 0) 43 0 0 0, zi (.aconst_null) 44 0 0 0 (.int 0), zj (.putfield 0) 47 12 32 0, none, none, zj (.aload 0) 48 0 0 0, zi (.aconst_null) 49 0 0 0 (.int 0), zj (.putfield 0) 52 12 33 0, none, none, zi (.aconst_null) 53 0 0 0 (.int 0), zj (.istore 2) 54 2 0 0, zi (.aconst_null) 55 0 0 0 (.int 1), zj (.istore 3) 56 3 0 0, zj (.iload 3) 57 3 0 0, zj (.ifCond .eq 0) 60 145 0 0, none, none, zj (.aload 0) 61 0 0 0, zj (.iload 2) 62 2 0 0, zj (.invokevirtual 0) 65 224 1 12, none, none, zi (.iinc 2 1) 68 2 0 0 (.int 1), none, none, zj (.aload 0) 69 0 0 0, zj (.invokevirtual 0) 72 203 0 12, none, none, zj (.aload 0) 73 0 0 0, zj (.getfield 0) 76 12 29 0, none, none, zj (.ifCond .ne 0) 79 108 0 0, none, none, zj (.aload 0) 80 0 0 0, zj (.getfield 0) 83 12 28 0, none, none, zj (.aload 0) 84 0 0 0, zj (.getfield 0) 87 12 27 0, none, none, zj (.if_icmp .ge 0) 90 108 0 0, none, none, zj (.aload 0) 91 0 0 0, zj (.invokevirtual 0) 94 202 0 12, none, none, zi (.aconst_null) 96 0 0 0 (.int 59), none, zj (.if_icmp .eq 0) 99 108 0 0, none, none, zj (.aload 0) 100 0 0 0, zi (.aconst_null) 101 0 0 0 (.int 0), zj (.aload 0) 102 0 0 0, zj (.getfield 0) 105 12 28 0, none, none, zj (.invokevirtual 0) 108 201 2 12, none, none, zj (.aload 0) 109 0 0 0, zj (.getfield 0) 112 12 29 0, none, none, zj (.ifCond .ne 0) 115 130 0 0, none, none, zj (.aload 0) 116 0 0 0, zj (.getfield 0) 119 12 28 0, none, none, zj (.aload 0) 120 0 0 0, zj (.getfield 0) 123 12 27 0, none, none, zj (.if_icmp .ge 0) 126 130 0 0, none, none, zi (.aconst_null) 127 0 0 0 (.int 1), zj (.goto 0) 130 131 0 0, none, none, zi (.aconst_null) 131 0 0 0 (.int 0), zj (.istore 3) 132 3 0 0, zj (.aload 0) 133 0 0 0, zj (.dup) 134 0 0 0, zj (.getfield 0) 137 12 28 0, none, none, zi (.aconst_null) 138 0 0 0 (.int 1), zj (.iadd) 139 0 0 0, zj (.putfield 0) 142 12 28 0, none, none, zj (.goto 0) 145 56 0 0, none, none, zj (.aload 0) 146 0 0 0, zi (.aconst_null) 147 0 0 0 (.int 0), zj (.putfield 0) 150 12 27 0, none, none, zj (.aload 0) 151 0 0 0, zj (.getfield 0) 154 12 29 0, none, none, zj (.ifCond .le 0) 157 165 0 0, none, none, zi (.aconst_null) 159 0 0 0 (.int (-2)), none, zj (.aload 0) 160 0 0 0, zj (.getfield 0) 163 12 29 0, none, none, zj (.isub) 164 0 0 0, zj (.ireturn) 165 0 0 0, zj (.aload 0) 166 0 0 0, zj (.getfield 0) 169 12 43 0, none, none, zj (.aload 0) 170 0 0 0, zj (.getfield 0) 173 12 30 0, none, none, zj (.iload 2) 174 2 0 0, zj (.iastore) 175 0 0 0, zj (.aload 0) 176 0 0 0, zj (.getfield 0) 179 12 44 0, none, none, zj (.aload 0) 180 0 0 0, zj (.getfield 0) 183 12 30 0, none, none, zj (.iload 1) 184 1 0 0, zj (.iastore) 185 0 0 0, zj (.aload 0) 186 0 0 0, zj (.dup) 187 0 0 0, zj (.getfield 0) 190 12 30 0, none, none, zi (.aconst_null) 191 0 0 0 (.int 1), zj (.iadd) 192 0 0 0, zj (.putfield 0) 195 12 30 0, none, none, zj (.aload 0) 196 0 0 0, zj (.getfield 0) 199 12 30 0, none, none, zi (.aconst_null) 200 0 0 0 (.int 1), zj (.isub) 201 0 0 0, zj (.ireturn) 202 0 0 0]
noncomputable def pp_225 : List (List Nat) := [[], [6077], [], [], [], [], [], [], [], [], [], [], [6048], [], [], [], [7100], [], [], [7101], [], [], [], [], [], [], [], [], [], [6075], [], [], [], [], [6076], [], [], [], [], [6078], [], [], [], [], [6079], [], [], [], [], [6080], [], [], [], [], [], [], [], [], [], [], [], [], [7217], [], [], [], [], [], [], [7221], [], [], [], [6076], [], [], [], [], [], [], [6075], [], [], [], [6074], [], [], [], [], [], [], [7225], [], [], [], [], [], [], [], [], [], [], [6075], [], [], [8002], [], [], [], [6076], [], [], [], [], [], [], [6075], [], [], [], [6074], [], [], [], [], [], [], [], [], [], [], [], [], [], [6075], [], [], [], [], [6075], [], [], [], [], [], [], [], [6074], [], [], [], [6076], [], [], [], [], [], [], [], [], [6076], [], [], [], [], [], [6090], [], [], [], [6077], [], [], [], [], [], [6091], [], [], [], [6077], [], [], [], [], [], [], [6077], [], [], [], [], [6077], [], [], [], [6077], [], [], [], [], []]
noncomputable def cd_226 : zK := [zi (.aconst_null) 1 0 0 0 (.int (-1)), zj (.istore 2) 2 2 0 0, zi (.aconst_null) 3 0 0 0 (.int 0), zj (.istore 3) 4 3 0 0, zj (.iload 3) 5 3 0 0, zj (.aload 0) 6 0 0 0, zj (.getfield 0) 9 12 30 0, none, none, zj (.if_icmp .ge 0) 12 54 0 0, none, none, zj (.aload 0) 13 0 0 0, zj (.getfield 0) 16 12 44 0, none, none, zj (.iload 3) 17 3 0 0, zj (.iaload) 18 0 0 0, zj (.iload 1) 19 1 0 0, zj (.if_icmp .gt 0) 22 46 0 0, none, none, zj (.iload 2) 23 2 0 0, zi (.aconst_null) 24 0 0 0 (.int (-1)), zj (.if_icmp .eq 0) 27 42 0 0, none, none, zj (.aload 0) 28 0 0 0, zj (.getfield 0) 31 12 44 0, none, none, zj (.iload 3) 32 3 0 0, zj (.iaload) 33 0 0 0, zj (.aload 0) 34 0 0 0, zj (.getfield 0) 37 12 44 0, none, none, zj (.iload 2) 38 2 0 0, zj (.iaload) 39 0 0 0, zj (.if_icmp .lt 0) 42 46 0 0, none, none, zj (.iload 3) 43 3 0 0, zj (.goto 0) 46 47 0 0, none, none, zj (.iload 2) 47 2 0 0, zj (.istore 2) 48 2 0 0, zi (.iinc 3 1) 51 3 0 0 (.int 1), none, none, zj (.goto 0) 54 4 0 0, none, none, zj (.iload 2) 55 2 0 0, zj (.ireturn) 56 0 0 0]
noncomputable def pp_226 : List (List Nat) := [[], [], [], [], [], [], [6077], [], [], [], [], [], [], [6091], [], [], [], [], [], [], [], [], [], [], [], [], [], [], [6091], [], [], [], [], [], [6091], [], [], [], [], [], [], [], [], [], [], [], [], [], [], [], [], [], [], [], [], []]
noncomputable def cd_227 : zK := [zj (.iload 1) 1 1 0 0, zj (.invokestatic 0) 4 172 1 0, none, none, zj (.ifCond .eq 0) 7 15 0 0, none, none, zj (.aload 0) 8 0 0 0, zj (.iload 1) 9 1 0 0, zj (.invokevirtual 0) 12 226 1 12, none, none, zj (.goto 0) 15 16 0 0, none, none, zi (.aconst_null) 16 0 0 0 (.int (-1)), zj (.ireturn) 17 0 0 0]
noncomputable def pp_227 : List (List Nat) := [[], [7141], [], [], [], [], [], [], [], [8105], [], [], [], [], [], [], []]
noncomputable def cd_228 : zK := [zi (.aconst_null) 1 0 0 0 (.int 0), zj (.istore 4) 3 4 0 0, none, zj (.iload 4) 5 4 0 0, none, zi (.aconst_null) 7 0 0 0 (.int 12), none, zj (.if_icmp .ge 0) 10 24 0 0, none, none, zj (.aload 0) 11 0 0 0, zj (.getfield 0) 14 12 48 0, none, none, zj (.iload 4) 16 4 0 0, none, zi (.aconst_null) 17 0 0 0 (.long 0), zj (.lastore) 18 0 0 0, zi (.iinc 4 1) 21 4 0 0 (.int 1), none, none, zj (.goto 0) 24 3 0 0, none, none, zj (.aload 0) 25 0 0 0, zj (.getfield 0) 28 12 48 0, none, none, zi (.aconst_null) 29 0 0 0 (.int 0), zj (.iload 2) 30 2 0 0, zj (.i2l) 31 0 0 0, zj (.lastore) 32 0 0 0, zj (.aload 0) 33 0 0 0, zj (.getfield 0) 36 12 48 0, none, none, zi (.aconst_null) 37 0 0 0 (.int 1), zj (.iload 1) 38 1 0 0, zj (.i2l) 39 0 0 0, zj (.lastore) 40 0 0 0, zj (.aload 0) 41 0 0 0, zj (.getfield 0) 44 12 48 0, none, none, zi (.aconst_null) 45 0 0 0 (.int 2), zj (.aload 0) 46 0 0 0, zj (.getfield 0) 49 12 9 0, none, none, zj (.iload 1) 50 1 0 0, zj (.iaload) 51 0 0 0, zj (.i2l) 52 0 0 0, zj (.lastore) 53 0 0 0, zj (.aload 0) 54 0 0 0, zj (.getfield 0) 57 12 48 0, none, none, zi (.aconst_null) 58 0 0 0 (.int 3), zj (.iload 3) 59 3 0 0, zj (.i2l) 60 0 0 0, zj (.lastore) 61 0 0 0, zi (.aconst_null) 62 0 0 0 (.int 0), zj (.istore 4) 64 4 0 0, none, zj (.iload 4) 66 4 0 0, none, zj (.aload 0) 67 0 0 0, zj (.getfield 0) 70 12 5 0, none, none, zj (.if_icmp .ge 0) 73 126 0 0, none, none, zj (.aload 0) 74 0 0 0, zj (.getfield 0) 77 12 48 0, none, none, zi (.aconst_null) 78 0 0 0 (.int 4), zj (.dup2) 79 0 0 0, zj (.laload) 80 0 0 0, zj (.aload 0) 81 0 0 0, zj (.getfield 0) 84 12 16 0, none, none, zj (.iload 4) 86 4 0 0, none, zj (.iaload) 87 0 0 0, zj (.iload 1) 88 1 0 0, zj (.if_icmp .ne 0) 91 117 0 0, none, none, zj (.aload 0) 92 0 0 0, zj (.getfield 0) 95 12 17 0, none, none, zj (.iload 4) 97 4 0 0, none, zj (.iaload) 98 0 0 0, zj (.iload 2) 99 2 0 0, zj (.if_icmp .gt 0) 102 117 0 0, none, none, zj (.aload 0) 103 0 0 0, zj (.getfield 0) 106 12 18 0, none, none, zj (.iload 4) 108 4 0 0, none, zj (.iaload) 109 0 0 0, zj (.iload 2) 110 2 0 0, zj (.if_icmp .gt 0) 113 117 0 0, none, none, zi (.aconst_null) 114 0 0 0 (.long 1), zj (.goto 0) 117 118 0 0, none, none, zi (.aconst_null) 118 0 0 0 (.long 0), zj (.ladd) 119 0 0 0, zj (.lastore) 120 0 0 0, zi (.iinc 4 1) 123 4 0 0 (.int 1), none, none, zj (.goto 0) 126 64 0 0, none, none, zi (.aconst_null) 127 0 0 0 (.int 0), zj (.istore 4) 129 4 0 0, none, zj (.iload 4) 131 4 0 0, none, zj (.aload 0) 132 0 0 0, zj (.getfield 0) 135 12 59 0, none, none, zj (.if_icmp .ge 0) 138 234 0 0, none, none, zj (.aload 0) 139 0 0 0, zj (.getfield 0) 142 12 16 0, none, none, zj (.aload 0) 143 0 0 0, zj (.getfield 0) 146 12 60 0, none, none, zj (.iload 4) 148 4 0 0, none, zj (.iaload) 149 0 0 0, zj (.iaload) 150 0 0 0, zj (.iload 1) 151 1 0 0, zj (.if_icmp .ne 0) 154 179 0 0, none, none, zj (.aload 0) 155 0 0 0, zj (.getfield 0) 158 12 65 0, none, none, zj (.iload 4) 160 4 0 0, none, zj (.iaload) 161 0 0 0, zj (.iload 2) 162 2 0 0, zj (.if_icmp .gt 0) 165 179 0 0, none, none, zj (.aload 0) 166 0 0 0, zj (.getfield 0) 169 12 66 0, none, none, zj (.iload 4) 171 4 0 0, none, zj (.baload) 172 0 0 0, zj (.ifCond .eq 0) 175 179 0 0, none, none, zi (.aconst_null) 176 0 0 0 (.int 1), zj (.goto 0) 179 180 0 0, none, none, zi (.aconst_null) 180 0 0 0 (.int 0), zj (.istore 5) 182 5 0 0, none, zj (.aload 0) 183 0 0 0, zj (.getfield 0) 186 12 48 0, none, none, zi (.aconst_null) 187 0 0 0 (.int 5), zj (.dup2) 188 0 0 0, zj (.laload) 189 0 0 0, zj (.iload 5) 191 5 0 0, none, zj (.ifCond .eq 0) 194 198 0 0, none, none, zi (.aconst_null) 195 0 0 0 (.long 1), zj (.goto 0) 198 199 0 0, none, none, zi (.aconst_null) 199 0 0 0 (.long 0), zj (.ladd) 200 0 0 0, zj (.lastore) 201 0 0 0, zj (.aload 0) 202 0 0 0, zj (.getfield 0) 205 12 48 0, none, none, zi (.aconst_null) 207 0 0 0 (.int 6), none, zj (.dup2) 208 0 0 0, zj (.laload) 209 0 0 0, zj (.iload 5) 211 5 0 0, none, zj (.ifCond .eq 0) 214 225 0 0, none, none, zj (.aload 0) 215 0 0 0, zj (.getfield 0) 218 12 64 0, none, none, zj (.iload 4) 220 4 0 0, none, zj (.iaload) 221 0 0 0, zj (.i2l) 222 0 0 0, zj (.goto 0) 225 226 0 0, none, none, zi (.aconst_null) 226 0 0 0 (.long 0), zj (.ladd) 227 0 0 0, zj (.lastore) 228 0 0 0, zi (.iinc 4 1) 231 4 0 0 (.int 1), none, none, zj (.goto 0) 234 129 0 0, none, none, zj (.return_) 235 0 0 0]
noncomputable def pp_228 : List (List Nat) := [[], [], [], [], [], [], [], [], [], [], [], [6095], [], [], [], [], [], [], [], [], [], [], [], [], [], [6095], [], [], [], [], [], [], [], [6095], [], [], [], [], [], [], [], [6095], [], [], [], [], [6056], [], [], [], [], [], [], [], [6095], [], [], [], [], [], [], [], [], [], [], [], [], [6052], [], [], [], [], [], [], [6095], [], [], [], [], [], [], [6063], [], [], [], [], [], [], [], [], [], [], [6064], [], [], [], [], [], [], [], [], [], [], [6065], [], [], [], [], [], [], [], [], [], [], [], [], [], [], [], [], [], [], [], [], [], [], [], [], [], [], [], [], [6106], [], [], [], [], [], [], [6063], [], [], [], [6107], [], [], [], [], [], [], [], [], [], [], [], [6112], [], [], [], [], [], [], [], [], [], [], [6113], [], [], [], [], [], [], [], [], [], [], [], [], [], [], [], [], [6095], [], [], [], [], [], [], [], [], [], [], [], [], [], [], [], [], [], [], [6095], [], [], [], [], [], [], [], [], [], [], [], [], [6111], [], [], [], [], [], [], [], [], [], [], [], [], [], [], [], [], [], [], []]
noncomputable def cd_229 : zK := [zj (.iload 0) 1 0 0 0, zj (.ifCond .eq 0) 4 8 0 0, none, none, zi (.aconst_null) 5 0 0 0 (.long 1), zj (.goto 0) 8 9 0 0, none, none, zi (.aconst_null) 9 0 0 0 (.long 0), zj (.lreturn) 10 0 0 0]
noncomputable def pp_229 : List (List Nat) := [[], [], [], [], [], [], [], [], [], []]
noncomputable def cd_230 : zK := [zj (.iload 0) 1 0 0 0, zj (.tableswitch 164 2 11 #[56, 60, 64, 68, 83, 98, 113, 128, 164, 143]) 56 0 0 0, none, none, none, none, none, none, none, none, none, none, none, none, none, none, none, none, none, none, none, none, none, none, none, none, none, none, none, none, none, none, none, none, none, none, none, none, none, none, none, none, none, none, none, none, none, none, none, none, none, none, none, none, none, none, zj (.lload 1) 57 1 0 0, zj (.lload 3) 58 3 0 0, zj (.lmul) 59 0 0 0, zj (.lreturn) 60 0 0 0, zj (.lload 1) 61 1 0 0, zj (.lload 3) 62 3 0 0, zj (.ladd) 63 0 0 0, zj (.lreturn) 64 0 0 0, zj (.lload 1) 65 1 0 0, zj (.lload 3) 66 3 0 0, zj (.lsub) 67 0 0 0, zj (.lreturn) 68 0 0 0, zj (.lload 1) 69 1 0 0, zj (.lload 3) 70 3 0 0, zj (.lcmp) 71 0 0 0, zj (.ifCond .ge 0) 74 78 0 0, none, none, zi (.aconst_null) 75 0 0 0 (.int 1), zj (.goto 0) 78 79 0 0, none, none, zi (.aconst_null) 79 0 0 0 (.int 0), zj (.invokestatic 0) 82 229 1 0, none, none, zj (.lreturn) 83 0 0 0, zj (.lload 1) 84 1 0 0, zj (.lload 3) 85 3 0 0, zj (.lcmp) 86 0 0 0, zj (.ifCond .gt 0) 89 93 0 0, none, none, zi (.aconst_null) 90 0 0 0 (.int 1), zj (.goto 0) 93 94 0 0, none, none, zi (.aconst_null) 94 0 0 0 (.int 0), zj (.invokestatic 0) 97 229 1 0, none, none, zj (.lreturn) 98 0 0 0, zj (.lload 1) 99 1 0 0, zj (.lload 3) 100 3 0 0, zj (.lcmp) 101 0 0 0, zj (.ifCond .ne 0) 104 108 0 0, none, none, zi (.aconst_null) 105 0 0 0 (.int 1), zj (.goto 0) 108 109 0 0, none, none, zi (.aconst_null) 109 0 0 0 (.int 0), zj (.invokestatic 0) 112 229 1 0, none, none, zj (.lreturn) 113 0 0 0, zj (.lload 1) 114 1 0 0, zj (.lload 3) 115 3 0 0, zj (.lcmp) 116 0 0 0, zj (.ifCond .lt 0) 119 123 0 0, none, none, zi (.aconst_null) 120 0 0 0 (.int 1), zj (.goto 0) 123 124 0 0, none, none, zi (.aconst_null) 124 0 0 0 (.int 0), zj (.invokestatic 0) 127 229 1 0, none, none, zj (.lreturn) 128 0 0 0, zj (.lload 1) 129 1 0 0, zj (.lload 3) 130 3 0 0, zj (.lcmp) 131 0 0 0, zj (.ifCond .le 0) 134 138 0 0, none, none, zi (.aconst_null) 135 0 0 0 (.int 1), zj (.goto 0) 138 139 0 0, none, none, zi (.aconst_null) 139 0 0 0 (.int 0), zj (.invokestatic 0) 142 229 1 0, none, none, zj (.lreturn) 143 0 0 0, zj (.lload 1) 144 1 0 0, zi (.aconst_null) 145 0 0 0 (.long 0), zj (.lcmp) 146 0 0 0, zj (.ifCond .eq 0) 149 159 0 0, none, none, zj (.lload 3) 150 3 0 0, zi (.aconst_null) 151 0 0 0 (.long 0), zj (.lcmp) 152 0 0 0, zj (.ifCond .eq 0) 155 159 0 0, none, none, zi (.aconst_null) 156 0 0 0 (.int 1), zj (.goto 0) 159 160 0 0, none, none, zi (.aconst_null) 160 0 0 0 (.int 0), zj (.invokestatic 0) 163 229 1 0, none, none, zj (.lreturn) 164 0 0 0, zj (.lload 1) 165 1 0 0, zi (.aconst_null) 166 0 0 0 (.long 0), zj (.lcmp) 167 0 0 0, zj (.ifCond .ne 0) 170 176 0 0, none, none, zj (.lload 3) 171 3 0 0, zi (.aconst_null) 172 0 0 0 (.long 0), zj (.lcmp) 173 0 0 0, zj (.ifCond .eq 0) 176 180 0 0, none, none, zi (.aconst_null) 177 0 0 0 (.int 1), zj (.goto 0) 180 181 0 0, none, none, zi (.aconst_null) 181 0 0 0 (.int 0), zj (.invokestatic 0) 184 229 1 0, none, none, zj (.lreturn) 185 0 0 0]
noncomputable def pp_230 : List (List Nat) := [[], [], [], [], [], [], [], [], [], [], [], [], [], [], [], [], [], [], [], [], [], [], [], [], [], [], [], [], [], [], [], [], [], [], [], [], [], [], [], [], [], [], [], [], [], [], [], [], [], [], [], [], [], [], [], [], [], [], [], [], [], [], [], [], [], [], [], [], [], [], [], [], [], [], [], [], [], [], [], [8133], [], [], [], [], [], [], [], [], [], [], [], [], [], [], [8133], [], [], [], [], [], [], [], [], [], [], [], [], [], [], [8133], [], [], [], [], [], [], [], [], [], [], [], [], [], [], [8133], [], [], [], [], [], [], [], [], [], [], [], [], [], [], [8133], [], [], [], [], [], [], [], [], [], [], [], [], [], [], [], [], [], [], [], [], [8133], [], [], [], [], [], [], [], [], [], [], [], [], [], [], [], [], [], [], [], [], [8133], [], [], []]
noncomputable def cd_231 : zK := [zi (.aconst_null) 1 0 0 0 (.int 0), zj (.istore 4) 3 4 0 0, none, zi (.aconst_null) 6 0 0 0 (.int 500), none, none, zj (.iload 1) 7 1 0 0, zj (.imul) 8 0 0 0, zj (.iload 2) 9 2 0 0, zj (.iadd) 10 0 0 0, zj (.istore 5) 12 5 0 0, none, zj (.iload 5) 14 5 0 0, none, zi (.aconst_null) 17 0 0 0 (.int 500), none, none, zj (.iload 1) 18 1 0 0, zj (.imul) 19 0 0 0, zj (.iload 3) 20 3 0 0, zj (.iadd) 21 0 0 0, zj (.if_icmp .ge 0) 24 183 0 0, none, none, zj (.aload 0) 25 0 0 0, zj (.getfield 0) 28 12 36 0, none, none, zj (.iload 5) 30 5 0 0, none, zj (.iaload) 31 0 0 0, zj (.ifCond .ne 0) 34 55 0 0, none, none, zj (.aload 0) 35 0 0 0, zj (.getfield 0) 38 12 49 0, none, none, zj (.iload 4) 40 4 0 0, none, zj (.aload 0) 41 0 0 0, zj (.getfield 0) 44 12 37 0, none, none, zj (.iload 5) 46 5 0 0, none, zj (.iaload) 47 0 0 0, zj (.i2l) 48 0 0 0, zj (.lastore) 49 0 0 0, zi (.iinc 4 1) 52 4 0 0 (.int 1), none, none, zj (.goto 0) 55 177 0 0, none, none, zj (.aload 0) 56 0 0 0, zj (.getfield 0) 59 12 36 0, none, none, zj (.iload 5) 61 5 0 0, none, zj (.iaload) 62 0 0 0, zi (.aconst_null) 63 0 0 0 (.int 1), zj (.if_icmp .ne 0) 66 91 0 0, none, none, zj (.aload 0) 67 0 0 0, zj (.getfield 0) 70 12 49 0, none, none, zj (.iload 4) 72 4 0 0, none, zj (.aload 0) 73 0 0 0, zj (.getfield 0) 76 12 48 0, none, none, zj (.aload 0) 77 0 0 0, zj (.getfield 0) 80 12 37 0, none, none, zj (.iload 5) 82 5 0 0, none, zj (.iaload) 83 0 0 0, zj (.laload) 84 0 0 0, zj (.lastore) 85 0 0 0, zi (.iinc 4 1) 88 4 0 0 (.int 1), none, none, zj (.goto 0) 91 177 0 0, none, none, zj (.aload 0) 92 0 0 0, zj (.getfield 0) 95 12 36 0, none, none, zj (.iload 5) 97 5 0 0, none, zj (.iaload) 98 0 0 0, zi (.aconst_null) 100 0 0 0 (.int 10), none, zj (.if_icmp .ne 0) 103 137 0 0, none, none, zj (.aload 0) 104 0 0 0, zj (.getfield 0) 107 12 49 0, none, none, zj (.iload 4) 109 4 0 0, none, zi (.aconst_null) 110 0 0 0 (.int 1), zj (.isub) 111 0 0 0, zj (.aload 0) 112 0 0 0, zj (.getfield 0) 115 12 49 0, none, none, zj (.iload 4) 117 4 0 0, none, zi (.aconst_null) 118 0 0 0 (.int 1), zj (.isub) 119 0 0 0, zj (.laload) 120 0 0 0, zi (.aconst_null) 121 0 0 0 (.long 0), zj (.lcmp) 122 0 0 0, zj (.ifCond .ne 0) 125 129 0 0, none, none, zi (.aconst_null) 126 0 0 0 (.int 1), zj (.goto 0) 129 130 0 0, none, none, zi (.aconst_null) 130 0 0 0 (.int 0), zj (.invokestatic 0) 133 229 1 0, none, none, zj (.lastore) 134 0 0 0, zj (.goto 0) 137 177 0 0, none, none, zj (.aload 0) 138 0 0 0, zj (.getfield 0) 141 12 49 0, none, none, zj (.iload 4) 143 4 0 0, none, zi (.aconst_null) 144 0 0 0 (.int 2), zj (.isub) 145 0 0 0, zj (.aload 0) 146 0 0 0, zj (.getfield 0) 149 12 36 0, none, none, zj (.iload 5) 151 5 0 0, none, zj (.iaload) 152 0 0 0, zj (.aload 0) 153 0 0 0, zj (.getfield 0) 156 12 49 0, none, none, zj (.iload 4) 158 4 0 0, none, zi (.aconst_null) 159 0 0 0 (.int 2), zj (.isub) 160 0 0 0, zj (.laload) 161 0 0 0, zj (.aload 0) 162 0 0 0, zj (.getfield 0) 165 12 49 0, none, none, zj (.iload 4) 167 4 0 0, none, zi (.aconst_null) 168 0 0 0 (.int 1), zj (.isub) 169 0 0 0, zj (.laload) 170 0 0 0, zj (.invokestatic 0) 173 230 3 0, none, none, zj (.lastore) 174 0 0 0, zi (.iinc 4 (-1)) 177 4 0 0 (.int (-1)), none, none, zi (.iinc 5 1) 180 5 0 0 (.int 1), none, none, zj (.goto 0) 183 12 0 0, none, none, zj (.aload 0) 184 0 0 0, zj (.getfield 0) 187 12 49 0, none, none, zi (.aconst_null) 188 0 0 0 (.int 0), zj (.laload) 189 0 0 0, zj (.lreturn) 190 0 0 0]
noncomputable def pp_231 : List (List Nat) := [[], [], [], [], [], [], [], [], [], [], [], [], [], [], [], [], [], [], [], [], [], [], [], [], [], [6083], [], [], [], [], [], [], [], [], [], [6096], [], [], [], [], [], [6084], [], [], [], [], [], [], [], [], [], [], [], [], [], [], [6083], [], [], [], [], [], [], [], [], [], [], [6096], [], [], [], [], [], [6095], [], [], [], [6084], [], [], [], [], [], [], [], [], [], [], [], [], [], [], [6083], [], [], [], [], [], [], [], [], [], [], [], [6096], [], [], [], [], [], [], [], [6096], [], [], [], [], [], [], [], [], [], [], [], [], [], [], [], [], [], [8133], [], [], [], [], [], [], [], [6096], [], [], [], [], [], [], [], [6083], [], [], [], [], [], [], [6096], [], [], [], [], [], [], [], [], [6096], [], [], [], [], [], [], [], [8136], [], [], [], [], [], [], [], [], [], [], [], [], [], [6096], [], [], [], [], []]
noncomputable def cd_232 : zK := [zi (.aconst_null) 1 0 0 0 (.int 0), zj (.istore 4) 3 4 0 0, none, zj (.iload 4) 5 4 0 0, none, zj (.aload 0) 6 0 0 0, zj (.getfield 0) 9 12 43 0, none, none, zj (.iload 1) 10 1 0 0, zj (.iaload) 11 0 0 0, zj (.if_icmp .ge 0) 14 107 0 0, none, none, zi (.aconst_null) 16 0 0 0 (.int 12), none, zj (.iload 1) 17 1 0 0, zj (.imul) 18 0 0 0, zj (.iload 4) 20 4 0 0, none, zj (.iadd) 21 0 0 0, zj (.istore 5) 23 5 0 0, none, zj (.aload 0) 24 0 0 0, zj (.getfield 0) 27 12 38 0, none, none, zj (.iload 5) 29 5 0 0, none, zj (.iaload) 30 0 0 0, zj (.iload 2) 31 2 0 0, zj (.if_icmp .ne 0) 34 49 0 0, none, none, zj (.aload 0) 35 0 0 0, zj (.getfield 0) 38 12 39 0, none, none, zj (.iload 5) 40 5 0 0, none, zj (.iaload) 41 0 0 0, zj (.iload 3) 42 3 0 0, zj (.if_icmp .ne 0) 45 49 0 0, none, none, zi (.aconst_null) 46 0 0 0 (.int 1), zj (.goto 0) 49 50 0 0, none, none, zi (.aconst_null) 50 0 0 0 (.int 0), zj (.istore 6) 52 6 0 0, none, zj (.iload 6) 54 6 0 0, none, zj (.ifCond .eq 0) 57 101 0 0, none, none, zj (.aload 0) 58 0 0 0, zj (.getfield 0) 61 12 41 0, none, none, zj (.iload 5) 63 5 0 0, none, zj (.iaload) 64 0 0 0, zj (.aload 0) 65 0 0 0, zj (.getfield 0) 68 12 42 0, none, none, zj (.iload 5) 70 5 0 0, none, zj (.iaload) 71 0 0 0, zj (.if_icmp .eq 0) 74 98 0 0, none, none, zj (.aload 0) 75 0 0 0, zj (.iload 1) 76 1 0 0, zj (.aload 0) 77 0 0 0, zj (.getfield 0) 80 12 41 0, none, none, zj (.iload 5) 82 5 0 0, none, zj (.iaload) 83 0 0 0, zj (.aload 0) 84 0 0 0, zj (.getfield 0) 87 12 42 0, none, none, zj (.iload 5) 89 5 0 0, none, zj (.iaload) 90 0 0 0, zj (.invokevirtual 0) 93 231 3 12, none, none, zi (.aconst_null) 94 0 0 0 (.long 0), zj (.lcmp) 95 0 0 0, zj (.ifCond .eq 0) 98 101 0 0, none, none, zj (.iload 5) 100 5 0 0, none, zj (.ireturn) 101 0 0 0, zi (.iinc 4 1) 104 4 0 0 (.int 1), none, none, zj (.goto 0) 107 3 0 0, none, none, zi (.aconst_null) 108 0 0 0 (.int (-1)), zj (.ireturn) 109 0 0 0]
noncomputable def pp_232 : List (List Nat) := [[], [], [], [], [], [], [6090], [], [], [], [], [], [], [], [], [], [], [], [], [], [], [], [], [], [6085], [], [], [], [], [], [], [], [], [], [], [6086], [], [], [], [], [], [], [], [], [], [], [], [], [], [], [], [], [], [], [], [], [], [], [6088], [], [], [], [], [], [], [6089], [], [], [], [], [], [], [], [], [], [], [], [6088], [], [], [], [], [], [], [6089], [], [], [], [], [], [8129], [], [], [], [], [], [], [], [], [], [], [], [], [], [], [], [], [], []]
noncomputable def cd_233 : zK := [zj (.aload 0) 1 0 0 0, zj (.iload 3) 2 3 0 0, zj (.invokevirtual 0) 5 226 1 12, none, none, zj (.istore 4) 7 4 0 0, none, zj (.iload 4) 9 4 0 0, none, zi (.aconst_null) 10 0 0 0 (.int (-1)), zj (.if_icmp .ne 0) 13 15 0 0, none, none, zi (.aconst_null) 14 0 0 0 (.int (-1)), zj (.ireturn) 15 0 0 0, zj (.aload 0) 16 0 0 0, zj (.iload 1) 17 1 0 0, zj (.iload 3) 18 3 0 0, zj (.iload 3) 19 3 0 0, zj (.invokevirtual 0) 22 228 3 12, none, none, zj (.aload 0) 23 0 0 0, zj (.iload 4) 25 4 0 0, none, zi (.aconst_null) 26 0 0 0 (.int 0), zj (.iload 2) 27 2 0 0, zj (.invokevirtual 0) 30 232 3 12, none, none, zj (.istore 5) 32 5 0 0, none, zj (.iload 5) 34 5 0 0, none, zi (.aconst_null) 35 0 0 0 (.int (-1)), zj (.if_icmp .ne 0) 38 40 0 0, none, none, zi (.aconst_null) 39 0 0 0 (.int (-1)), zj (.ireturn) 40 0 0 0, zj (.aload 0) 41 0 0 0, zj (.iload 4) 43 4 0 0, none, zj (.aload 0) 44 0 0 0, zj (.getfield 0) 47 12 40 0, none, none, zj (.iload 5) 49 5 0 0, none, zj (.iaload) 50 0 0 0, zj (.aload 0) 51 0 0 0, zj (.getfield 0) 54 12 41 0, none, none, zj (.iload 5) 56 5 0 0, none, zj (.iaload) 57 0 0 0, zj (.invokevirtual 0) 60 231 3 12, none, none, zj (.lstore 6) 62 6 0 0, none, zj (.lload 6) 64 6 0 0, none, zi (.aconst_null) 65 0 0 0 (.long 0), zj (.lcmp) 66 0 0 0, zj (.ifCond .ge 0) 69 73 0 0, none, none, zi (.aconst_null) 70 0 0 0 (.int 0), zj (.goto 0) 73 91 0 0, none, none, zj (.lload 6) 75 6 0 0, none, zi (.aconst_null) 78 0 0 0 (.long 200), none, none, zj (.lcmp) 79 0 0 0, zj (.ifCond .le 0) 82 88 0 0, none, none, zi (.aconst_null) 85 0 0 0 (.int 200), none, none, zj (.goto 0) 88 91 0 0, none, none, zj (.lload 6) 90 6 0 0, none, zj (.l2i) 91 0 0 0, zj (.ireturn) 92 0 0 0]
noncomputable def pp_233 : List (List Nat) := [[], [], [8105], [], [], [], [], [], [], [], [], [], [], [], [], [], [], [], [], [8121], [], [], [], [], [], [], [], [8125], [], [], [], [], [], [], [], [], [], [], [], [], [], [], [], [], [6087], [], [], [], [], [], [], [6088], [], [], [], [], [], [8129], [], [], [], [], [], [], [], [], [], [], [], [], [], [], [], [], [], [7184], [], [], [], [], [], [], [], [], [], [], [], [], [], [], [], []]
noncomputable def cd_234 : zK := [zj (.aload 0) 1 0 0 0, zj (.iload 1) 2 1 0 0, zj (.invokevirtual 0) 5 176 1 12, none, none, zj (.ifCond .eq 0) 8 26 0 0, none, none, zj (.iload 2) 9 2 0 0, zj (.invokestatic 0) 12 173 1 0, none, none, zj (.ifCond .eq 0) 15 26 0 0, none, none, zj (.iload 3) 16 3 0 0, zj (.invokestatic 0) 19 172 1 0, none, none, zj (.ifCond .eq 0) 22 26 0 0, none, none, zi (.aconst_null) 23 0 0 0 (.int 1), zj (.goto 0) 26 27 0 0, none, none, zi (.aconst_null) 27 0 0 0 (.int 0), zj (.ireturn) 28 0 0 0]
noncomputable def pp_234 : List (List Nat) := [[], [], [7133], [], [], [], [], [], [], [7114], [], [], [], [], [], [], [7141], [], [], [], [], [], [], [], [], [], [], []]
noncomputable def cd_235 : zK := [zj (.aload 0) 1 0 0 0, zj (.iload 1) 2 1 0 0, zj (.iload 2) 3 2 0 0, zj (.iload 3) 4 3 0 0, zj (.invokevirtual 0) 7 234 3 12, none, none, zj (.ifCond .eq 0) 10 20 0 0, none, none, zj (.aload 0) 11 0 0 0, zj (.iload 1) 12 1 0 0, zj (.iload 2) 13 2 0 0, zj (.iload 3) 14 3 0 0, zj (.invokevirtual 0) 17 233 3 12, none, none, zj (.goto 0) 20 22 0 0, none, none, zi (.aconst_null) 22 0 0 0 (.int (-2)), none, zj (.ireturn) 23 0 0 0]
noncomputable def pp_235 : List (List Nat) := [[], [], [], [], [8113], [], [], [], [], [], [], [], [], [], [8117], [], [], [], [], [], [], [], []]
noncomputable def cd_236 : zK := [zj (.aload 0) 1 0 0 0, zj (.iload 1) 2 1 0 0, zj (.iload 2) 3 2 0 0, zj (.iload 3) 4 3 0 0, zj (.invokevirtual 0) 7 234 3 12, none, none, zj (.ifCond .ne 0) 10 12 0 0, none, none, zi (.aconst_null) 11 0 0 0 (.int (-1)), zj (.ireturn) 12 0 0 0, zj (.aload 0) 13 0 0 0, zj (.iload 1) 14 1 0 0, zj (.iload 2) 15 2 0 0, zj (.iload 3) 16 3 0 0, zj (.invokevirtual 0) 19 233 3 12, none, none, zj (.istore 4) 21 4 0 0, none, zj (.iload 4) 23 4 0 0, none, zi (.aconst_null) 24 0 0 0 (.int (-1)), zj (.if_icmp .eq 0) 27 48 0 0, none, none, zj (.aload 0) 28 0 0 0, zj (.iload 1) 29 1 0 0, zj (.aload 0) 30 0 0 0, zj (.iload 1) 31 1 0 0, zj (.iload 3) 32 3 0 0, zj (.invokevirtual 0) 35 188 2 12, none, none, zj (.iload 2) 36 2 0 0, zj (.iload 4) 38 4 0 0, none, zj (.invokevirtual 0) 41 191 4 12, none, none, zj (.ifCond .eq 0) 44 48 0 0, none, none, zi (.aconst_null) 45 0 0 0 (.int 1), zj (.goto 0) 48 49 0 0, none, none, zi (.aconst_null) 49 0 0 0 (.int 0), zj (.ireturn) 50 0 0 0]
noncomputable def pp_236 : List (List Nat) := [[], [], [], [], [8113], [], [], [], [], [], [], [], [], [], [], [], [8117], [], [], [], [], [], [], [], [], [], [], [], [], [], [], [], [7176], [], [], [], [], [], [7197], [], [], [], [], [], [], [], [], [], [], []]
noncomputable def cd_237 : zK := [zj (.aload 0) 1 0 0 0, zj (.iload 1) 2 1 0 0, zj (.invokevirtual 0) 5 176 1 12, none, none, zj (.ifCond .eq 0) 8 15 0 0, none, none, zj (.iload 2) 9 2 0 0, zj (.invokestatic 0) 12 172 1 0, none, none, zj (.ifCond .ne 0) 15 17 0 0, none, none, zi (.aconst_null) 16 0 0 0 (.int (-1)), zj (.ireturn) 17 0 0 0, zj (.aload 0) 18 0 0 0, zj (.iload 2) 19 2 0 0, zj (.invokevirtual 0) 22 226 1 12, none, none, zj (.istore 3) 23 3 0 0, zj (.iload 3) 24 3 0 0, zi (.aconst_null) 25 0 0 0 (.int (-1)), zj (.if_icmp .ne 0) 28 30 0 0, none, none, zi (.aconst_null) 29 0 0 0 (.int 0), zj (.ireturn) 30 0 0 0, zj (.aload 0) 31 0 0 0, zj (.iload 1) 32 1 0 0, zj (.iload 2) 33 2 0 0, zi (.aconst_null) 34 0 0 0 (.int 0), zj (.invokevirtual 0) 37 228 3 12, none, none, zj (.aload 0) 38 0 0 0, zj (.iload 3) 39 3 0 0, zi (.aconst_null) 40 0 0 0 (.int 3), zi (.aconst_null) 41 0 0 0 (.int 0), zj (.invokevirtual 0) 44 232 3 12, none, none, zi (.aconst_null) 45 0 0 0 (.int (-1)), zj (.if_icmp .ne 0) 48 52 0 0, none, none, zi (.aconst_null) 49 0 0 0 (.int 0), zj (.goto 0) 52 53 0 0, none, none, zi (.aconst_null) 53 0 0 0 (.int 1), zj (.ireturn) 54 0 0 0]
noncomputable def pp_237 : List (List Nat) := [[], [], [7133], [], [], [], [], [], [], [7141], [], [], [], [], [], [], [], [], [], [8105], [], [], [], [], [], [], [], [], [], [], [], [], [], [], [8121], [], [], [], [], [], [], [8125], [], [], [], [], [], [], [], [], [], [], [], []]
noncomputable def cd_238 : zK := [zj (.aload 0) 1 0 0 0, zj (.getfield 0) 4 12 50 0, none, none, zi (.aconst_null) 7 0 0 0 (.int 200), none, none, zj (.if_icmp .eq 0) 10 37 0 0, none, none, zj (.aload 0) 11 0 0 0, zj (.iload 1) 12 1 0 0, zj (.invokevirtual 0) 15 176 1 12, none, none, zj (.ifCond .eq 0) 18 37 0 0, none, none, zj (.iload 2) 19 2 0 0, zj (.invokestatic 0) 22 173 1 0, none, none, zj (.ifCond .eq 0) 25 37 0 0, none, none, zj (.iload 3) 26 3 0 0, zj (.i2l) 27 0 0 0, zi (.aconst_null) 28 0 0 0 (.long 0), zi (.aconst_null) 31 0 0 0 (.long 200), none, none, zj (.invokestatic 0) 34 171 3 0, none, none, zj (.ifCond .ne 0) 37 39 0 0, none, none, zi (.aconst_null) 38 0 0 0 (.int (-1)), zj (.ireturn) 39 0 0 0, zj (.aload 0) 40 0 0 0, zj (.getfield 0) 43 12 52 0, none, none, zj (.aload 0) 44 0 0 0, zj (.getfield 0) 47 12 50 0, none, none, zj (.iload 1) 48 1 0 0, zj (.iastore) 49 0 0 0, zj (.aload 0) 50 0 0 0, zj (.getfield 0) 53 12 53 0, none, none, zj (.aload 0) 54 0 0 0, zj (.getfield 0) 57 12 50 0, none, none, zj (.iload 2) 58 2 0 0, zj (.iastore) 59 0 0 0, zj (.aload 0) 60 0 0 0, zj (.getfield 0) 63 12 54 0, none, none, zj (.aload 0) 64 0 0 0, zj (.getfield 0) 67 12 50 0, none, none, zj (.iload 3) 68 3 0 0, zj (.iastore) 69 0 0 0, zj (.aload 0) 70 0 0 0, zj (.getfield 0) 73 12 58 0, none, none, zj (.aload 0) 74 0 0 0, zj (.getfield 0) 77 12 50 0, none, none, zj (.iload 4) 79 4 0 0, none, zj (.bastore) 80 0 0 0, zj (.aload 0) 81 0 0 0, zj (.dup) 82 0 0 0, zj (.getfield 0) 85 12 50 0, none, none, zi (.aconst_null) 86 0 0 0 (.int 1), zj (.iadd) 87 0 0 0, zj (.putfield 0) 90 12 50 0, none, none, zj (.aload 0) 91 0 0 0, zj (.getfield 0) 94 12 50 0, none, none, zi (.aconst_null) 95 0 0 0 (.int 1), zj (.isub) 96 0 0 0, zj (.ireturn) 97 0 0 0]
noncomputable def pp_238 : List (List Nat) := [[], [6097], [], [], [], [], [], [], [], [], [], [], [7133], [], [], [], [], [], [], [7114], [], [], [], [], [], [], [], [], [7184], [], [], [7101], [], [], [], [], [], [], [], [], [6099], [], [], [], [6097], [], [], [], [], [], [6100], [], [], [], [6097], [], [], [], [], [], [6101], [], [], [], [6097], [], [], [], [], [], [6105], [], [], [], [6097], [], [], [], [], [], [], [], [6097], [], [], [], [], [6097], [], [], [], [6097], [], [], [], [], []]
noncomputable def cd_239 : zK := [zi (.aconst_null) 1 0 0 0 (.int 0), zj (.istore 3) 2 3 0 0, zi (.aconst_null) 3 0 0 0 (.int 0), zj (.istore 4) 5 4 0 0, none, zj (.iload 4) 7 4 0 0, none, zj (.aload 0) 8 0 0 0, zj (.getfield 0) 11 12 51 0, none, none, zj (.if_icmp .ge 0) 14 52 0 0, none, none, zj (.iload 3) 15 3 0 0, zj (.ifCond .ne 0) 18 40 0 0, none, none, zj (.aload 0) 19 0 0 0, zj (.getfield 0) 22 12 55 0, none, none, zj (.iload 4) 24 4 0 0, none, zj (.iaload) 25 0 0 0, zj (.iload 1) 26 1 0 0, zj (.if_icmp .ne 0) 29 44 0 0, none, none, zj (.aload 0) 30 0 0 0, zj (.getfield 0) 33 12 56 0, none, none, zj (.iload 4) 35 4 0 0, none, zj (.iaload) 36 0 0 0, zj (.iload 2) 37 2 0 0, zj (.if_icmp .ne 0) 40 44 0 0, none, none, zi (.aconst_null) 41 0 0 0 (.int 1), zj (.goto 0) 44 45 0 0, none, none, zi (.aconst_null) 45 0 0 0 (.int 0), zj (.istore 3) 46 3 0 0, zi (.iinc 4 1) 49 4 0 0 (.int 1), none, none, zj (.goto 0) 52 5 0 0, none, none, zj (.iload 3) 53 3 0 0, zj (.ifCond .ne 0) 56 90 0 0, none, none, zj (.aload 0) 57 0 0 0, zj (.getfield 0) 60 12 51 0, none, none, zi (.aconst_null) 63 0 0 0 (.int 600), none, none, zj (.if_icmp .eq 0) 66 90 0 0, none, none, zj (.iload 1) 67 1 0 0, zj (.i2l) 68 0 0 0, zi (.aconst_null) 69 0 0 0 (.long 0), zj (.aload 0) 70 0 0 0, zj (.getfield 0) 73 12 50 0, none, none, zi (.aconst_null) 74 0 0 0 (.int 1), zj (.isub) 75 0 0 0, zj (.i2l) 76 0 0 0, zj (.invokestatic 0) 79 171 3 0, none, none, zj (.ifCond .eq 0) 82 90 0 0, none, none, zj (.aload 0) 83 0 0 0, zj (.iload 2) 84 2 0 0, zj (.invokevirtual 0) 87 175 1 12, none, none, zj (.ifCond .ne 0) 90 92 0 0, none, none, zi (.aconst_null) 91 0 0 0 (.int 0), zj (.ireturn) 92 0 0 0, zj (.aload 0) 93 0 0 0, zj (.getfield 0) 96 12 55 0, none, none, zj (.aload 0) 97 0 0 0, zj (.getfield 0) 100 12 51 0, none, none, zj (.iload 1) 101 1 0 0, zj (.iastore) 102 0 0 0, zj (.aload 0) 103 0 0 0, zj (.getfield 0) 106 12 56 0, none, none, zj (.aload 0) 107 0 0 0, zj (.getfield 0) 110 12 51 0, none, none, zj (.iload 2) 111 2 0 0, zj (.iastore) 112 0 0 0, zj (.aload 0) 113 0 0 0, zj (.getfield 0) 116 12 57 0, none, none, zj (.aload 0) 117 0 0 0, zj (.getfield 0) 120 12 51 0, none, none, zj (.aload 0) 121 0 0 0, zj (.getfield 0) 124 12 1 0, none, none, zj (.iastore) 125 0 0 0, zj (.aload 0) 126 0 0 0, zj (.dup) 127 0 0 0, zj (.getfield 0) 130 12 51 0, none, none, zi (.aconst_null) 131 0 0 0 (.int 1), zj (.iadd) 132 0 0 0, zj (.putfield 0) 135 12 51 0, none, none, zi (.aconst_null) 136 0 0 0 (.int 1), zj (.ireturn) 137 0 0 0]
noncomputable def pp_239 : List (List Nat) := [[], [], [], [], [], [], [], [], [6098], [], [], [], [], [], [], [], [], [], [], [6102], [], [], [], [], [], [], [], [], [], [], [6103], [], [], [], [], [], [], [], [], [], [], [], [], [], [], [], [], [], [], [], [], [], [], [], [], [], [], [6098], [], [], [], [], [], [], [], [], [], [], [], [], [6097], [], [], [], [], [], [7101], [], [], [], [], [], [], [], [7148], [], [], [], [], [], [], [], [], [6102], [], [], [], [6098], [], [], [], [], [], [6103], [], [], [], [6098], [], [], [], [], [], [6104], [], [], [], [6098], [], [], [], [6048], [], [], [], [], [], [6098], [], [], [], [], [6098], [], [], [], []]
noncomputable def cd_240 : zK := [zi (.aconst_null) 1 0 0 0 (.int (-1)), zj (.istore 6) 3 6 0 0, none, zi (.aconst_null) 4 0 0 0 (.int 0), zj (.istore 7) 6 7 0 0, none, zj (.iload 7) 8 7 0 0, none, zj (.aload 0) 9 0 0 0, zj (.getfield 0) 12 12 51 0, none, none, zj (.if_icmp .ge 0) 15 151 0 0, none, none, zj (.aload 0) 16 0 0 0, zj (.getfield 0) 19 12 55 0, none, none, zj (.iload 7) 21 7 0 0, none, zj (.iaload) 22 0 0 0, zj (.istore 8) 24 8 0 0, none, zj (.aload 0) 25 0 0 0, zj (.getfield 0) 28 12 56 0, none, none, zj (.iload 7) 30 7 0 0, none, zj (.iaload) 31 0 0 0, zj (.iload 1) 32 1 0 0, zj (.if_icmp .ne 0) 35 85 0 0, none, none, zj (.aload 0) 36 0 0 0, zj (.getfield 0) 39 12 57 0, none, none, zj (.iload 7) 41 7 0 0, none, zj (.iaload) 42 0 0 0, zj (.iload 4) 44 4 0 0, none, zj (.if_icmp .gt 0) 47 85 0 0, none, none, zj (.aload 0) 48 0 0 0, zj (.getfield 0) 51 12 52 0, none, none, zj (.iload 8) 53 8 0 0, none, zj (.iaload) 54 0 0 0, zj (.iload 2) 55 2 0 0, zj (.if_icmp .ne 0) 58 85 0 0, none, none, zj (.aload 0) 59 0 0 0, zj (.getfield 0) 62 12 53 0, none, none, zj (.iload 8) 64 8 0 0, none, zj (.iaload) 65 0 0 0, zj (.iload 3) 66 3 0 0, zj (.if_icmp .ne 0) 69 85 0 0, none, none, zj (.aload 0) 70 0 0 0, zj (.getfield 0) 73 12 58 0, none, none, zj (.iload 8) 75 8 0 0, none, zj (.baload) 76 0 0 0, zj (.iload 5) 78 5 0 0, none, zj (.if_icmp .ne 0) 81 85 0 0, none, none, zi (.aconst_null) 82 0 0 0 (.int 1), zj (.goto 0) 85 86 0 0, none, none, zi (.aconst_null) 86 0 0 0 (.int 0), zj (.istore 9) 88 9 0 0, none, zj (.iload 9) 90 9 0 0, none, zj (.ifCond .eq 0) 93 141 0 0, none, none, zj (.iload 6) 95 6 0 0, none, zi (.aconst_null) 96 0 0 0 (.int (-1)), zj (.if_icmp .eq 0) 99 131 0 0, none, none, zj (.iload 5) 101 5 0 0, none, zj (.ifCond .eq 0) 104 119 0 0, none, none, zj (.aload 0) 105 0 0 0, zj (.getfield 0) 108 12 54 0, none, none, zj (.iload 8) 110 8 0 0, none, zj (.iaload) 111 0 0 0, zj (.iload 6) 113 6 0 0, none, zj (.if_icmp .ge 0) 116 141 0 0, none, none, zj (.goto 0) 119 131 0 0, none, none, zj (.aload 0) 120 0 0 0, zj (.getfield 0) 123 12 54 0, none, none, zj (.iload 8) 125 8 0 0, none, zj (.iaload) 126 0 0 0, zj (.iload 6) 128 6 0 0, none, zj (.if_icmp .le 0) 131 141 0 0, none, none, zj (.aload 0) 132 0 0 0, zj (.getfield 0) 135 12 54 0, none, none, zj (.iload 8) 137 8 0 0, none, zj (.iaload) 138 0 0 0, zj (.goto 0) 141 143 0 0, none, none, zj (.iload 6) 143 6 0 0, none, zj (.istore 6) 145 6 0 0, none, zi (.iinc 7 1) 148 7 0 0 (.int 1), none, none, zj (.goto 0) 151 6 0 0, none, none, zj (.iload 6) 153 6 0 0, none, zj (.ireturn) 154 0 0 0]
noncomputable def pp_240 : List (List Nat) := [[], [], [], [], [], [], [], [], [], [6098], [], [], [], [], [], [], [6102], [], [], [], [], [], [], [], [], [6103], [], [], [], [], [], [], [], [], [], [], [6104], [], [], [], [], [], [], [], [], [], [], [], [6099], [], [], [], [], [], [], [], [], [], [], [6100], [], [], [], [], [], [], [], [], [], [], [6105], [], [], [], [], [], [], [], [], [], [], [], [], [], [], [], [], [], [], [], [], [], [], [], [], [], [], [], [], [], [], [], [], [], [], [6101], [], [], [], [], [], [], [], [], [], [], [], [], [], [], [6101], [], [], [], [], [], [], [], [], [], [], [], [6101], [], [], [], [], [], [], [], [], [], [], [], [], [], [], [], [], [], [], [], [], []]
noncomputable def cd_241 : zK := [zj (.aload 0) 1 0 0 0, zj (.iload 1) 2 1 0 0, zj (.invokevirtual 0) 5 175 1 12, none, none, zj (.ifCond .eq 0) 8 52 0 0, none, none, zj (.aload 0) 9 0 0 0, zj (.iload 2) 10 2 0 0, zj (.iload 3) 11 3 0 0, zj (.iload 4) 13 4 0 0, none, zj (.invokevirtual 0) 16 234 3 12, none, none, zj (.ifCond .eq 0) 19 52 0 0, none, none, zj (.iload 5) 21 5 0 0, none, zj (.i2l) 22 0 0 0, zi (.aconst_null) 23 0 0 0 (.long 0), zi (.aconst_null) 24 0 0 0 (.long 1), zj (.invokestatic 0) 27 171 3 0, none, none, zj (.ifCond .eq 0) 30 52 0 0, none, none, zj (.aload 0) 31 0 0 0, zj (.iload 1) 32 1 0 0, zj (.iload 2) 33 2 0 0, zj (.iload 3) 34 3 0 0, zj (.iload 4) 36 4 0 0, none, zj (.iload 5) 38 5 0 0, none, zj (.ifCond .ne 0) 41 45 0 0, none, none, zi (.aconst_null) 42 0 0 0 (.int 1), zj (.goto 0) 45 46 0 0, none, none, zi (.aconst_null) 46 0 0 0 (.int 0), zj (.invokevirtual 0) 49 240 5 12, none, none, zj (.goto 0) 52 54 0 0, none, none, zi (.aconst_null) 54 0 0 0 (.int (-2)), none, zj (.ireturn) 55 0 0 0]
noncomputable def pp_241 : List (List Nat) := [[], [], [7148], [], [], [], [], [], [], [], [], [], [], [8113], [], [], [], [], [], [], [], [], [], [], [7101], [], [], [], [], [], [], [], [], [], [], [], [], [], [], [], [], [], [], [], [], [], [8159], [], [], [], [], [], [], [], []]
noncomputable def cd_242 : zK := [zi (.aconst_null) 1 0 0 0 (.int 0), zj (.istore 4) 3 4 0 0, none, zj (.iload 4) 5 4 0 0, none, zj (.aload 0) 6 0 0 0, zj (.getfield 0) 9 12 1 0, none, none, zj (.if_icmp .gt 0) 12 52 0 0, none, none, zj (.aload 0) 13 0 0 0, zj (.iload 1) 14 1 0 0, zj (.iload 2) 15 2 0 0, zj (.iload 3) 16 3 0 0, zj (.iload 4) 18 4 0 0, none, zi (.aconst_null) 19 0 0 0 (.int 1), zj (.invokevirtual 0) 22 240 5 12, none, none, zj (.istore 5) 24 5 0 0, none, zj (.iload 5) 26 5 0 0, none, zi (.aconst_null) 27 0 0 0 (.int (-1)), zj (.if_icmp .eq 0) 30 46 0 0, none, none, zj (.iload 5) 32 5 0 0, none, zj (.aload 0) 33 0 0 0, zj (.iload 2) 34 2 0 0, zj (.iload 3) 35 3 0 0, zj (.iload 4) 37 4 0 0, none, zj (.invokevirtual 0) 40 233 3 12, none, none, zj (.if_icmp .gt 0) 43 46 0 0, none, none, zj (.iload 4) 45 4 0 0, none, zj (.ireturn) 46 0 0 0, zi (.iinc 4 1) 49 4 0 0 (.int 1), none, none, zj (.goto 0) 52 3 0 0, none, none, zi (.aconst_null) 53 0 0 0 (.int (-1)), zj (.ireturn) 54 0 0 0]
noncomputable def pp_242 : List (List Nat) := [[], [], [], [], [], [], [6048], [], [], [], [], [], [], [], [], [], [], [], [], [8159], [], [], [], [], [], [], [], [], [], [], [], [], [], [], [], [], [], [8117], [], [], [], [], [], [], [], [], [], [], [], [], [], [], [], []]
noncomputable def cd_243 : zK := [zj (.aload 0) 1 0 0 0, zj (.iload 1) 2 1 0 0, zj (.invokevirtual 0) 5 175 1 12, none, none, zj (.ifCond .eq 0) 8 33 0 0, none, none, zj (.aload 0) 9 0 0 0, zj (.iload 2) 10 2 0 0, zj (.invokevirtual 0) 13 176 1 12, none, none, zj (.ifCond .eq 0) 16 33 0 0, none, none, zj (.iload 3) 17 3 0 0, zj (.invokestatic 0) 20 173 1 0, none, none, zj (.ifCond .eq 0) 23 33 0 0, none, none, zj (.aload 0) 24 0 0 0, zj (.iload 1) 25 1 0 0, zj (.iload 2) 26 2 0 0, zj (.iload 3) 27 3 0 0, zj (.invokevirtual 0) 30 242 3 12, none, none, zj (.goto 0) 33 35 0 0, none, none, zi (.aconst_null) 35 0 0 0 (.int (-2)), none, zj (.ireturn) 36 0 0 0]
noncomputable def pp_243 : List (List Nat) := [[], [], [7148], [], [], [], [], [], [], [], [7133], [], [], [], [], [], [], [7114], [], [], [], [], [], [], [], [], [], [8167], [], [], [], [], [], [], [], []]
noncomputable def cd_244 : zK := [zj (.aload 0) 1 0 0 0, zj (.getfield 0) 4 12 59 0, none, none, zi (.aconst_null) 7 0 0 0 (.int 200), none, none, zj (.if_icmp .eq 0) 10 80 0 0, none, none, zj (.aload 0) 11 0 0 0, zj (.iload 1) 12 1 0 0, zj (.invokevirtual 0) 15 178 1 12, none, none, zj (.ifCond .eq 0) 18 80 0 0, none, none, zj (.aload 0) 19 0 0 0, zj (.getfield 0) 22 12 15 0, none, none, zj (.iload 1) 23 1 0 0, zj (.baload) 24 0 0 0, zj (.ifCond .ne 0) 27 80 0 0, none, none, zj (.iload 2) 28 2 0 0, zj (.i2l) 29 0 0 0, zj (.aload 0) 30 0 0 0, zj (.getfield 0) 33 12 22 0, none, none, zj (.iload 1) 34 1 0 0, zj (.iaload) 35 0 0 0, zj (.i2l) 36 0 0 0, zj (.aload 0) 37 0 0 0, zj (.getfield 0) 40 12 1 0, none, none, zj (.i2l) 41 0 0 0, zj (.invokestatic 0) 44 171 3 0, none, none, zj (.ifCond .eq 0) 47 80 0 0, none, none, zj (.iload 3) 48 3 0 0, zj (.invokestatic 0) 51 173 1 0, none, none, zj (.ifCond .eq 0) 54 80 0 0, none, none, zj (.iload 4) 56 4 0 0, none, zj (.i2l) 57 0 0 0, zi (.aconst_null) 58 0 0 0 (.long 0), zi (.aconst_null) 61 0 0 0 (.long 200), none, none, zj (.invokestatic 0) 64 171 3 0, none, none, zj (.ifCond .eq 0) 67 80 0 0, none, none, zj (.iload 5) 69 5 0 0, none, zj (.i2l) 70 0 0 0, zi (.aconst_null) 71 0 0 0 (.long 0), zi (.aconst_null) 74 0 0 0 (.long 9), none, none, zj (.invokestatic 0) 77 171 3 0, none, none, zj (.ifCond .ne 0) 80 82 0 0, none, none, zi (.aconst_null) 81 0 0 0 (.int (-1)), zj (.ireturn) 82 0 0 0, zj (.aload 0) 83 0 0 0, zj (.getfield 0) 86 12 60 0, none, none, zj (.aload 0) 87 0 0 0, zj (.getfield 0) 90 12 59 0, none, none, zj (.iload 1) 91 1 0 0, zj (.iastore) 92 0 0 0, zj (.aload 0) 93 0 0 0, zj (.getfield 0) 96 12 61 0, none, none, zj (.aload 0) 97 0 0 0, zj (.getfield 0) 100 12 59 0, none, none, zj (.iload 2) 101 2 0 0, zj (.iastore) 102 0 0 0, zj (.aload 0) 103 0 0 0, zj (.getfield 0) 106 12 62 0, none, none, zj (.aload 0) 107 0 0 0, zj (.getfield 0) 110 12 59 0, none, none, zj (.iload 3) 111 3 0 0, zj (.iastore) 112 0 0 0, zj (.aload 0) 113 0 0 0, zj (.getfield 0) 116 12 63 0, none, none, zj (.aload 0) 117 0 0 0, zj (.getfield 0) 120 12 59 0, none, none, zj (.iload 4) 122 4 0 0, none, zj (.iastore) 123 0 0 0, zj (.aload 0) 124 0 0 0, zj (.getfield 0) 127 12 64 0, none, none, zj (.aload 0) 128 0 0 0, zj (.getfield 0) 131 12 59 0, none, none, zj (.iload 5) 133 5 0 0, none, zj (.iastore) 134 0 0 0, zj (.aload 0) 135 0 0 0, zj (.getfield 0) 138 12 65 0, none, none, zj (.aload 0) 139 0 0 0, zj (.getfield 0) 142 12 59 0, none, none, zj (.aload 0) 143 0 0 0, zj (.getfield 0) 146 12 1 0, none, none, zj (.iastore) 147 0 0 0, zj (.aload 0) 148 0 0 0, zj (.getfield 0) 151 12 66 0, none, none, zj (.aload 0) 152 0 0 0, zj (.getfield 0) 155 12 59 0, none, none, zj (.iload 6) 157 6 0 0, none, zj (.bastore) 158 0 0 0, zj (.aload 0) 159 0 0 0, zj (.getfield 0) 162 12 22 0, none, none, zj (.iload 1) 163 1 0 0, zj (.iload 2) 164 2 0 0, zj (.iastore) 165 0 0 0, zj (.aload 0) 166 0 0 0, zj (.getfield 0) 169 12 15 0, none, none, zj (.iload 1) 170 1 0 0, zj (.iload 7) 172 7 0 0, none, zj (.bastore) 173 0 0 0, zj (.aload 0) 174 0 0 0, zj (.dup) 175 0 0 0, zj (.getfield 0) 178 12 59 0, none, none, zi (.aconst_null) 179 0 0 0 (.int 1), zj (.iadd) 180 0 0 0, zj (.putfield 0) 183 12 59 0, none, none, zj (.aload 0) 184 0 0 0, zj (.getfield 0) 187 12 59 0, none, none, zi (.aconst_null) 188 0 0 0 (.int 1), zj (.isub) 189 0 0 0, zj (.ireturn) 190 0 0 0]
noncomputable def pp_244 : List (List Nat) := [[], [6106], [], [], [], [], [], [], [], [], [], [], [7156], [], [], [], [], [], [], [6062], [], [], [], [], [], [], [], [], [], [], [6069], [], [], [], [], [], [], [6048], [], [], [], [7101], [], [], [], [], [], [], [7114], [], [], [], [], [], [], [], [], [], [7184], [], [], [7101], [], [], [], [], [], [], [], [], [], [8175], [], [], [7101], [], [], [], [], [], [], [], [], [6107], [], [], [], [6106], [], [], [], [], [], [6108], [], [], [], [6106], [], [], [], [], [], [6109], [], [], [], [6106], [], [], [], [], [], [6110], [], [], [], [6106], [], [], [], [], [], [], [6111], [], [], [], [6106], [], [], [], [], [], [], [6112], [], [], [], [6106], [], [], [], [6048], [], [], [], [], [6113], [], [], [], [6106], [], [], [], [], [], [], [6069], [], [], [], [], [], [], [6062], [], [], [], [], [], [], [], [], [6106], [], [], [], [], [6106], [], [], [], [6106], [], [], [], [], []]
noncomputable def cd_245 : zK := [zj (.iload 1) 1 1 0 0, zj (.i2l) 2 0 0 0, zi (.aconst_null) 3 0 0 0 (.long 0), zj (.aload 0) 4 0 0 0, zj (.getfield 0) 7 12 59 0, none, none, zi (.aconst_null) 8 0 0 0 (.int 1), zj (.isub) 9 0 0 0, zj (.i2l) 10 0 0 0, zj (.invokestatic 0) 13 171 3 0, none, none, zj (.ifCond .ne 0) 16 18 0 0, none, none, zi (.aconst_null) 17 0 0 0 (.int (-1)), zj (.ireturn) 18 0 0 0, zj (.aload 0) 19 0 0 0, zj (.aload 0) 20 0 0 0, zj (.getfield 0) 23 12 60 0, none, none, zj (.iload 1) 24 1 0 0, zj (.iaload) 25 0 0 0, zj (.aload 0) 26 0 0 0, zj (.getfield 0) 29 12 61 0, none, none, zj (.iload 1) 30 1 0 0, zj (.iaload) 31 0 0 0, zj (.aload 0) 32 0 0 0, zj (.getfield 0) 35 12 62 0, none, none, zj (.iload 1) 36 1 0 0, zj (.iaload) 37 0 0 0, zj (.aload 0) 38 0 0 0, zj (.getfield 0) 41 12 63 0, none, none, zj (.iload 1) 42 1 0 0, zj (.iaload) 43 0 0 0, zi (.aconst_null) 44 0 0 0 (.int (-1)), zj (.invokevirtual 0) 47 194 5 12, none, none, zj (.aload 0) 48 0 0 0, zj (.getfield 0) 51 12 66 0, none, none, zj (.iload 1) 52 1 0 0, zj (.baload) 53 0 0 0, zj (.if_icmp .ne 0) 56 60 0 0, none, none, zi (.aconst_null) 57 0 0 0 (.int 0), zj (.goto 0) 60 61 0 0, none, none, zi (.aconst_null) 61 0 0 0 (.int 1), zj (.ireturn) 62 0 0 0]
noncomputable def pp_245 : List (List Nat) := [[], [], [], [], [6106], [], [], [], [], [], [7101], [], [], [], [], [], [], [], [], [], [6107], [], [], [], [], [], [6108], [], [], [], [], [], [6109], [], [], [], [], [], [6110], [], [], [], [], [], [7193], [], [], [], [6113], [], [], [], [], [], [], [], [], [], [], [], [], []]
noncomputable def cd_246 : zK := [zj (.lload 0) 1 0 0 0, zj (.lstore 4) 3 4 0 0, none, zj (.lload 2) 4 2 0 0, zj (.lstore 6) 6 6 0 0, none, zj (.lload 6) 8 6 0 0, none, zi (.aconst_null) 9 0 0 0 (.long 0), zj (.lcmp) 10 0 0 0, zj (.ifCond .eq 0) 13 31 0 0, none, none, zj (.lload 4) 15 4 0 0, none, zj (.lload 6) 17 6 0 0, none, zj (.lrem) 18 0 0 0, zj (.lstore 8) 20 8 0 0, none, zj (.lload 6) 22 6 0 0, none, zj (.lstore 4) 24 4 0 0, none, zj (.lload 8) 26 8 0 0, none, zj (.lstore 6) 28 6 0 0, none, zj (.goto 0) 31 6 0 0, none, none, zj (.lload 4) 33 4 0 0, none, zj (.lreturn) 34 0 0 0]
noncomputable def pp_246 : List (List Nat) := [[], [], [], [], [], [], [], [], [], [], [], [], [], [], [], [], [], [], [], [], [], [], [], [], [], [], [], [], [], [], [], [], [], []]
noncomputable def cd_247 : zK := [zj (.aload 0) 1 0 0 0, zj (.iload 1) 2 1 0 0, zj (.invokevirtual 0) 5 176 1 12, none, none, zj (.ifCond .eq 0) 8 27 0 0, none, none, zj (.iload 2) 9 2 0 0, zj (.invokestatic 0) 12 172 1 0, none, none, zj (.ifCond .eq 0) 15 27 0 0, none, none, zj (.iload 3) 16 3 0 0, zj (.i2l) 17 0 0 0, zi (.aconst_null) 18 0 0 0 (.long 0), zi (.aconst_null) 21 0 0 0 (.long 3), none, none, zj (.invokestatic 0) 24 171 3 0, none, none, zj (.ifCond .ne 0) 27 31 0 0, none, none, zi (.aconst_null) 30 0 0 0 (.long (-1)), none, none, zj (.lreturn) 31 0 0 0, zi (.aconst_null) 32 0 0 0 (.int 0), zj (.istore 4) 34 4 0 0, none, zj (.iload 4) 36 4 0 0, none, zi (.aconst_null) 38 0 0 0 (.int 9), none, zj (.if_icmp .ge 0) 41 79 0 0, none, none, zj (.aload 0) 42 0 0 0, zj (.getfield 0) 45 12 67 0, none, none, zj (.iload 4) 47 4 0 0, none, zi (.aconst_null) 48 0 0 0 (.int 0), zj (.iastore) 49 0 0 0, zj (.aload 0) 50 0 0 0, zj (.getfield 0) 53 12 68 0, none, none, zj (.iload 4) 55 4 0 0, none, zi (.aconst_null) 56 0 0 0 (.int 0), zj (.iastore) 57 0 0 0, zj (.aload 0) 58 0 0 0, zj (.getfield 0) 61 12 69 0, none, none, zj (.iload 4) 63 4 0 0, none, zi (.aconst_null) 64 0 0 0 (.int 0), zj (.iastore) 65 0 0 0, zj (.aload 0) 66 0 0 0, zj (.getfield 0) 69 12 70 0, none, none, zj (.iload 4) 71 4 0 0, none, zi (.aconst_null) 72 0 0 0 (.int 0), zj (.iastore) 73 0 0 0, zi (.iinc 4 1) 76 4 0 0 (.int 1), none, none, zj (.goto 0) 79 34 0 0, none, none, zi (.aconst_null) 80 0 0 0 (.int 0), zj (.istore 4) 82 4 0 0, none, zj (.iload 4) 84 4 0 0, none, zj (.aload 0) 85 0 0 0, zj (.getfield 0) 88 12 59 0, none, none, zj (.if_icmp .ge 0) 91 275 0 0, none, none, zj (.aload 0) 92 0 0 0, zj (.getfield 0) 95 12 65 0, none, none, zj (.iload 4) 97 4 0 0, none, zj (.iaload) 98 0 0 0, zj (.iload 2) 99 2 0 0, zj (.if_icmp .gt 0) 102 269 0 0, none, none, zi (.aconst_null) 103 0 0 0 (.int 3), zj (.aload 0) 104 0 0 0, zj (.getfield 0) 107 12 62 0, none, none, zj (.iload 4) 109 4 0 0, none, zj (.iaload) 110 0 0 0, zj (.imul) 111 0 0 0, zj (.aload 0) 112 0 0 0, zj (.getfield 0) 115 12 63 0, none, none, zj (.iload 4) 117 4 0 0, none, zj (.iaload) 118 0 0 0, zi (.aconst_null) 120 0 0 0 (.int 50), none, zj (.if_icmp .ge 0) 123 127 0 0, none, none, zi (.aconst_null) 124 0 0 0 (.int 0), zj (.goto 0) 127 144 0 0, none, none, zj (.aload 0) 128 0 0 0, zj (.getfield 0) 131 12 63 0, none, none, zj (.iload 4) 133 4 0 0, none, zj (.iaload) 134 0 0 0, zi (.aconst_null) 136 0 0 0 (.int 100), none, zj (.if_icmp .ge 0) 139 143 0 0, none, none, zi (.aconst_null) 140 0 0 0 (.int 1), zj (.goto 0) 143 144 0 0, none, none, zi (.aconst_null) 144 0 0 0 (.int 2), zj (.iadd) 145 0 0 0, zj (.istore 5) 147 5 0 0, none, zj (.aload 0) 148 0 0 0, zj (.getfield 0) 151 12 16 0, none, none, zj (.aload 0) 152 0 0 0, zj (.getfield 0) 155 12 60 0, none, none, zj (.iload 4) 157 4 0 0, none, zj (.iaload) 158 0 0 0, zj (.iaload) 159 0 0 0, zj (.iload 1) 160 1 0 0, zj (.if_icmp .ne 0) 163 167 0 0, none, none, zi (.aconst_null) 164 0 0 0 (.int 1), zj (.goto 0) 167 168 0 0, none, none, zi (.aconst_null) 168 0 0 0 (.int 0), zj (.istore 6) 170 6 0 0, none, zj (.aload 0) 171 0 0 0, zj (.getfield 0) 174 12 66 0, none, none, zj (.iload 4) 176 4 0 0, none, zj (.baload) 177 0 0 0, zj (.ifCond .eq 0) 180 184 0 0, none, none, zi (.aconst_null) 181 0 0 0 (.int 1), zj (.goto 0) 184 185 0 0, none, none, zi (.aconst_null) 185 0 0 0 (.int 0), zj (.istore 7) 187 7 0 0, none, zj (.aload 0) 188 0 0 0, zj (.getfield 0) 191 12 67 0, none, none, zj (.iload 5) 193 5 0 0, none, zj (.dup2) 194 0 0 0, zj (.iaload) 195 0 0 0, zj (.iload 6) 197 6 0 0, none, zj (.ifCond .eq 0) 200 204 0 0, none, none, zi (.aconst_null) 201 0 0 0 (.int 1), zj (.goto 0) 204 205 0 0, none, none, zi (.aconst_null) 205 0 0 0 (.int 0), zj (.iadd) 206 0 0 0, zj (.iastore) 207 0 0 0, zj (.aload 0) 208 0 0 0, zj (.getfield 0) 211 12 68 0, none, none, zj (.iload 5) 213 5 0 0, none, zj (.dup2) 214 0 0 0, zj (.iaload) 215 0 0 0, zj (.iload 6) 217 6 0 0, none, zj (.ifCond .eq 0) 220 225 0 0, none, none, zj (.iload 7) 222 7 0 0, none, zj (.goto 0) 225 226 0 0, none, none, zi (.aconst_null) 226 0 0 0 (.int 0), zj (.iadd) 227 0 0 0, zj (.iastore) 228 0 0 0, zj (.aload 0) 229 0 0 0, zj (.getfield 0) 232 12 69 0, none, none, zj (.iload 5) 234 5 0 0, none, zj (.dup2) 235 0 0 0, zj (.iaload) 236 0 0 0, zj (.iload 6) 238 6 0 0, none, zj (.ifCond .eq 0) 241 245 0 0, none, none, zi (.aconst_null) 242 0 0 0 (.int 0), zj (.goto 0) 245 246 0 0, none, none, zi (.aconst_null) 246 0 0 0 (.int 1), zj (.iadd) 247 0 0 0, zj (.iastore) 248 0 0 0, zj (.aload 0) 249 0 0 0, zj (.getfield 0) 252 12 70 0, none, none, zj (.iload 5) 254 5 0 0, none, zj (.dup2) 255 0 0 0, zj (.iaload) 256 0 0 0, zj (.iload 6) 258 6 0 0, none, zj (.ifCond .eq 0) 261 265 0 0, none, none, zi (.aconst_null) 262 0 0 0 (.int 0), zj (.goto 0) 265 267 0 0, none, none, zj (.iload 7) 267 7 0 0, none, zj (.iadd) 268 0 0 0, zj (.iastore) 269 0 0 0, zi (.iinc 4 1) 272 4 0 0 (.int 1), none, none, zj (.goto 0) 275 82 0 0, none, none, zi (.aconst_null) 276 0 0 0 (.long 0), zj (.lstore 4) 278 4 0 0, none, zi (.aconst_null) 279 0 0 0 (.long 1), zj (.lstore 6) 281 6 0 0, none, zi (.aconst_null) 282 0 0 0 (.long 0), zj (.lstore 8) 284 8 0 0, none, zi (.aconst_null) 285 0 0 0 (.long 0), zj (.lstore 10) 287 10 0 0, none, zi (.aconst_null) 288 0 0 0 (.int 0), zj (.istore 12) 290 12 0 0, none, zj (.iload 12) 292 12 0 0, none, zi (.aconst_null) 294 0 0 0 (.int 9), none, zj (.if_icmp .ge 0) 297 409 0 0, none, none, zj (.aload 0) 298 0 0 0, zj (.getfield 0) 301 12 69 0, none, none, zj (.iload 12) 303 12 0 0, none, zj (.iaload) 304 0 0 0, zj (.ifCond .le 0) 307 403 0 0, none, none, zj (.lload 8) 309 8 0 0, none, zj (.aload 0) 310 0 0 0, zj (.getfield 0) 313 12 68 0, none, none, zj (.iload 12) 315 12 0 0, none, zj (.iaload) 316 0 0 0, zj (.i2l) 317 0 0 0, zj (.ladd) 318 0 0 0, zj (.lstore 8) 320 8 0 0, none, zj (.lload 10) 322 10 0 0, none, zj (.aload 0) 323 0 0 0, zj (.getfield 0) 326 12 67 0, none, none, zj (.iload 12) 328 12 0 0, none, zj (.iaload) 329 0 0 0, zj (.i2l) 330 0 0 0, zj (.ladd) 331 0 0 0, zj (.lstore 10) 333 10 0 0, none, zj (.lload 4) 335 4 0 0, none, zj (.aload 0) 336 0 0 0, zj (.getfield 0) 339 12 69 0, none, none, zj (.iload 12) 341 12 0 0, none, zj (.iaload) 342 0 0 0, zj (.i2l) 343 0 0 0, zj (.lmul) 344 0 0 0, zj (.lload 6) 346 6 0 0, none, zj (.aload 0) 347 0 0 0, zj (.getfield 0) 350 12 67 0, none, none, zj (.iload 12) 352 12 0 0, none, zj (.iaload) 353 0 0 0, zj (.i2l) 354 0 0 0, zj (.lmul) 355 0 0 0, zj (.aload 0) 356 0 0 0, zj (.getfield 0) 359 12 70 0, none, none, zj (.iload 12) 361 12 0 0, none, zj (.iaload) 362 0 0 0, zj (.i2l) 363 0 0 0, zj (.lmul) 364 0 0 0, zj (.ladd) 365 0 0 0, zj (.lstore 4) 367 4 0 0, none, zj (.lload 6) 369 6 0 0, none, zj (.aload 0) 370 0 0 0, zj (.getfield 0) 373 12 69 0, none, none, zj (.iload 12) 375 12 0 0, none, zj (.iaload) 376 0 0 0, zj (.i2l) 377 0 0 0, zj (.lmul) 378 0 0 0, zj (.lstore 6) 380 6 0 0, none, zj (.lload 4) 382 4 0 0, none, zj (.lload 6) 384 6 0 0, none, zj (.invokestatic 0) 387 246 2 0, none, none, zj (.lstore 13) 389 13 0 0, none, zj (.lload 4) 391 4 0 0, none, zj (.lload 13) 393 13 0 0, none, zj (.ldiv) 394 0 0 0, zj (.lstore 4) 396 4 0 0, none, zj (.lload 6) 398 6 0 0, none, zj (.lload 13) 400 13 0 0, none, zj (.ldiv) 401 0 0 0, zj (.lstore 6) 403 6 0 0, none, zi (.iinc 12 1) 406 12 0 0 (.int 1), none, none, zj (.goto 0) 409 290 0 0, none, none, zj (.iload 3) 410 3 0 0, zj (.ifCond .ne 0) 413 418 0 0, none, none, zj (.lload 4) 415 4 0 0, none, zj (.goto 0) 418 440 0 0, none, none, zj (.iload 3) 419 3 0 0, zi (.aconst_null) 420 0 0 0 (.int 1), zj (.if_icmp .ne 0) 423 428 0 0, none, none, zj (.lload 6) 425 6 0 0, none, zj (.goto 0) 428 440 0 0, none, none, zj (.iload 3) 429 3 0 0, zi (.aconst_null) 430 0 0 0 (.int 2), zj (.if_icmp .ne 0) 433 438 0 0, none, none, zj (.lload 8) 435 8 0 0, none, zj (.goto 0) 438 440 0 0, none, none, zj (.lload 10) 440 10 0 0, none, zj (.lreturn) 441 0 0 0]
noncomputable def pp_247 : List (List Nat) := [[], [], [7133], [], [], [], [], [], [], [7141], [], [], [], [], [], [], [], [], [7109], [], [], [7101], [], [], [], [], [], [7108], [], [], [], [], [], [], [], [], [], [], [], [], [], [], [6114], [], [], [], [], [], [], [], [6115], [], [], [], [], [], [], [], [6116], [], [], [], [], [], [], [], [6117], [], [], [], [], [], [], [], [], [], [], [], [], [], [], [], [], [], [], [6106], [], [], [], [], [], [], [6112], [], [], [], [], [], [], [], [], [], [], [], [6109], [], [], [], [], [], [], [], [6110], [], [], [], [], [], [], [], [], [], [], [], [], [], [], [], [6110], [], [], [], [], [], [], [], [], [], [], [], [], [], [], [], [], [], [], [], [6063], [], [], [], [6107], [], [], [], [], [], [], [], [], [], [], [], [], [], [], [], [], [], [], [6113], [], [], [], [], [], [], [], [], [], [], [], [], [], [], [], [], [6114], [], [], [], [], [], [], [], [], [], [], [], [], [], [], [], [], [], [], [], [6115], [], [], [], [], [], [], [], [], [], [], [], [], [], [], [], [], [], [], [], [], [6116], [], [], [], [], [], [], [], [], [], [], [], [], [], [], [], [], [], [], [], [6117], [], [], [], [], [], [], [], [], [], [], [], [], [], [], [], [], [], [], [], [], [], [], [], [], [], [], [], [], [], [], [], [], [], [], [], [], [], [], [], [], [], [], [], [], [], [], [], [], [6116], [], [], [], [], [], [], [], [], [], [], [], [6115], [], [], [], [], [], [], [], [], [], [], [], [], [6114], [], [], [], [], [], [], [], [], [], [], [], [], [6116], [], [], [], [], [], [], [], [], [], [], [6114], [], [], [], [], [], [], [], [], [6117], [], [], [], [], [], [], [], [], [], [], [], [], [], [6116], [], [], [], [], [], [], [], [], [], [], [], [], [], [8184], [], [], [], [], [], [], [], [], [], [], [], [], [], [], [], [], [], [], [], [], [], [], [], [], [], [], [], [], [], [], [], [], [], [], [], [], [], [], [], [], [], [], [], [], [], [], [], [], [], [], [], [], [], [], [], []]
noncomputable def cd_248 : zK := [zj (.aload 0) 1 0 0 0, zj (.getfield 0) 4 12 71 0, none, none, zi (.aconst_null) 6 0 0 0 (.int 20), none, zj (.if_icmp .eq 0) 9 17 0 0, none, none, zj (.aload 0) 10 0 0 0, zj (.iload 1) 11 1 0 0, zj (.invokevirtual 0) 14 175 1 12, none, none, zj (.ifCond .ne 0) 17 19 0 0, none, none, zi (.aconst_null) 18 0 0 0 (.int (-1)), zj (.ireturn) 19 0 0 0, zj (.aload 0) 20 0 0 0, zj (.dup) 21 0 0 0, zj (.getfield 0) 24 12 71 0, none, none, zi (.aconst_null) 25 0 0 0 (.int 1), zj (.iadd) 26 0 0 0, zj (.putfield 0) 29 12 71 0, none, none, zj (.aload 0) 30 0 0 0, zj (.getfield 0) 33 12 71 0, none, none, zi (.aconst_null) 34 0 0 0 (.int 1), zj (.isub) 35 0 0 0, zj (.ireturn) 36 0 0 0]
noncomputable def pp_248 : List (List Nat) := [[], [6118], [], [], [], [], [], [], [], [], [], [7148], [], [], [], [], [], [], [], [], [], [6118], [], [], [], [], [6118], [], [], [], [6118], [], [], [], [], []]
noncomputable def cd_249 : zK := [zj (.iload 1) 1 1 0 0, zj (.i2l) 2 0 0 0, zi (.aconst_null) 3 0 0 0 (.long 0), zj (.aload 0) 4 0 0 0, zj (.getfield 0) 7 12 71 0, none, none, zi (.aconst_null) 8 0 0 0 (.int 1), zj (.isub) 9 0 0 0, zj (.i2l) 10 0 0 0, zj (.invokestatic 0) 13 171 3 0, none, none, zj (.ireturn) 14 0 0 0]
noncomputable def pp_249 : List (List Nat) := [[], [], [], [], [6118], [], [], [], [], [], [7101], [], [], []]
noncomputable def cd_250 : zK := [zj (.aload 0) 1 0 0 0, zj (.iload 1) 2 1 0 0, zj (.invokevirtual 0) 5 249 1 12, none, none, zj (.ifCond .eq 0) 8 44 0 0, none, none, zj (.aload 0) 9 0 0 0, zj (.getfield 0) 12 12 72 0, none, none, zj (.iload 1) 13 1 0 0, zj (.iaload) 14 0 0 0, zi (.aconst_null) 16 0 0 0 (.int 6), none, zj (.if_icmp .eq 0) 19 44 0 0, none, none, zj (.iload 3) 20 3 0 0, zj (.i2l) 21 0 0 0, zi (.aconst_null) 22 0 0 0 (.long 0), zi (.aconst_null) 25 0 0 0 (.long 999999), none, none, zj (.invokestatic 0) 28 171 3 0, none, none, zj (.ifCond .eq 0) 31 44 0 0, none, none, zj (.iload 4) 33 4 0 0, none, zj (.i2l) 34 0 0 0, zi (.aconst_null) 35 0 0 0 (.long 0), zi (.aconst_null) 38 0 0 0 (.long 9999999), none, none, zj (.invokestatic 0) 41 171 3 0, none, none, zj (.ifCond .ne 0) 44 46 0 0, none, none, zi (.aconst_null) 45 0 0 0 (.int (-1)), zj (.ireturn) 46 0 0 0, zi (.aconst_null) 48 0 0 0 (.int 6), none, zj (.iload 1) 49 1 0 0, zj (.imul) 50 0 0 0, zj (.aload 0) 51 0 0 0, zj (.getfield 0) 54 12 72 0, none, none, zj (.iload 1) 55 1 0 0, zj (.iaload) 56 0 0 0, zj (.iadd) 57 0 0 0, zj (.istore 5) 59 5 0 0, none, zj (.aload 0) 60 0 0 0, zj (.getfield 0) 63 12 75 0, none, none, zj (.iload 5) 65 5 0 0, none, zj (.iload 2) 66 2 0 0, zj (.bastore) 67 0 0 0, zj (.aload 0) 68 0 0 0, zj (.getfield 0) 71 12 73 0, none, none, zj (.iload 5) 73 5 0 0, none, zj (.iload 3) 74 3 0 0, zj (.iastore) 75 0 0 0, zj (.aload 0) 76 0 0 0, zj (.getfield 0) 79 12 74 0, none, none, zj (.iload 5) 81 5 0 0, none, zj (.iload 4) 83 4 0 0, none, zj (.iastore) 84 0 0 0, zj (.aload 0) 85 0 0 0, zj (.getfield 0) 88 12 72 0, none, none, zj (.iload 1) 89 1 0 0, zj (.dup2) 90 0 0 0, zj (.iaload) 91 0 0 0, zi (.aconst_null) 92 0 0 0 (.int 1), zj (.iadd) 93 0 0 0, zj (.iastore) 94 0 0 0, zj (.aload 0) 95 0 0 0, zj (.getfield 0) 98 12 72 0, none, none, zj (.iload 1) 99 1 0 0, zj (.iaload) 100 0 0 0, zi (.aconst_null) 101 0 0 0 (.int 1), zj (.isub) 102 0 0 0, zj (.ireturn) 103 0 0 0]
noncomputable def pp_250 : List (List Nat) := [[], [], [8195], [], [], [], [], [], [], [6119], [], [], [], [], [], [], [], [], [], [], [], [], [8199], [], [], [7101], [], [], [], [], [], [], [], [], [], [8200], [], [], [7101], [], [], [], [], [], [], [], [], [], [], [], [], [6119], [], [], [], [], [], [], [], [], [6122], [], [], [], [], [], [], [], [6120], [], [], [], [], [], [], [], [6121], [], [], [], [], [], [], [], [], [6119], [], [], [], [], [], [], [], [], [], [6119], [], [], [], [], [], [], []]
noncomputable def cd_251 : zK := [zi (.aconst_null) 1 0 0 0 (.long 0), zj (.lstore 4) 3 4 0 0, none, zi (.aconst_null) 4 0 0 0 (.int 0), zj (.istore 6) 6 6 0 0, none, zj (.iload 6) 8 6 0 0, none, zj (.aload 0) 9 0 0 0, zj (.getfield 0) 12 12 72 0, none, none, zj (.iload 1) 13 1 0 0, zj (.iaload) 14 0 0 0, zj (.if_icmp .ge 0) 17 117 0 0, none, none, zi (.aconst_null) 19 0 0 0 (.int 6), none, zj (.iload 1) 20 1 0 0, zj (.imul) 21 0 0 0, zj (.iload 6) 23 6 0 0, none, zj (.iadd) 24 0 0 0, zj (.istore 7) 26 7 0 0, none, zj (.iload 3) 27 3 0 0, zj (.iload 6) 29 6 0 0, none, zj (.ishr) 30 0 0 0, zi (.aconst_null) 31 0 0 0 (.int 1), zj (.iand) 32 0 0 0, zi (.aconst_null) 33 0 0 0 (.int 1), zj (.if_icmp .ne 0) 36 51 0 0, none, none, zj (.iload 6) 38 6 0 0, none, zj (.aload 0) 39 0 0 0, zj (.getfield 0) 42 12 72 0, none, none, zj (.iload 2) 43 2 0 0, zj (.iaload) 44 0 0 0, zj (.if_icmp .ge 0) 47 51 0 0, none, none, zi (.aconst_null) 48 0 0 0 (.int 1), zj (.goto 0) 51 52 0 0, none, none, zi (.aconst_null) 52 0 0 0 (.int 0), zj (.istore 8) 54 8 0 0, none, zj (.aload 0) 55 0 0 0, zj (.getfield 0) 58 12 73 0, none, none, zj (.iload 7) 60 7 0 0, none, zj (.iaload) 61 0 0 0, zj (.i2l) 62 0 0 0, zj (.aload 0) 63 0 0 0, zj (.getfield 0) 66 12 74 0, none, none, zj (.iload 8) 68 8 0 0, none, zj (.ifCond .eq 0) 71 81 0 0, none, none, zi (.aconst_null) 73 0 0 0 (.int 6), none, zj (.iload 2) 74 2 0 0, zj (.imul) 75 0 0 0, zj (.iload 6) 77 6 0 0, none, zj (.iadd) 78 0 0 0, zj (.goto 0) 81 83 0 0, none, none, zj (.iload 7) 83 7 0 0, none, zj (.iaload) 84 0 0 0, zj (.i2l) 85 0 0 0, zj (.lmul) 86 0 0 0, zj (.lstore 9) 88 9 0 0, none, zj (.lload 4) 90 4 0 0, none, zj (.aload 0) 91 0 0 0, zj (.getfield 0) 94 12 75 0, none, none, zj (.iload 7) 96 7 0 0, none, zj (.baload) 97 0 0 0, zj (.ifCond .eq 0) 100 105 0 0, none, none, zj (.lload 9) 102 9 0 0, none, zj (.goto 0) 105 108 0 0, none, none, zj (.lload 9) 107 9 0 0, none, zj (.lneg) 108 0 0 0, zj (.ladd) 109 0 0 0, zj (.lstore 4) 111 4 0 0, none, zi (.iinc 6 1) 114 6 0 0 (.int 1), none, none, zj (.goto 0) 117 6 0 0, none, none, zj (.lload 4) 119 4 0 0, none, zj (.lreturn) 120 0 0 0]
noncomputable def pp_251 : List (List Nat) := [[], [], [], [], [], [], [], [], [], [6119], [], [], [], [], [], [], [], [], [], [], [], [], [], [], [], [], [], [], [], [], [], [], [], [], [], [], [], [], [], [6119], [], [], [], [], [], [], [], [], [], [], [], [], [], [], [], [6120], [], [], [], [], [], [], [], [6121], [], [], [], [], [], [], [], [], [], [], [], [], [], [], [], [], [], [], [], [], [], [], [], [], [], [], [], [6122], [], [], [], [], [], [], [], [], [], [], [], [], [], [], [], [], [], [], [], [], [], [], [], [], [], [], [], []]
noncomputable def cd_252 : zK := [zj (.aload 0) 1 0 0 0, zj (.iload 1) 2 1 0 0, zj (.invokevirtual 0) 5 249 1 12, none, none, zj (.ifCond .eq 0) 8 18 0 0, none, none, zj (.aload 0) 9 0 0 0, zj (.iload 1) 10 1 0 0, zj (.iload 1) 11 1 0 0, zi (.aconst_null) 12 0 0 0 (.int 0), zj (.invokevirtual 0) 15 251 3 12, none, none, zj (.goto 0) 18 21 0 0, none, none, zi (.aconst_null) 21 0 0 0 (.long (-9000000000000000000)), none, none, zj (.lreturn) 22 0 0 0]
noncomputable def pp_252 : List (List Nat) := [[], [], [8195], [], [], [], [], [], [], [], [], [], [8205], [], [], [], [], [], [8209], [], [], []]
noncomputable def cd_253 : zK := [zj (.aload 0) 1 0 0 0, zj (.iload 1) 2 1 0 0, zj (.invokevirtual 0) 5 249 1 12, none, none, zj (.ifCond .eq 0) 8 36 0 0, none, none, zj (.iload 2) 9 2 0 0, zj (.i2l) 10 0 0 0, zi (.aconst_null) 11 0 0 0 (.long 0), zj (.aload 0) 12 0 0 0, zj (.getfield 0) 15 12 72 0, none, none, zj (.iload 1) 16 1 0 0, zj (.iaload) 17 0 0 0, zi (.aconst_null) 18 0 0 0 (.int 1), zj (.isub) 19 0 0 0, zj (.i2l) 20 0 0 0, zj (.invokestatic 0) 23 171 3 0, none, none, zj (.ifCond .eq 0) 26 36 0 0, none, none, zj (.iload 3) 27 3 0 0, zj (.i2l) 28 0 0 0, zi (.aconst_null) 29 0 0 0 (.long 0), zi (.aconst_null) 30 0 0 0 (.long 1), zj (.invokestatic 0) 33 171 3 0, none, none, zj (.ifCond .ne 0) 36 40 0 0, none, none, zi (.aconst_null) 39 0 0 0 (.long (-2)), none, none, zj (.lreturn) 40 0 0 0, zi (.aconst_null) 42 0 0 0 (.int 6), none, zj (.iload 1) 43 1 0 0, zj (.imul) 44 0 0 0, zj (.iload 2) 45 2 0 0, zj (.iadd) 46 0 0 0, zj (.istore 4) 48 4 0 0, none, zj (.iload 3) 49 3 0 0, zj (.ifCond .ne 0) 52 63 0 0, none, none, zj (.aload 0) 53 0 0 0, zj (.getfield 0) 56 12 73 0, none, none, zj (.iload 4) 58 4 0 0, none, zj (.iaload) 59 0 0 0, zj (.i2l) 60 0 0 0, zj (.goto 0) 63 71 0 0, none, none, zj (.aload 0) 64 0 0 0, zj (.getfield 0) 67 12 74 0, none, none, zj (.iload 4) 69 4 0 0, none, zj (.iaload) 70 0 0 0, zj (.i2l) 71 0 0 0, zj (.lstore 5) 73 5 0 0, none, zj (.iload 3) 74 3 0 0, zj (.ifCond .ne 0) 77 88 0 0, none, none, zj (.aload 0) 78 0 0 0, zj (.getfield 0) 81 12 74 0, none, none, zj (.iload 4) 83 4 0 0, none, zj (.iaload) 84 0 0 0, zj (.i2l) 85 0 0 0, zj (.goto 0) 88 96 0 0, none, none, zj (.aload 0) 89 0 0 0, zj (.getfield 0) 92 12 73 0, none, none, zj (.iload 4) 94 4 0 0, none, zj (.iaload) 95 0 0 0, zj (.i2l) 96 0 0 0, zj (.lstore 7) 98 7 0 0, none, zj (.aload 0) 99 0 0 0, zj (.iload 1) 100 1 0 0, zj (.iload 1) 101 1 0 0, zi (.aconst_null) 102 0 0 0 (.int 0), zj (.invokevirtual 0) 105 251 3 12, none, none, zj (.lstore 9) 107 9 0 0, none, zj (.lload 7) 109 7 0 0, none, zi (.aconst_null) 110 0 0 0 (.long 0), zj (.lcmp) 111 0 0 0, zj (.ifCond .ne 0) 114 118 0 0, none, none, zi (.aconst_null) 117 0 0 0 (.long (-1)), none, none, zj (.lreturn) 118 0 0 0, zj (.aload 0) 119 0 0 0, zj (.getfield 0) 122 12 75 0, none, none, zj (.iload 4) 124 4 0 0, none, zj (.baload) 125 0 0 0, zj (.ifCond .eq 0) 128 139 0 0, none, none, zj (.lload 9) 130 9 0 0, none, zj (.lload 5) 132 5 0 0, none, zj (.lload 7) 134 7 0 0, none, zj (.lmul) 135 0 0 0, zj (.lsub) 136 0 0 0, zj (.goto 0) 139 148 0 0, none, none, zj (.lload 9) 141 9 0 0, none, zj (.lneg) 142 0 0 0, zj (.lload 5) 144 5 0 0, none, zj (.lload 7) 146 7 0 0, none, zj (.lmul) 147 0 0 0, zj (.lsub) 148 0 0 0, zj (.lstore 11) 150 11 0 0, none, zj (.aload 0) 151 0 0 0, zj (.getfield 0) 154 12 75 0, none, none, zj (.iload 4) 156 4 0 0, none, zj (.baload) 157 0 0 0, zj (.istore 13) 159 13 0 0, none, zj (.lload 9) 161 9 0 0, none, zi (.aconst_null) 162 0 0 0 (.long 0), zj (.lcmp) 163 0 0 0, zj (.ifCond .le 0) 166 193 0 0, none, none, zj (.iload 13) 168 13 0 0, none, zj (.ifCond .eq 0) 171 183 0 0, none, none, zj (.lload 11) 173 11 0 0, none, zj (.lneg) 174 0 0 0, zj (.lload 7) 176 7 0 0, none, zi (.aconst_null) 177 0 0 0 (.int 0), zj (.invokestatic 0) 180 255 3 0, none, none, zj (.goto 0) 183 192 0 0, none, none, zj (.lload 11) 185 11 0 0, none, zj (.lneg) 186 0 0 0, zj (.lload 7) 188 7 0 0, none, zi (.aconst_null) 189 0 0 0 (.int 0), zj (.invokestatic 0) 192 254 3 0, none, none, zj (.lreturn) 193 0 0 0, zj (.iload 13) 195 13 0 0, none, zj (.ifCond .eq 0) 198 210 0 0, none, none, zj (.lload 11) 200 11 0 0, none, zj (.lneg) 201 0 0 0, zj (.lload 7) 203 7 0 0, none, zi (.aconst_null) 204 0 0 0 (.int 1), zj (.invokestatic 0) 207 254 3 0, none, none, zj (.goto 0) 210 219 0 0, none, none, zj (.lload 11) 212 11 0 0, none, zj (.lneg) 213 0 0 0, zj (.lload 7) 215 7 0 0, none, zi (.aconst_null) 216 0 0 0 (.int 1), zj (.invokestatic 0) 219 255 3 0, none, none, zj (.lreturn) 220 0 0 0]
noncomputable def pp_253 : List (List Nat) := [[], [], [8195], [], [], [], [], [], [], [], [], [], [6119], [], [], [], [], [], [], [], [7101], [], [], [], [], [], [], [], [], [], [7101], [], [], [], [], [], [8214], [], [], [], [], [], [], [], [], [], [], [], [], [], [], [], [], [6120], [], [], [], [], [], [], [], [], [], [], [6121], [], [], [], [], [], [], [], [], [], [], [], [], [], [6121], [], [], [], [], [], [], [], [], [], [], [6120], [], [], [], [], [], [], [], [], [], [], [], [], [8205], [], [], [], [], [], [], [], [], [], [], [], [7108], [], [], [], [], [6122], [], [], [], [], [], [], [], [], [], [], [], [], [], [], [], [], [], [], [], [], [], [], [], [], [], [], [], [], [], [], [], [6122], [], [], [], [], [], [], [], [], [], [], [], [], [], [], [], [], [], [], [], [], [], [], [], [], [], [8215], [], [], [], [], [], [], [], [], [], [], [], [8218], [], [], [], [], [], [], [], [], [], [], [], [], [], [], [8218], [], [], [], [], [], [], [], [], [], [], [], [8215], [], [], []]
noncomputable def cd_254 : zK := [zj (.lload 0) 1 0 0 0, zi (.aconst_null) 2 0 0 0 (.long 0), zj (.lcmp) 3 0 0 0, zj (.ifCond .lt 0) 6 12 0 0, none, none, zj (.lload 0) 7 0 0 0, zj (.lload 2) 8 2 0 0, zj (.ldiv) 9 0 0 0, zj (.goto 0) 12 21 0 0, none, none, zj (.lload 0) 13 0 0 0, zj (.lneg) 14 0 0 0, zj (.lload 2) 15 2 0 0, zj (.ladd) 16 0 0 0, zi (.aconst_null) 17 0 0 0 (.long 1), zj (.lsub) 18 0 0 0, zj (.lload 2) 19 2 0 0, zj (.ldiv) 20 0 0 0, zj (.lneg) 21 0 0 0, zj (.lstore 5) 23 5 0 0, none, zj (.iload 4) 25 4 0 0, none, zj (.ifCond .eq 0) 28 35 0 0, none, none, zj (.lload 5) 30 5 0 0, none, zi (.aconst_null) 31 0 0 0 (.long 1), zj (.ladd) 32 0 0 0, zj (.goto 0) 35 53 0 0, none, none, zj (.lload 5) 37 5 0 0, none, zj (.lload 2) 38 2 0 0, zj (.lmul) 39 0 0 0, zj (.lload 0) 40 0 0 0, zj (.lcmp) 41 0 0 0, zj (.ifCond .ne 0) 44 49 0 0, none, none, zj (.lload 5) 46 5 0 0, none, zj (.goto 0) 49 53 0 0, none, none, zj (.lload 5) 51 5 0 0, none, zi (.aconst_null) 52 0 0 0 (.long 1), zj (.ladd) 53 0 0 0, zj (.lreturn) 54 0 0 0]
noncomputable def pp_254 : List (List Nat) := [[], [], [], [], [], [], [], [], [], [], [], [], [], [], [], [], [], [], [], [], [], [], [], [], [], [], [], [], [], [], [], [], [], [], [], [], [], [], [], [], [], [], [], [], [], [], [], [], [], [], [], [], [], []]
noncomputable def cd_255 : zK := [zj (.lload 0) 1 0 0 0, zi (.aconst_null) 2 0 0 0 (.long 0), zj (.lcmp) 3 0 0 0, zj (.ifCond .lt 0) 6 12 0 0, none, none, zj (.lload 0) 7 0 0 0, zj (.lload 2) 8 2 0 0, zj (.ldiv) 9 0 0 0, zj (.goto 0) 12 15 0 0, none, none, zi (.aconst_null) 15 0 0 0 (.long (-1)), none, none, zj (.lstore 5) 17 5 0 0, none, zj (.lload 5) 19 5 0 0, none, zj (.iload 4) 21 4 0 0, none, zj (.ifCond .eq 0) 24 43 0 0, none, none, zj (.lload 0) 25 0 0 0, zi (.aconst_null) 26 0 0 0 (.long 0), zj (.lcmp) 27 0 0 0, zj (.ifCond .lt 0) 30 43 0 0, none, none, zj (.lload 5) 32 5 0 0, none, zj (.lload 2) 33 2 0 0, zj (.lmul) 34 0 0 0, zj (.lload 0) 35 0 0 0, zj (.lcmp) 36 0 0 0, zj (.ifCond .ne 0) 39 43 0 0, none, none, zi (.aconst_null) 40 0 0 0 (.long 1), zj (.goto 0) 43 44 0 0, none, none, zi (.aconst_null) 44 0 0 0 (.long 0), zj (.lsub) 45 0 0 0, zj (.lstore 5) 47 5 0 0, none, zj (.lload 5) 49 5 0 0, none, zi (.aconst_null) 50 0 0 0 (.long 0), zj (.lcmp) 51 0 0 0, zj (.ifCond .ge 0) 54 60 0 0, none, none, zi (.aconst_null) 57 0 0 0 (.long (-1)), none, none, zj (.goto 0) 60 62 0 0, none, none, zj (.lload 5) 62 5 0 0, none, zj (.lreturn) 63 0 0 0]
noncomputable def pp_255 : List (List Nat) := [[], [], [], [], [], [], [], [], [], [], [], [], [7108], [], [], [], [], [], [], [], [], [], [], [], [], [], [], [], [], [], [], [], [], [], [], [], [], [], [], [], [], [], [], [], [], [], [], [], [], [], [], [], [], [], [7108], [], [], [], [], [], [], [], []]
noncomputable def cd_256 : zK := [zj (.aload 0) 1 0 0 0, zj (.iload 1) 2 1 0 0, zj (.invokevirtual 0) 5 249 1 12, none, none, zj (.ifCond .eq 0) 8 38 0 0, none, none, zj (.aload 0) 9 0 0 0, zj (.iload 2) 10 2 0 0, zj (.invokevirtual 0) 13 249 1 12, none, none, zj (.ifCond .eq 0) 16 38 0 0, none, none, zj (.iload 3) 17 3 0 0, zj (.i2l) 18 0 0 0, zi (.aconst_null) 19 0 0 0 (.long 0), zi (.aconst_null) 22 0 0 0 (.long 63), none, none, zj (.invokestatic 0) 25 171 3 0, none, none, zj (.ifCond .eq 0) 28 38 0 0, none, none, zj (.aload 0) 29 0 0 0, zj (.iload 1) 30 1 0 0, zj (.iload 2) 31 2 0 0, zj (.iload 3) 32 3 0 0, zj (.invokevirtual 0) 35 251 3 12, none, none, zj (.goto 0) 38 41 0 0, none, none, zi (.aconst_null) 41 0 0 0 (.long (-9000000000000000000)), none, none, zj (.lreturn) 42 0 0 0]
noncomputable def pp_256 : List (List Nat) := [[], [], [8195], [], [], [], [], [], [], [], [8195], [], [], [], [], [], [], [], [], [8225], [], [], [7101], [], [], [], [], [], [], [], [], [], [8205], [], [], [], [], [], [8209], [], [], []]
noncomputable def cd_257 : zK := [zj (.aload 0) 1 0 0 0, zj (.getfield 0) 4 12 76 0, none, none, zi (.aconst_null) 6 0 0 0 (.int 24), none, zj (.if_icmp .eq 0) 9 57 0 0, none, none, zj (.iload 1) 10 1 0 0, zj (.i2l) 11 0 0 0, zi (.aconst_null) 12 0 0 0 (.long 0), zi (.aconst_null) 15 0 0 0 (.long 99), none, none, zj (.invokestatic 0) 18 171 3 0, none, none, zj (.ifCond .eq 0) 21 57 0 0, none, none, zj (.iload 2) 22 2 0 0, zj (.i2l) 23 0 0 0, zi (.aconst_null) 26 0 0 0 (.long (-1)), none, none, zi (.aconst_null) 29 0 0 0 (.long 3), none, none, zj (.invokestatic 0) 32 171 3 0, none, none, zj (.ifCond .eq 0) 35 57 0 0, none, none, zj (.iload 3) 36 3 0 0, zj (.aload 0) 37 0 0 0, zj (.getfield 0) 40 12 76 0, none, none, zj (.ishr) 41 0 0 0, zj (.ifCond .ne 0) 44 57 0 0, none, none, zj (.iload 4) 46 4 0 0, none, zj (.i2l) 47 0 0 0, zi (.aconst_null) 48 0 0 0 (.long 0), zi (.aconst_null) 51 0 0 0 (.long 9999), none, none, zj (.invokestatic 0) 54 171 3 0, none, none, zj (.ifCond .ne 0) 57 59 0 0, none, none, zi (.aconst_null) 58 0 0 0 (.int (-1)), zj (.ireturn) 59 0 0 0, zj (.aload 0) 60 0 0 0, zj (.getfield 0) 63 12 77 0, none, none, zj (.aload 0) 64 0 0 0, zj (.getfield 0) 67 12 76 0, none, none, zj (.iload 1) 68 1 0 0, zj (.iastore) 69 0 0 0, zj (.aload 0) 70 0 0 0, zj (.getfield 0) 73 12 78 0, none, none, zj (.aload 0) 74 0 0 0, zj (.getfield 0) 77 12 76 0, none, none, zj (.iload 2) 78 2 0 0, zj (.iastore) 79 0 0 0, zj (.aload 0) 80 0 0 0, zj (.getfield 0) 83 12 79 0, none, none, zj (.aload 0) 84 0 0 0, zj (.getfield 0) 87 12 76 0, none, none, zj (.iload 3) 88 3 0 0, zj (.iastore) 89 0 0 0, zj (.aload 0) 90 0 0 0, zj (.getfield 0) 93 12 80 0, none, none, zj (.aload 0) 94 0 0 0, zj (.getfield 0) 97 12 76 0, none, none, zj (.iload 4) 99 4 0 0, none, zj (.iastore) 100 0 0 0, zj (.aload 0) 101 0 0 0, zj (.dup) 102 0 0 0, zj (.getfield 0) 105 12 76 0, none, none, zi (.aconst_null) 106 0 0 0 (.int 1), zj (.iadd) 107 0 0 0, zj (.putfield 0) 110 12 76 0, none, none, zj (.aload 0) 111 0 0 0, zj (.getfield 0) 114 12 76 0, none, none, zi (.aconst_null) 115 0 0 0 (.int 1), zj (.isub) 116 0 0 0, zj (.ireturn) 117 0 0 0]
noncomputable def pp_257 : List (List Nat) := [[], [6123], [], [], [], [], [], [], [], [], [], [], [8230], [], [], [7101], [], [], [], [], [], [], [], [7108], [], [], [7109], [], [], [7101], [], [], [], [], [], [], [], [6123], [], [], [], [], [], [], [], [], [], [], [7128], [], [], [7101], [], [], [], [], [], [], [], [], [6124], [], [], [], [6123], [], [], [], [], [], [6125], [], [], [], [6123], [], [], [], [], [], [6126], [], [], [], [6123], [], [], [], [], [], [6127], [], [], [], [6123], [], [], [], [], [], [], [], [6123], [], [], [], [], [6123], [], [], [], [6123], [], [], [], [], []]
noncomputable def cd_258 : zK := [zi (.aconst_null) 1 0 0 0 (.int 0), zj (.istore 2) 2 2 0 0, zi (.aconst_null) 3 0 0 0 (.int 0), zj (.istore 3) 4 3 0 0, zj (.iload 3) 5 3 0 0, zj (.aload 0) 6 0 0 0, zj (.getfield 0) 9 12 76 0, none, none, zj (.if_icmp .ge 0) 12 143 0 0, none, none, zj (.aload 0) 13 0 0 0, zj (.getfield 0) 16 12 81 0, none, none, zj (.iload 3) 17 3 0 0, zi (.aconst_null) 18 0 0 0 (.int 0), zj (.iastore) 19 0 0 0, zi (.aconst_null) 20 0 0 0 (.int 0), zj (.istore 4) 22 4 0 0, none, zj (.iload 4) 24 4 0 0, none, zj (.iload 3) 25 3 0 0, zj (.if_icmp .ge 0) 28 109 0 0, none, none, zj (.aload 0) 29 0 0 0, zj (.getfield 0) 32 12 81 0, none, none, zj (.iload 4) 34 4 0 0, none, zj (.iaload) 35 0 0 0, zj (.aload 0) 36 0 0 0, zj (.getfield 0) 39 12 78 0, none, none, zj (.iload 4) 41 4 0 0, none, zj (.iaload) 42 0 0 0, zj (.iload 1) 43 1 0 0, zj (.if_icmp .ne 0) 46 50 0 0, none, none, zi (.aconst_null) 47 0 0 0 (.int 0), zj (.goto 0) 50 57 0 0, none, none, zj (.aload 0) 51 0 0 0, zj (.getfield 0) 54 12 77 0, none, none, zj (.iload 4) 56 4 0 0, none, zj (.iaload) 57 0 0 0, zj (.iadd) 58 0 0 0, zj (.istore 5) 60 5 0 0, none, zj (.aload 0) 61 0 0 0, zj (.getfield 0) 64 12 81 0, none, none, zj (.iload 3) 65 3 0 0, zj (.aload 0) 66 0 0 0, zj (.getfield 0) 69 12 79 0, none, none, zj (.iload 3) 70 3 0 0, zj (.iaload) 71 0 0 0, zj (.iload 4) 73 4 0 0, none, zj (.ishr) 74 0 0 0, zi (.aconst_null) 75 0 0 0 (.int 1), zj (.iand) 76 0 0 0, zi (.aconst_null) 77 0 0 0 (.int 1), zj (.if_icmp .ne 0) 80 96 0 0, none, none, zj (.iload 5) 82 5 0 0, none, zj (.aload 0) 83 0 0 0, zj (.getfield 0) 86 12 81 0, none, none, zj (.iload 3) 87 3 0 0, zj (.iaload) 88 0 0 0, zj (.if_icmp .le 0) 91 96 0 0, none, none, zj (.iload 5) 93 5 0 0, none, zj (.goto 0) 96 102 0 0, none, none, zj (.aload 0) 97 0 0 0, zj (.getfield 0) 100 12 81 0, none, none, zj (.iload 3) 101 3 0 0, zj (.iaload) 102 0 0 0, zj (.iastore) 103 0 0 0, zi (.iinc 4 1) 106 4 0 0 (.int 1), none, none, zj (.goto 0) 109 22 0 0, none, none, zj (.aload 0) 110 0 0 0, zj (.getfield 0) 113 12 81 0, none, none, zj (.iload 3) 114 3 0 0, zj (.iaload) 115 0 0 0, zj (.aload 0) 116 0 0 0, zj (.getfield 0) 119 12 78 0, none, none, zj (.iload 3) 120 3 0 0, zj (.iaload) 121 0 0 0, zj (.iload 1) 122 1 0 0, zj (.if_icmp .ne 0) 125 129 0 0, none, none, zi (.aconst_null) 126 0 0 0 (.int 0), zj (.goto 0) 129 135 0 0, none, none, zj (.aload 0) 130 0 0 0, zj (.getfield 0) 133 12 77 0, none, none, zj (.iload 3) 134 3 0 0, zj (.iaload) 135 0 0 0, zj (.iadd) 136 0 0 0, zj (.istore 2) 137 2 0 0, zi (.iinc 3 1) 140 3 0 0 (.int 1), none, none, zj (.goto 0) 143 4 0 0, none, none, zj (.iload 2) 144 2 0 0, zj (.ireturn) 145 0 0 0]
noncomputable def pp_258 : List (List Nat) := [[], [], [], [], [], [], [6123], [], [], [], [], [], [], [6128], [], [], [], [], [], [], [], [], [], [], [], [], [], [], [], [6128], [], [], [], [], [], [], [6125], [], [], [], [], [], [], [], [], [], [], [], [], [], [], [6124], [], [], [], [], [], [], [], [], [], [6128], [], [], [], [], [6126], [], [], [], [], [], [], [], [], [], [], [], [], [], [], [], [], [6128], [], [], [], [], [], [], [], [], [], [], [], [], [], [6128], [], [], [], [], [], [], [], [], [], [], [], [], [6128], [], [], [], [], [], [6125], [], [], [], [], [], [], [], [], [], [], [], [], [], [6124], [], [], [], [], [], [], [], [], [], [], [], [], [], []]
noncomputable def cd_259 : zK := [zj (.aload 0) 1 0 0 0, zi (.aconst_null) 3 0 0 0 (.int (-2)), none, zj (.invokevirtual 0) 6 258 1 12, none, none, zj (.istore 2) 7 2 0 0, zj (.aload 0) 8 0 0 0, zj (.getfield 0) 11 12 76 0, none, none, zi (.aconst_null) 12 0 0 0 (.int 1), zj (.isub) 13 0 0 0, zj (.istore 3) 14 3 0 0, zj (.iload 3) 15 3 0 0, zj (.ifCond .lt 0) 18 157 0 0, none, none, zj (.aload 0) 19 0 0 0, zj (.getfield 0) 22 12 82 0, none, none, zj (.iload 3) 23 3 0 0, zj (.iload 3) 24 3 0 0, zj (.aload 0) 25 0 0 0, zj (.getfield 0) 28 12 76 0, none, none, zi (.aconst_null) 29 0 0 0 (.int 1), zj (.isub) 30 0 0 0, zj (.if_icmp .ne 0) 33 37 0 0, none, none, zi (.aconst_null) 34 0 0 0 (.int 0), zj (.goto 0) 37 38 0 0, none, none, zi (.aconst_null) 38 0 0 0 (.int (-1)), zj (.iastore) 39 0 0 0, zj (.iload 3) 40 3 0 0, zi (.aconst_null) 41 0 0 0 (.int 1), zj (.iadd) 42 0 0 0, zj (.istore 4) 44 4 0 0, none, zj (.iload 4) 46 4 0 0, none, zj (.aload 0) 47 0 0 0, zj (.getfield 0) 50 12 76 0, none, none, zj (.if_icmp .ge 0) 53 151 0 0, none, none, zj (.aload 0) 54 0 0 0, zj (.getfield 0) 57 12 79 0, none, none, zj (.iload 4) 59 4 0 0, none, zj (.iaload) 60 0 0 0, zj (.iload 3) 61 3 0 0, zj (.ishr) 62 0 0 0, zi (.aconst_null) 63 0 0 0 (.int 1), zj (.iand) 64 0 0 0, zi (.aconst_null) 65 0 0 0 (.int 1), zj (.if_icmp .ne 0) 68 83 0 0, none, none, zj (.aload 0) 69 0 0 0, zj (.getfield 0) 72 12 82 0, none, none, zj (.iload 4) 74 4 0 0, none, zj (.iaload) 75 0 0 0, zi (.aconst_null) 76 0 0 0 (.int (-1)), zj (.if_icmp .eq 0) 79 83 0 0, none, none, zi (.aconst_null) 80 0 0 0 (.int 1), zj (.goto 0) 83 84 0 0, none, none, zi (.aconst_null) 84 0 0 0 (.int 0), zj (.istore 5) 86 5 0 0, none, zj (.aload 0) 87 0 0 0, zj (.getfield 0) 90 12 82 0, none, none, zj (.iload 3) 91 3 0 0, zj (.iload 5) 93 5 0 0, none, zj (.ifCond .eq 0) 96 138 0 0, none, none, zj (.aload 0) 97 0 0 0, zj (.getfield 0) 100 12 77 0, none, none, zj (.iload 4) 102 4 0 0, none, zj (.iaload) 103 0 0 0, zj (.aload 0) 104 0 0 0, zj (.getfield 0) 107 12 82 0, none, none, zj (.iload 4) 109 4 0 0, none, zj (.iaload) 110 0 0 0, zj (.iadd) 111 0 0 0, zj (.aload 0) 112 0 0 0, zj (.getfield 0) 115 12 82 0, none, none, zj (.iload 3) 116 3 0 0, zj (.iaload) 117 0 0 0, zj (.if_icmp .le 0) 120 138 0 0, none, none, zj (.aload 0) 121 0 0 0, zj (.getfield 0) 124 12 77 0, none, none, zj (.iload 4) 126 4 0 0, none, zj (.iaload) 127 0 0 0, zj (.aload 0) 128 0 0 0, zj (.getfield 0) 131 12 82 0, none, none, zj (.iload 4) 133 4 0 0, none, zj (.iaload) 134 0 0 0, zj (.iadd) 135 0 0 0, zj (.goto 0) 138 144 0 0, none, none, zj (.aload 0) 139 0 0 0, zj (.getfield 0) 142 12 82 0, none, none, zj (.iload 3) 143 3 0 0, zj (.iaload) 144 0 0 0, zj (.iastore) 145 0 0 0, zi (.iinc 4 1) 148 4 0 0 (.int 1), none, none, zj (.goto 0) 151 44 0 0, none, none, zi (.iinc 3 (-1)) 154 3 0 0 (.int (-1)), none, none, zj (.goto 0) 157 14 0 0, none, none, zj (.aload 0) 158 0 0 0, zj (.getfield 0) 161 12 82 0, none, none, zj (.iload 1) 162 1 0 0, zj (.iaload) 163 0 0 0, zi (.aconst_null) 164 0 0 0 (.int (-1)), zj (.if_icmp .ne 0) 167 171 0 0, none, none, zi (.aconst_null) 168 0 0 0 (.int (-1)), zj (.goto 0) 171 193 0 0, none, none, zj (.iload 2) 172 2 0 0, zj (.aload 0) 173 0 0 0, zj (.getfield 0) 176 12 82 0, none, none, zj (.iload 1) 177 1 0 0, zj (.iaload) 178 0 0 0, zj (.isub) 179 0 0 0, zj (.aload 0) 180 0 0 0, zj (.getfield 0) 183 12 81 0, none, none, zj (.iload 1) 184 1 0 0, zj (.iaload) 185 0 0 0, zj (.isub) 186 0 0 0, zj (.aload 0) 187 0 0 0, zj (.getfield 0) 190 12 77 0, none, none, zj (.iload 1) 191 1 0 0, zj (.iaload) 192 0 0 0, zj (.isub) 193 0 0 0, zj (.ireturn) 194 0 0 0]
noncomputable def pp_259 : List (List Nat) := [[], [], [], [8235], [], [], [], [], [6123], [], [], [], [], [], [], [], [], [], [], [6129], [], [], [], [], [], [6123], [], [], [], [], [], [], [], [], [], [], [], [], [], [], [], [], [], [], [], [], [], [6123], [], [], [], [], [], [], [6126], [], [], [], [], [], [], [], [], [], [], [], [], [], [], [6129], [], [], [], [], [], [], [], [], [], [], [], [], [], [], [], [], [], [6129], [], [], [], [], [], [], [], [], [], [6124], [], [], [], [], [], [], [6129], [], [], [], [], [], [], [], [6129], [], [], [], [], [], [], [], [], [6124], [], [], [], [], [], [], [6129], [], [], [], [], [], [], [], [], [], [], [6129], [], [], [], [], [], [], [], [], [], [], [], [], [], [], [], [], [], [], [6129], [], [], [], [], [], [], [], [], [], [], [], [], [], [], [6129], [], [], [], [], [], [], [6128], [], [], [], [], [], [], [6124], [], [], [], [], [], []]
noncomputable def cd_260 : zK := [zj (.iload 1) 1 1 0 0, zj (.i2l) 2 0 0 0, zi (.aconst_null) 3 0 0 0 (.long 0), zj (.aload 0) 4 0 0 0, zj (.getfield 0) 7 12 76 0, none, none, zi (.aconst_null) 8 0 0 0 (.int 1), zj (.isub) 9 0 0 0, zj (.i2l) 10 0 0 0, zj (.invokestatic 0) 13 171 3 0, none, none, zj (.ifCond .eq 0) 16 28 0 0, none, none, zj (.iload 2) 17 2 0 0, zj (.i2l) 18 0 0 0, zi (.aconst_null) 19 0 0 0 (.long 0), zi (.aconst_null) 22 0 0 0 (.long 2), none, none, zj (.invokestatic 0) 25 171 3 0, none, none, zj (.ifCond .ne 0) 28 31 0 0, none, none, zi (.aconst_null) 30 0 0 0 (.int (-2)), none, zj (.ireturn) 31 0 0 0, zj (.aload 0) 32 0 0 0, zi (.aconst_null) 34 0 0 0 (.int (-2)), none, zj (.invokevirtual 0) 37 258 1 12, none, none, zj (.istore 3) 38 3 0 0, zj (.iload 2) 39 2 0 0, zj (.ifCond .ne 0) 42 51 0 0, none, none, zj (.aload 0) 43 0 0 0, zj (.getfield 0) 46 12 81 0, none, none, zj (.iload 1) 47 1 0 0, zj (.iaload) 48 0 0 0, zj (.goto 0) 51 77 0 0, none, none, zj (.iload 2) 52 2 0 0, zi (.aconst_null) 53 0 0 0 (.int 1), zj (.if_icmp .ne 0) 56 72 0 0, none, none, zj (.aload 0) 57 0 0 0, zj (.getfield 0) 60 12 81 0, none, none, zj (.iload 1) 61 1 0 0, zj (.iaload) 62 0 0 0, zj (.aload 0) 63 0 0 0, zj (.getfield 0) 66 12 77 0, none, none, zj (.iload 1) 67 1 0 0, zj (.iaload) 68 0 0 0, zj (.iadd) 69 0 0 0, zj (.goto 0) 72 77 0 0, none, none, zj (.aload 0) 73 0 0 0, zj (.iload 1) 74 1 0 0, zj (.invokevirtual 0) 77 259 1 12, none, none, zj (.ireturn) 78 0 0 0]
noncomputable def pp_260 : List (List Nat) := [[], [], [], [], [6123], [], [], [], [], [], [7101], [], [], [], [], [], [], [], [], [7117], [], [], [7101], [], [], [], [], [], [], [], [], [], [], [], [8235], [], [], [], [], [], [], [], [], [6128], [], [], [], [], [], [], [], [], [], [], [], [], [], [6128], [], [], [], [], [], [6124], [], [], [], [], [], [], [], [], [], [], [8239], [], [], []]
noncomputable def cd_261 : zK := [zj (.iload 1) 1 1 0 0, zj (.i2l) 2 0 0 0, zi (.aconst_null) 3 0 0 0 (.long 0), zi (.aconst_null) 6 0 0 0 (.long 3), none, none, zj (.invokestatic 0) 9 171 3 0, none, none, zj (.ifCond .eq 0) 12 34 0 0, none, none, zj (.aload 0) 13 0 0 0, zj (.getfield 0) 16 12 76 0, none, none, zj (.ifCond .le 0) 19 34 0 0, none, none, zj (.aload 0) 20 0 0 0, zi (.aconst_null) 22 0 0 0 (.int (-2)), none, zj (.invokevirtual 0) 25 258 1 12, none, none, zj (.aload 0) 26 0 0 0, zj (.iload 1) 27 1 0 0, zj (.invokevirtual 0) 30 258 1 12, none, none, zj (.isub) 31 0 0 0, zj (.goto 0) 34 35 0 0, none, none, zi (.aconst_null) 35 0 0 0 (.int (-1)), zj (.ireturn) 36 0 0 0]
noncomputable def pp_261 : List (List Nat) := [[], [], [], [7109], [], [], [7101], [], [], [], [], [], [], [6123], [], [], [], [], [], [], [], [], [8235], [], [], [], [], [8235], [], [], [], [], [], [], [], []]
noncomputable def cd_262 : zK := [zj (.iload 2) 1 2 0 0, zj (.aload 0) 2 0 0 0, zj (.getfield 0) 5 12 81 0, none, none, zj (.iload 1) 6 1 0 0, zj (.iaload) 7 0 0 0, zj (.aload 0) 8 0 0 0, zj (.getfield 0) 11 12 77 0, none, none, zj (.iload 1) 12 1 0 0, zj (.iaload) 13 0 0 0, zj (.iadd) 14 0 0 0, zj (.if_icmp .lt 0) 17 29 0 0, none, none, zi (.aconst_null) 19 0 0 0 (.int 9), none, zj (.aload 0) 20 0 0 0, zj (.getfield 0) 23 12 80 0, none, none, zj (.iload 1) 24 1 0 0, zj (.iaload) 25 0 0 0, zj (.imul) 26 0 0 0, zj (.goto 0) 29 56 0 0, none, none, zj (.iload 2) 30 2 0 0, zj (.aload 0) 31 0 0 0, zj (.getfield 0) 34 12 81 0, none, none, zj (.iload 1) 35 1 0 0, zj (.iaload) 36 0 0 0, zj (.if_icmp .lt 0) 39 50 0 0, none, none, zi (.aconst_null) 40 0 0 0 (.int 3), zj (.aload 0) 41 0 0 0, zj (.getfield 0) 44 12 80 0, none, none, zj (.iload 1) 45 1 0 0, zj (.iaload) 46 0 0 0, zj (.imul) 47 0 0 0, zj (.goto 0) 50 56 0 0, none, none, zj (.aload 0) 51 0 0 0, zj (.getfield 0) 54 12 80 0, none, none, zj (.iload 1) 55 1 0 0, zj (.iaload) 56 0 0 0, zj (.ireturn) 57 0 0 0]
noncomputable def pp_262 : List (List Nat) := [[], [], [6128], [], [], [], [], [], [6124], [], [], [], [], [], [], [], [], [], [], [], [6127], [], [], [], [], [], [], [], [], [], [], [6128], [], [], [], [], [], [], [], [], [], [6127], [], [], [], [], [], [], [], [], [], [6127], [], [], [], [], []]
noncomputable def cd_263 : zK := [zj (.iload 1) 1 1 0 0, zj (.i2l) 2 0 0 0, zi (.aconst_null) 3 0 0 0 (.long 0), zj (.aload 0) 4 0 0 0, zj (.getfield 0) 7 12 76 0, none, none, zi (.aconst_null) 8 0 0 0 (.int 1), zj (.isub) 9 0 0 0, zj (.i2l) 10 0 0 0, zj (.invokestatic 0) 13 171 3 0, none, none, zj (.ifCond .eq 0) 16 23 0 0, none, none, zj (.iload 2) 17 2 0 0, zj (.invokestatic 0) 20 172 1 0, none, none, zj (.ifCond .ne 0) 23 25 0 0, none, none, zi (.aconst_null) 24 0 0 0 (.int (-1)), zj (.ireturn) 25 0 0 0, zj (.aload 0) 26 0 0 0, zi (.aconst_null) 28 0 0 0 (.int (-2)), none, zj (.invokevirtual 0) 31 258 1 12, none, none, zj (.istore 3) 32 3 0 0, zj (.aload 0) 33 0 0 0, zj (.iload 1) 34 1 0 0, zj (.iload 2) 35 2 0 0, zj (.invokevirtual 0) 38 262 2 12, none, none, zj (.ireturn) 39 0 0 0]
noncomputable def pp_263 : List (List Nat) := [[], [], [], [], [6123], [], [], [], [], [], [7101], [], [], [], [], [], [], [7141], [], [], [], [], [], [], [], [], [], [], [8235], [], [], [], [], [], [], [9011], [], [], []]
noncomputable def cd_264 : zK := [zj (.iload 1) 1 1 0 0, zj (.i2l) 2 0 0 0, zi (.aconst_null) 3 0 0 0 (.long 0), zj (.aload 0) 4 0 0 0, zj (.getfield 0) 7 12 76 0, none, none, zi (.aconst_null) 8 0 0 0 (.int 1), zj (.isub) 9 0 0 0, zj (.i2l) 10 0 0 0, zj (.invokestatic 0) 13 171 3 0, none, none, zj (.ifCond .eq 0) 16 20 0 0, none, none, zj (.iload 2) 17 2 0 0, zj (.ifCond .ge 0) 20 23 0 0, none, none, zi (.aconst_null) 22 0 0 0 (.int (-2)), none, zj (.ireturn) 23 0 0 0, zj (.aload 0) 24 0 0 0, zi (.aconst_null) 26 0 0 0 (.int (-2)), none, zj (.invokevirtual 0) 29 258 1 12, none, none, zj (.istore 3) 30 3 0 0, zi (.aconst_null) 33 0 0 0 (.int 599), none, none, zj (.istore 4) 35 4 0 0, none, zj (.iload 4) 37 4 0 0, none, zj (.ifCond .lt 0) 40 57 0 0, none, none, zj (.aload 0) 41 0 0 0, zj (.iload 1) 42 1 0 0, zj (.iload 4) 44 4 0 0, none, zj (.invokevirtual 0) 47 262 2 12, none, none, zj (.iload 2) 48 2 0 0, zj (.if_icmp .le 0) 51 57 0 0, none, none, zi (.iinc 4 (-1)) 54 4 0 0 (.int (-1)), none, none, zj (.goto 0) 57 35 0 0, none, none, zj (.iload 4) 59 4 0 0, none, zj (.ireturn) 60 0 0 0]
noncomputable def pp_264 : List (List Nat) := [[], [], [], [], [6123], [], [], [], [], [], [7101], [], [], [], [], [], [], [], [], [], [], [], [], [], [], [], [8235], [], [], [], [], [], [], [], [], [], [], [], [], [], [], [], [], [], [9011], [], [], [], [], [], [], [], [], [], [], [], [], [], [], []]
noncomputable def cd_265 : zK := [zj (.aload 0) 1 0 0 0, zj (.getfield 0) 4 12 83 0, none, none, zi (.aconst_null) 6 0 0 0 (.int 20), none, zj (.if_icmp .eq 0) 9 46 0 0, none, none, zj (.aload 0) 10 0 0 0, zj (.iload 1) 11 1 0 0, zj (.invokevirtual 0) 14 176 1 12, none, none, zj (.ifCond .eq 0) 17 46 0 0, none, none, zj (.iload 2) 18 2 0 0, zj (.invokestatic 0) 21 172 1 0, none, none, zj (.ifCond .eq 0) 24 46 0 0, none, none, zj (.iload 3) 25 3 0 0, zj (.i2l) 26 0 0 0, zj (.iload 2) 27 2 0 0, zj (.i2l) 28 0 0 0, zi (.aconst_null) 31 0 0 0 (.long 599), none, none, zj (.invokestatic 0) 34 171 3 0, none, none, zj (.ifCond .eq 0) 37 46 0 0, none, none, zj (.aload 0) 38 0 0 0, zj (.iload 4) 40 4 0 0, none, zj (.invokevirtual 0) 43 177 1 12, none, none, zj (.ifCond .ne 0) 46 48 0 0, none, none, zi (.aconst_null) 47 0 0 0 (.int (-1)), zj (.ireturn) 48 0 0 0, zj (.aload 0) 49 0 0 0, zj (.getfield 0) 52 12 84 0, none, none, zj (.aload 0) 53 0 0 0, zj (.getfield 0) 56 12 83 0, none, none, zj (.iload 1) 57 1 0 0, zj (.iastore) 58 0 0 0, zj (.aload 0) 59 0 0 0, zj (.getfield 0) 62 12 85 0, none, none, zj (.aload 0) 63 0 0 0, zj (.getfield 0) 66 12 83 0, none, none, zj (.iload 2) 67 2 0 0, zj (.iastore) 68 0 0 0, zj (.aload 0) 69 0 0 0, zj (.getfield 0) 72 12 86 0, none, none, zj (.aload 0) 73 0 0 0, zj (.getfield 0) 76 12 83 0, none, none, zj (.iload 3) 77 3 0 0, zj (.iastore) 78 0 0 0, zj (.aload 0) 79 0 0 0, zj (.getfield 0) 82 12 87 0, none, none, zj (.aload 0) 83 0 0 0, zj (.getfield 0) 86 12 83 0, none, none, zj (.iload 4) 88 4 0 0, none, zj (.iastore) 89 0 0 0, zj (.aload 0) 90 0 0 0, zj (.dup) 91 0 0 0, zj (.getfield 0) 94 12 83 0, none, none, zi (.aconst_null) 95 0 0 0 (.int 1), zj (.iadd) 96 0 0 0, zj (.putfield 0) 99 12 83 0, none, none, zj (.aload 0) 100 0 0 0, zj (.getfield 0) 103 12 83 0, none, none, zi (.aconst_null) 104 0 0 0 (.int 1), zj (.isub) 105 0 0 0, zj (.ireturn) 106 0 0 0]
noncomputable def pp_265 : List (List Nat) := [[], [6130], [], [], [], [], [], [], [], [], [], [7133], [], [], [], [], [], [], [7141], [], [], [], [], [], [], [], [], [], [7100], [], [], [7101], [], [], [], [], [], [], [], [], [7137], [], [], [], [], [], [], [], [], [6131], [], [], [], [6130], [], [], [], [], [], [6132], [], [], [], [6130], [], [], [], [], [], [6133], [], [], [], [6130], [], [], [], [], [], [6134], [], [], [], [6130], [], [], [], [], [], [], [], [6130], [], [], [], [], [6130], [], [], [], [6130], [], [], [], [], []]
noncomputable def cd_266 : zK := [zj (.iload 1) 1 1 0 0, zj (.i2l) 2 0 0 0, zi (.aconst_null) 3 0 0 0 (.long 0), zj (.aload 0) 4 0 0 0, zj (.getfield 0) 7 12 83 0, none, none, zi (.aconst_null) 8 0 0 0 (.int 1), zj (.isub) 9 0 0 0, zj (.i2l) 10 0 0 0, zj (.invokestatic 0) 13 171 3 0, none, none, zj (.ireturn) 14 0 0 0]
noncomputable def pp_266 : List (List Nat) := [[], [], [], [], [6130], [], [], [], [], [], [7101], [], [], []]
noncomputable def cd_267 : zK := [zj (.aload 0) 1 0 0 0, zj (.getfield 0) 4 12 16 0, none, none, zj (.iload 2) 5 2 0 0, zj (.iaload) 6 0 0 0, zj (.aload 0) 7 0 0 0, zj (.getfield 0) 10 12 84 0, none, none, zj (.iload 1) 11 1 0 0, zj (.iaload) 12 0 0 0, zj (.if_icmp .ne 0) 15 46 0 0, none, none, zj (.aload 0) 16 0 0 0, zj (.getfield 0) 19 12 17 0, none, none, zj (.iload 2) 20 2 0 0, zj (.iaload) 21 0 0 0, zj (.i2l) 22 0 0 0, zj (.aload 0) 23 0 0 0, zj (.getfield 0) 26 12 85 0, none, none, zj (.iload 1) 27 1 0 0, zj (.iaload) 28 0 0 0, zj (.i2l) 29 0 0 0, zj (.aload 0) 30 0 0 0, zj (.getfield 0) 33 12 86 0, none, none, zj (.iload 1) 34 1 0 0, zj (.iaload) 35 0 0 0, zj (.i2l) 36 0 0 0, zj (.invokestatic 0) 39 171 3 0, none, none, zj (.ifCond .eq 0) 42 46 0 0, none, none, zi (.aconst_null) 43 0 0 0 (.int 1), zj (.goto 0) 46 47 0 0, none, none, zi (.aconst_null) 47 0 0 0 (.int 0), zj (.ireturn) 48 0 0 0]
noncomputable def pp_267 : List (List Nat) := [[], [6063], [], [], [], [], [], [6131], [], [], [], [], [], [], [], [], [6064], [], [], [], [], [], [], [6132], [], [], [], [], [], [], [6133], [], [], [], [], [], [7101], [], [], [], [], [], [], [], [], [], [], []]
noncomputable def cd_268 : zK := [zj (.aload 0) 1 0 0 0, zj (.iload 1) 2 1 0 0, zj (.iload 2) 3 2 0 0, zj (.invokevirtual 0) 6 267 2 12, none, none, zj (.ifCond .eq 0) 9 37 0 0, none, none, zj (.aload 0) 10 0 0 0, zj (.getfield 0) 13 12 88 0, none, none, zi (.aconst_null) 16 0 0 0 (.int 300), none, none, zj (.iload 1) 17 1 0 0, zj (.imul) 18 0 0 0, zj (.iload 2) 19 2 0 0, zj (.iadd) 20 0 0 0, zj (.iaload) 21 0 0 0, zj (.ifCond .ne 0) 24 37 0 0, none, none, zj (.aload 0) 25 0 0 0, zj (.getfield 0) 28 12 15 0, none, none, zj (.iload 2) 29 2 0 0, zj (.baload) 30 0 0 0, zj (.ifCond .ne 0) 33 37 0 0, none, none, zi (.aconst_null) 34 0 0 0 (.int 1), zj (.goto 0) 37 38 0 0, none, none, zi (.aconst_null) 38 0 0 0 (.int 0), zj (.ireturn) 39 0 0 0]
noncomputable def pp_268 : List (List Nat) := [[], [], [], [9035], [], [], [], [], [], [], [6135], [], [], [], [], [], [], [], [], [], [], [], [], [], [], [6062], [], [], [], [], [], [], [], [], [], [], [], [], []]
noncomputable def cd_269 : zK := [zj (.aload 0) 1 0 0 0, zj (.iload 1) 2 1 0 0, zj (.invokevirtual 0) 5 266 1 12, none, none, zj (.ifCond .ne 0) 8 10 0 0, none, none, zi (.aconst_null) 9 0 0 0 (.int (-1)), zj (.ireturn) 10 0 0 0, zi (.aconst_null) 11 0 0 0 (.int 0), zj (.istore 2) 12 2 0 0, zi (.aconst_null) 13 0 0 0 (.int 0), zj (.istore 3) 14 3 0 0, zj (.iload 3) 15 3 0 0, zj (.aload 0) 16 0 0 0, zj (.getfield 0) 19 12 5 0, none, none, zj (.if_icmp .ge 0) 22 74 0 0, none, none, zj (.aload 0) 23 0 0 0, zj (.iload 1) 24 1 0 0, zj (.iload 3) 25 3 0 0, zj (.invokevirtual 0) 28 268 2 12, none, none, zj (.ifCond .eq 0) 31 68 0 0, none, none, zj (.aload 0) 32 0 0 0, zj (.getfield 0) 35 12 14 0, none, none, zj (.aload 0) 36 0 0 0, zj (.iload 3) 37 3 0 0, zj (.aload 0) 38 0 0 0, zj (.getfield 0) 41 12 1 0, none, none, zj (.aload 0) 42 0 0 0, zj (.getfield 0) 45 12 1 0, none, none, zj (.invokevirtual 0) 48 186 3 12, none, none, zj (.baload) 49 0 0 0, zj (.ifCond .ne 0) 52 68 0 0, none, none, zj (.aload 0) 53 0 0 0, zj (.getfield 0) 56 12 89 0, none, none, zi (.aconst_null) 59 0 0 0 (.int 300), none, none, zj (.iload 1) 60 1 0 0, zj (.imul) 61 0 0 0, zj (.iload 3) 62 3 0 0, zj (.iadd) 63 0 0 0, zi (.aconst_null) 64 0 0 0 (.int 1), zj (.bastore) 65 0 0 0, zi (.iinc 2 1) 68 2 0 0 (.int 1), none, none, zi (.iinc 3 1) 71 3 0 0 (.int 1), none, none, zj (.goto 0) 74 14 0 0, none, none, zj (.iload 2) 75 2 0 0, zj (.ireturn) 76 0 0 0]
noncomputable def pp_269 : List (List Nat) := [[], [], [9027], [], [], [], [], [], [], [], [], [], [], [], [], [], [6052], [], [], [], [], [], [], [], [], [9031], [], [], [], [], [], [], [6061], [], [], [], [], [], [6048], [], [], [], [6048], [], [], [7164], [], [], [], [], [], [], [], [6136], [], [], [], [], [], [], [], [], [], [], [], [], [], [], [], [], [], [], [], [], [], []]
noncomputable def cd_270 : zK := [zj (.aload 0) 1 0 0 0, zj (.iload 1) 2 1 0 0, zj (.invokevirtual 0) 5 266 1 12, none, none, zj (.ifCond .eq 0) 8 25 0 0, none, none, zj (.aload 0) 9 0 0 0, zj (.iload 2) 10 2 0 0, zj (.invokevirtual 0) 13 178 1 12, none, none, zj (.ifCond .eq 0) 16 25 0 0, none, none, zj (.aload 0) 17 0 0 0, zj (.iload 1) 18 1 0 0, zj (.iload 2) 19 2 0 0, zj (.invokevirtual 0) 22 267 2 12, none, none, zj (.ifCond .ne 0) 25 27 0 0, none, none, zi (.aconst_null) 26 0 0 0 (.int (-1)), zj (.ireturn) 27 0 0 0, zj (.aload 0) 28 0 0 0, zj (.getfield 0) 31 12 89 0, none, none, zi (.aconst_null) 34 0 0 0 (.int 300), none, none, zj (.iload 1) 35 1 0 0, zj (.imul) 36 0 0 0, zj (.iload 2) 37 2 0 0, zj (.iadd) 38 0 0 0, zj (.baload) 39 0 0 0, zj (.ifCond .eq 0) 42 46 0 0, none, none, zi (.aconst_null) 43 0 0 0 (.int 1), zj (.goto 0) 46 47 0 0, none, none, zi (.aconst_null) 47 0 0 0 (.int 0), zj (.ireturn) 48 0 0 0]
noncomputable def pp_270 : List (List Nat) := [[], [], [9027], [], [], [], [], [], [], [], [7156], [], [], [], [], [], [], [], [], [9035], [], [], [], [], [], [], [], [], [6136], [], [], [], [], [], [], [], [], [], [], [], [], [], [], [], [], [], [], []]
noncomputable def cd_271 : zK := [zj (.aload 0) 1 0 0 0, zj (.iload 1) 2 1 0 0, zj (.invokevirtual 0) 5 266 1 12, none, none, zj (.ifCond .eq 0) 8 40 0 0, none, none, zj (.aload 0) 9 0 0 0, zj (.iload 2) 10 2 0 0, zj (.invokevirtual 0) 13 178 1 12, none, none, zj (.ifCond .eq 0) 16 40 0 0, none, none, zj (.aload 0) 17 0 0 0, zj (.iload 1) 18 1 0 0, zj (.iload 2) 19 2 0 0, zj (.invokevirtual 0) 22 268 2 12, none, none, zj (.ifCond .eq 0) 25 40 0 0, none, none, zj (.aload 0) 26 0 0 0, zj (.getfield 0) 29 12 89 0, none, none, zi (.aconst_null) 32 0 0 0 (.int 300), none, none, zj (.iload 1) 33 1 0 0, zj (.imul) 34 0 0 0, zj (.iload 2) 35 2 0 0, zj (.iadd) 36 0 0 0, zj (.baload) 37 0 0 0, zj (.ifCond .ne 0) 40 42 0 0, none, none, zi (.aconst_null) 41 0 0 0 (.int 0), zj (.ireturn) 42 0 0 0, zj (.aload 0) 43 0 0 0, zj (.getfield 0) 46 12 88 0, none, none, zi (.aconst_null) 49 0 0 0 (.int 300), none, none, zj (.iload 1) 50 1 0 0, zj (.imul) 51 0 0 0, zj (.iload 2) 52 2 0 0, zj (.iadd) 53 0 0 0, zj (.aload 0) 54 0 0 0, zj (.getfield 0) 57 12 1 0, none, none, zi (.aconst_null) 58 0 0 0 (.int 1), zj (.iadd) 59 0 0 0, zj (.iastore) 60 0 0 0, zi (.aconst_null) 61 0 0 0 (.int 1), zj (.ireturn) 62 0 0 0]
noncomputable def pp_271 : List (List Nat) := [[], [], [9027], [], [], [], [], [], [], [], [7156], [], [], [], [], [], [], [], [], [9031], [], [], [], [], [], [], [6136], [], [], [], [], [], [], [], [], [], [], [], [], [], [], [], [], [6135], [], [], [], [], [], [], [], [], [], [], [6048], [], [], [], [], [], [], []]
noncomputable def cd_272 : zK := [zj (.aload 0) 1 0 0 0, zj (.iload 1) 2 1 0 0, zj (.invokevirtual 0) 5 266 1 12, none, none, zj (.ifCond .ne 0) 8 10 0 0, none, none, zi (.aconst_null) 9 0 0 0 (.int (-1)), zj (.ireturn) 10 0 0 0, zi (.aconst_null) 11 0 0 0 (.int 0), zj (.istore 3) 12 3 0 0, zi (.aconst_null) 13 0 0 0 (.int 0), zj (.istore 4) 15 4 0 0, none, zj (.iload 4) 17 4 0 0, none, zj (.aload 0) 18 0 0 0, zj (.getfield 0) 21 12 5 0, none, none, zj (.if_icmp .ge 0) 24 51 0 0, none, none, zj (.aload 0) 25 0 0 0, zj (.iload 1) 26 1 0 0, zj (.iload 4) 28 4 0 0, none, zj (.invokevirtual 0) 31 268 2 12, none, none, zj (.ifCond .eq 0) 34 45 0 0, none, none, zj (.iload 3) 35 3 0 0, zj (.iload 2) 36 2 0 0, zj (.if_icmp .ne 0) 39 42 0 0, none, none, zj (.iload 4) 41 4 0 0, none, zj (.ireturn) 42 0 0 0, zi (.iinc 3 1) 45 3 0 0 (.int 1), none, none, zi (.iinc 4 1) 48 4 0 0 (.int 1), none, none, zj (.goto 0) 51 15 0 0, none, none, zj (.iload 2) 52 2 0 0, zi (.aconst_null) 53 0 0 0 (.int (-1)), zj (.if_icmp .ne 0) 56 60 0 0, none, none, zj (.iload 3) 57 3 0 0, zj (.goto 0) 60 61 0 0, none, none, zi (.aconst_null) 61 0 0 0 (.int (-1)), zj (.ireturn) 62 0 0 0]
noncomputable def pp_272 : List (List Nat) := [[], [], [9027], [], [], [], [], [], [], [], [], [], [], [], [], [], [], [], [6052], [], [], [], [], [], [], [], [], [], [9031], [], [], [], [], [], [], [], [], [], [], [], [], [], [], [], [], [], [], [], [], [], [], [], [], [], [], [], [], [], [], [], [], []]
noncomputable def cd_273 : zK := [zj (.aload 0) 1 0 0 0, zj (.iload 1) 2 1 0 0, zj (.invokevirtual 0) 5 175 1 12, none, none, zj (.ifCond .eq 0) 8 18 0 0, none, none, zj (.aload 0) 9 0 0 0, zj (.getfield 0) 12 12 14 0, none, none, zj (.iload 1) 13 1 0 0, zj (.baload) 14 0 0 0, zj (.iload 2) 15 2 0 0, zj (.if_icmp .ne 0) 18 20 0 0, none, none, zi (.aconst_null) 19 0 0 0 (.int 0), zj (.ireturn) 20 0 0 0, zj (.aload 0) 21 0 0 0, zj (.getfield 0) 24 12 14 0, none, none, zj (.iload 1) 25 1 0 0, zj (.iload 2) 26 2 0 0, zj (.bastore) 27 0 0 0, zi (.aconst_null) 28 0 0 0 (.int 1), zj (.ireturn) 29 0 0 0]
noncomputable def pp_273 : List (List Nat) := [[], [], [7148], [], [], [], [], [], [], [6061], [], [], [], [], [], [], [], [], [], [], [], [6061], [], [], [], [], [], [], []]
noncomputable def cd_274 : zK := [zj (.iload 1) 1 1 0 0, zj (.i2l) 2 0 0 0, zi (.aconst_null) 3 0 0 0 (.long 0), zj (.aload 0) 4 0 0 0, zj (.getfield 0) 7 12 59 0, none, none, zi (.aconst_null) 8 0 0 0 (.int 1), zj (.isub) 9 0 0 0, zj (.i2l) 10 0 0 0, zj (.invokestatic 0) 13 171 3 0, none, none, zj (.ifCond .eq 0) 16 25 0 0, none, none, zj (.aload 0) 17 0 0 0, zj (.getfield 0) 20 12 66 0, none, none, zj (.iload 1) 21 1 0 0, zj (.baload) 22 0 0 0, zj (.ifCond .ne 0) 25 29 0 0, none, none, zi (.aconst_null) 28 0 0 0 (.long (-1)), none, none, zj (.lreturn) 29 0 0 0, zj (.aload 0) 30 0 0 0, zj (.aload 0) 31 0 0 0, zj (.getfield 0) 34 12 1 0, none, none, zj (.invokevirtual 0) 37 226 1 12, none, none, zj (.istore 2) 38 2 0 0, zj (.iload 2) 39 2 0 0, zi (.aconst_null) 40 0 0 0 (.int (-1)), zj (.if_icmp .ne 0) 43 45 0 0, none, none, zi (.aconst_null) 44 0 0 0 (.long 0), zj (.lreturn) 45 0 0 0, zj (.aload 0) 46 0 0 0, zj (.getfield 0) 49 12 60 0, none, none, zj (.iload 1) 50 1 0 0, zj (.iaload) 51 0 0 0, zj (.istore 3) 52 3 0 0, zj (.aload 0) 53 0 0 0, zj (.getfield 0) 56 12 16 0, none, none, zj (.iload 3) 57 3 0 0, zj (.iaload) 58 0 0 0, zj (.istore 4) 60 4 0 0, none, zi (.aconst_null) 61 0 0 0 (.int 0), zj (.istore 5) 63 5 0 0, none, zi (.aconst_null) 64 0 0 0 (.int 0), zj (.istore 6) 66 6 0 0, none, zj (.iload 6) 68 6 0 0, none, zj (.aload 0) 69 0 0 0, zj (.getfield 0) 72 12 2 0, none, none, zj (.if_icmp .ge 0) 75 147 0 0, none, none, zj (.aload 0) 76 0 0 0, zj (.getfield 0) 79 12 7 0, none, none, zj (.iload 6) 81 6 0 0, none, zj (.iaload) 82 0 0 0, zj (.aload 0) 83 0 0 0, zj (.getfield 0) 86 12 9 0, none, none, zj (.iload 4) 88 4 0 0, none, zj (.iaload) 89 0 0 0, zj (.if_icmp .ne 0) 92 109 0 0, none, none, zj (.aload 0) 93 0 0 0, zj (.iload 6) 95 6 0 0, none, zj (.iload 4) 97 4 0 0, none, zj (.aload 0) 98 0 0 0, zj (.getfield 0) 101 12 62 0, none, none, zj (.iload 1) 102 1 0 0, zj (.iaload) 103 0 0 0, zj (.invokevirtual 0) 106 242 3 12, none, none, zj (.goto 0) 109 110 0 0, none, none, zi (.aconst_null) 110 0 0 0 (.int (-1)), zj (.istore 7) 112 7 0 0, none, zj (.iload 5) 114 5 0 0, none, zj (.ifCond .ne 0) 117 134 0 0, none, none, zj (.iload 7) 119 7 0 0, none, zi (.aconst_null) 120 0 0 0 (.int (-1)), zj (.if_icmp .eq 0) 123 138 0 0, none, none, zj (.iload 7) 125 7 0 0, none, zj (.aload 0) 126 0 0 0, zj (.getfield 0) 129 12 61 0, none, none, zj (.iload 1) 130 1 0 0, zj (.iaload) 131 0 0 0, zj (.if_icmp .gt 0) 134 138 0 0, none, none, zi (.aconst_null) 135 0 0 0 (.int 1), zj (.goto 0) 138 139 0 0, none, none, zi (.aconst_null) 139 0 0 0 (.int 0), zj (.istore 5) 141 5 0 0, none, zi (.iinc 6 1) 144 6 0 0 (.int 1), none, none, zj (.goto 0) 147 66 0 0, none, none, zi (.aconst_null) 148 0 0 0 (.int (-1)), zj (.istore 6) 150 6 0 0, none, zi (.aconst_null) 151 0 0 0 (.int 0), zj (.istore 7) 153 7 0 0, none, zj (.iload 7) 155 7 0 0, none, zj (.aload 0) 156 0 0 0, zj (.getfield 0) 159 12 4 0, none, none, zj (.if_icmp .ge 0) 162 240 0 0, none, none, zj (.aload 0) 163 0 0 0, zj (.iload 3) 164 3 0 0, zj (.aload 0) 165 0 0 0, zj (.getfield 0) 168 12 61 0, none, none, zj (.iload 1) 169 1 0 0, zj (.iaload) 170 0 0 0, zj (.aload 0) 171 0 0 0, zj (.getfield 0) 174 12 62 0, none, none, zj (.iload 1) 175 1 0 0, zj (.iaload) 176 0 0 0, zj (.aload 0) 177 0 0 0, zj (.getfield 0) 180 12 63 0, none, none, zj (.iload 1) 181 1 0 0, zj (.iaload) 182 0 0 0, zj (.iload 7) 184 7 0 0, none, zj (.invokevirtual 0) 187 194 5 12, none, none, zj (.ifCond .ne 0) 190 194 0 0, none, none, zi (.aconst_null) 191 0 0 0 (.int 1), zj (.goto 0) 194 195 0 0, none, none, zi (.aconst_null) 195 0 0 0 (.int 0), zj (.istore 8) 197 8 0 0, none, zj (.iload 8) 199 8 0 0, none, zj (.ifCond .eq 0) 202 230 0 0, none, none, zj (.iload 6) 204 6 0 0, none, zi (.aconst_null) 205 0 0 0 (.int (-1)), zj (.if_icmp .eq 0) 208 220 0 0, none, none, zj (.aload 0) 209 0 0 0, zj (.getfield 0) 212 12 11 0, none, none, zj (.iload 7) 214 7 0 0, none, zj (.iaload) 215 0 0 0, zj (.iload 6) 217 6 0 0, none, zj (.if_icmp .ge 0) 220 230 0 0, none, none, zj (.aload 0) 221 0 0 0, zj (.getfield 0) 224 12 11 0, none, none, zj (.iload 7) 226 7 0 0, none, zj (.iaload) 227 0 0 0, zj (.goto 0) 230 232 0 0, none, none, zj (.iload 6) 232 6 0 0, none, zj (.istore 6) 234 6 0 0, none, zi (.iinc 7 1) 237 7 0 0 (.int 1), none, none, zj (.goto 0) 240 153 0 0, none, none, zj (.aload 0) 241 0 0 0, zj (.iload 4) 243 4 0 0, none, zj (.aload 0) 244 0 0 0, zj (.getfield 0) 247 12 1 0, none, none, zj (.aload 0) 248 0 0 0, zj (.getfield 0) 251 12 17 0, none, none, zj (.iload 3) 252 3 0 0, zj (.iaload) 253 0 0 0, zj (.invokevirtual 0) 256 228 3 12, none, none, zj (.aload 0) 257 0 0 0, zj (.getfield 0) 260 12 48 0, none, none, zi (.aconst_null) 262 0 0 0 (.int 7), none, zj (.aload 0) 263 0 0 0, zj (.getfield 0) 266 12 64 0, none, none, zj (.iload 1) 267 1 0 0, zj (.iaload) 268 0 0 0, zj (.i2l) 269 0 0 0, zj (.lastore) 270 0 0 0, zj (.aload 0) 271 0 0 0, zj (.getfield 0) 274 12 48 0, none, none, zi (.aconst_null) 276 0 0 0 (.int 8), none, zj (.aload 0) 277 0 0 0, zj (.getfield 0) 280 12 63 0, none, none, zj (.iload 1) 281 1 0 0, zj (.iaload) 282 0 0 0, zj (.i2l) 283 0 0 0, zj (.lastore) 284 0 0 0, zj (.aload 0) 285 0 0 0, zj (.getfield 0) 288 12 48 0, none, none, zi (.aconst_null) 290 0 0 0 (.int 9), none, zj (.aload 0) 291 0 0 0, zj (.getfield 0) 294 12 62 0, none, none, zj (.iload 1) 295 1 0 0, zj (.iaload) 296 0 0 0, zj (.i2l) 297 0 0 0, zj (.lastore) 298 0 0 0, zj (.aload 0) 299 0 0 0, zj (.getfield 0) 302 12 48 0, none, none, zi (.aconst_null) 304 0 0 0 (.int 10), none, zj (.iload 5) 306 5 0 0, none, zj (.ifCond .eq 0) 309 313 0 0, none, none, zi (.aconst_null) 310 0 0 0 (.long 1), zj (.goto 0) 313 314 0 0, none, none, zi (.aconst_null) 314 0 0 0 (.long 0), zj (.lastore) 315 0 0 0, zj (.aload 0) 316 0 0 0, zj (.getfield 0) 319 12 48 0, none, none, zi (.aconst_null) 321 0 0 0 (.int 11), none, zj (.iload 6) 323 6 0 0, none, zi (.aconst_null) 324 0 0 0 (.int (-1)), zj (.if_icmp .ne 0) 327 331 0 0, none, none, zi (.aconst_null) 328 0 0 0 (.long 0), zj (.goto 0) 331 334 0 0, none, none, zj (.iload 6) 333 6 0 0, none, zj (.i2l) 334 0 0 0, zj (.lastore) 335 0 0 0, zj (.aload 0) 336 0 0 0, zj (.iload 2) 337 2 0 0, zi (.aconst_null) 338 0 0 0 (.int 1), zi (.aconst_null) 339 0 0 0 (.int 0), zj (.invokevirtual 0) 342 232 3 12, none, none, zj (.istore 7) 344 7 0 0, none, zj (.aload 0) 345 0 0 0, zj (.iload 2) 346 2 0 0, zi (.aconst_null) 347 0 0 0 (.int 2), zi (.aconst_null) 348 0 0 0 (.int 0), zj (.invokevirtual 0) 351 232 3 12, none, none, zj (.istore 8) 353 8 0 0, none, zj (.iload 7) 355 7 0 0, none, zi (.aconst_null) 356 0 0 0 (.int (-1)), zj (.if_icmp .ne 0) 359 363 0 0, none, none, zi (.aconst_null) 360 0 0 0 (.long 0), zj (.goto 0) 363 382 0 0, none, none, zj (.aload 0) 364 0 0 0, zj (.iload 2) 365 2 0 0, zj (.aload 0) 366 0 0 0, zj (.getfield 0) 369 12 40 0, none, none, zj (.iload 7) 371 7 0 0, none, zj (.iaload) 372 0 0 0, zj (.aload 0) 373 0 0 0, zj (.getfield 0) 376 12 41 0, none, none, zj (.iload 7) 378 7 0 0, none, zj (.iaload) 379 0 0 0, zj (.invokevirtual 0) 382 231 3 12, none, none, zj (.lstore 9) 384 9 0 0, none, zj (.lload 9) 386 9 0 0, none, zi (.aconst_null) 387 0 0 0 (.long 0), zj (.lcmp) 388 0 0 0, zj (.ifCond .ge 0) 391 395 0 0, none, none, zi (.aconst_null) 392 0 0 0 (.long 0), zj (.goto 0) 395 397 0 0, none, none, zj (.lload 9) 397 9 0 0, none, zj (.lstore 9) 399 9 0 0, none, zj (.iload 8) 401 8 0 0, none, zi (.aconst_null) 402 0 0 0 (.int (-1)), zj (.if_icmp .ne 0) 405 408 0 0, none, none, zj (.lload 9) 407 9 0 0, none, zj (.lreturn) 408 0 0 0, zj (.aload 0) 409 0 0 0, zj (.iload 2) 410 2 0 0, zj (.aload 0) 411 0 0 0, zj (.getfield 0) 414 12 40 0, none, none, zj (.iload 8) 416 8 0 0, none, zj (.iaload) 417 0 0 0, zj (.aload 0) 418 0 0 0, zj (.getfield 0) 421 12 41 0, none, none, zj (.iload 8) 423 8 0 0, none, zj (.iaload) 424 0 0 0, zj (.invokevirtual 0) 427 231 3 12, none, none, zj (.lstore 11) 429 11 0 0, none, zj (.lload 11) 431 11 0 0, none, zi (.aconst_null) 432 0 0 0 (.long 0), zj (.lcmp) 433 0 0 0, zj (.ifCond .ge 0) 436 440 0 0, none, none, zi (.aconst_null) 437 0 0 0 (.long 0), zj (.goto 0) 440 442 0 0, none, none, zj (.lload 11) 442 11 0 0, none, zj (.lstore 11) 444 11 0 0, none, zj (.lload 9) 446 9 0 0, none, zj (.lload 11) 448 11 0 0, none, zj (.lcmp) 449 0 0 0, zj (.ifCond .le 0) 452 457 0 0, none, none, zj (.lload 11) 454 11 0 0, none, zj (.goto 0) 457 459 0 0, none, none, zj (.lload 9) 459 9 0 0, none, zj (.lreturn) 460 0 0 0]
noncomputable def pp_274 : List (List Nat) := [[], [], [], [], [6106], [], [], [], [], [], [7101], [], [], [], [], [], [], [6113], [], [], [], [], [], [], [], [7108], [], [], [], [], [], [6048], [], [], [8105], [], [], [], [], [], [], [], [], [], [], [], [6107], [], [], [], [], [], [], [6063], [], [], [], [], [], [], [], [], [], [], [], [], [], [], [], [6049], [], [], [], [], [], [], [6054], [], [], [], [], [], [], [6056], [], [], [], [], [], [], [], [], [], [], [], [], [], [], [6109], [], [], [], [], [8167], [], [], [], [], [], [], [], [], [], [], [], [], [], [], [], [], [], [], [], [], [], [], [6108], [], [], [], [], [], [], [], [], [], [], [], [], [], [], [], [], [], [], [], [], [], [], [], [], [], [], [], [], [], [6051], [], [], [], [], [], [], [], [], [6108], [], [], [], [], [], [6109], [], [], [], [], [], [6110], [], [], [], [], [], [], [7193], [], [], [], [], [], [], [], [], [], [], [], [], [], [], [], [], [], [], [], [], [], [], [], [], [6058], [], [], [], [], [], [], [], [], [], [], [], [6058], [], [], [], [], [], [], [], [], [], [], [], [], [], [], [], [], [], [], [], [], [], [], [6048], [], [], [], [6064], [], [], [], [], [8121], [], [], [], [6095], [], [], [], [], [], [6111], [], [], [], [], [], [], [], [6095], [], [], [], [], [], [6110], [], [], [], [], [], [], [], [6095], [], [], [], [], [], [6109], [], [], [], [], [], [], [], [6095], [], [], [], [], [], [], [], [], [], [], [], [], [], [], [], [], [6095], [], [], [], [], [], [], [], [], [], [], [], [], [], [], [], [], [], [], [], [], [], [], [8125], [], [], [], [], [], [], [], [], [8125], [], [], [], [], [], [], [], [], [], [], [], [], [], [], [], [], [], [6087], [], [], [], [], [], [], [6088], [], [], [], [], [], [8129], [], [], [], [], [], [], [], [], [], [], [], [], [], [], [], [], [], [], [], [], [], [], [], [], [], [], [], [], [], [], [], [6087], [], [], [], [], [], [], [6088], [], [], [], [], [], [8129], [], [], [], [], [], [], [], [], [], [], [], [], [], [], [], [], [], [], [], [], [], [], [], [], [], [], [], [], [], [], [], [], [], [], []]
noncomputable def cd_275 : zK := [zj (.aload 0) 1 0 0 0, zj (.getfield 0) 4 12 90 0, none, none, zi (.aconst_null) 6 0 0 0 (.int 9), none, zj (.if_icmp .eq 0) 9 33 0 0, none, none, zj (.iload 1) 10 1 0 0, zj (.i2l) 11 0 0 0, zi (.aconst_null) 12 0 0 0 (.long 0), zi (.aconst_null) 15 0 0 0 (.long 99999), none, none, zj (.invokestatic 0) 18 171 3 0, none, none, zj (.ifCond .eq 0) 21 33 0 0, none, none, zj (.iload 2) 22 2 0 0, zj (.i2l) 23 0 0 0, zi (.aconst_null) 24 0 0 0 (.long 0), zi (.aconst_null) 27 0 0 0 (.long 999), none, none, zj (.invokestatic 0) 30 171 3 0, none, none, zj (.ifCond .ne 0) 33 35 0 0, none, none, zi (.aconst_null) 34 0 0 0 (.int (-1)), zj (.ireturn) 35 0 0 0, zj (.aload 0) 36 0 0 0, zj (.getfield 0) 39 12 93 0, none, none, zj (.aload 0) 40 0 0 0, zj (.getfield 0) 43 12 90 0, none, none, zj (.iload 1) 44 1 0 0, zj (.iastore) 45 0 0 0, zj (.aload 0) 46 0 0 0, zj (.getfield 0) 49 12 94 0, none, none, zj (.aload 0) 50 0 0 0, zj (.getfield 0) 53 12 90 0, none, none, zj (.iload 2) 54 2 0 0, zj (.iastore) 55 0 0 0, zj (.aload 0) 56 0 0 0, zj (.dup) 57 0 0 0, zj (.getfield 0) 60 12 90 0, none, none, zi (.aconst_null) 61 0 0 0 (.int 1), zj (.iadd) 62 0 0 0, zj (.putfield 0) 65 12 90 0, none, none, zj (.aload 0) 66 0 0 0, zj (.getfield 0) 69 12 90 0, none, none, zi (.aconst_null) 70 0 0 0 (.int 1), zj (.isub) 71 0 0 0, zj (.ireturn) 72 0 0 0]
noncomputable def pp_275 : List (List Nat) := [[], [6137], [], [], [], [], [], [], [], [], [], [], [7123], [], [], [7101], [], [], [], [], [], [], [], [], [7118], [], [], [7101], [], [], [], [], [], [], [], [], [6140], [], [], [], [6137], [], [], [], [], [], [6141], [], [], [], [6137], [], [], [], [], [], [], [6137], [], [], [], [], [6137], [], [], [], [6137], [], [], [], [], []]
noncomputable def cd_276 : zK := [zj (.iload 1) 1 1 0 0, zj (.i2l) 2 0 0 0, zi (.aconst_null) 3 0 0 0 (.long 0), zj (.aload 0) 4 0 0 0, zj (.getfield 0) 7 12 90 0, none, none, zi (.aconst_null) 8 0 0 0 (.int 1), zj (.isub) 9 0 0 0, zj (.i2l) 10 0 0 0, zj (.invokestatic 0) 13 171 3 0, none, none, zj (.ifCond .eq 0) 16 49 0 0, none, none, zj (.iload 2) 17 2 0 0, zj (.i2l) 18 0 0 0, zi (.aconst_null) 19 0 0 0 (.long 0), zj (.aload 0) 20 0 0 0, zj (.getfield 0) 23 12 90 0, none, none, zi (.aconst_null) 24 0 0 0 (.int 1), zj (.isub) 25 0 0 0, zj (.i2l) 26 0 0 0, zj (.invokestatic 0) 29 171 3 0, none, none, zj (.ifCond .eq 0) 32 49 0 0, none, none, zj (.iload 1) 33 1 0 0, zj (.iload 2) 34 2 0 0, zj (.if_icmp .eq 0) 37 49 0 0, none, none, zj (.iload 3) 38 3 0 0, zj (.i2l) 39 0 0 0, zi (.aconst_null) 40 0 0 0 (.long 0), zi (.aconst_null) 43 0 0 0 (.long 999), none, none, zj (.invokestatic 0) 46 171 3 0, none, none, zj (.ifCond .ne 0) 49 51 0 0, none, none, zi (.aconst_null) 50 0 0 0 (.int (-1)), zj (.ireturn) 51 0 0 0, zj (.aload 0) 52 0 0 0, zj (.getfield 0) 55 12 95 0, none, none, zi (.aconst_null) 57 0 0 0 (.int 9), none, zj (.iload 1) 58 1 0 0, zj (.imul) 59 0 0 0, zj (.iload 2) 60 2 0 0, zj (.iadd) 61 0 0 0, zj (.iaload) 62 0 0 0, zj (.istore 4) 64 4 0 0, none, zj (.aload 0) 65 0 0 0, zj (.getfield 0) 68 12 95 0, none, none, zi (.aconst_null) 70 0 0 0 (.int 9), none, zj (.iload 1) 71 1 0 0, zj (.imul) 72 0 0 0, zj (.iload 2) 73 2 0 0, zj (.iadd) 74 0 0 0, zj (.iload 3) 75 3 0 0, zj (.iastore) 76 0 0 0, zj (.aload 0) 77 0 0 0, zj (.getfield 0) 80 12 95 0, none, none, zi (.aconst_null) 82 0 0 0 (.int 9), none, zj (.iload 2) 83 2 0 0, zj (.imul) 84 0 0 0, zj (.iload 1) 85 1 0 0, zj (.iadd) 86 0 0 0, zj (.iload 3) 87 3 0 0, zj (.iastore) 88 0 0 0, zj (.iload 4) 90 4 0 0, none, zj (.ireturn) 91 0 0 0]
noncomputable def pp_276 : List (List Nat) := [[], [], [], [], [6137], [], [], [], [], [], [7101], [], [], [], [], [], [], [], [], [], [6137], [], [], [], [], [], [7101], [], [], [], [], [], [], [], [], [], [], [], [], [], [7118], [], [], [7101], [], [], [], [], [], [], [], [], [6142], [], [], [], [], [], [], [], [], [], [], [], [], [6142], [], [], [], [], [], [], [], [], [], [], [], [6142], [], [], [], [], [], [], [], [], [], [], [], [], []]
noncomputable def cd_277 : zK := [zj (.iload 1) 1 1 0 0, zj (.i2l) 2 0 0 0, zi (.aconst_null) 3 0 0 0 (.long 0), zi (.aconst_null) 6 0 0 0 (.long 999999), none, none, zj (.invokestatic 0) 9 171 3 0, none, none, zj (.ifCond .ne 0) 12 14 0 0, none, none, zi (.aconst_null) 13 0 0 0 (.int (-1)), zj (.ireturn) 14 0 0 0, zi (.aconst_null) 15 0 0 0 (.int 0), zj (.istore 2) 16 2 0 0, zj (.aload 0) 17 0 0 0, zi (.aconst_null) 18 0 0 0 (.int 0), zj (.putfield 0) 21 12 91 0, none, none, zj (.aload 0) 22 0 0 0, zi (.aconst_null) 23 0 0 0 (.int 0), zj (.putfield 0) 26 12 92 0, none, none, zi (.aconst_null) 27 0 0 0 (.int 1), zj (.istore 3) 28 3 0 0, zj (.iload 3) 29 3 0 0, zi (.aconst_null) 30 0 0 0 (.int 1), zj (.aload 0) 31 0 0 0, zj (.getfield 0) 34 12 90 0, none, none, zj (.ishl) 35 0 0 0, zj (.if_icmp .ge 0) 38 191 0 0, none, none, zi (.aconst_null) 39 0 0 0 (.int 0), zj (.istore 4) 41 4 0 0, none, zi (.aconst_null) 42 0 0 0 (.int 0), zj (.istore 5) 44 5 0 0, none, zi (.aconst_null) 45 0 0 0 (.int 0), zj (.istore 6) 47 6 0 0, none, zj (.iload 6) 49 6 0 0, none, zj (.aload 0) 50 0 0 0, zj (.getfield 0) 53 12 90 0, none, none, zj (.if_icmp .ge 0) 56 144 0 0, none, none, zj (.iload 3) 57 3 0 0, zj (.iload 6) 59 6 0 0, none, zj (.ishr) 60 0 0 0, zi (.aconst_null) 61 0 0 0 (.int 1), zj (.iand) 62 0 0 0, zi (.aconst_null) 63 0 0 0 (.int 1), zj (.if_icmp .ne 0) 66 138 0 0, none, none, zj (.iload 4) 68 4 0 0, none, zj (.aload 0) 69 0 0 0, zj (.getfield 0) 72 12 93 0, none, none, zj (.iload 6) 74 6 0 0, none, zj (.iaload) 75 0 0 0, zj (.iadd) 76 0 0 0, zj (.istore 4) 78 4 0 0, none, zj (.iload 5) 80 5 0 0, none, zj (.aload 0) 81 0 0 0, zj (.getfield 0) 84 12 94 0, none, none, zj (.iload 6) 86 6 0 0, none, zj (.iaload) 87 0 0 0, zj (.iadd) 88 0 0 0, zj (.istore 5) 90 5 0 0, none, zi (.aconst_null) 91 0 0 0 (.int 0), zj (.istore 7) 93 7 0 0, none, zj (.iload 7) 95 7 0 0, none, zj (.iload 6) 97 6 0 0, none, zj (.if_icmp .ge 0) 100 138 0 0, none, none, zj (.iload 5) 102 5 0 0, none, zj (.iload 3) 103 3 0 0, zj (.iload 7) 105 7 0 0, none, zj (.ishr) 106 0 0 0, zi (.aconst_null) 107 0 0 0 (.int 1), zj (.iand) 108 0 0 0, zi (.aconst_null) 109 0 0 0 (.int 1), zj (.if_icmp .ne 0) 112 128 0 0, none, none, zj (.aload 0) 113 0 0 0, zj (.getfield 0) 116 12 95 0, none, none, zi (.aconst_null) 118 0 0 0 (.int 9), none, zj (.iload 6) 120 6 0 0, none, zj (.imul) 121 0 0 0, zj (.iload 7) 123 7 0 0, none, zj (.iadd) 124 0 0 0, zj (.iaload) 125 0 0 0, zj (.goto 0) 128 129 0 0, none, none, zi (.aconst_null) 129 0 0 0 (.int 0), zj (.isub) 130 0 0 0, zj (.istore 5) 132 5 0 0, none, zi (.iinc 7 1) 135 7 0 0 (.int 1), none, none, zj (.goto 0) 138 93 0 0, none, none, zi (.iinc 6 1) 141 6 0 0 (.int 1), none, none, zj (.goto 0) 144 47 0 0, none, none, zj (.iload 4) 146 4 0 0, none, zj (.iload 1) 147 1 0 0, zj (.if_icmp .gt 0) 150 185 0 0, none, none, zj (.iload 5) 152 5 0 0, none, zj (.iload 2) 153 2 0 0, zj (.if_icmp .gt 0) 156 171 0 0, none, none, zj (.iload 5) 158 5 0 0, none, zj (.iload 2) 159 2 0 0, zj (.if_icmp .ne 0) 162 185 0 0, none, none, zj (.iload 4) 164 4 0 0, none, zj (.aload 0) 165 0 0 0, zj (.getfield 0) 168 12 92 0, none, none, zj (.if_icmp .ge 0) 171 185 0 0, none, none, zj (.iload 5) 173 5 0 0, none, zj (.istore 2) 174 2 0 0, zj (.aload 0) 175 0 0 0, zj (.iload 3) 176 3 0 0, zj (.putfield 0) 179 12 91 0, none, none, zj (.aload 0) 180 0 0 0, zj (.iload 4) 182 4 0 0, none, zj (.putfield 0) 185 12 92 0, none, none, zi (.iinc 3 1) 188 3 0 0 (.int 1), none, none, zj (.goto 0) 191 28 0 0, none, none, zj (.iload 2) 192 2 0 0, zj (.ireturn) 193 0 0 0]
noncomputable def pp_277 : List (List Nat) := [[], [], [], [8199], [], [], [7101], [], [], [], [], [], [], [], [], [], [], [], [6138], [], [], [], [], [6139], [], [], [], [], [], [], [], [6137], [], [], [], [], [], [], [], [], [], [], [], [], [], [], [], [], [], [], [6137], [], [], [], [], [], [], [], [], [], [], [], [], [], [], [], [], [], [], [6140], [], [], [], [], [], [], [], [], [], [], [], [6141], [], [], [], [], [], [], [], [], [], [], [], [], [], [], [], [], [], [], [], [], [], [], [], [], [], [], [], [], [], [], [], [6142], [], [], [], [], [], [], [], [], [], [], [], [], [], [], [], [], [], [], [], [], [], [], [], [], [], [], [], [], [], [], [], [], [], [], [], [], [], [], [], [], [], [], [], [], [], [], [], [], [], [], [], [6139], [], [], [], [], [], [], [], [], [], [], [6138], [], [], [], [], [], [6139], [], [], [], [], [], [], [], [], [], []]
noncomputable def cd_278 : zK := [zj (.aload 0) 1 0 0 0, zj (.getfield 0) 4 12 91 0, none, none, zi (.aconst_null) 5 0 0 0 (.int (-1)), zj (.if_icmp .ne 0) 8 12 0 0, none, none, zi (.aconst_null) 9 0 0 0 (.int (-1)), zj (.goto 0) 12 36 0 0, none, none, zj (.iload 1) 13 1 0 0, zj (.ifCond .ne 0) 16 23 0 0, none, none, zj (.aload 0) 17 0 0 0, zj (.getfield 0) 20 12 91 0, none, none, zj (.goto 0) 23 36 0 0, none, none, zj (.iload 1) 24 1 0 0, zi (.aconst_null) 25 0 0 0 (.int 1), zj (.if_icmp .ne 0) 28 35 0 0, none, none, zj (.aload 0) 29 0 0 0, zj (.getfield 0) 32 12 92 0, none, none, zj (.goto 0) 35 36 0 0, none, none, zi (.aconst_null) 36 0 0 0 (.int (-1)), zj (.ireturn) 37 0 0 0]
noncomputable def pp_278 : List (List Nat) := [[], [6138], [], [], [], [], [], [], [], [], [], [], [], [], [], [], [], [6138], [], [], [], [], [], [], [], [], [], [], [], [6139], [], [], [], [], [], [], []]
noncomputable def cd_279 : zK := [zj (.iload 1) 1 1 0 0, zj (.tableswitch 124 0 11 #[64, 69, 74, 79, 84, 89, 94, 99, 104, 109, 114, 119]) 64 0 0 0, none, none, none, none, none, none, none, none, none, none, none, none, none, none, none, none, none, none, none, none, none, none, none, none, none, none, none, none, none, none, none, none, none, none, none, none, none, none, none, none, none, none, none, none, none, none, none, none, none, none, none, none, none, none, none, none, none, none, none, none, none, none, zj (.aload 0) 65 0 0 0, zj (.getfield 0) 68 12 1 0, none, none, zj (.ireturn) 69 0 0 0, zj (.aload 0) 70 0 0 0, zj (.getfield 0) 73 12 2 0, none, none, zj (.ireturn) 74 0 0 0, zj (.aload 0) 75 0 0 0, zj (.getfield 0) 78 12 3 0, none, none, zj (.ireturn) 79 0 0 0, zj (.aload 0) 80 0 0 0, zj (.getfield 0) 83 12 4 0, none, none, zj (.ireturn) 84 0 0 0, zj (.aload 0) 85 0 0 0, zj (.getfield 0) 88 12 5 0, none, none, zj (.ireturn) 89 0 0 0, zj (.aload 0) 90 0 0 0, zj (.getfield 0) 93 12 30 0, none, none, zj (.ireturn) 94 0 0 0, zj (.aload 0) 95 0 0 0, zj (.getfield 0) 98 12 50 0, none, none, zj (.ireturn) 99 0 0 0, zj (.aload 0) 100 0 0 0, zj (.getfield 0) 103 12 59 0, none, none, zj (.ireturn) 104 0 0 0, zj (.aload 0) 105 0 0 0, zj (.getfield 0) 108 12 71 0, none, none, zj (.ireturn) 109 0 0 0, zj (.aload 0) 110 0 0 0, zj (.getfield 0) 113 12 76 0, none, none, zj (.ireturn) 114 0 0 0, zj (.aload 0) 115 0 0 0, zj (.getfield 0) 118 12 83 0, none, none, zj (.ireturn) 119 0 0 0, zj (.aload 0) 120 0 0 0, zj (.getfield 0) 123 12 27 0, none, none, zj (.ireturn) 124 0 0 0, zi (.aconst_null) 125 0 0 0 (.int (-1)), zj (.ireturn) 126 0 0 0]
noncomputable def pp_279 : List (List Nat) := [[], [], [], [], [], [], [], [], [], [], [], [], [], [], [], [], [], [], [], [], [], [], [], [], [], [], [], [], [], [], [], [], [], [], [], [], [], [], [], [], [], [], [], [], [], [], [], [], [], [], [], [], [], [], [], [], [], [], [], [], [], [], [], [], [], [6048], [], [], [], [], [6049], [], [], [], [], [6050], [], [], [], [], [6051], [], [], [], [], [6052], [], [], [], [], [6077], [], [], [], [], [6097], [], [], [], [], [6106], [], [], [], [], [6118], [], [], [], [], [6123], [], [], [], [], [6130], [], [], [], [], [6074], [], [], [], [], []]
noncomputable def cd_280 : zK := [zi (.aconst_null) 1 0 0 0 (.int 0), zj (.istore 3) 2 3 0 0, zj (.aload 0) 3 0 0 0, zj (.arraylength) 4 0 0 0, zj (.istore 4) 6 4 0 0, none, zj (.iload 3) 7 3 0 0, zj (.iload 4) 9 4 0 0, none, zj (.if_icmp .ge 0) 12 22 0 0, none, none, zj (.aload 0) 13 0 0 0, zj (.iload 3) 14 3 0 0, zj (.lload 1) 15 1 0 0, zj (.lastore) 16 0 0 0, zi (.iinc 3 1) 19 3 0 0 (.int 1), none, none, zj (.goto 0) 22 6 0 0, none, none, zj (.return_) 23 0 0 0]
noncomputable def pp_280 : List (List Nat) := [[], [], [], [], [], [], [], [], [], [], [], [], [], [], [], [], [], [], [], [], [], [], []]
noncomputable def cd_281 : zK := [zi (.aconst_null) 1 0 0 0 (.int 0), zj (.istore 2) 2 2 0 0, zj (.aload 0) 3 0 0 0, zj (.arraylength) 4 0 0 0, zj (.istore 3) 5 3 0 0, zj (.iload 2) 6 2 0 0, zj (.iload 3) 7 3 0 0, zj (.if_icmp .ge 0) 10 20 0 0, none, none, zj (.aload 0) 11 0 0 0, zj (.iload 2) 12 2 0 0, zj (.iload 1) 13 1 0 0, zj (.iastore) 14 0 0 0, zi (.iinc 2 1) 17 2 0 0 (.int 1), none, none, zj (.goto 0) 20 5 0 0, none, none, zj (.return_) 21 0 0 0]
noncomputable def pp_281 : List (List Nat) := [[], [], [], [], [], [], [], [], [], [], [], [], [], [], [], [], [], [], [], [], []]
noncomputable def cd_L : zK := [zj (.new 0) 3 11 0 0, none, none, zj (.dup) 4 0 0 0, zj (.invokespecial 0) 7 109 0 0, none, none, zj (.astore 1) 8 1 0 0, zj (.new 0) 11 12 0 0, none, none, zj (.dup) 12 0 0 0, zj (.invokespecial 0) 15 170 0 0, none, none, zj (.astore 2) 16 2 0 0, zi (.aconst_null) 17 0 0 0 (.int 0), zj (.istore 3) 18 3 0 0, zj (.iload 3) 19 3 0 0, zj (.aload 0) 20 0 0 0, zj (.i2s) 21 0 0 0, zi (.aconst_null) 23 0 0 0 (.int 8), none, zj (.isub) 24 0 0 0, zj (.if_icmp .gt 0) 27 2149 0 0, none, none, zj (.aload 0) 28 0 0 0, zj (.iload 3) 29 3 0 0, zj (.saload) 30 0 0 0, zi (.aconst_null) 32 0 0 0 (.int 63), none, zj (.iand) 33 0 0 0, zj (.tableswitch 2143 0 47 #[240, 263, 286, 319, 372, 425, 468, 511, 554, 597, 630, 663, 726, 789, 812, 835, 858, 901, 944, 977, 1046, 1079, 1142, 1185, 1304, 1327, 1371, 1394, 1463, 1487, 1531, 1575, 1628, 1661, 1684, 1717, 1750, 1803, 1826, 1859, 1892, 1925, 1974, 1998, 2031, 2074, 2097, 2120]) 240 0 0 0, none, none, none, none, none, none, none, none, none, none, none, none, none, none, none, none, none, none, none, none, none, none, none, none, none, none, none, none, none, none, none, none, none, none, none, none, none, none, none, none, none, none, none, none, none, none, none, none, none, none, none, none, none, none, none, none, none, none, none, none, none, none, none, none, none, none, none, none, none, none, none, none, none, none, none, none, none, none, none, none, none, none, none, none, none, none, none, none, none, none, none, none, none, none, none, none, none, none, none, none, none, none, none, none, none, none, none, none, none, none, none, none, none, none, none, none, none, none, none, none, none, none, none, none, none, none, none, none, none, none, none, none, none, none, none, none, none, none, none, none, none, none, none, none, none, none, none, none, none, none, none, none, none, none, none, none, none, none, none, none, none, none, none, none, none, none, none, none, none, none, none, none, none, none, none, none, none, none, none, none, none, none, none, none, none, none, none, none, none, none, none, none, none, none, none, none, none, none, none, none, none, none, none, none, none, none, zj (.aload 1) 241 1 0 0, zj (.aload 0) 242 0 0 0, zj (.iload 3) 243 3 0 0, zi (.aconst_null) 244 0 0 0 (.int 1), zj (.iadd) 245 0 0 0, zj (.saload) 246 0 0 0, zj (.invokevirtual 0) 249 110 1 11, none, none, zj (.aload 2) 250 2 0 0, zj (.aload 0) 251 0 0 0, zj (.iload 3) 252 3 0 0, zi (.aconst_null) 253 0 0 0 (.int 1), zj (.iadd) 254 0 0 0, zj (.saload) 255 0 0 0, zj (.invokevirtual 0) 258 174 1 12, none, none, zj (.if_icmp .eq 0) 261 2143 0 0, none, none, zi (.aconst_null) 262 0 0 0 (.int 0), zj (.ireturn) 263 0 0 0, zj (.aload 1) 264 1 0 0, zj (.aload 0) 265 0 0 0, zj (.iload 3) 266 3 0 0, zi (.aconst_null) 267 0 0 0 (.int 1), zj (.iadd) 268 0 0 0, zj (.saload) 269 0 0 0, zj (.invokevirtual 0) 272 111 1 11, none, none, zj (.aload 2) 273 2 0 0, zj (.aload 0) 274 0 0 0, zj (.iload 3) 275 3 0 0, zi (.aconst_null) 276 0 0 0 (.int 1), zj (.iadd) 277 0 0 0, zj (.saload) 278 0 0 0, zj (.invokevirtual 0) 281 179 1 12, none, none, zj (.if_icmp .eq 0) 284 2143 0 0, none, none, zi (.aconst_null) 285 0 0 0 (.int 0), zj (.ireturn) 286 0 0 0, zj (.aload 1) 287 1 0 0, zj (.aload 0) 288 0 0 0, zj (.iload 3) 289 3 0 0, zi (.aconst_null) 290 0 0 0 (.int 1), zj (.iadd) 291 0 0 0, zj (.saload) 292 0 0 0, zj (.aload 0) 293 0 0 0, zj (.iload 3) 294 3 0 0, zi (.aconst_null) 295 0 0 0 (.int 2), zj (.iadd) 296 0 0 0, zj (.saload) 297 0 0 0, zj (.invokevirtual 0) 300 112 2 11, none, none, zj (.aload 2) 301 2 0 0, zj (.aload 0) 302 0 0 0, zj (.iload 3) 303 3 0 0, zi (.aconst_null) 304 0 0 0 (.int 1), zj (.iadd) 305 0 0 0, zj (.saload) 306 0 0 0, zj (.aload 0) 307 0 0 0, zj (.iload 3) 308 3 0 0, zi (.aconst_null) 309 0 0 0 (.int 2), zj (.iadd) 310 0 0 0, zj (.saload) 311 0 0 0, zj (.invokevirtual 0) 314 180 2 12, none, none, zj (.if_icmp .eq 0) 317 2143 0 0, none, none, zi (.aconst_null) 318 0 0 0 (.int 0), zj (.ireturn) 319 0 0 0, zj (.aload 1) 320 1 0 0, zj (.aload 0) 321 0 0 0, zj (.iload 3) 322 3 0 0, zi (.aconst_null) 323 0 0 0 (.int 1), zj (.iadd) 324 0 0 0, zj (.saload) 325 0 0 0, zj (.aload 0) 326 0 0 0, zj (.iload 3) 327 3 0 0, zi (.aconst_null) 328 0 0 0 (.int 2), zj (.iadd) 329 0 0 0, zj (.saload) 330 0 0 0, zj (.aload 0) 331 0 0 0, zj (.iload 3) 332 3 0 0, zi (.aconst_null) 333 0 0 0 (.int 3), zj (.iadd) 334 0 0 0, zj (.saload) 335 0 0 0, zj (.aload 0) 336 0 0 0, zj (.iload 3) 337 3 0 0, zi (.aconst_null) 338 0 0 0 (.int 4), zj (.iadd) 339 0 0 0, zj (.saload) 340 0 0 0, zj (.invokevirtual 0) 343 113 4 11, none, none, zj (.aload 2) 344 2 0 0, zj (.aload 0) 345 0 0 0, zj (.iload 3) 346 3 0 0, zi (.aconst_null) 347 0 0 0 (.int 1), zj (.iadd) 348 0 0 0, zj (.saload) 349 0 0 0, zj (.aload 0) 350 0 0 0, zj (.iload 3) 351 3 0 0, zi (.aconst_null) 352 0 0 0 (.int 2), zj (.iadd) 353 0 0 0, zj (.saload) 354 0 0 0, zj (.aload 0) 355 0 0 0, zj (.iload 3) 356 3 0 0, zi (.aconst_null) 357 0 0 0 (.int 3), zj (.iadd) 358 0 0 0, zj (.saload) 359 0 0 0, zj (.aload 0) 360 0 0 0, zj (.iload 3) 361 3 0 0, zi (.aconst_null) 362 0 0 0 (.int 4), zj (.iadd) 363 0 0 0, zj (.saload) 364 0 0 0, zj (.invokevirtual 0) 367 181 4 12, none, none, zj (.if_icmp .eq 0) 370 2143 0 0, none, none, zi (.aconst_null) 371 0 0 0 (.int 0), zj (.ireturn) 372 0 0 0, zj (.aload 1) 373 1 0 0, zj (.aload 0) 374 0 0 0, zj (.iload 3) 375 3 0 0, zi (.aconst_null) 376 0 0 0 (.int 1), zj (.iadd) 377 0 0 0, zj (.saload) 378 0 0 0, zj (.aload 0) 379 0 0 0, zj (.iload 3) 380 3 0 0, zi (.aconst_null) 381 0 0 0 (.int 2), zj (.iadd) 382 0 0 0, zj (.saload) 383 0 0 0, zj (.aload 0) 384 0 0 0, zj (.iload 3) 385 3 0 0, zi (.aconst_null) 386 0 0 0 (.int 3), zj (.iadd) 387 0 0 0, zj (.saload) 388 0 0 0, zj (.aload 0) 389 0 0 0, zj (.iload 3) 390 3 0 0, zi (.aconst_null) 391 0 0 0 (.int 4), zj (.iadd) 392 0 0 0, zj (.saload) 393 0 0 0, zj (.invokevirtual 0) 396 114 4 11, none, none, zj (.aload 2) 397 2 0 0, zj (.aload 0) 398 0 0 0, zj (.iload 3) 399 3 0 0, zi (.aconst_null) 400 0 0 0 (.int 1), zj (.iadd) 401 0 0 0, zj (.saload) 402 0 0 0, zj (.aload 0) 403 0 0 0, zj (.iload 3) 404 3 0 0, zi (.aconst_null) 405 0 0 0 (.int 2), zj (.iadd) 406 0 0 0, zj (.saload) 407 0 0 0, zj (.aload 0) 408 0 0 0, zj (.iload 3) 409 3 0 0, zi (.aconst_null) 410 0 0 0 (.int 3), zj (.iadd) 411 0 0 0, zj (.saload) 412 0 0 0, zj (.aload 0) 413 0 0 0, zj (.iload 3) 414 3 0 0, zi (.aconst_null) 415 0 0 0 (.int 4), zj (.iadd) 416 0 0 0, zj (.saload) 417 0 0 0, zj (.invokevirtual 0) 420 182 4 12, none, none, zj (.if_icmp .eq 0) 423 2143 0 0, none, none, zi (.aconst_null) 424 0 0 0 (.int 0), zj (.ireturn) 425 0 0 0, zj (.aload 1) 426 1 0 0, zj (.aload 0) 427 0 0 0, zj (.iload 3) 428 3 0 0, zi (.aconst_null) 429 0 0 0 (.int 1), zj (.iadd) 430 0 0 0, zj (.saload) 431 0 0 0, zj (.aload 0) 432 0 0 0, zj (.iload 3) 433 3 0 0, zi (.aconst_null) 434 0 0 0 (.int 2), zj (.iadd) 435 0 0 0, zj (.saload) 436 0 0 0, zj (.aload 0) 437 0 0 0, zj (.iload 3) 438 3 0 0, zi (.aconst_null) 439 0 0 0 (.int 3), zj (.iadd) 440 0 0 0, zj (.saload) 441 0 0 0, zj (.invokevirtual 0) 444 115 3 11, none, none, zj (.aload 2) 445 2 0 0, zj (.aload 0) 446 0 0 0, zj (.iload 3) 447 3 0 0, zi (.aconst_null) 448 0 0 0 (.int 1), zj (.iadd) 449 0 0 0, zj (.saload) 450 0 0 0, zj (.aload 0) 451 0 0 0, zj (.iload 3) 452 3 0 0, zi (.aconst_null) 453 0 0 0 (.int 2), zj (.iadd) 454 0 0 0, zj (.saload) 455 0 0 0, zj (.aload 0) 456 0 0 0, zj (.iload 3) 457 3 0 0, zi (.aconst_null) 458 0 0 0 (.int 3), zj (.iadd) 459 0 0 0, zj (.saload) 460 0 0 0, zj (.invokevirtual 0) 463 183 3 12, none, none, zj (.if_icmp .eq 0) 466 2143 0 0, none, none, zi (.aconst_null) 467 0 0 0 (.int 0), zj (.ireturn) 468 0 0 0, zj (.aload 1) 469 1 0 0, zj (.aload 0) 470 0 0 0, zj (.iload 3) 471 3 0 0, zi (.aconst_null) 472 0 0 0 (.int 1), zj (.iadd) 473 0 0 0, zj (.saload) 474 0 0 0, zj (.aload 0) 475 0 0 0, zj (.iload 3) 476 3 0 0, zi (.aconst_null) 477 0 0 0 (.int 2), zj (.iadd) 478 0 0 0, zj (.saload) 479 0 0 0, zj (.aload 0) 480 0 0 0, zj (.iload 3) 481 3 0 0, zi (.aconst_null) 482 0 0 0 (.int 3), zj (.iadd) 483 0 0 0, zj (.saload) 484 0 0 0, zj (.invokevirtual 0) 487 116 3 11, none, none, zj (.aload 2) 488 2 0 0, zj (.aload 0) 489 0 0 0, zj (.iload 3) 490 3 0 0, zi (.aconst_null) 491 0 0 0 (.int 1), zj (.iadd) 492 0 0 0, zj (.saload) 493 0 0 0, zj (.aload 0) 494 0 0 0, zj (.iload 3) 495 3 0 0, zi (.aconst_null) 496 0 0 0 (.int 2), zj (.iadd) 497 0 0 0, zj (.saload) 498 0 0 0, zj (.aload 0) 499 0 0 0, zj (.iload 3) 500 3 0 0, zi (.aconst_null) 501 0 0 0 (.int 3), zj (.iadd) 502 0 0 0, zj (.saload) 503 0 0 0, zj (.invokevirtual 0) 506 184 3 12, none, none, zj (.if_icmp .eq 0) 509 2143 0 0, none, none, zi (.aconst_null) 510 0 0 0 (.int 0), zj (.ireturn) 511 0 0 0, zj (.aload 1) 512 1 0 0, zj (.aload 0) 513 0 0 0, zj (.iload 3) 514 3 0 0, zi (.aconst_null) 515 0 0 0 (.int 1), zj (.iadd) 516 0 0 0, zj (.saload) 517 0 0 0, zj (.aload 0) 518 0 0 0, zj (.iload 3) 519 3 0 0, zi (.aconst_null) 520 0 0 0 (.int 2), zj (.iadd) 521 0 0 0, zj (.saload) 522 0 0 0, zj (.aload 0) 523 0 0 0, zj (.iload 3) 524 3 0 0, zi (.aconst_null) 525 0 0 0 (.int 3), zj (.iadd) 526 0 0 0, zj (.saload) 527 0 0 0, zj (.invokevirtual 0) 530 117 3 11, none, none, zj (.aload 2) 531 2 0 0, zj (.aload 0) 532 0 0 0, zj (.iload 3) 533 3 0 0, zi (.aconst_null) 534 0 0 0 (.int 1), zj (.iadd) 535 0 0 0, zj (.saload) 536 0 0 0, zj (.aload 0) 537 0 0 0, zj (.iload 3) 538 3 0 0, zi (.aconst_null) 539 0 0 0 (.int 2), zj (.iadd) 540 0 0 0, zj (.saload) 541 0 0 0, zj (.aload 0) 542 0 0 0, zj (.iload 3) 543 3 0 0, zi (.aconst_null) 544 0 0 0 (.int 3), zj (.iadd) 545 0 0 0, zj (.saload) 546 0 0 0, zj (.invokevirtual 0) 549 185 3 12, none, none, zj (.if_icmp .eq 0) 552 2143 0 0, none, none, zi (.aconst_null) 553 0 0 0 (.int 0), zj (.ireturn) 554 0 0 0, zj (.aload 1) 555 1 0 0, zj (.aload 0) 556 0 0 0, zj (.iload 3) 557 3 0 0, zi (.aconst_null) 558 0 0 0 (.int 1), zj (.iadd) 559 0 0 0, zj (.saload) 560 0 0 0, zj (.aload 0) 561 0 0 0, zj (.iload 3) 562 3 0 0, zi (.aconst_null) 563 0 0 0 (.int 2), zj (.iadd) 564 0 0 0, zj (.saload) 565 0 0 0, zj (.aload 0) 566 0 0 0, zj (.iload 3) 567 3 0 0, zi (.aconst_null) 568 0 0 0 (.int 3), zj (.iadd) 569 0 0 0, zj (.saload) 570 0 0 0, zj (.invokevirtual 0) 573 118 3 11, none, none, zj (.aload 2) 574 2 0 0, zj (.aload 0) 575 0 0 0, zj (.iload 3) 576 3 0 0, zi (.aconst_null) 577 0 0 0 (.int 1), zj (.iadd) 578 0 0 0, zj (.saload) 579 0 0 0, zj (.aload 0) 580 0 0 0, zj (.iload 3) 581 3 0 0, zi (.aconst_null) 582 0 0 0 (.int 2), zj (.iadd) 583 0 0 0, zj (.saload) 584 0 0 0, zj (.aload 0) 585 0 0 0, zj (.iload 3) 586 3 0 0, zi (.aconst_null) 587 0 0 0 (.int 3), zj (.iadd) 588 0 0 0, zj (.saload) 589 0 0 0, zj (.invokevirtual 0) 592 187 3 12, none, none, zj (.if_icmp .eq 0) 595 2143 0 0, none, none, zi (.aconst_null) 596 0 0 0 (.int 0), zj (.ireturn) 597 0 0 0, zj (.aload 1) 598 1 0 0, zj (.aload 0) 599 0 0 0, zj (.iload 3) 600 3 0 0, zi (.aconst_null) 601 0 0 0 (.int 1), zj (.iadd) 602 0 0 0, zj (.saload) 603 0 0 0, zj (.aload 0) 604 0 0 0, zj (.iload 3) 605 3 0 0, zi (.aconst_null) 606 0 0 0 (.int 2), zj (.iadd) 607 0 0 0, zj (.saload) 608 0 0 0, zj (.invokevirtual 0) 611 119 2 11, none, none, zj (.aload 2) 612 2 0 0, zj (.aload 0) 613 0 0 0, zj (.iload 3) 614 3 0 0, zi (.aconst_null) 615 0 0 0 (.int 1), zj (.iadd) 616 0 0 0, zj (.saload) 617 0 0 0, zj (.aload 0) 618 0 0 0, zj (.iload 3) 619 3 0 0, zi (.aconst_null) 620 0 0 0 (.int 2), zj (.iadd) 621 0 0 0, zj (.saload) 622 0 0 0, zj (.invokevirtual 0) 625 192 2 12, none, none, zj (.if_icmp .eq 0) 628 2143 0 0, none, none, zi (.aconst_null) 629 0 0 0 (.int 0), zj (.ireturn) 630 0 0 0, zj (.aload 1) 631 1 0 0, zj (.aload 0) 632 0 0 0, zj (.iload 3) 633 3 0 0, zi (.aconst_null) 634 0 0 0 (.int 1), zj (.iadd) 635 0 0 0, zj (.saload) 636 0 0 0, zj (.aload 0) 637 0 0 0, zj (.iload 3) 638 3 0 0, zi (.aconst_null) 639 0 0 0 (.int 2), zj (.iadd) 640 0 0 0, zj (.saload) 641 0 0 0, zj (.invokevirtual 0) 644 120 2 11, none, none, zj (.aload 2) 645 2 0 0, zj (.aload 0) 646 0 0 0, zj (.iload 3) 647 3 0 0, zi (.aconst_null) 648 0 0 0 (.int 1), zj (.iadd) 649 0 0 0, zj (.saload) 650 0 0 0, zj (.aload 0) 651 0 0 0, zj (.iload 3) 652 3 0 0, zi (.aconst_null) 653 0 0 0 (.int 2), zj (.iadd) 654 0 0 0, zj (.saload) 655 0 0 0, zj (.invokevirtual 0) 658 193 2 12, none, none, zj (.if_icmp .eq 0) 661 2143 0 0, none, none, zi (.aconst_null) 662 0 0 0 (.int 0), zj (.ireturn) 663 0 0 0, zj (.aload 1) 664 1 0 0, zj (.aload 0) 665 0 0 0, zj (.iload 3) 666 3 0 0, zi (.aconst_null) 667 0 0 0 (.int 1), zj (.iadd) 668 0 0 0, zj (.saload) 669 0 0 0, zj (.aload 0) 670 0 0 0, zj (.iload 3) 671 3 0 0, zi (.aconst_null) 672 0 0 0 (.int 2), zj (.iadd) 673 0 0 0, zj (.saload) 674 0 0 0, zj (.aload 0) 675 0 0 0, zj (.iload 3) 676 3 0 0, zi (.aconst_null) 677 0 0 0 (.int 3), zj (.iadd) 678 0 0 0, zj (.saload) 679 0 0 0, zj (.aload 0) 680 0 0 0, zj (.iload 3) 681 3 0 0, zi (.aconst_null) 682 0 0 0 (.int 4), zj (.iadd) 683 0 0 0, zj (.saload) 684 0 0 0, zj (.aload 0) 685 0 0 0, zj (.iload 3) 686 3 0 0, zi (.aconst_null) 687 0 0 0 (.int 5), zj (.iadd) 688 0 0 0, zj (.saload) 689 0 0 0, zj (.invokevirtual 0) 692 121 5 11, none, none, zj (.aload 2) 693 2 0 0, zj (.aload 0) 694 0 0 0, zj (.iload 3) 695 3 0 0, zi (.aconst_null) 696 0 0 0 (.int 1), zj (.iadd) 697 0 0 0, zj (.saload) 698 0 0 0, zj (.aload 0) 699 0 0 0, zj (.iload 3) 700 3 0 0, zi (.aconst_null) 701 0 0 0 (.int 2), zj (.iadd) 702 0 0 0, zj (.saload) 703 0 0 0, zj (.aload 0) 704 0 0 0, zj (.iload 3) 705 3 0 0, zi (.aconst_null) 706 0 0 0 (.int 3), zj (.iadd) 707 0 0 0, zj (.saload) 708 0 0 0, zj (.aload 0) 709 0 0 0, zj (.iload 3) 710 3 0 0, zi (.aconst_null) 711 0 0 0 (.int 4), zj (.iadd) 712 0 0 0, zj (.saload) 713 0 0 0, zj (.aload 0) 714 0 0 0, zj (.iload 3) 715 3 0 0, zi (.aconst_null) 716 0 0 0 (.int 5), zj (.iadd) 717 0 0 0, zj (.saload) 718 0 0 0, zj (.invokevirtual 0) 721 195 5 12, none, none, zj (.if_icmp .eq 0) 724 2143 0 0, none, none, zi (.aconst_null) 725 0 0 0 (.int 0), zj (.ireturn) 726 0 0 0, zj (.aload 1) 727 1 0 0, zj (.aload 0) 728 0 0 0, zj (.iload 3) 729 3 0 0, zi (.aconst_null) 730 0 0 0 (.int 1), zj (.iadd) 731 0 0 0, zj (.saload) 732 0 0 0, zj (.aload 0) 733 0 0 0, zj (.iload 3) 734 3 0 0, zi (.aconst_null) 735 0 0 0 (.int 2), zj (.iadd) 736 0 0 0, zj (.saload) 737 0 0 0, zj (.aload 0) 738 0 0 0, zj (.iload 3) 739 3 0 0, zi (.aconst_null) 740 0 0 0 (.int 3), zj (.iadd) 741 0 0 0, zj (.saload) 742 0 0 0, zj (.aload 0) 743 0 0 0, zj (.iload 3) 744 3 0 0, zi (.aconst_null) 745 0 0 0 (.int 4), zj (.iadd) 746 0 0 0, zj (.saload) 747 0 0 0, zj (.aload 0) 748 0 0 0, zj (.iload 3) 749 3 0 0, zi (.aconst_null) 750 0 0 0 (.int 5), zj (.iadd) 751 0 0 0, zj (.saload) 752 0 0 0, zj (.invokevirtual 0) 755 122 5 11, none, none, zj (.aload 2) 756 2 0 0, zj (.aload 0) 757 0 0 0, zj (.iload 3) 758 3 0 0, zi (.aconst_null) 759 0 0 0 (.int 1), zj (.iadd) 760 0 0 0, zj (.saload) 761 0 0 0, zj (.aload 0) 762 0 0 0, zj (.iload 3) 763 3 0 0, zi (.aconst_null) 764 0 0 0 (.int 2), zj (.iadd) 765 0 0 0, zj (.saload) 766 0 0 0, zj (.aload 0) 767 0 0 0, zj (.iload 3) 768 3 0 0, zi (.aconst_null) 769 0 0 0 (.int 3), zj (.iadd) 770 0 0 0, zj (.saload) 771 0 0 0, zj (.aload 0) 772 0 0 0, zj (.iload 3) 773 3 0 0, zi (.aconst_null) 774 0 0 0 (.int 4), zj (.iadd) 775 0 0 0, zj (.saload) 776 0 0 0, zj (.aload 0) 777 0 0 0, zj (.iload 3) 778 3 0 0, zi (.aconst_null) 779 0 0 0 (.int 5), zj (.iadd) 780 0 0 0, zj (.saload) 781 0 0 0, zj (.invokevirtual 0) 784 196 5 12, none, none, zj (.if_icmp .eq 0) 787 2143 0 0, none, none, zi (.aconst_null) 788 0 0 0 (.int 0), zj (.ireturn) 789 0 0 0, zj (.aload 1) 790 1 0 0, zj (.aload 0) 791 0 0 0, zj (.iload 3) 792 3 0 0, zi (.aconst_null) 793 0 0 0 (.int 1), zj (.iadd) 794 0 0 0, zj (.saload) 795 0 0 0, zj (.invokevirtual 0) 798 123 1 11, none, none, zj (.aload 2) 799 2 0 0, zj (.aload 0) 800 0 0 0, zj (.iload 3) 801 3 0 0, zi (.aconst_null) 802 0 0 0 (.int 1), zj (.iadd) 803 0 0 0, zj (.saload) 804 0 0 0, zj (.invokevirtual 0) 807 198 1 12, none, none, zj (.if_icmp .eq 0) 810 2143 0 0, none, none, zi (.aconst_null) 811 0 0 0 (.int 0), zj (.ireturn) 812 0 0 0, zj (.aload 1) 813 1 0 0, zj (.aload 0) 814 0 0 0, zj (.iload 3) 815 3 0 0, zi (.aconst_null) 816 0 0 0 (.int 1), zj (.iadd) 817 0 0 0, zj (.saload) 818 0 0 0, zj (.invokevirtual 0) 821 124 1 11, none, none, zj (.aload 2) 822 2 0 0, zj (.aload 0) 823 0 0 0, zj (.iload 3) 824 3 0 0, zi (.aconst_null) 825 0 0 0 (.int 1), zj (.iadd) 826 0 0 0, zj (.saload) 827 0 0 0, zj (.invokevirtual 0) 830 225 1 12, none, none, zj (.if_icmp .eq 0) 833 2143 0 0, none, none, zi (.aconst_null) 834 0 0 0 (.int 0), zj (.ireturn) 835 0 0 0, zj (.aload 1) 836 1 0 0, zj (.aload 0) 837 0 0 0, zj (.iload 3) 838 3 0 0, zi (.aconst_null) 839 0 0 0 (.int 1), zj (.iadd) 840 0 0 0, zj (.saload) 841 0 0 0, zj (.invokevirtual 0) 844 125 1 11, none, none, zj (.aload 2) 845 2 0 0, zj (.aload 0) 846 0 0 0, zj (.iload 3) 847 3 0 0, zi (.aconst_null) 848 0 0 0 (.int 1), zj (.iadd) 849 0 0 0, zj (.saload) 850 0 0 0, zj (.invokevirtual 0) 853 227 1 12, none, none, zj (.if_icmp .eq 0) 856 2143 0 0, none, none, zi (.aconst_null) 857 0 0 0 (.int 0), zj (.ireturn) 858 0 0 0, zj (.aload 1) 859 1 0 0, zj (.aload 0) 860 0 0 0, zj (.iload 3) 861 3 0 0, zi (.aconst_null) 862 0 0 0 (.int 1), zj (.iadd) 863 0 0 0, zj (.saload) 864 0 0 0, zj (.aload 0) 865 0 0 0, zj (.iload 3) 866 3 0 0, zi (.aconst_null) 867 0 0 0 (.int 2), zj (.iadd) 868 0 0 0, zj (.saload) 869 0 0 0, zj (.aload 0) 870 0 0 0, zj (.iload 3) 871 3 0 0, zi (.aconst_null) 872 0 0 0 (.int 3), zj (.iadd) 873 0 0 0, zj (.saload) 874 0 0 0, zj (.invokevirtual 0) 877 126 3 11, none, none, zj (.aload 2) 878 2 0 0, zj (.aload 0) 879 0 0 0, zj (.iload 3) 880 3 0 0, zi (.aconst_null) 881 0 0 0 (.int 1), zj (.iadd) 882 0 0 0, zj (.saload) 883 0 0 0, zj (.aload 0) 884 0 0 0, zj (.iload 3) 885 3 0 0, zi (.aconst_null) 886 0 0 0 (.int 2), zj (.iadd) 887 0 0 0, zj (.saload) 888 0 0 0, zj (.aload 0) 889 0 0 0, zj (.iload 3) 890 3 0 0, zi (.aconst_null) 891 0 0 0 (.int 3), zj (.iadd) 892 0 0 0, zj (.saload) 893 0 0 0, zj (.invokevirtual 0) 896 235 3 12, none, none, zj (.if_icmp .eq 0) 899 2143 0 0, none, none, zi (.aconst_null) 900 0 0 0 (.int 0), zj (.ireturn) 901 0 0 0, zj (.aload 1) 902 1 0 0, zj (.aload 0) 903 0 0 0, zj (.iload 3) 904 3 0 0, zi (.aconst_null) 905 0 0 0 (.int 1), zj (.iadd) 906 0 0 0, zj (.saload) 907 0 0 0, zj (.aload 0) 908 0 0 0, zj (.iload 3) 909 3 0 0, zi (.aconst_null) 910 0 0 0 (.int 2), zj (.iadd) 911 0 0 0, zj (.saload) 912 0 0 0, zj (.aload 0) 913 0 0 0, zj (.iload 3) 914 3 0 0, zi (.aconst_null) 915 0 0 0 (.int 3), zj (.iadd) 916 0 0 0, zj (.saload) 917 0 0 0, zj (.invokevirtual 0) 920 127 3 11, none, none, zj (.aload 2) 921 2 0 0, zj (.aload 0) 922 0 0 0, zj (.iload 3) 923 3 0 0, zi (.aconst_null) 924 0 0 0 (.int 1), zj (.iadd) 925 0 0 0, zj (.saload) 926 0 0 0, zj (.aload 0) 927 0 0 0, zj (.iload 3) 928 3 0 0, zi (.aconst_null) 929 0 0 0 (.int 2), zj (.iadd) 930 0 0 0, zj (.saload) 931 0 0 0, zj (.aload 0) 932 0 0 0, zj (.iload 3) 933 3 0 0, zi (.aconst_null) 934 0 0 0 (.int 3), zj (.iadd) 935 0 0 0, zj (.saload) 936 0 0 0, zj (.invokevirtual 0) 939 236 3 12, none, none, zj (.if_icmp .eq 0) 942 2143 0 0, none, none, zi (.aconst_null) 943 0 0 0 (.int 0), zj (.ireturn) 944 0 0 0, zj (.aload 1) 945 1 0 0, zj (.aload 0) 946 0 0 0, zj (.iload 3) 947 3 0 0, zi (.aconst_null) 948 0 0 0 (.int 1), zj (.iadd) 949 0 0 0, zj (.saload) 950 0 0 0, zj (.aload 0) 951 0 0 0, zj (.iload 3) 952 3 0 0, zi (.aconst_null) 953 0 0 0 (.int 2), zj (.iadd) 954 0 0 0, zj (.saload) 955 0 0 0, zj (.invokevirtual 0) 958 128 2 11, none, none, zj (.aload 2) 959 2 0 0, zj (.aload 0) 960 0 0 0, zj (.iload 3) 961 3 0 0, zi (.aconst_null) 962 0 0 0 (.int 1), zj (.iadd) 963 0 0 0, zj (.saload) 964 0 0 0, zj (.aload 0) 965 0 0 0, zj (.iload 3) 966 3 0 0, zi (.aconst_null) 967 0 0 0 (.int 2), zj (.iadd) 968 0 0 0, zj (.saload) 969 0 0 0, zj (.invokevirtual 0) 972 237 2 12, none, none, zj (.if_icmp .eq 0) 975 2143 0 0, none, none, zi (.aconst_null) 976 0 0 0 (.int 0), zj (.ireturn) 977 0 0 0, zj (.aload 1) 978 1 0 0, zj (.aload 0) 979 0 0 0, zj (.iload 3) 980 3 0 0, zi (.aconst_null) 981 0 0 0 (.int 1), zj (.iadd) 982 0 0 0, zj (.saload) 983 0 0 0, zj (.aload 0) 984 0 0 0, zj (.iload 3) 985 3 0 0, zi (.aconst_null) 986 0 0 0 (.int 2), zj (.iadd) 987 0 0 0, zj (.saload) 988 0 0 0, zj (.aload 0) 989 0 0 0, zj (.iload 3) 990 3 0 0, zi (.aconst_null) 991 0 0 0 (.int 3), zj (.iadd) 992 0 0 0, zj (.saload) 993 0 0 0, zj (.aload 0) 994 0 0 0, zj (.iload 3) 995 3 0 0, zi (.aconst_null) 996 0 0 0 (.int 4), zj (.iadd) 997 0 0 0, zj (.saload) 998 0 0 0, zj (.ifCond .eq 0) 1001 1005 0 0, none, none, zi (.aconst_null) 1002 0 0 0 (.int 1), zj (.goto 0) 1005 1006 0 0, none, none, zi (.aconst_null) 1006 0 0 0 (.int 0), zj (.invokevirtual 0) 1009 129 4 11, none, none, zj (.aload 2) 1010 2 0 0, zj (.aload 0) 1011 0 0 0, zj (.iload 3) 1012 3 0 0, zi (.aconst_null) 1013 0 0 0 (.int 1), zj (.iadd) 1014 0 0 0, zj (.saload) 1015 0 0 0, zj (.aload 0) 1016 0 0 0, zj (.iload 3) 1017 3 0 0, zi (.aconst_null) 1018 0 0 0 (.int 2), zj (.iadd) 1019 0 0 0, zj (.saload) 1020 0 0 0, zj (.aload 0) 1021 0 0 0, zj (.iload 3) 1022 3 0 0, zi (.aconst_null) 1023 0 0 0 (.int 3), zj (.iadd) 1024 0 0 0, zj (.saload) 1025 0 0 0, zj (.aload 0) 1026 0 0 0, zj (.iload 3) 1027 3 0 0, zi (.aconst_null) 1028 0 0 0 (.int 4), zj (.iadd) 1029 0 0 0, zj (.saload) 1030 0 0 0, zj (.ifCond .eq 0) 1033 1037 0 0, none, none, zi (.aconst_null) 1034 0 0 0 (.int 1), zj (.goto 0) 1037 1038 0 0, none, none, zi (.aconst_null) 1038 0 0 0 (.int 0), zj (.invokevirtual 0) 1041 238 4 12, none, none, zj (.if_icmp .eq 0) 1044 2143 0 0, none, none, zi (.aconst_null) 1045 0 0 0 (.int 0), zj (.ireturn) 1046 0 0 0, zj (.aload 1) 1047 1 0 0, zj (.aload 0) 1048 0 0 0, zj (.iload 3) 1049 3 0 0, zi (.aconst_null) 1050 0 0 0 (.int 1), zj (.iadd) 1051 0 0 0, zj (.saload) 1052 0 0 0, zj (.aload 0) 1053 0 0 0, zj (.iload 3) 1054 3 0 0, zi (.aconst_null) 1055 0 0 0 (.int 2), zj (.iadd) 1056 0 0 0, zj (.saload) 1057 0 0 0, zj (.invokevirtual 0) 1060 130 2 11, none, none, zj (.aload 2) 1061 2 0 0, zj (.aload 0) 1062 0 0 0, zj (.iload 3) 1063 3 0 0, zi (.aconst_null) 1064 0 0 0 (.int 1), zj (.iadd) 1065 0 0 0, zj (.saload) 1066 0 0 0, zj (.aload 0) 1067 0 0 0, zj (.iload 3) 1068 3 0 0, zi (.aconst_null) 1069 0 0 0 (.int 2), zj (.iadd) 1070 0 0 0, zj (.saload) 1071 0 0 0, zj (.invokevirtual 0) 1074 239 2 12, none, none, zj (.if_icmp .eq 0) 1077 2143 0 0, none, none, zi (.aconst_null) 1078 0 0 0 (.int 0), zj (.ireturn) 1079 0 0 0, zj (.aload 1) 1080 1 0 0, zj (.aload 0) 1081 0 0 0, zj (.iload 3) 1082 3 0 0, zi (.aconst_null) 1083 0 0 0 (.int 1), zj (.iadd) 1084 0 0 0, zj (.saload) 1085 0 0 0, zj (.aload 0) 1086 0 0 0, zj (.iload 3) 1087 3 0 0, zi (.aconst_null) 1088 0 0 0 (.int 2), zj (.iadd) 1089 0 0 0, zj (.saload) 1090 0 0 0, zj (.aload 0) 1091 0 0 0, zj (.iload 3) 1092 3 0 0, zi (.aconst_null) 1093 0 0 0 (.int 3), zj (.iadd) 1094 0 0 0, zj (.saload) 1095 0 0 0, zj (.aload 0) 1096 0 0 0, zj (.iload 3) 1097 3 0 0, zi (.aconst_null) 1098 0 0 0 (.int 4), zj (.iadd) 1099 0 0 0, zj (.saload) 1100 0 0 0, zj (.aload 0) 1101 0 0 0, zj (.iload 3) 1102 3 0 0, zi (.aconst_null) 1103 0 0 0 (.int 5), zj (.iadd) 1104 0 0 0, zj (.saload) 1105 0 0 0, zj (.invokevirtual 0) 1108 131 5 11, none, none, zj (.aload 2) 1109 2 0 0, zj (.aload 0) 1110 0 0 0, zj (.iload 3) 1111 3 0 0, zi (.aconst_null) 1112 0 0 0 (.int 1), zj (.iadd) 1113 0 0 0, zj (.saload) 1114 0 0 0, zj (.aload 0) 1115 0 0 0, zj (.iload 3) 1116 3 0 0, zi (.aconst_null) 1117 0 0 0 (.int 2), zj (.iadd) 1118 0 0 0, zj (.saload) 1119 0 0 0, zj (.aload 0) 1120 0 0 0, zj (.iload 3) 1121 3 0 0, zi (.aconst_null) 1122 0 0 0 (.int 3), zj (.iadd) 1123 0 0 0, zj (.saload) 1124 0 0 0, zj (.aload 0) 1125 0 0 0, zj (.iload 3) 1126 3 0 0, zi (.aconst_null) 1127 0 0 0 (.int 4), zj (.iadd) 1128 0 0 0, zj (.saload) 1129 0 0 0, zj (.aload 0) 1130 0 0 0, zj (.iload 3) 1131 3 0 0, zi (.aconst_null) 1132 0 0 0 (.int 5), zj (.iadd) 1133 0 0 0, zj (.saload) 1134 0 0 0, zj (.invokevirtual 0) 1137 241 5 12, none, none, zj (.if_icmp .eq 0) 1140 2143 0 0, none, none, zi (.aconst_null) 1141 0 0 0 (.int 0), zj (.ireturn) 1142 0 0 0, zj (.aload 1) 1143 1 0 0, zj (.aload 0) 1144 0 0 0, zj (.iload 3) 1145 3 0 0, zi (.aconst_null) 1146 0 0 0 (.int 1), zj (.iadd) 1147 0 0 0, zj (.saload) 1148 0 0 0, zj (.aload 0) 1149 0 0 0, zj (.iload 3) 1150 3 0 0, zi (.aconst_null) 1151 0 0 0 (.int 2), zj (.iadd) 1152 0 0 0, zj (.saload) 1153 0 0 0, zj (.aload 0) 1154 0 0 0, zj (.iload 3) 1155 3 0 0, zi (.aconst_null) 1156 0 0 0 (.int 3), zj (.iadd) 1157 0 0 0, zj (.saload) 1158 0 0 0, zj (.invokevirtual 0) 1161 132 3 11, none, none, zj (.aload 2) 1162 2 0 0, zj (.aload 0) 1163 0 0 0, zj (.iload 3) 1164 3 0 0, zi (.aconst_null) 1165 0 0 0 (.int 1), zj (.iadd) 1166 0 0 0, zj (.saload) 1167 0 0 0, zj (.aload 0) 1168 0 0 0, zj (.iload 3) 1169 3 0 0, zi (.aconst_null) 1170 0 0 0 (.int 2), zj (.iadd) 1171 0 0 0, zj (.saload) 1172 0 0 0, zj (.aload 0) 1173 0 0 0, zj (.iload 3) 1174 3 0 0, zi (.aconst_null) 1175 0 0 0 (.int 3), zj (.iadd) 1176 0 0 0, zj (.saload) 1177 0 0 0, zj (.invokevirtual 0) 1180 243 3 12, none, none, zj (.if_icmp .eq 0) 1183 2143 0 0, none, none, zi (.aconst_null) 1184 0 0 0 (.int 0), zj (.ireturn) 1185 0 0 0, zj (.aload 1) 1186 1 0 0, zj (.aload 0) 1187 0 0 0, zj (.iload 3) 1188 3 0 0, zi (.aconst_null) 1189 0 0 0 (.int 1), zj (.iadd) 1190 0 0 0, zj (.saload) 1191 0 0 0, zj (.aload 0) 1192 0 0 0, zj (.iload 3) 1193 3 0 0, zi (.aconst_null) 1194 0 0 0 (.int 2), zj (.iadd) 1195 0 0 0, zj (.saload) 1196 0 0 0, zj (.aload 0) 1197 0 0 0, zj (.iload 3) 1198 3 0 0, zi (.aconst_null) 1199 0 0 0 (.int 3), zj (.iadd) 1200 0 0 0, zj (.saload) 1201 0 0 0, zj (.aload 0) 1202 0 0 0, zj (.iload 3) 1203 3 0 0, zi (.aconst_null) 1204 0 0 0 (.int 4), zj (.iadd) 1205 0 0 0, zj (.saload) 1206 0 0 0, zj (.aload 0) 1207 0 0 0, zj (.iload 3) 1208 3 0 0, zi (.aconst_null) 1209 0 0 0 (.int 5), zj (.iadd) 1210 0 0 0, zj (.saload) 1211 0 0 0, zj (.aload 0) 1212 0 0 0, zj (.iload 3) 1213 3 0 0, zi (.aconst_null) 1215 0 0 0 (.int 6), none, zj (.iadd) 1216 0 0 0, zj (.saload) 1217 0 0 0, zj (.ifCond .eq 0) 1220 1224 0 0, none, none, zi (.aconst_null) 1221 0 0 0 (.int 1), zj (.goto 0) 1224 1225 0 0, none, none, zi (.aconst_null) 1225 0 0 0 (.int 0), zj (.aload 0) 1226 0 0 0, zj (.iload 3) 1227 3 0 0, zi (.aconst_null) 1229 0 0 0 (.int 7), none, zj (.iadd) 1230 0 0 0, zj (.saload) 1231 0 0 0, zj (.ifCond .eq 0) 1234 1238 0 0, none, none, zi (.aconst_null) 1235 0 0 0 (.int 1), zj (.goto 0) 1238 1239 0 0, none, none, zi (.aconst_null) 1239 0 0 0 (.int 0), zj (.invokevirtual 0) 1242 133 7 11, none, none, zj (.aload 2) 1243 2 0 0, zj (.aload 0) 1244 0 0 0, zj (.iload 3) 1245 3 0 0, zi (.aconst_null) 1246 0 0 0 (.int 1), zj (.iadd) 1247 0 0 0, zj (.saload) 1248 0 0 0, zj (.aload 0) 1249 0 0 0, zj (.iload 3) 1250 3 0 0, zi (.aconst_null) 1251 0 0 0 (.int 2), zj (.iadd) 1252 0 0 0, zj (.saload) 1253 0 0 0, zj (.aload 0) 1254 0 0 0, zj (.iload 3) 1255 3 0 0, zi (.aconst_null) 1256 0 0 0 (.int 3), zj (.iadd) 1257 0 0 0, zj (.saload) 1258 0 0 0, zj (.aload 0) 1259 0 0 0, zj (.iload 3) 1260 3 0 0, zi (.aconst_null) 1261 0 0 0 (.int 4), zj (.iadd) 1262 0 0 0, zj (.saload) 1263 0 0 0, zj (.aload 0) 1264 0 0 0, zj (.iload 3) 1265 3 0 0, zi (.aconst_null) 1266 0 0 0 (.int 5), zj (.iadd) 1267 0 0 0, zj (.saload) 1268 0 0 0, zj (.aload 0) 1269 0 0 0, zj (.iload 3) 1270 3 0 0, zi (.aconst_null) 1272 0 0 0 (.int 6), none, zj (.iadd) 1273 0 0 0, zj (.saload) 1274 0 0 0, zj (.ifCond .eq 0) 1277 1281 0 0, none, none, zi (.aconst_null) 1278 0 0 0 (.int 1), zj (.goto 0) 1281 1282 0 0, none, none, zi (.aconst_null) 1282 0 0 0 (.int 0), zj (.aload 0) 1283 0 0 0, zj (.iload 3) 1284 3 0 0, zi (.aconst_null) 1286 0 0 0 (.int 7), none, zj (.iadd) 1287 0 0 0, zj (.saload) 1288 0 0 0, zj (.ifCond .eq 0) 1291 1295 0 0, none, none, zi (.aconst_null) 1292 0 0 0 (.int 1), zj (.goto 0) 1295 1296 0 0, none, none, zi (.aconst_null) 1296 0 0 0 (.int 0), zj (.invokevirtual 0) 1299 244 7 12, none, none, zj (.if_icmp .eq 0) 1302 2143 0 0, none, none, zi (.aconst_null) 1303 0 0 0 (.int 0), zj (.ireturn) 1304 0 0 0, zj (.aload 1) 1305 1 0 0, zj (.aload 0) 1306 0 0 0, zj (.iload 3) 1307 3 0 0, zi (.aconst_null) 1308 0 0 0 (.int 1), zj (.iadd) 1309 0 0 0, zj (.saload) 1310 0 0 0, zj (.invokevirtual 0) 1313 134 1 11, none, none, zj (.aload 2) 1314 2 0 0, zj (.aload 0) 1315 0 0 0, zj (.iload 3) 1316 3 0 0, zi (.aconst_null) 1317 0 0 0 (.int 1), zj (.iadd) 1318 0 0 0, zj (.saload) 1319 0 0 0, zj (.invokevirtual 0) 1322 245 1 12, none, none, zj (.if_icmp .eq 0) 1325 2143 0 0, none, none, zi (.aconst_null) 1326 0 0 0 (.int 0), zj (.ireturn) 1327 0 0 0, zj (.aload 1) 1328 1 0 0, zj (.aload 0) 1329 0 0 0, zj (.iload 3) 1330 3 0 0, zi (.aconst_null) 1331 0 0 0 (.int 1), zj (.iadd) 1332 0 0 0, zj (.saload) 1333 0 0 0, zj (.aload 0) 1334 0 0 0, zj (.iload 3) 1335 3 0 0, zi (.aconst_null) 1336 0 0 0 (.int 2), zj (.iadd) 1337 0 0 0, zj (.saload) 1338 0 0 0, zj (.aload 0) 1339 0 0 0, zj (.iload 3) 1340 3 0 0, zi (.aconst_null) 1341 0 0 0 (.int 3), zj (.iadd) 1342 0 0 0, zj (.saload) 1343 0 0 0, zj (.invokevirtual 0) 1346 135 3 11, none, none, zj (.aload 2) 1347 2 0 0, zj (.aload 0) 1348 0 0 0, zj (.iload 3) 1349 3 0 0, zi (.aconst_null) 1350 0 0 0 (.int 1), zj (.iadd) 1351 0 0 0, zj (.saload) 1352 0 0 0, zj (.aload 0) 1353 0 0 0, zj (.iload 3) 1354 3 0 0, zi (.aconst_null) 1355 0 0 0 (.int 2), zj (.iadd) 1356 0 0 0, zj (.saload) 1357 0 0 0, zj (.aload 0) 1358 0 0 0, zj (.iload 3) 1359 3 0 0, zi (.aconst_null) 1360 0 0 0 (.int 3), zj (.iadd) 1361 0 0 0, zj (.saload) 1362 0 0 0, zj (.invokevirtual 0) 1365 247 3 12, none, none, zj (.lcmp) 1366 0 0 0, zj (.ifCond .eq 0) 1369 2143 0 0, none, none, zi (.aconst_null) 1370 0 0 0 (.int 0), zj (.ireturn) 1371 0 0 0, zj (.aload 1) 1372 1 0 0, zj (.aload 0) 1373 0 0 0, zj (.iload 3) 1374 3 0 0, zi (.aconst_null) 1375 0 0 0 (.int 1), zj (.iadd) 1376 0 0 0, zj (.saload) 1377 0 0 0, zj (.invokevirtual 0) 1380 136 1 11, none, none, zj (.aload 2) 1381 2 0 0, zj (.aload 0) 1382 0 0 0, zj (.iload 3) 1383 3 0 0, zi (.aconst_null) 1384 0 0 0 (.int 1), zj (.iadd) 1385 0 0 0, zj (.saload) 1386 0 0 0, zj (.invokevirtual 0) 1389 248 1 12, none, none, zj (.if_icmp .eq 0) 1392 2143 0 0, none, none, zi (.aconst_null) 1393 0 0 0 (.int 0), zj (.ireturn) 1394 0 0 0, zj (.aload 1) 1395 1 0 0, zj (.aload 0) 1396 0 0 0, zj (.iload 3) 1397 3 0 0, zi (.aconst_null) 1398 0 0 0 (.int 1), zj (.iadd) 1399 0 0 0, zj (.saload) 1400 0 0 0, zj (.aload 0) 1401 0 0 0, zj (.iload 3) 1402 3 0 0, zi (.aconst_null) 1403 0 0 0 (.int 2), zj (.iadd) 1404 0 0 0, zj (.saload) 1405 0 0 0, zj (.ifCond .eq 0) 1408 1412 0 0, none, none, zi (.aconst_null) 1409 0 0 0 (.int 1), zj (.goto 0) 1412 1413 0 0, none, none, zi (.aconst_null) 1413 0 0 0 (.int 0), zj (.aload 0) 1414 0 0 0, zj (.iload 3) 1415 3 0 0, zi (.aconst_null) 1416 0 0 0 (.int 3), zj (.iadd) 1417 0 0 0, zj (.saload) 1418 0 0 0, zj (.aload 0) 1419 0 0 0, zj (.iload 3) 1420 3 0 0, zi (.aconst_null) 1421 0 0 0 (.int 4), zj (.iadd) 1422 0 0 0, zj (.saload) 1423 0 0 0, zj (.invokevirtual 0) 1426 137 4 11, none, none, zj (.aload 2) 1427 2 0 0, zj (.aload 0) 1428 0 0 0, zj (.iload 3) 1429 3 0 0, zi (.aconst_null) 1430 0 0 0 (.int 1), zj (.iadd) 1431 0 0 0, zj (.saload) 1432 0 0 0, zj (.aload 0) 1433 0 0 0, zj (.iload 3) 1434 3 0 0, zi (.aconst_null) 1435 0 0 0 (.int 2), zj (.iadd) 1436 0 0 0, zj (.saload) 1437 0 0 0, zj (.ifCond .eq 0) 1440 1444 0 0, none, none, zi (.aconst_null) 1441 0 0 0 (.int 1), zj (.goto 0) 1444 1445 0 0, none, none, zi (.aconst_null) 1445 0 0 0 (.int 0), zj (.aload 0) 1446 0 0 0, zj (.iload 3) 1447 3 0 0, zi (.aconst_null) 1448 0 0 0 (.int 3), zj (.iadd) 1449 0 0 0, zj (.saload) 1450 0 0 0, zj (.aload 0) 1451 0 0 0, zj (.iload 3) 1452 3 0 0, zi (.aconst_null) 1453 0 0 0 (.int 4), zj (.iadd) 1454 0 0 0, zj (.saload) 1455 0 0 0, zj (.invokevirtual 0) 1458 250 4 12, none, none, zj (.if_icmp .eq 0) 1461 2143 0 0, none, none, zi (.aconst_null) 1462 0 0 0 (.int 0), zj (.ireturn) 1463 0 0 0, zj (.aload 1) 1464 1 0 0, zj (.aload 0) 1465 0 0 0, zj (.iload 3) 1466 3 0 0, zi (.aconst_null) 1467 0 0 0 (.int 1), zj (.iadd) 1468 0 0 0, zj (.saload) 1469 0 0 0, zj (.invokevirtual 0) 1472 138 1 11, none, none, zj (.aload 2) 1473 2 0 0, zj (.aload 0) 1474 0 0 0, zj (.iload 3) 1475 3 0 0, zi (.aconst_null) 1476 0 0 0 (.int 1), zj (.iadd) 1477 0 0 0, zj (.saload) 1478 0 0 0, zj (.invokevirtual 0) 1481 252 1 12, none, none, zj (.lcmp) 1482 0 0 0, zj (.ifCond .eq 0) 1485 2143 0 0, none, none, zi (.aconst_null) 1486 0 0 0 (.int 0), zj (.ireturn) 1487 0 0 0, zj (.aload 1) 1488 1 0 0, zj (.aload 0) 1489 0 0 0, zj (.iload 3) 1490 3 0 0, zi (.aconst_null) 1491 0 0 0 (.int 1), zj (.iadd) 1492 0 0 0, zj (.saload) 1493 0 0 0, zj (.aload 0) 1494 0 0 0, zj (.iload 3) 1495 3 0 0, zi (.aconst_null) 1496 0 0 0 (.int 2), zj (.iadd) 1497 0 0 0, zj (.saload) 1498 0 0 0, zj (.aload 0) 1499 0 0 0, zj (.iload 3) 1500 3 0 0, zi (.aconst_null) 1501 0 0 0 (.int 3), zj (.iadd) 1502 0 0 0, zj (.saload) 1503 0 0 0, zj (.invokevirtual 0) 1506 139 3 11, none, none, zj (.aload 2) 1507 2 0 0, zj (.aload 0) 1508 0 0 0, zj (.iload 3) 1509 3 0 0, zi (.aconst_null) 1510 0 0 0 (.int 1), zj (.iadd) 1511 0 0 0, zj (.saload) 1512 0 0 0, zj (.aload 0) 1513 0 0 0, zj (.iload 3) 1514 3 0 0, zi (.aconst_null) 1515 0 0 0 (.int 2), zj (.iadd) 1516 0 0 0, zj (.saload) 1517 0 0 0, zj (.aload 0) 1518 0 0 0, zj (.iload 3) 1519 3 0 0, zi (.aconst_null) 1520 0 0 0 (.int 3), zj (.iadd) 1521 0 0 0, zj (.saload) 1522 0 0 0, zj (.invokevirtual 0) 1525 253 3 12, none, none, zj (.lcmp) 1526 0 0 0, zj (.ifCond .eq 0) 1529 2143 0 0, none, none, zi (.aconst_null) 1530 0 0 0 (.int 0), zj (.ireturn) 1531 0 0 0, zj (.aload 1) 1532 1 0 0, zj (.aload 0) 1533 0 0 0, zj (.iload 3) 1534 3 0 0, zi (.aconst_null) 1535 0 0 0 (.int 1), zj (.iadd) 1536 0 0 0, zj (.saload) 1537 0 0 0, zj (.aload 0) 1538 0 0 0, zj (.iload 3) 1539 3 0 0, zi (.aconst_null) 1540 0 0 0 (.int 2), zj (.iadd) 1541 0 0 0, zj (.saload) 1542 0 0 0, zj (.aload 0) 1543 0 0 0, zj (.iload 3) 1544 3 0 0, zi (.aconst_null) 1545 0 0 0 (.int 3), zj (.iadd) 1546 0 0 0, zj (.saload) 1547 0 0 0, zj (.invokevirtual 0) 1550 140 3 11, none, none, zj (.aload 2) 1551 2 0 0, zj (.aload 0) 1552 0 0 0, zj (.iload 3) 1553 3 0 0, zi (.aconst_null) 1554 0 0 0 (.int 1), zj (.iadd) 1555 0 0 0, zj (.saload) 1556 0 0 0, zj (.aload 0) 1557 0 0 0, zj (.iload 3) 1558 3 0 0, zi (.aconst_null) 1559 0 0 0 (.int 2), zj (.iadd) 1560 0 0 0, zj (.saload) 1561 0 0 0, zj (.aload 0) 1562 0 0 0, zj (.iload 3) 1563 3 0 0, zi (.aconst_null) 1564 0 0 0 (.int 3), zj (.iadd) 1565 0 0 0, zj (.saload) 1566 0 0 0, zj (.invokevirtual 0) 1569 256 3 12, none, none, zj (.lcmp) 1570 0 0 0, zj (.ifCond .eq 0) 1573 2143 0 0, none, none, zi (.aconst_null) 1574 0 0 0 (.int 0), zj (.ireturn) 1575 0 0 0, zj (.aload 1) 1576 1 0 0, zj (.aload 0) 1577 0 0 0, zj (.iload 3) 1578 3 0 0, zi (.aconst_null) 1579 0 0 0 (.int 1), zj (.iadd) 1580 0 0 0, zj (.saload) 1581 0 0 0, zj (.aload 0) 1582 0 0 0, zj (.iload 3) 1583 3 0 0, zi (.aconst_null) 1584 0 0 0 (.int 2), zj (.iadd) 1585 0 0 0, zj (.saload) 1586 0 0 0, zj (.aload 0) 1587 0 0 0, zj (.iload 3) 1588 3 0 0, zi (.aconst_null) 1589 0 0 0 (.int 3), zj (.iadd) 1590 0 0 0, zj (.saload) 1591 0 0 0, zj (.aload 0) 1592 0 0 0, zj (.iload 3) 1593 3 0 0, zi (.aconst_null) 1594 0 0 0 (.int 4), zj (.iadd) 1595 0 0 0, zj (.saload) 1596 0 0 0, zj (.invokevirtual 0) 1599 141 4 11, none, none, zj (.aload 2) 1600 2 0 0, zj (.aload 0) 1601 0 0 0, zj (.iload 3) 1602 3 0 0, zi (.aconst_null) 1603 0 0 0 (.int 1), zj (.iadd) 1604 0 0 0, zj (.saload) 1605 0 0 0, zj (.aload 0) 1606 0 0 0, zj (.iload 3) 1607 3 0 0, zi (.aconst_null) 1608 0 0 0 (.int 2), zj (.iadd) 1609 0 0 0, zj (.saload) 1610 0 0 0, zj (.aload 0) 1611 0 0 0, zj (.iload 3) 1612 3 0 0, zi (.aconst_null) 1613 0 0 0 (.int 3), zj (.iadd) 1614 0 0 0, zj (.saload) 1615 0 0 0, zj (.aload 0) 1616 0 0 0, zj (.iload 3) 1617 3 0 0, zi (.aconst_null) 1618 0 0 0 (.int 4), zj (.iadd) 1619 0 0 0, zj (.saload) 1620 0 0 0, zj (.invokevirtual 0) 1623 257 4 12, none, none, zj (.if_icmp .eq 0) 1626 2143 0 0, none, none, zi (.aconst_null) 1627 0 0 0 (.int 0), zj (.ireturn) 1628 0 0 0, zj (.aload 1) 1629 1 0 0, zj (.aload 0) 1630 0 0 0, zj (.iload 3) 1631 3 0 0, zi (.aconst_null) 1632 0 0 0 (.int 1), zj (.iadd) 1633 0 0 0, zj (.saload) 1634 0 0 0, zj (.aload 0) 1635 0 0 0, zj (.iload 3) 1636 3 0 0, zi (.aconst_null) 1637 0 0 0 (.int 2), zj (.iadd) 1638 0 0 0, zj (.saload) 1639 0 0 0, zj (.invokevirtual 0) 1642 142 2 11, none, none, zj (.aload 2) 1643 2 0 0, zj (.aload 0) 1644 0 0 0, zj (.iload 3) 1645 3 0 0, zi (.aconst_null) 1646 0 0 0 (.int 1), zj (.iadd) 1647 0 0 0, zj (.saload) 1648 0 0 0, zj (.aload 0) 1649 0 0 0, zj (.iload 3) 1650 3 0 0, zi (.aconst_null) 1651 0 0 0 (.int 2), zj (.iadd) 1652 0 0 0, zj (.saload) 1653 0 0 0, zj (.invokevirtual 0) 1656 260 2 12, none, none, zj (.if_icmp .eq 0) 1659 2143 0 0, none, none, zi (.aconst_null) 1660 0 0 0 (.int 0), zj (.ireturn) 1661 0 0 0, zj (.aload 1) 1662 1 0 0, zj (.aload 0) 1663 0 0 0, zj (.iload 3) 1664 3 0 0, zi (.aconst_null) 1665 0 0 0 (.int 1), zj (.iadd) 1666 0 0 0, zj (.saload) 1667 0 0 0, zj (.invokevirtual 0) 1670 143 1 11, none, none, zj (.aload 2) 1671 2 0 0, zj (.aload 0) 1672 0 0 0, zj (.iload 3) 1673 3 0 0, zi (.aconst_null) 1674 0 0 0 (.int 1), zj (.iadd) 1675 0 0 0, zj (.saload) 1676 0 0 0, zj (.invokevirtual 0) 1679 261 1 12, none, none, zj (.if_icmp .eq 0) 1682 2143 0 0, none, none, zi (.aconst_null) 1683 0 0 0 (.int 0), zj (.ireturn) 1684 0 0 0, zj (.aload 1) 1685 1 0 0, zj (.aload 0) 1686 0 0 0, zj (.iload 3) 1687 3 0 0, zi (.aconst_null) 1688 0 0 0 (.int 1), zj (.iadd) 1689 0 0 0, zj (.saload) 1690 0 0 0, zj (.aload 0) 1691 0 0 0, zj (.iload 3) 1692 3 0 0, zi (.aconst_null) 1693 0 0 0 (.int 2), zj (.iadd) 1694 0 0 0, zj (.saload) 1695 0 0 0, zj (.invokevirtual 0) 1698 144 2 11, none, none, zj (.aload 2) 1699 2 0 0, zj (.aload 0) 1700 0 0 0, zj (.iload 3) 1701 3 0 0, zi (.aconst_null) 1702 0 0 0 (.int 1), zj (.iadd) 1703 0 0 0, zj (.saload) 1704 0 0 0, zj (.aload 0) 1705 0 0 0, zj (.iload 3) 1706 3 0 0, zi (.aconst_null) 1707 0 0 0 (.int 2), zj (.iadd) 1708 0 0 0, zj (.saload) 1709 0 0 0, zj (.invokevirtual 0) 1712 263 2 12, none, none, zj (.if_icmp .eq 0) 1715 2143 0 0, none, none, zi (.aconst_null) 1716 0 0 0 (.int 0), zj (.ireturn) 1717 0 0 0, zj (.aload 1) 1718 1 0 0, zj (.aload 0) 1719 0 0 0, zj (.iload 3) 1720 3 0 0, zi (.aconst_null) 1721 0 0 0 (.int 1), zj (.iadd) 1722 0 0 0, zj (.saload) 1723 0 0 0, zj (.aload 0) 1724 0 0 0, zj (.iload 3) 1725 3 0 0, zi (.aconst_null) 1726 0 0 0 (.int 2), zj (.iadd) 1727 0 0 0, zj (.saload) 1728 0 0 0, zj (.invokevirtual 0) 1731 145 2 11, none, none, zj (.aload 2) 1732 2 0 0, zj (.aload 0) 1733 0 0 0, zj (.iload 3) 1734 3 0 0, zi (.aconst_null) 1735 0 0 0 (.int 1), zj (.iadd) 1736 0 0 0, zj (.saload) 1737 0 0 0, zj (.aload 0) 1738 0 0 0, zj (.iload 3) 1739 3 0 0, zi (.aconst_null) 1740 0 0 0 (.int 2), zj (.iadd) 1741 0 0 0, zj (.saload) 1742 0 0 0, zj (.invokevirtual 0) 1745 264 2 12, none, none, zj (.if_icmp .eq 0) 1748 2143 0 0, none, none, zi (.aconst_null) 1749 0 0 0 (.int 0), zj (.ireturn) 1750 0 0 0, zj (.aload 1) 1751 1 0 0, zj (.aload 0) 1752 0 0 0, zj (.iload 3) 1753 3 0 0, zi (.aconst_null) 1754 0 0 0 (.int 1), zj (.iadd) 1755 0 0 0, zj (.saload) 1756 0 0 0, zj (.aload 0) 1757 0 0 0, zj (.iload 3) 1758 3 0 0, zi (.aconst_null) 1759 0 0 0 (.int 2), zj (.iadd) 1760 0 0 0, zj (.saload) 1761 0 0 0, zj (.aload 0) 1762 0 0 0, zj (.iload 3) 1763 3 0 0, zi (.aconst_null) 1764 0 0 0 (.int 3), zj (.iadd) 1765 0 0 0, zj (.saload) 1766 0 0 0, zj (.aload 0) 1767 0 0 0, zj (.iload 3) 1768 3 0 0, zi (.aconst_null) 1769 0 0 0 (.int 4), zj (.iadd) 1770 0 0 0, zj (.saload) 1771 0 0 0, zj (.invokevirtual 0) 1774 146 4 11, none, none, zj (.aload 2) 1775 2 0 0, zj (.aload 0) 1776 0 0 0, zj (.iload 3) 1777 3 0 0, zi (.aconst_null) 1778 0 0 0 (.int 1), zj (.iadd) 1779 0 0 0, zj (.saload) 1780 0 0 0, zj (.aload 0) 1781 0 0 0, zj (.iload 3) 1782 3 0 0, zi (.aconst_null) 1783 0 0 0 (.int 2), zj (.iadd) 1784 0 0 0, zj (.saload) 1785 0 0 0, zj (.aload 0) 1786 0 0 0, zj (.iload 3) 1787 3 0 0, zi (.aconst_null) 1788 0 0 0 (.int 3), zj (.iadd) 1789 0 0 0, zj (.saload) 1790 0 0 0, zj (.aload 0) 1791 0 0 0, zj (.iload 3) 1792 3 0 0, zi (.aconst_null) 1793 0 0 0 (.int 4), zj (.iadd) 1794 0 0 0, zj (.saload) 1795 0 0 0, zj (.invokevirtual 0) 1798 265 4 12, none, none, zj (.if_icmp .eq 0) 1801 2143 0 0, none, none, zi (.aconst_null) 1802 0 0 0 (.int 0), zj (.ireturn) 1803 0 0 0, zj (.aload 1) 1804 1 0 0, zj (.aload 0) 1805 0 0 0, zj (.iload 3) 1806 3 0 0, zi (.aconst_null) 1807 0 0 0 (.int 1), zj (.iadd) 1808 0 0 0, zj (.saload) 1809 0 0 0, zj (.invokevirtual 0) 1812 147 1 11, none, none, zj (.aload 2) 1813 2 0 0, zj (.aload 0) 1814 0 0 0, zj (.iload 3) 1815 3 0 0, zi (.aconst_null) 1816 0 0 0 (.int 1), zj (.iadd) 1817 0 0 0, zj (.saload) 1818 0 0 0, zj (.invokevirtual 0) 1821 269 1 12, none, none, zj (.if_icmp .eq 0) 1824 2143 0 0, none, none, zi (.aconst_null) 1825 0 0 0 (.int 0), zj (.ireturn) 1826 0 0 0, zj (.aload 1) 1827 1 0 0, zj (.aload 0) 1828 0 0 0, zj (.iload 3) 1829 3 0 0, zi (.aconst_null) 1830 0 0 0 (.int 1), zj (.iadd) 1831 0 0 0, zj (.saload) 1832 0 0 0, zj (.aload 0) 1833 0 0 0, zj (.iload 3) 1834 3 0 0, zi (.aconst_null) 1835 0 0 0 (.int 2), zj (.iadd) 1836 0 0 0, zj (.saload) 1837 0 0 0, zj (.invokevirtual 0) 1840 148 2 11, none, none, zj (.aload 2) 1841 2 0 0, zj (.aload 0) 1842 0 0 0, zj (.iload 3) 1843 3 0 0, zi (.aconst_null) 1844 0 0 0 (.int 1), zj (.iadd) 1845 0 0 0, zj (.saload) 1846 0 0 0, zj (.aload 0) 1847 0 0 0, zj (.iload 3) 1848 3 0 0, zi (.aconst_null) 1849 0 0 0 (.int 2), zj (.iadd) 1850 0 0 0, zj (.saload) 1851 0 0 0, zj (.invokevirtual 0) 1854 270 2 12, none, none, zj (.if_icmp .eq 0) 1857 2143 0 0, none, none, zi (.aconst_null) 1858 0 0 0 (.int 0), zj (.ireturn) 1859 0 0 0, zj (.aload 1) 1860 1 0 0, zj (.aload 0) 1861 0 0 0, zj (.iload 3) 1862 3 0 0, zi (.aconst_null) 1863 0 0 0 (.int 1), zj (.iadd) 1864 0 0 0, zj (.saload) 1865 0 0 0, zj (.aload 0) 1866 0 0 0, zj (.iload 3) 1867 3 0 0, zi (.aconst_null) 1868 0 0 0 (.int 2), zj (.iadd) 1869 0 0 0, zj (.saload) 1870 0 0 0, zj (.invokevirtual 0) 1873 149 2 11, none, none, zj (.aload 2) 1874 2 0 0, zj (.aload 0) 1875 0 0 0, zj (.iload 3) 1876 3 0 0, zi (.aconst_null) 1877 0 0 0 (.int 1), zj (.iadd) 1878 0 0 0, zj (.saload) 1879 0 0 0, zj (.aload 0) 1880 0 0 0, zj (.iload 3) 1881 3 0 0, zi (.aconst_null) 1882 0 0 0 (.int 2), zj (.iadd) 1883 0 0 0, zj (.saload) 1884 0 0 0, zj (.invokevirtual 0) 1887 271 2 12, none, none, zj (.if_icmp .eq 0) 1890 2143 0 0, none, none, zi (.aconst_null) 1891 0 0 0 (.int 0), zj (.ireturn) 1892 0 0 0, zj (.aload 1) 1893 1 0 0, zj (.aload 0) 1894 0 0 0, zj (.iload 3) 1895 3 0 0, zi (.aconst_null) 1896 0 0 0 (.int 1), zj (.iadd) 1897 0 0 0, zj (.saload) 1898 0 0 0, zj (.aload 0) 1899 0 0 0, zj (.iload 3) 1900 3 0 0, zi (.aconst_null) 1901 0 0 0 (.int 2), zj (.iadd) 1902 0 0 0, zj (.saload) 1903 0 0 0, zj (.invokevirtual 0) 1906 150 2 11, none, none, zj (.aload 2) 1907 2 0 0, zj (.aload 0) 1908 0 0 0, zj (.iload 3) 1909 3 0 0, zi (.aconst_null) 1910 0 0 0 (.int 1), zj (.iadd) 1911 0 0 0, zj (.saload) 1912 0 0 0, zj (.aload 0) 1913 0 0 0, zj (.iload 3) 1914 3 0 0, zi (.aconst_null) 1915 0 0 0 (.int 2), zj (.iadd) 1916 0 0 0, zj (.saload) 1917 0 0 0, zj (.invokevirtual 0) 1920 272 2 12, none, none, zj (.if_icmp .eq 0) 1923 2143 0 0, none, none, zi (.aconst_null) 1924 0 0 0 (.int 0), zj (.ireturn) 1925 0 0 0, zj (.aload 1) 1926 1 0 0, zj (.aload 0) 1927 0 0 0, zj (.iload 3) 1928 3 0 0, zi (.aconst_null) 1929 0 0 0 (.int 1), zj (.iadd) 1930 0 0 0, zj (.saload) 1931 0 0 0, zj (.aload 0) 1932 0 0 0, zj (.iload 3) 1933 3 0 0, zi (.aconst_null) 1934 0 0 0 (.int 2), zj (.iadd) 1935 0 0 0, zj (.saload) 1936 0 0 0, zj (.ifCond .eq 0) 1939 1943 0 0, none, none, zi (.aconst_null) 1940 0 0 0 (.int 1), zj (.goto 0) 1943 1944 0 0, none, none, zi (.aconst_null) 1944 0 0 0 (.int 0), zj (.invokevirtual 0) 1947 151 2 11, none, none, zj (.aload 2) 1948 2 0 0, zj (.aload 0) 1949 0 0 0, zj (.iload 3) 1950 3 0 0, zi (.aconst_null) 1951 0 0 0 (.int 1), zj (.iadd) 1952 0 0 0, zj (.saload) 1953 0 0 0, zj (.aload 0) 1954 0 0 0, zj (.iload 3) 1955 3 0 0, zi (.aconst_null) 1956 0 0 0 (.int 2), zj (.iadd) 1957 0 0 0, zj (.saload) 1958 0 0 0, zj (.ifCond .eq 0) 1961 1965 0 0, none, none, zi (.aconst_null) 1962 0 0 0 (.int 1), zj (.goto 0) 1965 1966 0 0, none, none, zi (.aconst_null) 1966 0 0 0 (.int 0), zj (.invokevirtual 0) 1969 273 2 12, none, none, zj (.if_icmp .eq 0) 1972 2143 0 0, none, none, zi (.aconst_null) 1973 0 0 0 (.int 0), zj (.ireturn) 1974 0 0 0, zj (.aload 1) 1975 1 0 0, zj (.aload 0) 1976 0 0 0, zj (.iload 3) 1977 3 0 0, zi (.aconst_null) 1978 0 0 0 (.int 1), zj (.iadd) 1979 0 0 0, zj (.saload) 1980 0 0 0, zj (.invokevirtual 0) 1983 152 1 11, none, none, zj (.aload 2) 1984 2 0 0, zj (.aload 0) 1985 0 0 0, zj (.iload 3) 1986 3 0 0, zi (.aconst_null) 1987 0 0 0 (.int 1), zj (.iadd) 1988 0 0 0, zj (.saload) 1989 0 0 0, zj (.invokevirtual 0) 1992 274 1 12, none, none, zj (.lcmp) 1993 0 0 0, zj (.ifCond .eq 0) 1996 2143 0 0, none, none, zi (.aconst_null) 1997 0 0 0 (.int 0), zj (.ireturn) 1998 0 0 0, zj (.aload 1) 1999 1 0 0, zj (.aload 0) 2000 0 0 0, zj (.iload 3) 2001 3 0 0, zi (.aconst_null) 2002 0 0 0 (.int 1), zj (.iadd) 2003 0 0 0, zj (.saload) 2004 0 0 0, zj (.aload 0) 2005 0 0 0, zj (.iload 3) 2006 3 0 0, zi (.aconst_null) 2007 0 0 0 (.int 2), zj (.iadd) 2008 0 0 0, zj (.saload) 2009 0 0 0, zj (.invokevirtual 0) 2012 153 2 11, none, none, zj (.aload 2) 2013 2 0 0, zj (.aload 0) 2014 0 0 0, zj (.iload 3) 2015 3 0 0, zi (.aconst_null) 2016 0 0 0 (.int 1), zj (.iadd) 2017 0 0 0, zj (.saload) 2018 0 0 0, zj (.aload 0) 2019 0 0 0, zj (.iload 3) 2020 3 0 0, zi (.aconst_null) 2021 0 0 0 (.int 2), zj (.iadd) 2022 0 0 0, zj (.saload) 2023 0 0 0, zj (.invokevirtual 0) 2026 275 2 12, none, none, zj (.if_icmp .eq 0) 2029 2143 0 0, none, none, zi (.aconst_null) 2030 0 0 0 (.int 0), zj (.ireturn) 2031 0 0 0, zj (.aload 1) 2032 1 0 0, zj (.aload 0) 2033 0 0 0, zj (.iload 3) 2034 3 0 0, zi (.aconst_null) 2035 0 0 0 (.int 1), zj (.iadd) 2036 0 0 0, zj (.saload) 2037 0 0 0, zj (.aload 0) 2038 0 0 0, zj (.iload 3) 2039 3 0 0, zi (.aconst_null) 2040 0 0 0 (.int 2), zj (.iadd) 2041 0 0 0, zj (.saload) 2042 0 0 0, zj (.aload 0) 2043 0 0 0, zj (.iload 3) 2044 3 0 0, zi (.aconst_null) 2045 0 0 0 (.int 3), zj (.iadd) 2046 0 0 0, zj (.saload) 2047 0 0 0, zj (.invokevirtual 0) 2050 154 3 11, none, none, zj (.aload 2) 2051 2 0 0, zj (.aload 0) 2052 0 0 0, zj (.iload 3) 2053 3 0 0, zi (.aconst_null) 2054 0 0 0 (.int 1), zj (.iadd) 2055 0 0 0, zj (.saload) 2056 0 0 0, zj (.aload 0) 2057 0 0 0, zj (.iload 3) 2058 3 0 0, zi (.aconst_null) 2059 0 0 0 (.int 2), zj (.iadd) 2060 0 0 0, zj (.saload) 2061 0 0 0, zj (.aload 0) 2062 0 0 0, zj (.iload 3) 2063 3 0 0, zi (.aconst_null) 2064 0 0 0 (.int 3), zj (.iadd) 2065 0 0 0, zj (.saload) 2066 0 0 0, zj (.invokevirtual 0) 2069 276 3 12, none, none, zj (.if_icmp .eq 0) 2072 2143 0 0, none, none, zi (.aconst_null) 2073 0 0 0 (.int 0), zj (.ireturn) 2074 0 0 0, zj (.aload 1) 2075 1 0 0, zj (.aload 0) 2076 0 0 0, zj (.iload 3) 2077 3 0 0, zi (.aconst_null) 2078 0 0 0 (.int 1), zj (.iadd) 2079 0 0 0, zj (.saload) 2080 0 0 0, zj (.invokevirtual 0) 2083 155 1 11, none, none, zj (.aload 2) 2084 2 0 0, zj (.aload 0) 2085 0 0 0, zj (.iload 3) 2086 3 0 0, zi (.aconst_null) 2087 0 0 0 (.int 1), zj (.iadd) 2088 0 0 0, zj (.saload) 2089 0 0 0, zj (.invokevirtual 0) 2092 277 1 12, none, none, zj (.if_icmp .eq 0) 2095 2143 0 0, none, none, zi (.aconst_null) 2096 0 0 0 (.int 0), zj (.ireturn) 2097 0 0 0, zj (.aload 1) 2098 1 0 0, zj (.aload 0) 2099 0 0 0, zj (.iload 3) 2100 3 0 0, zi (.aconst_null) 2101 0 0 0 (.int 1), zj (.iadd) 2102 0 0 0, zj (.saload) 2103 0 0 0, zj (.invokevirtual 0) 2106 156 1 11, none, none, zj (.aload 2) 2107 2 0 0, zj (.aload 0) 2108 0 0 0, zj (.iload 3) 2109 3 0 0, zi (.aconst_null) 2110 0 0 0 (.int 1), zj (.iadd) 2111 0 0 0, zj (.saload) 2112 0 0 0, zj (.invokevirtual 0) 2115 278 1 12, none, none, zj (.if_icmp .eq 0) 2118 2143 0 0, none, none, zi (.aconst_null) 2119 0 0 0 (.int 0), zj (.ireturn) 2120 0 0 0, zj (.aload 1) 2121 1 0 0, zj (.aload 0) 2122 0 0 0, zj (.iload 3) 2123 3 0 0, zi (.aconst_null) 2124 0 0 0 (.int 1), zj (.iadd) 2125 0 0 0, zj (.saload) 2126 0 0 0, zj (.invokevirtual 0) 2129 157 1 11, none, none, zj (.aload 2) 2130 2 0 0, zj (.aload 0) 2131 0 0 0, zj (.iload 3) 2132 3 0 0, zi (.aconst_null) 2133 0 0 0 (.int 1), zj (.iadd) 2134 0 0 0, zj (.saload) 2135 0 0 0, zj (.invokevirtual 0) 2138 279 1 12, none, none, zj (.if_icmp .eq 0) 2141 2143 0 0, none, none, zi (.aconst_null) 2142 0 0 0 (.int 0), zj (.ireturn) 2143 0 0 0, zi (.iinc 3 8) 2146 3 0 0 (.int 8), none, none, zj (.goto 0) 2149 18 0 0, none, none, zi (.aconst_null) 2150 0 0 0 (.int 1), zj (.ireturn) 2151 0 0 0]
noncomputable def pp_L : List (List Nat) := [[1021, 1022, 1001], [], [], [], [1023], [], [], [], [6041, 6042, 1013], [], [], [], [6043], [], [], [], [], [], [], [], [], [], [], [], [], [], [], [], [], [], [], [], [], [], [], [], [], [], [], [], [], [], [], [], [], [], [], [], [], [], [], [], [], [], [], [], [], [], [], [], [], [], [], [], [], [], [], [], [], [], [], [], [], [], [], [], [], [], [], [], [], [], [], [], [], [], [], [], [], [], [], [], [], [], [], [], [], [], [], [], [], [], [], [], [], [], [], [], [], [], [], [], [], [], [], [], [], [], [], [], [], [], [], [], [], [], [], [], [], [], [], [], [], [], [], [], [], [], [], [], [], [], [], [], [], [], [], [], [], [], [], [], [], [], [], [], [], [], [], [], [], [], [], [], [], [], [], [], [], [], [], [], [], [], [], [], [], [], [], [], [], [], [], [], [], [], [], [], [], [], [], [], [], [], [], [], [], [], [], [], [], [], [], [], [], [], [], [], [], [], [], [], [], [], [], [], [], [], [], [], [], [], [], [], [], [], [], [], [], [], [], [], [], [], [], [], [], [], [], [], [], [], [], [], [], [], [2191], [], [], [], [], [], [], [], [], [7096], [], [], [], [], [], [], [], [], [], [], [], [], [], [2201], [], [], [], [], [], [], [], [], [7104], [], [], [], [], [], [], [], [], [], [], [], [], [], [], [], [], [], [], [2212], [], [], [], [], [], [], [], [], [], [], [], [], [], [7110], [], [], [], [], [], [], [], [], [], [], [], [], [], [], [], [], [], [], [], [], [], [], [], [], [], [], [], [], [2223], [], [], [], [], [], [], [], [], [], [], [], [], [], [], [], [], [], [], [], [], [], [], [], [7119], [], [], [], [], [], [], [], [], [], [], [], [], [], [], [], [], [], [], [], [], [], [], [], [], [], [], [], [], [2235], [], [], [], [], [], [], [], [], [], [], [], [], [], [], [], [], [], [], [], [], [], [], [], [7124], [], [], [], [], [], [], [], [], [], [], [], [], [], [], [], [], [], [], [], [], [], [], [], [3003], [], [], [], [], [], [], [], [], [], [], [], [], [], [], [], [], [], [], [7129], [], [], [], [], [], [], [], [], [], [], [], [], [], [], [], [], [], [], [], [], [], [], [], [3019], [], [], [], [], [], [], [], [], [], [], [], [], [], [], [], [], [], [], [7144], [], [], [], [], [], [], [], [], [], [], [], [], [], [], [], [], [], [], [], [], [], [], [], [3087], [], [], [], [], [], [], [], [], [], [], [], [], [], [], [], [], [], [], [7152], [], [], [], [], [], [], [], [], [], [], [], [], [], [], [], [], [], [], [], [], [], [], [], [3100], [], [], [], [], [], [], [], [], [], [], [], [], [], [], [], [], [], [], [7160], [], [], [], [], [], [], [], [], [], [], [], [], [], [], [], [], [], [], [3108], [], [], [], [], [], [], [], [], [], [], [], [], [], [7168], [], [], [], [], [], [], [], [], [], [], [], [], [], [], [], [], [], [], [3124], [], [], [], [], [], [], [], [], [], [], [], [], [], [7180], [], [], [], [], [], [], [], [], [], [], [], [], [], [], [], [], [], [], [], [], [], [], [], [], [], [], [], [], [], [], [], [], [], [3135], [], [], [], [], [], [], [], [], [], [], [], [], [], [], [], [], [], [], [], [], [], [], [], [], [], [], [], [], [7189], [], [], [], [], [], [], [], [], [], [], [], [], [], [], [], [], [], [], [], [], [], [], [], [], [], [], [], [], [], [], [], [], [], [3144], [], [], [], [], [], [], [], [], [], [], [], [], [], [], [], [], [], [], [], [], [], [], [], [], [], [], [], [], [7201], [], [], [], [], [], [], [], [], [], [], [], [], [], [3156], [], [], [], [], [], [], [], [], [7209], [], [], [], [], [], [], [], [], [], [], [], [], [], [3164], [], [], [], [], [], [], [], [], [7213], [], [], [], [], [], [], [], [], [], [], [], [], [], [4092], [], [], [], [], [], [], [], [], [8101], [], [], [], [], [], [], [], [], [], [], [], [], [], [], [], [], [], [], [], [], [], [], [], [4100], [], [], [], [], [], [], [], [], [], [], [], [], [], [], [], [], [], [], [8109], [], [], [], [], [], [], [], [], [], [], [], [], [], [], [], [], [], [], [], [], [], [], [], [4162], [], [], [], [], [], [], [], [], [], [], [], [], [], [], [], [], [], [], [8139], [], [], [], [], [], [], [], [], [], [], [], [], [], [], [], [], [], [], [4167], [], [], [], [], [], [], [], [], [], [], [], [], [], [8143], [], [], [], [], [], [], [], [], [], [], [], [], [], [], [], [], [], [], [], [], [], [], [], [], [], [], [], [], [], [], [], [], [], [], [], [], [4171], [], [], [], [], [], [], [], [], [], [], [], [], [], [], [], [], [], [], [], [], [], [], [], [], [], [], [], [], [], [], [], [8147], [], [], [], [], [], [], [], [], [], [], [], [], [], [], [], [], [], [], [4179], [], [], [], [], [], [], [], [], [], [], [], [], [], [8151], [], [], [], [], [], [], [], [], [], [], [], [], [], [], [], [], [], [], [], [], [], [], [], [], [], [], [], [], [], [], [], [], [], [4191], [], [], [], [], [], [], [], [], [], [], [], [], [], [], [], [], [], [], [], [], [], [], [], [], [], [], [], [], [8155], [], [], [], [], [], [], [], [], [], [], [], [], [], [], [], [], [], [], [], [], [], [], [], [4211], [], [], [], [], [], [], [], [], [], [], [], [], [], [], [], [], [], [], [8163], [], [], [], [], [], [], [], [], [], [], [], [], [], [], [], [], [], [], [], [], [], [], [], [], [], [], [], [], [], [], [], [], [], [], [], [], [], [], [], [], [], [], [], [], [], [], [], [], [], [], [], [], [], [], [], [], [], [], [], [], [], [4224], [], [], [], [], [], [], [], [], [], [], [], [], [], [], [], [], [], [], [], [], [], [], [], [], [], [], [], [], [], [], [], [], [], [], [], [], [], [], [], [], [], [], [], [], [], [], [], [], [], [], [], [], [], [], [], [], [8171], [], [], [], [], [], [], [], [], [], [], [], [], [], [5005], [], [], [], [], [], [], [], [], [8176], [], [], [], [], [], [], [], [], [], [], [], [], [], [], [], [], [], [], [], [], [], [], [], [5010], [], [], [], [], [], [], [], [], [], [], [], [], [], [], [], [], [], [], [8180], [], [], [], [], [], [], [], [], [], [], [], [], [], [], [5028], [], [], [], [], [], [], [], [], [8187], [], [], [], [], [], [], [], [], [], [], [], [], [], [], [], [], [], [], [], [], [], [], [], [], [], [], [], [], [], [], [], [], [], [], [], [], [5036], [], [], [], [], [], [], [], [], [], [], [], [], [], [], [], [], [], [], [], [], [], [], [], [], [], [], [], [], [], [], [], [8191], [], [], [], [], [], [], [], [], [], [], [], [], [], [5050], [], [], [], [], [], [], [], [], [8201], [], [], [], [], [], [], [], [], [], [], [], [], [], [], [], [], [], [], [], [], [], [], [], [], [5067], [], [], [], [], [], [], [], [], [], [], [], [], [], [], [], [], [], [], [8210], [], [], [], [], [], [], [], [], [], [], [], [], [], [], [], [], [], [], [], [], [], [], [], [], [5083], [], [], [], [], [], [], [], [], [], [], [], [], [], [], [], [], [], [], [8221], [], [], [], [], [], [], [], [], [], [], [], [], [], [], [], [], [], [], [], [], [], [], [], [], [], [], [], [], [], [5088], [], [], [], [], [], [], [], [], [], [], [], [], [], [], [], [], [], [], [], [], [], [], [], [8226], [], [], [], [], [], [], [], [], [], [], [], [], [], [], [], [], [], [], [5109], [], [], [], [], [], [], [], [], [], [], [], [], [], [8231], [], [], [], [], [], [], [], [], [], [], [], [], [], [5123], [], [], [], [], [], [], [], [], [9003], [], [], [], [], [], [], [], [], [], [], [], [], [], [], [], [], [], [], [5131], [], [], [], [], [], [], [], [], [], [], [], [], [], [9007], [], [], [], [], [], [], [], [], [], [], [], [], [], [], [], [], [], [], [5139], [], [], [], [], [], [], [], [], [], [], [], [], [], [9015], [], [], [], [], [], [], [], [], [], [], [], [], [], [], [], [], [], [], [], [], [], [], [], [], [], [], [], [], [5148], [], [], [], [], [], [], [], [], [], [], [], [], [], [], [], [], [], [], [], [], [], [], [], [9019], [], [], [], [], [], [], [], [], [], [], [], [], [], [5156], [], [], [], [], [], [], [], [], [9023], [], [], [], [], [], [], [], [], [], [], [], [], [], [], [], [], [], [], [5181], [], [], [], [], [], [], [], [], [], [], [], [], [], [9039], [], [], [], [], [], [], [], [], [], [], [], [], [], [], [], [], [], [], [5190], [], [], [], [], [], [], [], [], [], [], [], [], [], [9043], [], [], [], [], [], [], [], [], [], [], [], [], [], [], [], [], [], [], [5200], [], [], [], [], [], [], [], [], [], [], [], [], [], [9047], [], [], [], [], [], [], [], [], [], [], [], [], [], [], [], [], [], [], [], [], [], [], [], [], [], [], [5212], [], [], [], [], [], [], [], [], [], [], [], [], [], [], [], [], [], [], [], [], [], [9051], [], [], [], [], [], [], [], [], [], [], [], [], [], [5220], [], [], [], [], [], [], [], [], [9055], [], [], [], [], [], [], [], [], [], [], [], [], [], [], [], [], [], [], [], [5237], [], [], [], [], [], [], [], [], [], [], [], [], [], [9059], [], [], [], [], [], [], [], [], [], [], [], [], [], [], [], [], [], [], [], [], [], [], [], [6005], [], [], [], [], [], [], [], [], [], [], [], [], [], [], [], [], [], [], [9063], [], [], [], [], [], [], [], [], [], [], [], [], [], [6017], [], [], [], [], [], [], [], [], [9067], [], [], [], [], [], [], [], [], [], [], [], [], [], [6033], [], [], [], [], [], [], [], [], [9071], [], [], [], [], [], [], [], [], [], [], [], [], [], [6037], [], [], [], [], [], [], [], [], [9075], [], [], [], [], [], [], [], [], [], [], [], [], [], [], []]
end
section
def zy_0 : MethodName := ⟨"TankBehind$Car", "<init>", "(IIII)V"⟩
def zy_1 : MethodName := ⟨"TankBehind$Car", "partsMended", "(I)I"⟩
def zy_2 : MethodName := ⟨"TankBehind$Car", "wasReachedBy", "(I)Z"⟩
def zy_3 : MethodName := ⟨"TankBehind$Car", "isLeftBy", "(I)Z"⟩
def zy_4 : MethodName := ⟨"TankBehind$Car", "takePart", "(III)V"⟩
def zy_5 : MethodName := ⟨"TankBehind$Crashes", "<init>", "()V"⟩
def zy_6 : MethodName := ⟨"TankBehind$Crashes", "hasCrash", "(I)Z"⟩
def zy_7 : MethodName := ⟨"TankBehind$Crashes", "isFull", "()Z"⟩
def zy_8 : MethodName := ⟨"TankBehind$Crashes", "addCrash", "(IIII)I"⟩
def zy_9 : MethodName := ⟨"TankBehind$Crashes", "tellOf", "(IIIIZ)V"⟩
def zy_10 : MethodName := ⟨"TankBehind$Crashes", "countFires", "(I[I[I)V"⟩
def zy_11 : MethodName := ⟨"TankBehind$Crashes", "besideOthers", "(III)J"⟩
def zy_12 : MethodName := ⟨"TankBehind$Crashes", "sortIntoStrata", "(II)V"⟩
def zy_13 : MethodName := ⟨"TankBehind$Crashes", "commonDivisor", "(JJ)J"⟩
def zy_14 : MethodName := ⟨"TankBehind$Fleet", "<init>", "()V"⟩
def zy_15 : MethodName := ⟨"TankBehind$Fleet", "hasPerson", "(I)Z"⟩
def zy_16 : MethodName := ⟨"TankBehind$Fleet", "addPerson", "(I)I"⟩
def zy_17 : MethodName := ⟨"TankBehind$Fleet", "setMoved", "(IZ)Z"⟩
def zy_18 : MethodName := ⟨"TankBehind$Fleet", "peopleOf", "(I)J"⟩
def zy_19 : MethodName := ⟨"TankBehind$Fleet", "carAt", "(I)LTankBehind$Car;"⟩
def zy_20 : MethodName := ⟨"TankBehind$Fleet", "addCar", "(IIII)I"⟩
def zy_21 : MethodName := ⟨"TankBehind$Fleet", "addSale", "(IIII)Z"⟩
def zy_22 : MethodName := ⟨"TankBehind$Fleet", "ownerIn", "(III)I"⟩
def zy_23 : MethodName := ⟨"TankBehind$Fleet", "countCars", "(I[I)V"⟩
def zy_24 : MethodName := ⟨"TankBehind$Makes", "<init>", "()V"⟩
def zy_25 : MethodName := ⟨"TankBehind$Makes", "hasKind", "(I)Z"⟩
def zy_26 : MethodName := ⟨"TankBehind$Makes", "hasPart", "(I)Z"⟩
def zy_27 : MethodName := ⟨"TankBehind$Makes", "setFactor", "(II)I"⟩
def zy_28 : MethodName := ⟨"TankBehind$Makes", "addKind", "(IIII)I"⟩
def zy_29 : MethodName := ⟨"TankBehind$Makes", "addPart", "(IIII)I"⟩
def zy_30 : MethodName := ⟨"TankBehind$Makes", "fill", "([IIII)V"⟩
def zy_31 : MethodName := ⟨"TankBehind$Makes", "fitFrom", "(III)Z"⟩
def zy_32 : MethodName := ⟨"TankBehind$Makes", "partsFitted", "(II)I"⟩
def zy_33 : MethodName := ⟨"TankBehind$Makes", "forceAt", "(II)I"⟩
def zy_34 : MethodName := ⟨"TankBehind$Makes", "burnsWith", "(IIII)Z"⟩
def zy_35 : MethodName := ⟨"TankBehind$Makes", "leastCoins", "(IIII)I"⟩
def zy_36 : MethodName := ⟨"TankBehind$Memos", "<init>", "()V"⟩
def zy_37 : MethodName := ⟨"TankBehind$Memos", "hasMemo", "(I)Z"⟩
def zy_38 : MethodName := ⟨"TankBehind$Memos", "hasRow", "(II)Z"⟩
def zy_39 : MethodName := ⟨"TankBehind$Memos", "addMemo", "()I"⟩
def zy_40 : MethodName := ⟨"TankBehind$Memos", "addRow", "(IZII)I"⟩
def zy_41 : MethodName := ⟨"TankBehind$Memos", "sumOf", "(I)J"⟩
def zy_42 : MethodName := ⟨"TankBehind$Memos", "sumWith", "(III)J"⟩
def zy_43 : MethodName := ⟨"TankBehind$Memos", "turnOf", "(IIZ)J"⟩
def zy_44 : MethodName := ⟨"TankBehind$Plan", "<init>", "()V"⟩
def zy_45 : MethodName := ⟨"TankBehind$Plan", "hasStep", "(I)Z"⟩
def zy_46 : MethodName := ⟨"TankBehind$Plan", "hasSteps", "(I)Z"⟩
def zy_47 : MethodName := ⟨"TankBehind$Plan", "addStep", "(IIII)I"⟩
def zy_48 : MethodName := ⟨"TankBehind$Plan", "beginOf", "(I[I)I"⟩
def zy_49 : MethodName := ⟨"TankBehind$Plan", "isBehind", "(II)Z"⟩
def zy_50 : MethodName := ⟨"TankBehind$Plan", "delayBy", "(I)I"⟩
def zy_51 : MethodName := ⟨"TankBehind$Plan", "slackOf", "(I)I"⟩
def zy_52 : MethodName := ⟨"TankBehind$Plan", "costOf", "(II)I"⟩
def zy_53 : MethodName := ⟨"TankBehind$Plan", "lastMonthFor", "(II)I"⟩
def zy_54 : MethodName := ⟨"TankBehind$Recalls", "<init>", "()V"⟩
def zy_55 : MethodName := ⟨"TankBehind$Recalls", "hasCall", "(I)Z"⟩
def zy_56 : MethodName := ⟨"TankBehind$Recalls", "addCall", "(IIII)I"⟩
def zy_57 : MethodName := ⟨"TankBehind$Recalls", "isCalled", "(ILTankBehind$Car;)Z"⟩
def zy_58 : MethodName := ⟨"TankBehind$Recalls", "isLeft", "(ILTankBehind$Car;)Z"⟩
def zy_59 : MethodName := ⟨"TankBehind$Recalls", "sendLetters", "(ILTankBehind$Fleet;)I"⟩
def zy_60 : MethodName := ⟨"TankBehind$Recalls", "countLeft", "(ILTankBehind$Fleet;)I"⟩
def zy_61 : MethodName := ⟨"TankBehind$Recalls", "leftAt", "(IILTankBehind$Fleet;)I"⟩
def zy_62 : MethodName := ⟨"TankBehind$RuleBook", "<init>", "()V"⟩
def zy_63 : MethodName := ⟨"TankBehind$RuleBook", "isFull", "()Z"⟩
def zy_64 : MethodName := ⟨"TankBehind$RuleBook", "addRule", "(ILTankBehind$RuleReader;)I"⟩
def zy_65 : MethodName := ⟨"TankBehind$RuleBook", "ruleIn", "(I)I"⟩
def zy_66 : MethodName := ⟨"TankBehind$RuleBook", "firstTrue", "(II)I"⟩
def zy_67 : MethodName := ⟨"TankBehind$RuleBook", "sumOf", "(II)J"⟩
def zy_68 : MethodName := ⟨"TankBehind$RuleBook", "work", "([III)J"⟩
def zy_69 : MethodName := ⟨"TankBehind$RuleBook", "valueOf", "(I)J"⟩
def zy_70 : MethodName := ⟨"TankBehind$RuleBook", "join", "(IJJ)J"⟩
def zy_71 : MethodName := ⟨"TankBehind$RuleReader", "<init>", "()V"⟩
def zy_72 : MethodName := ⟨"TankBehind$RuleReader", "hasRoom", "(I)Z"⟩
def zy_73 : MethodName := ⟨"TankBehind$RuleReader", "putNumber", "(I)V"⟩
def zy_74 : MethodName := ⟨"TankBehind$RuleReader", "cutTo", "(I)I"⟩
def zy_75 : MethodName := ⟨"TankBehind$RuleReader", "readRule", "()I"⟩
def zy_76 : MethodName := ⟨"TankBehind$RuleReader", "readClause", "()Z"⟩
def zy_77 : MethodName := ⟨"TankBehind$RuleReader", "keepClause", "(III)V"⟩
def zy_78 : MethodName := ⟨"TankBehind$RuleReader", "readTest", "(I)Z"⟩
def zy_79 : MethodName := ⟨"TankBehind$RuleReader", "readPart", "(I)Z"⟩
def zy_80 : MethodName := ⟨"TankBehind$RuleReader", "readFact", "(I)Z"⟩
def zy_81 : MethodName := ⟨"TankBehind$RuleReader", "readComparison", "(I)Z"⟩
def zy_82 : MethodName := ⟨"TankBehind$RuleReader", "comparisonHere", "()I"⟩
def zy_83 : MethodName := ⟨"TankBehind$RuleReader", "readSum", "(I)Z"⟩
def zy_84 : MethodName := ⟨"TankBehind$RuleReader", "readTerm", "(I)Z"⟩
def zy_85 : MethodName := ⟨"TankBehind$RuleReader", "readValue", "(I)Z"⟩
def zy_86 : MethodName := ⟨"TankBehind$RuleReader", "takeWord", "(I)Z"⟩
def zy_87 : MethodName := ⟨"TankBehind$RuleReader", "countOne", "()Z"⟩
def zy_88 : MethodName := ⟨"TankBehind$RuleReader", "takeSign", "(C)Z"⟩
def zy_89 : MethodName := ⟨"TankBehind$RuleReader", "numberHere", "(I)I"⟩
def zy_90 : MethodName := ⟨"TankBehind$RuleReader", "signHere", "()I"⟩
def zy_91 : MethodName := ⟨"TankBehind$RuleReader", "wordHere", "()I"⟩
def zy_92 : MethodName := ⟨"TankBehind$RuleReader", "putCode", "(I)V"⟩
def zy_93 : MethodName := ⟨"TankBehind$RuleReader", "refuse", "(II)Z"⟩
def zy_94 : MethodName := ⟨"TankBehind$Savers", "<init>", "()V"⟩
def zy_95 : MethodName := ⟨"TankBehind$Savers", "hasSaver", "(I)Z"⟩
def zy_96 : MethodName := ⟨"TankBehind$Savers", "addSaver", "(II)I"⟩
def zy_97 : MethodName := ⟨"TankBehind$Savers", "setOverlap", "(III)I"⟩
def zy_98 : MethodName := ⟨"TankBehind$Savers", "findBest", "(I)I"⟩
def zy_99 : MethodName := ⟨"TankBehind$Savers", "coinsOf", "(I)I"⟩
def zy_100 : MethodName := ⟨"TankBehind$Savers", "livesOf", "(I)I"⟩
def zy_101 : MethodName := ⟨"TankBehind$Tests", "<init>", "()V"⟩
def zy_102 : MethodName := ⟨"TankBehind$Tests", "hasTest", "(I)Z"⟩
def zy_103 : MethodName := ⟨"TankBehind$Tests", "addTest", "(IIIZ)I"⟩
def zy_104 : MethodName := ⟨"TankBehind$Tests", "addReading", "(III)Z"⟩
def zy_105 : MethodName := ⟨"TankBehind$Tests", "isOf", "(III)Z"⟩
def zy_106 : MethodName := ⟨"TankBehind$Tests", "leastBurned", "(IIII)I"⟩
def zy_107 : MethodName := ⟨"TankBehind$Tests", "greatestUnburned", "(IIII)I"⟩
def zy_108 : MethodName := ⟨"TankBehind$Tests", "learn", "(JII[I)V"⟩
def zy_109 : MethodName := ⟨"TankBehind", "<init>", "()V"⟩
def zy_110 : MethodName := ⟨"TankBehind", "clock", "(I)Z"⟩
def zy_111 : MethodName := ⟨"TankBehind", "person", "(I)I"⟩
def zy_112 : MethodName := ⟨"TankBehind", "factor", "(II)I"⟩
def zy_113 : MethodName := ⟨"TankBehind", "kind", "(IIII)I"⟩
def zy_114 : MethodName := ⟨"TankBehind", "part", "(IIII)I"⟩
def zy_115 : MethodName := ⟨"TankBehind", "fit", "(III)Z"⟩
def zy_116 : MethodName := ⟨"TankBehind", "car", "(III)I"⟩
def zy_117 : MethodName := ⟨"TankBehind", "sell", "(III)Z"⟩
def zy_118 : MethodName := ⟨"TankBehind", "owner", "(III)I"⟩
def zy_119 : MethodName := ⟨"TankBehind", "cars", "(II)I"⟩
def zy_120 : MethodName := ⟨"TankBehind", "force", "(II)I"⟩
def zy_121 : MethodName := ⟨"TankBehind", "burns", "(IIIII)I"⟩
def zy_122 : MethodName := ⟨"TankBehind", "feed", "(IIIII)I"⟩
def zy_123 : MethodName := ⟨"TankBehind", "end", "(I)I"⟩
def zy_124 : MethodName := ⟨"TankBehind", "rule", "(I)I"⟩
def zy_125 : MethodName := ⟨"TankBehind", "inForce", "(I)I"⟩
def zy_126 : MethodName := ⟨"TankBehind", "must", "(III)I"⟩
def zy_127 : MethodName := ⟨"TankBehind", "fails", "(III)I"⟩
def zy_128 : MethodName := ⟨"TankBehind", "owed", "(II)I"⟩
def zy_129 : MethodName := ⟨"TankBehind", "test", "(IIIZ)I"⟩
def zy_130 : MethodName := ⟨"TankBehind", "reads", "(II)Z"⟩
def zy_131 : MethodName := ⟨"TankBehind", "knew", "(IIIII)I"⟩
def zy_132 : MethodName := ⟨"TankBehind", "knewFails", "(III)I"⟩
def zy_133 : MethodName := ⟨"TankBehind", "crash", "(IIIIIZZ)I"⟩
def zy_134 : MethodName := ⟨"TankBehind", "odd", "(I)I"⟩
def zy_135 : MethodName := ⟨"TankBehind", "expected", "(III)J"⟩
def zy_136 : MethodName := ⟨"TankBehind", "memo", "(I)I"⟩
def zy_137 : MethodName := ⟨"TankBehind", "row", "(IZII)I"⟩
def zy_138 : MethodName := ⟨"TankBehind", "memoSum", "(I)J"⟩
def zy_139 : MethodName := ⟨"TankBehind", "turnsAt", "(III)J"⟩
def zy_140 : MethodName := ⟨"TankBehind", "beside", "(III)J"⟩
def zy_141 : MethodName := ⟨"TankBehind", "step", "(IIII)I"⟩
def zy_142 : MethodName := ⟨"TankBehind", "steps", "(II)I"⟩
def zy_143 : MethodName := ⟨"TankBehind", "putOff", "(I)I"⟩
def zy_144 : MethodName := ⟨"TankBehind", "change", "(II)I"⟩
def zy_145 : MethodName := ⟨"TankBehind", "cheap", "(II)I"⟩
def zy_146 : MethodName := ⟨"TankBehind", "call", "(IIII)I"⟩
def zy_147 : MethodName := ⟨"TankBehind", "letters", "(I)I"⟩
def zy_148 : MethodName := ⟨"TankBehind", "reached", "(II)I"⟩
def zy_149 : MethodName := ⟨"TankBehind", "mend", "(II)Z"⟩
def zy_150 : MethodName := ⟨"TankBehind", "left", "(II)I"⟩
def zy_151 : MethodName := ⟨"TankBehind", "moves", "(IZ)Z"⟩
def zy_152 : MethodName := ⟨"TankBehind", "jury", "(I)J"⟩
def zy_153 : MethodName := ⟨"TankBehind", "saver", "(II)I"⟩
def zy_154 : MethodName := ⟨"TankBehind", "overlap", "(III)I"⟩
def zy_155 : MethodName := ⟨"TankBehind", "best", "(I)I"⟩
def zy_156 : MethodName := ⟨"TankBehind", "bests", "(I)I"⟩
def zy_157 : MethodName := ⟨"TankBehind", "count", "(I)I"⟩
def zy_158 : MethodName := ⟨"TankBehind", "isWithin", "(III)Z"⟩
def zy_159 : MethodName := ⟨"TankBehind", "isMonth", "(I)Z"⟩
def zy_160 : MethodName := ⟨"TankBehind", "isFirm", "(I)Z"⟩
def zy_161 : MethodName := ⟨"TankBehind", "isSort", "(I)Z"⟩
def zy_162 : MethodName := ⟨"TankBehind", "isSpeed", "(I)Z"⟩
def zy_163 : MethodName := ⟨"TankBehind", "partsOf", "(LTankBehind$Car;I)I"⟩
def zy_164 : MethodName := ⟨"TankBehind", "tally", "(I)V"⟩
def zy_165 : MethodName := ⟨"TankBehind", "askOfKind", "(III)V"⟩
def zy_166 : MethodName := ⟨"TankBehind", "askOfCrash", "(ILTankBehind$Car;)V"⟩
def zy_167 : MethodName := ⟨"TankBehind", "mustOf", "(III)I"⟩
def zy_168 : MethodName := ⟨"TankBehind", "firstKnewFails", "(JII)I"⟩
def zy_169 : MethodName := ⟨"TankBehind", "addUp", "([I)V"⟩
def zy_170 : MethodName := ⟨"TankBehindModel", "<init>", "()V"⟩
def zy_171 : MethodName := ⟨"TankBehindModel", "in", "(JJJ)Z"⟩
def zy_172 : MethodName := ⟨"TankBehindModel", "isMonth", "(I)Z"⟩
def zy_173 : MethodName := ⟨"TankBehindModel", "isSort", "(I)Z"⟩
def zy_174 : MethodName := ⟨"TankBehindModel", "clock", "(I)Z"⟩
def zy_175 : MethodName := ⟨"TankBehindModel", "isPerson", "(I)Z"⟩
def zy_176 : MethodName := ⟨"TankBehindModel", "isKind", "(I)Z"⟩
def zy_177 : MethodName := ⟨"TankBehindModel", "isPart", "(I)Z"⟩
def zy_178 : MethodName := ⟨"TankBehindModel", "isCar", "(I)Z"⟩
def zy_179 : MethodName := ⟨"TankBehindModel", "person", "(I)I"⟩
def zy_180 : MethodName := ⟨"TankBehindModel", "factor", "(II)I"⟩
def zy_181 : MethodName := ⟨"TankBehindModel", "kind", "(IIII)I"⟩
def zy_182 : MethodName := ⟨"TankBehindModel", "part", "(IIII)I"⟩
def zy_183 : MethodName := ⟨"TankBehindModel", "fit", "(III)Z"⟩
def zy_184 : MethodName := ⟨"TankBehindModel", "car", "(III)I"⟩
def zy_185 : MethodName := ⟨"TankBehindModel", "sell", "(III)Z"⟩
def zy_186 : MethodName := ⟨"TankBehindModel", "ownerIn", "(III)I"⟩
def zy_187 : MethodName := ⟨"TankBehindModel", "owner", "(III)I"⟩
def zy_188 : MethodName := ⟨"TankBehindModel", "partsOf", "(II)I"⟩
def zy_189 : MethodName := ⟨"TankBehindModel", "partsOfCar", "(II)I"⟩
def zy_190 : MethodName := ⟨"TankBehindModel", "forceOf", "(II)I"⟩
def zy_191 : MethodName := ⟨"TankBehindModel", "burnsWith", "(IIII)Z"⟩
def zy_192 : MethodName := ⟨"TankBehindModel", "cars", "(II)I"⟩
def zy_193 : MethodName := ⟨"TankBehindModel", "force", "(II)I"⟩
def zy_194 : MethodName := ⟨"TankBehindModel", "burnsIn", "(IIIII)Z"⟩
def zy_195 : MethodName := ⟨"TankBehindModel", "burns", "(IIIII)I"⟩
def zy_196 : MethodName := ⟨"TankBehindModel", "feed", "(IIIII)I"⟩
def zy_197 : MethodName := ⟨"TankBehindModel", "put", "(I)V"⟩
def zy_198 : MethodName := ⟨"TankBehindModel", "end", "(I)I"⟩
def zy_199 : MethodName := ⟨"TankBehindModel", "wordOf", "(I)Ljava/lang/String;"⟩
def zy_200 : MethodName := ⟨"TankBehindModel", "thingName", "(I)Ljava/lang/String;"⟩
def zy_201 : MethodName := ⟨"TankBehindModel", "fails", "(II)V"⟩
def zy_202 : MethodName := ⟨"TankBehindModel", "sign", "()I"⟩
def zy_203 : MethodName := ⟨"TankBehindModel", "blanks", "()V"⟩
def zy_204 : MethodName := ⟨"TankBehindModel", "isDigit", "(I)Z"⟩
def zy_205 : MethodName := ⟨"TankBehindModel", "stands", "(Ljava/lang/String;)Z"⟩
def zy_206 : MethodName := ⟨"TankBehindModel", "entry", "(II)V"⟩
def zy_207 : MethodName := ⟨"TankBehindModel", "counts", "(I)V"⟩
def zy_208 : MethodName := ⟨"TankBehindModel", "opens", "(I)V"⟩
def zy_209 : MethodName := ⟨"TankBehindModel", "opensDeep", "(II)V"⟩
def zy_210 : MethodName := ⟨"TankBehindModel", "top", "()I"⟩
def zy_211 : MethodName := ⟨"TankBehindModel", "digits", "(I)I"⟩
def zy_212 : MethodName := ⟨"TankBehindModel", "compares", "()I"⟩
def zy_213 : MethodName := ⟨"TankBehindModel", "value", "()V"⟩
def zy_214 : MethodName := ⟨"TankBehindModel", "makesProducts", "()V"⟩
def zy_215 : MethodName := ⟨"TankBehindModel", "makesSums", "()V"⟩
def zy_216 : MethodName := ⟨"TankBehindModel", "beginsFact", "()V"⟩
def zy_217 : MethodName := ⟨"TankBehindModel", "behindValue", "()V"⟩
def zy_218 : MethodName := ⟨"TankBehindModel", "closesRound", "(I)V"⟩
def zy_219 : MethodName := ⟨"TankBehindModel", "makesNots", "()V"⟩
def zy_220 : MethodName := ⟨"TankBehindModel", "makesAnds", "()V"⟩
def zy_221 : MethodName := ⟨"TankBehindModel", "makesOrs", "()V"⟩
def zy_222 : MethodName := ⟨"TankBehindModel", "behindFact", "()V"⟩
def zy_223 : MethodName := ⟨"TankBehindModel", "reads", "(I)V"⟩
def zy_224 : MethodName := ⟨"TankBehindModel", "clause", "(I)V"⟩
def zy_225 : MethodName := ⟨"TankBehindModel", "rule", "(I)I"⟩
def zy_226 : MethodName := ⟨"TankBehindModel", "inForceIn", "(I)I"⟩
def zy_227 : MethodName := ⟨"TankBehindModel", "inForce", "(I)I"⟩
def zy_228 : MethodName := ⟨"TankBehindModel", "asks", "(III)V"⟩
def zy_229 : MethodName := ⟨"TankBehindModel", "truth", "(Z)J"⟩
def zy_230 : MethodName := ⟨"TankBehindModel", "two", "(IJJ)J"⟩
def zy_231 : MethodName := ⟨"TankBehindModel", "answer", "(III)J"⟩
def zy_232 : MethodName := ⟨"TankBehindModel", "tells", "(III)I"⟩
def zy_233 : MethodName := ⟨"TankBehindModel", "mustOf", "(III)I"⟩
def zy_234 : MethodName := ⟨"TankBehindModel", "isAsked", "(III)Z"⟩
def zy_235 : MethodName := ⟨"TankBehindModel", "must", "(III)I"⟩
def zy_236 : MethodName := ⟨"TankBehindModel", "fails", "(III)I"⟩
def zy_237 : MethodName := ⟨"TankBehindModel", "owed", "(II)I"⟩
def zy_238 : MethodName := ⟨"TankBehindModel", "test", "(IIIZ)I"⟩
def zy_239 : MethodName := ⟨"TankBehindModel", "reads", "(II)Z"⟩
def zy_240 : MethodName := ⟨"TankBehindModel", "knewOf", "(IIIIZ)I"⟩
def zy_241 : MethodName := ⟨"TankBehindModel", "knew", "(IIIII)I"⟩
def zy_242 : MethodName := ⟨"TankBehindModel", "knewThatItFails", "(III)I"⟩
def zy_243 : MethodName := ⟨"TankBehindModel", "knewFails", "(III)I"⟩
def zy_244 : MethodName := ⟨"TankBehindModel", "crash", "(IIIIIZZ)I"⟩
def zy_245 : MethodName := ⟨"TankBehindModel", "odd", "(I)I"⟩
def zy_246 : MethodName := ⟨"TankBehindModel", "common", "(JJ)J"⟩
def zy_247 : MethodName := ⟨"TankBehindModel", "expected", "(III)J"⟩
def zy_248 : MethodName := ⟨"TankBehindModel", "memo", "(I)I"⟩
def zy_249 : MethodName := ⟨"TankBehindModel", "isMemo", "(I)Z"⟩
def zy_250 : MethodName := ⟨"TankBehindModel", "row", "(IZII)I"⟩
def zy_251 : MethodName := ⟨"TankBehindModel", "sumOf", "(III)J"⟩
def zy_252 : MethodName := ⟨"TankBehindModel", "memoSum", "(I)J"⟩
def zy_253 : MethodName := ⟨"TankBehindModel", "turnsAt", "(III)J"⟩
def zy_254 : MethodName := ⟨"TankBehindModel", "upTo", "(JJZ)J"⟩
def zy_255 : MethodName := ⟨"TankBehindModel", "downTo", "(JJZ)J"⟩
def zy_256 : MethodName := ⟨"TankBehindModel", "beside", "(III)J"⟩
def zy_257 : MethodName := ⟨"TankBehindModel", "step", "(IIII)I"⟩
def zy_258 : MethodName := ⟨"TankBehindModel", "goes", "(I)I"⟩
def zy_259 : MethodName := ⟨"TankBehindModel", "slack", "(I)I"⟩
def zy_260 : MethodName := ⟨"TankBehindModel", "steps", "(II)I"⟩
def zy_261 : MethodName := ⟨"TankBehindModel", "putOff", "(I)I"⟩
def zy_262 : MethodName := ⟨"TankBehindModel", "costs", "(II)I"⟩
def zy_263 : MethodName := ⟨"TankBehindModel", "change", "(II)I"⟩
def zy_264 : MethodName := ⟨"TankBehindModel", "cheap", "(II)I"⟩
def zy_265 : MethodName := ⟨"TankBehindModel", "call", "(IIII)I"⟩
def zy_266 : MethodName := ⟨"TankBehindModel", "isCall", "(I)Z"⟩
def zy_267 : MethodName := ⟨"TankBehindModel", "isOf", "(II)Z"⟩
def zy_268 : MethodName := ⟨"TankBehindModel", "isLeft", "(II)Z"⟩
def zy_269 : MethodName := ⟨"TankBehindModel", "letters", "(I)I"⟩
def zy_270 : MethodName := ⟨"TankBehindModel", "reached", "(II)I"⟩
def zy_271 : MethodName := ⟨"TankBehindModel", "mend", "(II)Z"⟩
def zy_272 : MethodName := ⟨"TankBehindModel", "left", "(II)I"⟩
def zy_273 : MethodName := ⟨"TankBehindModel", "moves", "(IZ)Z"⟩
def zy_274 : MethodName := ⟨"TankBehindModel", "jury", "(I)J"⟩
def zy_275 : MethodName := ⟨"TankBehindModel", "saver", "(II)I"⟩
def zy_276 : MethodName := ⟨"TankBehindModel", "overlap", "(III)I"⟩
def zy_277 : MethodName := ⟨"TankBehindModel", "best", "(I)I"⟩
def zy_278 : MethodName := ⟨"TankBehindModel", "bests", "(I)I"⟩
def zy_279 : MethodName := ⟨"TankBehindModel", "count", "(I)I"⟩
def zy_280 : MethodName := ⟨"java/util/Arrays", "fill", "([JJ)V"⟩
def zy_281 : MethodName := ⟨"java/util/Arrays", "fill", "([II)V"⟩
noncomputable def zNm : List (MethodName × ByteArray × Nat) := [(zy_0, prog_2_method_1_code, 4), (zy_1, prog_2_method_2_code, 1), (zy_2, prog_2_method_3_code, 1), (zy_3, prog_2_method_4_code, 1), (zy_4, prog_2_method_5_code, 3), (zy_5, prog_3_method_1_code, 0), (zy_6, prog_3_method_2_code, 1), (zy_7, prog_3_method_3_code, 0), (zy_8, prog_3_method_4_code, 4), (zy_9, prog_3_method_5_code, 5), (zy_10, prog_3_method_6_code, 3), (zy_11, prog_3_method_7_code, 3), (zy_12, prog_3_method_8_code, 2), (zy_13, prog_3_method_9_code, 2), (zy_14, prog_4_method_1_code, 0), (zy_15, prog_4_method_2_code, 1), (zy_16, prog_4_method_3_code, 1), (zy_17, prog_4_method_4_code, 2), (zy_18, prog_4_method_5_code, 1), (zy_19, prog_4_method_6_code, 1), (zy_20, prog_4_method_7_code, 4), (zy_21, prog_4_method_8_code, 4), (zy_22, prog_4_method_9_code, 3), (zy_23, prog_4_method_10_code, 2), (zy_24, prog_5_method_1_code, 0), (zy_25, prog_5_method_2_code, 1), (zy_26, prog_5_method_3_code, 1), (zy_27, prog_5_method_4_code, 2), (zy_28, prog_5_method_5_code, 4), (zy_29, prog_5_method_6_code, 4), (zy_30, prog_5_method_7_code, 4), (zy_31, prog_5_method_8_code, 3), (zy_32, prog_5_method_9_code, 2), (zy_33, prog_5_method_10_code, 2), (zy_34, prog_5_method_11_code, 4), (zy_35, prog_5_method_12_code, 4), (zy_36, prog_6_method_1_code, 0), (zy_37, prog_6_method_2_code, 1), (zy_38, prog_6_method_3_code, 2), (zy_39, prog_6_method_4_code, 0), (zy_40, prog_6_method_5_code, 4), (zy_41, prog_6_method_6_code, 1), (zy_42, prog_6_method_7_code, 3), (zy_43, prog_6_method_8_code, 3), (zy_44, prog_7_method_1_code, 0), (zy_45, prog_7_method_2_code, 1), (zy_46, prog_7_method_3_code, 1), (zy_47, prog_7_method_4_code, 4), (zy_48, prog_7_method_5_code, 2), (zy_49, prog_7_method_6_code, 2), (zy_50, prog_7_method_7_code, 1), (zy_51, prog_7_method_8_code, 1), (zy_52, prog_7_method_9_code, 2), (zy_53, prog_7_method_10_code, 2), (zy_54, prog_8_method_1_code, 0), (zy_55, prog_8_method_2_code, 1), (zy_56, prog_8_method_3_code, 4), (zy_57, prog_8_method_4_code, 2), (zy_58, prog_8_method_5_code, 2), (zy_59, prog_8_method_6_code, 2), (zy_60, prog_8_method_7_code, 2), (zy_61, prog_8_method_8_code, 3), (zy_62, prog_9_method_1_code, 0), (zy_63, prog_9_method_2_code, 0), (zy_64, prog_9_method_3_code, 2), (zy_65, prog_9_method_4_code, 1), (zy_66, prog_9_method_5_code, 2), (zy_67, prog_9_method_6_code, 2), (zy_68, prog_9_method_7_code, 3), (zy_69, prog_9_method_8_code, 1), (zy_70, prog_9_method_9_code, 3), (zy_71, prog_10_method_1_code, 0), (zy_72, prog_10_method_2_code, 1), (zy_73, prog_10_method_3_code, 1), (zy_74, prog_10_method_4_code, 1), (zy_75, prog_10_method_5_code, 0), (zy_76, prog_10_method_6_code, 0), (zy_77, prog_10_method_7_code, 3), (zy_78, prog_10_method_8_code, 1), (zy_79, prog_10_method_9_code, 1), (zy_80, prog_10_method_10_code, 1), (zy_81, prog_10_method_11_code, 1), (zy_82, prog_10_method_12_code, 0), (zy_83, prog_10_method_13_code, 1), (zy_84, prog_10_method_14_code, 1), (zy_85, prog_10_method_15_code, 1), (zy_86, prog_10_method_16_code, 1), (zy_87, prog_10_method_17_code, 0), (zy_88, prog_10_method_18_code, 1), (zy_89, prog_10_method_19_code, 1), (zy_90, prog_10_method_20_code, 0), (zy_91, prog_10_method_21_code, 0), (zy_92, prog_10_method_22_code, 1), (zy_93, prog_10_method_23_code, 2), (zy_94, prog_11_method_1_code, 0), (zy_95, prog_11_method_2_code, 1), (zy_96, prog_11_method_3_code, 2), (zy_97, prog_11_method_4_code, 3), (zy_98, prog_11_method_5_code, 1), (zy_99, prog_11_method_6_code, 1), (zy_100, prog_11_method_7_code, 1), (zy_101, prog_12_method_1_code, 0), (zy_102, prog_12_method_2_code, 1), (zy_103, prog_12_method_3_code, 4), (zy_104, prog_12_method_4_code, 3), (zy_105, prog_12_method_5_code, 3), (zy_106, prog_12_method_6_code, 4), (zy_107, prog_12_method_7_code, 4), (zy_108, prog_12_method_8_code, 4), (zy_109, prog_1_method_1_code, 0), (zy_110, prog_1_method_2_code, 1), (zy_111, prog_1_method_3_code, 1), (zy_112, prog_1_method_4_code, 2), (zy_113, prog_1_method_5_code, 4), (zy_114, prog_1_method_6_code, 4), (zy_115, prog_1_method_7_code, 3), (zy_116, prog_1_method_8_code, 3), (zy_117, prog_1_method_9_code, 3), (zy_118, prog_1_method_10_code, 3), (zy_119, prog_1_method_11_code, 2), (zy_120, prog_1_method_12_code, 2), (zy_121, prog_1_method_13_code, 5), (zy_122, prog_1_method_14_code, 5), (zy_123, prog_1_method_15_code, 1), (zy_124, prog_1_method_16_code, 1), (zy_125, prog_1_method_17_code, 1), (zy_126, prog_1_method_18_code, 3), (zy_127, prog_1_method_19_code, 3), (zy_128, prog_1_method_20_code, 2), (zy_129, prog_1_method_21_code, 4), (zy_130, prog_1_method_22_code, 2), (zy_131, prog_1_method_23_code, 5), (zy_132, prog_1_method_24_code, 3), (zy_133, prog_1_method_25_code, 7), (zy_134, prog_1_method_26_code, 1), (zy_135, prog_1_method_27_code, 3), (zy_136, prog_1_method_28_code, 1), (zy_137, prog_1_method_29_code, 4), (zy_138, prog_1_method_30_code, 1), (zy_139, prog_1_method_31_code, 3), (zy_140, prog_1_method_32_code, 3), (zy_141, prog_1_method_33_code, 4), (zy_142, prog_1_method_34_code, 2), (zy_143, prog_1_method_35_code, 1), (zy_144, prog_1_method_36_code, 2), (zy_145, prog_1_method_37_code, 2), (zy_146, prog_1_method_38_code, 4), (zy_147, prog_1_method_39_code, 1), (zy_148, prog_1_method_40_code, 2), (zy_149, prog_1_method_41_code, 2), (zy_150, prog_1_method_42_code, 2), (zy_151, prog_1_method_43_code, 2), (zy_152, prog_1_method_44_code, 1), (zy_153, prog_1_method_45_code, 2), (zy_154, prog_1_method_46_code, 3), (zy_155, prog_1_method_47_code, 1), (zy_156, prog_1_method_48_code, 1), (zy_157, prog_1_method_49_code, 1), (zy_158, prog_1_method_50_code, 3), (zy_159, prog_1_method_51_code, 1), (zy_160, prog_1_method_52_code, 1), (zy_161, prog_1_method_53_code, 1), (zy_162, prog_1_method_54_code, 1), (zy_163, prog_1_method_55_code, 2), (zy_164, prog_1_method_56_code, 1), (zy_165, prog_1_method_57_code, 3), (zy_166, prog_1_method_58_code, 2), (zy_167, prog_1_method_59_code, 3), (zy_168, prog_1_method_60_code, 3), (zy_169, prog_1_method_61_code, 1), (zy_170, prog_14_method_1_code, 0), (zy_171, prog_14_method_3_code, 3), (zy_172, prog_14_method_4_code, 1), (zy_173, prog_14_method_5_code, 1), (zy_174, prog_14_method_6_code, 1), (zy_175, prog_14_method_7_code, 1), (zy_176, prog_14_method_8_code, 1), (zy_177, prog_14_method_9_code, 1), (zy_178, prog_14_method_10_code, 1), (zy_179, prog_14_method_11_code, 1), (zy_180, prog_14_method_12_code, 2), (zy_181, prog_14_method_13_code, 4), (zy_182, prog_14_method_14_code, 4), (zy_183, prog_14_method_15_code, 3), (zy_184, prog_14_method_16_code, 3), (zy_185, prog_14_method_17_code, 3), (zy_186, prog_14_method_18_code, 3), (zy_187, prog_14_method_19_code, 3), (zy_188, prog_14_method_20_code, 2), (zy_189, prog_14_method_21_code, 2), (zy_190, prog_14_method_22_code, 2), (zy_191, prog_14_method_23_code, 4), (zy_192, prog_14_method_24_code, 2), (zy_193, prog_14_method_25_code, 2), (zy_194, prog_14_method_26_code, 5), (zy_195, prog_14_method_27_code, 5), (zy_196, prog_14_method_28_code, 5), (zy_197, prog_14_method_29_code, 1), (zy_198, prog_14_method_30_code, 1), (zy_199, prog_14_method_31_code, 1), (zy_200, prog_14_method_32_code, 1), (zy_201, prog_14_method_33_code, 2), (zy_202, prog_14_method_34_code, 0), (zy_203, prog_14_method_35_code, 0), (zy_204, prog_14_method_36_code, 1), (zy_205, prog_14_method_37_code, 1), (zy_206, prog_14_method_38_code, 2), (zy_207, prog_14_method_39_code, 1), (zy_208, prog_14_method_40_code, 1), (zy_209, prog_14_method_41_code, 2), (zy_210, prog_14_method_42_code, 0), (zy_211, prog_14_method_43_code, 1), (zy_212, prog_14_method_44_code, 0), (zy_213, prog_14_method_45_code, 0), (zy_214, prog_14_method_46_code, 0), (zy_215, prog_14_method_47_code, 0), (zy_216, prog_14_method_48_code, 0), (zy_217, prog_14_method_49_code, 0), (zy_218, prog_14_method_50_code, 1), (zy_219, prog_14_method_51_code, 0), (zy_220, prog_14_method_52_code, 0), (zy_221, prog_14_method_53_code, 0), (zy_222, prog_14_method_54_code, 0), (zy_223, prog_14_method_55_code, 1), (zy_224, prog_14_method_56_code, 1), (zy_225, prog_14_method_57_code, 1), (zy_226, prog_14_method_58_code, 1), (zy_227, prog_14_method_59_code, 1), (zy_228, prog_14_method_60_code, 3), (zy_229, prog_14_method_61_code, 1), (zy_230, prog_14_method_62_code, 3), (zy_231, prog_14_method_63_code, 3), (zy_232, prog_14_method_64_code, 3), (zy_233, prog_14_method_65_code, 3), (zy_234, prog_14_method_66_code, 3), (zy_235, prog_14_method_67_code, 3), (zy_236, prog_14_method_68_code, 3), (zy_237, prog_14_method_69_code, 2), (zy_238, prog_14_method_70_code, 4), (zy_239, prog_14_method_71_code, 2), (zy_240, prog_14_method_72_code, 5), (zy_241, prog_14_method_73_code, 5), (zy_242, prog_14_method_74_code, 3), (zy_243, prog_14_method_75_code, 3), (zy_244, prog_14_method_76_code, 7), (zy_245, prog_14_method_77_code, 1), (zy_246, prog_14_method_78_code, 2), (zy_247, prog_14_method_79_code, 3), (zy_248, prog_14_method_80_code, 1), (zy_249, prog_14_method_81_code, 1), (zy_250, prog_14_method_82_code, 4), (zy_251, prog_14_method_83_code, 3), (zy_252, prog_14_method_84_code, 1), (zy_253, prog_14_method_85_code, 3), (zy_254, prog_14_method_86_code, 3), (zy_255, prog_14_method_87_code, 3), (zy_256, prog_14_method_88_code, 3), (zy_257, prog_14_method_89_code, 4), (zy_258, prog_14_method_90_code, 1), (zy_259, prog_14_method_91_code, 1), (zy_260, prog_14_method_92_code, 2), (zy_261, prog_14_method_93_code, 1), (zy_262, prog_14_method_94_code, 2), (zy_263, prog_14_method_95_code, 2), (zy_264, prog_14_method_96_code, 2), (zy_265, prog_14_method_97_code, 4), (zy_266, prog_14_method_98_code, 1), (zy_267, prog_14_method_99_code, 2), (zy_268, prog_14_method_100_code, 2), (zy_269, prog_14_method_101_code, 1), (zy_270, prog_14_method_102_code, 2), (zy_271, prog_14_method_103_code, 2), (zy_272, prog_14_method_104_code, 2), (zy_273, prog_14_method_105_code, 2), (zy_274, prog_14_method_106_code, 1), (zy_275, prog_14_method_107_code, 2), (zy_276, prog_14_method_108_code, 3), (zy_277, prog_14_method_109_code, 1), (zy_278, prog_14_method_110_code, 1), (zy_279, prog_14_method_111_code, 1), (zy_280, prog_21_method_101_code, 2), (zy_281, prog_21_method_103_code, 2)]
def zKm : List Nat := [2, 1, 1, 1, 1, 2, 1, 1, 1, 1, 1, 1, 1, 0, 2, 1, 1, 1, 1, 1, 1, 1, 1, 1, 2, 1, 1, 1, 1, 1, 0, 1, 1, 1, 1, 1, 2, 1, 1, 1, 1, 1, 1, 1, 2, 1, 1, 1, 1, 1, 1, 1, 1, 1, 2, 1, 1, 1, 1, 1, 1, 1, 2, 1, 1, 1, 1, 1, 1, 1, 0, 2, 1, 1, 1, 1, 1, 1, 1, 1, 1, 1, 1, 1, 1, 1, 1, 1, 1, 1, 1, 1, 1, 1, 2, 1, 1, 1, 1, 1, 1, 2, 1, 1, 1, 1, 1, 1, 1, 2, 1, 1, 1, 1, 1, 1, 1, 1, 1, 1, 1, 1, 1, 1, 1, 1, 1, 1, 1, 1, 1, 1, 1, 1, 1, 1, 1, 1, 1, 1, 1, 1, 1, 1, 1, 1, 1, 1, 1, 1, 1, 1, 1, 1, 1, 1, 1, 1, 0, 0, 0, 0, 0, 1, 1, 1, 1, 1, 1, 0, 2, 0, 0, 0, 1, 1, 1, 1, 1, 1, 1, 1, 1, 1, 1, 1, 1, 1, 1, 1, 1, 1, 1, 1, 1, 1, 1, 1, 1, 0, 0, 1, 1, 1, 0, 1, 1, 1, 1, 1, 1, 1, 1, 1, 1, 1, 1, 1, 1, 1, 1, 1, 1, 1, 1, 1, 1, 1, 1, 0, 0, 1, 1, 1, 1, 1, 1, 1, 1, 1, 1, 1, 1, 1, 1, 1, 0, 1, 1, 1, 1, 1, 1, 1, 0, 0, 1, 1, 1, 1, 1, 1, 1, 1, 1, 1, 1, 1, 1, 1, 1, 1, 1, 1, 1, 1, 1, 1, 1, 1, 0, 0]
noncomputable def zProg : List zI := [(cd_0, 5, (Option.none : Option Jvm.ClassFile.FieldType), 1, 12), (cd_1, 4, (Option.some Jvm.ClassFile.FieldType.int), 0, 0), (cd_2, 2, (Option.some Jvm.ClassFile.FieldType.boolean), 0, 0), (cd_3, 2, (Option.some Jvm.ClassFile.FieldType.boolean), 0, 0), (cd_4, 4, (Option.none : Option Jvm.ClassFile.FieldType), 0, 0), (cd_5, 1, (Option.none : Option Jvm.ClassFile.FieldType), 12, 1636), (cd_6, 2, (Option.some Jvm.ClassFile.FieldType.boolean), 0, 0), (cd_7, 1, (Option.some Jvm.ClassFile.FieldType.boolean), 0, 0), (cd_8, 5, (Option.some Jvm.ClassFile.FieldType.int), 0, 0), (cd_9, 6, (Option.none : Option Jvm.ClassFile.FieldType), 0, 0), (cd_10, 5, (Option.none : Option Jvm.ClassFile.FieldType), 0, 0), (cd_11, 17, (Option.some Jvm.ClassFile.FieldType.long), 0, 0), (cd_12, 8, (Option.none : Option Jvm.ClassFile.FieldType), 0, 0), (cd_13, 11, (Option.some Jvm.ClassFile.FieldType.long), 0, 0), (cd_14, 1, (Option.none : Option Jvm.ClassFile.FieldType), 7, 2020), (cd_15, 2, (Option.some Jvm.ClassFile.FieldType.boolean), 0, 0), (cd_16, 2, (Option.some Jvm.ClassFile.FieldType.int), 0, 0), (cd_17, 3, (Option.some Jvm.ClassFile.FieldType.boolean), 0, 0), (cd_18, 5, (Option.some Jvm.ClassFile.FieldType.long), 0, 0), (cd_19, 2, (Option.some (Jvm.ClassFile.FieldType.object "TankBehind$Car")), 0, 0), (cd_20, 5, (Option.some Jvm.ClassFile.FieldType.int), 2, 23), (cd_21, 6, (Option.some Jvm.ClassFile.FieldType.boolean), 0, 0), (cd_22, 5, (Option.some Jvm.ClassFile.FieldType.int), 0, 0), (cd_23, 5, (Option.none : Option Jvm.ClassFile.FieldType), 0, 0), (cd_24, 2, (Option.none : Option Jvm.ClassFile.FieldType), 34, 207), (cd_25, 2, (Option.some Jvm.ClassFile.FieldType.boolean), 0, 0), (cd_26, 2, (Option.some Jvm.ClassFile.FieldType.boolean), 0, 0), (cd_27, 4, (Option.some Jvm.ClassFile.FieldType.int), 0, 0), (cd_28, 5, (Option.some Jvm.ClassFile.FieldType.int), 0, 0), (cd_29, 5, (Option.some Jvm.ClassFile.FieldType.int), 0, 0), (cd_30, 4, (Option.none : Option Jvm.ClassFile.FieldType), 0, 0), (cd_31, 4, (Option.some Jvm.ClassFile.FieldType.boolean), 0, 0), (cd_32, 5, (Option.some Jvm.ClassFile.FieldType.int), 0, 0), (cd_33, 3, (Option.some Jvm.ClassFile.FieldType.int), 0, 0), (cd_34, 7, (Option.some Jvm.ClassFile.FieldType.boolean), 0, 0), (cd_35, 8, (Option.some Jvm.ClassFile.FieldType.int), 0, 0), (cd_36, 1, (Option.none : Option Jvm.ClassFile.FieldType), 4, 380), (cd_37, 2, (Option.some Jvm.ClassFile.FieldType.boolean), 0, 0), (cd_38, 3, (Option.some Jvm.ClassFile.FieldType.boolean), 0, 0), (cd_39, 1, (Option.some Jvm.ClassFile.FieldType.int), 0, 0), (cd_40, 7, (Option.some Jvm.ClassFile.FieldType.int), 0, 0), (cd_41, 2, (Option.some Jvm.ClassFile.FieldType.long), 0, 0), (cd_42, 11, (Option.some Jvm.ClassFile.FieldType.long), 0, 0), (cd_43, 13, (Option.some Jvm.ClassFile.FieldType.long), 0, 0), (cd_44, 1, (Option.none : Option Jvm.ClassFile.FieldType), 7, 168), (cd_45, 2, (Option.some Jvm.ClassFile.FieldType.boolean), 0, 0), (cd_46, 2, (Option.some Jvm.ClassFile.FieldType.boolean), 0, 0), (cd_47, 5, (Option.some Jvm.ClassFile.FieldType.int), 0, 0), (cd_48, 5, (Option.some Jvm.ClassFile.FieldType.int), 0, 0), (cd_49, 3, (Option.some Jvm.ClassFile.FieldType.boolean), 0, 0), (cd_50, 3, (Option.some Jvm.ClassFile.FieldType.int), 0, 0), (cd_51, 7, (Option.some Jvm.ClassFile.FieldType.int), 0, 0), (cd_52, 3, (Option.some Jvm.ClassFile.FieldType.int), 0, 0), (cd_53, 4, (Option.some Jvm.ClassFile.FieldType.int), 0, 0), (cd_54, 1, (Option.none : Option Jvm.ClassFile.FieldType), 4, 80), (cd_55, 2, (Option.some Jvm.ClassFile.FieldType.boolean), 0, 0), (cd_56, 5, (Option.some Jvm.ClassFile.FieldType.int), 0, 0), (cd_57, 3, (Option.some Jvm.ClassFile.FieldType.boolean), 0, 0), (cd_58, 3, (Option.some Jvm.ClassFile.FieldType.boolean), 0, 0), (cd_59, 6, (Option.some Jvm.ClassFile.FieldType.int), 0, 0), (cd_60, 5, (Option.some Jvm.ClassFile.FieldType.int), 0, 0), (cd_61, 6, (Option.some Jvm.ClassFile.FieldType.int), 0, 0), (cd_62, 1, (Option.none : Option Jvm.ClassFile.FieldType), 5, 122), (cd_63, 1, (Option.some Jvm.ClassFile.FieldType.boolean), 0, 0), (cd_64, 3, (Option.some Jvm.ClassFile.FieldType.int), 0, 0), (cd_65, 4, (Option.some Jvm.ClassFile.FieldType.int), 0, 0), (cd_66, 6, (Option.some Jvm.ClassFile.FieldType.int), 0, 0), (cd_67, 3, (Option.some Jvm.ClassFile.FieldType.long), 0, 0), (cd_68, 7, (Option.some Jvm.ClassFile.FieldType.long), 0, 0), (cd_69, 3, (Option.some Jvm.ClassFile.FieldType.long), 0, 0), (cd_70, 5, (Option.some Jvm.ClassFile.FieldType.long), 0, 0), (cd_71, 1, (Option.none : Option Jvm.ClassFile.FieldType), 3, 848), (cd_72, 2, (Option.some Jvm.ClassFile.FieldType.boolean), 0, 0), (cd_73, 3, (Option.none : Option Jvm.ClassFile.FieldType), 0, 0), (cd_74, 2, (Option.some Jvm.ClassFile.FieldType.int), 0, 0), (cd_75, 2, (Option.some Jvm.ClassFile.FieldType.int), 0, 0), (cd_76, 5, (Option.some Jvm.ClassFile.FieldType.boolean), 0, 0), (cd_77, 5, (Option.none : Option Jvm.ClassFile.FieldType), 0, 0), (cd_78, 3, (Option.some Jvm.ClassFile.FieldType.boolean), 0, 0), (cd_79, 3, (Option.some Jvm.ClassFile.FieldType.boolean), 0, 0), (cd_80, 4, (Option.some Jvm.ClassFile.FieldType.boolean), 0, 0), (cd_81, 3, (Option.some Jvm.ClassFile.FieldType.boolean), 0, 0), (cd_82, 2, (Option.some Jvm.ClassFile.FieldType.int), 0, 0), (cd_83, 4, (Option.some Jvm.ClassFile.FieldType.boolean), 0, 0), (cd_84, 3, (Option.some Jvm.ClassFile.FieldType.boolean), 0, 0), (cd_85, 5, (Option.some Jvm.ClassFile.FieldType.boolean), 0, 0), (cd_86, 2, (Option.some Jvm.ClassFile.FieldType.boolean), 0, 0), (cd_87, 1, (Option.some Jvm.ClassFile.FieldType.boolean), 0, 0), (cd_88, 2, (Option.some Jvm.ClassFile.FieldType.boolean), 0, 0), (cd_89, 5, (Option.some Jvm.ClassFile.FieldType.int), 0, 0), (cd_90, 1, (Option.some Jvm.ClassFile.FieldType.int), 0, 0), (cd_91, 6, (Option.some Jvm.ClassFile.FieldType.int), 0, 0), (cd_92, 2, (Option.none : Option Jvm.ClassFile.FieldType), 0, 0), (cd_93, 3, (Option.some Jvm.ClassFile.FieldType.boolean), 0, 0), (cd_94, 1, (Option.none : Option Jvm.ClassFile.FieldType), 12, 108), (cd_95, 2, (Option.some Jvm.ClassFile.FieldType.boolean), 0, 0), (cd_96, 3, (Option.some Jvm.ClassFile.FieldType.int), 0, 0), (cd_97, 5, (Option.some Jvm.ClassFile.FieldType.int), 0, 0), (cd_98, 6, (Option.some Jvm.ClassFile.FieldType.int), 0, 0), (cd_99, 4, (Option.some Jvm.ClassFile.FieldType.int), 0, 0), (cd_100, 5, (Option.some Jvm.ClassFile.FieldType.int), 0, 0), (cd_101, 1, (Option.none : Option Jvm.ClassFile.FieldType), 8, 2800), (cd_102, 2, (Option.some Jvm.ClassFile.FieldType.boolean), 0, 0), (cd_103, 5, (Option.some Jvm.ClassFile.FieldType.int), 0, 0), (cd_104, 4, (Option.some Jvm.ClassFile.FieldType.boolean), 0, 0), (cd_105, 4, (Option.some Jvm.ClassFile.FieldType.boolean), 0, 0), (cd_106, 8, (Option.some Jvm.ClassFile.FieldType.int), 0, 0), (cd_107, 8, (Option.some Jvm.ClassFile.FieldType.int), 0, 0), (cd_108, 9, (Option.none : Option Jvm.ClassFile.FieldType), 0, 0), (cd_109, 1, (Option.none : Option Jvm.ClassFile.FieldType), 110, 10850), (cd_110, 2, (Option.some Jvm.ClassFile.FieldType.boolean), 0, 0), (cd_111, 2, (Option.some Jvm.ClassFile.FieldType.int), 0, 0), (cd_112, 3, (Option.some Jvm.ClassFile.FieldType.int), 0, 0), (cd_113, 6, (Option.some Jvm.ClassFile.FieldType.int), 0, 0), (cd_114, 6, (Option.some Jvm.ClassFile.FieldType.int), 0, 0), (cd_115, 4, (Option.some Jvm.ClassFile.FieldType.boolean), 0, 0), (cd_116, 5, (Option.some Jvm.ClassFile.FieldType.int), 2, 23), (cd_117, 5, (Option.some Jvm.ClassFile.FieldType.boolean), 0, 0), (cd_118, 5, (Option.some Jvm.ClassFile.FieldType.int), 0, 0), (cd_119, 4, (Option.some Jvm.ClassFile.FieldType.int), 0, 0), (cd_120, 3, (Option.some Jvm.ClassFile.FieldType.int), 0, 0), (cd_121, 8, (Option.some Jvm.ClassFile.FieldType.int), 0, 0), (cd_122, 6, (Option.some Jvm.ClassFile.FieldType.int), 0, 0), (cd_123, 2, (Option.some Jvm.ClassFile.FieldType.int), 0, 0), (cd_124, 3, (Option.some Jvm.ClassFile.FieldType.int), 0, 0), (cd_125, 2, (Option.some Jvm.ClassFile.FieldType.int), 0, 0), (cd_126, 4, (Option.some Jvm.ClassFile.FieldType.int), 0, 0), (cd_127, 5, (Option.some Jvm.ClassFile.FieldType.int), 0, 0), (cd_128, 3, (Option.some Jvm.ClassFile.FieldType.int), 0, 0), (cd_129, 6, (Option.some Jvm.ClassFile.FieldType.int), 0, 0), (cd_130, 3, (Option.some Jvm.ClassFile.FieldType.boolean), 0, 0), (cd_131, 7, (Option.some Jvm.ClassFile.FieldType.int), 0, 0), (cd_132, 4, (Option.some Jvm.ClassFile.FieldType.int), 0, 0), (cd_133, 10, (Option.some Jvm.ClassFile.FieldType.int), 0, 0), (cd_134, 5, (Option.some Jvm.ClassFile.FieldType.int), 0, 0), (cd_135, 4, (Option.some Jvm.ClassFile.FieldType.long), 0, 0), (cd_136, 2, (Option.some Jvm.ClassFile.FieldType.int), 0, 0), (cd_137, 6, (Option.some Jvm.ClassFile.FieldType.int), 0, 0), (cd_138, 2, (Option.some Jvm.ClassFile.FieldType.long), 0, 0), (cd_139, 5, (Option.some Jvm.ClassFile.FieldType.long), 0, 0), (cd_140, 5, (Option.some Jvm.ClassFile.FieldType.long), 0, 0), (cd_141, 6, (Option.some Jvm.ClassFile.FieldType.int), 0, 0), (cd_142, 3, (Option.some Jvm.ClassFile.FieldType.int), 0, 0), (cd_143, 2, (Option.some Jvm.ClassFile.FieldType.int), 0, 0), (cd_144, 3, (Option.some Jvm.ClassFile.FieldType.int), 0, 0), (cd_145, 3, (Option.some Jvm.ClassFile.FieldType.int), 0, 0), (cd_146, 6, (Option.some Jvm.ClassFile.FieldType.int), 0, 0), (cd_147, 2, (Option.some Jvm.ClassFile.FieldType.int), 0, 0), (cd_148, 4, (Option.some Jvm.ClassFile.FieldType.int), 0, 0), (cd_149, 4, (Option.some Jvm.ClassFile.FieldType.boolean), 0, 0), (cd_150, 3, (Option.some Jvm.ClassFile.FieldType.int), 0, 0), (cd_151, 3, (Option.some Jvm.ClassFile.FieldType.boolean), 0, 0), (cd_152, 8, (Option.some Jvm.ClassFile.FieldType.long), 0, 0), (cd_153, 3, (Option.some Jvm.ClassFile.FieldType.int), 0, 0), (cd_154, 5, (Option.some Jvm.ClassFile.FieldType.int), 0, 0), (cd_155, 2, (Option.some Jvm.ClassFile.FieldType.int), 0, 0), (cd_156, 2, (Option.some Jvm.ClassFile.FieldType.int), 0, 0), (cd_157, 2, (Option.some Jvm.ClassFile.FieldType.int), 0, 0), (cd_158, 3, (Option.some Jvm.ClassFile.FieldType.boolean), 0, 0), (cd_159, 1, (Option.some Jvm.ClassFile.FieldType.boolean), 0, 0), (cd_160, 1, (Option.some Jvm.ClassFile.FieldType.boolean), 0, 0), (cd_161, 1, (Option.some Jvm.ClassFile.FieldType.boolean), 0, 0), (cd_162, 1, (Option.some Jvm.ClassFile.FieldType.boolean), 0, 0), (cd_163, 3, (Option.some Jvm.ClassFile.FieldType.int), 0, 0), (cd_164, 2, (Option.none : Option Jvm.ClassFile.FieldType), 0, 0), (cd_165, 5, (Option.none : Option Jvm.ClassFile.FieldType), 0, 0), (cd_166, 7, (Option.none : Option Jvm.ClassFile.FieldType), 0, 0), (cd_167, 6, (Option.some Jvm.ClassFile.FieldType.int), 0, 0), (cd_168, 6, (Option.some Jvm.ClassFile.FieldType.int), 0, 0), (cd_169, 2, (Option.none : Option Jvm.ClassFile.FieldType), 0, 0), (cd_170, 2, (Option.none : Option Jvm.ClassFile.FieldType), 70, 32970), (cd_171, 6, (Option.some Jvm.ClassFile.FieldType.boolean), 0, 0), (cd_172, 1, (Option.some Jvm.ClassFile.FieldType.boolean), 0, 0), (cd_173, 1, (Option.some Jvm.ClassFile.FieldType.boolean), 0, 0), (cd_174, 2, (Option.some Jvm.ClassFile.FieldType.boolean), 0, 0), (cd_175, 2, (Option.some Jvm.ClassFile.FieldType.boolean), 0, 0), (cd_176, 2, (Option.some Jvm.ClassFile.FieldType.boolean), 0, 0), (cd_177, 2, (Option.some Jvm.ClassFile.FieldType.boolean), 0, 0), (cd_178, 2, (Option.some Jvm.ClassFile.FieldType.boolean), 0, 0), (cd_179, 2, (Option.some Jvm.ClassFile.FieldType.int), 0, 0), (cd_180, 4, (Option.some Jvm.ClassFile.FieldType.int), 0, 0), (cd_181, 5, (Option.some Jvm.ClassFile.FieldType.int), 0, 0), (cd_182, 5, (Option.some Jvm.ClassFile.FieldType.int), 0, 0), (cd_183, 4, (Option.some Jvm.ClassFile.FieldType.boolean), 0, 0), (cd_184, 4, (Option.some Jvm.ClassFile.FieldType.int), 0, 0), (cd_185, 4, (Option.some Jvm.ClassFile.FieldType.boolean), 0, 0), (cd_186, 6, (Option.some Jvm.ClassFile.FieldType.int), 0, 0), (cd_187, 4, (Option.some Jvm.ClassFile.FieldType.int), 0, 0), (cd_188, 5, (Option.some Jvm.ClassFile.FieldType.int), 0, 0), (cd_189, 5, (Option.some Jvm.ClassFile.FieldType.int), 0, 0), (cd_190, 3, (Option.some Jvm.ClassFile.FieldType.int), 0, 0), (cd_191, 7, (Option.some Jvm.ClassFile.FieldType.boolean), 0, 0), (cd_192, 3, (Option.some Jvm.ClassFile.FieldType.int), 0, 0), (cd_193, 3, (Option.some Jvm.ClassFile.FieldType.int), 0, 0), (cd_194, 6, (Option.some Jvm.ClassFile.FieldType.boolean), 0, 0), (cd_195, 6, (Option.some Jvm.ClassFile.FieldType.int), 0, 0), (cd_196, 6, (Option.some Jvm.ClassFile.FieldType.int), 0, 0), (cd_197, 3, (Option.none : Option Jvm.ClassFile.FieldType), 0, 0), (cd_198, 2, (Option.some Jvm.ClassFile.FieldType.int), 0, 0), (cd_199, 1, (Option.some (Jvm.ClassFile.FieldType.object "java/lang/String")), 0, 0), (cd_200, 1, (Option.some (Jvm.ClassFile.FieldType.object "java/lang/String")), 0, 0), (cd_201, 3, (Option.none : Option Jvm.ClassFile.FieldType), 0, 0), (cd_202, 1, (Option.some Jvm.ClassFile.FieldType.int), 0, 0), (cd_203, 1, (Option.none : Option Jvm.ClassFile.FieldType), 0, 0), (cd_204, 1, (Option.some Jvm.ClassFile.FieldType.boolean), 0, 0), (cd_205, 5, (Option.some Jvm.ClassFile.FieldType.boolean), 0, 0), (cd_206, 3, (Option.none : Option Jvm.ClassFile.FieldType), 0, 0), (cd_207, 2, (Option.none : Option Jvm.ClassFile.FieldType), 0, 0), (cd_208, 2, (Option.none : Option Jvm.ClassFile.FieldType), 0, 0), (cd_209, 3, (Option.none : Option Jvm.ClassFile.FieldType), 0, 0), (cd_210, 1, (Option.some Jvm.ClassFile.FieldType.int), 0, 0), (cd_211, 5, (Option.some Jvm.ClassFile.FieldType.int), 0, 0), (cd_212, 3, (Option.some Jvm.ClassFile.FieldType.int), 0, 0), (cd_213, 3, (Option.none : Option Jvm.ClassFile.FieldType), 0, 0), (cd_214, 1, (Option.none : Option Jvm.ClassFile.FieldType), 0, 0), (cd_215, 1, (Option.none : Option Jvm.ClassFile.FieldType), 0, 0), (cd_216, 1, (Option.none : Option Jvm.ClassFile.FieldType), 0, 0), (cd_217, 3, (Option.none : Option Jvm.ClassFile.FieldType), 0, 0), (cd_218, 2, (Option.none : Option Jvm.ClassFile.FieldType), 0, 0), (cd_219, 1, (Option.none : Option Jvm.ClassFile.FieldType), 0, 0), (cd_220, 1, (Option.none : Option Jvm.ClassFile.FieldType), 0, 0), (cd_221, 1, (Option.none : Option Jvm.ClassFile.FieldType), 0, 0), (cd_222, 1, (Option.none : Option Jvm.ClassFile.FieldType), 0, 0), (cd_223, 2, (Option.none : Option Jvm.ClassFile.FieldType), 0, 0), (cd_224, 6, (Option.none : Option Jvm.ClassFile.FieldType), 0, 0), (cd_225, 4, (Option.some Jvm.ClassFile.FieldType.int), 0, 0), (cd_226, 4, (Option.some Jvm.ClassFile.FieldType.int), 0, 0), (cd_227, 2, (Option.some Jvm.ClassFile.FieldType.int), 0, 0), (cd_228, 6, (Option.none : Option Jvm.ClassFile.FieldType), 0, 0), (cd_229, 1, (Option.some Jvm.ClassFile.FieldType.long), 0, 0), (cd_230, 5, (Option.some Jvm.ClassFile.FieldType.long), 0, 0), (cd_231, 6, (Option.some Jvm.ClassFile.FieldType.long), 0, 0), (cd_232, 7, (Option.some Jvm.ClassFile.FieldType.int), 0, 0), (cd_233, 8, (Option.some Jvm.ClassFile.FieldType.int), 0, 0), (cd_234, 4, (Option.some Jvm.ClassFile.FieldType.boolean), 0, 0), (cd_235, 4, (Option.some Jvm.ClassFile.FieldType.int), 0, 0), (cd_236, 5, (Option.some Jvm.ClassFile.FieldType.int), 0, 0), (cd_237, 4, (Option.some Jvm.ClassFile.FieldType.int), 0, 0), (cd_238, 5, (Option.some Jvm.ClassFile.FieldType.int), 0, 0), (cd_239, 5, (Option.some Jvm.ClassFile.FieldType.boolean), 0, 0), (cd_240, 10, (Option.some Jvm.ClassFile.FieldType.int), 0, 0), (cd_241, 6, (Option.some Jvm.ClassFile.FieldType.int), 0, 0), (cd_242, 6, (Option.some Jvm.ClassFile.FieldType.int), 0, 0), (cd_243, 4, (Option.some Jvm.ClassFile.FieldType.int), 0, 0), (cd_244, 8, (Option.some Jvm.ClassFile.FieldType.int), 0, 0), (cd_245, 2, (Option.some Jvm.ClassFile.FieldType.int), 0, 0), (cd_246, 10, (Option.some Jvm.ClassFile.FieldType.long), 0, 0), (cd_247, 15, (Option.some Jvm.ClassFile.FieldType.long), 0, 0), (cd_248, 2, (Option.some Jvm.ClassFile.FieldType.int), 0, 0), (cd_249, 2, (Option.some Jvm.ClassFile.FieldType.boolean), 0, 0), (cd_250, 6, (Option.some Jvm.ClassFile.FieldType.int), 0, 0), (cd_251, 11, (Option.some Jvm.ClassFile.FieldType.long), 0, 0), (cd_252, 2, (Option.some Jvm.ClassFile.FieldType.long), 0, 0), (cd_253, 14, (Option.some Jvm.ClassFile.FieldType.long), 0, 0), (cd_254, 7, (Option.some Jvm.ClassFile.FieldType.long), 0, 0), (cd_255, 7, (Option.some Jvm.ClassFile.FieldType.long), 0, 0), (cd_256, 4, (Option.some Jvm.ClassFile.FieldType.long), 0, 0), (cd_257, 5, (Option.some Jvm.ClassFile.FieldType.int), 0, 0), (cd_258, 6, (Option.some Jvm.ClassFile.FieldType.int), 0, 0), (cd_259, 6, (Option.some Jvm.ClassFile.FieldType.int), 0, 0), (cd_260, 4, (Option.some Jvm.ClassFile.FieldType.int), 0, 0), (cd_261, 2, (Option.some Jvm.ClassFile.FieldType.int), 0, 0), (cd_262, 3, (Option.some Jvm.ClassFile.FieldType.int), 0, 0), (cd_263, 4, (Option.some Jvm.ClassFile.FieldType.int), 0, 0), (cd_264, 5, (Option.some Jvm.ClassFile.FieldType.int), 0, 0), (cd_265, 5, (Option.some Jvm.ClassFile.FieldType.int), 0, 0), (cd_266, 2, (Option.some Jvm.ClassFile.FieldType.boolean), 0, 0), (cd_267, 3, (Option.some Jvm.ClassFile.FieldType.boolean), 0, 0), (cd_268, 3, (Option.some Jvm.ClassFile.FieldType.boolean), 0, 0), (cd_269, 4, (Option.some Jvm.ClassFile.FieldType.int), 0, 0), (cd_270, 3, (Option.some Jvm.ClassFile.FieldType.int), 0, 0), (cd_271, 3, (Option.some Jvm.ClassFile.FieldType.boolean), 0, 0), (cd_272, 5, (Option.some Jvm.ClassFile.FieldType.int), 0, 0), (cd_273, 3, (Option.some Jvm.ClassFile.FieldType.boolean), 0, 0), (cd_274, 13, (Option.some Jvm.ClassFile.FieldType.long), 0, 0), (cd_275, 3, (Option.some Jvm.ClassFile.FieldType.int), 0, 0), (cd_276, 5, (Option.some Jvm.ClassFile.FieldType.int), 0, 0), (cd_277, 8, (Option.some Jvm.ClassFile.FieldType.int), 0, 0), (cd_278, 2, (Option.some Jvm.ClassFile.FieldType.int), 0, 0), (cd_279, 2, (Option.some Jvm.ClassFile.FieldType.int), 0, 0), (cd_280, 5, (Option.none : Option Jvm.ClassFile.FieldType), 0, 0), (cd_281, 4, (Option.none : Option Jvm.ClassFile.FieldType), 0, 0)]
noncomputable def zMp : List (List Nat) := [[1014, 3034, 3033], [1014, 3123, 3121, 3122], [1014, 5189, 5187, 5188], [1014, 5180, 5178, 5179], [1014, 5198, 5196, 5197], [1008, 1227, 1226], [1008, 5004, 5002, 5003], [1008, 4231, 4229, 4230], [1008, 4235, 4233, 4234], [1008, 5000, 4238, 4239], [1008, 4119, 4117, 4118], [1008, 5018, 5016, 5017], [1008, 5022, 5021, 26], [1008, 5026, 5025], [1004, 1073, 1072], [1004, 3026, 3024, 3025], [1004, 2211, 2209, 2210], [1004, 5219, 5217, 5218], [1004, 5231, 5229, 5230], [1004, 3094, 3092, 3093], [1004, 3030, 3028, 3029], [1004, 3098, 3096, 3097], [1004, 3107, 3105, 3106], [1004, 4111, 4109, 4110], [1002, 1033, 1032], [1002, 3010, 3008, 3009], [1002, 3014, 3012, 3013], [1002, 2222, 2220, 2221], [1002, 2231, 2229, 2230], [1002, 3002, 3000, 3001], [1002, 2234, 2233], [1002, 3018, 3016, 3017], [1002, 3119, 3117, 3118], [1002, 3134, 3132, 3133], [1002, 3142, 3140, 3141], [1002, 5235, 5233, 5234], [1009, 2040, 2039], [1009, 5043, 5041, 5042], [1009, 5065, 5063, 5064], [1009, 5035, 5033, 5034], [1009, 5049, 5047, 5048], [1009, 5057, 5055, 5056], [1009, 5061, 5059, 5060], [1009, 5075, 5073, 5074], [1010, 2063, 2062], [1010, 5116, 5114, 5115], [1010, 5095, 5093, 5094], [1010, 5099, 5097, 5098], [1010, 5103, 5102, 27], [1010, 5107, 5106, 28], [1010, 5130, 5128, 5129], [1010, 5120, 5118, 5119], [1010, 5138, 5136, 5137], [1010, 5146, 5144, 5145], [1011, 2097, 2096], [1011, 5163, 5161, 5162], [1011, 5155, 5153, 5154], [1011, 5176, 5174, 5175], [1011, 5172, 5171, 29], [1011, 5167, 5165, 5166], [1011, 5207, 5205, 5206], [1011, 5211, 5209, 5210], [1006, 1160, 1159], [1006, 3171, 3169, 3170], [1006, 4076, 4074, 4075], [1006, 4099, 4097, 4098], [1006, 4136, 4134, 4135], [1006, 4155, 4153, 4154], [1006, 4140, 4139, 22], [1006, 4145, 4144, 23], [1006, 4150, 4149], [1005, 1117, 1116], [1005, 3151, 3149, 3150], [1005, 3155, 3153, 3154], [1005, 3163, 3161, 3162], [1005, 3175, 3173, 3174], [1005, 3179, 3178, 1], [1005, 4072, 4071, 18], [1005, 4044, 4043, 13], [1005, 4048, 4047, 14], [1005, 4052, 4051, 15], [1005, 4056, 4055, 16], [1005, 4060, 4059, 17], [1005, 4012, 4011, 6], [1005, 4016, 4015, 7], [1005, 4020, 4019, 8], [1005, 4032, 4031, 11], [1005, 4024, 4023, 9], [1005, 4028, 4027, 10], [1005, 4004, 4003, 5], [1005, 3187, 3186, 3], [1005, 3183, 3182, 2], [1005, 4036, 4035, 12], [1005, 4000, 3239, 4], [1012, 2121, 2120], [1012, 6012, 6010, 6011], [1012, 6004, 6002, 6003], [1012, 6016, 6014, 6015], [1012, 6024, 6022, 6023], [1012, 6028, 6027, 31], [1012, 6032, 6031, 32], [1007, 1189, 1188], [1007, 4186, 4184, 4185], [1007, 4178, 4176, 4177], [1007, 4190, 4188, 4189], [1007, 4202, 4201, 24], [1007, 4198, 4196, 4197], [1007, 4207, 4205, 4206], [1007, 4222, 4220, 4221], [1001, 1025, 1024], [1001, 2194, 2192, 2193], [1001, 2204, 2202, 2203], [1001, 2215, 2213, 2214], [1001, 2226, 2224, 2225], [1001, 2238, 2236, 2237], [1001, 3006, 3004, 3005], [1001, 3022, 3020, 3021], [1001, 3090, 3088, 3089], [1001, 3103, 3101, 3102], [1001, 3111, 3109, 3110], [1001, 3127, 3125, 3126], [1001, 3138, 3136, 3137], [1001, 3147, 3145, 3146], [1001, 3159, 3157, 3158], [1001, 3167, 3165, 3166], [1001, 4095, 4093, 4094], [1001, 4103, 4101, 4102], [1001, 4165, 4163, 4164], [1001, 4170, 4168, 4169], [1001, 4174, 4172, 4173], [1001, 4182, 4180, 4181], [1001, 4194, 4192, 4193], [1001, 4214, 4212, 4213], [1001, 4227, 4225, 4226], [1001, 5008, 5006, 5007], [1001, 5013, 5011, 5012], [1001, 5031, 5029, 5030], [1001, 5039, 5037, 5038], [1001, 5053, 5051, 5052], [1001, 5070, 5068, 5069], [1001, 5086, 5084, 5085], [1001, 5091, 5089, 5090], [1001, 5112, 5110, 5111], [1001, 5126, 5124, 5125], [1001, 5134, 5132, 5133], [1001, 5142, 5140, 5141], [1001, 5151, 5149, 5150], [1001, 5159, 5157, 5158], [1001, 5184, 5182, 5183], [1001, 5193, 5191, 5192], [1001, 5203, 5201, 5202], [1001, 5215, 5213, 5214], [1001, 5223, 5221, 5222], [1001, 6000, 5238, 5239], [1001, 6008, 6006, 6007], [1001, 6020, 6018, 6019], [1001, 6036, 6034, 6035], [1001, 6040, 6038, 6039], [1001, 2200, 2199], [1001, 2197, 2196], [1001, 2207, 2206], [1001, 2218, 2217], [1001, 3130, 3129], [1001, 3115, 3114, 0], [1001, 4107, 4106, 19], [1001, 4129, 4128, 21], [1001, 5227, 5226, 30], [1001, 4125, 4124, 20], [1001, 4218, 4217, 25], [1001, 4115, 4114], [1013, 6045, 6044], [1013, 7103, 7102], [1013, 7143, 7142], [1013, 7116, 7115], [1013, 7099, 7097, 7098], [1013, 7151, 7150, 35], [1013, 7136, 7135, 33], [1013, 7140, 7139, 34], [1013, 7159, 7158, 36], [1013, 7107, 7105, 7106], [1013, 7113, 7111, 7112], [1013, 7122, 7120, 7121], [1013, 7127, 7125, 7126], [1013, 7132, 7130, 7131], [1013, 7147, 7145, 7146], [1013, 7155, 7153, 7154], [1013, 7167, 7166, 37], [1013, 7163, 7161, 7162], [1013, 7179, 7178, 39], [1013, 7175, 7174, 38], [1013, 7188, 7187, 40], [1013, 7200, 7199, 42], [1013, 7171, 7169, 7170], [1013, 7183, 7181, 7182], [1013, 7196, 7195, 41], [1013, 7192, 7190, 7191], [1013, 7204, 7202, 7203], [1013, 7208, 7207, 43], [1013, 7212, 7210, 7211], [1013, 8045, 8044], [1013, 7231, 7230], [1013, 8005, 8004, 48], [1013, 7228, 7227, 46], [1013, 7224, 7223, 45], [1013, 8012, 8011], [1013, 7239, 7238, 47], [1013, 8042, 8041, 56], [1013, 8037, 8036, 55], [1013, 8029, 8028, 53], [1013, 8025, 8024, 52], [1013, 8069, 8068, 59], [1013, 8009, 8008, 49], [1013, 8081, 8080, 62], [1013, 8033, 8032, 54], [1013, 8065, 8064, 58], [1013, 8073, 8072, 60], [1013, 8020, 8019, 51], [1013, 8061, 8060, 57], [1013, 8077, 8076, 61], [1013, 8089, 8088, 64], [1013, 8094, 8093, 65], [1013, 8099, 8098, 66], [1013, 8085, 8084, 63], [1013, 8016, 8015, 50], [1013, 7220, 7219, 44], [1013, 7216, 7214, 7215], [1013, 8108, 8107, 67], [1013, 8104, 8102, 8103], [1013, 8124, 8123, 70], [1013, 8135, 8134], [1013, 8138, 8137], [1013, 8132, 8131, 72], [1013, 8128, 8127, 71], [1013, 8120, 8119, 69], [1013, 8116, 8115, 68], [1013, 8112, 8110, 8111], [1013, 8142, 8140, 8141], [1013, 8146, 8144, 8145], [1013, 8150, 8148, 8149], [1013, 8154, 8152, 8153], [1013, 8162, 8161, 73], [1013, 8158, 8156, 8157], [1013, 8170, 8169, 74], [1013, 8166, 8164, 8165], [1013, 8174, 8172, 8173], [1013, 8179, 8177, 8178], [1013, 8186, 8185], [1013, 8183, 8181, 8182], [1013, 8190, 8188, 8189], [1013, 8198, 8197, 75], [1013, 8194, 8192, 8193], [1013, 8208, 8207, 76], [1013, 8204, 8202, 8203], [1013, 8213, 8211, 8212], [1013, 8220, 8219], [1013, 8217, 8216], [1013, 8224, 8222, 8223], [1013, 8229, 8227, 8228], [1013, 8238, 8237, 77], [1013, 9002, 9001, 78], [1013, 8234, 8232, 8233], [1013, 9006, 9004, 9005], [1013, 9014, 9013, 79], [1013, 9010, 9008, 9009], [1013, 9018, 9016, 9017], [1013, 9022, 9020, 9021], [1013, 9030, 9029, 80], [1013, 9038, 9037, 82], [1013, 9034, 9033, 81], [1013, 9026, 9024, 9025], [1013, 9042, 9040, 9041], [1013, 9046, 9044, 9045], [1013, 9050, 9048, 9049], [1013, 9054, 9052, 9053], [1013, 9058, 9056, 9057], [1013, 9062, 9060, 9061], [1013, 9066, 9064, 9065], [1013, 9070, 9068, 9069], [1013, 9074, 9072, 9073], [1013, 9078, 9076, 9077], [1003, 4132, 4131], [1003, 1039, 1038]]
def zTabs : List (List Jvm.Cond) := [k2_sels lw_privs, tables_1_1, tables_1_2, tables_1_3, tables_1_4, tables_1_5, tables_1_6, tables_1_7, tables_1_8, tables_1_9]
def zTs : List Jvm.Cond := lw_tbl.filter goodWord
theorem zTabs_in : ∀ c ∈ zTabs, ∀ w ∈ c, w ∈ lw_tbl := by
  have e : lw_tbl = zTabs.flatten := by
    unfold lw_tbl tables_1 zTabs
    simp only [List.flatten_cons, List.flatten_nil, List.append_nil]
  intro c hc w hw
  rw [e]
  exact List.mem_flatten.mpr ⟨c, hc, hw⟩
theorem ziu_mem {p : Nat} {w : Jvm.Cond} (h : ziu zTabs p w = true) : w ∈ lw_tbl := by
  have h1 : (zTabs.getD (p / 1000) [])[p % 1000]? = some w := of_decide_eq_true h
  rw [List.getD_eq_getElem?_getD] at h1
  cases hq : zTabs[p / 1000]? with
  | none => rw [hq] at h1; simp at h1
  | some c =>
    rw [hq] at h1
    exact zTabs_in c (List.mem_of_getElem? hq) w (List.mem_of_getElem? h1)
theorem zin_mem {p : Nat} {w : Jvm.Cond} (h : zin zTabs p w = true) : w ∈ zTs := by
  unfold zin at h
  rw [Bool.and_eq_true] at h
  exact List.mem_filter.mpr ⟨ziu_mem h.1, h.2⟩
def zmok1 (q : MethodName × ByteArray × Nat) (i : zI) (k : Nat) (ps : List Nat) : Bool := decide (i.2.1 ≤ 40) && (plainName q.1.cls && (zin zTabs (ps.getD 0 0) (.initialized q.1.cls) && (decide (q.1.cls ≠ "java/lang/invoke/MethodHandle" ∧ q.1.cls ≠ "java/lang/invoke/VarHandle" ∧ (parseMethodDescriptor q.1.desc).map (fun d => d.parameters.length) = some q.2.2) && (match k with
  | 0 => zin zTabs (ps.getD 2 0) (.static q.1)
  | 1 => zin zTabs (ps.getD 2 0) (.instanceMethod q.1) && zin zTabs (ps.getD 3 0) (.selects q.1.cls q.1 q.1)
  | 2 => zin zTabs (ps.getD 2 0) (.instanceMethod q.1) && (decide (q.1.name = "<init>") && decide (i.2.2.1 = none))
  | _ => true))))
/-- the methods, one by one: their words, their code -/
def zPL : List (MethodName × ByteArray × Nat) → List zI → List Nat → Prop
  | q :: r, i :: r2, k :: r3 => ((∃ ps, zmok1 q i k ps = true) ∧ Jvm.Cond.code q.1 q.2.1 i.2.1 i.2.2.1 ∈ lw_tbl ∧ zCok zTabs zCl zNm zKm false (decide (q.1.name = "<init>")) q.1.cls q.2.1 i.1) ∧ zPL r r2 r3
  | [], _, _ => True
  | _ :: _, _, _ => False
theorem zPL_at : ∀ (nm : List (MethodName × ByteArray × Nat)) (is : List zI) (km : List Nat), zPL nm is km → ∀ (j : Nat) (q : MethodName × ByteArray × Nat), nm[j]? = some q → ∃ (i : zI) (ps : List Nat), is[j]? = some i ∧ zmok1 q i (km.getD j 9) ps = true ∧ Jvm.Cond.code q.1 q.2.1 i.2.1 i.2.2.1 ∈ lw_tbl ∧ zCok zTabs zCl zNm zKm false (decide (q.1.name = "<init>")) q.1.cls q.2.1 i.1
  | [], _, _, _, j, q, hj => by simp at hj
  | _ :: _, [], _, h, j, q, hj => h.elim
  | _ :: _, _ :: _, [], h, j, q, hj => h.elim
  | q0 :: r, i0 :: r2, k0 :: r3, h, j, q, hj => by
    cases j with
    | zero =>
      cases hj
      obtain ⟨⟨⟨ps, h1⟩, h2, h3⟩, -⟩ := h
      exact ⟨i0, ps, rfl, h1, h2, h3⟩
    | succ j => exact zPL_at r r2 r3 h.2 j q hj
theorem zcode_good (y : MethodName) (b : ByteArray) (n : Nat) (r : Option FieldType) : goodWord (Jvm.Cond.code y b n r) = true := rfl
end
section
theorem ck_0 : zCok zTabs zCl zNm zKm false (decide (zy_0.name = "<init>")) zy_0.cls prog_2_method_1_code cd_0 := zCok_of pp_0 (by decide +kernel)
theorem wk_0 : Jvm.Cond.code zy_0 prog_2_method_1_code 5 (Option.none : Option Jvm.ClassFile.FieldType) ∈ lw_tbl := zTabs_in tables_1_3 (List.mem_of_getElem? (i := 3) rfl) _ (List.mem_of_getElem? (i := 34) rfl)
theorem mk_0 : ∃ ps, zmok1 (zy_0, prog_2_method_1_code, 4) (cd_0, 5, (Option.none : Option Jvm.ClassFile.FieldType), 1, 12) 2 ps = true := ⟨[1014, 3034, 3033], by decide +kernel⟩
theorem ck_1 : zCok zTabs zCl zNm zKm false (decide (zy_1.name = "<init>")) zy_1.cls prog_2_method_2_code cd_1 := zCok_of pp_1 (by decide +kernel)
theorem wk_1 : Jvm.Cond.code zy_1 prog_2_method_2_code 4 (Option.some Jvm.ClassFile.FieldType.int) ∈ lw_tbl := zTabs_in tables_1_3 (List.mem_of_getElem? (i := 3) rfl) _ (List.mem_of_getElem? (i := 123) rfl)
theorem mk_1 : ∃ ps, zmok1 (zy_1, prog_2_method_2_code, 1) (cd_1, 4, (Option.some Jvm.ClassFile.FieldType.int), 0, 0) 1 ps = true := ⟨[1014, 3123, 3121, 3122], by decide +kernel⟩
theorem ck_2 : zCok zTabs zCl zNm zKm false (decide (zy_2.name = "<init>")) zy_2.cls prog_2_method_3_code cd_2 := zCok_of pp_2 (by decide +kernel)
theorem wk_2 : Jvm.Cond.code zy_2 prog_2_method_3_code 2 (Option.some Jvm.ClassFile.FieldType.boolean) ∈ lw_tbl := zTabs_in tables_1_5 (List.mem_of_getElem? (i := 5) rfl) _ (List.mem_of_getElem? (i := 189) rfl)
theorem mk_2 : ∃ ps, zmok1 (zy_2, prog_2_method_3_code, 1) (cd_2, 2, (Option.some Jvm.ClassFile.FieldType.boolean), 0, 0) 1 ps = true := ⟨[1014, 5189, 5187, 5188], by decide +kernel⟩
theorem ck_3 : zCok zTabs zCl zNm zKm false (decide (zy_3.name = "<init>")) zy_3.cls prog_2_method_4_code cd_3 := zCok_of pp_3 (by decide +kernel)
theorem wk_3 : Jvm.Cond.code zy_3 prog_2_method_4_code 2 (Option.some Jvm.ClassFile.FieldType.boolean) ∈ lw_tbl := zTabs_in tables_1_5 (List.mem_of_getElem? (i := 5) rfl) _ (List.mem_of_getElem? (i := 180) rfl)
theorem mk_3 : ∃ ps, zmok1 (zy_3, prog_2_method_4_code, 1) (cd_3, 2, (Option.some Jvm.ClassFile.FieldType.boolean), 0, 0) 1 ps = true := ⟨[1014, 5180, 5178, 5179], by decide +kernel⟩
theorem ck_4 : zCok zTabs zCl zNm zKm false (decide (zy_4.name = "<init>")) zy_4.cls prog_2_method_5_code cd_4 := zCok_of pp_4 (by decide +kernel)
theorem wk_4 : Jvm.Cond.code zy_4 prog_2_method_5_code 4 (Option.none : Option Jvm.ClassFile.FieldType) ∈ lw_tbl := zTabs_in tables_1_5 (List.mem_of_getElem? (i := 5) rfl) _ (List.mem_of_getElem? (i := 198) rfl)
theorem mk_4 : ∃ ps, zmok1 (zy_4, prog_2_method_5_code, 3) (cd_4, 4, (Option.none : Option Jvm.ClassFile.FieldType), 0, 0) 1 ps = true := ⟨[1014, 5198, 5196, 5197], by decide +kernel⟩
theorem ck_5 : zCok zTabs zCl zNm zKm false (decide (zy_5.name = "<init>")) zy_5.cls prog_3_method_1_code cd_5 := zCok_of pp_5 (by decide +kernel)
theorem wk_5 : Jvm.Cond.code zy_5 prog_3_method_1_code 1 (Option.none : Option Jvm.ClassFile.FieldType) ∈ lw_tbl := zTabs_in tables_1_1 (List.mem_of_getElem? (i := 1) rfl) _ (List.mem_of_getElem? (i := 227) rfl)
theorem mk_5 : ∃ ps, zmok1 (zy_5, prog_3_method_1_code, 0) (cd_5, 1, (Option.none : Option Jvm.ClassFile.FieldType), 12, 1636) 2 ps = true := ⟨[1008, 1227, 1226], by decide +kernel⟩
theorem ck_6 : zCok zTabs zCl zNm zKm false (decide (zy_6.name = "<init>")) zy_6.cls prog_3_method_2_code cd_6 := zCok_of pp_6 (by decide +kernel)
theorem wk_6 : Jvm.Cond.code zy_6 prog_3_method_2_code 2 (Option.some Jvm.ClassFile.FieldType.boolean) ∈ lw_tbl := zTabs_in tables_1_5 (List.mem_of_getElem? (i := 5) rfl) _ (List.mem_of_getElem? (i := 4) rfl)
theorem mk_6 : ∃ ps, zmok1 (zy_6, prog_3_method_2_code, 1) (cd_6, 2, (Option.some Jvm.ClassFile.FieldType.boolean), 0, 0) 1 ps = true := ⟨[1008, 5004, 5002, 5003], by decide +kernel⟩
theorem ck_7 : zCok zTabs zCl zNm zKm false (decide (zy_7.name = "<init>")) zy_7.cls prog_3_method_3_code cd_7 := zCok_of pp_7 (by decide +kernel)
theorem wk_7 : Jvm.Cond.code zy_7 prog_3_method_3_code 1 (Option.some Jvm.ClassFile.FieldType.boolean) ∈ lw_tbl := zTabs_in tables_1_4 (List.mem_of_getElem? (i := 4) rfl) _ (List.mem_of_getElem? (i := 231) rfl)
theorem mk_7 : ∃ ps, zmok1 (zy_7, prog_3_method_3_code, 0) (cd_7, 1, (Option.some Jvm.ClassFile.FieldType.boolean), 0, 0) 1 ps = true := ⟨[1008, 4231, 4229, 4230], by decide +kernel⟩
theorem ck_8 : zCok zTabs zCl zNm zKm false (decide (zy_8.name = "<init>")) zy_8.cls prog_3_method_4_code cd_8 := zCok_of pp_8 (by decide +kernel)
theorem wk_8 : Jvm.Cond.code zy_8 prog_3_method_4_code 5 (Option.some Jvm.ClassFile.FieldType.int) ∈ lw_tbl := zTabs_in tables_1_4 (List.mem_of_getElem? (i := 4) rfl) _ (List.mem_of_getElem? (i := 235) rfl)
theorem mk_8 : ∃ ps, zmok1 (zy_8, prog_3_method_4_code, 4) (cd_8, 5, (Option.some Jvm.ClassFile.FieldType.int), 0, 0) 1 ps = true := ⟨[1008, 4235, 4233, 4234], by decide +kernel⟩
theorem ck_9 : zCok zTabs zCl zNm zKm false (decide (zy_9.name = "<init>")) zy_9.cls prog_3_method_5_code cd_9 := zCok_of pp_9 (by decide +kernel)
theorem wk_9 : Jvm.Cond.code zy_9 prog_3_method_5_code 6 (Option.none : Option Jvm.ClassFile.FieldType) ∈ lw_tbl := zTabs_in tables_1_5 (List.mem_of_getElem? (i := 5) rfl) _ (List.mem_of_getElem? (i := 0) rfl)
theorem mk_9 : ∃ ps, zmok1 (zy_9, prog_3_method_5_code, 5) (cd_9, 6, (Option.none : Option Jvm.ClassFile.FieldType), 0, 0) 1 ps = true := ⟨[1008, 5000, 4238, 4239], by decide +kernel⟩
theorem ck_10 : zCok zTabs zCl zNm zKm false (decide (zy_10.name = "<init>")) zy_10.cls prog_3_method_6_code cd_10 := zCok_of pp_10 (by decide +kernel)
theorem wk_10 : Jvm.Cond.code zy_10 prog_3_method_6_code 5 (Option.none : Option Jvm.ClassFile.FieldType) ∈ lw_tbl := zTabs_in tables_1_4 (List.mem_of_getElem? (i := 4) rfl) _ (List.mem_of_getElem? (i := 119) rfl)
theorem mk_10 : ∃ ps, zmok1 (zy_10, prog_3_method_6_code, 3) (cd_10, 5, (Option.none : Option Jvm.ClassFile.FieldType), 0, 0) 1 ps = true := ⟨[1008, 4119, 4117, 4118], by decide +kernel⟩
theorem ck_11 : zCok zTabs zCl zNm zKm false (decide (zy_11.name = "<init>")) zy_11.cls prog_3_method_7_code cd_11 := zCok_of pp_11 (by decide +kernel)
theorem wk_11 : Jvm.Cond.code zy_11 prog_3_method_7_code 17 (Option.some Jvm.ClassFile.FieldType.long) ∈ lw_tbl := zTabs_in tables_1_5 (List.mem_of_getElem? (i := 5) rfl) _ (List.mem_of_getElem? (i := 18) rfl)
theorem mk_11 : ∃ ps, zmok1 (zy_11, prog_3_method_7_code, 3) (cd_11, 17, (Option.some Jvm.ClassFile.FieldType.long), 0, 0) 1 ps = true := ⟨[1008, 5018, 5016, 5017], by decide +kernel⟩
theorem ck_12 : zCok zTabs zCl zNm zKm false (decide (zy_12.name = "<init>")) zy_12.cls prog_3_method_8_code cd_12 := zCok_of pp_12 (by decide +kernel)
theorem wk_12 : Jvm.Cond.code zy_12 prog_3_method_8_code 8 (Option.none : Option Jvm.ClassFile.FieldType) ∈ lw_tbl := zTabs_in tables_1_5 (List.mem_of_getElem? (i := 5) rfl) _ (List.mem_of_getElem? (i := 22) rfl)
theorem mk_12 : ∃ ps, zmok1 (zy_12, prog_3_method_8_code, 2) (cd_12, 8, (Option.none : Option Jvm.ClassFile.FieldType), 0, 0) 1 ps = true := ⟨[1008, 5022, 5021, 26], by decide +kernel⟩
theorem ck_13 : zCok zTabs zCl zNm zKm false (decide (zy_13.name = "<init>")) zy_13.cls prog_3_method_9_code cd_13 := zCok_of pp_13 (by decide +kernel)
theorem wk_13 : Jvm.Cond.code zy_13 prog_3_method_9_code 11 (Option.some Jvm.ClassFile.FieldType.long) ∈ lw_tbl := zTabs_in tables_1_5 (List.mem_of_getElem? (i := 5) rfl) _ (List.mem_of_getElem? (i := 26) rfl)
theorem mk_13 : ∃ ps, zmok1 (zy_13, prog_3_method_9_code, 2) (cd_13, 11, (Option.some Jvm.ClassFile.FieldType.long), 0, 0) 0 ps = true := ⟨[1008, 5026, 5025], by decide +kernel⟩
theorem ck_14 : zCok zTabs zCl zNm zKm false (decide (zy_14.name = "<init>")) zy_14.cls prog_4_method_1_code cd_14 := zCok_of pp_14 (by decide +kernel)
theorem wk_14 : Jvm.Cond.code zy_14 prog_4_method_1_code 1 (Option.none : Option Jvm.ClassFile.FieldType) ∈ lw_tbl := zTabs_in tables_1_1 (List.mem_of_getElem? (i := 1) rfl) _ (List.mem_of_getElem? (i := 73) rfl)
theorem mk_14 : ∃ ps, zmok1 (zy_14, prog_4_method_1_code, 0) (cd_14, 1, (Option.none : Option Jvm.ClassFile.FieldType), 7, 2020) 2 ps = true := ⟨[1004, 1073, 1072], by decide +kernel⟩
theorem ck_15 : zCok zTabs zCl zNm zKm false (decide (zy_15.name = "<init>")) zy_15.cls prog_4_method_2_code cd_15 := zCok_of pp_15 (by decide +kernel)
theorem wk_15 : Jvm.Cond.code zy_15 prog_4_method_2_code 2 (Option.some Jvm.ClassFile.FieldType.boolean) ∈ lw_tbl := zTabs_in tables_1_3 (List.mem_of_getElem? (i := 3) rfl) _ (List.mem_of_getElem? (i := 26) rfl)
theorem mk_15 : ∃ ps, zmok1 (zy_15, prog_4_method_2_code, 1) (cd_15, 2, (Option.some Jvm.ClassFile.FieldType.boolean), 0, 0) 1 ps = true := ⟨[1004, 3026, 3024, 3025], by decide +kernel⟩
theorem ck_16 : zCok zTabs zCl zNm zKm false (decide (zy_16.name = "<init>")) zy_16.cls prog_4_method_3_code cd_16 := zCok_of pp_16 (by decide +kernel)
theorem wk_16 : Jvm.Cond.code zy_16 prog_4_method_3_code 2 (Option.some Jvm.ClassFile.FieldType.int) ∈ lw_tbl := zTabs_in tables_1_2 (List.mem_of_getElem? (i := 2) rfl) _ (List.mem_of_getElem? (i := 211) rfl)
theorem mk_16 : ∃ ps, zmok1 (zy_16, prog_4_method_3_code, 1) (cd_16, 2, (Option.some Jvm.ClassFile.FieldType.int), 0, 0) 1 ps = true := ⟨[1004, 2211, 2209, 2210], by decide +kernel⟩
theorem ck_17 : zCok zTabs zCl zNm zKm false (decide (zy_17.name = "<init>")) zy_17.cls prog_4_method_4_code cd_17 := zCok_of pp_17 (by decide +kernel)
theorem wk_17 : Jvm.Cond.code zy_17 prog_4_method_4_code 3 (Option.some Jvm.ClassFile.FieldType.boolean) ∈ lw_tbl := zTabs_in tables_1_5 (List.mem_of_getElem? (i := 5) rfl) _ (List.mem_of_getElem? (i := 219) rfl)
theorem mk_17 : ∃ ps, zmok1 (zy_17, prog_4_method_4_code, 2) (cd_17, 3, (Option.some Jvm.ClassFile.FieldType.boolean), 0, 0) 1 ps = true := ⟨[1004, 5219, 5217, 5218], by decide +kernel⟩
theorem ck_18 : zCok zTabs zCl zNm zKm false (decide (zy_18.name = "<init>")) zy_18.cls prog_4_method_5_code cd_18 := zCok_of pp_18 (by decide +kernel)
theorem wk_18 : Jvm.Cond.code zy_18 prog_4_method_5_code 5 (Option.some Jvm.ClassFile.FieldType.long) ∈ lw_tbl := zTabs_in tables_1_5 (List.mem_of_getElem? (i := 5) rfl) _ (List.mem_of_getElem? (i := 231) rfl)
theorem mk_18 : ∃ ps, zmok1 (zy_18, prog_4_method_5_code, 1) (cd_18, 5, (Option.some Jvm.ClassFile.FieldType.long), 0, 0) 1 ps = true := ⟨[1004, 5231, 5229, 5230], by decide +kernel⟩
theorem ck_19 : zCok zTabs zCl zNm zKm false (decide (zy_19.name = "<init>")) zy_19.cls prog_4_method_6_code cd_19 := zCok_of pp_19 (by decide +kernel)
theorem wk_19 : Jvm.Cond.code zy_19 prog_4_method_6_code 2 (Option.some (Jvm.ClassFile.FieldType.object "TankBehind$Car")) ∈ lw_tbl := zTabs_in tables_1_3 (List.mem_of_getElem? (i := 3) rfl) _ (List.mem_of_getElem? (i := 94) rfl)
theorem mk_19 : ∃ ps, zmok1 (zy_19, prog_4_method_6_code, 1) (cd_19, 2, (Option.some (Jvm.ClassFile.FieldType.object "TankBehind$Car")), 0, 0) 1 ps = true := ⟨[1004, 3094, 3092, 3093], by decide +kernel⟩
theorem ck_20 : zCok zTabs zCl zNm zKm false (decide (zy_20.name = "<init>")) zy_20.cls prog_4_method_7_code cd_20 := zCok_of pp_20 (by decide +kernel)
theorem wk_20 : Jvm.Cond.code zy_20 prog_4_method_7_code 5 (Option.some Jvm.ClassFile.FieldType.int) ∈ lw_tbl := zTabs_in tables_1_3 (List.mem_of_getElem? (i := 3) rfl) _ (List.mem_of_getElem? (i := 30) rfl)
theorem mk_20 : ∃ ps, zmok1 (zy_20, prog_4_method_7_code, 4) (cd_20, 5, (Option.some Jvm.ClassFile.FieldType.int), 2, 23) 1 ps = true := ⟨[1004, 3030, 3028, 3029], by decide +kernel⟩
theorem ck_21 : zCok zTabs zCl zNm zKm false (decide (zy_21.name = "<init>")) zy_21.cls prog_4_method_8_code cd_21 := zCok_of pp_21 (by decide +kernel)
theorem wk_21 : Jvm.Cond.code zy_21 prog_4_method_8_code 6 (Option.some Jvm.ClassFile.FieldType.boolean) ∈ lw_tbl := zTabs_in tables_1_3 (List.mem_of_getElem? (i := 3) rfl) _ (List.mem_of_getElem? (i := 98) rfl)
theorem mk_21 : ∃ ps, zmok1 (zy_21, prog_4_method_8_code, 4) (cd_21, 6, (Option.some Jvm.ClassFile.FieldType.boolean), 0, 0) 1 ps = true := ⟨[1004, 3098, 3096, 3097], by decide +kernel⟩
theorem ck_22 : zCok zTabs zCl zNm zKm false (decide (zy_22.name = "<init>")) zy_22.cls prog_4_method_9_code cd_22 := zCok_of pp_22 (by decide +kernel)
theorem wk_22 : Jvm.Cond.code zy_22 prog_4_method_9_code 5 (Option.some Jvm.ClassFile.FieldType.int) ∈ lw_tbl := zTabs_in tables_1_3 (List.mem_of_getElem? (i := 3) rfl) _ (List.mem_of_getElem? (i := 107) rfl)
theorem mk_22 : ∃ ps, zmok1 (zy_22, prog_4_method_9_code, 3) (cd_22, 5, (Option.some Jvm.ClassFile.FieldType.int), 0, 0) 1 ps = true := ⟨[1004, 3107, 3105, 3106], by decide +kernel⟩
theorem ck_23 : zCok zTabs zCl zNm zKm false (decide (zy_23.name = "<init>")) zy_23.cls prog_4_method_10_code cd_23 := zCok_of pp_23 (by decide +kernel)
theorem wk_23 : Jvm.Cond.code zy_23 prog_4_method_10_code 5 (Option.none : Option Jvm.ClassFile.FieldType) ∈ lw_tbl := zTabs_in tables_1_4 (List.mem_of_getElem? (i := 4) rfl) _ (List.mem_of_getElem? (i := 111) rfl)
theorem mk_23 : ∃ ps, zmok1 (zy_23, prog_4_method_10_code, 2) (cd_23, 5, (Option.none : Option Jvm.ClassFile.FieldType), 0, 0) 1 ps = true := ⟨[1004, 4111, 4109, 4110], by decide +kernel⟩
theorem ck_24 : zCok zTabs zCl zNm zKm false (decide (zy_24.name = "<init>")) zy_24.cls prog_5_method_1_code cd_24 := zCok_of pp_24 (by decide +kernel)
theorem wk_24 : Jvm.Cond.code zy_24 prog_5_method_1_code 2 (Option.none : Option Jvm.ClassFile.FieldType) ∈ lw_tbl := zTabs_in tables_1_1 (List.mem_of_getElem? (i := 1) rfl) _ (List.mem_of_getElem? (i := 33) rfl)
theorem mk_24 : ∃ ps, zmok1 (zy_24, prog_5_method_1_code, 0) (cd_24, 2, (Option.none : Option Jvm.ClassFile.FieldType), 34, 207) 2 ps = true := ⟨[1002, 1033, 1032], by decide +kernel⟩
theorem ck_25 : zCok zTabs zCl zNm zKm false (decide (zy_25.name = "<init>")) zy_25.cls prog_5_method_2_code cd_25 := zCok_of pp_25 (by decide +kernel)
theorem wk_25 : Jvm.Cond.code zy_25 prog_5_method_2_code 2 (Option.some Jvm.ClassFile.FieldType.boolean) ∈ lw_tbl := zTabs_in tables_1_3 (List.mem_of_getElem? (i := 3) rfl) _ (List.mem_of_getElem? (i := 10) rfl)
theorem mk_25 : ∃ ps, zmok1 (zy_25, prog_5_method_2_code, 1) (cd_25, 2, (Option.some Jvm.ClassFile.FieldType.boolean), 0, 0) 1 ps = true := ⟨[1002, 3010, 3008, 3009], by decide +kernel⟩
theorem ck_26 : zCok zTabs zCl zNm zKm false (decide (zy_26.name = "<init>")) zy_26.cls prog_5_method_3_code cd_26 := zCok_of pp_26 (by decide +kernel)
theorem wk_26 : Jvm.Cond.code zy_26 prog_5_method_3_code 2 (Option.some Jvm.ClassFile.FieldType.boolean) ∈ lw_tbl := zTabs_in tables_1_3 (List.mem_of_getElem? (i := 3) rfl) _ (List.mem_of_getElem? (i := 14) rfl)
theorem mk_26 : ∃ ps, zmok1 (zy_26, prog_5_method_3_code, 1) (cd_26, 2, (Option.some Jvm.ClassFile.FieldType.boolean), 0, 0) 1 ps = true := ⟨[1002, 3014, 3012, 3013], by decide +kernel⟩
theorem ck_27 : zCok zTabs zCl zNm zKm false (decide (zy_27.name = "<init>")) zy_27.cls prog_5_method_4_code cd_27 := zCok_of pp_27 (by decide +kernel)
theorem wk_27 : Jvm.Cond.code zy_27 prog_5_method_4_code 4 (Option.some Jvm.ClassFile.FieldType.int) ∈ lw_tbl := zTabs_in tables_1_2 (List.mem_of_getElem? (i := 2) rfl) _ (List.mem_of_getElem? (i := 222) rfl)
theorem mk_27 : ∃ ps, zmok1 (zy_27, prog_5_method_4_code, 2) (cd_27, 4, (Option.some Jvm.ClassFile.FieldType.int), 0, 0) 1 ps = true := ⟨[1002, 2222, 2220, 2221], by decide +kernel⟩
theorem ck_28 : zCok zTabs zCl zNm zKm false (decide (zy_28.name = "<init>")) zy_28.cls prog_5_method_5_code cd_28 := zCok_of pp_28 (by decide +kernel)
theorem wk_28 : Jvm.Cond.code zy_28 prog_5_method_5_code 5 (Option.some Jvm.ClassFile.FieldType.int) ∈ lw_tbl := zTabs_in tables_1_2 (List.mem_of_getElem? (i := 2) rfl) _ (List.mem_of_getElem? (i := 231) rfl)
theorem mk_28 : ∃ ps, zmok1 (zy_28, prog_5_method_5_code, 4) (cd_28, 5, (Option.some Jvm.ClassFile.FieldType.int), 0, 0) 1 ps = true := ⟨[1002, 2231, 2229, 2230], by decide +kernel⟩
theorem ck_29 : zCok zTabs zCl zNm zKm false (decide (zy_29.name = "<init>")) zy_29.cls prog_5_method_6_code cd_29 := zCok_of pp_29 (by decide +kernel)
theorem wk_29 : Jvm.Cond.code zy_29 prog_5_method_6_code 5 (Option.some Jvm.ClassFile.FieldType.int) ∈ lw_tbl := zTabs_in tables_1_3 (List.mem_of_getElem? (i := 3) rfl) _ (List.mem_of_getElem? (i := 2) rfl)
theorem mk_29 : ∃ ps, zmok1 (zy_29, prog_5_method_6_code, 4) (cd_29, 5, (Option.some Jvm.ClassFile.FieldType.int), 0, 0) 1 ps = true := ⟨[1002, 3002, 3000, 3001], by decide +kernel⟩
theorem ck_30 : zCok zTabs zCl zNm zKm false (decide (zy_30.name = "<init>")) zy_30.cls prog_5_method_7_code cd_30 := zCok_of pp_30 (by decide +kernel)
theorem wk_30 : Jvm.Cond.code zy_30 prog_5_method_7_code 4 (Option.none : Option Jvm.ClassFile.FieldType) ∈ lw_tbl := zTabs_in tables_1_2 (List.mem_of_getElem? (i := 2) rfl) _ (List.mem_of_getElem? (i := 234) rfl)
theorem mk_30 : ∃ ps, zmok1 (zy_30, prog_5_method_7_code, 4) (cd_30, 4, (Option.none : Option Jvm.ClassFile.FieldType), 0, 0) 0 ps = true := ⟨[1002, 2234, 2233], by decide +kernel⟩
theorem ck_31 : zCok zTabs zCl zNm zKm false (decide (zy_31.name = "<init>")) zy_31.cls prog_5_method_8_code cd_31 := zCok_of pp_31 (by decide +kernel)
theorem wk_31 : Jvm.Cond.code zy_31 prog_5_method_8_code 4 (Option.some Jvm.ClassFile.FieldType.boolean) ∈ lw_tbl := zTabs_in tables_1_3 (List.mem_of_getElem? (i := 3) rfl) _ (List.mem_of_getElem? (i := 18) rfl)
theorem mk_31 : ∃ ps, zmok1 (zy_31, prog_5_method_8_code, 3) (cd_31, 4, (Option.some Jvm.ClassFile.FieldType.boolean), 0, 0) 1 ps = true := ⟨[1002, 3018, 3016, 3017], by decide +kernel⟩
theorem ck_32 : zCok zTabs zCl zNm zKm false (decide (zy_32.name = "<init>")) zy_32.cls prog_5_method_9_code cd_32 := zCok_of pp_32 (by decide +kernel)
theorem wk_32 : Jvm.Cond.code zy_32 prog_5_method_9_code 5 (Option.some Jvm.ClassFile.FieldType.int) ∈ lw_tbl := zTabs_in tables_1_3 (List.mem_of_getElem? (i := 3) rfl) _ (List.mem_of_getElem? (i := 119) rfl)
theorem mk_32 : ∃ ps, zmok1 (zy_32, prog_5_method_9_code, 2) (cd_32, 5, (Option.some Jvm.ClassFile.FieldType.int), 0, 0) 1 ps = true := ⟨[1002, 3119, 3117, 3118], by decide +kernel⟩
theorem ck_33 : zCok zTabs zCl zNm zKm false (decide (zy_33.name = "<init>")) zy_33.cls prog_5_method_10_code cd_33 := zCok_of pp_33 (by decide +kernel)
theorem wk_33 : Jvm.Cond.code zy_33 prog_5_method_10_code 3 (Option.some Jvm.ClassFile.FieldType.int) ∈ lw_tbl := zTabs_in tables_1_3 (List.mem_of_getElem? (i := 3) rfl) _ (List.mem_of_getElem? (i := 134) rfl)
theorem mk_33 : ∃ ps, zmok1 (zy_33, prog_5_method_10_code, 2) (cd_33, 3, (Option.some Jvm.ClassFile.FieldType.int), 0, 0) 1 ps = true := ⟨[1002, 3134, 3132, 3133], by decide +kernel⟩
theorem ck_34 : zCok zTabs zCl zNm zKm false (decide (zy_34.name = "<init>")) zy_34.cls prog_5_method_11_code cd_34 := zCok_of pp_34 (by decide +kernel)
theorem wk_34 : Jvm.Cond.code zy_34 prog_5_method_11_code 7 (Option.some Jvm.ClassFile.FieldType.boolean) ∈ lw_tbl := zTabs_in tables_1_3 (List.mem_of_getElem? (i := 3) rfl) _ (List.mem_of_getElem? (i := 142) rfl)
theorem mk_34 : ∃ ps, zmok1 (zy_34, prog_5_method_11_code, 4) (cd_34, 7, (Option.some Jvm.ClassFile.FieldType.boolean), 0, 0) 1 ps = true := ⟨[1002, 3142, 3140, 3141], by decide +kernel⟩
theorem ck_35 : zCok zTabs zCl zNm zKm false (decide (zy_35.name = "<init>")) zy_35.cls prog_5_method_12_code cd_35 := zCok_of pp_35 (by decide +kernel)
theorem wk_35 : Jvm.Cond.code zy_35 prog_5_method_12_code 8 (Option.some Jvm.ClassFile.FieldType.int) ∈ lw_tbl := zTabs_in tables_1_5 (List.mem_of_getElem? (i := 5) rfl) _ (List.mem_of_getElem? (i := 235) rfl)
theorem mk_35 : ∃ ps, zmok1 (zy_35, prog_5_method_12_code, 4) (cd_35, 8, (Option.some Jvm.ClassFile.FieldType.int), 0, 0) 1 ps = true := ⟨[1002, 5235, 5233, 5234], by decide +kernel⟩
theorem ck_36 : zCok zTabs zCl zNm zKm false (decide (zy_36.name = "<init>")) zy_36.cls prog_6_method_1_code cd_36 := zCok_of pp_36 (by decide +kernel)
theorem wk_36 : Jvm.Cond.code zy_36 prog_6_method_1_code 1 (Option.none : Option Jvm.ClassFile.FieldType) ∈ lw_tbl := zTabs_in tables_1_2 (List.mem_of_getElem? (i := 2) rfl) _ (List.mem_of_getElem? (i := 40) rfl)
theorem mk_36 : ∃ ps, zmok1 (zy_36, prog_6_method_1_code, 0) (cd_36, 1, (Option.none : Option Jvm.ClassFile.FieldType), 4, 380) 2 ps = true := ⟨[1009, 2040, 2039], by decide +kernel⟩
theorem ck_37 : zCok zTabs zCl zNm zKm false (decide (zy_37.name = "<init>")) zy_37.cls prog_6_method_2_code cd_37 := zCok_of pp_37 (by decide +kernel)
theorem wk_37 : Jvm.Cond.code zy_37 prog_6_method_2_code 2 (Option.some Jvm.ClassFile.FieldType.boolean) ∈ lw_tbl := zTabs_in tables_1_5 (List.mem_of_getElem? (i := 5) rfl) _ (List.mem_of_getElem? (i := 43) rfl)
theorem mk_37 : ∃ ps, zmok1 (zy_37, prog_6_method_2_code, 1) (cd_37, 2, (Option.some Jvm.ClassFile.FieldType.boolean), 0, 0) 1 ps = true := ⟨[1009, 5043, 5041, 5042], by decide +kernel⟩
theorem ck_38 : zCok zTabs zCl zNm zKm false (decide (zy_38.name = "<init>")) zy_38.cls prog_6_method_3_code cd_38 := zCok_of pp_38 (by decide +kernel)
theorem wk_38 : Jvm.Cond.code zy_38 prog_6_method_3_code 3 (Option.some Jvm.ClassFile.FieldType.boolean) ∈ lw_tbl := zTabs_in tables_1_5 (List.mem_of_getElem? (i := 5) rfl) _ (List.mem_of_getElem? (i := 65) rfl)
theorem mk_38 : ∃ ps, zmok1 (zy_38, prog_6_method_3_code, 2) (cd_38, 3, (Option.some Jvm.ClassFile.FieldType.boolean), 0, 0) 1 ps = true := ⟨[1009, 5065, 5063, 5064], by decide +kernel⟩
theorem ck_39 : zCok zTabs zCl zNm zKm false (decide (zy_39.name = "<init>")) zy_39.cls prog_6_method_4_code cd_39 := zCok_of pp_39 (by decide +kernel)
theorem wk_39 : Jvm.Cond.code zy_39 prog_6_method_4_code 1 (Option.some Jvm.ClassFile.FieldType.int) ∈ lw_tbl := zTabs_in tables_1_5 (List.mem_of_getElem? (i := 5) rfl) _ (List.mem_of_getElem? (i := 35) rfl)
theorem mk_39 : ∃ ps, zmok1 (zy_39, prog_6_method_4_code, 0) (cd_39, 1, (Option.some Jvm.ClassFile.FieldType.int), 0, 0) 1 ps = true := ⟨[1009, 5035, 5033, 5034], by decide +kernel⟩
theorem ck_40 : zCok zTabs zCl zNm zKm false (decide (zy_40.name = "<init>")) zy_40.cls prog_6_method_5_code cd_40 := zCok_of pp_40 (by decide +kernel)
theorem wk_40 : Jvm.Cond.code zy_40 prog_6_method_5_code 7 (Option.some Jvm.ClassFile.FieldType.int) ∈ lw_tbl := zTabs_in tables_1_5 (List.mem_of_getElem? (i := 5) rfl) _ (List.mem_of_getElem? (i := 49) rfl)
theorem mk_40 : ∃ ps, zmok1 (zy_40, prog_6_method_5_code, 4) (cd_40, 7, (Option.some Jvm.ClassFile.FieldType.int), 0, 0) 1 ps = true := ⟨[1009, 5049, 5047, 5048], by decide +kernel⟩
theorem ck_41 : zCok zTabs zCl zNm zKm false (decide (zy_41.name = "<init>")) zy_41.cls prog_6_method_6_code cd_41 := zCok_of pp_41 (by decide +kernel)
theorem wk_41 : Jvm.Cond.code zy_41 prog_6_method_6_code 2 (Option.some Jvm.ClassFile.FieldType.long) ∈ lw_tbl := zTabs_in tables_1_5 (List.mem_of_getElem? (i := 5) rfl) _ (List.mem_of_getElem? (i := 57) rfl)
theorem mk_41 : ∃ ps, zmok1 (zy_41, prog_6_method_6_code, 1) (cd_41, 2, (Option.some Jvm.ClassFile.FieldType.long), 0, 0) 1 ps = true := ⟨[1009, 5057, 5055, 5056], by decide +kernel⟩
theorem ck_42 : zCok zTabs zCl zNm zKm false (decide (zy_42.name = "<init>")) zy_42.cls prog_6_method_7_code cd_42 := zCok_of pp_42 (by decide +kernel)
theorem wk_42 : Jvm.Cond.code zy_42 prog_6_method_7_code 11 (Option.some Jvm.ClassFile.FieldType.long) ∈ lw_tbl := zTabs_in tables_1_5 (List.mem_of_getElem? (i := 5) rfl) _ (List.mem_of_getElem? (i := 61) rfl)
theorem mk_42 : ∃ ps, zmok1 (zy_42, prog_6_method_7_code, 3) (cd_42, 11, (Option.some Jvm.ClassFile.FieldType.long), 0, 0) 1 ps = true := ⟨[1009, 5061, 5059, 5060], by decide +kernel⟩
theorem ck_43 : zCok zTabs zCl zNm zKm false (decide (zy_43.name = "<init>")) zy_43.cls prog_6_method_8_code cd_43 := zCok_of pp_43 (by decide +kernel)
theorem wk_43 : Jvm.Cond.code zy_43 prog_6_method_8_code 13 (Option.some Jvm.ClassFile.FieldType.long) ∈ lw_tbl := zTabs_in tables_1_5 (List.mem_of_getElem? (i := 5) rfl) _ (List.mem_of_getElem? (i := 75) rfl)
theorem mk_43 : ∃ ps, zmok1 (zy_43, prog_6_method_8_code, 3) (cd_43, 13, (Option.some Jvm.ClassFile.FieldType.long), 0, 0) 1 ps = true := ⟨[1009, 5075, 5073, 5074], by decide +kernel⟩
theorem ck_44 : zCok zTabs zCl zNm zKm false (decide (zy_44.name = "<init>")) zy_44.cls prog_7_method_1_code cd_44 := zCok_of pp_44 (by decide +kernel)
theorem wk_44 : Jvm.Cond.code zy_44 prog_7_method_1_code 1 (Option.none : Option Jvm.ClassFile.FieldType) ∈ lw_tbl := zTabs_in tables_1_2 (List.mem_of_getElem? (i := 2) rfl) _ (List.mem_of_getElem? (i := 63) rfl)
theorem mk_44 : ∃ ps, zmok1 (zy_44, prog_7_method_1_code, 0) (cd_44, 1, (Option.none : Option Jvm.ClassFile.FieldType), 7, 168) 2 ps = true := ⟨[1010, 2063, 2062], by decide +kernel⟩
theorem ck_45 : zCok zTabs zCl zNm zKm false (decide (zy_45.name = "<init>")) zy_45.cls prog_7_method_2_code cd_45 := zCok_of pp_45 (by decide +kernel)
theorem wk_45 : Jvm.Cond.code zy_45 prog_7_method_2_code 2 (Option.some Jvm.ClassFile.FieldType.boolean) ∈ lw_tbl := zTabs_in tables_1_5 (List.mem_of_getElem? (i := 5) rfl) _ (List.mem_of_getElem? (i := 116) rfl)
theorem mk_45 : ∃ ps, zmok1 (zy_45, prog_7_method_2_code, 1) (cd_45, 2, (Option.some Jvm.ClassFile.FieldType.boolean), 0, 0) 1 ps = true := ⟨[1010, 5116, 5114, 5115], by decide +kernel⟩
theorem ck_46 : zCok zTabs zCl zNm zKm false (decide (zy_46.name = "<init>")) zy_46.cls prog_7_method_3_code cd_46 := zCok_of pp_46 (by decide +kernel)
theorem wk_46 : Jvm.Cond.code zy_46 prog_7_method_3_code 2 (Option.some Jvm.ClassFile.FieldType.boolean) ∈ lw_tbl := zTabs_in tables_1_5 (List.mem_of_getElem? (i := 5) rfl) _ (List.mem_of_getElem? (i := 95) rfl)
theorem mk_46 : ∃ ps, zmok1 (zy_46, prog_7_method_3_code, 1) (cd_46, 2, (Option.some Jvm.ClassFile.FieldType.boolean), 0, 0) 1 ps = true := ⟨[1010, 5095, 5093, 5094], by decide +kernel⟩
theorem ck_47 : zCok zTabs zCl zNm zKm false (decide (zy_47.name = "<init>")) zy_47.cls prog_7_method_4_code cd_47 := zCok_of pp_47 (by decide +kernel)
theorem wk_47 : Jvm.Cond.code zy_47 prog_7_method_4_code 5 (Option.some Jvm.ClassFile.FieldType.int) ∈ lw_tbl := zTabs_in tables_1_5 (List.mem_of_getElem? (i := 5) rfl) _ (List.mem_of_getElem? (i := 99) rfl)
theorem mk_47 : ∃ ps, zmok1 (zy_47, prog_7_method_4_code, 4) (cd_47, 5, (Option.some Jvm.ClassFile.FieldType.int), 0, 0) 1 ps = true := ⟨[1010, 5099, 5097, 5098], by decide +kernel⟩
theorem ck_48 : zCok zTabs zCl zNm zKm false (decide (zy_48.name = "<init>")) zy_48.cls prog_7_method_5_code cd_48 := zCok_of pp_48 (by decide +kernel)
theorem wk_48 : Jvm.Cond.code zy_48 prog_7_method_5_code 5 (Option.some Jvm.ClassFile.FieldType.int) ∈ lw_tbl := zTabs_in tables_1_5 (List.mem_of_getElem? (i := 5) rfl) _ (List.mem_of_getElem? (i := 103) rfl)
theorem mk_48 : ∃ ps, zmok1 (zy_48, prog_7_method_5_code, 2) (cd_48, 5, (Option.some Jvm.ClassFile.FieldType.int), 0, 0) 1 ps = true := ⟨[1010, 5103, 5102, 27], by decide +kernel⟩
theorem ck_49 : zCok zTabs zCl zNm zKm false (decide (zy_49.name = "<init>")) zy_49.cls prog_7_method_6_code cd_49 := zCok_of pp_49 (by decide +kernel)
theorem wk_49 : Jvm.Cond.code zy_49 prog_7_method_6_code 3 (Option.some Jvm.ClassFile.FieldType.boolean) ∈ lw_tbl := zTabs_in tables_1_5 (List.mem_of_getElem? (i := 5) rfl) _ (List.mem_of_getElem? (i := 107) rfl)
theorem mk_49 : ∃ ps, zmok1 (zy_49, prog_7_method_6_code, 2) (cd_49, 3, (Option.some Jvm.ClassFile.FieldType.boolean), 0, 0) 1 ps = true := ⟨[1010, 5107, 5106, 28], by decide +kernel⟩
theorem ck_50 : zCok zTabs zCl zNm zKm false (decide (zy_50.name = "<init>")) zy_50.cls prog_7_method_7_code cd_50 := zCok_of pp_50 (by decide +kernel)
theorem wk_50 : Jvm.Cond.code zy_50 prog_7_method_7_code 3 (Option.some Jvm.ClassFile.FieldType.int) ∈ lw_tbl := zTabs_in tables_1_5 (List.mem_of_getElem? (i := 5) rfl) _ (List.mem_of_getElem? (i := 130) rfl)
theorem mk_50 : ∃ ps, zmok1 (zy_50, prog_7_method_7_code, 1) (cd_50, 3, (Option.some Jvm.ClassFile.FieldType.int), 0, 0) 1 ps = true := ⟨[1010, 5130, 5128, 5129], by decide +kernel⟩
theorem ck_51 : zCok zTabs zCl zNm zKm false (decide (zy_51.name = "<init>")) zy_51.cls prog_7_method_8_code cd_51 := zCok_of pp_51 (by decide +kernel)
theorem wk_51 : Jvm.Cond.code zy_51 prog_7_method_8_code 7 (Option.some Jvm.ClassFile.FieldType.int) ∈ lw_tbl := zTabs_in tables_1_5 (List.mem_of_getElem? (i := 5) rfl) _ (List.mem_of_getElem? (i := 120) rfl)
theorem mk_51 : ∃ ps, zmok1 (zy_51, prog_7_method_8_code, 1) (cd_51, 7, (Option.some Jvm.ClassFile.FieldType.int), 0, 0) 1 ps = true := ⟨[1010, 5120, 5118, 5119], by decide +kernel⟩
theorem ck_52 : zCok zTabs zCl zNm zKm false (decide (zy_52.name = "<init>")) zy_52.cls prog_7_method_9_code cd_52 := zCok_of pp_52 (by decide +kernel)
theorem wk_52 : Jvm.Cond.code zy_52 prog_7_method_9_code 3 (Option.some Jvm.ClassFile.FieldType.int) ∈ lw_tbl := zTabs_in tables_1_5 (List.mem_of_getElem? (i := 5) rfl) _ (List.mem_of_getElem? (i := 138) rfl)
theorem mk_52 : ∃ ps, zmok1 (zy_52, prog_7_method_9_code, 2) (cd_52, 3, (Option.some Jvm.ClassFile.FieldType.int), 0, 0) 1 ps = true := ⟨[1010, 5138, 5136, 5137], by decide +kernel⟩
theorem ck_53 : zCok zTabs zCl zNm zKm false (decide (zy_53.name = "<init>")) zy_53.cls prog_7_method_10_code cd_53 := zCok_of pp_53 (by decide +kernel)
theorem wk_53 : Jvm.Cond.code zy_53 prog_7_method_10_code 4 (Option.some Jvm.ClassFile.FieldType.int) ∈ lw_tbl := zTabs_in tables_1_5 (List.mem_of_getElem? (i := 5) rfl) _ (List.mem_of_getElem? (i := 146) rfl)
theorem mk_53 : ∃ ps, zmok1 (zy_53, prog_7_method_10_code, 2) (cd_53, 4, (Option.some Jvm.ClassFile.FieldType.int), 0, 0) 1 ps = true := ⟨[1010, 5146, 5144, 5145], by decide +kernel⟩
theorem ck_54 : zCok zTabs zCl zNm zKm false (decide (zy_54.name = "<init>")) zy_54.cls prog_8_method_1_code cd_54 := zCok_of pp_54 (by decide +kernel)
theorem wk_54 : Jvm.Cond.code zy_54 prog_8_method_1_code 1 (Option.none : Option Jvm.ClassFile.FieldType) ∈ lw_tbl := zTabs_in tables_1_2 (List.mem_of_getElem? (i := 2) rfl) _ (List.mem_of_getElem? (i := 97) rfl)
theorem mk_54 : ∃ ps, zmok1 (zy_54, prog_8_method_1_code, 0) (cd_54, 1, (Option.none : Option Jvm.ClassFile.FieldType), 4, 80) 2 ps = true := ⟨[1011, 2097, 2096], by decide +kernel⟩
theorem ck_55 : zCok zTabs zCl zNm zKm false (decide (zy_55.name = "<init>")) zy_55.cls prog_8_method_2_code cd_55 := zCok_of pp_55 (by decide +kernel)
theorem wk_55 : Jvm.Cond.code zy_55 prog_8_method_2_code 2 (Option.some Jvm.ClassFile.FieldType.boolean) ∈ lw_tbl := zTabs_in tables_1_5 (List.mem_of_getElem? (i := 5) rfl) _ (List.mem_of_getElem? (i := 163) rfl)
theorem mk_55 : ∃ ps, zmok1 (zy_55, prog_8_method_2_code, 1) (cd_55, 2, (Option.some Jvm.ClassFile.FieldType.boolean), 0, 0) 1 ps = true := ⟨[1011, 5163, 5161, 5162], by decide +kernel⟩
theorem ck_56 : zCok zTabs zCl zNm zKm false (decide (zy_56.name = "<init>")) zy_56.cls prog_8_method_3_code cd_56 := zCok_of pp_56 (by decide +kernel)
theorem wk_56 : Jvm.Cond.code zy_56 prog_8_method_3_code 5 (Option.some Jvm.ClassFile.FieldType.int) ∈ lw_tbl := zTabs_in tables_1_5 (List.mem_of_getElem? (i := 5) rfl) _ (List.mem_of_getElem? (i := 155) rfl)
theorem mk_56 : ∃ ps, zmok1 (zy_56, prog_8_method_3_code, 4) (cd_56, 5, (Option.some Jvm.ClassFile.FieldType.int), 0, 0) 1 ps = true := ⟨[1011, 5155, 5153, 5154], by decide +kernel⟩
theorem ck_57 : zCok zTabs zCl zNm zKm false (decide (zy_57.name = "<init>")) zy_57.cls prog_8_method_4_code cd_57 := zCok_of pp_57 (by decide +kernel)
theorem wk_57 : Jvm.Cond.code zy_57 prog_8_method_4_code 3 (Option.some Jvm.ClassFile.FieldType.boolean) ∈ lw_tbl := zTabs_in tables_1_5 (List.mem_of_getElem? (i := 5) rfl) _ (List.mem_of_getElem? (i := 176) rfl)
theorem mk_57 : ∃ ps, zmok1 (zy_57, prog_8_method_4_code, 2) (cd_57, 3, (Option.some Jvm.ClassFile.FieldType.boolean), 0, 0) 1 ps = true := ⟨[1011, 5176, 5174, 5175], by decide +kernel⟩
theorem ck_58 : zCok zTabs zCl zNm zKm false (decide (zy_58.name = "<init>")) zy_58.cls prog_8_method_5_code cd_58 := zCok_of pp_58 (by decide +kernel)
theorem wk_58 : Jvm.Cond.code zy_58 prog_8_method_5_code 3 (Option.some Jvm.ClassFile.FieldType.boolean) ∈ lw_tbl := zTabs_in tables_1_5 (List.mem_of_getElem? (i := 5) rfl) _ (List.mem_of_getElem? (i := 172) rfl)
theorem mk_58 : ∃ ps, zmok1 (zy_58, prog_8_method_5_code, 2) (cd_58, 3, (Option.some Jvm.ClassFile.FieldType.boolean), 0, 0) 1 ps = true := ⟨[1011, 5172, 5171, 29], by decide +kernel⟩
theorem ck_59 : zCok zTabs zCl zNm zKm false (decide (zy_59.name = "<init>")) zy_59.cls prog_8_method_6_code cd_59 := zCok_of pp_59 (by decide +kernel)
theorem wk_59 : Jvm.Cond.code zy_59 prog_8_method_6_code 6 (Option.some Jvm.ClassFile.FieldType.int) ∈ lw_tbl := zTabs_in tables_1_5 (List.mem_of_getElem? (i := 5) rfl) _ (List.mem_of_getElem? (i := 167) rfl)
theorem mk_59 : ∃ ps, zmok1 (zy_59, prog_8_method_6_code, 2) (cd_59, 6, (Option.some Jvm.ClassFile.FieldType.int), 0, 0) 1 ps = true := ⟨[1011, 5167, 5165, 5166], by decide +kernel⟩
theorem ck_60 : zCok zTabs zCl zNm zKm false (decide (zy_60.name = "<init>")) zy_60.cls prog_8_method_7_code cd_60 := zCok_of pp_60 (by decide +kernel)
theorem wk_60 : Jvm.Cond.code zy_60 prog_8_method_7_code 5 (Option.some Jvm.ClassFile.FieldType.int) ∈ lw_tbl := zTabs_in tables_1_5 (List.mem_of_getElem? (i := 5) rfl) _ (List.mem_of_getElem? (i := 207) rfl)
theorem mk_60 : ∃ ps, zmok1 (zy_60, prog_8_method_7_code, 2) (cd_60, 5, (Option.some Jvm.ClassFile.FieldType.int), 0, 0) 1 ps = true := ⟨[1011, 5207, 5205, 5206], by decide +kernel⟩
theorem ck_61 : zCok zTabs zCl zNm zKm false (decide (zy_61.name = "<init>")) zy_61.cls prog_8_method_8_code cd_61 := zCok_of pp_61 (by decide +kernel)
theorem wk_61 : Jvm.Cond.code zy_61 prog_8_method_8_code 6 (Option.some Jvm.ClassFile.FieldType.int) ∈ lw_tbl := zTabs_in tables_1_5 (List.mem_of_getElem? (i := 5) rfl) _ (List.mem_of_getElem? (i := 211) rfl)
theorem mk_61 : ∃ ps, zmok1 (zy_61, prog_8_method_8_code, 3) (cd_61, 6, (Option.some Jvm.ClassFile.FieldType.int), 0, 0) 1 ps = true := ⟨[1011, 5211, 5209, 5210], by decide +kernel⟩
theorem ck_62 : zCok zTabs zCl zNm zKm false (decide (zy_62.name = "<init>")) zy_62.cls prog_9_method_1_code cd_62 := zCok_of pp_62 (by decide +kernel)
theorem wk_62 : Jvm.Cond.code zy_62 prog_9_method_1_code 1 (Option.none : Option Jvm.ClassFile.FieldType) ∈ lw_tbl := zTabs_in tables_1_1 (List.mem_of_getElem? (i := 1) rfl) _ (List.mem_of_getElem? (i := 160) rfl)
theorem mk_62 : ∃ ps, zmok1 (zy_62, prog_9_method_1_code, 0) (cd_62, 1, (Option.none : Option Jvm.ClassFile.FieldType), 5, 122) 2 ps = true := ⟨[1006, 1160, 1159], by decide +kernel⟩
theorem ck_63 : zCok zTabs zCl zNm zKm false (decide (zy_63.name = "<init>")) zy_63.cls prog_9_method_2_code cd_63 := zCok_of pp_63 (by decide +kernel)
theorem wk_63 : Jvm.Cond.code zy_63 prog_9_method_2_code 1 (Option.some Jvm.ClassFile.FieldType.boolean) ∈ lw_tbl := zTabs_in tables_1_3 (List.mem_of_getElem? (i := 3) rfl) _ (List.mem_of_getElem? (i := 171) rfl)
theorem mk_63 : ∃ ps, zmok1 (zy_63, prog_9_method_2_code, 0) (cd_63, 1, (Option.some Jvm.ClassFile.FieldType.boolean), 0, 0) 1 ps = true := ⟨[1006, 3171, 3169, 3170], by decide +kernel⟩
theorem ck_64 : zCok zTabs zCl zNm zKm false (decide (zy_64.name = "<init>")) zy_64.cls prog_9_method_3_code cd_64 := zCok_of pp_64 (by decide +kernel)
theorem wk_64 : Jvm.Cond.code zy_64 prog_9_method_3_code 3 (Option.some Jvm.ClassFile.FieldType.int) ∈ lw_tbl := zTabs_in tables_1_4 (List.mem_of_getElem? (i := 4) rfl) _ (List.mem_of_getElem? (i := 76) rfl)
theorem mk_64 : ∃ ps, zmok1 (zy_64, prog_9_method_3_code, 2) (cd_64, 3, (Option.some Jvm.ClassFile.FieldType.int), 0, 0) 1 ps = true := ⟨[1006, 4076, 4074, 4075], by decide +kernel⟩
theorem ck_65 : zCok zTabs zCl zNm zKm false (decide (zy_65.name = "<init>")) zy_65.cls prog_9_method_4_code cd_65 := zCok_of pp_65 (by decide +kernel)
theorem wk_65 : Jvm.Cond.code zy_65 prog_9_method_4_code 4 (Option.some Jvm.ClassFile.FieldType.int) ∈ lw_tbl := zTabs_in tables_1_4 (List.mem_of_getElem? (i := 4) rfl) _ (List.mem_of_getElem? (i := 99) rfl)
theorem mk_65 : ∃ ps, zmok1 (zy_65, prog_9_method_4_code, 1) (cd_65, 4, (Option.some Jvm.ClassFile.FieldType.int), 0, 0) 1 ps = true := ⟨[1006, 4099, 4097, 4098], by decide +kernel⟩
theorem ck_66 : zCok zTabs zCl zNm zKm false (decide (zy_66.name = "<init>")) zy_66.cls prog_9_method_5_code cd_66 := zCok_of pp_66 (by decide +kernel)
theorem wk_66 : Jvm.Cond.code zy_66 prog_9_method_5_code 6 (Option.some Jvm.ClassFile.FieldType.int) ∈ lw_tbl := zTabs_in tables_1_4 (List.mem_of_getElem? (i := 4) rfl) _ (List.mem_of_getElem? (i := 136) rfl)
theorem mk_66 : ∃ ps, zmok1 (zy_66, prog_9_method_5_code, 2) (cd_66, 6, (Option.some Jvm.ClassFile.FieldType.int), 0, 0) 1 ps = true := ⟨[1006, 4136, 4134, 4135], by decide +kernel⟩
theorem ck_67 : zCok zTabs zCl zNm zKm false (decide (zy_67.name = "<init>")) zy_67.cls prog_9_method_6_code cd_67 := zCok_of pp_67 (by decide +kernel)
theorem wk_67 : Jvm.Cond.code zy_67 prog_9_method_6_code 3 (Option.some Jvm.ClassFile.FieldType.long) ∈ lw_tbl := zTabs_in tables_1_4 (List.mem_of_getElem? (i := 4) rfl) _ (List.mem_of_getElem? (i := 155) rfl)
theorem mk_67 : ∃ ps, zmok1 (zy_67, prog_9_method_6_code, 2) (cd_67, 3, (Option.some Jvm.ClassFile.FieldType.long), 0, 0) 1 ps = true := ⟨[1006, 4155, 4153, 4154], by decide +kernel⟩
theorem ck_68 : zCok zTabs zCl zNm zKm false (decide (zy_68.name = "<init>")) zy_68.cls prog_9_method_7_code cd_68 := zCok_of pp_68 (by decide +kernel)
theorem wk_68 : Jvm.Cond.code zy_68 prog_9_method_7_code 7 (Option.some Jvm.ClassFile.FieldType.long) ∈ lw_tbl := zTabs_in tables_1_4 (List.mem_of_getElem? (i := 4) rfl) _ (List.mem_of_getElem? (i := 140) rfl)
theorem mk_68 : ∃ ps, zmok1 (zy_68, prog_9_method_7_code, 3) (cd_68, 7, (Option.some Jvm.ClassFile.FieldType.long), 0, 0) 1 ps = true := ⟨[1006, 4140, 4139, 22], by decide +kernel⟩
theorem ck_69 : zCok zTabs zCl zNm zKm false (decide (zy_69.name = "<init>")) zy_69.cls prog_9_method_8_code cd_69 := zCok_of pp_69 (by decide +kernel)
theorem wk_69 : Jvm.Cond.code zy_69 prog_9_method_8_code 3 (Option.some Jvm.ClassFile.FieldType.long) ∈ lw_tbl := zTabs_in tables_1_4 (List.mem_of_getElem? (i := 4) rfl) _ (List.mem_of_getElem? (i := 145) rfl)
theorem mk_69 : ∃ ps, zmok1 (zy_69, prog_9_method_8_code, 1) (cd_69, 3, (Option.some Jvm.ClassFile.FieldType.long), 0, 0) 1 ps = true := ⟨[1006, 4145, 4144, 23], by decide +kernel⟩
theorem ck_70 : zCok zTabs zCl zNm zKm false (decide (zy_70.name = "<init>")) zy_70.cls prog_9_method_9_code cd_70 := zCok_of pp_70 (by decide +kernel)
theorem wk_70 : Jvm.Cond.code zy_70 prog_9_method_9_code 5 (Option.some Jvm.ClassFile.FieldType.long) ∈ lw_tbl := zTabs_in tables_1_4 (List.mem_of_getElem? (i := 4) rfl) _ (List.mem_of_getElem? (i := 150) rfl)
theorem mk_70 : ∃ ps, zmok1 (zy_70, prog_9_method_9_code, 3) (cd_70, 5, (Option.some Jvm.ClassFile.FieldType.long), 0, 0) 0 ps = true := ⟨[1006, 4150, 4149], by decide +kernel⟩
end
