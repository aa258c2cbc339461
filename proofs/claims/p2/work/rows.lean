section
-- ===== PART A: goes FIRST, ahead of the names: the tables' words, and 'selects' of the private methods out of them =====
/-- a private method of a class that the tables say can be made, by its rows of tables_1 -/
def lw_okq (q : MethodName × Nat) : Prop := (q.1.cls ≠ "java/lang/invoke/MethodHandle" ∧ q.1.cls ≠ "java/lang/invoke/VarHandle") ∧ Cond.instantiable q.1.cls q.2 ∈ tables_1 ∧ Cond.privateMethod q.1 ∈ tables_1 ∧ Cond.instanceMethod q.1 ∈ tables_1
theorem lw_p0 : lw_okq (⟨"TankBehind", "partsOf", "(LTankBehind$Car;I)I"⟩, 15) := ⟨⟨by decide +kernel, by decide +kernel⟩, List.mem_of_getElem? (i := 22) (by decide +kernel), List.mem_of_getElem? (i := 593) (by decide +kernel), List.mem_of_getElem? (i := 594) (by decide +kernel)⟩
theorem lw_p1 : lw_okq (⟨"TankBehind$RuleReader", "readClause", "()Z"⟩, 10) := ⟨⟨by decide +kernel, by decide +kernel⟩, List.mem_of_getElem? (i := 114) (by decide +kernel), List.mem_of_getElem? (i := 657) (by decide +kernel), List.mem_of_getElem? (i := 658) (by decide +kernel)⟩
theorem lw_p2 : lw_okq (⟨"TankBehind$RuleReader", "wordHere", "()I"⟩, 10) := ⟨⟨by decide +kernel, by decide +kernel⟩, List.mem_of_getElem? (i := 114) (by decide +kernel), List.mem_of_getElem? (i := 661) (by decide +kernel), List.mem_of_getElem? (i := 662) (by decide +kernel)⟩
theorem lw_p3 : lw_okq (⟨"TankBehind$RuleReader", "signHere", "()I"⟩, 10) := ⟨⟨by decide +kernel, by decide +kernel⟩, List.mem_of_getElem? (i := 114) (by decide +kernel), List.mem_of_getElem? (i := 665) (by decide +kernel), List.mem_of_getElem? (i := 666) (by decide +kernel)⟩
theorem lw_p4 : lw_okq (⟨"TankBehind$RuleReader", "refuse", "(II)Z"⟩, 10) := ⟨⟨by decide +kernel, by decide +kernel⟩, List.mem_of_getElem? (i := 114) (by decide +kernel), List.mem_of_getElem? (i := 718) (by decide +kernel), List.mem_of_getElem? (i := 719) (by decide +kernel)⟩
theorem lw_p5 : lw_okq (⟨"TankBehind$RuleReader", "numberHere", "(I)I"⟩, 10) := ⟨⟨by decide +kernel, by decide +kernel⟩, List.mem_of_getElem? (i := 114) (by decide +kernel), List.mem_of_getElem? (i := 722) (by decide +kernel), List.mem_of_getElem? (i := 723) (by decide +kernel)⟩
theorem lw_p6 : lw_okq (⟨"TankBehind$RuleReader", "readSum", "(I)Z"⟩, 10) := ⟨⟨by decide +kernel, by decide +kernel⟩, List.mem_of_getElem? (i := 114) (by decide +kernel), List.mem_of_getElem? (i := 730) (by decide +kernel), List.mem_of_getElem? (i := 731) (by decide +kernel)⟩
theorem lw_p7 : lw_okq (⟨"TankBehind$RuleReader", "readTerm", "(I)Z"⟩, 10) := ⟨⟨by decide +kernel, by decide +kernel⟩, List.mem_of_getElem? (i := 114) (by decide +kernel), List.mem_of_getElem? (i := 734) (by decide +kernel), List.mem_of_getElem? (i := 735) (by decide +kernel)⟩
theorem lw_p8 : lw_okq (⟨"TankBehind$RuleReader", "readValue", "(I)Z"⟩, 10) := ⟨⟨by decide +kernel, by decide +kernel⟩, List.mem_of_getElem? (i := 114) (by decide +kernel), List.mem_of_getElem? (i := 738) (by decide +kernel), List.mem_of_getElem? (i := 739) (by decide +kernel)⟩
theorem lw_p9 : lw_okq (⟨"TankBehind$RuleReader", "countOne", "()Z"⟩, 10) := ⟨⟨by decide +kernel, by decide +kernel⟩, List.mem_of_getElem? (i := 114) (by decide +kernel), List.mem_of_getElem? (i := 742) (by decide +kernel), List.mem_of_getElem? (i := 743) (by decide +kernel)⟩
theorem lw_p10 : lw_okq (⟨"TankBehind$RuleReader", "takeSign", "(C)Z"⟩, 10) := ⟨⟨by decide +kernel, by decide +kernel⟩, List.mem_of_getElem? (i := 114) (by decide +kernel), List.mem_of_getElem? (i := 746) (by decide +kernel), List.mem_of_getElem? (i := 747) (by decide +kernel)⟩
theorem lw_p11 : lw_okq (⟨"TankBehind$RuleReader", "takeWord", "(I)Z"⟩, 10) := ⟨⟨by decide +kernel, by decide +kernel⟩, List.mem_of_getElem? (i := 114) (by decide +kernel), List.mem_of_getElem? (i := 750) (by decide +kernel), List.mem_of_getElem? (i := 751) (by decide +kernel)⟩
theorem lw_p12 : lw_okq (⟨"TankBehind$RuleReader", "putCode", "(I)V"⟩, 10) := ⟨⟨by decide +kernel, by decide +kernel⟩, List.mem_of_getElem? (i := 114) (by decide +kernel), List.mem_of_getElem? (i := 754) (by decide +kernel), List.mem_of_getElem? (i := 755) (by decide +kernel)⟩
theorem lw_p13 : lw_okq (⟨"TankBehind$RuleReader", "readTest", "(I)Z"⟩, 10) := ⟨⟨by decide +kernel, by decide +kernel⟩, List.mem_of_getElem? (i := 114) (by decide +kernel), List.mem_of_getElem? (i := 762) (by decide +kernel), List.mem_of_getElem? (i := 763) (by decide +kernel)⟩
theorem lw_p14 : lw_okq (⟨"TankBehind$RuleReader", "readPart", "(I)Z"⟩, 10) := ⟨⟨by decide +kernel, by decide +kernel⟩, List.mem_of_getElem? (i := 114) (by decide +kernel), List.mem_of_getElem? (i := 766) (by decide +kernel), List.mem_of_getElem? (i := 767) (by decide +kernel)⟩
theorem lw_p15 : lw_okq (⟨"TankBehind$RuleReader", "readFact", "(I)Z"⟩, 10) := ⟨⟨by decide +kernel, by decide +kernel⟩, List.mem_of_getElem? (i := 114) (by decide +kernel), List.mem_of_getElem? (i := 770) (by decide +kernel), List.mem_of_getElem? (i := 771) (by decide +kernel)⟩
def lw_privs_1 : List (MethodName × Nat) := [(⟨"TankBehind", "partsOf", "(LTankBehind$Car;I)I"⟩, 15), (⟨"TankBehind$RuleReader", "readClause", "()Z"⟩, 10), (⟨"TankBehind$RuleReader", "wordHere", "()I"⟩, 10), (⟨"TankBehind$RuleReader", "signHere", "()I"⟩, 10), (⟨"TankBehind$RuleReader", "refuse", "(II)Z"⟩, 10), (⟨"TankBehind$RuleReader", "numberHere", "(I)I"⟩, 10), (⟨"TankBehind$RuleReader", "readSum", "(I)Z"⟩, 10), (⟨"TankBehind$RuleReader", "readTerm", "(I)Z"⟩, 10), (⟨"TankBehind$RuleReader", "readValue", "(I)Z"⟩, 10), (⟨"TankBehind$RuleReader", "countOne", "()Z"⟩, 10), (⟨"TankBehind$RuleReader", "takeSign", "(C)Z"⟩, 10), (⟨"TankBehind$RuleReader", "takeWord", "(I)Z"⟩, 10), (⟨"TankBehind$RuleReader", "putCode", "(I)V"⟩, 10), (⟨"TankBehind$RuleReader", "readTest", "(I)Z"⟩, 10), (⟨"TankBehind$RuleReader", "readPart", "(I)Z"⟩, 10), (⟨"TankBehind$RuleReader", "readFact", "(I)Z"⟩, 10)]
theorem lw_r1 : ∀ q ∈ lw_privs_1, lw_okq q := List.forall_mem_cons.mpr ⟨lw_p0, List.forall_mem_cons.mpr ⟨lw_p1, List.forall_mem_cons.mpr ⟨lw_p2, List.forall_mem_cons.mpr ⟨lw_p3, List.forall_mem_cons.mpr ⟨lw_p4, List.forall_mem_cons.mpr ⟨lw_p5, List.forall_mem_cons.mpr ⟨lw_p6, List.forall_mem_cons.mpr ⟨lw_p7, List.forall_mem_cons.mpr ⟨lw_p8, List.forall_mem_cons.mpr ⟨lw_p9, List.forall_mem_cons.mpr ⟨lw_p10, List.forall_mem_cons.mpr ⟨lw_p11, List.forall_mem_cons.mpr ⟨lw_p12, List.forall_mem_cons.mpr ⟨lw_p13, List.forall_mem_cons.mpr ⟨lw_p14, List.forall_mem_cons.mpr ⟨lw_p15, fun _ h => absurd h List.not_mem_nil⟩⟩⟩⟩⟩⟩⟩⟩⟩⟩⟩⟩⟩⟩⟩⟩
theorem lw_p16 : lw_okq (⟨"TankBehind$RuleReader", "readComparison", "(I)Z"⟩, 10) := ⟨⟨by decide +kernel, by decide +kernel⟩, List.mem_of_getElem? (i := 114) (by decide +kernel), List.mem_of_getElem? (i := 774) (by decide +kernel), List.mem_of_getElem? (i := 775) (by decide +kernel)⟩
theorem lw_p17 : lw_okq (⟨"TankBehind$RuleReader", "comparisonHere", "()I"⟩, 10) := ⟨⟨by decide +kernel, by decide +kernel⟩, List.mem_of_getElem? (i := 114) (by decide +kernel), List.mem_of_getElem? (i := 778) (by decide +kernel), List.mem_of_getElem? (i := 779) (by decide +kernel)⟩
theorem lw_p18 : lw_okq (⟨"TankBehind$RuleReader", "keepClause", "(III)V"⟩, 10) := ⟨⟨by decide +kernel, by decide +kernel⟩, List.mem_of_getElem? (i := 114) (by decide +kernel), List.mem_of_getElem? (i := 790) (by decide +kernel), List.mem_of_getElem? (i := 791) (by decide +kernel)⟩
theorem lw_p19 : lw_okq (⟨"TankBehind", "tally", "(I)V"⟩, 15) := ⟨⟨by decide +kernel, by decide +kernel⟩, List.mem_of_getElem? (i := 22) (by decide +kernel), List.mem_of_getElem? (i := 825) (by decide +kernel), List.mem_of_getElem? (i := 826) (by decide +kernel)⟩
theorem lw_p20 : lw_okq (⟨"TankBehind", "mustOf", "(III)I"⟩, 15) := ⟨⟨by decide +kernel, by decide +kernel⟩, List.mem_of_getElem? (i := 22) (by decide +kernel), List.mem_of_getElem? (i := 843) (by decide +kernel), List.mem_of_getElem? (i := 844) (by decide +kernel)⟩
theorem lw_p21 : lw_okq (⟨"TankBehind", "askOfKind", "(III)V"⟩, 15) := ⟨⟨by decide +kernel, by decide +kernel⟩, List.mem_of_getElem? (i := 22) (by decide +kernel), List.mem_of_getElem? (i := 847) (by decide +kernel), List.mem_of_getElem? (i := 848) (by decide +kernel)⟩
theorem lw_p22 : lw_okq (⟨"TankBehind$RuleBook", "work", "([III)J"⟩, 6) := ⟨⟨by decide +kernel, by decide +kernel⟩, List.mem_of_getElem? (i := 157) (by decide +kernel), List.mem_of_getElem? (i := 858) (by decide +kernel), List.mem_of_getElem? (i := 859) (by decide +kernel)⟩
theorem lw_p23 : lw_okq (⟨"TankBehind$RuleBook", "valueOf", "(I)J"⟩, 6) := ⟨⟨by decide +kernel, by decide +kernel⟩, List.mem_of_getElem? (i := 157) (by decide +kernel), List.mem_of_getElem? (i := 863) (by decide +kernel), List.mem_of_getElem? (i := 864) (by decide +kernel)⟩
theorem lw_p24 : lw_okq (⟨"TankBehind$Tests", "isOf", "(III)Z"⟩, 10) := ⟨⟨by decide +kernel, by decide +kernel⟩, List.mem_of_getElem? (i := 186) (by decide +kernel), List.mem_of_getElem? (i := 920) (by decide +kernel), List.mem_of_getElem? (i := 921) (by decide +kernel)⟩
theorem lw_p25 : lw_okq (⟨"TankBehind", "firstKnewFails", "(JII)I"⟩, 15) := ⟨⟨by decide +kernel, by decide +kernel⟩, List.mem_of_getElem? (i := 22) (by decide +kernel), List.mem_of_getElem? (i := 936) (by decide +kernel), List.mem_of_getElem? (i := 937) (by decide +kernel)⟩
theorem lw_p26 : lw_okq (⟨"TankBehind$Crashes", "sortIntoStrata", "(II)V"⟩, 13) := ⟨⟨by decide +kernel, by decide +kernel⟩, List.mem_of_getElem? (i := 224) (by decide +kernel), List.mem_of_getElem? (i := 980) (by decide +kernel), List.mem_of_getElem? (i := 981) (by decide +kernel)⟩
theorem lw_p27 : lw_okq (⟨"TankBehind$Plan", "beginOf", "(I[I)I"⟩, 8) := ⟨⟨by decide +kernel, by decide +kernel⟩, List.mem_of_getElem? (i := 300) (by decide +kernel), List.mem_of_getElem? (i := 1061) (by decide +kernel), List.mem_of_getElem? (i := 1062) (by decide +kernel)⟩
theorem lw_p28 : lw_okq (⟨"TankBehind$Plan", "isBehind", "(II)Z"⟩, 8) := ⟨⟨by decide +kernel, by decide +kernel⟩, List.mem_of_getElem? (i := 300) (by decide +kernel), List.mem_of_getElem? (i := 1065) (by decide +kernel), List.mem_of_getElem? (i := 1066) (by decide +kernel)⟩
theorem lw_p29 : lw_okq (⟨"TankBehind$Recalls", "isLeft", "(ILTankBehind$Car;)Z"⟩, 5) := ⟨⟨by decide +kernel, by decide +kernel⟩, List.mem_of_getElem? (i := 334) (by decide +kernel), List.mem_of_getElem? (i := 1130) (by decide +kernel), List.mem_of_getElem? (i := 1131) (by decide +kernel)⟩
theorem lw_p30 : lw_okq (⟨"TankBehind", "askOfCrash", "(ILTankBehind$Car;)V"⟩, 15) := ⟨⟨by decide +kernel, by decide +kernel⟩, List.mem_of_getElem? (i := 22) (by decide +kernel), List.mem_of_getElem? (i := 1185) (by decide +kernel), List.mem_of_getElem? (i := 1186) (by decide +kernel)⟩
theorem lw_p31 : lw_okq (⟨"TankBehind$Savers", "coinsOf", "(I)I"⟩, 6) := ⟨⟨by decide +kernel, by decide +kernel⟩, List.mem_of_getElem? (i := 358) (by decide +kernel), List.mem_of_getElem? (i := 1226) (by decide +kernel), List.mem_of_getElem? (i := 1227) (by decide +kernel)⟩
def lw_privs_2 : List (MethodName × Nat) := [(⟨"TankBehind$RuleReader", "readComparison", "(I)Z"⟩, 10), (⟨"TankBehind$RuleReader", "comparisonHere", "()I"⟩, 10), (⟨"TankBehind$RuleReader", "keepClause", "(III)V"⟩, 10), (⟨"TankBehind", "tally", "(I)V"⟩, 15), (⟨"TankBehind", "mustOf", "(III)I"⟩, 15), (⟨"TankBehind", "askOfKind", "(III)V"⟩, 15), (⟨"TankBehind$RuleBook", "work", "([III)J"⟩, 6), (⟨"TankBehind$RuleBook", "valueOf", "(I)J"⟩, 6), (⟨"TankBehind$Tests", "isOf", "(III)Z"⟩, 10), (⟨"TankBehind", "firstKnewFails", "(JII)I"⟩, 15), (⟨"TankBehind$Crashes", "sortIntoStrata", "(II)V"⟩, 13), (⟨"TankBehind$Plan", "beginOf", "(I[I)I"⟩, 8), (⟨"TankBehind$Plan", "isBehind", "(II)Z"⟩, 8), (⟨"TankBehind$Recalls", "isLeft", "(ILTankBehind$Car;)Z"⟩, 5), (⟨"TankBehind", "askOfCrash", "(ILTankBehind$Car;)V"⟩, 15), (⟨"TankBehind$Savers", "coinsOf", "(I)I"⟩, 6)]
theorem lw_r2 : ∀ q ∈ lw_privs_2, lw_okq q := List.forall_mem_cons.mpr ⟨lw_p16, List.forall_mem_cons.mpr ⟨lw_p17, List.forall_mem_cons.mpr ⟨lw_p18, List.forall_mem_cons.mpr ⟨lw_p19, List.forall_mem_cons.mpr ⟨lw_p20, List.forall_mem_cons.mpr ⟨lw_p21, List.forall_mem_cons.mpr ⟨lw_p22, List.forall_mem_cons.mpr ⟨lw_p23, List.forall_mem_cons.mpr ⟨lw_p24, List.forall_mem_cons.mpr ⟨lw_p25, List.forall_mem_cons.mpr ⟨lw_p26, List.forall_mem_cons.mpr ⟨lw_p27, List.forall_mem_cons.mpr ⟨lw_p28, List.forall_mem_cons.mpr ⟨lw_p29, List.forall_mem_cons.mpr ⟨lw_p30, List.forall_mem_cons.mpr ⟨lw_p31, fun _ h => absurd h List.not_mem_nil⟩⟩⟩⟩⟩⟩⟩⟩⟩⟩⟩⟩⟩⟩⟩⟩
theorem lw_p32 : lw_okq (⟨"TankBehind$Savers", "livesOf", "(I)I"⟩, 6) := ⟨⟨by decide +kernel, by decide +kernel⟩, List.mem_of_getElem? (i := 358) (by decide +kernel), List.mem_of_getElem? (i := 1230) (by decide +kernel), List.mem_of_getElem? (i := 1231) (by decide +kernel)⟩
theorem lw_p33 : lw_okq (⟨"TankBehindModel", "isKind", "(I)Z"⟩, 96) := ⟨⟨by decide +kernel, by decide +kernel⟩, List.mem_of_getElem? (i := 1242) (by decide +kernel), List.mem_of_getElem? (i := 1574) (by decide +kernel), List.mem_of_getElem? (i := 1575) (by decide +kernel)⟩
theorem lw_p34 : lw_okq (⟨"TankBehindModel", "isPart", "(I)Z"⟩, 96) := ⟨⟨by decide +kernel, by decide +kernel⟩, List.mem_of_getElem? (i := 1242) (by decide +kernel), List.mem_of_getElem? (i := 1578) (by decide +kernel), List.mem_of_getElem? (i := 1579) (by decide +kernel)⟩
theorem lw_p35 : lw_okq (⟨"TankBehindModel", "isPerson", "(I)Z"⟩, 96) := ⟨⟨by decide +kernel, by decide +kernel⟩, List.mem_of_getElem? (i := 1242) (by decide +kernel), List.mem_of_getElem? (i := 1589) (by decide +kernel), List.mem_of_getElem? (i := 1590) (by decide +kernel)⟩
theorem lw_p36 : lw_okq (⟨"TankBehindModel", "isCar", "(I)Z"⟩, 96) := ⟨⟨by decide +kernel, by decide +kernel⟩, List.mem_of_getElem? (i := 1242) (by decide +kernel), List.mem_of_getElem? (i := 1597) (by decide +kernel), List.mem_of_getElem? (i := 1598) (by decide +kernel)⟩
theorem lw_p37 : lw_okq (⟨"TankBehindModel", "ownerIn", "(III)I"⟩, 96) := ⟨⟨by decide +kernel, by decide +kernel⟩, List.mem_of_getElem? (i := 1242) (by decide +kernel), List.mem_of_getElem? (i := 1605) (by decide +kernel), List.mem_of_getElem? (i := 1606) (by decide +kernel)⟩
theorem lw_p38 : lw_okq (⟨"TankBehindModel", "partsOfCar", "(II)I"⟩, 96) := ⟨⟨by decide +kernel, by decide +kernel⟩, List.mem_of_getElem? (i := 1242) (by decide +kernel), List.mem_of_getElem? (i := 1613) (by decide +kernel), List.mem_of_getElem? (i := 1614) (by decide +kernel)⟩
theorem lw_p39 : lw_okq (⟨"TankBehindModel", "partsOf", "(II)I"⟩, 96) := ⟨⟨by decide +kernel, by decide +kernel⟩, List.mem_of_getElem? (i := 1242) (by decide +kernel), List.mem_of_getElem? (i := 1617) (by decide +kernel), List.mem_of_getElem? (i := 1618) (by decide +kernel)⟩
theorem lw_p40 : lw_okq (⟨"TankBehindModel", "forceOf", "(II)I"⟩, 96) := ⟨⟨by decide +kernel, by decide +kernel⟩, List.mem_of_getElem? (i := 1242) (by decide +kernel), List.mem_of_getElem? (i := 1626) (by decide +kernel), List.mem_of_getElem? (i := 1627) (by decide +kernel)⟩
theorem lw_p41 : lw_okq (⟨"TankBehindModel", "burnsIn", "(IIIII)Z"⟩, 96) := ⟨⟨by decide +kernel, by decide +kernel⟩, List.mem_of_getElem? (i := 1242) (by decide +kernel), List.mem_of_getElem? (i := 1634) (by decide +kernel), List.mem_of_getElem? (i := 1635) (by decide +kernel)⟩
theorem lw_p42 : lw_okq (⟨"TankBehindModel", "burnsWith", "(IIII)Z"⟩, 96) := ⟨⟨by decide +kernel, by decide +kernel⟩, List.mem_of_getElem? (i := 1242) (by decide +kernel), List.mem_of_getElem? (i := 1638) (by decide +kernel), List.mem_of_getElem? (i := 1639) (by decide +kernel)⟩
theorem lw_p43 : lw_okq (⟨"TankBehindModel", "put", "(I)V"⟩, 96) := ⟨⟨by decide +kernel, by decide +kernel⟩, List.mem_of_getElem? (i := 1242) (by decide +kernel), List.mem_of_getElem? (i := 1646) (by decide +kernel), List.mem_of_getElem? (i := 1647) (by decide +kernel)⟩
theorem lw_p44 : lw_okq (⟨"TankBehindModel", "clause", "(I)V"⟩, 96) := ⟨⟨by decide +kernel, by decide +kernel⟩, List.mem_of_getElem? (i := 1242) (by decide +kernel), List.mem_of_getElem? (i := 1658) (by decide +kernel), List.mem_of_getElem? (i := 1659) (by decide +kernel)⟩
theorem lw_p45 : lw_okq (⟨"TankBehindModel", "blanks", "()V"⟩, 96) := ⟨⟨by decide +kernel, by decide +kernel⟩, List.mem_of_getElem? (i := 1242) (by decide +kernel), List.mem_of_getElem? (i := 1662) (by decide +kernel), List.mem_of_getElem? (i := 1663) (by decide +kernel)⟩
theorem lw_p46 : lw_okq (⟨"TankBehindModel", "sign", "()I"⟩, 96) := ⟨⟨by decide +kernel, by decide +kernel⟩, List.mem_of_getElem? (i := 1242) (by decide +kernel), List.mem_of_getElem? (i := 1666) (by decide +kernel), List.mem_of_getElem? (i := 1667) (by decide +kernel)⟩
theorem lw_p47 : lw_okq (⟨"TankBehindModel", "stands", "(Ljava/lang/String;)Z"⟩, 96) := ⟨⟨by decide +kernel, by decide +kernel⟩, List.mem_of_getElem? (i := 1242) (by decide +kernel), List.mem_of_getElem? (i := 1677) (by decide +kernel), List.mem_of_getElem? (i := 1678) (by decide +kernel)⟩
def lw_privs_3 : List (MethodName × Nat) := [(⟨"TankBehind$Savers", "livesOf", "(I)I"⟩, 6), (⟨"TankBehindModel", "isKind", "(I)Z"⟩, 96), (⟨"TankBehindModel", "isPart", "(I)Z"⟩, 96), (⟨"TankBehindModel", "isPerson", "(I)Z"⟩, 96), (⟨"TankBehindModel", "isCar", "(I)Z"⟩, 96), (⟨"TankBehindModel", "ownerIn", "(III)I"⟩, 96), (⟨"TankBehindModel", "partsOfCar", "(II)I"⟩, 96), (⟨"TankBehindModel", "partsOf", "(II)I"⟩, 96), (⟨"TankBehindModel", "forceOf", "(II)I"⟩, 96), (⟨"TankBehindModel", "burnsIn", "(IIIII)Z"⟩, 96), (⟨"TankBehindModel", "burnsWith", "(IIII)Z"⟩, 96), (⟨"TankBehindModel", "put", "(I)V"⟩, 96), (⟨"TankBehindModel", "clause", "(I)V"⟩, 96), (⟨"TankBehindModel", "blanks", "()V"⟩, 96), (⟨"TankBehindModel", "sign", "()I"⟩, 96), (⟨"TankBehindModel", "stands", "(Ljava/lang/String;)Z"⟩, 96)]
theorem lw_r3 : ∀ q ∈ lw_privs_3, lw_okq q := List.forall_mem_cons.mpr ⟨lw_p32, List.forall_mem_cons.mpr ⟨lw_p33, List.forall_mem_cons.mpr ⟨lw_p34, List.forall_mem_cons.mpr ⟨lw_p35, List.forall_mem_cons.mpr ⟨lw_p36, List.forall_mem_cons.mpr ⟨lw_p37, List.forall_mem_cons.mpr ⟨lw_p38, List.forall_mem_cons.mpr ⟨lw_p39, List.forall_mem_cons.mpr ⟨lw_p40, List.forall_mem_cons.mpr ⟨lw_p41, List.forall_mem_cons.mpr ⟨lw_p42, List.forall_mem_cons.mpr ⟨lw_p43, List.forall_mem_cons.mpr ⟨lw_p44, List.forall_mem_cons.mpr ⟨lw_p45, List.forall_mem_cons.mpr ⟨lw_p46, List.forall_mem_cons.mpr ⟨lw_p47, fun _ h => absurd h List.not_mem_nil⟩⟩⟩⟩⟩⟩⟩⟩⟩⟩⟩⟩⟩⟩⟩⟩
theorem lw_p48 : lw_okq (⟨"TankBehindModel", "fails", "(II)V"⟩, 96) := ⟨⟨by decide +kernel, by decide +kernel⟩, List.mem_of_getElem? (i := 1242) (by decide +kernel), List.mem_of_getElem? (i := 1683) (by decide +kernel), List.mem_of_getElem? (i := 1684) (by decide +kernel)⟩
theorem lw_p49 : lw_okq (⟨"TankBehindModel", "digits", "(I)I"⟩, 96) := ⟨⟨by decide +kernel, by decide +kernel⟩, List.mem_of_getElem? (i := 1242) (by decide +kernel), List.mem_of_getElem? (i := 1687) (by decide +kernel), List.mem_of_getElem? (i := 1688) (by decide +kernel)⟩
theorem lw_p50 : lw_okq (⟨"TankBehindModel", "reads", "(I)V"⟩, 96) := ⟨⟨by decide +kernel, by decide +kernel⟩, List.mem_of_getElem? (i := 1242) (by decide +kernel), List.mem_of_getElem? (i := 1694) (by decide +kernel), List.mem_of_getElem? (i := 1695) (by decide +kernel)⟩
theorem lw_p51 : lw_okq (⟨"TankBehindModel", "beginsFact", "()V"⟩, 96) := ⟨⟨by decide +kernel, by decide +kernel⟩, List.mem_of_getElem? (i := 1242) (by decide +kernel), List.mem_of_getElem? (i := 1698) (by decide +kernel), List.mem_of_getElem? (i := 1699) (by decide +kernel)⟩
theorem lw_p52 : lw_okq (⟨"TankBehindModel", "opensDeep", "(II)V"⟩, 96) := ⟨⟨by decide +kernel, by decide +kernel⟩, List.mem_of_getElem? (i := 1242) (by decide +kernel), List.mem_of_getElem? (i := 1703) (by decide +kernel), List.mem_of_getElem? (i := 1704) (by decide +kernel)⟩
theorem lw_p53 : lw_okq (⟨"TankBehindModel", "opens", "(I)V"⟩, 96) := ⟨⟨by decide +kernel, by decide +kernel⟩, List.mem_of_getElem? (i := 1242) (by decide +kernel), List.mem_of_getElem? (i := 1707) (by decide +kernel), List.mem_of_getElem? (i := 1708) (by decide +kernel)⟩
theorem lw_p54 : lw_okq (⟨"TankBehindModel", "value", "()V"⟩, 96) := ⟨⟨by decide +kernel, by decide +kernel⟩, List.mem_of_getElem? (i := 1242) (by decide +kernel), List.mem_of_getElem? (i := 1711) (by decide +kernel), List.mem_of_getElem? (i := 1712) (by decide +kernel)⟩
theorem lw_p55 : lw_okq (⟨"TankBehindModel", "counts", "(I)V"⟩, 96) := ⟨⟨by decide +kernel, by decide +kernel⟩, List.mem_of_getElem? (i := 1242) (by decide +kernel), List.mem_of_getElem? (i := 1715) (by decide +kernel), List.mem_of_getElem? (i := 1716) (by decide +kernel)⟩
theorem lw_p56 : lw_okq (⟨"TankBehindModel", "entry", "(II)V"⟩, 96) := ⟨⟨by decide +kernel, by decide +kernel⟩, List.mem_of_getElem? (i := 1242) (by decide +kernel), List.mem_of_getElem? (i := 1720) (by decide +kernel), List.mem_of_getElem? (i := 1721) (by decide +kernel)⟩
theorem lw_p57 : lw_okq (⟨"TankBehindModel", "behindValue", "()V"⟩, 96) := ⟨⟨by decide +kernel, by decide +kernel⟩, List.mem_of_getElem? (i := 1242) (by decide +kernel), List.mem_of_getElem? (i := 1739) (by decide +kernel), List.mem_of_getElem? (i := 1740) (by decide +kernel)⟩
theorem lw_p58 : lw_okq (⟨"TankBehindModel", "makesProducts", "()V"⟩, 96) := ⟨⟨by decide +kernel, by decide +kernel⟩, List.mem_of_getElem? (i := 1242) (by decide +kernel), List.mem_of_getElem? (i := 1743) (by decide +kernel), List.mem_of_getElem? (i := 1744) (by decide +kernel)⟩
theorem lw_p59 : lw_okq (⟨"TankBehindModel", "top", "()I"⟩, 96) := ⟨⟨by decide +kernel, by decide +kernel⟩, List.mem_of_getElem? (i := 1242) (by decide +kernel), List.mem_of_getElem? (i := 1747) (by decide +kernel), List.mem_of_getElem? (i := 1748) (by decide +kernel)⟩
theorem lw_p60 : lw_okq (⟨"TankBehindModel", "makesSums", "()V"⟩, 96) := ⟨⟨by decide +kernel, by decide +kernel⟩, List.mem_of_getElem? (i := 1242) (by decide +kernel), List.mem_of_getElem? (i := 1751) (by decide +kernel), List.mem_of_getElem? (i := 1752) (by decide +kernel)⟩
theorem lw_p61 : lw_okq (⟨"TankBehindModel", "closesRound", "(I)V"⟩, 96) := ⟨⟨by decide +kernel, by decide +kernel⟩, List.mem_of_getElem? (i := 1242) (by decide +kernel), List.mem_of_getElem? (i := 1755) (by decide +kernel), List.mem_of_getElem? (i := 1756) (by decide +kernel)⟩
theorem lw_p62 : lw_okq (⟨"TankBehindModel", "compares", "()I"⟩, 96) := ⟨⟨by decide +kernel, by decide +kernel⟩, List.mem_of_getElem? (i := 1242) (by decide +kernel), List.mem_of_getElem? (i := 1759) (by decide +kernel), List.mem_of_getElem? (i := 1760) (by decide +kernel)⟩
theorem lw_p63 : lw_okq (⟨"TankBehindModel", "behindFact", "()V"⟩, 96) := ⟨⟨by decide +kernel, by decide +kernel⟩, List.mem_of_getElem? (i := 1242) (by decide +kernel), List.mem_of_getElem? (i := 1763) (by decide +kernel), List.mem_of_getElem? (i := 1764) (by decide +kernel)⟩
def lw_privs_4 : List (MethodName × Nat) := [(⟨"TankBehindModel", "fails", "(II)V"⟩, 96), (⟨"TankBehindModel", "digits", "(I)I"⟩, 96), (⟨"TankBehindModel", "reads", "(I)V"⟩, 96), (⟨"TankBehindModel", "beginsFact", "()V"⟩, 96), (⟨"TankBehindModel", "opensDeep", "(II)V"⟩, 96), (⟨"TankBehindModel", "opens", "(I)V"⟩, 96), (⟨"TankBehindModel", "value", "()V"⟩, 96), (⟨"TankBehindModel", "counts", "(I)V"⟩, 96), (⟨"TankBehindModel", "entry", "(II)V"⟩, 96), (⟨"TankBehindModel", "behindValue", "()V"⟩, 96), (⟨"TankBehindModel", "makesProducts", "()V"⟩, 96), (⟨"TankBehindModel", "top", "()I"⟩, 96), (⟨"TankBehindModel", "makesSums", "()V"⟩, 96), (⟨"TankBehindModel", "closesRound", "(I)V"⟩, 96), (⟨"TankBehindModel", "compares", "()I"⟩, 96), (⟨"TankBehindModel", "behindFact", "()V"⟩, 96)]
theorem lw_r4 : ∀ q ∈ lw_privs_4, lw_okq q := List.forall_mem_cons.mpr ⟨lw_p48, List.forall_mem_cons.mpr ⟨lw_p49, List.forall_mem_cons.mpr ⟨lw_p50, List.forall_mem_cons.mpr ⟨lw_p51, List.forall_mem_cons.mpr ⟨lw_p52, List.forall_mem_cons.mpr ⟨lw_p53, List.forall_mem_cons.mpr ⟨lw_p54, List.forall_mem_cons.mpr ⟨lw_p55, List.forall_mem_cons.mpr ⟨lw_p56, List.forall_mem_cons.mpr ⟨lw_p57, List.forall_mem_cons.mpr ⟨lw_p58, List.forall_mem_cons.mpr ⟨lw_p59, List.forall_mem_cons.mpr ⟨lw_p60, List.forall_mem_cons.mpr ⟨lw_p61, List.forall_mem_cons.mpr ⟨lw_p62, List.forall_mem_cons.mpr ⟨lw_p63, fun _ h => absurd h List.not_mem_nil⟩⟩⟩⟩⟩⟩⟩⟩⟩⟩⟩⟩⟩⟩⟩⟩
theorem lw_p64 : lw_okq (⟨"TankBehindModel", "makesNots", "()V"⟩, 96) := ⟨⟨by decide +kernel, by decide +kernel⟩, List.mem_of_getElem? (i := 1242) (by decide +kernel), List.mem_of_getElem? (i := 1767) (by decide +kernel), List.mem_of_getElem? (i := 1768) (by decide +kernel)⟩
theorem lw_p65 : lw_okq (⟨"TankBehindModel", "makesAnds", "()V"⟩, 96) := ⟨⟨by decide +kernel, by decide +kernel⟩, List.mem_of_getElem? (i := 1242) (by decide +kernel), List.mem_of_getElem? (i := 1772) (by decide +kernel), List.mem_of_getElem? (i := 1773) (by decide +kernel)⟩
theorem lw_p66 : lw_okq (⟨"TankBehindModel", "makesOrs", "()V"⟩, 96) := ⟨⟨by decide +kernel, by decide +kernel⟩, List.mem_of_getElem? (i := 1242) (by decide +kernel), List.mem_of_getElem? (i := 1777) (by decide +kernel), List.mem_of_getElem? (i := 1778) (by decide +kernel)⟩
theorem lw_p67 : lw_okq (⟨"TankBehindModel", "inForceIn", "(I)I"⟩, 96) := ⟨⟨by decide +kernel, by decide +kernel⟩, List.mem_of_getElem? (i := 1242) (by decide +kernel), List.mem_of_getElem? (i := 1786) (by decide +kernel), List.mem_of_getElem? (i := 1787) (by decide +kernel)⟩
theorem lw_p68 : lw_okq (⟨"TankBehindModel", "isAsked", "(III)Z"⟩, 96) := ⟨⟨by decide +kernel, by decide +kernel⟩, List.mem_of_getElem? (i := 1242) (by decide +kernel), List.mem_of_getElem? (i := 1794) (by decide +kernel), List.mem_of_getElem? (i := 1795) (by decide +kernel)⟩
theorem lw_p69 : lw_okq (⟨"TankBehindModel", "mustOf", "(III)I"⟩, 96) := ⟨⟨by decide +kernel, by decide +kernel⟩, List.mem_of_getElem? (i := 1242) (by decide +kernel), List.mem_of_getElem? (i := 1798) (by decide +kernel), List.mem_of_getElem? (i := 1799) (by decide +kernel)⟩
theorem lw_p70 : lw_okq (⟨"TankBehindModel", "asks", "(III)V"⟩, 96) := ⟨⟨by decide +kernel, by decide +kernel⟩, List.mem_of_getElem? (i := 1242) (by decide +kernel), List.mem_of_getElem? (i := 1802) (by decide +kernel), List.mem_of_getElem? (i := 1803) (by decide +kernel)⟩
theorem lw_p71 : lw_okq (⟨"TankBehindModel", "tells", "(III)I"⟩, 96) := ⟨⟨by decide +kernel, by decide +kernel⟩, List.mem_of_getElem? (i := 1242) (by decide +kernel), List.mem_of_getElem? (i := 1806) (by decide +kernel), List.mem_of_getElem? (i := 1807) (by decide +kernel)⟩
theorem lw_p72 : lw_okq (⟨"TankBehindModel", "answer", "(III)J"⟩, 96) := ⟨⟨by decide +kernel, by decide +kernel⟩, List.mem_of_getElem? (i := 1242) (by decide +kernel), List.mem_of_getElem? (i := 1810) (by decide +kernel), List.mem_of_getElem? (i := 1811) (by decide +kernel)⟩
theorem lw_p73 : lw_okq (⟨"TankBehindModel", "knewOf", "(IIIIZ)I"⟩, 96) := ⟨⟨by decide +kernel, by decide +kernel⟩, List.mem_of_getElem? (i := 1242) (by decide +kernel), List.mem_of_getElem? (i := 1840) (by decide +kernel), List.mem_of_getElem? (i := 1841) (by decide +kernel)⟩
theorem lw_p74 : lw_okq (⟨"TankBehindModel", "knewThatItFails", "(III)I"⟩, 96) := ⟨⟨by decide +kernel, by decide +kernel⟩, List.mem_of_getElem? (i := 1242) (by decide +kernel), List.mem_of_getElem? (i := 1848) (by decide +kernel), List.mem_of_getElem? (i := 1849) (by decide +kernel)⟩
theorem lw_p75 : lw_okq (⟨"TankBehindModel", "isMemo", "(I)Z"⟩, 96) := ⟨⟨by decide +kernel, by decide +kernel⟩, List.mem_of_getElem? (i := 1242) (by decide +kernel), List.mem_of_getElem? (i := 1876) (by decide +kernel), List.mem_of_getElem? (i := 1877) (by decide +kernel)⟩
theorem lw_p76 : lw_okq (⟨"TankBehindModel", "sumOf", "(III)J"⟩, 96) := ⟨⟨by decide +kernel, by decide +kernel⟩, List.mem_of_getElem? (i := 1242) (by decide +kernel), List.mem_of_getElem? (i := 1886) (by decide +kernel), List.mem_of_getElem? (i := 1887) (by decide +kernel)⟩
theorem lw_p77 : lw_okq (⟨"TankBehindModel", "goes", "(I)I"⟩, 96) := ⟨⟨by decide +kernel, by decide +kernel⟩, List.mem_of_getElem? (i := 1242) (by decide +kernel), List.mem_of_getElem? (i := 1916) (by decide +kernel), List.mem_of_getElem? (i := 1917) (by decide +kernel)⟩
theorem lw_p78 : lw_okq (⟨"TankBehindModel", "slack", "(I)I"⟩, 96) := ⟨⟨by decide +kernel, by decide +kernel⟩, List.mem_of_getElem? (i := 1242) (by decide +kernel), List.mem_of_getElem? (i := 1920) (by decide +kernel), List.mem_of_getElem? (i := 1921) (by decide +kernel)⟩
theorem lw_p79 : lw_okq (⟨"TankBehindModel", "costs", "(II)I"⟩, 96) := ⟨⟨by decide +kernel, by decide +kernel⟩, List.mem_of_getElem? (i := 1242) (by decide +kernel), List.mem_of_getElem? (i := 1932) (by decide +kernel), List.mem_of_getElem? (i := 1933) (by decide +kernel)⟩
def lw_privs_5 : List (MethodName × Nat) := [(⟨"TankBehindModel", "makesNots", "()V"⟩, 96), (⟨"TankBehindModel", "makesAnds", "()V"⟩, 96), (⟨"TankBehindModel", "makesOrs", "()V"⟩, 96), (⟨"TankBehindModel", "inForceIn", "(I)I"⟩, 96), (⟨"TankBehindModel", "isAsked", "(III)Z"⟩, 96), (⟨"TankBehindModel", "mustOf", "(III)I"⟩, 96), (⟨"TankBehindModel", "asks", "(III)V"⟩, 96), (⟨"TankBehindModel", "tells", "(III)I"⟩, 96), (⟨"TankBehindModel", "answer", "(III)J"⟩, 96), (⟨"TankBehindModel", "knewOf", "(IIIIZ)I"⟩, 96), (⟨"TankBehindModel", "knewThatItFails", "(III)I"⟩, 96), (⟨"TankBehindModel", "isMemo", "(I)Z"⟩, 96), (⟨"TankBehindModel", "sumOf", "(III)J"⟩, 96), (⟨"TankBehindModel", "goes", "(I)I"⟩, 96), (⟨"TankBehindModel", "slack", "(I)I"⟩, 96), (⟨"TankBehindModel", "costs", "(II)I"⟩, 96)]
theorem lw_r5 : ∀ q ∈ lw_privs_5, lw_okq q := List.forall_mem_cons.mpr ⟨lw_p64, List.forall_mem_cons.mpr ⟨lw_p65, List.forall_mem_cons.mpr ⟨lw_p66, List.forall_mem_cons.mpr ⟨lw_p67, List.forall_mem_cons.mpr ⟨lw_p68, List.forall_mem_cons.mpr ⟨lw_p69, List.forall_mem_cons.mpr ⟨lw_p70, List.forall_mem_cons.mpr ⟨lw_p71, List.forall_mem_cons.mpr ⟨lw_p72, List.forall_mem_cons.mpr ⟨lw_p73, List.forall_mem_cons.mpr ⟨lw_p74, List.forall_mem_cons.mpr ⟨lw_p75, List.forall_mem_cons.mpr ⟨lw_p76, List.forall_mem_cons.mpr ⟨lw_p77, List.forall_mem_cons.mpr ⟨lw_p78, List.forall_mem_cons.mpr ⟨lw_p79, fun _ h => absurd h List.not_mem_nil⟩⟩⟩⟩⟩⟩⟩⟩⟩⟩⟩⟩⟩⟩⟩⟩
theorem lw_p80 : lw_okq (⟨"TankBehindModel", "isCall", "(I)Z"⟩, 96) := ⟨⟨by decide +kernel, by decide +kernel⟩, List.mem_of_getElem? (i := 1242) (by decide +kernel), List.mem_of_getElem? (i := 1948) (by decide +kernel), List.mem_of_getElem? (i := 1949) (by decide +kernel)⟩
theorem lw_p81 : lw_okq (⟨"TankBehindModel", "isLeft", "(II)Z"⟩, 96) := ⟨⟨by decide +kernel, by decide +kernel⟩, List.mem_of_getElem? (i := 1242) (by decide +kernel), List.mem_of_getElem? (i := 1952) (by decide +kernel), List.mem_of_getElem? (i := 1953) (by decide +kernel)⟩
theorem lw_p82 : lw_okq (⟨"TankBehindModel", "isOf", "(II)Z"⟩, 96) := ⟨⟨by decide +kernel, by decide +kernel⟩, List.mem_of_getElem? (i := 1242) (by decide +kernel), List.mem_of_getElem? (i := 1956) (by decide +kernel), List.mem_of_getElem? (i := 1957) (by decide +kernel)⟩
def lw_privs_6 : List (MethodName × Nat) := [(⟨"TankBehindModel", "isCall", "(I)Z"⟩, 96), (⟨"TankBehindModel", "isLeft", "(II)Z"⟩, 96), (⟨"TankBehindModel", "isOf", "(II)Z"⟩, 96)]
theorem lw_r6 : ∀ q ∈ lw_privs_6, lw_okq q := List.forall_mem_cons.mpr ⟨lw_p80, List.forall_mem_cons.mpr ⟨lw_p81, List.forall_mem_cons.mpr ⟨lw_p82, fun _ h => absurd h List.not_mem_nil⟩⟩⟩
def lw_privs : List (MethodName × Nat) := lw_privs_1 ++ (lw_privs_2 ++ (lw_privs_3 ++ (lw_privs_4 ++ (lw_privs_5 ++ (lw_privs_6)))))
def lw_tbl : List Cond := k2_sels lw_privs ++ tables_1
theorem lw_privs_ok : ∀ q ∈ lw_privs, lw_okq q := by
  show ∀ q ∈ lw_privs_1 ++ (lw_privs_2 ++ (lw_privs_3 ++ (lw_privs_4 ++ (lw_privs_5 ++ (lw_privs_6))))), lw_okq q
  exact List.forall_mem_append.mpr ⟨lw_r1, List.forall_mem_append.mpr ⟨lw_r2, List.forall_mem_append.mpr ⟨lw_r3, List.forall_mem_append.mpr ⟨lw_r4, List.forall_mem_append.mpr ⟨lw_r5, lw_r6⟩⟩⟩⟩⟩
end
section
def RX0 : String := "TankBehind$Car"
def TX0 : u_T := fun k => match k with
  | 0 => ("TankBehind$Car", "kind", "I", true)
  | 1 => ("TankBehind$Car", "made", "I", true)
  | 2 => ("TankBehind$Car", "told", "I", true)
  | 3 => ("TankBehind$Car", "firstOwner", "I", true)
  | 4 => ("TankBehind$Car", "owner", "I", false)
  | 5 => ("TankBehind$Car", "sold", "I", false)
  | 6 => ("TankBehind$Car", "crashed", "I", false)
  | 7 => ("TankBehind$Car", "wrecked", "Z", false)
  | 8 => ("TankBehind$Car", "reachedBits", "I", false)
  | 9 => ("TankBehind$Car", "mendedBits", "I", false)
  | _ => ("TankBehind$Car", "partFrom", "[I", true)
def tyX0 : Nat → FieldType := fun k => match k with
  | 0 => .int
  | 1 => .int
  | 2 => .int
  | 3 => .int
  | 4 => .int
  | 5 => .int
  | 6 => .int
  | 7 => .boolean
  | 8 => .int
  | 9 => .int
  | _ => .array .int
theorem nmX0 : ∀ a, a < 11 → ∀ b, b < 11 → a ≠ b → (TX0 a).2.1 ≠ (TX0 b).2.1 := by decide +kernel
theorem tyX0_ok : ∀ k, k < 11 → parseFieldDescriptor (TX0 k).2.2.1 = some (tyX0 k) := by decide +kernel
def RX1 : String := "TankBehind$Crashes"
def TX1 : u_T := fun k => match k with
  | 0 => ("TankBehind$Crashes", "cars", "[I", true)
  | 1 => ("TankBehind$Crashes", "kinds", "[I", true)
  | 2 => ("TankBehind$Crashes", "months", "[I", true)
  | 3 => ("TankBehind$Crashes", "told", "[I", true)
  | 4 => ("TankBehind$Crashes", "sorts", "[I", true)
  | 5 => ("TankBehind$Crashes", "speeds", "[I", true)
  | 6 => ("TankBehind$Crashes", "dead", "[I", true)
  | 7 => ("TankBehind$Crashes", "burned", "[Z", true)
  | 8 => ("TankBehind$Crashes", "crashes", "I", false)
  | 9 => ("TankBehind$Crashes", "ownCrashes", "[I", true)
  | 10 => ("TankBehind$Crashes", "ownFires", "[I", true)
  | 11 => ("TankBehind$Crashes", "otherCrashes", "[I", true)
  | _ => ("TankBehind$Crashes", "otherFires", "[I", true)
def tyX1 : Nat → FieldType := fun k => match k with
  | 0 => .array .int
  | 1 => .array .int
  | 2 => .array .int
  | 3 => .array .int
  | 4 => .array .int
  | 5 => .array .int
  | 6 => .array .int
  | 7 => .array .boolean
  | 8 => .int
  | 9 => .array .int
  | 10 => .array .int
  | 11 => .array .int
  | _ => .array .int
theorem nmX1 : ∀ a, a < 13 → ∀ b, b < 13 → a ≠ b → (TX1 a).2.1 ≠ (TX1 b).2.1 := by decide +kernel
theorem tyX1_ok : ∀ k, k < 13 → parseFieldDescriptor (TX1 k).2.2.1 = some (tyX1 k) := by decide +kernel
def RX2 : String := "TankBehind$Fleet"
def TX2 : u_T := fun k => match k with
  | 0 => ("TankBehind$Fleet", "employers", "[I", true)
  | 1 => ("TankBehind$Fleet", "moved", "[Z", true)
  | 2 => ("TankBehind$Fleet", "people", "I", false)
  | 3 => ("TankBehind$Fleet", "list", "[LTankBehind$Car;", true)
  | 4 => ("TankBehind$Fleet", "cars", "I", false)
  | 5 => ("TankBehind$Fleet", "saleCars", "[I", true)
  | 6 => ("TankBehind$Fleet", "buyers", "[I", true)
  | 7 => ("TankBehind$Fleet", "saleMonths", "[I", true)
  | 8 => ("TankBehind$Fleet", "saleTold", "[I", true)
  | _ => ("TankBehind$Fleet", "sales", "I", false)
def tyX2 : Nat → FieldType := fun k => match k with
  | 0 => .array .int
  | 1 => .array .boolean
  | 2 => .int
  | 3 => .array (.object "TankBehind$Car")
  | 4 => .int
  | 5 => .array .int
  | 6 => .array .int
  | 7 => .array .int
  | 8 => .array .int
  | _ => .int
theorem nmX2 : ∀ a, a < 10 → ∀ b, b < 10 → a ≠ b → (TX2 a).2.1 ≠ (TX2 b).2.1 := by decide +kernel
theorem tyX2_ok : ∀ k, k < 10 → parseFieldDescriptor (TX2 k).2.2.1 = some (tyX2 k) := by decide +kernel
def RX3 : String := "TankBehind$Makes"
def TX3 : u_T := fun k => match k with
  | 0 => ("TankBehind$Makes", "factors", "[I", true)
  | 1 => ("TankBehind$Makes", "firms", "[I", true)
  | 2 => ("TankBehind$Makes", "bears", "[[I", true)
  | 3 => ("TankBehind$Makes", "coins", "[I", true)
  | 4 => ("TankBehind$Makes", "adds", "[[I", true)
  | 5 => ("TankBehind$Makes", "fitted", "[[I", true)
  | 6 => ("TankBehind$Makes", "kinds", "I", false)
  | _ => ("TankBehind$Makes", "parts", "I", false)
def tyX3 : Nat → FieldType := fun k => match k with
  | 0 => .array .int
  | 1 => .array .int
  | 2 => .array (.array .int)
  | 3 => .array .int
  | 4 => .array (.array .int)
  | 5 => .array (.array .int)
  | 6 => .int
  | _ => .int
theorem nmX3 : ∀ a, a < 8 → ∀ b, b < 8 → a ≠ b → (TX3 a).2.1 ≠ (TX3 b).2.1 := by decide +kernel
theorem tyX3_ok : ∀ k, k < 8 → parseFieldDescriptor (TX3 k).2.2.1 = some (tyX3 k) := by decide +kernel
def RX4 : String := "TankBehind$Memos"
def TX4 : u_T := fun k => match k with
  | 0 => ("TankBehind$Memos", "memos", "I", false)
  | 1 => ("TankBehind$Memos", "rows", "[I", true)
  | 2 => ("TankBehind$Memos", "saved", "[Z", true)
  | 3 => ("TankBehind$Memos", "counts", "[I", true)
  | _ => ("TankBehind$Memos", "coins", "[I", true)
def tyX4 : Nat → FieldType := fun k => match k with
  | 0 => .int
  | 1 => .array .int
  | 2 => .array .boolean
  | 3 => .array .int
  | _ => .array .int
theorem nmX4 : ∀ a, a < 5 → ∀ b, b < 5 → a ≠ b → (TX4 a).2.1 ≠ (TX4 b).2.1 := by decide +kernel
theorem tyX4_ok : ∀ k, k < 5 → parseFieldDescriptor (TX4 k).2.2.1 = some (tyX4 k) := by decide +kernel
def RX5 : String := "TankBehind$Plan"
def TX5 : u_T := fun k => match k with
  | 0 => ("TankBehind$Plan", "months", "[I", true)
  | 1 => ("TankBehind$Plan", "firms", "[I", true)
  | 2 => ("TankBehind$Plan", "behind", "[I", true)
  | 3 => ("TankBehind$Plan", "coins", "[I", true)
  | 4 => ("TankBehind$Plan", "begins", "[I", true)
  | 5 => ("TankBehind$Plan", "ends", "[I", true)
  | 6 => ("TankBehind$Plan", "others", "[I", true)
  | _ => ("TankBehind$Plan", "steps", "I", false)
def tyX5 : Nat → FieldType := fun k => match k with
  | 0 => .array .int
  | 1 => .array .int
  | 2 => .array .int
  | 3 => .array .int
  | 4 => .array .int
  | 5 => .array .int
  | 6 => .array .int
  | _ => .int
theorem nmX5 : ∀ a, a < 8 → ∀ b, b < 8 → a ≠ b → (TX5 a).2.1 ≠ (TX5 b).2.1 := by decide +kernel
theorem tyX5_ok : ∀ k, k < 8 → parseFieldDescriptor (TX5 k).2.2.1 = some (tyX5 k) := by decide +kernel
def RX6 : String := "TankBehind$Recalls"
def TX6 : u_T := fun k => match k with
  | 0 => ("TankBehind$Recalls", "kinds", "[I", true)
  | 1 => ("TankBehind$Recalls", "firsts", "[I", true)
  | 2 => ("TankBehind$Recalls", "lasts", "[I", true)
  | 3 => ("TankBehind$Recalls", "parts", "[I", true)
  | _ => ("TankBehind$Recalls", "calls", "I", false)
def tyX6 : Nat → FieldType := fun k => match k with
  | 0 => .array .int
  | 1 => .array .int
  | 2 => .array .int
  | 3 => .array .int
  | _ => .int
theorem nmX6 : ∀ a, a < 5 → ∀ b, b < 5 → a ≠ b → (TX6 a).2.1 ≠ (TX6 b).2.1 := by decide +kernel
theorem tyX6_ok : ∀ k, k < 5 → parseFieldDescriptor (TX6 k).2.2.1 = some (tyX6 k) := by decide +kernel
def RX7 : String := "TankBehind$RuleBook"
def TX7 : u_T := fun k => match k with
  | 0 => ("TankBehind$RuleBook", "froms", "[I", true)
  | 1 => ("TankBehind$RuleBook", "codes", "[[I", true)
  | 2 => ("TankBehind$RuleBook", "clauses", "[[I", true)
  | 3 => ("TankBehind$RuleBook", "rules", "I", false)
  | 4 => ("TankBehind$RuleBook", "words", "[J", true)
  | _ => ("TankBehind$RuleBook", "stack", "[J", true)
def tyX7 : Nat → FieldType := fun k => match k with
  | 0 => .array .int
  | 1 => .array (.array .int)
  | 2 => .array (.array .int)
  | 3 => .int
  | 4 => .array .long
  | _ => .array .long
theorem nmX7 : ∀ a, a < 6 → ∀ b, b < 6 → a ≠ b → (TX7 a).2.1 ≠ (TX7 b).2.1 := by decide +kernel
theorem tyX7_ok : ∀ k, k < 6 → parseFieldDescriptor (TX7 k).2.2.1 = some (tyX7 k) := by decide +kernel
def RX8 : String := "TankBehind$RuleReader"
def TX8 : u_T := fun k => match k with
  | 0 => ("TankBehind$RuleReader", "tape", "[B", true)
  | 1 => ("TankBehind$RuleReader", "length", "I", false)
  | 2 => ("TankBehind$RuleReader", "place", "I", false)
  | 3 => ("TankBehind$RuleReader", "wordEnd", "I", false)
  | 4 => ("TankBehind$RuleReader", "codes", "[I", true)
  | 5 => ("TankBehind$RuleReader", "codeCount", "I", false)
  | 6 => ("TankBehind$RuleReader", "clauses", "[I", true)
  | 7 => ("TankBehind$RuleReader", "clauseCount", "I", false)
  | 8 => ("TankBehind$RuleReader", "counted", "I", false)
  | _ => ("TankBehind$RuleReader", "fault", "I", false)
def tyX8 : Nat → FieldType := fun k => match k with
  | 0 => .array .byte
  | 1 => .int
  | 2 => .int
  | 3 => .int
  | 4 => .array .int
  | 5 => .int
  | 6 => .array .int
  | 7 => .int
  | 8 => .int
  | _ => .int
theorem nmX8 : ∀ a, a < 10 → ∀ b, b < 10 → a ≠ b → (TX8 a).2.1 ≠ (TX8 b).2.1 := by decide +kernel
theorem tyX8_ok : ∀ k, k < 10 → parseFieldDescriptor (TX8 k).2.2.1 = some (tyX8 k) := by decide +kernel
def RX9 : String := "TankBehind$Savers"
def TX9 : u_T := fun k => match k with
  | 0 => ("TankBehind$Savers", "coins", "[I", true)
  | 1 => ("TankBehind$Savers", "lives", "[I", true)
  | 2 => ("TankBehind$Savers", "overlaps", "[[I", true)
  | 3 => ("TankBehind$Savers", "savers", "I", false)
  | 4 => ("TankBehind$Savers", "bestSet", "I", false)
  | _ => ("TankBehind$Savers", "bestCoins", "I", false)
def tyX9 : Nat → FieldType := fun k => match k with
  | 0 => .array .int
  | 1 => .array .int
  | 2 => .array (.array .int)
  | 3 => .int
  | 4 => .int
  | _ => .int
theorem nmX9 : ∀ a, a < 6 → ∀ b, b < 6 → a ≠ b → (TX9 a).2.1 ≠ (TX9 b).2.1 := by decide +kernel
theorem tyX9_ok : ∀ k, k < 6 → parseFieldDescriptor (TX9 k).2.2.1 = some (tyX9 k) := by decide +kernel
def RX10 : String := "TankBehind$Tests"
def TX10 : u_T := fun k => match k with
  | 0 => ("TankBehind$Tests", "kinds", "[I", true)
  | 1 => ("TankBehind$Tests", "sorts", "[I", true)
  | 2 => ("TankBehind$Tests", "speeds", "[I", true)
  | 3 => ("TankBehind$Tests", "burned", "[Z", true)
  | 4 => ("TankBehind$Tests", "readers", "[J", true)
  | 5 => ("TankBehind$Tests", "tests", "I", false)
  | 6 => ("TankBehind$Tests", "readTests", "[I", true)
  | 7 => ("TankBehind$Tests", "readBy", "[I", true)
  | 8 => ("TankBehind$Tests", "readIn", "[I", true)
  | _ => ("TankBehind$Tests", "readings", "I", false)
def tyX10 : Nat → FieldType := fun k => match k with
  | 0 => .array .int
  | 1 => .array .int
  | 2 => .array .int
  | 3 => .array .boolean
  | 4 => .array .long
  | 5 => .int
  | 6 => .array .int
  | 7 => .array .int
  | 8 => .array .int
  | _ => .int
theorem nmX10 : ∀ a, a < 10 → ∀ b, b < 10 → a ≠ b → (TX10 a).2.1 ≠ (TX10 b).2.1 := by decide +kernel
theorem tyX10_ok : ∀ k, k < 10 → parseFieldDescriptor (TX10 k).2.2.1 = some (tyX10 k) := by decide +kernel
def RX11 : String := "TankBehind"
def TX11 : u_T := fun k => match k with
  | 0 => ("TankBehind", "makes", "LTankBehind$Makes;", true)
  | 1 => ("TankBehind", "fleet", "LTankBehind$Fleet;", true)
  | 2 => ("TankBehind", "reader", "LTankBehind$RuleReader;", true)
  | 3 => ("TankBehind", "book", "LTankBehind$RuleBook;", true)
  | 4 => ("TankBehind", "tests", "LTankBehind$Tests;", true)
  | 5 => ("TankBehind", "crashes", "LTankBehind$Crashes;", true)
  | 6 => ("TankBehind", "memos", "LTankBehind$Memos;", true)
  | 7 => ("TankBehind", "plan", "LTankBehind$Plan;", true)
  | 8 => ("TankBehind", "recalls", "LTankBehind$Recalls;", true)
  | 9 => ("TankBehind", "savers", "LTankBehind$Savers;", true)
  | 10 => ("TankBehind", "carsBy", "[I", true)
  | 11 => ("TankBehind", "firesBy", "[I", true)
  | 12 => ("TankBehind", "deathsBy", "[I", true)
  | 13 => ("TankBehind", "leastBy", "[I", true)
  | _ => ("TankBehind", "now", "I", false)
def tyX11 : Nat → FieldType := fun k => match k with
  | 0 => .object "TankBehind$Makes"
  | 1 => .object "TankBehind$Fleet"
  | 2 => .object "TankBehind$RuleReader"
  | 3 => .object "TankBehind$RuleBook"
  | 4 => .object "TankBehind$Tests"
  | 5 => .object "TankBehind$Crashes"
  | 6 => .object "TankBehind$Memos"
  | 7 => .object "TankBehind$Plan"
  | 8 => .object "TankBehind$Recalls"
  | 9 => .object "TankBehind$Savers"
  | 10 => .array .int
  | 11 => .array .int
  | 12 => .array .int
  | 13 => .array .int
  | _ => .int
theorem nmX11 : ∀ a, a < 15 → ∀ b, b < 15 → a ≠ b → (TX11 a).2.1 ≠ (TX11 b).2.1 := by decide +kernel
theorem tyX11_ok : ∀ k, k < 15 → parseFieldDescriptor (TX11 k).2.2.1 = some (tyX11 k) := by decide +kernel
def RX12 : String := "TankBehindModel"
def TX12 : u_T := fun k => match k with
  | 0 => ("TankBehindModel", "thrown", "I", false)
  | 1 => ("TankBehindModel", "now", "I", false)
  | 2 => ("TankBehindModel", "persons", "I", false)
  | 3 => ("TankBehindModel", "kinds", "I", false)
  | 4 => ("TankBehindModel", "parts", "I", false)
  | 5 => ("TankBehindModel", "cars", "I", false)
  | 6 => ("TankBehindModel", "sales", "I", false)
  | 7 => ("TankBehindModel", "firmOf", "[I", true)
  | 8 => ("TankBehindModel", "factor", "[I", true)
  | 9 => ("TankBehindModel", "kindFirm", "[I", true)
  | 10 => ("TankBehindModel", "bears", "[I", true)
  | 11 => ("TankBehindModel", "coinsOf", "[I", true)
  | 12 => ("TankBehindModel", "adds", "[I", true)
  | 13 => ("TankBehindModel", "fitted", "[I", true)
  | 14 => ("TankBehindModel", "hasMoved", "[Z", true)
  | 15 => ("TankBehindModel", "isWrecked", "[Z", true)
  | 16 => ("TankBehindModel", "carKind", "[I", true)
  | 17 => ("TankBehindModel", "made", "[I", true)
  | 18 => ("TankBehindModel", "carTold", "[I", true)
  | 19 => ("TankBehindModel", "firstOwner", "[I", true)
  | 20 => ("TankBehindModel", "lastOwner", "[I", true)
  | 21 => ("TankBehindModel", "lastSale", "[I", true)
  | 22 => ("TankBehindModel", "lastCrash", "[I", true)
  | 23 => ("TankBehindModel", "soldCar", "[I", true)
  | 24 => ("TankBehindModel", "soldTo", "[I", true)
  | 25 => ("TankBehindModel", "soldIn", "[I", true)
  | 26 => ("TankBehindModel", "soldTold", "[I", true)
  | 27 => ("TankBehindModel", "taped", "I", false)
  | 28 => ("TankBehindModel", "p", "I", false)
  | 29 => ("TankBehindModel", "fault", "I", false)
  | 30 => ("TankBehindModel", "rules", "I", false)
  | 31 => ("TankBehindModel", "entries", "I", false)
  | 32 => ("TankBehindModel", "deep", "I", false)
  | 33 => ("TankBehindModel", "counted", "I", false)
  | 34 => ("TankBehindModel", "opened", "I", false)
  | 35 => ("TankBehindModel", "tape", "[B", true)
  | 36 => ("TankBehindModel", "sort", "[I", true)
  | 37 => ("TankBehindModel", "number", "[I", true)
  | 38 => ("TankBehindModel", "thing", "[I", true)
  | 39 => ("TankBehindModel", "thingOf", "[I", true)
  | 40 => ("TankBehindModel", "sumAt", "[I", true)
  | 41 => ("TankBehindModel", "testAt", "[I", true)
  | 42 => ("TankBehindModel", "endAt", "[I", true)
  | 43 => ("TankBehindModel", "clauses", "[I", true)
  | 44 => ("TankBehindModel", "binds", "[I", true)
  | 45 => ("TankBehindModel", "open", "[I", true)
  | 46 => ("TankBehindModel", "state", "I", false)
  | 47 => ("TankBehindModel", "inTest", "Z", false)
  | 48 => ("TankBehindModel", "asked", "[J", true)
  | 49 => ("TankBehindModel", "stack", "[J", true)
  | 50 => ("TankBehindModel", "tests", "I", false)
  | 51 => ("TankBehindModel", "reads", "I", false)
  | 52 => ("TankBehindModel", "testKind", "[I", true)
  | 53 => ("TankBehindModel", "testSort", "[I", true)
  | 54 => ("TankBehindModel", "testSpeed", "[I", true)
  | 55 => ("TankBehindModel", "readTest", "[I", true)
  | 56 => ("TankBehindModel", "readBy", "[I", true)
  | 57 => ("TankBehindModel", "readIn", "[I", true)
  | 58 => ("TankBehindModel", "testBurned", "[Z", true)
  | 59 => ("TankBehindModel", "crashes", "I", false)
  | 60 => ("TankBehindModel", "crashCar", "[I", true)
  | 61 => ("TankBehindModel", "crashIn", "[I", true)
  | 62 => ("TankBehindModel", "crashSort", "[I", true)
  | 63 => ("TankBehindModel", "crashSpeed", "[I", true)
  | 64 => ("TankBehindModel", "crashDead", "[I", true)
  | 65 => ("TankBehindModel", "crashTold", "[I", true)
  | 66 => ("TankBehindModel", "crashBurned", "[Z", true)
  | 67 => ("TankBehindModel", "ownCrashes", "[I", true)
  | 68 => ("TankBehindModel", "ownFires", "[I", true)
  | 69 => ("TankBehindModel", "otherCrashes", "[I", true)
  | 70 => ("TankBehindModel", "otherFires", "[I", true)
  | 71 => ("TankBehindModel", "memos", "I", false)
  | 72 => ("TankBehindModel", "rowMany", "[I", true)
  | 73 => ("TankBehindModel", "rowCount", "[I", true)
  | 74 => ("TankBehindModel", "rowCoins", "[I", true)
  | 75 => ("TankBehindModel", "rowSaved", "[Z", true)
  | 76 => ("TankBehindModel", "steps", "I", false)
  | 77 => ("TankBehindModel", "lasts", "[I", true)
  | 78 => ("TankBehindModel", "stepFirm", "[I", true)
  | 79 => ("TankBehindModel", "behind", "[I", true)
  | 80 => ("TankBehindModel", "stepCoins", "[I", true)
  | 81 => ("TankBehindModel", "begins", "[I", true)
  | 82 => ("TankBehindModel", "after", "[I", true)
  | 83 => ("TankBehindModel", "calls", "I", false)
  | 84 => ("TankBehindModel", "callKind", "[I", true)
  | 85 => ("TankBehindModel", "callFrom", "[I", true)
  | 86 => ("TankBehindModel", "callTo", "[I", true)
  | 87 => ("TankBehindModel", "callPart", "[I", true)
  | 88 => ("TankBehindModel", "mendedIn", "[I", true)
  | 89 => ("TankBehindModel", "isReached", "[Z", true)
  | 90 => ("TankBehindModel", "savers", "I", false)
  | 91 => ("TankBehindModel", "bestSet", "I", false)
  | 92 => ("TankBehindModel", "bestCost", "I", false)
  | 93 => ("TankBehindModel", "saverCoins", "[I", true)
  | 94 => ("TankBehindModel", "saverLives", "[I", true)
  | _ => ("TankBehindModel", "overlaps", "[I", true)
def tyX12 : Nat → FieldType := fun k => match k with
  | 0 => .int
  | 1 => .int
  | 2 => .int
  | 3 => .int
  | 4 => .int
  | 5 => .int
  | 6 => .int
  | 7 => .array .int
  | 8 => .array .int
  | 9 => .array .int
  | 10 => .array .int
  | 11 => .array .int
  | 12 => .array .int
  | 13 => .array .int
  | 14 => .array .boolean
  | 15 => .array .boolean
  | 16 => .array .int
  | 17 => .array .int
  | 18 => .array .int
  | 19 => .array .int
  | 20 => .array .int
  | 21 => .array .int
  | 22 => .array .int
  | 23 => .array .int
  | 24 => .array .int
  | 25 => .array .int
  | 26 => .array .int
  | 27 => .int
  | 28 => .int
  | 29 => .int
  | 30 => .int
  | 31 => .int
  | 32 => .int
  | 33 => .int
  | 34 => .int
  | 35 => .array .byte
  | 36 => .array .int
  | 37 => .array .int
  | 38 => .array .int
  | 39 => .array .int
  | 40 => .array .int
  | 41 => .array .int
  | 42 => .array .int
  | 43 => .array .int
  | 44 => .array .int
  | 45 => .array .int
  | 46 => .int
  | 47 => .boolean
  | 48 => .array .long
  | 49 => .array .long
  | 50 => .int
  | 51 => .int
  | 52 => .array .int
  | 53 => .array .int
  | 54 => .array .int
  | 55 => .array .int
  | 56 => .array .int
  | 57 => .array .int
  | 58 => .array .boolean
  | 59 => .int
  | 60 => .array .int
  | 61 => .array .int
  | 62 => .array .int
  | 63 => .array .int
  | 64 => .array .int
  | 65 => .array .int
  | 66 => .array .boolean
  | 67 => .array .int
  | 68 => .array .int
  | 69 => .array .int
  | 70 => .array .int
  | 71 => .int
  | 72 => .array .int
  | 73 => .array .int
  | 74 => .array .int
  | 75 => .array .boolean
  | 76 => .int
  | 77 => .array .int
  | 78 => .array .int
  | 79 => .array .int
  | 80 => .array .int
  | 81 => .array .int
  | 82 => .array .int
  | 83 => .int
  | 84 => .array .int
  | 85 => .array .int
  | 86 => .array .int
  | 87 => .array .int
  | 88 => .array .int
  | 89 => .array .boolean
  | 90 => .int
  | 91 => .int
  | 92 => .int
  | 93 => .array .int
  | 94 => .array .int
  | _ => .array .int
theorem nmX12 : ∀ a, a < 96 → ∀ b, b < 96 → a ≠ b → (TX12 a).2.1 ≠ (TX12 b).2.1 := by decide +kernel
theorem tyX12_ok : ∀ k, k < 96 → parseFieldDescriptor (TX12 k).2.2.1 = some (tyX12 k) := by decide +kernel
def zCl : List vw_C := [(RX0, TX0, 11), (RX1, TX1, 13), (RX2, TX2, 10), (RX3, TX3, 8), (RX4, TX4, 5), (RX5, TX5, 8), (RX6, TX6, 5), (RX7, TX7, 6), (RX8, TX8, 10), (RX9, TX9, 6), (RX10, TX10, 10), (RX11, TX11, 15), (RX12, TX12, 96)]
def zTt : List ((Nat → FieldType) × Nat × (Nat → Bool)) := [(tyX0, 11, fun _ => false), (tyX1, 13, fun _ => false), (tyX2, 10, fun _ => false), (tyX3, 8, fun _ => false), (tyX4, 5, fun _ => false), (tyX5, 8, fun _ => false), (tyX6, 5, fun _ => false), (tyX7, 6, fun _ => false), (tyX8, 10, fun _ => false), (tyX9, 6, fun _ => false), (tyX10, 10, fun _ => false), (tyX11, 15, fun _ => false), (tyX12, 96, fun _ => false)]
def zsg : List (String × Nat × Nat) := [("TankBehind$RuleReader", 125, 1), ("TankBehindModel", 320, 2), ("TankBehindModel", 322, 3), ("TankBehindModel", 324, 4), ("TankBehindModel", 326, 5), ("TankBehindModel", 327, 6), ("TankBehindModel", 328, 7), ("TankBehindModel", 330, 8), ("TankBehindModel", 332, 9), ("TankBehindModel", 334, 10), ("TankBehindModel", 336, 11), ("TankBehindModel", 337, 12), ("TankBehindModel", 339, 13), ("TankBehindModel", 341, 14), ("TankBehindModel", 343, 15), ("TankBehindModel", 345, 16), ("TankBehindModel", 347, 17), ("TankBehindModel", 427, 18), ("TankBehindModel", 448, 19), ("TankBehindModel", 450, 20), ("TankBehindModel", 473, 21)]
def ztx : Nat → List Int32
  | 1 => [109, 111, 110, 116, 104, 32, 107, 105, 110, 100, 32, 102, 105, 114, 109, 32, 109, 97, 100, 101, 32, 99, 97, 114, 115, 32, 102, 105, 114, 101, 115, 32, 100, 101, 97, 116, 104, 115, 32, 100, 101, 97, 100, 32, 115, 112, 101, 101, 100, 32, 115, 111, 114, 116, 32, 107, 110, 101, 119, 32, 112, 97, 114, 116, 32, 99, 114, 97, 115, 104, 32, 103, 105, 118, 101, 32, 109, 111, 115, 116, 32, 114, 101, 99, 97, 108, 108, 32, 105, 102, 32, 111, 114, 32, 97, 110, 100, 32, 110, 111, 116, 32]
  | 2 => [109, 111, 110, 116, 104]
  | 3 => [107, 105, 110, 100]
  | 4 => [102, 105, 114, 109]
  | 5 => [109, 97, 100, 101]
  | 6 => [99, 97, 114, 115]
  | 7 => [102, 105, 114, 101, 115]
  | 8 => [100, 101, 97, 116, 104, 115]
  | 9 => [100, 101, 97, 100]
  | 10 => [115, 112, 101, 101, 100]
  | 11 => [115, 111, 114, 116]
  | 12 => [107, 110, 101, 119]
  | 13 => [112, 97, 114, 116]
  | 14 => [99, 114, 97, 115, 104]
  | 15 => [103, 105, 118, 101]
  | 16 => [109, 111, 115, 116]
  | 17 => [114, 101, 99, 97, 108, 108]
  | 18 => [110, 111, 116]
  | 19 => [97, 110, 100]
  | 20 => [111, 114]
  | 21 => [105, 102]
  | _ => []
end
section
/-! A SMALL MACHINE: canonical instructions, locals by place, cells by number; 'zR': a run comes to its end, and what it answers and leaves holds of 'ret'. -/
abbrev zC : Type := (Nat × vp_A) ⊕ (Nat × List Value)
abbrev zH : Type := List zC
abbrev zE : Type := Instr × Nat × Nat × Nat × Nat × Value
abbrev zK : Type := List (Option zE)
abbrev zL : Type := List (Option Value)
abbrev zX : Type := Nat → zL → List Value → zH → Nat → Nat → Prop
abbrev zQ : Type := Option Value → zH → Prop
abbrev zM : Type := Nat → List Value → zH → zQ → Prop
/-- a method: its code, its locals, what it returns, how many cells and places it may make -/
abbrev zI : Type := zK × Nat × Option FieldType × Nat × Nat
/-- the program, the texts of its string constants, the script -/
abbrev zG : Type := List zI × (Nat → List Int32) × Nat × (Nat → Int32)
/-- the place before a store: a wide value there is gone -/
def zkp (i : Nat) (x : Option Value) : Option Value := bif i == 0 then (match x with
  | some w => bif w.category == 2 then none else some w
  | none => none) else x
def zst : zL → Nat → Value → zL
  | [], _, _ => []
  | _ :: xs, 0, v => some v :: (bif v.category == 2 then (match xs with
    | [] => []
    | _ :: ys => none :: ys) else xs)
  | x :: xs, i + 1, v => zkp i x :: zst xs i v
def zcond (o : Jvm.ClassFile.Cond) (x y : Int32) : Prop := match o with
  | .eq => x = y
  | .ne => ¬ x = y
  | .lt => x < y
  | .ge => y ≤ x
  | .gt => y < x
  | .le => x ≤ y
def zrf (r : Option Nat) : Value := match r with
  | some a => .ref a
  | none => .null
/-- the places that 'new' makes, by their types -/
def zbud (G : zG) (j : Nat) : Nat × Nat := match G.1[j]? with
  | some i => (i.2.2.2.1, i.2.2.2.2)
  | none => (0, 0)
def zfields (T : Nat → FieldType) (N : Nat) : List Value := (List.range N).map (fun k => defaultValue (T k))
/-- a new array's cell by its kind: 0 int, 1 boolean, 2 byte, 3 long, 4 int[], 5 Car -/
def zarr (k N : Nat) : zC := match k with
  | 3 => .inl (3, N, .inr (.inl (fun _ => 0)))
  | 4 => .inl (4, N, .inr (.inr (.inr (.inr (fun _ => none)))))
  | 5 => .inl (5, N, .inr (.inr (.inr (.inr (fun _ => none)))))
  | k => .inl (k, N, .inl (fun _ => 0))
def zkind (a : ArrayType) : Nat := match a with
  | .int => 0
  | .boolean => 1
  | .byte => 2
  | .long => 3
  | _ => 9
def zrows (q N K : Nat) : zH := .inl (4, N, .inr (.inr (.inr (.inr (fun i => if i < N then some (q + 1 + i) else none))))) :: List.replicate N (.inl (0, K, .inl (fun _ => 0)))
/-- the types of the fields of each class -/
def zcls (tt : List ((Nat → FieldType) × Nat × (Nat → Bool))) (k : Nat) : List Value := match tt[k]? with
  | some (T, N, _) => zfields T N
  | none => []
section ZM
variable (tt : List ((Nat → FieldType) × Nat × (Nat → Bool))) (G : zG) (bc bs : Nat) (rt : Option FieldType) (M : zM) (ret : zQ) (X : zX)
/-- instructions of numbers, the stack and the locals -/
def zex1 (e : zE) (L : zL) (st : List Value) (h : zH) (c n : Nat) : Prop := match e with
  | (ins, nx, a, b, d, v) => match ins with
    | .aconst_null => X nx L (v :: st) h c n
    | .iload _ => match L.getD a none with
      | some (.int x) => X nx L (.int x :: st) h c n
      | _ => False
    | .lload _ => match L.getD a none with
      | some (.long x) => X nx L (.long x :: st) h c n
      | _ => False
    | .aload _ => match L.getD a none with
      | some (.ref x) => X nx L (.ref x :: st) h c n
      | some .null => X nx L (.null :: st) h c n
      | some (.retAddr x) => X nx L (.retAddr x :: st) h c n
      | _ => False
    | .istore _ => match st with
      | .int x :: s => a < L.length ∧ X nx (zst L a (.int x)) s h c n
      | _ => False
    | .lstore _ => match st with
      | .long x :: s => a + 1 < L.length ∧ X nx (zst L a (.long x)) s h c n
      | _ => False
    | .astore _ => match st with
      | .ref x :: s => a < L.length ∧ X nx (zst L a (.ref x)) s h c n
      | .null :: s => a < L.length ∧ X nx (zst L a .null) s h c n
      | .retAddr x :: s => a < L.length ∧ X nx (zst L a (.retAddr x)) s h c n
      | _ => False
    | .iinc _ _ => match L.getD a none, v with
      | some (.int x), .int y => a < L.length ∧ X nx (zst L a (.int (x + y))) st h c n
      | _, _ => False
    | .pop => match st with
      | w :: s => w.category = 1 ∧ X nx L s h c n
      | [] => False
    | .dup => match st with
      | w :: s => w.category = 1 ∧ X nx L (w :: w :: s) h c n
      | [] => False
    | .dup_x1 => match st with
      | w :: w2 :: s => w.category = 1 ∧ w2.category = 1 ∧ X nx L (w :: w2 :: w :: s) h c n
      | _ => False
    | .dup2 => match st with
      | w :: w2 :: s => w.category = 1 ∧ w2.category = 1 ∧ X nx L (w :: w2 :: w :: w2 :: s) h c n
      | _ => False
    | .dup2_x1 => match st with
      | w :: s => w.category = 2 ∧ X nx L (w :: w :: s) h c n
      | _ => False
    | .iadd => match st with
      | .int y :: .int x :: s => X nx L (.int (x + y) :: s) h c n
      | _ => False
    | .isub => match st with
      | .int y :: .int x :: s => X nx L (.int (x - y) :: s) h c n
      | _ => False
    | .imul => match st with
      | .int y :: .int x :: s => X nx L (.int (x * y) :: s) h c n
      | _ => False
    | .idiv => match st with
      | .int y :: .int x :: s => ¬ y = 0 ∧ X nx L (.int (x / y) :: s) h c n
      | _ => False
    | .iand => match st with
      | .int y :: .int x :: s => X nx L (.int (x &&& y) :: s) h c n
      | _ => False
    | .ior => match st with
      | .int y :: .int x :: s => X nx L (.int (x ||| y) :: s) h c n
      | _ => False
    | .ishl => match st with
      | .int y :: .int x :: s => X nx L (.int (x <<< (y &&& 31)) :: s) h c n
      | _ => False
    | .ishr => match st with
      | .int y :: .int x :: s => X nx L (.int (x >>> (y &&& 31)) :: s) h c n
      | _ => False
    | .ladd => match st with
      | .long y :: .long x :: s => X nx L (.long (x + y) :: s) h c n
      | _ => False
    | .lsub => match st with
      | .long y :: .long x :: s => X nx L (.long (x - y) :: s) h c n
      | _ => False
    | .lmul => match st with
      | .long y :: .long x :: s => X nx L (.long (x * y) :: s) h c n
      | _ => False
    | .ldiv => match st with
      | .long y :: .long x :: s => ¬ y = 0 ∧ X nx L (.long (x / y) :: s) h c n
      | _ => False
    | .lrem => match st with
      | .long y :: .long x :: s => ¬ y = 0 ∧ X nx L (.long (x - x / y * y) :: s) h c n
      | _ => False
    | .lneg => match st with
      | .long x :: s => X nx L (.long (-x) :: s) h c n
      | _ => False
    | .land => match st with
      | .long y :: .long x :: s => X nx L (.long (x &&& y) :: s) h c n
      | _ => False
    | .lor => match st with
      | .long y :: .long x :: s => X nx L (.long (x ||| y) :: s) h c n
      | _ => False
    | .lxor => match st with
      | .long y :: .long x :: s => X nx L (.long (x ^^^ y) :: s) h c n
      | _ => False
    | .lshl => match st with
      | .int y :: .long x :: s => X nx L (.long (x <<< (y.toInt64 &&& 63)) :: s) h c n
      | _ => False
    | .lshr => match st with
      | .int y :: .long x :: s => X nx L (.long (x >>> (y.toInt64 &&& 63)) :: s) h c n
      | _ => False
    | .lcmp => match st with
      | .long y :: .long x :: s => X nx L (.int (lg_cmp x y) :: s) h c n
      | _ => False
    | .i2l => match st with
      | .int x :: s => X nx L (.long x.toInt64 :: s) h c n
      | _ => False
    | .l2i => match st with
      | .long x :: s => X nx L (.int x.toInt32 :: s) h c n
      | _ => False
    | .i2b => match st with
      | .int x :: s => X nx L (.int x.toInt8.toInt32 :: s) h c n
      | _ => False
    | .fadd => match st with
      | .int y :: .int x :: s => (s.map fun v => v.category).sum ≤ 8 ∧ X nx L (.int (if x < y then y else x) :: s) h c n
      | _ => False
    | .fsub => match st with
      | .int y :: .int x :: s => (s.map fun v => v.category).sum ≤ 8 ∧ X nx L (.int (if y < x then y else x) :: s) h c n
      | _ => False
    | .dadd => match st with
      | .long y :: .long x :: s => (s.map fun v => v.category).sum ≤ 8 ∧ X nx L (.long (if y < x then x else y) :: s) h c n
      | _ => False
    | .dsub => match st with
      | .long y :: .long x :: s => (s.map fun v => v.category).sum ≤ 8 ∧ X nx L (.long (if y < x then y else x) :: s) h c n
      | _ => False
    | .ddiv => match st with
      | .long y :: .long x :: s => ¬ y = 0 ∧ (s.map fun v => v.category).sum ≤ 8 ∧ X nx L (.long (if (x ^^^ y) < 0 ∧ ¬ x / y * y = x then x / y - 1 else x / y) :: s) h c n
      | _ => False
    | .drem => match st with
      | w :: s => w.category = 2 ∧ X nx L s h c n
      | [] => False
    | .goto _ => X a L st h c n
    | .ifCond o _ => match st with
      | .int x :: s => (zcond o x 0 → X a L s h c n) ∧ (¬ zcond o x 0 → X nx L s h c n)
      | _ => False
    | .if_icmp o _ => match st with
      | .int y :: .int x :: s => (zcond o x y → X a L s h c n) ∧ (¬ zcond o x y → X nx L s h c n)
      | _ => False
    | .ifnull _ => match st with
      | .null :: s => X a L s h c n
      | .ref _ :: s => X nx L s h c n
      | _ => False
    | .ifnonnull _ => match st with
      | .null :: s => X nx L s h c n
      | .ref _ :: s => X a L s h c n
      | _ => False
    | _ => False
/-- instructions of cells, calls, ends -/
def zex2 (e : zE) (L : zL) (st : List Value) (h : zH) (c n : Nat) : Prop := match e with
  | (ins, nx, a, b, d, v) => match ins with
    | .tableswitch df lo hi tg => match st with
      | .int x :: s => ((x.toInt < lo ∨ hi < x.toInt) → X df.toNat L s h c n) ∧ (¬ x.toInt < lo → ¬ hi < x.toInt → ∃ t : Int, tg[(x.toInt - lo).toNat]? = some t ∧ X t.toNat L s h c n)
      | _ => False
    | .lookupswitch df ps => match st with
      | .int x :: s => X (Op.lookupswitch.offset ps.toList df x.toInt).toNat L s h c n
      | _ => False
    | .iaload => match st with
      | .int i :: .ref r :: s => ∃ (N : Nat) (f : Nat → Int32), h[r]? = some (.inl (0, N, .inl f)) ∧ vp_in i N ∧ X nx L (.int (f i.toNatClampNeg) :: s) h c n
      | _ => False
    | .baload => match st with
      | .int i :: .ref r :: s => ∃ (k N : Nat) (f : Nat → Int32), (k = 1 ∨ k = 2) ∧ h[r]? = some (.inl (k, N, .inl f)) ∧ vp_in i N ∧ X nx L (.int (f i.toNatClampNeg) :: s) h c n
      | _ => False
    | .laload => match st with
      | .int i :: .ref r :: s => ∃ (N : Nat) (f : Nat → Int64), h[r]? = some (.inl (3, N, .inr (.inl f))) ∧ vp_in i N ∧ X nx L (.long (f i.toNatClampNeg) :: s) h c n
      | _ => False
    | .aaload => match st with
      | .int i :: .ref r :: s => ∃ (k N : Nat) (f : Nat → Option Nat), (k = 4 ∨ k = 5) ∧ h[r]? = some (.inl (k, N, .inr (.inr (.inr (.inr f))))) ∧ vp_in i N ∧ X nx L (zrf (f i.toNatClampNeg) :: s) h c n
      | _ => False
    | .saload => match st with
      | .int i :: .retAddr 0 :: s => vp_in i G.2.2.1 ∧ X nx L (.int (G.2.2.2 i.toNatClampNeg) :: s) h c n
      | _ => False
    | .i2s => match st with
      | .retAddr 0 :: s => X nx L (.int (Int32.ofNat G.2.2.1) :: s) h c n
      | _ => False
    | .iastore => match st with
      | .int x :: .int i :: .ref r :: s => ∃ (N : Nat) (f : Nat → Int32), h[r]? = some (.inl (0, N, .inl f)) ∧ vp_in i N ∧ X nx L s (h.set r (.inl (0, N, .inl (upd f i.toNatClampNeg x)))) c n
      | _ => False
    | .bastore => match st with
      | .int x :: .int i :: .ref r :: s => ∃ (k N : Nat) (f : Nat → Int32), (k = 1 ∨ k = 2) ∧ h[r]? = some (.inl (k, N, .inl f)) ∧ vp_in i N ∧ X nx L s (h.set r (.inl (k, N, .inl (upd f i.toNatClampNeg (vp_nar (if k = 1 then .boolean else .byte) x))))) c n
      | _ => False
    | .lastore => match st with
      | .long x :: .int i :: .ref r :: s => ∃ (N : Nat) (f : Nat → Int64), h[r]? = some (.inl (3, N, .inr (.inl f))) ∧ vp_in i N ∧ X nx L s (h.set r (.inl (3, N, .inr (.inl (vp_updL f i.toNatClampNeg x))))) c n
      | _ => False
    | .aastore => match st with
      | .ref y :: .int i :: .ref r :: s => ∃ (k N : Nat) (f : Nat → Option Nat), ((k = 4 ∧ ∃ (K : Nat) (g : Nat → Int32), h[y]? = some (.inl (0, K, .inl g))) ∨ (k = 5 ∧ ∃ fs : List Value, h[y]? = some (.inr (d, fs)))) ∧ h[r]? = some (.inl (k, N, .inr (.inr (.inr (.inr f))))) ∧ vp_in i N ∧ X nx L s (h.set r (.inl (k, N, .inr (.inr (.inr (.inr (va_up f i.toNatClampNeg (some y)))))))) c n
      | _ => False
    | .sastore => match st with
      | .int m :: .int dp :: .ref y :: .int sp :: .ref r :: s => ∃ (N K : Nat) (f g : Nat → Int32), h[r]? = some (.inl (0, N, .inl f)) ∧ h[y]? = some (.inl (0, K, .inl g)) ∧ (sp = 0 ∧ dp = 0 ∧ ¬ m < 0 ∧ m.toNatClampNeg ≤ N ∧ m.toNatClampNeg ≤ K ∧ (s.map fun v => v.category).sum ≤ 8) ∧ X nx L s (h.set y (.inl (0, K, .inl (va_cpy f g 0 0 m.toNatClampNeg)))) c n
      | _ => False
    | .castore => match st with
      | .ref r :: s => ∃ (N : Nat) (f : Nat → Int32), h[r]? = some (.inl (0, N, .inl f)) ∧ ((s.map fun v => v.category).sum ≤ 8 ∧ c + 1 ≤ bc ∧ n + N ≤ bs) ∧ X nx L (.ref h.length :: s) (h ++ [.inl (0, N, .inl f)]) (c + 1) (n + N)
      | _ => False
    | .fmul => match st with
      | .ref r :: s => ∃ (N : Nat) (f : Nat → Int32), h[r]? = some (.inl (0, N, .inl f)) ∧ True ∧ X nx L (.ref r :: s) h c n
      | _ => False
    | .arraylength => match st with
      | .ref r :: s => ∃ (k N : Nat) (x : (Nat → Int32) ⊕ (Nat → Int64) ⊕ (Nat → UInt32) ⊕ (Nat → UInt64) ⊕ (Nat → Option Nat)), k < 6 ∧ h[r]? = some (.inl (k, N, x)) ∧ X nx L (.int (Int32.ofNat N) :: s) h c n
      | _ => False
    | .newarray at0 => match st with
      | .int x :: s => ¬ x < 0 ∧ x.toNatClampNeg ≤ 10000 ∧ c + 1 ≤ bc ∧ n + x.toNatClampNeg ≤ bs ∧ zkind at0 < 4 ∧ X nx L (.ref h.length :: s) (h ++ [zarr (zkind at0) x.toNatClampNeg]) (c + 1) (n + x.toNatClampNeg)
      | _ => False
    | .anewarray _ => match st with
      | .int x :: s => ¬ x < 0 ∧ x.toNatClampNeg ≤ 10000 ∧ c + 1 ≤ bc ∧ n + x.toNatClampNeg ≤ bs ∧ (a = 4 ∨ a = 5) ∧ X nx L (.ref h.length :: s) (h ++ [zarr a x.toNatClampNeg]) (c + 1) (n + x.toNatClampNeg)
      | _ => False
    | .multianewarray _ _ => match st with
      | .int y :: .int x :: s => ¬ x < 0 ∧ ¬ y < 0 ∧ x.toNatClampNeg ≤ 10000 ∧ y.toNatClampNeg ≤ 10000 ∧ c + (1 + x.toNatClampNeg) ≤ bc ∧ n + (x.toNatClampNeg + x.toNatClampNeg * y.toNatClampNeg) ≤ bs ∧ X nx L (.ref h.length :: s) (h ++ zrows h.length x.toNatClampNeg y.toNatClampNeg) (c + 1 + x.toNatClampNeg) (n + x.toNatClampNeg + x.toNatClampNeg * y.toNatClampNeg)
      | _ => False
    | .new _ => c + 1 ≤ bc ∧ n + (zcls tt a).length ≤ bs ∧ X nx L (.ref h.length :: st) (h ++ [.inr (a, zcls tt a)]) (c + 1) (n + (zcls tt a).length)
    | .getfield _ => match st with
      | .ref r :: s => ∃ (fs : List Value) (w : Value), h[r]? = some (.inr (a, fs)) ∧ fs[b]? = some w ∧ X nx L (w :: s) h c n
      | _ => False
    | .putfield _ => match st with
      | w :: .ref r :: s => ∃ (fs : List Value) (t : FieldType), h[r]? = some (.inr (a, fs)) ∧ b < fs.length ∧ (tt[a]?).map (fun q => q.1 b) = some t ∧ narrow t w = w ∧ fits t w = true ∧ X nx L s (h.set r (.inr (a, fs.set b w))) c n
      | _ => False
    | .pop2 => match st with
      | .ref _ :: s => (s.map fun v => v.category).sum ≤ 8 ∧ X nx L s h c n
      | _ => False
    | .invokevirtual _ => match st.drop b with
      | .ref r :: s => (st.take b).length = b ∧ (∃ fs : List Value, h[r]? = some (.inr (d, fs))) ∧ (s.map fun v => v.category).sum ≤ 8 ∧ c + (zbud G a).1 ≤ bc ∧ n + (zbud G a).2 ≤ bs ∧ M a (.ref r :: (st.take b).reverse) h (fun w h2 => X nx L (w.toList ++ s) h2 (c + (zbud G a).1) (n + (zbud G a).2))
      | _ => False
    | .invokespecial _ => match st.drop b with
      | .ref r :: s => (st.take b).length = b ∧ (s.map fun v => v.category).sum ≤ 8 ∧ c + (zbud G a).1 ≤ bc ∧ n + (zbud G a).2 ≤ bs ∧ M a (.ref r :: (st.take b).reverse) h (fun w h2 => X nx L (w.toList ++ s) h2 (c + (zbud G a).1) (n + (zbud G a).2))
      | _ => False
    | .invokestatic _ => (st.take b).length = b ∧ ((st.drop b).map fun v => v.category).sum ≤ 8 ∧ c + (zbud G a).1 ≤ bc ∧ n + (zbud G a).2 ≤ bs ∧ M a (st.take b).reverse h (fun w h2 => X nx L (w.toList ++ st.drop b) h2 (c + (zbud G a).1) (n + (zbud G a).2))
    | .ireturn => match st with
      | [.int x] => (∃ t : FieldType, rt = some t ∧ narrow t (.int x) = .int x) ∧ ret (some (.int x)) h
      | _ => False
    | .lreturn => match st with
      | [.long x] => rt = some .long ∧ ret (some (.long x)) h
      | _ => False
    | .areturn => match st with
      | [.ref x] => (∃ t : FieldType, rt = some t ∧ fits t .null = true) ∧ ret (some (.ref x)) h
      | [.null] => (∃ t : FieldType, rt = some t ∧ fits t .null = true) ∧ ret (some .null) h
      | [.retAddr x] => (∃ t : FieldType, rt = some t ∧ fits t .null = true) ∧ ret (some (.retAddr x)) h
      | _ => False
    | .return_ => match st with
      | [] => rt = none ∧ ret none h
      | _ => False
    | .caload => match st with
      | .int i :: .retAddr k :: s => vp_in i (G.2.1 k).length ∧ (s.map fun v => v.category).sum ≤ 8 ∧ X nx L (.int ((G.2.1 k).getD i.toNatClampNeg 0) :: s) h c n
      | _ => False
    | .i2c => match st with
      | .retAddr k :: s => 0 < (G.2.1 k).length ∧ (s.map fun v => v.category).sum ≤ 8 ∧ X nx L (.int (Int32.ofNat (G.2.1 k).length) :: s) h c n
      | _ => False
    | _ => False
def zex (e : zE) (L : zL) (st : List Value) (h : zH) (c n : Nat) : Prop := zex1 X e L st h c n ∨ zex2 tt G bc bs rt M ret X e L st h c n
def zstep (cd : zK) (pc : Nat) (L : zL) (st : List Value) (h : zH) (c n : Nat) : Prop := match cd[pc]? with
  | some (some e) => zex tt G bc bs rt M ret X e L st h c n
  | _ => False
end ZM
abbrev zT : Type := List ((Nat → FieldType) × Nat × (Nat → Bool))
/-- a run from here comes to its end: the least such -/
def zR (tt : zT) (G : zG) (cd : zK) (bc bs : Nat) (rt : Option FieldType) (M : zM) (ret : zQ) (pc : Nat) (L : zL) (st : List Value) (h : zH) (c n : Nat) : Prop :=
  ∀ X : zX, (∀ pc L st h c n, zstep tt G bc bs rt M ret X cd pc L st h c n → X pc L st h c n) → X pc L st h c n
def zmono (M : zM) : Prop := ∀ (j : Nat) (as : List Value) (h : zH) (Q Q' : zQ), (∀ w h2, Q w h2 → Q' w h2) → M j as h Q → M j as h Q'
def zargs : List Value → zL
  | [] => []
  | v :: vs => bif v.category == 2 then some v :: none :: zargs vs else some v :: zargs vs
def zentry (as : List Value) (nL : Nat) : zL := zargs as ++ List.replicate (nL - (zargs as).length) none
def zW (tt : zT) (G : zG) : Nat → zM
  | 0 => fun _ _ _ _ => False
  | d + 1 => fun j as h Q => match G.1[j]? with
    | some (cd, nL, rt, bc, bs) => (zargs as).length ≤ nL ∧ zR tt G cd bc bs rt (zW tt G d) Q 0 (zentry as nL) [] h 0 0
    | none => False
end
section
theorem zex1_mono {X Y : zX} (hXY : ∀ pc L st h c n, X pc L st h c n → Y pc L st h c n) {e : zE} {L : zL} {st : List Value} {h : zH} {c n : Nat} : zex1 X e L st h c n → zex1 Y e L st h c n := by
  obtain ⟨ins, nx, a, b, d, v⟩ := e
  unfold zex1
  cases ins <;> dsimp only <;> (try split) <;> first
    | exact fun q => q
    | exact fun q => hXY _ _ _ _ _ _ q
    | exact fun q => ⟨q.1, hXY _ _ _ _ _ _ q.2⟩
    | exact fun q => ⟨q.1, q.2.1, hXY _ _ _ _ _ _ q.2.2⟩
    | exact fun q => ⟨fun z => hXY _ _ _ _ _ _ (q.1 z), fun z => hXY _ _ _ _ _ _ (q.2 z)⟩
theorem zex2_mono {tt : zT} {G : zG} {bc bs : Nat} {rt : Option FieldType} {M : zM} {ret ret2 : zQ} (hM : zmono M) (hr : ∀ w h, ret w h → ret2 w h) {X Y : zX} (hXY : ∀ pc L st h c n, X pc L st h c n → Y pc L st h c n) {e : zE} {L : zL} {st : List Value} {h : zH} {c n : Nat} : zex2 tt G bc bs rt M ret X e L st h c n → zex2 tt G bc bs rt M ret2 Y e L st h c n := by
  obtain ⟨ins, nx, a, b, d, v⟩ := e
  unfold zex2
  cases ins <;> dsimp only <;> (try split) <;> first
    | exact fun q => q
    | exact fun q => hXY _ _ _ _ _ _ q
    | exact fun q => ⟨q.1, hXY _ _ _ _ _ _ q.2⟩
    | exact fun q => ⟨q.1, hr _ _ q.2⟩
    | exact fun q => ⟨q.1, q.2.1, hXY _ _ _ _ _ _ q.2.2⟩
    | exact fun q => ⟨q.1, q.2.1, q.2.2.1, q.2.2.2.1, q.2.2.2.2.1, hXY _ _ _ _ _ _ q.2.2.2.2.2⟩
    | exact fun q => ⟨q.1, q.2.1, q.2.2.1, q.2.2.2.1, q.2.2.2.2.1, q.2.2.2.2.2.1, hXY _ _ _ _ _ _ q.2.2.2.2.2.2⟩
    | exact fun ⟨N, f, q⟩ => ⟨N, f, q.1, q.2.1, hXY _ _ _ _ _ _ q.2.2⟩
    | exact fun ⟨N, K, f, g, q⟩ => ⟨N, K, f, g, q.1, q.2.1, q.2.2.1, hXY _ _ _ _ _ _ q.2.2.2⟩
    | exact fun ⟨k, N, f, q⟩ => ⟨k, N, f, q.1, q.2.1, hXY _ _ _ _ _ _ q.2.2⟩
    | exact fun ⟨k, N, f, q⟩ => ⟨k, N, f, q.1, q.2.1, q.2.2.1, hXY _ _ _ _ _ _ q.2.2.2⟩
    | exact fun ⟨fs, t, q⟩ => ⟨fs, t, q.1, q.2.1, q.2.2.1, q.2.2.2.1, q.2.2.2.2.1, hXY _ _ _ _ _ _ q.2.2.2.2.2⟩
    | exact fun q => ⟨fun z => hXY _ _ _ _ _ _ (q.1 z), fun z1 z2 => (q.2 z1 z2).imp fun t w => ⟨w.1, hXY _ _ _ _ _ _ w.2⟩⟩
    | exact fun q => ⟨q.1, q.2.1, q.2.2.1, q.2.2.2.1, q.2.2.2.2.1, hM _ _ _ _ _ (fun w h2 z => hXY _ _ _ _ _ _ z) q.2.2.2.2.2⟩
    | exact fun q => ⟨q.1, q.2.1, q.2.2.1, q.2.2.2.1, hM _ _ _ _ _ (fun w h2 z => hXY _ _ _ _ _ _ z) q.2.2.2.2⟩
section ZR
variable {tt : zT} {G : zG} {cd : zK} {bc bs : Nat} {rt : Option FieldType} {M : zM} {ret : zQ} {pc : Nat} {L : zL} {st : List Value} {h : zH} {c n : Nat}
theorem zstep_mono (hM : zmono M) {ret2 : zQ} (hr : ∀ w h, ret w h → ret2 w h) {X Y : zX} (hXY : ∀ pc L st h c n, X pc L st h c n → Y pc L st h c n) : zstep tt G bc bs rt M ret X cd pc L st h c n → zstep tt G bc bs rt M ret2 Y cd pc L st h c n := by
  unfold zstep zex
  split
  · exact fun q => q.elim (fun z => Or.inl (zex1_mono hXY z)) (fun z => Or.inr (zex2_mono hM hr hXY z))
  · exact fun q => q
theorem zR.step (hM : zmono M) (k : zstep tt G bc bs rt M ret (zR tt G cd bc bs rt M ret) cd pc L st h c n) : zR tt G cd bc bs rt M ret pc L st h c n :=
  fun X hX => hX _ _ _ _ _ _ (zstep_mono hM (fun _ _ z => z) (fun _ _ _ _ _ _ q => q X hX) k)
theorem zR_post {ret2 : zQ} (hM : zmono M) (hr : ∀ w h, ret w h → ret2 w h) (k : zR tt G cd bc bs rt M ret pc L st h c n) : zR tt G cd bc bs rt M ret2 pc L st h c n :=
  k (zR tt G cd bc bs rt M ret2) (fun _ _ _ _ _ _ q => zR.step hM (zstep_mono hM hr (fun _ _ _ _ _ _ z => z) q))
end ZR
theorem zW_mono (tt : zT) (G : zG) : ∀ d : Nat, zmono (zW tt G d)
  | 0 => fun _ _ _ _ _ _ q => q
  | d + 1 => by
    intro j as h Q Q' hq k
    unfold zW at k ⊢
    split at k
    · exact ⟨k.1, zR_post (zW_mono tt G d) hq k.2⟩
    · exact k
end
section
section ZROWS
variable {tt : zT} {G : zG} {cd : zK} {bc bs : Nat} {rt : Option FieldType} {M : zM} {ret : zQ} {pc nx a b d : Nat} {v : Value} {L : zL} {s : List Value} {h : zH} {c n : Nat}
theorem r_push  (hM : zmono M) (hc : cd[pc]? = some (some (.aconst_null, nx, a, b, d, v)))  (k : zR tt G cd bc bs rt M ret nx L (v :: s) h c n) : zR tt G cd bc bs rt M ret pc L s h c n := zR.step hM (by unfold zstep; rw [hc]; exact Or.inl k)
theorem r_iload {i : Nat} {x : Int32} (hM : zmono M) (hc : cd[pc]? = some (some (.iload i, nx, a, b, d, v))) (hl : L.getD a none = some (.int x)) (k : zR tt G cd bc bs rt M ret nx L ((.int x) :: s) h c n) : zR tt G cd bc bs rt M ret pc L s h c n := zR.step hM (by unfold zstep; rw [hc]; refine Or.inl ?_; unfold zex1; dsimp only; rw [hl]; exact k)
theorem r_lload {i : Nat} {x : Int64} (hM : zmono M) (hc : cd[pc]? = some (some (.lload i, nx, a, b, d, v))) (hl : L.getD a none = some (.long x)) (k : zR tt G cd bc bs rt M ret nx L ((.long x) :: s) h c n) : zR tt G cd bc bs rt M ret pc L s h c n := zR.step hM (by unfold zstep; rw [hc]; refine Or.inl ?_; unfold zex1; dsimp only; rw [hl]; exact k)
theorem r_aload {i : Nat} {x : Nat} (hM : zmono M) (hc : cd[pc]? = some (some (.aload i, nx, a, b, d, v))) (hl : L.getD a none = some (.ref x)) (k : zR tt G cd bc bs rt M ret nx L ((.ref x) :: s) h c n) : zR tt G cd bc bs rt M ret pc L s h c n := zR.step hM (by unfold zstep; rw [hc]; refine Or.inl ?_; unfold zex1; dsimp only; rw [hl]; exact k)
theorem r_aloadN {i : Nat}  (hM : zmono M) (hc : cd[pc]? = some (some (.aload i, nx, a, b, d, v))) (hl : L.getD a none = some (.null)) (k : zR tt G cd bc bs rt M ret nx L ((.null) :: s) h c n) : zR tt G cd bc bs rt M ret pc L s h c n := zR.step hM (by unfold zstep; rw [hc]; refine Or.inl ?_; unfold zex1; dsimp only; rw [hl]; exact k)
theorem r_aloadS {i : Nat} {x : Nat} (hM : zmono M) (hc : cd[pc]? = some (some (.aload i, nx, a, b, d, v))) (hl : L.getD a none = some (.retAddr x)) (k : zR tt G cd bc bs rt M ret nx L ((.retAddr x) :: s) h c n) : zR tt G cd bc bs rt M ret pc L s h c n := zR.step hM (by unfold zstep; rw [hc]; refine Or.inl ?_; unfold zex1; dsimp only; rw [hl]; exact k)
theorem r_istore {i : Nat} {x : Int32} (hM : zmono M) (hc : cd[pc]? = some (some (.istore i, nx, a, b, d, v))) (hl : a < L.length) (k : zR tt G cd bc bs rt M ret nx (zst L a (.int x)) (s) h c n) : zR tt G cd bc bs rt M ret pc L ((.int x) :: s) h c n := zR.step hM (by unfold zstep; rw [hc]; exact Or.inl ⟨hl, k⟩)
theorem r_astore {i : Nat} {x : Nat} (hM : zmono M) (hc : cd[pc]? = some (some (.astore i, nx, a, b, d, v))) (hl : a < L.length) (k : zR tt G cd bc bs rt M ret nx (zst L a (.ref x)) (s) h c n) : zR tt G cd bc bs rt M ret pc L ((.ref x) :: s) h c n := zR.step hM (by unfold zstep; rw [hc]; exact Or.inl ⟨hl, k⟩)
theorem r_astoreN {i : Nat}  (hM : zmono M) (hc : cd[pc]? = some (some (.astore i, nx, a, b, d, v))) (hl : a < L.length) (k : zR tt G cd bc bs rt M ret nx (zst L a (.null)) (s) h c n) : zR tt G cd bc bs rt M ret pc L ((.null) :: s) h c n := zR.step hM (by unfold zstep; rw [hc]; exact Or.inl ⟨hl, k⟩)
theorem r_astoreS {i : Nat} {x : Nat} (hM : zmono M) (hc : cd[pc]? = some (some (.astore i, nx, a, b, d, v))) (hl : a < L.length) (k : zR tt G cd bc bs rt M ret nx (zst L a (.retAddr x)) (s) h c n) : zR tt G cd bc bs rt M ret pc L ((.retAddr x) :: s) h c n := zR.step hM (by unfold zstep; rw [hc]; exact Or.inl ⟨hl, k⟩)
theorem r_lstore {i : Nat} {x : Int64} (hM : zmono M) (hc : cd[pc]? = some (some (.lstore i, nx, a, b, d, v))) (hl : a + 1 < L.length) (k : zR tt G cd bc bs rt M ret nx (zst L a (.long x)) (s) h c n) : zR tt G cd bc bs rt M ret pc L (.long x :: s) h c n := zR.step hM (by unfold zstep; rw [hc]; exact Or.inl ⟨hl, k⟩)
theorem r_iinc {i : Nat} {z : Int} {x y : Int32} (hM : zmono M) (hc : cd[pc]? = some (some (.iinc i z, nx, a, b, d, .int y))) (hl : L.getD a none = some (.int x)) (hn : a < L.length) (k : zR tt G cd bc bs rt M ret nx (zst L a (.int (x + y))) (s) h c n) : zR tt G cd bc bs rt M ret pc L s h c n := zR.step hM (by unfold zstep; rw [hc]; refine Or.inl ?_; unfold zex1; dsimp only; rw [hl]; exact ⟨hn, k⟩)
theorem r_pop {w : Value} (hM : zmono M) (hc : cd[pc]? = some (some (.pop, nx, a, b, d, v))) (hw : w.category = 1) (k : zR tt G cd bc bs rt M ret nx L (s) h c n) : zR tt G cd bc bs rt M ret pc L (w :: s) h c n := zR.step hM (by unfold zstep; rw [hc]; exact Or.inl ⟨hw, k⟩)
theorem r_dup {w : Value} (hM : zmono M) (hc : cd[pc]? = some (some (.dup, nx, a, b, d, v))) (hw : w.category = 1) (k : zR tt G cd bc bs rt M ret nx L (w :: w :: s) h c n) : zR tt G cd bc bs rt M ret pc L (w :: s) h c n := zR.step hM (by unfold zstep; rw [hc]; exact Or.inl ⟨hw, k⟩)
theorem r_dup_x1 {w w2 : Value} (hM : zmono M) (hc : cd[pc]? = some (some (.dup_x1, nx, a, b, d, v))) (hw : w.category = 1) (hw2 : w2.category = 1) (k : zR tt G cd bc bs rt M ret nx L (w :: w2 :: w :: s) h c n) : zR tt G cd bc bs rt M ret pc L (w :: w2 :: s) h c n := zR.step hM (by unfold zstep; rw [hc]; exact Or.inl ⟨hw, hw2, k⟩)
theorem r_dup2 {w w2 : Value} (hM : zmono M) (hc : cd[pc]? = some (some (.dup2, nx, a, b, d, v))) (hw : w.category = 1) (hw2 : w2.category = 1) (k : zR tt G cd bc bs rt M ret nx L (w :: w2 :: w :: w2 :: s) h c n) : zR tt G cd bc bs rt M ret pc L (w :: w2 :: s) h c n := zR.step hM (by unfold zstep; rw [hc]; exact Or.inl ⟨hw, hw2, k⟩)
theorem r_dupl {w : Value} (hM : zmono M) (hc : cd[pc]? = some (some (.dup2_x1, nx, a, b, d, v))) (hw : w.category = 2) (k : zR tt G cd bc bs rt M ret nx L (w :: w :: s) h c n) : zR tt G cd bc bs rt M ret pc L (w :: s) h c n := zR.step hM (by unfold zstep; rw [hc]; exact Or.inl ⟨hw, k⟩)
theorem r_iadd {x y : Int32} (hM : zmono M) (hc : cd[pc]? = some (some (.iadd, nx, a, b, d, v)))  (k : zR tt G cd bc bs rt M ret nx L (.int (x + y) :: s) h c n) : zR tt G cd bc bs rt M ret pc L (.int y :: .int x :: s) h c n := zR.step hM (by unfold zstep; rw [hc]; exact Or.inl k)
theorem r_isub {x y : Int32} (hM : zmono M) (hc : cd[pc]? = some (some (.isub, nx, a, b, d, v)))  (k : zR tt G cd bc bs rt M ret nx L (.int (x - y) :: s) h c n) : zR tt G cd bc bs rt M ret pc L (.int y :: .int x :: s) h c n := zR.step hM (by unfold zstep; rw [hc]; exact Or.inl k)
theorem r_imul {x y : Int32} (hM : zmono M) (hc : cd[pc]? = some (some (.imul, nx, a, b, d, v)))  (k : zR tt G cd bc bs rt M ret nx L (.int (x * y) :: s) h c n) : zR tt G cd bc bs rt M ret pc L (.int y :: .int x :: s) h c n := zR.step hM (by unfold zstep; rw [hc]; exact Or.inl k)
theorem r_iand {x y : Int32} (hM : zmono M) (hc : cd[pc]? = some (some (.iand, nx, a, b, d, v)))  (k : zR tt G cd bc bs rt M ret nx L (.int (x &&& y) :: s) h c n) : zR tt G cd bc bs rt M ret pc L (.int y :: .int x :: s) h c n := zR.step hM (by unfold zstep; rw [hc]; exact Or.inl k)
theorem r_ior {x y : Int32} (hM : zmono M) (hc : cd[pc]? = some (some (.ior, nx, a, b, d, v)))  (k : zR tt G cd bc bs rt M ret nx L (.int (x ||| y) :: s) h c n) : zR tt G cd bc bs rt M ret pc L (.int y :: .int x :: s) h c n := zR.step hM (by unfold zstep; rw [hc]; exact Or.inl k)
theorem r_ishl {x y : Int32} (hM : zmono M) (hc : cd[pc]? = some (some (.ishl, nx, a, b, d, v)))  (k : zR tt G cd bc bs rt M ret nx L (.int (x <<< (y &&& 31)) :: s) h c n) : zR tt G cd bc bs rt M ret pc L (.int y :: .int x :: s) h c n := zR.step hM (by unfold zstep; rw [hc]; exact Or.inl k)
theorem r_ishr {x y : Int32} (hM : zmono M) (hc : cd[pc]? = some (some (.ishr, nx, a, b, d, v)))  (k : zR tt G cd bc bs rt M ret nx L (.int (x >>> (y &&& 31)) :: s) h c n) : zR tt G cd bc bs rt M ret pc L (.int y :: .int x :: s) h c n := zR.step hM (by unfold zstep; rw [hc]; exact Or.inl k)
theorem r_idiv {x y : Int32} (hM : zmono M) (hc : cd[pc]? = some (some (.idiv, nx, a, b, d, v))) (hy : ¬ y = 0) (k : zR tt G cd bc bs rt M ret nx L (.int (x / y) :: s) h c n) : zR tt G cd bc bs rt M ret pc L (.int y :: .int x :: s) h c n := zR.step hM (by unfold zstep; rw [hc]; exact Or.inl ⟨hy, k⟩)
theorem r_ladd {x y : Int64} (hM : zmono M) (hc : cd[pc]? = some (some (.ladd, nx, a, b, d, v)))  (k : zR tt G cd bc bs rt M ret nx L (.long (x + y) :: s) h c n) : zR tt G cd bc bs rt M ret pc L (.long y :: .long x :: s) h c n := zR.step hM (by unfold zstep; rw [hc]; exact Or.inl k)
theorem r_lsub {x y : Int64} (hM : zmono M) (hc : cd[pc]? = some (some (.lsub, nx, a, b, d, v)))  (k : zR tt G cd bc bs rt M ret nx L (.long (x - y) :: s) h c n) : zR tt G cd bc bs rt M ret pc L (.long y :: .long x :: s) h c n := zR.step hM (by unfold zstep; rw [hc]; exact Or.inl k)
theorem r_lmul {x y : Int64} (hM : zmono M) (hc : cd[pc]? = some (some (.lmul, nx, a, b, d, v)))  (k : zR tt G cd bc bs rt M ret nx L (.long (x * y) :: s) h c n) : zR tt G cd bc bs rt M ret pc L (.long y :: .long x :: s) h c n := zR.step hM (by unfold zstep; rw [hc]; exact Or.inl k)
theorem r_land {x y : Int64} (hM : zmono M) (hc : cd[pc]? = some (some (.land, nx, a, b, d, v)))  (k : zR tt G cd bc bs rt M ret nx L (.long (x &&& y) :: s) h c n) : zR tt G cd bc bs rt M ret pc L (.long y :: .long x :: s) h c n := zR.step hM (by unfold zstep; rw [hc]; exact Or.inl k)
theorem r_lor {x y : Int64} (hM : zmono M) (hc : cd[pc]? = some (some (.lor, nx, a, b, d, v)))  (k : zR tt G cd bc bs rt M ret nx L (.long (x ||| y) :: s) h c n) : zR tt G cd bc bs rt M ret pc L (.long y :: .long x :: s) h c n := zR.step hM (by unfold zstep; rw [hc]; exact Or.inl k)
theorem r_lxor {x y : Int64} (hM : zmono M) (hc : cd[pc]? = some (some (.lxor, nx, a, b, d, v)))  (k : zR tt G cd bc bs rt M ret nx L (.long (x ^^^ y) :: s) h c n) : zR tt G cd bc bs rt M ret pc L (.long y :: .long x :: s) h c n := zR.step hM (by unfold zstep; rw [hc]; exact Or.inl k)
theorem r_ldiv {x y : Int64} (hM : zmono M) (hc : cd[pc]? = some (some (.ldiv, nx, a, b, d, v))) (hy : ¬ y = 0) (k : zR tt G cd bc bs rt M ret nx L (.long (x / y) :: s) h c n) : zR tt G cd bc bs rt M ret pc L (.long y :: .long x :: s) h c n := zR.step hM (by unfold zstep; rw [hc]; exact Or.inl ⟨hy, k⟩)
theorem r_lrem {x y : Int64} (hM : zmono M) (hc : cd[pc]? = some (some (.lrem, nx, a, b, d, v))) (hy : ¬ y = 0) (k : zR tt G cd bc bs rt M ret nx L (.long (x - x / y * y) :: s) h c n) : zR tt G cd bc bs rt M ret pc L (.long y :: .long x :: s) h c n := zR.step hM (by unfold zstep; rw [hc]; exact Or.inl ⟨hy, k⟩)
theorem r_lneg {x : Int64} (hM : zmono M) (hc : cd[pc]? = some (some (.lneg, nx, a, b, d, v)))  (k : zR tt G cd bc bs rt M ret nx L (.long (-x) :: s) h c n) : zR tt G cd bc bs rt M ret pc L (.long x :: s) h c n := zR.step hM (by unfold zstep; rw [hc]; exact Or.inl k)
theorem r_lcmp {x y : Int64} (hM : zmono M) (hc : cd[pc]? = some (some (.lcmp, nx, a, b, d, v)))  (k : zR tt G cd bc bs rt M ret nx L (.int (lg_cmp x y) :: s) h c n) : zR tt G cd bc bs rt M ret pc L (.long y :: .long x :: s) h c n := zR.step hM (by unfold zstep; rw [hc]; exact Or.inl k)
theorem r_lshl {x : Int64} {y : Int32} (hM : zmono M) (hc : cd[pc]? = some (some (.lshl, nx, a, b, d, v)))  (k : zR tt G cd bc bs rt M ret nx L (.long (x <<< (y.toInt64 &&& 63)) :: s) h c n) : zR tt G cd bc bs rt M ret pc L (.int y :: .long x :: s) h c n := zR.step hM (by unfold zstep; rw [hc]; exact Or.inl k)
theorem r_lshr {x : Int64} {y : Int32} (hM : zmono M) (hc : cd[pc]? = some (some (.lshr, nx, a, b, d, v)))  (k : zR tt G cd bc bs rt M ret nx L (.long (x >>> (y.toInt64 &&& 63)) :: s) h c n) : zR tt G cd bc bs rt M ret pc L (.int y :: .long x :: s) h c n := zR.step hM (by unfold zstep; rw [hc]; exact Or.inl k)
theorem r_i2l {x : Int32} (hM : zmono M) (hc : cd[pc]? = some (some (.i2l, nx, a, b, d, v)))  (k : zR tt G cd bc bs rt M ret nx L (.long x.toInt64 :: s) h c n) : zR tt G cd bc bs rt M ret pc L (.int x :: s) h c n := zR.step hM (by unfold zstep; rw [hc]; exact Or.inl k)
theorem r_l2i {x : Int64} (hM : zmono M) (hc : cd[pc]? = some (some (.l2i, nx, a, b, d, v)))  (k : zR tt G cd bc bs rt M ret nx L (.int x.toInt32 :: s) h c n) : zR tt G cd bc bs rt M ret pc L (.long x :: s) h c n := zR.step hM (by unfold zstep; rw [hc]; exact Or.inl k)
theorem r_i2b {x : Int32} (hM : zmono M) (hc : cd[pc]? = some (some (.i2b, nx, a, b, d, v)))  (k : zR tt G cd bc bs rt M ret nx L (.int x.toInt8.toInt32 :: s) h c n) : zR tt G cd bc bs rt M ret pc L (.int x :: s) h c n := zR.step hM (by unfold zstep; rw [hc]; exact Or.inl k)
theorem r_goto {i : Int} (hM : zmono M) (hc : cd[pc]? = some (some (.goto i, nx, a, b, d, v)))  (k : zR tt G cd bc bs rt M ret a L (s) h c n) : zR tt G cd bc bs rt M ret pc L s h c n := zR.step hM (by unfold zstep; rw [hc]; exact Or.inl k)
theorem r_if_eq {i : Int} {x : Int32} (hM : zmono M) (hc : cd[pc]? = some (some (.ifCond .eq i, nx, a, b, d, v)))  (kt : x = 0 → zR tt G cd bc bs rt M ret a L (s) h c n) (kf : ¬ x = 0 → zR tt G cd bc bs rt M ret nx L (s) h c n) : zR tt G cd bc bs rt M ret pc L (.int x :: s) h c n := zR.step hM (by unfold zstep; rw [hc]; exact Or.inl ⟨kt, fun z => kf (id z)⟩)
theorem r_icmp_eq {i : Int} {x y : Int32} (hM : zmono M) (hc : cd[pc]? = some (some (.if_icmp .eq i, nx, a, b, d, v)))  (kt : x = y → zR tt G cd bc bs rt M ret a L (s) h c n) (kf : ¬ x = y → zR tt G cd bc bs rt M ret nx L (s) h c n) : zR tt G cd bc bs rt M ret pc L (.int y :: .int x :: s) h c n := zR.step hM (by unfold zstep; rw [hc]; exact Or.inl ⟨kt, fun z => kf (id z)⟩)
theorem r_if_ne {i : Int} {x : Int32} (hM : zmono M) (hc : cd[pc]? = some (some (.ifCond .ne i, nx, a, b, d, v)))  (kt : ¬ x = 0 → zR tt G cd bc bs rt M ret a L (s) h c n) (kf : x = 0 → zR tt G cd bc bs rt M ret nx L (s) h c n) : zR tt G cd bc bs rt M ret pc L (.int x :: s) h c n := zR.step hM (by unfold zstep; rw [hc]; exact Or.inl ⟨kt, fun z => kf (Classical.not_not.mp z)⟩)
theorem r_icmp_ne {i : Int} {x y : Int32} (hM : zmono M) (hc : cd[pc]? = some (some (.if_icmp .ne i, nx, a, b, d, v)))  (kt : ¬ x = y → zR tt G cd bc bs rt M ret a L (s) h c n) (kf : x = y → zR tt G cd bc bs rt M ret nx L (s) h c n) : zR tt G cd bc bs rt M ret pc L (.int y :: .int x :: s) h c n := zR.step hM (by unfold zstep; rw [hc]; exact Or.inl ⟨kt, fun z => kf (Classical.not_not.mp z)⟩)
theorem r_if_lt {i : Int} {x : Int32} (hM : zmono M) (hc : cd[pc]? = some (some (.ifCond .lt i, nx, a, b, d, v)))  (kt : x < 0 → zR tt G cd bc bs rt M ret a L (s) h c n) (kf : 0 ≤ x → zR tt G cd bc bs rt M ret nx L (s) h c n) : zR tt G cd bc bs rt M ret pc L (.int x :: s) h c n := zR.step hM (by unfold zstep; rw [hc]; exact Or.inl ⟨kt, fun z => kf (Int32.not_lt.mp z)⟩)
theorem r_icmp_lt {i : Int} {x y : Int32} (hM : zmono M) (hc : cd[pc]? = some (some (.if_icmp .lt i, nx, a, b, d, v)))  (kt : x < y → zR tt G cd bc bs rt M ret a L (s) h c n) (kf : y ≤ x → zR tt G cd bc bs rt M ret nx L (s) h c n) : zR tt G cd bc bs rt M ret pc L (.int y :: .int x :: s) h c n := zR.step hM (by unfold zstep; rw [hc]; exact Or.inl ⟨kt, fun z => kf (Int32.not_lt.mp z)⟩)
theorem r_if_ge {i : Int} {x : Int32} (hM : zmono M) (hc : cd[pc]? = some (some (.ifCond .ge i, nx, a, b, d, v)))  (kt : 0 ≤ x → zR tt G cd bc bs rt M ret a L (s) h c n) (kf : x < 0 → zR tt G cd bc bs rt M ret nx L (s) h c n) : zR tt G cd bc bs rt M ret pc L (.int x :: s) h c n := zR.step hM (by unfold zstep; rw [hc]; exact Or.inl ⟨kt, fun z => kf (Int32.not_le.mp z)⟩)
theorem r_icmp_ge {i : Int} {x y : Int32} (hM : zmono M) (hc : cd[pc]? = some (some (.if_icmp .ge i, nx, a, b, d, v)))  (kt : y ≤ x → zR tt G cd bc bs rt M ret a L (s) h c n) (kf : x < y → zR tt G cd bc bs rt M ret nx L (s) h c n) : zR tt G cd bc bs rt M ret pc L (.int y :: .int x :: s) h c n := zR.step hM (by unfold zstep; rw [hc]; exact Or.inl ⟨kt, fun z => kf (Int32.not_le.mp z)⟩)
theorem r_if_gt {i : Int} {x : Int32} (hM : zmono M) (hc : cd[pc]? = some (some (.ifCond .gt i, nx, a, b, d, v)))  (kt : 0 < x → zR tt G cd bc bs rt M ret a L (s) h c n) (kf : x ≤ 0 → zR tt G cd bc bs rt M ret nx L (s) h c n) : zR tt G cd bc bs rt M ret pc L (.int x :: s) h c n := zR.step hM (by unfold zstep; rw [hc]; exact Or.inl ⟨kt, fun z => kf (Int32.not_lt.mp z)⟩)
theorem r_icmp_gt {i : Int} {x y : Int32} (hM : zmono M) (hc : cd[pc]? = some (some (.if_icmp .gt i, nx, a, b, d, v)))  (kt : y < x → zR tt G cd bc bs rt M ret a L (s) h c n) (kf : x ≤ y → zR tt G cd bc bs rt M ret nx L (s) h c n) : zR tt G cd bc bs rt M ret pc L (.int y :: .int x :: s) h c n := zR.step hM (by unfold zstep; rw [hc]; exact Or.inl ⟨kt, fun z => kf (Int32.not_lt.mp z)⟩)
theorem r_if_le {i : Int} {x : Int32} (hM : zmono M) (hc : cd[pc]? = some (some (.ifCond .le i, nx, a, b, d, v)))  (kt : x ≤ 0 → zR tt G cd bc bs rt M ret a L (s) h c n) (kf : 0 < x → zR tt G cd bc bs rt M ret nx L (s) h c n) : zR tt G cd bc bs rt M ret pc L (.int x :: s) h c n := zR.step hM (by unfold zstep; rw [hc]; exact Or.inl ⟨kt, fun z => kf (Int32.not_le.mp z)⟩)
theorem r_icmp_le {i : Int} {x y : Int32} (hM : zmono M) (hc : cd[pc]? = some (some (.if_icmp .le i, nx, a, b, d, v)))  (kt : x ≤ y → zR tt G cd bc bs rt M ret a L (s) h c n) (kf : y < x → zR tt G cd bc bs rt M ret nx L (s) h c n) : zR tt G cd bc bs rt M ret pc L (.int y :: .int x :: s) h c n := zR.step hM (by unfold zstep; rw [hc]; exact Or.inl ⟨kt, fun z => kf (Int32.not_le.mp z)⟩)
theorem r_ifnullT {i : Int} (hM : zmono M) (hc : cd[pc]? = some (some (.ifnull i, nx, a, b, d, v)))  (k : zR tt G cd bc bs rt M ret a L (s) h c n) : zR tt G cd bc bs rt M ret pc L (.null :: s) h c n := zR.step hM (by unfold zstep; rw [hc]; exact Or.inl k)
theorem r_ifnullF {i : Int} {r : Nat} (hM : zmono M) (hc : cd[pc]? = some (some (.ifnull i, nx, a, b, d, v)))  (k : zR tt G cd bc bs rt M ret nx L (s) h c n) : zR tt G cd bc bs rt M ret pc L (.ref r :: s) h c n := zR.step hM (by unfold zstep; rw [hc]; exact Or.inl k)
theorem r_ifnonnullF {i : Int} (hM : zmono M) (hc : cd[pc]? = some (some (.ifnonnull i, nx, a, b, d, v)))  (k : zR tt G cd bc bs rt M ret nx L (s) h c n) : zR tt G cd bc bs rt M ret pc L (.null :: s) h c n := zR.step hM (by unfold zstep; rw [hc]; exact Or.inl k)
theorem r_ifnonnullT {i : Int} {r : Nat} (hM : zmono M) (hc : cd[pc]? = some (some (.ifnonnull i, nx, a, b, d, v)))  (k : zR tt G cd bc bs rt M ret a L (s) h c n) : zR tt G cd bc bs rt M ret pc L (.ref r :: s) h c n := zR.step hM (by unfold zstep; rw [hc]; exact Or.inl k)
theorem r_table {df lo hi : Int} {tg : Array Int} {x : Int32} (hM : zmono M) (hc : cd[pc]? = some (some (.tableswitch df lo hi tg, nx, a, b, d, v)))  (kd : (x.toInt < lo ∨ hi < x.toInt) → zR tt G cd bc bs rt M ret df.toNat L (s) h c n) (kt : ¬ x.toInt < lo → ¬ hi < x.toInt → ∃ t : Int, tg[(x.toInt - lo).toNat]? = some t ∧ zR tt G cd bc bs rt M ret t.toNat L (s) h c n) : zR tt G cd bc bs rt M ret pc L (.int x :: s) h c n := zR.step hM (by unfold zstep; rw [hc]; exact Or.inr ⟨kd, kt⟩)
theorem r_lookup {df : Int} {ps : Array (Int × Int)} {x : Int32} (hM : zmono M) (hc : cd[pc]? = some (some (.lookupswitch df ps, nx, a, b, d, v)))  (k : zR tt G cd bc bs rt M ret (Op.lookupswitch.offset ps.toList df x.toInt).toNat L (s) h c n) : zR tt G cd bc bs rt M ret pc L (.int x :: s) h c n := zR.step hM (by unfold zstep; rw [hc]; exact Or.inr k)
theorem r_iald {i : Int32} {r N : Nat} {f : Nat → Int32} (hM : zmono M) (hc : cd[pc]? = some (some (.iaload, nx, a, b, d, v))) (hr : h[r]? = some (.inl (0, N, .inl f))) (hi : vp_in i N) (k : zR tt G cd bc bs rt M ret nx L (.int (f i.toNatClampNeg) :: s) h c n) : zR tt G cd bc bs rt M ret pc L (.int i :: .ref r :: s) h c n := zR.step hM (by unfold zstep; rw [hc]; exact Or.inr ⟨N, f, hr, hi, k⟩)
theorem r_zald {i : Int32} {r N : Nat} {f : Nat → Int32} (hM : zmono M) (hc : cd[pc]? = some (some (.baload, nx, a, b, d, v))) (hr : h[r]? = some (.inl (1, N, .inl f))) (hi : vp_in i N) (k : zR tt G cd bc bs rt M ret nx L (.int (f i.toNatClampNeg) :: s) h c n) : zR tt G cd bc bs rt M ret pc L (.int i :: .ref r :: s) h c n := zR.step hM (by unfold zstep; rw [hc]; exact Or.inr ⟨1, N, f, Or.inl rfl, hr, hi, k⟩)
theorem r_bald {i : Int32} {r N : Nat} {f : Nat → Int32} (hM : zmono M) (hc : cd[pc]? = some (some (.baload, nx, a, b, d, v))) (hr : h[r]? = some (.inl (2, N, .inl f))) (hi : vp_in i N) (k : zR tt G cd bc bs rt M ret nx L (.int (f i.toNatClampNeg) :: s) h c n) : zR tt G cd bc bs rt M ret pc L (.int i :: .ref r :: s) h c n := zR.step hM (by unfold zstep; rw [hc]; exact Or.inr ⟨2, N, f, Or.inr rfl, hr, hi, k⟩)
theorem r_lald {i : Int32} {r N : Nat} {f : Nat → Int64} (hM : zmono M) (hc : cd[pc]? = some (some (.laload, nx, a, b, d, v))) (hr : h[r]? = some (.inl (3, N, .inr (.inl f)))) (hi : vp_in i N) (k : zR tt G cd bc bs rt M ret nx L (.long (f i.toNatClampNeg) :: s) h c n) : zR tt G cd bc bs rt M ret pc L (.int i :: .ref r :: s) h c n := zR.step hM (by unfold zstep; rw [hc]; exact Or.inr ⟨N, f, hr, hi, k⟩)
theorem r_gald {i : Int32} {r N : Nat} {f : Nat → Option Nat} (hM : zmono M) (hc : cd[pc]? = some (some (.aaload, nx, a, b, d, v))) (hr : h[r]? = some (.inl (4, N, .inr (.inr (.inr (.inr f)))))) (hi : vp_in i N) (k : zR tt G cd bc bs rt M ret nx L (zrf (f i.toNatClampNeg) :: s) h c n) : zR tt G cd bc bs rt M ret pc L (.int i :: .ref r :: s) h c n := zR.step hM (by unfold zstep; rw [hc]; exact Or.inr ⟨4, N, f, Or.inl rfl, hr, hi, k⟩)
theorem r_aald {i : Int32} {r N : Nat} {f : Nat → Option Nat} (hM : zmono M) (hc : cd[pc]? = some (some (.aaload, nx, a, b, d, v))) (hr : h[r]? = some (.inl (5, N, .inr (.inr (.inr (.inr f)))))) (hi : vp_in i N) (k : zR tt G cd bc bs rt M ret nx L (zrf (f i.toNatClampNeg) :: s) h c n) : zR tt G cd bc bs rt M ret pc L (.int i :: .ref r :: s) h c n := zR.step hM (by unfold zstep; rw [hc]; exact Or.inr ⟨5, N, f, Or.inr rfl, hr, hi, k⟩)
theorem r_sld {i : Int32} (hM : zmono M) (hc : cd[pc]? = some (some (.saload, nx, a, b, d, v))) (hi : vp_in i G.2.2.1) (k : zR tt G cd bc bs rt M ret nx L (.int (G.2.2.2 i.toNatClampNeg) :: s) h c n) : zR tt G cd bc bs rt M ret pc L (.int i :: .retAddr 0 :: s) h c n := zR.step hM (by unfold zstep; rw [hc]; exact Or.inr ⟨hi, k⟩)
theorem r_slen  (hM : zmono M) (hc : cd[pc]? = some (some (.i2s, nx, a, b, d, v)))  (k : zR tt G cd bc bs rt M ret nx L (.int (Int32.ofNat G.2.2.1) :: s) h c n) : zR tt G cd bc bs rt M ret pc L (.retAddr 0 :: s) h c n := zR.step hM (by unfold zstep; rw [hc]; exact Or.inr k)
theorem r_iast {x i : Int32} {r N : Nat} {f : Nat → Int32} (hM : zmono M) (hc : cd[pc]? = some (some (.iastore, nx, a, b, d, v))) (hr : h[r]? = some (.inl (0, N, .inl f))) (hi : vp_in i N) (k : zR tt G cd bc bs rt M ret nx L (s) (h.set r (.inl (0, N, .inl (upd f i.toNatClampNeg x)))) c n) : zR tt G cd bc bs rt M ret pc L (.int x :: .int i :: .ref r :: s) h c n := zR.step hM (by unfold zstep; rw [hc]; exact Or.inr ⟨N, f, hr, hi, k⟩)
theorem r_zast {x i : Int32} {r N : Nat} {f : Nat → Int32} (hM : zmono M) (hc : cd[pc]? = some (some (.bastore, nx, a, b, d, v))) (hr : h[r]? = some (.inl (1, N, .inl f))) (hi : vp_in i N) (k : zR tt G cd bc bs rt M ret nx L (s) (h.set r (.inl (1, N, .inl (upd f i.toNatClampNeg (vp_nar .boolean x))))) c n) : zR tt G cd bc bs rt M ret pc L (.int x :: .int i :: .ref r :: s) h c n := zR.step hM (by unfold zstep; rw [hc]; exact Or.inr ⟨1, N, f, Or.inl rfl, hr, hi, k⟩)
theorem r_bast {x i : Int32} {r N : Nat} {f : Nat → Int32} (hM : zmono M) (hc : cd[pc]? = some (some (.bastore, nx, a, b, d, v))) (hr : h[r]? = some (.inl (2, N, .inl f))) (hi : vp_in i N) (k : zR tt G cd bc bs rt M ret nx L (s) (h.set r (.inl (2, N, .inl (upd f i.toNatClampNeg (vp_nar .byte x))))) c n) : zR tt G cd bc bs rt M ret pc L (.int x :: .int i :: .ref r :: s) h c n := zR.step hM (by unfold zstep; rw [hc]; exact Or.inr ⟨2, N, f, Or.inr rfl, hr, hi, k⟩)
theorem r_last {x : Int64} {i : Int32} {r N : Nat} {f : Nat → Int64} (hM : zmono M) (hc : cd[pc]? = some (some (.lastore, nx, a, b, d, v))) (hr : h[r]? = some (.inl (3, N, .inr (.inl f)))) (hi : vp_in i N) (k : zR tt G cd bc bs rt M ret nx L (s) (h.set r (.inl (3, N, .inr (.inl (vp_updL f i.toNatClampNeg x))))) c n) : zR tt G cd bc bs rt M ret pc L (.long x :: .int i :: .ref r :: s) h c n := zR.step hM (by unfold zstep; rw [hc]; exact Or.inr ⟨N, f, hr, hi, k⟩)
theorem r_aast {y : Nat} {i : Int32} {r N : Nat} {fs : List Value} {f : Nat → Option Nat} (hM : zmono M) (hc : cd[pc]? = some (some (.aastore, nx, a, b, d, v))) (hr : h[r]? = some (.inl (5, N, .inr (.inr (.inr (.inr f)))))) (hy : h[y]? = some (.inr (d, fs))) (hi : vp_in i N) (k : zR tt G cd bc bs rt M ret nx L (s) (h.set r (.inl (5, N, .inr (.inr (.inr (.inr (va_up f i.toNatClampNeg (some y)))))))) c n) : zR tt G cd bc bs rt M ret pc L (.ref y :: .int i :: .ref r :: s) h c n := zR.step hM (by unfold zstep; rw [hc]; exact Or.inr ⟨5, N, f, Or.inr ⟨rfl, fs, hy⟩, hr, hi, k⟩)
theorem r_gast {y : Nat} {i : Int32} {r N K : Nat} {g : Nat → Int32} {f : Nat → Option Nat} (hM : zmono M) (hc : cd[pc]? = some (some (.aastore, nx, a, b, d, v))) (hr : h[r]? = some (.inl (4, N, .inr (.inr (.inr (.inr f)))))) (hy : h[y]? = some (.inl (0, K, .inl g))) (hi : vp_in i N) (k : zR tt G cd bc bs rt M ret nx L (s) (h.set r (.inl (4, N, .inr (.inr (.inr (.inr (va_up f i.toNatClampNeg (some y)))))))) c n) : zR tt G cd bc bs rt M ret pc L (.ref y :: .int i :: .ref r :: s) h c n := zR.step hM (by unfold zstep; rw [hc]; exact Or.inr ⟨4, N, f, Or.inl ⟨rfl, K, g, hy⟩, hr, hi, k⟩)
theorem r_alen {r kd N : Nat} {x : (Nat → Int32) ⊕ (Nat → Int64) ⊕ (Nat → UInt32) ⊕ (Nat → UInt64) ⊕ (Nat → Option Nat)} (hM : zmono M) (hc : cd[pc]? = some (some (.arraylength, nx, a, b, d, v))) (hr : h[r]? = some (.inl (kd, N, x))) (hk : kd < 6) (k : zR tt G cd bc bs rt M ret nx L (.int (Int32.ofNat N) :: s) h c n) : zR tt G cd bc bs rt M ret pc L (.ref r :: s) h c n := zR.step hM (by unfold zstep; rw [hc]; exact Or.inr ⟨kd, N, x, hk, hr, k⟩)
theorem r_newa {t : ArrayType} {x : Int32} {N : Nat} (hM : zmono M) (hc : cd[pc]? = some (some (.newarray t, nx, a, b, d, v))) (hx : ¬ x < 0) (hN : x.toNatClampNeg = N) (hs : N ≤ 10000) (h1 : c + 1 ≤ bc) (h2 : n + N ≤ bs) (ht : zkind t < 4) (k : zR tt G cd bc bs rt M ret nx L (.ref h.length :: s) (h ++ [zarr (zkind t) N]) (c + 1) (n + N)) : zR tt G cd bc bs rt M ret pc L (.int x :: s) h c n := zR.step hM (by unfold zstep; rw [hc]; exact Or.inr (by subst hN; exact ⟨hx, hs, h1, h2, ht, k⟩))
theorem r_anewa {i : Nat} {x : Int32} {N : Nat} (hM : zmono M) (hc : cd[pc]? = some (some (.anewarray i, nx, a, b, d, v))) (hx : ¬ x < 0) (hN : x.toNatClampNeg = N) (hs : N ≤ 10000) (h1 : c + 1 ≤ bc) (h2 : n + N ≤ bs) (ht : a = 4 ∨ a = 5) (k : zR tt G cd bc bs rt M ret nx L (.ref h.length :: s) (h ++ [zarr a N]) (c + 1) (n + N)) : zR tt G cd bc bs rt M ret pc L (.int x :: s) h c n := zR.step hM (by unfold zstep; rw [hc]; exact Or.inr (by subst hN; exact ⟨hx, hs, h1, h2, ht, k⟩))
theorem r_mnewa {i : Nat} {x y : Int32} {N K : Nat} (hM : zmono M) (hc : cd[pc]? = some (some (.multianewarray i 2, nx, a, b, d, v))) (hx : ¬ x < 0) (hy : ¬ y < 0) (hN : x.toNatClampNeg = N) (hK : y.toNatClampNeg = K) (hs : N ≤ 10000) (hs2 : K ≤ 10000) (h1 : c + (1 + N) ≤ bc) (h2 : n + (N + N * K) ≤ bs) (k : zR tt G cd bc bs rt M ret nx L (.ref h.length :: s) (h ++ zrows h.length N K) (c + 1 + N) (n + N + N * K)) : zR tt G cd bc bs rt M ret pc L (.int y :: .int x :: s) h c n := zR.step hM (by unfold zstep; rw [hc]; exact Or.inr (by subst hN; subst hK; exact ⟨hx, hy, hs, hs2, h1, h2, k⟩))
theorem r_new {i : Nat} {fs : List Value} (hM : zmono M) (hc : cd[pc]? = some (some (.new i, nx, a, b, d, v))) (hf : zcls tt a = fs) (h1 : c + 1 ≤ bc) (h2 : n + fs.length ≤ bs) (k : zR tt G cd bc bs rt M ret nx L (.ref h.length :: s) (h ++ [.inr (a, fs)]) (c + 1) (n + fs.length)) : zR tt G cd bc bs rt M ret pc L s h c n := zR.step hM (by unfold zstep; rw [hc]; exact Or.inr (by subst hf; exact ⟨h1, h2, k⟩))
theorem r_get {i r : Nat} {fs : List Value} {w : Value} (hM : zmono M) (hc : cd[pc]? = some (some (.getfield i, nx, a, b, d, v))) (hr : h[r]? = some (.inr (a, fs))) (hw : fs[b]? = some w) (k : zR tt G cd bc bs rt M ret nx L (w :: s) h c n) : zR tt G cd bc bs rt M ret pc L (.ref r :: s) h c n := zR.step hM (by unfold zstep; rw [hc]; exact Or.inr ⟨fs, w, hr, hw, k⟩)
theorem r_put {i r : Nat} {fs : List Value} {w : Value} {t : FieldType} (hM : zmono M) (hc : cd[pc]? = some (some (.putfield i, nx, a, b, d, v))) (hr : h[r]? = some (.inr (a, fs))) (hl : b < fs.length) (ht : (tt[a]?).map (fun q => q.1 b) = some t) (hn : narrow t w = w) (hf : fits t w = true) (k : zR tt G cd bc bs rt M ret nx L (s) (h.set r (.inr (a, fs.set b w))) c n) : zR tt G cd bc bs rt M ret pc L (w :: .ref r :: s) h c n := zR.step hM (by unfold zstep; rw [hc]; exact Or.inr ⟨fs, t, hr, hl, ht, hn, hf, k⟩)
theorem r_oinit {r : Nat} (hM : zmono M) (hc : cd[pc]? = some (some (.pop2, nx, a, b, d, v))) (hs : (s.map fun v => v.category).sum ≤ 8) (k : zR tt G cd bc bs rt M ret nx L (s) h c n) : zR tt G cd bc bs rt M ret pc L (.ref r :: s) h c n := zR.step hM (by unfold zstep; rw [hc]; exact Or.inr ⟨hs, k⟩)
theorem r_virt {i r : Nat} {as : List Value} {fs : List Value} {st : List Value} {m1 m2 : Nat} (hM : zmono M) (hc : cd[pc]? = some (some (.invokevirtual i, nx, a, b, d, v))) (he : st = as.reverse ++ .ref r :: s) (hl : as.length = b) (hr : h[r]? = some (.inr (d, fs))) (hs : (s.map fun v => v.category).sum ≤ 8) (hb : zbud G a = (m1, m2)) (h1 : c + m1 ≤ bc) (h2 : n + m2 ≤ bs) (k : M a (.ref r :: as) h (fun w h2 => zR tt G cd bc bs rt M ret nx L (w.toList ++ s) h2 (c + m1) (n + m2))) : zR tt G cd bc bs rt M ret pc L st h c n := by
  subst he; subst hl
  have e1 : (as.reverse ++ Value.ref r :: s).drop as.length = .ref r :: s := by rw [← List.length_reverse, List.drop_left]
  have e2 : (as.reverse ++ Value.ref r :: s).take as.length = as.reverse := by rw [← List.length_reverse, List.take_left]
  refine zR.step hM ?_
  unfold zstep; rw [hc]
  refine Or.inr ?_
  show (match (as.reverse ++ Value.ref r :: s).drop as.length with | .ref r2 :: s2 => _ | _ => False)
  rw [e1]
  show ((as.reverse ++ Value.ref r :: s).take as.length).length = as.length ∧ _
  rw [e2, List.reverse_reverse, hb]
  exact ⟨List.length_reverse, ⟨fs, hr⟩, hs, h1, h2, k⟩
theorem r_spec {i r : Nat} {as : List Value} {st : List Value} {m1 m2 : Nat} (hM : zmono M) (hc : cd[pc]? = some (some (.invokespecial i, nx, a, b, d, v))) (he : st = as.reverse ++ .ref r :: s) (hl : as.length = b) (hs : (s.map fun v => v.category).sum ≤ 8) (hb : zbud G a = (m1, m2)) (h1 : c + m1 ≤ bc) (h2 : n + m2 ≤ bs) (k : M a (.ref r :: as) h (fun w h2 => zR tt G cd bc bs rt M ret nx L (w.toList ++ s) h2 (c + m1) (n + m2))) : zR tt G cd bc bs rt M ret pc L st h c n := by
  subst he; subst hl
  have e1 : (as.reverse ++ Value.ref r :: s).drop as.length = .ref r :: s := by rw [← List.length_reverse, List.drop_left]
  have e2 : (as.reverse ++ Value.ref r :: s).take as.length = as.reverse := by rw [← List.length_reverse, List.take_left]
  refine zR.step hM ?_
  unfold zstep; rw [hc]
  refine Or.inr ?_
  show (match (as.reverse ++ Value.ref r :: s).drop as.length with | .ref r2 :: s2 => _ | _ => False)
  rw [e1]
  show ((as.reverse ++ Value.ref r :: s).take as.length).length = as.length ∧ _
  rw [e2, List.reverse_reverse, hb]
  exact ⟨List.length_reverse, hs, h1, h2, k⟩
theorem r_stat {i : Nat} {as : List Value} {st : List Value} {m1 m2 : Nat} (hM : zmono M) (hc : cd[pc]? = some (some (.invokestatic i, nx, a, b, d, v))) (he : st = as.reverse ++ s) (hl : as.length = b) (hs : (s.map fun v => v.category).sum ≤ 8) (hb : zbud G a = (m1, m2)) (h1 : c + m1 ≤ bc) (h2 : n + m2 ≤ bs) (k : M a as h (fun w h2 => zR tt G cd bc bs rt M ret nx L (w.toList ++ s) h2 (c + m1) (n + m2))) : zR tt G cd bc bs rt M ret pc L st h c n := by
  subst he; subst hl
  have e1 : (as.reverse ++ s).drop as.length = s := by rw [← List.length_reverse, List.drop_left]
  have e2 : (as.reverse ++ s).take as.length = as.reverse := by rw [← List.length_reverse, List.take_left]
  refine zR.step hM ?_
  unfold zstep; rw [hc]
  refine Or.inr ?_
  show ((as.reverse ++ s).take as.length).length = as.length ∧ _
  rw [e2, e1, List.reverse_reverse, hb]
  exact ⟨List.length_reverse, hs, h1, h2, k⟩
theorem r_iret {x : Int32} {t : FieldType} (hM : zmono M) (hc : cd[pc]? = some (some (.ireturn, nx, a, b, d, v))) (ht : rt = some t) (hn : narrow t (.int x) = .int x) (k : ret (some (.int x)) h) : zR tt G cd bc bs rt M ret pc L [.int x] h c n := zR.step hM (by unfold zstep; rw [hc]; exact Or.inr ⟨⟨t, ht, hn⟩, k⟩)
theorem r_lret {x : Int64} (hM : zmono M) (hc : cd[pc]? = some (some (.lreturn, nx, a, b, d, v))) (ht : rt = some .long) (k : ret (some (.long x)) h) : zR tt G cd bc bs rt M ret pc L [.long x] h c n := zR.step hM (by unfold zstep; rw [hc]; exact Or.inr ⟨ht, k⟩)
theorem r_vret (hM : zmono M) (hc : cd[pc]? = some (some (.return_, nx, a, b, d, v))) (ht : rt = none) (k : ret none h) : zR tt G cd bc bs rt M ret pc L [] h c n := zR.step hM (by unfold zstep; rw [hc]; exact Or.inr ⟨ht, k⟩)
theorem r_aret {x : Nat} {t : FieldType} (hM : zmono M) (hc : cd[pc]? = some (some (.areturn, nx, a, b, d, v))) (ht : rt = some t) (hn : fits t .null = true) (k : ret (some (.ref x)) h) : zR tt G cd bc bs rt M ret pc L [.ref x] h c n := zR.step hM (by unfold zstep; rw [hc]; exact Or.inr ⟨⟨t, ht, hn⟩, k⟩)
theorem r_sret {x : Nat} {t : FieldType} (hM : zmono M) (hc : cd[pc]? = some (some (.areturn, nx, a, b, d, v))) (ht : rt = some t) (hn : fits t .null = true) (k : ret (some (.retAddr x)) h) : zR tt G cd bc bs rt M ret pc L [.retAddr x] h c n := zR.step hM (by unfold zstep; rw [hc]; exact Or.inr ⟨⟨t, ht, hn⟩, k⟩)
theorem r_nret {t : FieldType} (hM : zmono M) (hc : cd[pc]? = some (some (.areturn, nx, a, b, d, v))) (ht : rt = some t) (hn : fits t .null = true) (k : ret (some .null) h) : zR tt G cd bc bs rt M ret pc L [.null] h c n := zR.step hM (by unfold zstep; rw [hc]; exact Or.inr ⟨⟨t, ht, hn⟩, k⟩)
theorem r_chr {i : Int32} {q : Nat} (hM : zmono M) (hc : cd[pc]? = some (some (.caload, nx, a, b, d, v))) (hi : vp_in i (G.2.1 q).length) (hs : (s.map fun v => v.category).sum ≤ 8) (k : zR tt G cd bc bs rt M ret nx L (.int ((G.2.1 q).getD i.toNatClampNeg 0) :: s) h c n) : zR tt G cd bc bs rt M ret pc L (.int i :: .retAddr q :: s) h c n := zR.step hM (by unfold zstep; rw [hc]; exact Or.inr ⟨hi, hs, k⟩)
theorem r_tlen {q : Nat} (hM : zmono M) (hc : cd[pc]? = some (some (.i2c, nx, a, b, d, v))) (hq : 0 < (G.2.1 q).length) (hs : (s.map fun v => v.category).sum ≤ 8) (k : zR tt G cd bc bs rt M ret nx L (.int (Int32.ofNat (G.2.1 q).length) :: s) h c n) : zR tt G cd bc bs rt M ret pc L (.retAddr q :: s) h c n := zR.step hM (by unfold zstep; rw [hc]; exact Or.inr ⟨hq, hs, k⟩)
end ZROWS
end
section
/-! what the small machine's states are in the machine's own -/
def zcv (B : Nat) (aS : Nat → Nat) : Value → Value
  | .ref i => .ref (B + i)
  | .retAddr k => .ref (aS k)
  | w => w
theorem zcv_cat (B : Nat) (aS : Nat → Nat) (w : Value) : (zcv B aS w).category = w.category := by cases w <;> rfl
theorem zcv_sum (B : Nat) (aS : Nat → Nat) (s : List Value) : ((s.map (zcv B aS)).map fun v => v.category) = s.map fun v => v.category := by
  rw [List.map_map]
  exact List.map_congr_left fun w _ => zcv_cat B aS w
def zcA (B : Nat) (x : vp_A) : vp_A := match x with
  | (N, .inr (.inr (.inr (.inr f)))) => (N, .inr (.inr (.inr (.inr (fun j => (f j).map (fun a => B + a))))))
  | (N, y) => (N, y)
def zcE (B : Nat) (dA : Nat → ClassId) (aS : Nat → Nat) : zC → va_E
  | .inl (k, x) => .inl (dA k, zcA B x)
  | .inr (k, fs) => .inr (k, fs.map (zcv B aS))
def zhR (B : Nat) (D : va_G) (cl : List vw_C) (dA : Nat → ClassId) (aS : Nat → Nat) (h : zH) (H : Heap) : Prop :=
  H.size = B + h.length ∧ ∀ (i : Nat) (e : zC), h[i]? = some e → va_at D cl (B + i, zcE B dA aS e) H
def zLs (f : Value → Value) (nL : Nat) (L : zL) (ls : Array Slot) : Prop := L.length = nL ∧ ls.size = nL ∧ lv_wf ls ∧ ∀ (i : Nat) (v : Value), L.getD i none = some v → ls[i]? = some (.val (f v))
def zlv (f : Value → Value) (nL : Nat) (L : zL) : List (Nat × Value) := (List.range nL).filterMap (fun i => (L.getD i none).map (fun v => (i, f v)))
theorem zlv_mem {f : Value → Value} {nL : Nat} {L : zL} {q : Nat × Value} : q ∈ zlv f nL L ↔ q.1 < nL ∧ ∃ v, L.getD q.1 none = some v ∧ q.2 = f v := by
  unfold zlv
  rw [List.mem_filterMap]
  constructor
  · rintro ⟨i, hi, h⟩
    obtain ⟨v, hv, rfl⟩ := Option.map_eq_some_iff.mp h
    exact ⟨List.mem_range.mp hi, v, hv, rfl⟩
  · rintro ⟨h1, v, h2, h3⟩
    refine ⟨q.1, List.mem_range.mpr h1, ?_⟩
    rw [h2, Option.map_some, ← h3]
theorem zLs.has {f : Value → Value} {nL : Nat} {L : zL} {ls : Array Slot} (h : zLs f nL L ls) : lv_has ls nL (zlv f nL L) := ⟨h.2.1, h.2.2.1, fun q hq => by
  obtain ⟨-, v, h2, h3⟩ := zlv_mem.mp hq
  rw [h3]
  exact h.2.2.2 _ _ h2⟩
theorem zkp_get {i : Nat} {x : Option Value} {w : Value} (h : zkp i x = some w) : x = some w ∧ (i = 0 → w.category ≠ 2) := by
  unfold zkp at h
  by_cases hi : i = 0
  · rw [show (i == 0) = true by simp [hi]] at h
    cases x with
    | none => cases h
    | some y =>
      have h2 : (bif y.category == 2 then none else some y) = some w := h
      by_cases hy : y.category = 2
      · rw [show (y.category == 2) = true by simp [hy]] at h2
        cases h2
      · rw [show (y.category == 2) = false by simp [hy]] at h2
        cases h2
        exact ⟨rfl, fun _ => hy⟩
  · rw [show (i == 0) = false by simp [hi]] at h
    exact ⟨h, fun q => absurd q hi⟩
theorem zst_get : ∀ {L : zL} {i j : Nat} {v w : Value}, (zst L i v).getD j none = some w → (j = i ∧ w = v) ∨ (j ≠ i ∧ L.getD j none = some w ∧ (j + 1 = i → w.category ≠ 2) ∧ (v.category = 2 → j ≠ i + 1))
  | [], i, j, v, w, h => by simp [zst] at h
  | x :: xs, 0, j, v, w, h => by
    unfold zst at h
    cases j with
    | zero =>
      have h' : some v = some w := h
      exact Or.inl ⟨rfl, (Option.some.inj h').symm⟩
    | succ j =>
      by_cases hc : v.category = 2
      · rw [show (v.category == 2) = true by simp [hc]] at h
        have h' : (match xs with
          | [] => ([] : zL)
          | _ :: ys => none :: ys).getD j none = some w := h
        cases xs with
        | nil => simp at h'
        | cons y ys =>
          cases j with
          | zero => simp at h'
          | succ j => exact Or.inr ⟨by omega, h', fun q => by omega, fun _ => by omega⟩
      · rw [show (v.category == 2) = false by simp [hc]] at h
        have h' : xs.getD j none = some w := h
        exact Or.inr ⟨by omega, h', fun q => by omega, fun q => absurd q hc⟩
  | x :: xs, i + 1, j, v, w, h => by
    unfold zst at h
    cases j with
    | zero =>
      have h' : zkp i x = some w := h
      obtain ⟨h1, h2⟩ := zkp_get h'
      exact Or.inr ⟨by omega, h1, fun q => h2 (by omega), fun _ => by omega⟩
    | succ j =>
      have h' : (zst xs i v).getD j none = some w := h
      rcases zst_get h' with ⟨rfl, rfl⟩ | ⟨q1, q2, q3, q4⟩
      · exact Or.inl ⟨rfl, rfl⟩
      · exact Or.inr ⟨by omega, q2, fun q => q3 (by omega), fun q => by have := q4 q; omega⟩
theorem zst_len : ∀ (L : zL) (i : Nat) (v : Value), (zst L i v).length = L.length
  | [], _, _ => rfl
  | x :: xs, 0, v => by
    unfold zst
    cases (v.category == 2)
    · rfl
    · cases xs <;> rfl
  | x :: xs, i + 1, v => by
    unfold zst
    rw [List.length_cons, List.length_cons, zst_len xs i v]
theorem zLs.store1 {f : Value → Value} (hf : ∀ w, (f w).category = w.category) {nL i : Nat} {L : zL} {x : Value} (hx : x.category = 1) (hl : L.length = nL) {ls' : Array Slot} (h : lv_has ls' nL ((i, f x) :: (zlv f nL L).filter (fun q => !(q.1 == i) && !(q.1 + 1 == i && q.2.category == 2)))) : zLs f nL (zst L i x) ls' := by
  refine ⟨by rw [zst_len]; exact hl, h.1, h.2.1, fun j w hw => ?_⟩
  rcases zst_get hw with ⟨rfl, rfl⟩ | ⟨h1, h3, h4, h5⟩
  · exact h.2.2 (j, f w) List.mem_cons_self
  · have hj : j < nL := by
      rw [← hl]
      rw [List.getD_eq_getElem?_getD] at h3
      by_cases q : j < L.length
      · exact q
      · rw [List.getElem?_eq_none (by omega)] at h3
        cases h3
    refine h.2.2 (j, f w) (List.mem_cons_of_mem _ (List.mem_filter.mpr ⟨zlv_mem.mpr ⟨hj, w, h3, rfl⟩, ?_⟩))
    have e1 : (j == i) = false := by simpa using h1
    have e2 : (j + 1 == i && (f w).category == 2) = false := by
      by_cases q : j + 1 = i
      · have := h4 q
        rw [hf]
        simp [this]
      · simp [q]
    simp [e1, e2]
theorem zLs.store2 {f : Value → Value} (hf : ∀ w, (f w).category = w.category) {nL i : Nat} {L : zL} {x : Value} (hx : x.category = 2) (hl : L.length = nL) {ls' : Array Slot} (h : lv_has ls' nL ((i, f x) :: (zlv f nL L).filter (fun q => !(q.1 == i) && (!(q.1 == i + 1) && !(q.1 + 1 == i && q.2.category == 2))))) : zLs f nL (zst L i x) ls' := by
  refine ⟨by rw [zst_len]; exact hl, h.1, h.2.1, fun j w hw => ?_⟩
  rcases zst_get hw with ⟨rfl, rfl⟩ | ⟨h1, h3, h4, h5⟩
  · exact h.2.2 (j, f w) List.mem_cons_self
  · have hj : j < nL := by
      rw [← hl]
      rw [List.getD_eq_getElem?_getD] at h3
      by_cases q : j < L.length
      · exact q
      · rw [List.getElem?_eq_none (by omega)] at h3
        cases h3
    have h0 : j ≠ i + 1 := h5 hx
    refine h.2.2 (j, f w) (List.mem_cons_of_mem _ (List.mem_filter.mpr ⟨zlv_mem.mpr ⟨hj, w, h3, rfl⟩, ?_⟩))
    have e1 : (j == i) = false := by simpa using h1
    have e3 : (j == i + 1) = false := by simpa using h0
    have e2 : (j + 1 == i && (f w).category == 2) = false := by
      by_cases q : j + 1 = i
      · have := h4 q
        rw [hf]
        simp [this]
      · simp [q]
    simp [e1, e2, e3]
def wX (p : Program) (l : Launch) (e : Env) (R : Room) (s : State) (m : MethodId) (args : Array Value) (below : List Frame) (meth : Method) (c : Code) (Q : State → Prop) (B : Nat) (D : va_G) (cl : List vw_C) (dA : Nat → ClassId) (aS : Nat → Nat) (nL bc bs : Nat) : zX := fun pc L st h cn sn =>
  cn ≤ bc → sn ≤ bs → ∀ (H : Heap) (locs : List Loc) (lsA : Array Slot), zhR B D cl dA aS h H → va_S (fun q => B ≤ q) s.heap H locs → zLs (zcv B aS) nL L lsA → W p l e R s m args below meth c H locs cn sn Q (F0 m pc lsA (st.map (zcv B aS)))
section SIM1
variable {p : Program} {l : Launch} {e : Env} {R : Room} {s : State} {m : MethodId} {args : Array Value} {below : List Frame} {meth : Method} {c : Code} {Q : State → Prop} {cc : ByteArray} {B : Nat} {D : va_G} {cl : List vw_C} {dA : Nat → ClassId} {aS : Nat → Nat} {nL bc bs pc : Nat}
variable {a b d : Nat} {v : Value} {L : zL} {st : List Value} {h : zH} {cn sn : Nat}
theorem s_iconst {i : Int} (hx : p.tables.exec = Jvm.exec) (hb : c.code = cc) (hdg : decode cc pc = .ok (.iconst i, 1)) (hv : v = .int (Int32.ofInt i))  (hz : zex1 (wX p l e R s m args below meth c Q B D cl dA aS nL bc bs) (.aconst_null, pc + 1, a, b, d, v) L st h cn sn) : wX p l e R s m args below meth c Q B D cl dA aS nL bc bs pc L st h cn sn := by
  intro hc1 hc2 H locs lsA hH hS hL
  unfold zex1 at hz
  dsimp only at hz
  subst hv
  exact lv_iconst hx hb hdg rfl (hz hc1 hc2 _ _ _ hH hS hL)
theorem s_bipush {i : Int} (hx : p.tables.exec = Jvm.exec) (hb : c.code = cc) (hdg : decode cc pc = .ok (.bipush i, 2)) (hv : v = .int (Int8.ofInt i).toInt32)  (hz : zex1 (wX p l e R s m args below meth c Q B D cl dA aS nL bc bs) (.aconst_null, pc + 2, a, b, d, v) L st h cn sn) : wX p l e R s m args below meth c Q B D cl dA aS nL bc bs pc L st h cn sn := by
  intro hc1 hc2 H locs lsA hH hS hL
  unfold zex1 at hz
  dsimp only at hz
  subst hv
  exact lv_bipush hx hb hdg rfl (hz hc1 hc2 _ _ _ hH hS hL)
theorem s_sipush {i : Int} (hx : p.tables.exec = Jvm.exec) (hb : c.code = cc) (hdg : decode cc pc = .ok (.sipush i, 3)) (hv : v = .int (Int16.ofInt i).toInt32)  (hz : zex1 (wX p l e R s m args below meth c Q B D cl dA aS nL bc bs) (.aconst_null, pc + 3, a, b, d, v) L st h cn sn) : wX p l e R s m args below meth c Q B D cl dA aS nL bc bs pc L st h cn sn := by
  intro hc1 hc2 H locs lsA hH hS hL
  unfold zex1 at hz
  dsimp only at hz
  subst hv
  exact lv_sipush hx hb hdg rfl (hz hc1 hc2 _ _ _ hH hS hL)
theorem s_lconst {i : Fin 2} (hx : p.tables.exec = Jvm.exec) (hb : c.code = cc) (hdg : decode cc pc = .ok (.lconst i, 1)) (hv : v = .long (Int64.ofNat (i : Nat)))  (hz : zex1 (wX p l e R s m args below meth c Q B D cl dA aS nL bc bs) (.aconst_null, pc + 1, a, b, d, v) L st h cn sn) : wX p l e R s m args below meth c Q B D cl dA aS nL bc bs pc L st h cn sn := by
  intro hc1 hc2 H locs lsA hH hS hL
  unfold zex1 at hz
  dsimp only at hz
  subst hv
  exact lv_lconst hx hb hdg rfl (hz hc1 hc2 _ _ _ hH hS hL)
theorem s_null  (hx : p.tables.exec = Jvm.exec) (hb : c.code = cc) (hdg : decode cc pc = .ok (.aconst_null, 1)) (hv : v = .null) (hz : zex1 (wX p l e R s m args below meth c Q B D cl dA aS nL bc bs) (.aconst_null, pc + 1, a, b, d, v) L st h cn sn) : wX p l e R s m args below meth c Q B D cl dA aS nL bc bs pc L st h cn sn := by
  intro hc1 hc2 H locs lsA hH hS hL
  unfold zex1 at hz
  dsimp only at hz
  subst hv
  exact lv_null hx hb hdg (hz hc1 hc2 _ _ _ hH hS hL)
theorem s_ldc {i : Nat} (hx : p.tables.exec = Jvm.exec) (hb : c.code = cc) (hdg : decode cc pc = .ok (.ldc i, 2)) {own : String} {x : Int32} (hv : v = .int x) (hown : s.vm.findClass own = some m.cls) (hcon : (Jvm.Cond.constant own i x).before args s = true) (hz : zex1 (wX p l e R s m args below meth c Q B D cl dA aS nL bc bs) (.aconst_null, pc + 2, a, b, d, v) L st h cn sn) : wX p l e R s m args below meth c Q B D cl dA aS nL bc bs pc L st h cn sn := by
  intro hc1 hc2 H locs lsA hH hS hL
  unfold zex1 at hz
  dsimp only at hz
  subst hv
  exact lv_ldc hx hb hown hcon hdg (hz hc1 hc2 _ _ _ hH hS hL)
theorem s_ldcw {i : Nat} (hx : p.tables.exec = Jvm.exec) (hb : c.code = cc) (hdg : decode cc pc = .ok (.ldc_w i, 3)) {own : String} {x : Int32} (hv : v = .int x) (hown : s.vm.findClass own = some m.cls) (hcon : (Jvm.Cond.constant own i x).before args s = true) (hz : zex1 (wX p l e R s m args below meth c Q B D cl dA aS nL bc bs) (.aconst_null, pc + 3, a, b, d, v) L st h cn sn) : wX p l e R s m args below meth c Q B D cl dA aS nL bc bs pc L st h cn sn := by
  intro hc1 hc2 H locs lsA hH hS hL
  unfold zex1 at hz
  dsimp only at hz
  subst hv
  exact lv_ldcw hx hb hown hcon hdg (hz hc1 hc2 _ _ _ hH hS hL)
theorem s_ldc2 {i : Nat} (hx : p.tables.exec = Jvm.exec) (hb : c.code = cc) (hdg : decode cc pc = .ok (.ldc2_w i, 3)) {own : String} {x : Int64} (hv : v = .long x) (hown : s.vm.findClass own = some m.cls) (hcon : (Jvm.Cond.constantLong own i x).before args s = true) (hz : zex1 (wX p l e R s m args below meth c Q B D cl dA aS nL bc bs) (.aconst_null, pc + 3, a, b, d, v) L st h cn sn) : wX p l e R s m args below meth c Q B D cl dA aS nL bc bs pc L st h cn sn := by
  intro hc1 hc2 H locs lsA hH hS hL
  unfold zex1 at hz
  dsimp only at hz
  subst hv
  exact lv_ldc2 hx hb hown hcon hdg (hz hc1 hc2 _ _ _ hH hS hL)
theorem s_iload_n {j : Nat} {k : Fin 4} (hx : p.tables.exec = Jvm.exec) (hb : c.code = cc) (hdg : decode cc pc = .ok (.iload_n k, 1)) (hk : (k : Nat) = a) (hz : zex1 (wX p l e R s m args below meth c Q B D cl dA aS nL bc bs) (.iload j, pc + 1, a, b, d, v) L st h cn sn) : wX p l e R s m args below meth c Q B D cl dA aS nL bc bs pc L st h cn sn := by
  intro hc1 hc2 H locs lsA hH hS hL
  unfold zex1 at hz
  dsimp only at hz
  split at hz
  · rename_i x hx9
    exact lv_iload_n hx hb hdg hk (hL.2.2.2 _ _ hx9) (hz hc1 hc2 _ _ _ hH hS hL)
  · exact hz.elim
theorem s_iload {j : Nat}  (hx : p.tables.exec = Jvm.exec) (hb : c.code = cc) (hdg : decode cc pc = .ok (.iload a, 2))  (hz : zex1 (wX p l e R s m args below meth c Q B D cl dA aS nL bc bs) (.iload j, pc + 2, a, b, d, v) L st h cn sn) : wX p l e R s m args below meth c Q B D cl dA aS nL bc bs pc L st h cn sn := by
  intro hc1 hc2 H locs lsA hH hS hL
  unfold zex1 at hz
  dsimp only at hz
  split at hz
  · rename_i x hx9
    exact lv_iload hx hb hdg  (hL.2.2.2 _ _ hx9) (hz hc1 hc2 _ _ _ hH hS hL)
  · exact hz.elim
theorem s_lload_n {j : Nat} {k : Fin 4} (hx : p.tables.exec = Jvm.exec) (hb : c.code = cc) (hdg : decode cc pc = .ok (.lload_n k, 1)) (hk : (k : Nat) = a) (hz : zex1 (wX p l e R s m args below meth c Q B D cl dA aS nL bc bs) (.lload j, pc + 1, a, b, d, v) L st h cn sn) : wX p l e R s m args below meth c Q B D cl dA aS nL bc bs pc L st h cn sn := by
  intro hc1 hc2 H locs lsA hH hS hL
  unfold zex1 at hz
  dsimp only at hz
  split at hz
  · rename_i x hx9
    exact lv_lload_n hx hb hdg hk (hL.2.2.2 _ _ hx9) (hz hc1 hc2 _ _ _ hH hS hL)
  · exact hz.elim
theorem s_lload {j : Nat}  (hx : p.tables.exec = Jvm.exec) (hb : c.code = cc) (hdg : decode cc pc = .ok (.lload a, 2))  (hz : zex1 (wX p l e R s m args below meth c Q B D cl dA aS nL bc bs) (.lload j, pc + 2, a, b, d, v) L st h cn sn) : wX p l e R s m args below meth c Q B D cl dA aS nL bc bs pc L st h cn sn := by
  intro hc1 hc2 H locs lsA hH hS hL
  unfold zex1 at hz
  dsimp only at hz
  split at hz
  · rename_i x hx9
    exact lv_lload hx hb hdg  (hL.2.2.2 _ _ hx9) (hz hc1 hc2 _ _ _ hH hS hL)
  · exact hz.elim
theorem s_aload_n {j : Nat} {k : Fin 4} (hx : p.tables.exec = Jvm.exec) (hb : c.code = cc) (hdg : decode cc pc = .ok (.aload_n k, 1)) (hk : (k : Nat) = a) (hz : zex1 (wX p l e R s m args below meth c Q B D cl dA aS nL bc bs) (.aload j, pc + 1, a, b, d, v) L st h cn sn) : wX p l e R s m args below meth c Q B D cl dA aS nL bc bs pc L st h cn sn := by
  intro hc1 hc2 H locs lsA hH hS hL
  unfold zex1 at hz
  dsimp only at hz
  split at hz
  · rename_i x hx9
    exact lv_aload_n hx hb hdg hk (hL.2.2.2 _ _ hx9) (hz hc1 hc2 _ _ _ hH hS hL)
  · rename_i hx9
    exact lv_aload_nN hx hb hdg hk (hL.2.2.2 _ _ hx9) (hz hc1 hc2 _ _ _ hH hS hL)
  · rename_i x hx9
    exact lv_aload_n hx hb hdg hk (hL.2.2.2 _ _ hx9) (hz hc1 hc2 _ _ _ hH hS hL)
  · exact hz.elim
theorem s_aload {j : Nat}  (hx : p.tables.exec = Jvm.exec) (hb : c.code = cc) (hdg : decode cc pc = .ok (.aload a, 2))  (hz : zex1 (wX p l e R s m args below meth c Q B D cl dA aS nL bc bs) (.aload j, pc + 2, a, b, d, v) L st h cn sn) : wX p l e R s m args below meth c Q B D cl dA aS nL bc bs pc L st h cn sn := by
  intro hc1 hc2 H locs lsA hH hS hL
  unfold zex1 at hz
  dsimp only at hz
  split at hz
  · rename_i x hx9
    exact lv_aload hx hb hdg  (hL.2.2.2 _ _ hx9) (hz hc1 hc2 _ _ _ hH hS hL)
  · rename_i hx9
    exact lv_aloadN hx hb hdg  (hL.2.2.2 _ _ hx9) (hz hc1 hc2 _ _ _ hH hS hL)
  · rename_i x hx9
    exact lv_aload hx hb hdg  (hL.2.2.2 _ _ hx9) (hz hc1 hc2 _ _ _ hH hS hL)
  · exact hz.elim
theorem s_istore_n {j : Nat} {k : Fin 4} (hx : p.tables.exec = Jvm.exec) (hb : c.code = cc) (hdg : decode cc pc = .ok (.istore_n k, 1)) (hk : (k : Nat) = a) (hz : zex1 (wX p l e R s m args below meth c Q B D cl dA aS nL bc bs) (.istore j, pc + 1, a, b, d, v) L st h cn sn) : wX p l e R s m args below meth c Q B D cl dA aS nL bc bs pc L st h cn sn := by
  intro hc1 hc2 H locs lsA hH hS hL
  unfold zex1 at hz
  dsimp only at hz
  split at hz
  · exact lv_istore_n hx hb hdg hk hL.has (by have h9 := hz.1; rw [hL.1] at h9; exact h9) rfl (fun ls2 hl2 => hz.2 hc1 hc2 _ _ _ hH hS (zLs.store1 (zcv_cat B aS) rfl hL.1 hl2))
  · exact hz.elim
theorem s_istore {j : Nat}  (hx : p.tables.exec = Jvm.exec) (hb : c.code = cc) (hdg : decode cc pc = .ok (.istore a, 2))  (hz : zex1 (wX p l e R s m args below meth c Q B D cl dA aS nL bc bs) (.istore j, pc + 2, a, b, d, v) L st h cn sn) : wX p l e R s m args below meth c Q B D cl dA aS nL bc bs pc L st h cn sn := by
  intro hc1 hc2 H locs lsA hH hS hL
  unfold zex1 at hz
  dsimp only at hz
  split at hz
  · exact lv_istore hx hb hdg  hL.has (by have h9 := hz.1; rw [hL.1] at h9; exact h9) rfl (fun ls2 hl2 => hz.2 hc1 hc2 _ _ _ hH hS (zLs.store1 (zcv_cat B aS) rfl hL.1 hl2))
  · exact hz.elim
theorem s_lstore_n {j : Nat} {k : Fin 4} (hx : p.tables.exec = Jvm.exec) (hb : c.code = cc) (hdg : decode cc pc = .ok (.lstore_n k, 1)) (hk : (k : Nat) = a) (hz : zex1 (wX p l e R s m args below meth c Q B D cl dA aS nL bc bs) (.lstore j, pc + 1, a, b, d, v) L st h cn sn) : wX p l e R s m args below meth c Q B D cl dA aS nL bc bs pc L st h cn sn := by
  intro hc1 hc2 H locs lsA hH hS hL
  unfold zex1 at hz
  dsimp only at hz
  split at hz
  · exact lv_lstore_n hx hb hdg hk hL.has (by have h9 := hz.1; rw [hL.1] at h9; exact h9) rfl (fun ls2 hl2 => hz.2 hc1 hc2 _ _ _ hH hS (zLs.store2 (zcv_cat B aS) rfl hL.1 hl2))
  · exact hz.elim
theorem s_lstore {j : Nat}  (hx : p.tables.exec = Jvm.exec) (hb : c.code = cc) (hdg : decode cc pc = .ok (.lstore a, 2))  (hz : zex1 (wX p l e R s m args below meth c Q B D cl dA aS nL bc bs) (.lstore j, pc + 2, a, b, d, v) L st h cn sn) : wX p l e R s m args below meth c Q B D cl dA aS nL bc bs pc L st h cn sn := by
  intro hc1 hc2 H locs lsA hH hS hL
  unfold zex1 at hz
  dsimp only at hz
  split at hz
  · exact lv_lstore hx hb hdg  hL.has (by have h9 := hz.1; rw [hL.1] at h9; exact h9) rfl (fun ls2 hl2 => hz.2 hc1 hc2 _ _ _ hH hS (zLs.store2 (zcv_cat B aS) rfl hL.1 hl2))
  · exact hz.elim
theorem s_astore_n {j : Nat} {k : Fin 4} (hx : p.tables.exec = Jvm.exec) (hb : c.code = cc) (hdg : decode cc pc = .ok (.astore_n k, 1)) (hk : (k : Nat) = a) (hz : zex1 (wX p l e R s m args below meth c Q B D cl dA aS nL bc bs) (.astore j, pc + 1, a, b, d, v) L st h cn sn) : wX p l e R s m args below meth c Q B D cl dA aS nL bc bs pc L st h cn sn := by
  intro hc1 hc2 H locs lsA hH hS hL
  unfold zex1 at hz
  dsimp only at hz
  split at hz
  · exact lv_astore_n hx hb hdg hk hL.has (by have h9 := hz.1; rw [hL.1] at h9; exact h9) rfl (fun ls2 hl2 => hz.2 hc1 hc2 _ _ _ hH hS (zLs.store1 (zcv_cat B aS) rfl hL.1 hl2))
  · exact lv_astore_nN hx hb hdg hk hL.has (by have h9 := hz.1; rw [hL.1] at h9; exact h9) rfl (fun ls2 hl2 => hz.2 hc1 hc2 _ _ _ hH hS (zLs.store1 (zcv_cat B aS) rfl hL.1 hl2))
  · rename_i x s2
    exact lv_astore_n hx hb hdg hk hL.has (by have h9 := hz.1; rw [hL.1] at h9; exact h9) rfl (fun ls2 hl2 => hz.2 hc1 hc2 _ _ _ hH hS (zLs.store1 (x := .retAddr x) (zcv_cat B aS) rfl hL.1 hl2))
  · exact hz.elim
theorem s_astore {j : Nat}  (hx : p.tables.exec = Jvm.exec) (hb : c.code = cc) (hdg : decode cc pc = .ok (.astore a, 2))  (hz : zex1 (wX p l e R s m args below meth c Q B D cl dA aS nL bc bs) (.astore j, pc + 2, a, b, d, v) L st h cn sn) : wX p l e R s m args below meth c Q B D cl dA aS nL bc bs pc L st h cn sn := by
  intro hc1 hc2 H locs lsA hH hS hL
  unfold zex1 at hz
  dsimp only at hz
  split at hz
  · exact lv_astore hx hb hdg  hL.has (by have h9 := hz.1; rw [hL.1] at h9; exact h9) rfl (fun ls2 hl2 => hz.2 hc1 hc2 _ _ _ hH hS (zLs.store1 (zcv_cat B aS) rfl hL.1 hl2))
  · exact lv_astoreN hx hb hdg  hL.has (by have h9 := hz.1; rw [hL.1] at h9; exact h9) rfl (fun ls2 hl2 => hz.2 hc1 hc2 _ _ _ hH hS (zLs.store1 (zcv_cat B aS) rfl hL.1 hl2))
  · rename_i x s2
    exact lv_astore hx hb hdg  hL.has (by have h9 := hz.1; rw [hL.1] at h9; exact h9) rfl (fun ls2 hl2 => hz.2 hc1 hc2 _ _ _ hH hS (zLs.store1 (x := .retAddr x) (zcv_cat B aS) rfl hL.1 hl2))
  · exact hz.elim
theorem s_iinc {i z : Int} {j : Nat} (hx : p.tables.exec = Jvm.exec) (hb : c.code = cc) (hdg : decode cc pc = .ok (.iinc a i, 3)) (hv : v = .int (Int32.ofInt i)) (hz : zex1 (wX p l e R s m args below meth c Q B D cl dA aS nL bc bs) (.iinc j z, pc + 3, a, b, d, v) L st h cn sn) : wX p l e R s m args below meth c Q B D cl dA aS nL bc bs pc L st h cn sn := by
  intro hc1 hc2 H locs lsA hH hS hL
  unfold zex1 at hz
  dsimp only at hz
  subst hv
  split at hz
  · rename_i x y h9 h8
    cases h8
    obtain ⟨k9, hk9⟩ := List.getElem?_of_mem (zlv_mem (f := zcv B aS) (nL := nL) (L := L) (q := (a, .int x)) |>.mpr ⟨by have h7 := hz.1; rw [hL.1] at h7; exact h7, _, h9, rfl⟩)
    exact lv_iinc hx hb hdg hL.has hk9 rfl (by have h9 := hz.1; rw [hL.1] at h9; exact h9) rfl (fun ls2 hl2 => hz.2 hc1 hc2 _ _ _ hH hS (zLs.store1 (zcv_cat B aS) rfl hL.1 hl2))
  · exact hz.elim
theorem s_pop  (hx : p.tables.exec = Jvm.exec) (hb : c.code = cc) (hdg : decode cc pc = .ok (.pop, 1))  (hz : zex1 (wX p l e R s m args below meth c Q B D cl dA aS nL bc bs) (.pop, pc + 1, a, b, d, v) L st h cn sn) : wX p l e R s m args below meth c Q B D cl dA aS nL bc bs pc L st h cn sn := by
  intro hc1 hc2 H locs lsA hH hS hL
  unfold zex1 at hz
  dsimp only at hz
  split at hz
  · exact lv_pop hx hb hdg (by rw [zcv_cat]; exact hz.1) (hz.2 hc1 hc2 _ _ _ hH hS hL)
  · exact hz.elim
theorem s_dup  (hx : p.tables.exec = Jvm.exec) (hb : c.code = cc) (hdg : decode cc pc = .ok (.dup, 1))  (hz : zex1 (wX p l e R s m args below meth c Q B D cl dA aS nL bc bs) (.dup, pc + 1, a, b, d, v) L st h cn sn) : wX p l e R s m args below meth c Q B D cl dA aS nL bc bs pc L st h cn sn := by
  intro hc1 hc2 H locs lsA hH hS hL
  unfold zex1 at hz
  dsimp only at hz
  split at hz
  · exact lv_dup hx hb hdg (by rw [zcv_cat]; exact hz.1) (hz.2 hc1 hc2 _ _ _ hH hS hL)
  · exact hz.elim
theorem s_dup_x1  (hx : p.tables.exec = Jvm.exec) (hb : c.code = cc) (hdg : decode cc pc = .ok (.dup_x1, 1))  (hz : zex1 (wX p l e R s m args below meth c Q B D cl dA aS nL bc bs) (.dup_x1, pc + 1, a, b, d, v) L st h cn sn) : wX p l e R s m args below meth c Q B D cl dA aS nL bc bs pc L st h cn sn := by
  intro hc1 hc2 H locs lsA hH hS hL
  unfold zex1 at hz
  dsimp only at hz
  split at hz
  · exact lv_dup_x1 hx hb hdg (by rw [zcv_cat]; exact hz.1) (by rw [zcv_cat]; exact hz.2.1) (hz.2.2 hc1 hc2 _ _ _ hH hS hL)
  · exact hz.elim
theorem s_dup2  (hx : p.tables.exec = Jvm.exec) (hb : c.code = cc) (hdg : decode cc pc = .ok (.dup2, 1))  (hz : zex1 (wX p l e R s m args below meth c Q B D cl dA aS nL bc bs) (.dup2, pc + 1, a, b, d, v) L st h cn sn) : wX p l e R s m args below meth c Q B D cl dA aS nL bc bs pc L st h cn sn := by
  intro hc1 hc2 H locs lsA hH hS hL
  unfold zex1 at hz
  dsimp only at hz
  split at hz
  · exact lv_dup2_11 hx hb hdg (by rw [zcv_cat]; exact hz.1) (by rw [zcv_cat]; exact hz.2.1) (hz.2.2 hc1 hc2 _ _ _ hH hS hL)
  · exact hz.elim
theorem s_dupl  (hx : p.tables.exec = Jvm.exec) (hb : c.code = cc) (hdg : decode cc pc = .ok (.dup2, 1))  (hz : zex1 (wX p l e R s m args below meth c Q B D cl dA aS nL bc bs) (.dup2_x1, pc + 1, a, b, d, v) L st h cn sn) : wX p l e R s m args below meth c Q B D cl dA aS nL bc bs pc L st h cn sn := by
  intro hc1 hc2 H locs lsA hH hS hL
  unfold zex1 at hz
  dsimp only at hz
  split at hz
  · exact lv_dup2_2 hx hb hdg (by rw [zcv_cat]; exact hz.1) (hz.2 hc1 hc2 _ _ _ hH hS hL)
  · exact hz.elim
theorem s_iadd  (hx : p.tables.exec = Jvm.exec) (hb : c.code = cc) (hdg : decode cc pc = .ok (.iadd, 1))  (hz : zex1 (wX p l e R s m args below meth c Q B D cl dA aS nL bc bs) (.iadd, pc + 1, a, b, d, v) L st h cn sn) : wX p l e R s m args below meth c Q B D cl dA aS nL bc bs pc L st h cn sn := by
  intro hc1 hc2 H locs lsA hH hS hL
  unfold zex1 at hz
  dsimp only at hz
  split at hz <;> first | exact hz.elim | exact lv_iadd hx hb hdg (hz hc1 hc2 _ _ _ hH hS hL)
theorem s_isub  (hx : p.tables.exec = Jvm.exec) (hb : c.code = cc) (hdg : decode cc pc = .ok (.isub, 1))  (hz : zex1 (wX p l e R s m args below meth c Q B D cl dA aS nL bc bs) (.isub, pc + 1, a, b, d, v) L st h cn sn) : wX p l e R s m args below meth c Q B D cl dA aS nL bc bs pc L st h cn sn := by
  intro hc1 hc2 H locs lsA hH hS hL
  unfold zex1 at hz
  dsimp only at hz
  split at hz <;> first | exact hz.elim | exact lv_isub hx hb hdg (hz hc1 hc2 _ _ _ hH hS hL)
theorem s_imul  (hx : p.tables.exec = Jvm.exec) (hb : c.code = cc) (hdg : decode cc pc = .ok (.imul, 1))  (hz : zex1 (wX p l e R s m args below meth c Q B D cl dA aS nL bc bs) (.imul, pc + 1, a, b, d, v) L st h cn sn) : wX p l e R s m args below meth c Q B D cl dA aS nL bc bs pc L st h cn sn := by
  intro hc1 hc2 H locs lsA hH hS hL
  unfold zex1 at hz
  dsimp only at hz
  split at hz <;> first | exact hz.elim | exact lv_imul hx hb hdg (hz hc1 hc2 _ _ _ hH hS hL)
theorem s_iand  (hx : p.tables.exec = Jvm.exec) (hb : c.code = cc) (hdg : decode cc pc = .ok (.iand, 1))  (hz : zex1 (wX p l e R s m args below meth c Q B D cl dA aS nL bc bs) (.iand, pc + 1, a, b, d, v) L st h cn sn) : wX p l e R s m args below meth c Q B D cl dA aS nL bc bs pc L st h cn sn := by
  intro hc1 hc2 H locs lsA hH hS hL
  unfold zex1 at hz
  dsimp only at hz
  split at hz <;> first | exact hz.elim | exact lv_iand hx hb hdg (hz hc1 hc2 _ _ _ hH hS hL)
theorem s_ior  (hx : p.tables.exec = Jvm.exec) (hb : c.code = cc) (hdg : decode cc pc = .ok (.ior, 1))  (hz : zex1 (wX p l e R s m args below meth c Q B D cl dA aS nL bc bs) (.ior, pc + 1, a, b, d, v) L st h cn sn) : wX p l e R s m args below meth c Q B D cl dA aS nL bc bs pc L st h cn sn := by
  intro hc1 hc2 H locs lsA hH hS hL
  unfold zex1 at hz
  dsimp only at hz
  split at hz <;> first | exact hz.elim | exact lv_ior hx hb hdg (hz hc1 hc2 _ _ _ hH hS hL)
theorem s_ishl  (hx : p.tables.exec = Jvm.exec) (hb : c.code = cc) (hdg : decode cc pc = .ok (.ishl, 1))  (hz : zex1 (wX p l e R s m args below meth c Q B D cl dA aS nL bc bs) (.ishl, pc + 1, a, b, d, v) L st h cn sn) : wX p l e R s m args below meth c Q B D cl dA aS nL bc bs pc L st h cn sn := by
  intro hc1 hc2 H locs lsA hH hS hL
  unfold zex1 at hz
  dsimp only at hz
  split at hz <;> first | exact hz.elim | exact lv_ishl hx hb hdg (hz hc1 hc2 _ _ _ hH hS hL)
theorem s_ishr  (hx : p.tables.exec = Jvm.exec) (hb : c.code = cc) (hdg : decode cc pc = .ok (.ishr, 1))  (hz : zex1 (wX p l e R s m args below meth c Q B D cl dA aS nL bc bs) (.ishr, pc + 1, a, b, d, v) L st h cn sn) : wX p l e R s m args below meth c Q B D cl dA aS nL bc bs pc L st h cn sn := by
  intro hc1 hc2 H locs lsA hH hS hL
  unfold zex1 at hz
  dsimp only at hz
  split at hz <;> first | exact hz.elim | exact lv_ishr hx hb hdg (hz hc1 hc2 _ _ _ hH hS hL)
theorem s_ladd  (hx : p.tables.exec = Jvm.exec) (hb : c.code = cc) (hdg : decode cc pc = .ok (.ladd, 1))  (hz : zex1 (wX p l e R s m args below meth c Q B D cl dA aS nL bc bs) (.ladd, pc + 1, a, b, d, v) L st h cn sn) : wX p l e R s m args below meth c Q B D cl dA aS nL bc bs pc L st h cn sn := by
  intro hc1 hc2 H locs lsA hH hS hL
  unfold zex1 at hz
  dsimp only at hz
  split at hz <;> first | exact hz.elim | exact lv_ladd hx hb hdg (hz hc1 hc2 _ _ _ hH hS hL)
theorem s_lsub  (hx : p.tables.exec = Jvm.exec) (hb : c.code = cc) (hdg : decode cc pc = .ok (.lsub, 1))  (hz : zex1 (wX p l e R s m args below meth c Q B D cl dA aS nL bc bs) (.lsub, pc + 1, a, b, d, v) L st h cn sn) : wX p l e R s m args below meth c Q B D cl dA aS nL bc bs pc L st h cn sn := by
  intro hc1 hc2 H locs lsA hH hS hL
  unfold zex1 at hz
  dsimp only at hz
  split at hz <;> first | exact hz.elim | exact lv_lsub hx hb hdg (hz hc1 hc2 _ _ _ hH hS hL)
theorem s_lmul  (hx : p.tables.exec = Jvm.exec) (hb : c.code = cc) (hdg : decode cc pc = .ok (.lmul, 1))  (hz : zex1 (wX p l e R s m args below meth c Q B D cl dA aS nL bc bs) (.lmul, pc + 1, a, b, d, v) L st h cn sn) : wX p l e R s m args below meth c Q B D cl dA aS nL bc bs pc L st h cn sn := by
  intro hc1 hc2 H locs lsA hH hS hL
  unfold zex1 at hz
  dsimp only at hz
  split at hz <;> first | exact hz.elim | exact lv_lmul hx hb hdg (hz hc1 hc2 _ _ _ hH hS hL)
theorem s_land  (hx : p.tables.exec = Jvm.exec) (hb : c.code = cc) (hdg : decode cc pc = .ok (.land, 1))  (hz : zex1 (wX p l e R s m args below meth c Q B D cl dA aS nL bc bs) (.land, pc + 1, a, b, d, v) L st h cn sn) : wX p l e R s m args below meth c Q B D cl dA aS nL bc bs pc L st h cn sn := by
  intro hc1 hc2 H locs lsA hH hS hL
  unfold zex1 at hz
  dsimp only at hz
  split at hz <;> first | exact hz.elim | exact lv_land hx hb hdg (hz hc1 hc2 _ _ _ hH hS hL)
theorem s_lor  (hx : p.tables.exec = Jvm.exec) (hb : c.code = cc) (hdg : decode cc pc = .ok (.lor, 1))  (hz : zex1 (wX p l e R s m args below meth c Q B D cl dA aS nL bc bs) (.lor, pc + 1, a, b, d, v) L st h cn sn) : wX p l e R s m args below meth c Q B D cl dA aS nL bc bs pc L st h cn sn := by
  intro hc1 hc2 H locs lsA hH hS hL
  unfold zex1 at hz
  dsimp only at hz
  split at hz <;> first | exact hz.elim | exact lv_lor hx hb hdg (hz hc1 hc2 _ _ _ hH hS hL)
theorem s_lxor  (hx : p.tables.exec = Jvm.exec) (hb : c.code = cc) (hdg : decode cc pc = .ok (.lxor, 1))  (hz : zex1 (wX p l e R s m args below meth c Q B D cl dA aS nL bc bs) (.lxor, pc + 1, a, b, d, v) L st h cn sn) : wX p l e R s m args below meth c Q B D cl dA aS nL bc bs pc L st h cn sn := by
  intro hc1 hc2 H locs lsA hH hS hL
  unfold zex1 at hz
  dsimp only at hz
  split at hz <;> first | exact hz.elim | exact lv_lxor hx hb hdg (hz hc1 hc2 _ _ _ hH hS hL)
theorem s_lneg  (hx : p.tables.exec = Jvm.exec) (hb : c.code = cc) (hdg : decode cc pc = .ok (.lneg, 1))  (hz : zex1 (wX p l e R s m args below meth c Q B D cl dA aS nL bc bs) (.lneg, pc + 1, a, b, d, v) L st h cn sn) : wX p l e R s m args below meth c Q B D cl dA aS nL bc bs pc L st h cn sn := by
  intro hc1 hc2 H locs lsA hH hS hL
  unfold zex1 at hz
  dsimp only at hz
  split at hz <;> first | exact hz.elim | exact lv_lneg hx hb hdg (hz hc1 hc2 _ _ _ hH hS hL)
theorem s_idiv  (hx : p.tables.exec = Jvm.exec) (hb : c.code = cc) (hdg : decode cc pc = .ok (.idiv, 1))  (hz : zex1 (wX p l e R s m args below meth c Q B D cl dA aS nL bc bs) (.idiv, pc + 1, a, b, d, v) L st h cn sn) : wX p l e R s m args below meth c Q B D cl dA aS nL bc bs pc L st h cn sn := by
  intro hc1 hc2 H locs lsA hH hS hL
  unfold zex1 at hz
  dsimp only at hz
  split at hz <;> first | exact hz.elim | exact lv_idiv hx hb hdg hz.1 (hz.2 hc1 hc2 _ _ _ hH hS hL)
theorem s_ldiv  (hx : p.tables.exec = Jvm.exec) (hb : c.code = cc) (hdg : decode cc pc = .ok (.ldiv, 1))  (hz : zex1 (wX p l e R s m args below meth c Q B D cl dA aS nL bc bs) (.ldiv, pc + 1, a, b, d, v) L st h cn sn) : wX p l e R s m args below meth c Q B D cl dA aS nL bc bs pc L st h cn sn := by
  intro hc1 hc2 H locs lsA hH hS hL
  unfold zex1 at hz
  dsimp only at hz
  split at hz <;> first | exact hz.elim | exact lv_ldiv hx hb hdg hz.1 (hz.2 hc1 hc2 _ _ _ hH hS hL)
theorem s_lrem  (hx : p.tables.exec = Jvm.exec) (hb : c.code = cc) (hdg : decode cc pc = .ok (.lrem, 1))  (hz : zex1 (wX p l e R s m args below meth c Q B D cl dA aS nL bc bs) (.lrem, pc + 1, a, b, d, v) L st h cn sn) : wX p l e R s m args below meth c Q B D cl dA aS nL bc bs pc L st h cn sn := by
  intro hc1 hc2 H locs lsA hH hS hL
  unfold zex1 at hz
  dsimp only at hz
  split at hz <;> first | exact hz.elim | exact lv_lrem hx hb hdg hz.1 (hz.2 hc1 hc2 _ _ _ hH hS hL)
theorem s_lshl  (hx : p.tables.exec = Jvm.exec) (hb : c.code = cc) (hdg : decode cc pc = .ok (.lshl, 1))  (hz : zex1 (wX p l e R s m args below meth c Q B D cl dA aS nL bc bs) (.lshl, pc + 1, a, b, d, v) L st h cn sn) : wX p l e R s m args below meth c Q B D cl dA aS nL bc bs pc L st h cn sn := by
  intro hc1 hc2 H locs lsA hH hS hL
  unfold zex1 at hz
  dsimp only at hz
  split at hz <;> first | exact hz.elim | exact lv_lshl hx hb hdg rfl (hz hc1 hc2 _ _ _ hH hS hL)
theorem s_lshr  (hx : p.tables.exec = Jvm.exec) (hb : c.code = cc) (hdg : decode cc pc = .ok (.lshr, 1))  (hz : zex1 (wX p l e R s m args below meth c Q B D cl dA aS nL bc bs) (.lshr, pc + 1, a, b, d, v) L st h cn sn) : wX p l e R s m args below meth c Q B D cl dA aS nL bc bs pc L st h cn sn := by
  intro hc1 hc2 H locs lsA hH hS hL
  unfold zex1 at hz
  dsimp only at hz
  split at hz <;> first | exact hz.elim | exact lv_lshr hx hb hdg rfl (hz hc1 hc2 _ _ _ hH hS hL)
theorem s_i2l  (hx : p.tables.exec = Jvm.exec) (hb : c.code = cc) (hdg : decode cc pc = .ok (.i2l, 1))  (hz : zex1 (wX p l e R s m args below meth c Q B D cl dA aS nL bc bs) (.i2l, pc + 1, a, b, d, v) L st h cn sn) : wX p l e R s m args below meth c Q B D cl dA aS nL bc bs pc L st h cn sn := by
  intro hc1 hc2 H locs lsA hH hS hL
  unfold zex1 at hz
  dsimp only at hz
  split at hz <;> first | exact hz.elim | exact lv_i2l hx hb hdg rfl (hz hc1 hc2 _ _ _ hH hS hL)
theorem s_l2i  (hx : p.tables.exec = Jvm.exec) (hb : c.code = cc) (hdg : decode cc pc = .ok (.l2i, 1))  (hz : zex1 (wX p l e R s m args below meth c Q B D cl dA aS nL bc bs) (.l2i, pc + 1, a, b, d, v) L st h cn sn) : wX p l e R s m args below meth c Q B D cl dA aS nL bc bs pc L st h cn sn := by
  intro hc1 hc2 H locs lsA hH hS hL
  unfold zex1 at hz
  dsimp only at hz
  split at hz <;> first | exact hz.elim | exact lv_l2i hx hb hdg rfl (hz hc1 hc2 _ _ _ hH hS hL)
theorem s_i2b  (hx : p.tables.exec = Jvm.exec) (hb : c.code = cc) (hdg : decode cc pc = .ok (.i2b, 1))  (hz : zex1 (wX p l e R s m args below meth c Q B D cl dA aS nL bc bs) (.i2b, pc + 1, a, b, d, v) L st h cn sn) : wX p l e R s m args below meth c Q B D cl dA aS nL bc bs pc L st h cn sn := by
  intro hc1 hc2 H locs lsA hH hS hL
  unfold zex1 at hz
  dsimp only at hz
  split at hz <;> first | exact hz.elim | exact lv_i2b hx hb hdg rfl (hz hc1 hc2 _ _ _ hH hS hL)
theorem s_lcmp  (hx : p.tables.exec = Jvm.exec) (hb : c.code = cc) (hdg : decode cc pc = .ok (.lcmp, 1))  (hz : zex1 (wX p l e R s m args below meth c Q B D cl dA aS nL bc bs) (.lcmp, pc + 1, a, b, d, v) L st h cn sn) : wX p l e R s m args below meth c Q B D cl dA aS nL bc bs pc L st h cn sn := by
  intro hc1 hc2 H locs lsA hH hS hL
  unfold zex1 at hz
  dsimp only at hz
  split at hz <;> first | exact hz.elim | exact W.lcmp hx hb hdg (hz hc1 hc2 _ _ _ hH hS hL)
theorem s_goto {i z : Int} (hx : p.tables.exec = Jvm.exec) (hb : c.code = cc) (hdg : decode cc pc = .ok (.goto i, 3)) (ht : (pc : Int) + i = (a : Int)) (hz : zex1 (wX p l e R s m args below meth c Q B D cl dA aS nL bc bs) (.goto z, pc + 3, a, b, d, v) L st h cn sn) : wX p l e R s m args below meth c Q B D cl dA aS nL bc bs pc L st h cn sn := by
  intro hc1 hc2 H locs lsA hH hS hL
  unfold zex1 at hz
  dsimp only at hz
  exact lv_goto hx hb hdg ht (hz hc1 hc2 _ _ _ hH hS hL)
theorem s_if_eq {i z : Int} (hx : p.tables.exec = Jvm.exec) (hb : c.code = cc) (hdg : decode cc pc = .ok (.ifCond .eq i, 3)) (ht : (pc : Int) + i = (a : Int)) (hz : zex1 (wX p l e R s m args below meth c Q B D cl dA aS nL bc bs) (.ifCond .eq z, pc + 3, a, b, d, v) L st h cn sn) : wX p l e R s m args below meth c Q B D cl dA aS nL bc bs pc L st h cn sn := by
  intro hc1 hc2 H locs lsA hH hS hL
  unfold zex1 at hz
  dsimp only at hz
  split at hz <;> first | exact hz.elim | exact lv_if_eq hx hb hdg ht (fun q9 => hz.1 q9 hc1 hc2 _ _ _ hH hS hL) (fun q9 => hz.2 q9 hc1 hc2 _ _ _ hH hS hL)
theorem s_icmp_eq {i z : Int} (hx : p.tables.exec = Jvm.exec) (hb : c.code = cc) (hdg : decode cc pc = .ok (.if_icmp .eq i, 3)) (ht : (pc : Int) + i = (a : Int)) (hz : zex1 (wX p l e R s m args below meth c Q B D cl dA aS nL bc bs) (.if_icmp .eq z, pc + 3, a, b, d, v) L st h cn sn) : wX p l e R s m args below meth c Q B D cl dA aS nL bc bs pc L st h cn sn := by
  intro hc1 hc2 H locs lsA hH hS hL
  unfold zex1 at hz
  dsimp only at hz
  split at hz <;> first | exact hz.elim | exact lv_icmp_eq hx hb hdg ht (fun q9 => hz.1 q9 hc1 hc2 _ _ _ hH hS hL) (fun q9 => hz.2 q9 hc1 hc2 _ _ _ hH hS hL)
theorem s_if_ne {i z : Int} (hx : p.tables.exec = Jvm.exec) (hb : c.code = cc) (hdg : decode cc pc = .ok (.ifCond .ne i, 3)) (ht : (pc : Int) + i = (a : Int)) (hz : zex1 (wX p l e R s m args below meth c Q B D cl dA aS nL bc bs) (.ifCond .ne z, pc + 3, a, b, d, v) L st h cn sn) : wX p l e R s m args below meth c Q B D cl dA aS nL bc bs pc L st h cn sn := by
  intro hc1 hc2 H locs lsA hH hS hL
  unfold zex1 at hz
  dsimp only at hz
  split at hz <;> first | exact hz.elim | exact lv_if_ne hx hb hdg ht (fun q9 => hz.1 q9 hc1 hc2 _ _ _ hH hS hL) (fun q9 => hz.2 (by show ¬ ¬ _; exact fun z9 => z9 q9) hc1 hc2 _ _ _ hH hS hL)
theorem s_icmp_ne {i z : Int} (hx : p.tables.exec = Jvm.exec) (hb : c.code = cc) (hdg : decode cc pc = .ok (.if_icmp .ne i, 3)) (ht : (pc : Int) + i = (a : Int)) (hz : zex1 (wX p l e R s m args below meth c Q B D cl dA aS nL bc bs) (.if_icmp .ne z, pc + 3, a, b, d, v) L st h cn sn) : wX p l e R s m args below meth c Q B D cl dA aS nL bc bs pc L st h cn sn := by
  intro hc1 hc2 H locs lsA hH hS hL
  unfold zex1 at hz
  dsimp only at hz
  split at hz <;> first | exact hz.elim | exact lv_icmp_ne hx hb hdg ht (fun q9 => hz.1 q9 hc1 hc2 _ _ _ hH hS hL) (fun q9 => hz.2 (by show ¬ ¬ _; exact fun z9 => z9 q9) hc1 hc2 _ _ _ hH hS hL)
theorem s_if_lt {i z : Int} (hx : p.tables.exec = Jvm.exec) (hb : c.code = cc) (hdg : decode cc pc = .ok (.ifCond .lt i, 3)) (ht : (pc : Int) + i = (a : Int)) (hz : zex1 (wX p l e R s m args below meth c Q B D cl dA aS nL bc bs) (.ifCond .lt z, pc + 3, a, b, d, v) L st h cn sn) : wX p l e R s m args below meth c Q B D cl dA aS nL bc bs pc L st h cn sn := by
  intro hc1 hc2 H locs lsA hH hS hL
  unfold zex1 at hz
  dsimp only at hz
  split at hz <;> first | exact hz.elim | exact lv_if_lt hx hb hdg ht (fun q9 => hz.1 q9 hc1 hc2 _ _ _ hH hS hL) (fun q9 => hz.2 q9 hc1 hc2 _ _ _ hH hS hL)
theorem s_icmp_lt {i z : Int} (hx : p.tables.exec = Jvm.exec) (hb : c.code = cc) (hdg : decode cc pc = .ok (.if_icmp .lt i, 3)) (ht : (pc : Int) + i = (a : Int)) (hz : zex1 (wX p l e R s m args below meth c Q B D cl dA aS nL bc bs) (.if_icmp .lt z, pc + 3, a, b, d, v) L st h cn sn) : wX p l e R s m args below meth c Q B D cl dA aS nL bc bs pc L st h cn sn := by
  intro hc1 hc2 H locs lsA hH hS hL
  unfold zex1 at hz
  dsimp only at hz
  split at hz <;> first | exact hz.elim | exact lv_icmp_lt hx hb hdg ht (fun q9 => hz.1 q9 hc1 hc2 _ _ _ hH hS hL) (fun q9 => hz.2 q9 hc1 hc2 _ _ _ hH hS hL)
theorem s_if_ge {i z : Int} (hx : p.tables.exec = Jvm.exec) (hb : c.code = cc) (hdg : decode cc pc = .ok (.ifCond .ge i, 3)) (ht : (pc : Int) + i = (a : Int)) (hz : zex1 (wX p l e R s m args below meth c Q B D cl dA aS nL bc bs) (.ifCond .ge z, pc + 3, a, b, d, v) L st h cn sn) : wX p l e R s m args below meth c Q B D cl dA aS nL bc bs pc L st h cn sn := by
  intro hc1 hc2 H locs lsA hH hS hL
  unfold zex1 at hz
  dsimp only at hz
  split at hz <;> first | exact hz.elim | exact lv_if_ge hx hb hdg ht (fun q9 => hz.1 q9 hc1 hc2 _ _ _ hH hS hL) (fun q9 => hz.2 q9 hc1 hc2 _ _ _ hH hS hL)
theorem s_icmp_ge {i z : Int} (hx : p.tables.exec = Jvm.exec) (hb : c.code = cc) (hdg : decode cc pc = .ok (.if_icmp .ge i, 3)) (ht : (pc : Int) + i = (a : Int)) (hz : zex1 (wX p l e R s m args below meth c Q B D cl dA aS nL bc bs) (.if_icmp .ge z, pc + 3, a, b, d, v) L st h cn sn) : wX p l e R s m args below meth c Q B D cl dA aS nL bc bs pc L st h cn sn := by
  intro hc1 hc2 H locs lsA hH hS hL
  unfold zex1 at hz
  dsimp only at hz
  split at hz <;> first | exact hz.elim | exact lv_icmp_ge hx hb hdg ht (fun q9 => hz.1 q9 hc1 hc2 _ _ _ hH hS hL) (fun q9 => hz.2 q9 hc1 hc2 _ _ _ hH hS hL)
theorem s_if_gt {i z : Int} (hx : p.tables.exec = Jvm.exec) (hb : c.code = cc) (hdg : decode cc pc = .ok (.ifCond .gt i, 3)) (ht : (pc : Int) + i = (a : Int)) (hz : zex1 (wX p l e R s m args below meth c Q B D cl dA aS nL bc bs) (.ifCond .gt z, pc + 3, a, b, d, v) L st h cn sn) : wX p l e R s m args below meth c Q B D cl dA aS nL bc bs pc L st h cn sn := by
  intro hc1 hc2 H locs lsA hH hS hL
  unfold zex1 at hz
  dsimp only at hz
  split at hz <;> first | exact hz.elim | exact lv_if_gt hx hb hdg ht (fun q9 => hz.1 q9 hc1 hc2 _ _ _ hH hS hL) (fun q9 => hz.2 q9 hc1 hc2 _ _ _ hH hS hL)
theorem s_icmp_gt {i z : Int} (hx : p.tables.exec = Jvm.exec) (hb : c.code = cc) (hdg : decode cc pc = .ok (.if_icmp .gt i, 3)) (ht : (pc : Int) + i = (a : Int)) (hz : zex1 (wX p l e R s m args below meth c Q B D cl dA aS nL bc bs) (.if_icmp .gt z, pc + 3, a, b, d, v) L st h cn sn) : wX p l e R s m args below meth c Q B D cl dA aS nL bc bs pc L st h cn sn := by
  intro hc1 hc2 H locs lsA hH hS hL
  unfold zex1 at hz
  dsimp only at hz
  split at hz <;> first | exact hz.elim | exact lv_icmp_gt hx hb hdg ht (fun q9 => hz.1 q9 hc1 hc2 _ _ _ hH hS hL) (fun q9 => hz.2 q9 hc1 hc2 _ _ _ hH hS hL)
theorem s_if_le {i z : Int} (hx : p.tables.exec = Jvm.exec) (hb : c.code = cc) (hdg : decode cc pc = .ok (.ifCond .le i, 3)) (ht : (pc : Int) + i = (a : Int)) (hz : zex1 (wX p l e R s m args below meth c Q B D cl dA aS nL bc bs) (.ifCond .le z, pc + 3, a, b, d, v) L st h cn sn) : wX p l e R s m args below meth c Q B D cl dA aS nL bc bs pc L st h cn sn := by
  intro hc1 hc2 H locs lsA hH hS hL
  unfold zex1 at hz
  dsimp only at hz
  split at hz <;> first | exact hz.elim | exact lv_if_le hx hb hdg ht (fun q9 => hz.1 q9 hc1 hc2 _ _ _ hH hS hL) (fun q9 => hz.2 q9 hc1 hc2 _ _ _ hH hS hL)
theorem s_icmp_le {i z : Int} (hx : p.tables.exec = Jvm.exec) (hb : c.code = cc) (hdg : decode cc pc = .ok (.if_icmp .le i, 3)) (ht : (pc : Int) + i = (a : Int)) (hz : zex1 (wX p l e R s m args below meth c Q B D cl dA aS nL bc bs) (.if_icmp .le z, pc + 3, a, b, d, v) L st h cn sn) : wX p l e R s m args below meth c Q B D cl dA aS nL bc bs pc L st h cn sn := by
  intro hc1 hc2 H locs lsA hH hS hL
  unfold zex1 at hz
  dsimp only at hz
  split at hz <;> first | exact hz.elim | exact lv_icmp_le hx hb hdg ht (fun q9 => hz.1 q9 hc1 hc2 _ _ _ hH hS hL) (fun q9 => hz.2 q9 hc1 hc2 _ _ _ hH hS hL)
theorem s_ifnull {i z : Int} (hx : p.tables.exec = Jvm.exec) (hb : c.code = cc) (hdg : decode cc pc = .ok (.ifnull i, 3)) (ht : (pc : Int) + i = (a : Int)) (hz : zex1 (wX p l e R s m args below meth c Q B D cl dA aS nL bc bs) (.ifnull z, pc + 3, a, b, d, v) L st h cn sn) : wX p l e R s m args below meth c Q B D cl dA aS nL bc bs pc L st h cn sn := by
  intro hc1 hc2 H locs lsA hH hS hL
  unfold zex1 at hz
  dsimp only at hz
  split at hz
  · exact lv_ifnullN hx hb hdg ht (hz hc1 hc2 _ _ _ hH hS hL)
  · exact lv_ifnull hx hb hdg (hz hc1 hc2 _ _ _ hH hS hL)
  · exact hz.elim
theorem s_ifnonnull {i z : Int} (hx : p.tables.exec = Jvm.exec) (hb : c.code = cc) (hdg : decode cc pc = .ok (.ifnonnull i, 3)) (ht : (pc : Int) + i = (a : Int)) (hz : zex1 (wX p l e R s m args below meth c Q B D cl dA aS nL bc bs) (.ifnonnull z, pc + 3, a, b, d, v) L st h cn sn) : wX p l e R s m args below meth c Q B D cl dA aS nL bc bs pc L st h cn sn := by
  intro hc1 hc2 H locs lsA hH hS hL
  unfold zex1 at hz
  dsimp only at hz
  split at hz
  · exact lv_ifnonnullN hx hb hdg (hz hc1 hc2 _ _ _ hH hS hL)
  · exact lv_ifnonnull hx hb hdg ht (hz hc1 hc2 _ _ _ hH hS hL)
  · exact hz.elim
end SIM1
end
section
def zty : Nat → FieldType := fun k => match k with
  | 0 => .int
  | 1 => .boolean
  | 2 => .byte
  | 3 => .long
  | 4 => .array .int
  | _ => .object "TankBehind$Car"
def ztys (dA : Nat → ClassId) : List (ClassId × FieldType) := (List.range 6).map fun k => (dA k, zty k)
theorem ztys_get (dA : Nat → ClassId) {k : Nat} (hk : k < 6) : (ztys dA)[k]? = some (dA k, zty k) := by
  unfold ztys
  rw [List.getElem?_map, List.getElem?_range hk]
  rfl
theorem zP1 {D : va_G} {cl : List vw_C} {q : Nat × va_E} {H : Heap} (h : va_at D cl q H) : va_P D cl [q] H := by
  intro k x hx
  cases k with
  | zero => cases hx; exact h
  | succ k => cases hx
theorem zhR.set {B : Nat} {D : va_G} {cl : List vw_C} {dA : Nat → ClassId} {aS : Nat → Nat} {h : zH} {H H1 : Heap} {r : Nat} {e0 e1 : zC} (hH : zhR B D cl dA aS h H) (hr : h[r]? = some e0) (he : va_at D cl (B + r, zcE B dA aS e1) H1) (z : H1.size = H.size) (oq : ∀ q : Nat, q ≠ B + r → H1[q]? = H[q]?) : zhR B D cl dA aS (h.set r e1) H1 := by
  refine ⟨by rw [z, List.length_set]; exact hH.1, fun i e hi => ?_⟩
  rw [List.getElem?_set] at hi
  by_cases q : r = i
  · subst q
    rw [if_pos rfl] at hi
    rw [if_pos (List.getElem?_eq_some_iff.mp hr).1] at hi
    cases hi
    exact he
  · rw [if_neg q] at hi
    exact (hH.2 i e hi).kept (oq _ (by show B + i ≠ B + r; omega))
theorem zhR.app {B : Nat} {D : va_G} {cl : List vw_C} {dA : Nat → ClassId} {aS : Nat → Nat} {h es : zH} {H H1 : Heap} (hH : zhR B D cl dA aS h H) (he : ∀ (i : Nat) (e : zC), es[i]? = some e → va_at D cl (H.size + i, zcE B dA aS e) H1) (z : H1.size = H.size + es.length) (oq : ∀ q : Nat, q < H.size → H1[q]? = H[q]?) : zhR B D cl dA aS (h ++ es) H1 := by
  refine ⟨by rw [z, List.length_append, hH.1, Nat.add_assoc], fun i e hi => ?_⟩
  by_cases q : i < h.length
  · rw [List.getElem?_append_left q] at hi
    exact (hH.2 i e hi).kept (oq _ (by show B + i < H.size; rw [hH.1]; omega))
  · rw [List.getElem?_append_right (by omega)] at hi
    have h9 := he _ _ hi
    rw [show H.size + (i - h.length) = B + i by rw [hH.1]; omega] at h9
    exact h9
theorem zhR.push {B : Nat} {D : va_G} {cl : List vw_C} {dA : Nat → ClassId} {aS : Nat → Nat} {h : zH} {e : zC} {H H1 : Heap} (hH : zhR B D cl dA aS h H) (he : va_at D cl (H.size, zcE B dA aS e) H1) (z : H1.size = H.size + 1) (oq : ∀ q : Nat, q < H.size → H1[q]? = H[q]?) : zhR B D cl dA aS (h ++ [e]) H1 := by
  refine hH.app (fun i e2 hi => ?_) z oq
  cases i with
  | zero => cases hi; exact he
  | succ i => cases hi
theorem zS_push {A : Nat → Prop} {H0 H H1 : Heap} {locs : List Loc} (hS : va_S A H0 H locs) (z : H.size ≤ H1.size) (oq : ∀ q : Nat, q < H.size → H1[q]? = H[q]?) : va_S A H0 H1 locs := ⟨Nat.le_trans hS.1 z, fun x h1 h2 => (oq x (Nat.lt_of_lt_of_le h1 hS.1)).trans (hS.2.1 x h1 h2), hS.2.2⟩
theorem zrf_cv (B : Nat) (aS : Nat → Nat) (r : Option Nat) : zcv B aS (zrf r) = va_rf (r.map (fun a => B + a)) := by cases r <;> rfl
/-- what the classes' tables say -/
def zTT (tt : zT) (cl : List vw_C) (Ts : List Jvm.Cond) : Prop := ∀ (k : Nat) (q : vw_C), cl[k]? = some q → ∃ (ty : Nat → FieldType) (f : Nat → Bool), tt[k]? = some (ty, q.2.2, f) ∧ (∀ j, j < q.2.2 → parseFieldDescriptor (q.2.1 j).2.2.1 = some (ty j)) ∧ (∀ a, a < q.2.2 → ∀ b, b < q.2.2 → a ≠ b → (q.2.1 a).2.1 ≠ (q.2.1 b).2.1) ∧ ∀ w ∈ u_ws q.1 q.2.1 q.2.2, w ∈ Ts
theorem zfields_V (B : Nat) (aS : Nat → Nat) (ty : Nat → FieldType) {N j : Nat} (hj : j < N) : defaultValue (ty j) = vp_V ((zfields ty N).map (zcv B aS)) j := by
  unfold vp_V zfields
  rw [List.getD_eq_getElem?_getD, List.getElem?_map, List.getElem?_map, List.getElem?_range hj]
  show defaultValue (ty j) = zcv B aS (defaultValue (ty j))
  cases ty j <;> rfl
section SIM2
variable {p : Program} {l : Launch} {e : Env} {R : Room} {s : State} {m : MethodId} {args : Array Value} {below : List Frame} {meth : Method} {c : Code} {Q : State → Prop} {cc : ByteArray} {B : Nat} {D : va_G} {cl : List vw_C} {dA : Nat → ClassId} {aS : Nat → Nat} {nL bc bs pc : Nat}
variable {a b d : Nat} {v : Value} {L : zL} {st : List Value} {h : zH} {cn sn : Nat}
variable {tt : zT} {G : zG} {rt : Option FieldType} {M : zM} {ret : zQ} {Ts : List Jvm.Cond} {own : String}
theorem s_iaload (hx : p.tables.exec = Jvm.exec) (hb : c.code = cc) (hdg : decode cc pc = .ok (.iaload, 1)) (hK : va_K D cl (ztys dA) s) (hz : zex2 tt G bc bs rt M ret (wX p l e R s m args below meth c Q B D cl dA aS nL bc bs) (.iaload, pc + 1, a, b, d, v) L st h cn sn) : wX p l e R s m args below meth c Q B D cl dA aS nL bc bs pc L st h cn sn := by
  intro hc1 hc2 H locs lsA hH hS hL
  unfold zex2 at hz
  dsimp only at hz
  split at hz
  · obtain ⟨N, f, hr, hi, k⟩ := hz
    exact va_iald hx hb hK (zP1 (hH.2 _ _ hr)) 0 0 rfl (ztys_get dA (by omega)) hi hdg (k hc1 hc2 _ _ _ hH hS hL)
  · exact hz.elim
theorem s_baload (hx : p.tables.exec = Jvm.exec) (hb : c.code = cc) (hdg : decode cc pc = .ok (.baload, 1)) (hK : va_K D cl (ztys dA) s) (hz : zex2 tt G bc bs rt M ret (wX p l e R s m args below meth c Q B D cl dA aS nL bc bs) (.baload, pc + 1, a, b, d, v) L st h cn sn) : wX p l e R s m args below meth c Q B D cl dA aS nL bc bs pc L st h cn sn := by
  intro hc1 hc2 H locs lsA hH hS hL
  unfold zex2 at hz
  dsimp only at hz
  split at hz
  · obtain ⟨k0, N, f, hk, hr, hi, k⟩ := hz
    rcases hk with rfl | rfl
    · exact va_zald hx hb hK (zP1 (hH.2 _ _ hr)) 0 1 rfl (ztys_get dA (by omega)) hi hdg (k hc1 hc2 _ _ _ hH hS hL)
    · exact va_bald hx hb hK (zP1 (hH.2 _ _ hr)) 0 2 rfl (ztys_get dA (by omega)) hi hdg (k hc1 hc2 _ _ _ hH hS hL)
  · exact hz.elim
theorem s_laload (hx : p.tables.exec = Jvm.exec) (hb : c.code = cc) (hdg : decode cc pc = .ok (.laload, 1)) (hK : va_K D cl (ztys dA) s) (hz : zex2 tt G bc bs rt M ret (wX p l e R s m args below meth c Q B D cl dA aS nL bc bs) (.laload, pc + 1, a, b, d, v) L st h cn sn) : wX p l e R s m args below meth c Q B D cl dA aS nL bc bs pc L st h cn sn := by
  intro hc1 hc2 H locs lsA hH hS hL
  unfold zex2 at hz
  dsimp only at hz
  split at hz
  · obtain ⟨N, f, hr, hi, k⟩ := hz
    exact va_lald hx hb hK (zP1 (hH.2 _ _ hr)) 0 3 rfl (ztys_get dA (by omega)) hi hdg (k hc1 hc2 _ _ _ hH hS hL)
  · exact hz.elim
theorem zW_aald {k0 N : Nat} {f : Nat → Option Nat} {i : Int32} {r : Nat} {lsA : Array Slot} {H : Heap} {locs : List Loc} {rest : List Value} (hx : p.tables.exec = Jvm.exec) (hb : c.code = cc) (hdg : decode cc pc = .ok (.aaload, 1)) (hK : va_K D cl (ztys dA) s) (hk : k0 = 4 ∨ k0 = 5) (hH : zhR B D cl dA aS h H) (hr : h[r]? = some (.inl (k0, N, .inr (.inr (.inr (.inr f)))))) (hi : vp_in i N) (k : W p l e R s m args below meth c H locs cn sn Q (F0 m (pc + 1) lsA (zcv B aS (zrf (f i.toNatClampNeg)) :: rest))) : W p l e R s m args below meth c H locs cn sn Q (F0 m pc lsA (.int i :: .ref (B + r) :: rest)) := by
  have hlt : i.toNatClampNeg < N := Nat.not_le.mp fun q => hi (Or.inr q)
  have hat := hH.2 _ _ hr
  have ha : H[B + r]? = some (vp_cell (dA k0) (N, .inr (.inr (.inr (.inr (fun j => (f j).map (fun a => B + a))))))) := hat
  rw [zrf_cv] at k
  rcases hk with rfl | rfl
  · exact W.aald (v := va_rf ((f i.toNatClampNeg).map (fun a => B + a))) (ty := .array .int) hx hb ha ((hK.2 4 _ (ztys_get dA (by omega))).1 N (fun j => va_rf ((f j).map (fun a => B + a)))) rfl (fun q => by cases q) (by show ¬ (i < 0 ∨ (arrV _ _ _).slots.size ≤ _); rw [arrV_size]; exact hi) (by show (arrV _ _ _).slots[_]? = _; rw [arrV_read _ _ hlt]) rfl rfl hdg k
  · exact W.aald (v := va_rf ((f i.toNatClampNeg).map (fun a => B + a))) (ty := .object "TankBehind$Car") hx hb ha ((hK.2 5 _ (ztys_get dA (by omega))).1 N (fun j => va_rf ((f j).map (fun a => B + a)))) rfl (fun q => by cases q) (by show ¬ (i < 0 ∨ (arrV _ _ _).slots.size ≤ _); rw [arrV_size]; exact hi) (by show (arrV _ _ _).slots[_]? = _; rw [arrV_read _ _ hlt]) rfl rfl hdg k
theorem s_aaload (hx : p.tables.exec = Jvm.exec) (hb : c.code = cc) (hdg : decode cc pc = .ok (.aaload, 1)) (hK : va_K D cl (ztys dA) s) (hz : zex2 tt G bc bs rt M ret (wX p l e R s m args below meth c Q B D cl dA aS nL bc bs) (.aaload, pc + 1, a, b, d, v) L st h cn sn) : wX p l e R s m args below meth c Q B D cl dA aS nL bc bs pc L st h cn sn := by
  intro hc1 hc2 H locs lsA hH hS hL
  unfold zex2 at hz
  dsimp only at hz
  split at hz
  · obtain ⟨k0, N, f, hk, hr, hi, k⟩ := hz
    exact zW_aald hx hb hdg hK hk hH hr hi (k hc1 hc2 _ _ _ hH hS hL)
  · exact hz.elim
theorem s_alen (hx : p.tables.exec = Jvm.exec) (hb : c.code = cc) (hdg : decode cc pc = .ok (.arraylength, 1)) (hK : va_K D cl (ztys dA) s) (hz : zex2 tt G bc bs rt M ret (wX p l e R s m args below meth c Q B D cl dA aS nL bc bs) (.arraylength, pc + 1, a, b, d, v) L st h cn sn) : wX p l e R s m args below meth c Q B D cl dA aS nL bc bs pc L st h cn sn := by
  intro hc1 hc2 H locs lsA hH hS hL
  unfold zex2 at hz
  dsimp only at hz
  split at hz
  · obtain ⟨k0, N, x, hk, hr, k⟩ := hz
    refine va_alen hx hb hK (zP1 (hH.2 _ _ hr)) 0 k0 rfl (ztys_get dA hk) ?_ hdg (k hc1 hc2 _ _ _ hH hS hL)
    rcases x with x | x | x | x | x <;> rfl
  · exact hz.elim
theorem s_saload (hx : p.tables.exec = Jvm.exec) (hb : c.code = cc) (hdg : decode cc pc = .ok (.iaload, 1)) (hX : aS 0 < s.heap.size ∧ ¬ B ≤ aS 0 ∧ va_X (aS 0) G.2.2.1 G.2.2.2 s s.heap) (hz : zex2 tt G bc bs rt M ret (wX p l e R s m args below meth c Q B D cl dA aS nL bc bs) (.saload, pc + 1, a, b, d, v) L st h cn sn) : wX p l e R s m args below meth c Q B D cl dA aS nL bc bs pc L st h cn sn := by
  intro hc1 hc2 H locs lsA hH hS hL
  unfold zex2 at hz
  dsimp only at hz
  split at hz
  · obtain ⟨hi, k⟩ := hz
    exact va_sld hx hb hX.2.2 hX.1 hX.2.1 hS hi hdg (k hc1 hc2 _ _ _ hH hS hL)
  · exact hz.elim
theorem s_slen (hx : p.tables.exec = Jvm.exec) (hb : c.code = cc) (hdg : decode cc pc = .ok (.arraylength, 1)) (hX : aS 0 < s.heap.size ∧ ¬ B ≤ aS 0 ∧ va_X (aS 0) G.2.2.1 G.2.2.2 s s.heap) (hz : zex2 tt G bc bs rt M ret (wX p l e R s m args below meth c Q B D cl dA aS nL bc bs) (.i2s, pc + 1, a, b, d, v) L st h cn sn) : wX p l e R s m args below meth c Q B D cl dA aS nL bc bs pc L st h cn sn := by
  intro hc1 hc2 H locs lsA hH hS hL
  unfold zex2 at hz
  dsimp only at hz
  split at hz
  · exact va_slen hx hb hX.2.2 hX.1 hX.2.1 hS hdg (hz hc1 hc2 _ _ _ hH hS hL)
  · exact hz.elim
theorem s_iastore (hx : p.tables.exec = Jvm.exec) (hb : c.code = cc) (hdg : decode cc pc = .ok (.iastore, 1)) (hK : va_K D cl (ztys dA) s) (hz : zex2 tt G bc bs rt M ret (wX p l e R s m args below meth c Q B D cl dA aS nL bc bs) (.iastore, pc + 1, a, b, d, v) L st h cn sn) : wX p l e R s m args below meth c Q B D cl dA aS nL bc bs pc L st h cn sn := by
  intro hc1 hc2 H locs lsA hH hS hL
  unfold zex2 at hz
  dsimp only at hz
  split at hz
  · rename_i x i r s9
    obtain ⟨N, f, hr, hi, k⟩ := hz
    have ha : H[B + r]? = some (vp_cell (dA 0) (N, .inl f)) := hH.2 _ _ hr
    refine W.iast hx hb ha ((hK.2 0 _ (ztys_get dA (by omega))).1 N (fun j => .int (f j))) (fun q => by cases q) (by show ¬ (i < 0 ∨ (arrV _ _ _).slots.size ≤ _); rw [arrV_size]; exact hi) rfl rfl hdg fun H1 e9 z oq => ?_
    refine k hc1 hc2 _ _ _ (hH.set hr ?_ z oq) (hS.put z oq (Nat.le_add_right B r)) hL
    show H1[B + r]? = some (vp_cell _ _)
    rw [e9]
    rw [vp_cell_i, show zcA B (N, .inl (upd f i.toNatClampNeg x)) = (N, .inl (upd f i.toNatClampNeg x)) from rfl, vp_cell_i, arrV_store]
    congr 2
    funext q
    by_cases hq : q = i.toNatClampNeg
    · subst hq
      simp [updV, upd]
    · simp [updV, upd, hq]
  · exact hz.elim
theorem s_bastore (hx : p.tables.exec = Jvm.exec) (hb : c.code = cc) (hdg : decode cc pc = .ok (.bastore, 1)) (hK : va_K D cl (ztys dA) s) (hz : zex2 tt G bc bs rt M ret (wX p l e R s m args below meth c Q B D cl dA aS nL bc bs) (.bastore, pc + 1, a, b, d, v) L st h cn sn) : wX p l e R s m args below meth c Q B D cl dA aS nL bc bs pc L st h cn sn := by
  intro hc1 hc2 H locs lsA hH hS hL
  unfold zex2 at hz
  dsimp only at hz
  split at hz
  · rename_i x i r s9
    obtain ⟨k0, N, f, hk, hr, hi, k⟩ := hz
    have ha : H[B + r]? = some (vp_cell (dA k0) (N, .inl f)) := hH.2 _ _ hr
    rcases hk with rfl | rfl
    · refine W.zast hx hb ha ((hK.2 1 _ (ztys_get dA (by omega))).1 N (fun j => .int (f j))) (fun q => by cases q) (by show ¬ (i < 0 ∨ (arrV _ _ _).slots.size ≤ _); rw [arrV_size]; exact hi) rfl rfl hdg fun H1 e9 z oq => ?_
      refine k hc1 hc2 _ _ _ (hH.set hr ?_ z oq) (hS.put z oq (Nat.le_add_right B r)) hL
      show H1[B + r]? = some (vp_cell _ _)
      rw [e9]
      rw [vp_cell_i, show zcA B (N, .inl (upd f i.toNatClampNeg (vp_nar (if (1 : Nat) = 1 then .boolean else .byte) x))) = (N, .inl (upd f i.toNatClampNeg (vp_nar .boolean x))) from rfl, vp_cell_i, arrV_store]
      congr 2
      funext q
      by_cases hq : q = i.toNatClampNeg
      · subst hq
        simp [updV, upd, vp_nar]
        try rfl
      · simp [updV, upd, hq]
    · refine W.bast hx hb ha ((hK.2 2 _ (ztys_get dA (by omega))).1 N (fun j => .int (f j))) (fun q => by cases q) (by show ¬ (i < 0 ∨ (arrV _ _ _).slots.size ≤ _); rw [arrV_size]; exact hi) rfl rfl hdg fun H1 e9 z oq => ?_
      refine k hc1 hc2 _ _ _ (hH.set hr ?_ z oq) (hS.put z oq (Nat.le_add_right B r)) hL
      show H1[B + r]? = some (vp_cell _ _)
      rw [e9]
      rw [vp_cell_i, show zcA B (N, .inl (upd f i.toNatClampNeg (vp_nar (if (2 : Nat) = 1 then .boolean else .byte) x))) = (N, .inl (upd f i.toNatClampNeg (vp_nar .byte x))) from rfl, vp_cell_i, arrV_store]
      congr 2
      funext q
      by_cases hq : q = i.toNatClampNeg
      · subst hq
        simp [updV, upd, vp_nar]
        try rfl
      · simp [updV, upd, hq]
  · exact hz.elim
theorem s_lastore (hx : p.tables.exec = Jvm.exec) (hb : c.code = cc) (hdg : decode cc pc = .ok (.lastore, 1)) (hK : va_K D cl (ztys dA) s) (hz : zex2 tt G bc bs rt M ret (wX p l e R s m args below meth c Q B D cl dA aS nL bc bs) (.lastore, pc + 1, a, b, d, v) L st h cn sn) : wX p l e R s m args below meth c Q B D cl dA aS nL bc bs pc L st h cn sn := by
  intro hc1 hc2 H locs lsA hH hS hL
  unfold zex2 at hz
  dsimp only at hz
  split at hz
  · rename_i x i r s9
    obtain ⟨N, f, hr, hi, k⟩ := hz
    have ha : H[B + r]? = some (vp_cell (dA 3) (N, .inr (.inl f))) := hH.2 _ _ hr
    refine W.last hx hb ha ((hK.2 3 _ (ztys_get dA (by omega))).1 N (fun j => .long (f j))) (fun q => by cases q) (by show ¬ (i < 0 ∨ (arrV _ _ _).slots.size ≤ _); rw [arrV_size]; exact hi) rfl rfl hdg fun H1 e9 z oq => ?_
    refine k hc1 hc2 _ _ _ (hH.set hr ?_ z oq) (hS.put z oq (Nat.le_add_right B r)) hL
    show H1[B + r]? = some (vp_cell _ _)
    rw [e9]
    rw [vp_cell_l, show zcA B (N, .inr (.inl (vp_updL f i.toNatClampNeg x))) = (N, .inr (.inl (vp_updL f i.toNatClampNeg x))) from rfl, vp_cell_l, arrV_store]
    congr 2
    funext q
    by_cases hq : q = i.toNatClampNeg
    · subst hq
      simp [updV, vp_updL]
    · simp [updV, vp_updL, hq]
  · exact hz.elim
theorem s_getfield {C : String} {T : u_T} {N i : Nat} (hx : p.tables.exec = Jvm.exec) (hb : c.code = cc) (hdg : decode cc pc = .ok (.getfield i, 3)) (hts : ∀ w ∈ Ts, w.before args s = true) (hT : zTT tt cl Ts) (hown : s.vm.findClass own = some m.cls) (hK : va_K D cl (ztys dA) s) (hc : cl[a]? = some (C, T, N)) (hk : b < N) (hlink : (Jvm.Cond.fieldLink own i (T b).1 (T b).2.1 (T b).2.2.1).before args s = true) {z9 : Nat} (hz : zex2 tt G bc bs rt M ret (wX p l e R s m args below meth c Q B D cl dA aS nL bc bs) (.getfield z9, pc + 3, a, b, d, v) L st h cn sn) : wX p l e R s m args below meth c Q B D cl dA aS nL bc bs pc L st h cn sn := by
  intro hc1 hc2 H locs lsA hH hS hL
  unfold zex2 at hz
  dsimp only at hz
  split at hz
  · obtain ⟨fs, w, hr, hw, k⟩ := hz
    obtain ⟨ty, f, ht1, ht2, ht3, hin⟩ := hT a _ hc
    exact va_get (D := D) hx hb hts hin hown hK (zP1 (hH.2 _ _ hr)) 0 rfl hc b hk hlink (fun _ h9 => h9) (by rw [List.getElem?_map, hw]; rfl) hdg (k hc1 hc2 _ _ _ hH hS hL)
  · exact hz.elim
theorem s_putfield {C : String} {T : u_T} {N i : Nat} (hx : p.tables.exec = Jvm.exec) (hb : c.code = cc) (hdg : decode cc pc = .ok (.putfield i, 3)) (hts : ∀ w ∈ Ts, w.before args s = true) (hT : zTT tt cl Ts) (hown : s.vm.findClass own = some m.cls) (hK : va_K D cl (ztys dA) s) (hc : cl[a]? = some (C, T, N)) (hk : b < N) (hlink : (Jvm.Cond.fieldLink own i (T b).1 (T b).2.1 (T b).2.2.1).before args s = true) (hfin : (T b).2.2.2 = false ∨ (meth.name = "<init>" ∧ (T b).1 = own)) {z9 : Nat} (hz : zex2 tt G bc bs rt M ret (wX p l e R s m args below meth c Q B D cl dA aS nL bc bs) (.putfield z9, pc + 3, a, b, d, v) L st h cn sn) : wX p l e R s m args below meth c Q B D cl dA aS nL bc bs pc L st h cn sn := by
  intro hc1 hc2 H locs lsA hH hS hL
  unfold zex2 at hz
  dsimp only at hz
  split at hz
  · rename_i w r s9
    obtain ⟨fs, t, hr, hl, ht, hn, hf, k⟩ := hz
    obtain ⟨ty, f, ht1, ht2, ht3, hin⟩ := hT a _ hc
    rw [ht1] at ht
    have et : ty b = t := Option.some.inj ht
    subst et
    have hn' : narrow (ty b) (zcv B aS w) = zcv B aS w := by
      cases w <;> first | exact hn | (cases hty : ty b <;> rfl)
    have hf' : fits (ty b) (zcv B aS w) = true := by
      cases w <;> first | exact hf | (revert hf; cases ty b <;> first | exact fun q => q | (intro q; cases q))
    have hap := va_apart (own := own) hts hin ty ht2 ht3 hK hc
    obtain ⟨q0, h1, cell, q1, q2, q3, q4⟩ := hH.2 _ _ hr
    have hq0 : q0 = (C, T, N) := Option.some.inj (h1.symm.trans hc)
    subst hq0
    obtain ⟨hSl, hfc, kC, hkC, hkind⟩ := hK.1 a _ hc
    obtain ⟨cf, kf, fi, f2, hi, hsl⟩ := hSl b hk
    have hlay := u_lays hts hin hk
    have hst := (u_facts hfc hkC hlay hi).1
    have hln : b < (fs.map (zcv B aS)).length := by rw [List.length_map]; exact hl
    have fin : ∀ H' : Heap, H'[B + r]? = some (cell.setSlot (D.2 a b) (zcv B aS w)) → H'.size = H.size → (∀ q, q ≠ B + r → H'[q]? = H[q]?) → W p l e R s m args below meth c H' (locs ++ [⟨B + r, D.2 a b⟩]) cn sn Q (F0 m (pc + 3) lsA (s9.map (zcv B aS))) := by
      intro H' e1 e2 e3
      refine k hc1 hc2 _ _ _ (hH.set hr ?_ e2 e3) (hS.put e2 e3 (Nat.le_add_right B r)) hL
      show va_at D cl (B + r, .inr (a, (fs.set b w).map (zcv B aS))) H'
      rw [List.map_set]
      exact ⟨_, hc, t_OB.to (V := updV (vp_V (fs.map (zcv B aS))) b (zcv B aS w)) ⟨_, e1, q2, q3, t_set q4 hap hk _⟩ (fun j _ => vp_updV_set hln _ j)⟩
    rcases hfin with hfin | ⟨hin2, hdecl⟩
    · have hlay2 := hts _ (hin _ (u_in_lay hk))
      unfold u_lay at hlay2
      rw [if_neg (by rw [hfin]; decide)] at hlay2
      have h6 := u_store hfc hkC hkind hlay2 hi (ht2 b hk) hn' hf'
      refine W.putK hx hb (f := f2) ⟨hown, hlink, ⟨_, _, _, hi⟩, hst⟩ (by rw [q2]; exact h6) q1 q3 (by rw [hsl]; exact k2_hasslot (q4 b hk)) rfl rfl hdg fun H' e1 e2 e3 => ?_
      rw [hsl] at e1 ⊢
      exact fin H' e1 e2 e3
    · cases hfin2 : (T b).2.2.2 with
      | false =>
        have hlay2 := hts _ (hin _ (u_in_lay hk))
        unfold u_lay at hlay2
        rw [if_neg (by rw [hfin2]; decide)] at hlay2
        have h6 := u_store hfc hkC hkind hlay2 hi (ht2 b hk) hn' hf'
        refine W.putK hx hb (f := f2) ⟨hown, hlink, ⟨_, _, _, hi⟩, hst⟩ (by rw [q2]; exact h6) q1 q3 (by rw [hsl]; exact k2_hasslot (q4 b hk)) rfl rfl hdg fun H' e1 e2 e3 => ?_
        rw [hsl] at e1 ⊢
        exact fin H' e1 e2 e3
      | true =>
        have hlay2 := hts _ (hin _ (u_in_lay hk))
        unfold u_lay at hlay2
        rw [if_pos hfin2] at hlay2
        have hcf : m.cls = cf := by
          obtain ⟨_, _, c', _, _, _, -, -, hf', -, -, -, hown2, -⟩ := Cond.laysFinal_spec hlay2
          have e1 : c' = cf := by have := hi.symm.trans hf'; simp at this; exact this.1.symm
          rw [hdecl] at hown2
          rw [← e1]; exact Option.some.inj (hown.symm.trans hown2)
        have h6 := u_fits hfc hkC hkind (Or.inr hlay2) hi (ht2 b hk) hn' hf'
        refine W.putFinK hx hb hown hlink hi hst hcf hin2 (by rw [q2]; exact h6) q1 q3 (by rw [hsl]; exact k2_hasslot (q4 b hk)) rfl rfl hdg fun H' e1 e2 e3 => ?_
        rw [hsl] at e1 ⊢
        exact fin H' e1 e2 e3
  · exact hz.elim
theorem s_new {C : String} {T : u_T} {N i : Nat} (hx : p.tables.exec = Jvm.exec) (hb : c.code = cc) (hdg : decode cc pc = .ok (.new i, 3)) (hts : ∀ w ∈ Ts, w.before args s = true) (hT : zTT tt cl Ts) (hown : s.vm.findClass own = some m.cls) (hK : va_K D cl (ztys dA) s) (hc : cl[a]? = some (C, T, N)) (hR : bc ≤ R.cells ∧ bs ≤ R.slots) (hcl : (Jvm.Cond.classLink own i C).before args s = true) (hinst : (Jvm.Cond.instantiable C N).before args s = true) (hini : (Jvm.Cond.initialized C).before args s = true) {z9 : Nat} (hz : zex2 tt G bc bs rt M ret (wX p l e R s m args below meth c Q B D cl dA aS nL bc bs) (.new z9, pc + 3, a, b, d, v) L st h cn sn) : wX p l e R s m args below meth c Q B D cl dA aS nL bc bs pc L st h cn sn := by
  intro hc1 hc2 H locs lsA hH hS hL
  unfold zex2 at hz
  dsimp only at hz
  obtain ⟨g1, g2, k⟩ := hz
  obtain ⟨ty, f, ht1, ht2, ht3, hin⟩ := hT a _ hc
  have e0 : zcls tt a = zfields ty N := by unfold zcls; rw [ht1]
  have e2 : (zcls tt a).length = N := by rw [e0]; simp [zfields]
  rw [e2] at g2 k
  have hKn := hK.1 a _ hc
  refine W.newcK hx hb hown hcl hinst hini rfl hdg (by omega) (by omega) hKn.2.1 rfl fun H1 kC hkC e1 z1 o1 => ?_
  have h9 := k (by omega) (by omega) H1 locs lsA (hH.push (e := .inr (a, zcls tt a)) ?_ z1 o1) (zS_push hS (by omega) o1) hL
  · have e3 : (Value.ref h.length :: st).map (zcv B aS) = .ref H.size :: st.map (zcv B aS) := by rw [hH.1]; rfl
    rw [e3] at h9
    exact h9
  · refine ⟨_, hc, (u_born ty hts hin hKn hkC e1 ht2).to (fun j hj => ?_)⟩
    show defaultValue (ty j) = vp_V ((zcls tt a).map (zcv B aS)) j
    rw [e0]
    exact zfields_V B aS ty hj
theorem zat_arr {D : va_G} {cl : List vw_C} {q : Nat} {H : Heap} {k N : Nat} (hk : k < 6) (e1 : H[q]? = some (arrV (dA k) N (fun _ => defaultValue (zty k)))) : va_at D cl (q, zcE B dA aS (zarr k N)) H := by
  rcases (by omega : k = 0 ∨ k = 1 ∨ k = 2 ∨ k = 3 ∨ k = 4 ∨ k = 5) with rfl | rfl | rfl | rfl | rfl | rfl
  all_goals
    show H[q]? = some (vp_cell _ _)
    rw [e1]
  · rw [show zcA B (N, .inl (fun _ => (0 : Int32))) = (N, .inl (fun _ => (0 : Int32))) from rfl, vp_cell_i]; rfl
  · rw [show zcA B (N, .inl (fun _ => (0 : Int32))) = (N, .inl (fun _ => (0 : Int32))) from rfl, vp_cell_i]; rfl
  · rw [show zcA B (N, .inl (fun _ => (0 : Int32))) = (N, .inl (fun _ => (0 : Int32))) from rfl, vp_cell_i]; rfl
  · rw [show zcA B (N, .inr (.inl (fun _ => (0 : Int64)))) = (N, .inr (.inl (fun _ => (0 : Int64)))) from rfl, vp_cell_l]; rfl
  · rw [show zcA B (N, .inr (.inr (.inr (.inr (fun _ => (none : Option Nat)))))) = (N, .inr (.inr (.inr (.inr (fun _ => (none : Option Nat)))))) from rfl, vp_cell_q]; rfl
  · rw [show zcA B (N, .inr (.inr (.inr (.inr (fun _ => (none : Option Nat)))))) = (N, .inr (.inr (.inr (.inr (fun _ => (none : Option Nat)))))) from rfl, vp_cell_q]; rfl
theorem zRA_find {k : Nat} {cA : ClassId} (hk : k < 6) (hK : va_K D cl (ztys dA) s) (hf : s.vm.findClass ("[" ++ (zty k).toString) = some cA) : cA = dA k := by
  have h9 := (hK.2 k _ (ztys_get dA hk)).2
  rcases (by omega : k = 0 ∨ k = 1 ∨ k = 2 ∨ k = 3 ∨ k = 4 ∨ k = 5) with rfl | rfl | rfl | rfl | rfl | rfl
  · exact Option.some.inj (hf.symm.trans h9)
  · exact Option.some.inj (hf.symm.trans h9)
  · exact Option.some.inj (hf.symm.trans h9)
  · exact Option.some.inj (hf.symm.trans h9)
  · exact Option.some.inj (hf.symm.trans h9)
  · obtain ⟨kA, comp, h1, h2, h3, h4⟩ := h9
    exact Option.some.inj (hf.symm.trans h4)
theorem s_newarray {t : ArrayType} (hx : p.tables.exec = Jvm.exec) (hb : c.code = cc) (hdg : decode cc pc = .ok (.newarray t, 2)) (hK : va_K D cl (ztys dA) s) (hR : bc ≤ R.cells ∧ bs ≤ R.slots) (harr : (Jvm.Cond.arrayClass (newarray.typeOf t)).before args s = true) (hz : zex2 tt G bc bs rt M ret (wX p l e R s m args below meth c Q B D cl dA aS nL bc bs) (.newarray t, pc + 2, a, b, d, v) L st h cn sn) : wX p l e R s m args below meth c Q B D cl dA aS nL bc bs pc L st h cn sn := by
  intro hc1 hc2 H locs lsA hH hS hL
  unfold zex2 at hz
  dsimp only at hz
  split at hz
  · rename_i x s9
    obtain ⟨g0, g3, g1, g2, g4, k⟩ := hz
    have hty : newarray.typeOf t = zty (zkind t) ∧ zkind t < 6 ∧ componentBytes (newarray.typeOf t) ≤ 8 := by
      cases t <;> first | exact ⟨rfl, by decide, by decide⟩ | (exfalso; revert g4; decide)
    have hbytes : x.toNatClampNeg * componentBytes (newarray.typeOf t) ≤ 536870912 := Nat.le_trans (Nat.mul_le_mul g3 hty.2.2) (by decide)
    refine va_newaK hx hb harr rfl hdg rfl g0 rfl hbytes (by omega) (by omega) rfl fun H1 cA e1 z1 o1 hAr hNm => ?_
    rw [hty.1] at hNm e1
    have ec := zRA_find hty.2.1 hK hNm
    subst ec
    have h9 := k (by omega) (by omega) H1 locs lsA (hH.push (e := zarr (zkind t) x.toNatClampNeg) (zat_arr hty.2.1 e1) z1 o1) (zS_push hS (by omega) o1) hL
    have e3 : (Value.ref h.length :: s9).map (zcv B aS) = .ref H.size :: s9.map (zcv B aS) := by rw [hH.1]; rfl
    rw [e3] at h9
    exact h9
  · exact hz.elim
end SIM2
end
section
theorem ztoNat {i : Int} (h : 0 ≤ i) : ((i.toNat : Nat) : Int) = i := Int.toNat_of_nonneg h
def zPc (B : Nat) (D : va_G) (cl : List vw_C) (dA : Nat → ClassId) (aS : Nat → Nat) (Z : State → Prop) (as : List Value) (h : zH) : Array Value → State → Prop := va_Pc (as.map (zcv B aS)) (fun U => zhR B D cl dA aS h U.heap ∧ va_K D cl (ztys dA) U ∧ Z U)
def zQc (B : Nat) (D : va_G) (cl : List vw_C) (dA : Nat → ClassId) (aS : Nat → Nat) (K : zQ) : Array Value → State → Outcome → State → Prop := fun _ st o t => (∃ (w : Option Value) (h2 : zH), o = .returned (w.map (zcv B aS)) ∧ K w h2 ∧ zhR B D cl dA aS h2 t.heap) ∧ va_F (fun q => B ≤ q) st t
def zrm (d mc ms : Nat) : Room := { frames := d + 8, cells := mc, slots := ms, locals := d * 64 + 512 }
theorem zrm_loc (d mc ms : Nat) : (zrm d mc ms).locals = d * 64 + 512 := rfl
theorem zrm_fr (d mc ms : Nat) : (zrm d mc ms).frames = d + 8 := rfl
theorem zrm_ok {d mc ms nL2 : Nat} {R : Room} (h1 : d + 9 ≤ R.frames) (h2 : d * 64 + 576 ≤ R.locals) (h3 : nL2 ≤ 40) : (zrm d mc ms).frames + 1 ≤ R.frames ∧ 8 + (nL2 + 11) + (zrm d mc ms).locals ≤ R.locals := by
  have e1 := zrm_loc d mc ms
  have e2 := zrm_fr d mc ms
  generalize (zrm d mc ms).locals = x at e1 ⊢
  generalize (zrm d mc ms).frames = y at e2 ⊢
  generalize R.frames = f at h1 ⊢
  generalize R.locals = o at h2 ⊢
  generalize d * 64 = z at e1 h2
  exact ⟨by omega, by omega⟩
/-- what the callees of depth d are worth in the machine -/
def zMet (l : Launch) (nm : List (MethodName × ByteArray × Nat)) (G : zG) (B : Nat) (D : va_G) (cl : List vw_C) (dA : Nat → ClassId) (aS : Nat → Nat) (Z : State → Prop) (Ts : List Jvm.Cond) (d : Nat) (M : zM) : Prop := ∀ (j : Nat) (as : List Value) (h : zH) (K : zQ), M j as h K → ∀ (y : MethodName) (bytes : ByteArray) (np : Nat) (cd : zK) (nL : Nat) (rt : Option FieldType) (mc ms : Nat), nm[j]? = some (y, bytes, np) → G.1[j]? = some (cd, nL, rt, mc, ms) → Met l y (.code y bytes nL rt :: Ts) (zrm d mc ms) (zPc B D cl dA aS Z as h) (zQc B D cl dA aS K) mc ms (fun q => B ≤ q)
/-- what is known below the world's own cells, and stays -/
def zStays (B : Nat) (Z : State → Prop) : Prop := (∀ s U : State, s.WarmedH U.vm → s.heap.size ≤ U.heap.size → (∀ q : Nat, q < B → U.heap[q]? = s.heap[q]?) → Z s → Z U) ∧ ∀ U V : State, V.heap = U.heap → V.vm = U.vm → Z U → Z V
theorem zPc_blind {B : Nat} {D : va_G} {cl : List vw_C} {dA : Nat → ClassId} {aS : Nat → Nat} {Z : State → Prop} (hZ : zStays B Z) {as : List Value} {h : zH} : FrameBlind (zPc B D cl dA aS Z as h) := fun a U g mk q => ⟨q.1, q.2.1, va_K.moved (u := U) (U := U.calling g mk a) (Vm.Alike.refl U.vm) q.2.2.1, hZ.2 U _ rfl rfl q.2.2.2⟩
section SIM3
variable {p : Program} {l : Launch} {e : Env} {R : Room} {s : State} {m : MethodId} {args : Array Value} {below : List Frame} {meth : Method} {c : Code} {Q : State → Prop} {cc : ByteArray} {B : Nat} {D : va_G} {cl : List vw_C} {dA : Nat → ClassId} {aS : Nat → Nat} {nL bc bs pc : Nat}
variable {a b d : Nat} {v : Value} {L : zL} {st : List Value} {h : zH} {cn sn : Nat}
variable {tt : zT} {G : zG} {rt : Option FieldType} {M : zM} {ret : zQ} {Ts : List Jvm.Cond} {own : String} {Z : State → Prop}
theorem s_tableswitch {df lo hi dflt : Int} {tg offs : Array Int} {len : Nat} (hx : p.tables.exec = Jvm.exec) (hb : c.code = cc) (hdg : decode cc pc = .ok (.tableswitch dflt lo hi offs, len)) (h1 : df = (pc : Int) + dflt) (h2 : tg = offs.map (fun o => (pc : Int) + o)) (h3 : 0 ≤ df) (h4 : ∀ t ∈ tg, (0 : Int) ≤ t) {nx : Nat} (hz : zex2 tt G bc bs rt M ret (wX p l e R s m args below meth c Q B D cl dA aS nL bc bs) (.tableswitch df lo hi tg, nx, a, b, d, v) L st h cn sn) : wX p l e R s m args below meth c Q B D cl dA aS nL bc bs pc L st h cn sn := by
  intro hc1 hc2 H locs lsA hH hS hL
  unfold zex2 at hz
  dsimp only at hz
  split at hz
  · rename_i x s9
    by_cases q1 : x.toInt < lo ∨ hi < x.toInt
    · exact lv_tableOut hx hb hdg q1 (by rw [ztoNat h3, h1]) (hz.1 q1 hc1 hc2 _ _ _ hH hS hL)
    · have q2 : ¬ x.toInt < lo := fun q => q1 (Or.inl q)
      have q3 : ¬ hi < x.toInt := fun q => q1 (Or.inr q)
      obtain ⟨t, ht, k⟩ := hz.2 q2 q3
      have ht0 : 0 ≤ t := h4 t (Array.mem_of_getElem? ht)
      rw [h2, Array.getElem?_map] at ht
      obtain ⟨off, ho, rfl⟩ := Option.map_eq_some_iff.mp ht
      exact lv_tableIn hx hb hdg q2 q3 ho (by rw [ztoNat ht0]) (k hc1 hc2 _ _ _ hH hS hL)
  · exact hz.elim
theorem zoff_map (pc : Int) (x : Int) (df : Int) : ∀ ps : List (Int × Int), Op.lookupswitch.offset (ps.map (fun q => (q.1, pc + q.2))) (pc + df) x = pc + Op.lookupswitch.offset ps df x
  | [] => rfl
  | (k, o) :: r => by
    rw [List.map_cons]
    unfold Op.lookupswitch.offset
    by_cases q : k = x
    · rw [if_pos q, if_pos q]
    · rw [if_neg q, if_neg q]
      exact zoff_map pc x df r
theorem s_lookupswitch {df dflt : Int} {qs ps : Array (Int × Int)} {len : Nat} (hx : p.tables.exec = Jvm.exec) (hb : c.code = cc) (hdg : decode cc pc = .ok (.lookupswitch dflt ps, len)) (hp : (ps.toList.zip (ps.toList.drop 1)).all (fun (a, next) => a.1 < next.1) = true) (h1 : df = (pc : Int) + dflt) (h2 : qs.toList = ps.toList.map (fun q => (q.1, (pc : Int) + q.2))) (h3 : 0 ≤ df) (h4 : ∀ t ∈ qs.toList, (0 : Int) ≤ t.2) {nx : Nat} (hz : zex2 tt G bc bs rt M ret (wX p l e R s m args below meth c Q B D cl dA aS nL bc bs) (.lookupswitch df qs, nx, a, b, d, v) L st h cn sn) : wX p l e R s m args below meth c Q B D cl dA aS nL bc bs pc L st h cn sn := by
  intro hc1 hc2 H locs lsA hH hS hL
  unfold zex2 at hz
  dsimp only at hz
  split at hz
  · rename_i x s9
    have e1 : Op.lookupswitch.offset qs.toList df x.toInt = (pc : Int) + Op.lookupswitch.offset ps.toList dflt x.toInt := by rw [h2, h1, zoff_map]
    have e2 : ∀ (qs : List (Int × Int)) (df : Int), 0 ≤ df → (∀ t ∈ qs, (0 : Int) ≤ t.2) → 0 ≤ Op.lookupswitch.offset qs df x.toInt := by
      intro qs
      induction qs with
      | nil => intro df h3 _; exact h3
      | cons q r ih =>
        intro df h3 h4
        obtain ⟨k, o⟩ := q
        unfold Op.lookupswitch.offset
        by_cases q : k = x.toInt
        · rw [if_pos q]; exact h4 _ List.mem_cons_self
        · rw [if_neg q]; exact ih df h3 (fun t ht => h4 t (List.mem_cons_of_mem _ ht))
    have e3 := e2 qs.toList df h3 h4
    exact lv_lookup hx hb hdg hp rfl (by rw [ztoNat e3, e1]) (hz hc1 hc2 _ _ _ hH hS hL)
  · exact hz.elim
theorem s_objInit {i : Nat} (hx : p.tables.exec = Jvm.exec) (hb : c.code = cc) (hml : c.maxLocals = nL) (hdg : decode cc pc = .ok (.invokespecial i, 3)) (hown : s.vm.findClass own = some m.cls) (hlink : (Jvm.Cond.methodLink own i Lib.objectInit).before args s = true) (hinst : (Jvm.Cond.instanceMethod Lib.objectInit).before args s = true) (hcode : (Jvm.Cond.code Lib.objectInit ⟨#[0xb1]⟩ 1 none).before args s = true) (hR1 : 1 ≤ R.frames) (hR2 : 20 ≤ R.locals) (hz : zex2 tt G bc bs rt M ret (wX p l e R s m args below meth c Q B D cl dA aS nL bc bs) (.pop2, pc + 3, a, b, d, v) L st h cn sn) : wX p l e R s m args below meth c Q B D cl dA aS nL bc bs pc L st h cn sn := by
  intro hc1 hc2 H locs lsA hH hS hL
  unfold zex2 at hz
  dsimp only at hz
  split at hz
  · rename_i r s9
    have h8 : ((s9.map (zcv B aS)).map fun v => v.category).sum ≤ 8 := by rw [zcv_sum]; exact hz.1
    have h9 : 2 * (F0 m pc lsA ((Value.ref r :: s9).map (zcv B aS))).monitorRoom + ((s9.map (zcv B aS)).map fun v => v.category).sum ≤ 8 := lv_room h8
    exact W.objInit hx hb hown hlink hinst hcode rfl (hL.2.1.trans hml.symm) rfl hdg hR1 (by omega) (hz.2 hc1 hc2 _ _ _ hH hS hL)
  · exact hz.elim
/-- behind a call -/
theorem zcall {mc ms : Nat} {K : zQ} {arr : Array Value} {lsA : Array Slot} {st0 rest : List Value} {H : Heap} {locs : List Loc} (hr : va_Run p l e R s m args below meth c H locs cn sn mc ms (F0 m pc lsA st0) rest (zQc B D cl dA aS K arr) (fun q => B ≤ q)) (hS : va_S (fun q => B ≤ q) s.heap H locs)
    (kk : ∀ (w : Option Value) (h2 : zH) (H1 : Heap) (locs1 : List Loc), K w h2 → zhR B D cl dA aS h2 H1 → va_S (fun q => B ≤ q) s.heap H1 locs1 → W p l e R s m args below meth c H1 locs1 (cn + mc) (sn + ms) Q (F0 m (pc + 3) lsA ((w.map (zcv B aS)).toList ++ rest))) : W p l e R s m args below meth c H locs cn sn Q (F0 m pc lsA st0) := by
  intro T hT X
  obtain ⟨v9, st1, t, T', L9, h0, X', hL9, e1, e2, ⟨⟨w, h2, ho, hk, hh2⟩, hF1, hF2⟩, st9⟩ := hr T hT X
  rw [h0] at hF1 hF2
  cases ho
  obtain ⟨t2, a1, b1⟩ := kk w h2 T'.heap (locs ++ L9) hk (by rw [e1]; exact hh2) ⟨by rw [e1]; exact Nat.le_trans hS.1 hF1, fun q g1 g2 => by rw [e1, hF2 q (Nat.lt_of_lt_of_le g1 hS.1) g2]; exact hS.2.1 q g1 g2, fun q hq => by
    rcases List.mem_append.mp hq with h9 | h9
    · exact hS.2.2 q h9
    · exact hL9 q h9⟩ T' rfl X'
  exact ⟨t2, st9 t2 a1, b1⟩
theorem zcv_toList (w : Option Value) (s9 : List Value) : (w.toList ++ s9).map (zcv B aS) = (w.map (zcv B aS)).toList ++ s9.map (zcv B aS) := by cases w <;> rfl
/-- the callee's start, out of the caller's world -/
theorem zpre {as : List Value} {H : Heap} {locs : List Loc} (hZ : zStays B Z) (hBs : B ≤ s.heap.size) (hK : va_K D cl (ztys dA) s) (hZs : Z s) (hH : zhR B D cl dA aS h H) (hS : va_S (fun q => B ≤ q) s.heap H locs) (U : State) (hU : U.heap = H) (hW : s.WarmedH U.vm) : zPc B D cl dA aS Z as h (as.map (zcv B aS)).toArray U := by
  refine ⟨rfl, by rw [hU]; exact hH, va_K.moved hW.alike hK, hZ.1 s U hW (by rw [hU]; exact hS.1) (fun q hq => ?_) hZs⟩
  rw [hU]
  exact hS.2.1 q (by omega) (Nat.not_le.mpr hq)
theorem s_virt {nm : List (MethodName × ByteArray × Nat)} {y : MethodName} {bytes : ByteArray} {cd : zK} {nL2 mc ms i d9 : Nat} {rt2 : Option FieldType} {T : u_T} {N : Nat} (hx : p.tables.exec = Jvm.exec) (hb : c.code = cc) (hml : c.maxLocals = nL) (hdg : decode cc pc = .ok (.invokevirtual i, 3)) (hts : ∀ w ∈ Ts, w.before args s = true) (hG : GoodIn Ts Ts) (hown : s.vm.findClass own = some m.cls) (hK : va_K D cl (ztys dA) s) (hZ : zStays B Z) (hZs : Z s) (hBs : B ≤ s.heap.size) (hM : zMet l nm G B D cl dA aS Z Ts d9 M)
    (hR : bc ≤ R.cells ∧ bs ≤ R.slots) (hR1 : d9 + 9 ≤ R.frames) (hR2 : d9 * 64 + 576 ≤ R.locals) (h1 : nm[a]? = some (y, bytes, b)) (h2 : G.1[a]? = some (cd, nL2, rt2, mc, ms)) (h3 : nL2 ≤ 40) (hc : cl[d]? = some (y.cls, T, N)) (w1 : Jvm.Cond.methodLink own i y ∈ Ts) (w2 : Jvm.Cond.instanceMethod y ∈ Ts) (w3 : Jvm.Cond.selects y.cls y y ∈ Ts) (w4 : Jvm.Cond.initialized y.cls ∈ Ts) (w5 : Jvm.Cond.code y bytes nL2 rt2 ∈ Ts)
    (hd : y.cls ≠ "java/lang/invoke/MethodHandle" ∧ y.cls ≠ "java/lang/invoke/VarHandle" ∧ (parseMethodDescriptor y.desc).map (fun d => d.parameters.length) = some b) {z9 : Nat} (hz : zex2 tt G bc bs rt M ret (wX p l e R s m args below meth c Q B D cl dA aS nL bc bs) (.invokevirtual z9, pc + 3, a, b, d, v) L st h cn sn) : wX p l e R s m args below meth c Q B D cl dA aS nL bc bs pc L st h cn sn := by
  intro hc1 hc2 H locs lsA hH hS hL
  unfold zex2 at hz
  dsimp only at hz
  have hbud : zbud G a = (mc, ms) := by unfold zbud; rw [h2]
  rw [hbud] at hz
  split at hz
  · rename_i r s9 hdrop
    obtain ⟨g1, ⟨fs, g2⟩, g3, g4, g5, g6⟩ := hz
    have hst : st = (st.take b).reverse.reverse ++ .ref r :: s9 := by rw [List.reverse_reverse, ← hdrop, List.take_append_drop]
    generalize has : (st.take b).reverse = as at g6 hst
    have hlen : as.length = b := by rw [← has, List.length_reverse]; exact g1
    have hMet := hM a _ h _ g6 y bytes b cd nL2 rt2 mc ms h1 h2
    have hGc : GoodIn Ts (wsV own i y.cls y (.code y bytes nL2 rt2 :: Ts)) := fun w hw => by
      rcases List.mem_append.mp hw with q | q
      · rcases List.mem_cons.mp q with rfl | q
        · exact hG _ w1
        rcases List.mem_cons.mp q with rfl | q
        · exact hG _ w2
        rcases List.mem_cons.mp q with rfl | q
        · exact hG _ w3
        rcases List.mem_cons.mp q with rfl | q
        · exact hG _ w4
        cases q
      · rcases List.mem_cons.mp q with rfl | q
        · exact hG _ w5
        · exact hG _ q
    have h8 : ((s9.map (zcv B aS)).map fun v => v.category).sum ≤ 8 := by rw [zcv_sum]; exact g3
    have hstk : st.map (zcv B aS) = (as.map (zcv B aS)).reverse ++ .ref (B + r) :: s9.map (zcv B aS) := by rw [hst, List.map_append, List.map_reverse]; rfl
    refine zcall (va_runV (As := as.map (zcv B aS)) (rest := s9.map (zcv B aS)) ⟨hx, hb, hml, hown, hts⟩ hMet (cwV b hts hGc rfl rfl rfl ⟨rfl, hd⟩ (zrm_ok hR1 hR2 h3)) ⟨zPc_blind hZ, va_recv hK (zP1 (hH.2 _ _ g2)) (q0 := 0) hc rfl, fun U hU hW => zpre hZ hBs hK hZs hH hS U hU hW⟩ rfl (by rw [List.length_map]; exact hlen) hL.2.1 hstk (lv_room h8) hdg ⟨by omega, by omega⟩) hS (fun w h3 H1 locs1 hk hh2 hS2 => ?_)
    have h9 := hk (by omega) (by omega) H1 locs1 lsA hh2 hS2 hL
    rw [zcv_toList] at h9
    exact h9
  · exact hz.elim
theorem s_spec {nm : List (MethodName × ByteArray × Nat)} {y : MethodName} {bytes : ByteArray} {cd : zK} {nL2 mc ms i d9 : Nat} (hx : p.tables.exec = Jvm.exec) (hb : c.code = cc) (hml : c.maxLocals = nL) (hdg : decode cc pc = .ok (.invokespecial i, 3)) (hts : ∀ w ∈ Ts, w.before args s = true) (hG : GoodIn Ts Ts) (hown : s.vm.findClass own = some m.cls) (hK : va_K D cl (ztys dA) s) (hZ : zStays B Z) (hZs : Z s) (hBs : B ≤ s.heap.size) (hM : zMet l nm G B D cl dA aS Z Ts d9 M)
    (hR : bc ≤ R.cells ∧ bs ≤ R.slots) (hR1 : d9 + 9 ≤ R.frames) (hR2 : d9 * 64 + 576 ≤ R.locals) (h1 : nm[a]? = some (y, bytes, b)) (h2 : G.1[a]? = some (cd, nL2, none, mc, ms)) (h3 : nL2 ≤ 40) (w1 : Jvm.Cond.methodLink own i y ∈ Ts ∨ ∃ host, va_Nw (Jvm.Cond.methodLinkNest own i y host) s) (w2 : Jvm.Cond.instanceMethod y ∈ Ts) (w4 : Jvm.Cond.initialized y.cls ∈ Ts) (w5 : Jvm.Cond.code y bytes nL2 none ∈ Ts) (hy : y.name = "<init>")
    (hd : y.cls ≠ "java/lang/invoke/MethodHandle" ∧ y.cls ≠ "java/lang/invoke/VarHandle" ∧ (parseMethodDescriptor y.desc).map (fun d => d.parameters.length) = some b) {z9 : Nat} (hz : zex2 tt G bc bs rt M ret (wX p l e R s m args below meth c Q B D cl dA aS nL bc bs) (.invokespecial z9, pc + 3, a, b, d, v) L st h cn sn) : wX p l e R s m args below meth c Q B D cl dA aS nL bc bs pc L st h cn sn := by
  intro hc1 hc2 H locs lsA hH hS hL
  unfold zex2 at hz
  dsimp only at hz
  have hbud : zbud G a = (mc, ms) := by unfold zbud; rw [h2]
  rw [hbud] at hz
  split at hz
  · rename_i r s9 hdrop
    obtain ⟨g1, g3, g4, g5, g6⟩ := hz
    have hst : st = (st.take b).reverse.reverse ++ .ref r :: s9 := by rw [List.reverse_reverse, ← hdrop, List.take_append_drop]
    generalize has : (st.take b).reverse = as at g6 hst
    have hlen : as.length = b := by rw [← has, List.length_reverse]; exact g1
    have hMet := hM a _ h _ g6 y bytes b cd nL2 none mc ms h1 h2
    have hGc : GoodIn Ts (.code y bytes nL2 none :: Ts) := fun w hw => by
      rcases List.mem_cons.mp hw with rfl | q
      · exact hG _ w5
      · exact hG _ q
    have h8 : ((s9.map (zcv B aS)).map fun v => v.category).sum ≤ 8 := by rw [zcv_sum]; exact g3
    have hstk : st.map (zcv B aS) = (as.map (zcv B aS)).reverse ++ .ref (B + r) :: s9.map (zcv B aS) := by rw [hst, List.map_append, List.map_reverse]; rfl
    refine zcall (B := B) (D := D) (cl := cl) (dA := dA) (aS := aS) (K := fun w h2 => wX p l e R s m args below meth c Q B D cl dA aS nL bc bs (pc + 3) L (w.toList ++ s9) h2 (cn + mc) (sn + ms)) (mc := mc) (ms := ms) (rest := s9.map (zcv B aS)) (arr := (Value.ref (B + r) :: as.map (zcv B aS)).toArray) ?_ hS (fun w h3 H1 locs1 hk hh2 hS2 => ?_)
    · rcases w1 with w1 | ⟨host, w1⟩
      · exact va_runI (As := as.map (zcv B aS)) (rest := s9.map (zcv B aS)) ⟨hx, hb, hml, hown, hts⟩ hMet (cwI b hts hGc rfl rfl rfl (hts _ w4) (hts _ w1) (hts _ w2) hy hd (zrm_ok hR1 hR2 h3)) ⟨zPc_blind hZ, fun U hU hW => zpre hZ hBs hK hZs hH hS U hU hW⟩ rfl (by rw [List.length_map]; exact hlen) hL.2.1 hstk (lv_room h8) hdg ⟨by omega, by omega⟩
      · exact va_runIN (As := as.map (zcv B aS)) (rest := s9.map (zcv B aS)) ⟨hx, hb, hml, hown, hts⟩ hMet ⟨va_cnB b hts hGc rfl rfl rfl w1 (hts _ w4) hd (zrm_ok hR1 hR2 h3), hy, hts _ w2⟩ ⟨zPc_blind hZ, fun U hU hW => zpre hZ hBs hK hZs hH hS U hU hW⟩ rfl (by rw [List.length_map]; exact hlen) hL.2.1 hstk (lv_room h8) hdg ⟨by omega, by omega⟩
    · have h9 := hk (by omega) (by omega) H1 locs1 lsA hh2 hS2 hL
      rw [zcv_toList] at h9
      exact h9
  · exact hz.elim
theorem s_stat {nm : List (MethodName × ByteArray × Nat)} {y : MethodName} {bytes : ByteArray} {cd : zK} {nL2 mc ms i d9 : Nat} {rt2 : Option FieldType} (hx : p.tables.exec = Jvm.exec) (hb : c.code = cc) (hml : c.maxLocals = nL) (hdg : decode cc pc = .ok (.invokestatic i, 3)) (hts : ∀ w ∈ Ts, w.before args s = true) (hG : GoodIn Ts Ts) (hown : s.vm.findClass own = some m.cls) (hK : va_K D cl (ztys dA) s) (hZ : zStays B Z) (hZs : Z s) (hBs : B ≤ s.heap.size) (hM : zMet l nm G B D cl dA aS Z Ts d9 M)
    (hR : bc ≤ R.cells ∧ bs ≤ R.slots) (hR1 : d9 + 9 ≤ R.frames) (hR2 : d9 * 64 + 576 ≤ R.locals) (h1 : nm[a]? = some (y, bytes, b)) (h2 : G.1[a]? = some (cd, nL2, rt2, mc, ms)) (h3 : nL2 ≤ 40) (w1 : Jvm.Cond.methodLink own i y ∈ Ts ∨ ∃ host, va_Nw (Jvm.Cond.methodLinkNest own i y host) s) (w2 : Jvm.Cond.static y ∈ Ts) (w4 : Jvm.Cond.initialized y.cls ∈ Ts) (w5 : Jvm.Cond.code y bytes nL2 rt2 ∈ Ts)
    (hd : y.cls ≠ "java/lang/invoke/MethodHandle" ∧ y.cls ≠ "java/lang/invoke/VarHandle" ∧ (parseMethodDescriptor y.desc).map (fun d => d.parameters.length) = some b) {z9 : Nat} (hz : zex2 tt G bc bs rt M ret (wX p l e R s m args below meth c Q B D cl dA aS nL bc bs) (.invokestatic z9, pc + 3, a, b, d, v) L st h cn sn) : wX p l e R s m args below meth c Q B D cl dA aS nL bc bs pc L st h cn sn := by
  intro hc1 hc2 H locs lsA hH hS hL
  unfold zex2 at hz
  dsimp only at hz
  have hbud : zbud G a = (mc, ms) := by unfold zbud; rw [h2]
  rw [hbud] at hz
  obtain ⟨g1, g3, g4, g5, g6⟩ := hz
  have hst : st = (st.take b).reverse.reverse ++ st.drop b := by rw [List.reverse_reverse, List.take_append_drop]
  generalize has : (st.take b).reverse = as at g6 hst
  generalize hs9 : st.drop b = s9 at g6 g3 hst
  have hlen : as.length = b := by rw [← has, List.length_reverse]; exact g1
  have hMet := hM a _ h _ g6 y bytes b cd nL2 rt2 mc ms h1 h2
  have hGc : GoodIn Ts (.code y bytes nL2 rt2 :: Ts) := fun w hw => by
    rcases List.mem_cons.mp hw with rfl | q
    · exact hG _ w5
    · exact hG _ q
  have h8 : ((s9.map (zcv B aS)).map fun v => v.category).sum ≤ 8 := by rw [zcv_sum]; exact g3
  have hstk : st.map (zcv B aS) = (as.map (zcv B aS)).reverse ++ s9.map (zcv B aS) := by rw [hst, List.map_append, List.map_reverse]
  refine zcall (B := B) (D := D) (cl := cl) (dA := dA) (aS := aS) (K := fun w h2 => wX p l e R s m args below meth c Q B D cl dA aS nL bc bs (pc + 3) L (w.toList ++ s9) h2 (cn + mc) (sn + ms)) (mc := mc) (ms := ms) (rest := s9.map (zcv B aS)) (arr := (as.map (zcv B aS)).toArray) ?_ hS (fun w h3 H1 locs1 hk hh2 hS2 => ?_)
  · rcases w1 with w1 | ⟨host, w1⟩
    · refine va_runS (As := as.map (zcv B aS)) (rest := s9.map (zcv B aS)) ⟨hx, hb, hml, hown, hts⟩ hMet (va_cwS b hts (fun w hw => ?_) rfl rfl rfl hd (zrm_ok hR1 hR2 h3)) ⟨zPc_blind hZ, fun U hU hW => zpre hZ hBs hK hZs hH hS U hU hW⟩ rfl (by rw [List.length_map]; exact hlen) hL.2.1 hstk (lv_room h8) hdg ⟨by omega, by omega⟩
      rcases List.mem_append.mp hw with q | q
      · rcases List.mem_cons.mp q with rfl | q
        · exact hG _ w1
        rcases List.mem_cons.mp q with rfl | q
        · exact hG _ w2
        rcases List.mem_cons.mp q with rfl | q
        · exact hG _ w4
        cases q
      · exact hGc _ q
    · exact va_runSN (As := as.map (zcv B aS)) (rest := s9.map (zcv B aS)) ⟨hx, hb, hml, hown, hts⟩ hMet ⟨va_cnB b hts hGc rfl rfl rfl w1 (hts _ w4) hd (zrm_ok hR1 hR2 h3), hts _ w2, trivial⟩ ⟨zPc_blind hZ, fun U hU hW => zpre hZ hBs hK hZs hH hS U hU hW⟩ rfl (by rw [List.length_map]; exact hlen) hL.2.1 hstk (lv_room h8) hdg ⟨by omega, by omega⟩
  · have h9 := hk (by omega) (by omega) H1 locs1 lsA hh2 hS2 hL
    rw [zcv_toList] at h9
    exact h9
end SIM3
end
section
theorem zouter (c : ClassId) (N h0 : Nat) : ∀ i : Nat, Jvm.Free.Multi.outerC c N h0 i = arrV c N (fun j => va_rf (if j < i then some (h0 + 1 + j) else none))
  | 0 => by
    show ({ cls := c, slots := Array.replicate N .null, vm := .none } : Cell) = _
    rw [arrV_new]
    refine congrArg (arrV c N) (funext fun j => ?_)
    simp [va_rf]
  | i + 1 => by
    show (Jvm.Free.Multi.outerC c N h0 i).setSlot i (.ref (h0 + 1 + i)) = _
    rw [zouter c N h0 i, arrV_store]
    refine congrArg (arrV c N) (funext fun j => ?_)
    by_cases e : j = i
    · subst e
      simp [updV, va_rf]
    · by_cases h : j < i
      · simp [updV, e, h, Nat.lt_succ_of_lt h]
      · simp [updV, e, h, show ¬ j < i + 1 by omega]
section SIM4
variable {p : Program} {l : Launch} {e : Env} {R : Room} {s : State} {m : MethodId} {args : Array Value} {below : List Frame} {meth : Method} {c : Code} {Q : State → Prop} {cc : ByteArray} {B : Nat} {D : va_G} {cl : List vw_C} {dA : Nat → ClassId} {aS : Nat → Nat} {nL bc bs pc : Nat}
variable {a b d : Nat} {v : Value} {L : zL} {st : List Value} {h : zH} {cn sn : Nat}
variable {tt : zT} {G : zG} {rt : Option FieldType} {M : zM} {ret : zQ} {Ts : List Jvm.Cond} {own : String} {Z : State → Prop}
theorem s_anewarray {i : Nat} (hx : p.tables.exec = Jvm.exec) (hb : c.code = cc) (hdg : decode cc pc = .ok (.anewarray i, 3)) (hown : s.vm.findClass own = some m.cls) (hK : va_K D cl (ztys dA) s) (hR : bc ≤ R.cells ∧ bs ≤ R.slots) (hw : (a = 5 ∧ (Jvm.Cond.classLink own i "TankBehind$Car").before args s = true ∧ (Jvm.Cond.arrayOver (.object "TankBehind$Car")).before args s = true) ∨ (a = 4 ∧ (Jvm.Cond.classLink own i (FieldType.array .int).toString).before args s = true ∧ (Jvm.Cond.arrayOver (.array .int)).before args s = true)) {z9 : Nat} (hz : zex2 tt G bc bs rt M ret (wX p l e R s m args below meth c Q B D cl dA aS nL bc bs) (.anewarray z9, pc + 3, a, b, d, v) L st h cn sn) : wX p l e R s m args below meth c Q B D cl dA aS nL bc bs pc L st h cn sn := by
  intro hc1 hc2 H locs lsA hH hS hL
  unfold zex2 at hz
  dsimp only at hz
  split at hz
  · rename_i x s9
    obtain ⟨g0, g3, g1, g2, g4, k⟩ := hz
    have fin : ∀ cA : ClassId, s.vm.findClass ("[" ++ (zty a).toString) = some cA → a < 6 → (∀ (q : Nat) (H : Heap), H[q]? = some (arrV (dA a) x.toNatClampNeg (fun _ => .null)) → va_at D cl (q, zcE B dA aS (zarr a x.toNatClampNeg)) H) → W p l e R s m args below meth c (H.push { cls := cA, slots := Array.replicate x.toNatClampNeg .null, vm := .none }) locs (cn + 1) (sn + x.toNatClampNeg) Q (F0 m (pc + 3) lsA (.ref H.size :: s9.map (zcv B aS))) := by
      intro cA hf ha hat
      have ec := zRA_find ha hK hf
      subst ec
      generalize hH1 : H.push ({ cls := dA a, slots := Array.replicate x.toNatClampNeg .null, vm := .none } : Cell) = H1
      have z1 : H1.size = H.size + 1 := by rw [← hH1, Array.size_push]
      have e1 : H1[H.size]? = some (arrV (dA a) x.toNatClampNeg (fun _ => .null)) := by rw [← hH1, Array.getElem?_push_size, ← arrV_new]
      have o1 : ∀ q : Nat, q < H.size → H1[q]? = H[q]? := fun q hq => by rw [← hH1, Array.getElem?_push, if_neg (Nat.ne_of_lt hq)]
      have h9 := k (by omega) (by omega) H1 locs lsA (hH.push (e := zarr a x.toNatClampNeg) (hat _ _ e1) z1 o1) (zS_push hS (by omega) o1) hL
      have e3 : (Value.ref h.length :: s9).map (zcv B aS) = .ref H.size :: s9.map (zcv B aS) := by rw [hH.1]; rfl
      rw [e3] at h9
      exact h9
    rcases hw with ⟨rfl, hcl, hov⟩ | ⟨rfl, hcl, hov⟩
    · exact W.anew hx hb hown hcl hov rfl hdg rfl g0 (by omega) (by omega) (by omega) fun cA kA comp f1 f2 f3 f4 => fin cA f1 (by omega) (fun q H e1 => zat_arr (by omega) e1)
    · exact W.anewA hx hb hown hcl hov rfl hdg rfl g0 (by omega) (by omega) (by omega) fun cA kA comp f1 f2 f3 f4 => fin cA f1 (by omega) (fun q H e1 => zat_arr (by omega) e1)
  · exact hz.elim
theorem s_multi {i : Nat} (hx : p.tables.exec = Jvm.exec) (hb : c.code = cc) (hdg : decode cc pc = .ok (.multianewarray i 2, 4)) (hown : s.vm.findClass own = some m.cls) (hK : va_K D cl (ztys dA) s) (hR : bc ≤ R.cells ∧ bs ≤ R.slots) (hcl : (Jvm.Cond.classLink own i ("[" ++ (FieldType.array .int).toString)).before args s = true) (hov : (Jvm.Cond.arrayOver (.array .int)).before args s = true) (harr : (Jvm.Cond.arrayClass .int).before args s = true) {z9 y9 : Nat} (hz : zex2 tt G bc bs rt M ret (wX p l e R s m args below meth c Q B D cl dA aS nL bc bs) (.multianewarray z9 y9, pc + 4, a, b, d, v) L st h cn sn) : wX p l e R s m args below meth c Q B D cl dA aS nL bc bs pc L st h cn sn := by
  intro hc1 hc2 H locs lsA hH hS hL
  unfold zex2 at hz
  dsimp only at hz
  split at hz
  · rename_i y x s9
    obtain ⟨g0, g5, g3, g4, g1, g2, k⟩ := hz
    intro T hT X
    obtain ⟨vm₁, cA, comp, -, fA, fC, hO, -, X', step⟩ := X.multianewarray2F hx hown hcl hov harr (g := F0 m pc lsA ((Value.int y :: Value.int x :: s9).map (zcv B aS))) rfl (by rw [hb]; exact hdg) rfl g0 g5 (by omega) (by show _ * 4 ≤ _; omega) (by omega) rfl rfl (by omega) (by omega)
    have ea : cA = dA 4 := zRA_find (k := 4) (by omega) hK fA
    have ec : comp = dA 0 := zRA_find (k := 0) (by omega) hK fC
    subst ea
    subst ec
    generalize hF : Jvm.Free.Multi.fill (T.setVm vm₁) (dA 4) (dA 0) x.toNatClampNeg y.toNatClampNeg (defaultValue .int) x.toNatClampNeg = F at X' step
    have hTh : (T.setVm vm₁).heap = H := hT
    obtain ⟨f1, f2, -, -⟩ := Jvm.Free.Multi.fill_facts (T.setVm vm₁) (dA 4) (dA 0) x.toNatClampNeg y.toNatClampNeg (defaultValue .int) x.toNatClampNeg
    rw [hF, hTh] at f1 f2
    have hold : ∀ q : Nat, q < H.size → F.heap[q]? = H[q]? := fun q hq => by
      have := Jvm.Free.Multi.fill_old (T.setVm vm₁) (dA 4) (dA 0) x.toNatClampNeg y.toNatClampNeg (defaultValue .int) (a := q) (by rw [hTh]; exact hq) x.toNatClampNeg
      rw [hF, hTh] at this
      exact this
    have hrow : ∀ j : Nat, j < x.toNatClampNeg → F.heap[H.size + 1 + j]? = some (Jvm.Free.Multi.innerC (dA 0) y.toNatClampNeg (defaultValue .int)) := fun j hj => by
      have := Jvm.Free.Multi.fill_inner (T.setVm vm₁) (dA 4) (dA 0) x.toNatClampNeg y.toNatClampNeg (defaultValue .int) x.toNatClampNeg j hj
      rw [hF, hTh] at this
      exact this
    rw [zouter] at f2
    have hlen : (zrows h.length x.toNatClampNeg y.toNatClampNeg).length = 1 + x.toNatClampNeg := by
      unfold zrows
      rw [List.length_cons, List.length_replicate, Nat.add_comm]
    have hnew : zhR B D cl dA aS (h ++ zrows h.length x.toNatClampNeg y.toNatClampNeg) F.heap := by
      refine hH.app (fun j e9 he9 => ?_) (by rw [f1, hlen]; omega) hold
      unfold zrows at he9
      cases j with
      | zero =>
        cases he9
        show F.heap[H.size + 0]? = some (vp_cell _ _)
        rw [Nat.add_zero, f2]
        rw [show zcA B (x.toNatClampNeg, .inr (.inr (.inr (.inr (fun i => if i < x.toNatClampNeg then some (h.length + 1 + i) else none))))) = (x.toNatClampNeg, .inr (.inr (.inr (.inr (fun j => (if j < x.toNatClampNeg then some (h.length + 1 + j) else none).map (fun a => B + a)))))) from rfl, vp_cell_q]
        refine congrArg some (congrArg (arrV (dA 4) x.toNatClampNeg) (funext fun j => ?_))
        by_cases q : j < x.toNatClampNeg
        · rw [if_pos q, if_pos q, hH.1]
          show Value.ref (B + h.length + 1 + j) = Value.ref (B + (h.length + 1 + j))
          rw [Nat.add_assoc, Nat.add_assoc, Nat.add_assoc]
        · rw [if_neg q, if_neg q]
          rfl
      | succ j =>
        rw [List.getElem?_cons_succ, List.getElem?_replicate] at he9
        by_cases q : j < x.toNatClampNeg
        · rw [if_pos q] at he9
          cases he9
          show F.heap[H.size + (j + 1)]? = some (vp_cell _ _)
          rw [show H.size + (j + 1) = H.size + 1 + j by omega, hrow j q]
          rw [show zcA B (y.toNatClampNeg, .inl (fun _ => (0 : Int32))) = (y.toNatClampNeg, .inl (fun _ => (0 : Int32))) from rfl, vp_cell_i]
          exact congrArg some (arrV_new (dA 0) y.toNatClampNeg (.int 0))
        · rw [if_neg q] at he9
          cases he9
    have h9 := k (by omega) (by omega) F.heap locs lsA hnew (zS_push hS (by omega) hold) hL
    have e3 : (Value.ref h.length :: s9).map (zcv B aS) = .ref T.heap.size :: s9.map (zcv B aS) := by rw [hT, hH.1]; rfl
    rw [e3] at h9
    obtain ⟨t, a1, b1⟩ := h9 F rfl X'
    exact ⟨t, step t a1, b1⟩
  · exact hz.elim
end SIM4
end
section
/-! STRINGS: String.length and String.charAt of the constants, by their code -/
abbrev zRS : String := "java/lang/String"
abbrev zRL : String := "java/lang/StringLatin1"
abbrev zRP : String := "jdk/internal/util/Preconditions"
def zyLen : MethodName := ⟨zRS, "length", "()I"⟩
def zyCod : MethodName := ⟨zRS, "coder", "()B"⟩
def zyCh : MethodName := ⟨zRS, "charAt", "(I)C"⟩
def zyLat : MethodName := ⟨zRS, "isLatin1", "()Z"⟩
def zyCh1 : MethodName := ⟨zRL, "charAt", "([BI)C"⟩
def zyChk : MethodName := ⟨zRS, "checkIndex", "(II)V"⟩
def zyChP : MethodName := ⟨zRP, "checkIndex", "(IILjava/util/function/BiFunction;)I"⟩
abbrev zbLen : ByteArray := prog_17_method_54_code
abbrev zbCod : ByteArray := prog_17_method_152_code
abbrev zbCh : ByteArray := prog_17_method_56_code
abbrev zbLat : ByteArray := prog_17_method_154_code
abbrev zbCh1 : ByteArray := prog_18_method_2_code
abbrev zbChk : ByteArray := prog_17_method_155_code
abbrev zbChP : ByteArray := prog_22_method_11_code
/-- the words of these methods -/
def zSw : List Jvm.Cond := [.code zyLen zbLen 1 (some .int), .code zyCod zbCod 1 (some .byte), .code zyCh zbCh 2 (some .char), .code zyLat zbLat 1 (some .boolean), .code zyCh1 zbCh1 2 (some .char), .code zyChk zbChk 2 none, .code zyChP zbChP 3 (some .int),
  .fieldLink zRS 9 zRS "value" "[B", .methodLink zRS 335 zyCod, .instanceMethod zyCod, .selects zRS zyCod zyCod, .initialized zRS, .fieldLink zRS 38 zRS "COMPACT_STRINGS" "Z", .fieldLink zRS 15 zRS "coder" "B", .methodLink zRS 492 zyLat, .instanceMethod zyLat, .selects zRS zyLat zyLat, .methodLink zRS 495 zyCh1, .static zyCh1, .initialized zRL, .methodLink zRL 9 zyChk, .static zyChk,
  .fieldLink zRS 1053 zRP "SIOOBE_FORMATTER" "Ljava/util/function/BiFunction;", .methodLink zRS 1059 zyChP, .static zyChP, .initialized zRP, .instanceMethod zyLen, .selects zRS zyLen zyLen, .instanceMethod zyCh, .selects zRS zyCh zyCh,
  .static Lib.Math.max.name, .static Lib.Math.min.name, .static Lib.MathLoose.max_long.x, .static Lib.MathLoose.min_long.x, .initialized "java/lang/Math", .code Lib.Math.max.name Lib.Math.max.code 2 (some .int), .code Lib.Math.min.name Lib.Math.min.code 2 (some .int), .code Lib.MathLoose.max_long.x Lib.MathLoose.max_long.code 4 (some .long), .code Lib.MathLoose.min_long.x Lib.MathLoose.min_long.code 4 (some .long)]
/-- what is known of the constants' own objects -/
def zSt (B : Nat) (aS aV : Nat → Nat) (tx : Nat → List Int32) (U : State) : Prop := va_Z zRS "COMPACT_STRINGS" "Z" (.int 1) (fun q => B ≤ q) U U.heap ∧ va_Zq zRP "SIOOBE_FORMATTER" "Ljava/util/function/BiFunction;" (fun q => B ≤ q) U U.heap ∧ ∀ k : Nat, tx k ≠ [] → va_O zRS (aS k) (fun q => B ≤ q) U U.heap ∧ va_OF zRS "coder" "B" (.int 0) (aS k) (fun q => B ≤ q) U U.heap ∧ va_OF zRS "value" "[B" (.ref (aV k)) (aS k) (fun q => B ≤ q) U U.heap ∧ va_T .byte (aV k) (tx k).length (fun j => .int ((tx k).getD j 0)) (fun q => B ≤ q) U U.heap
def zJq (B : Nat) (v : Option Value) : Array Value → State → Outcome → State → Prop := fun _ st o t => o = .returned v ∧ t.heap = st.heap ∧ va_F (fun q => B ≤ q) st t
def zjm (d : Nat) : Room := { frames := d, cells := 0, slots := 0, locals := d * 64 }
/-- a method that makes nothing and changes nothing: on these arguments it answers so -/
def zJ (l : Launch) (B : Nat) (Z : State → Prop) (Ts : List Jvm.Cond) (d : Nat) (y : MethodName) (bytes : ByteArray) (nL : Nat) (rt : Option FieldType) (As : List Value) (v : Option Value) : Prop := Met l y (.code y bytes nL rt :: Ts) (zjm d) (va_Pc As Z) (zJq B v) 0 0 (fun q => B ≤ q)
theorem zJ_blind {B : Nat} {Z : State → Prop} (hZ : zStays B Z) {As : List Value} : FrameBlind (va_Pc As Z) := fun a U g mk q => ⟨q.1, hZ.2 U _ rfl rfl q.2⟩
theorem zJ_pre {B : Nat} {Z : State → Prop} {s : State} {H : Heap} {locs : List Loc} {As : List Value} (hZ : zStays B Z) (hBs : B ≤ s.heap.size) (hZs : Z s) (hS : va_S (fun q => B ≤ q) s.heap H locs) (U : State) (hU : U.heap = H) (hW : s.WarmedH U.vm) : va_Pc As Z As.toArray U := by
  refine ⟨rfl, hZ.1 s U hW (by rw [hU]; exact hS.1) (fun q hq => ?_) hZs⟩
  rw [hU]
  exact hS.2.1 q (by omega) (Nat.not_le.mpr hq)
theorem zJ_of {l : Launch} {B : Nat} {Z : State → Prop} {Ts : List Jvm.Cond} {d : Nat} {y : MethodName} {bytes : ByteArray} {nL : Nat} {rt : Option FieldType} {As : List Value} {v : Option Value} (hpl : plainName y.cls = true) (hl : (lg_sl As).length ≤ nL) (hB : ∀ s : State, Z s → B ≤ s.heap.size)
    (k : ∀ {p : Program} {e : Env} {R : Room} {s : State} {m : MethodId} {args : Array Value} {below : List Frame} {meth : Method} {c : Code} {Q : State → Prop} {ls : Array Slot}, p.tables.exec = Jvm.exec → c.code = bytes → c.maxLocals = nL → (∀ w ∈ Ts, w.before args s = true) → s.vm.findClass y.cls = some m.cls → Z s → B ≤ s.heap.size → R.frames = d ∧ R.locals = d * 64 → lv_has ls nL (lv_args 0 As) →
      (∀ (x : Int32) (t : FieldType) (pc : Nat) (lsA : Array Slot) (locs : List Loc), v = some (.int x) → rt = some t → narrow t (.int x) = .int x → va_S (fun q => B ≤ q) s.heap s.heap locs → decode bytes pc = .ok (.ireturn, 1) → W p l e R s m args below meth c s.heap locs 0 0 Q (F0 m pc lsA [.int x])) →
      (∀ (pc : Nat) (lsA : Array Slot) (locs : List Loc), v = none → rt = none → va_S (fun q => B ≤ q) s.heap s.heap locs → decode bytes pc = .ok (.return_, 1) → W p l e R s m args below meth c s.heap locs 0 0 Q (F0 m pc lsA [])) →
      W p l e R s m args below meth c s.heap [] 0 0 Q (F0 m 0 ls [])) : zJ l B Z Ts d y bytes nL rt As v := by
  refine Met.ofW (cc := bytes) (maxL := nL) (ret := rt) hpl rfl ?_
  intro p e s m args below meth c s₁ Bd hml hv
  obtain ⟨rfl, hZs⟩ := hv
  have hx := Bd.exec
  have hb := Bd.bytes
  have hr := Bd.returns
  have hts0 := atoms_spec (ws := .code y bytes nL rt :: Ts) Bd.pre
  have hts : ∀ w ∈ Ts, w.before As.toArray s = true := fun w hw => hts0 w (List.mem_cons_of_mem _ hw)
  have hown : s.vm.findClass y.cls = some m.cls := findClass_of_methodNamed Bd.named
  rw [lg_entry_eq]
  refine k hx hb hml hts hown hZs (hB s hZs) ⟨rfl, rfl⟩ (lv_entry As hl) ?_ ?_
  · intro x t pc lsA locs e1 e2 hn hS hdg
    subst e1
    subst e2
    exact W.zret hx hb hr hn (fun t ht hW => ⟨rfl, ht, hS.F ht⟩) hS.2.2 hdg
  · intro pc lsA locs e1 e2 hS hdg
    subst e1
    subst e2
    exact W.vret hx hb hr (fun t ht hW => ⟨rfl, ht, hS.F ht⟩) hS.2.2 hdg
section ZJ
variable {p : Program} {l : Launch} {e : Env} {R : Room} {s : State} {m : MethodId} {args : Array Value} {below : List Frame} {meth : Method} {c : Code} {Q : State → Prop} {cc : ByteArray} {B : Nat} {nL pc cn sn : Nat} {H : Heap} {locs : List Loc} {ls : Array Slot} {Ts : List Jvm.Cond} {own : String} {Z : State → Prop}
theorem zJcall {v : Option Value} {arr : Array Value} {st0 rest : List Value} (hr : va_Run p l e R s m args below meth c H locs cn sn 0 0 (F0 m pc ls st0) rest (zJq B v arr) (fun q => B ≤ q)) (hS : va_S (fun q => B ≤ q) s.heap H locs)
    (kk : ∀ locs1 : List Loc, va_S (fun q => B ≤ q) s.heap H locs1 → W p l e R s m args below meth c H locs1 cn sn Q (F0 m (pc + 3) ls (v.toList ++ rest))) : W p l e R s m args below meth c H locs cn sn Q (F0 m pc ls st0) := by
  intro T hT X
  obtain ⟨v9, st1, t, T', L9, h0, X', hL9, e1, e2, ⟨ho, hh, hF⟩, st9⟩ := hr T hT X
  cases ho
  have e3 : T'.heap = H := by rw [e1, hh, h0]
  obtain ⟨t2, a1, b1⟩ := kk (locs ++ L9) ⟨hS.1, hS.2.1, fun q hq => by
    rcases List.mem_append.mp hq with h9 | h9
    · exact hS.2.2 q h9
    · exact hL9 q h9⟩ T' e3 X'
  exact ⟨t2, st9 t2 a1, b1⟩
theorem zJstat {i nL2 d n : Nat} {y : MethodName} {bytes : ByteArray} {rt2 : Option FieldType} {As rest : List Value} {v : Option Value} {st0 : List Value} (hx : p.tables.exec = Jvm.exec) (hb : c.code = cc) (hml : c.maxLocals = nL) (hts : ∀ w ∈ Ts, w.before args s = true) (hG : GoodIn Ts Ts) (hown : s.vm.findClass own = some m.cls) (hZ : zStays B Z) (hZs : Z s) (hBs : B ≤ s.heap.size) (hS : va_S (fun q => B ≤ q) s.heap H locs) (hM : zJ l B Z Ts d y bytes nL2 rt2 As v) (hR1 : d + 1 ≤ R.frames) (hR2 : d * 64 + 64 ≤ R.locals) (h3 : nL2 ≤ 40)
    (w1 : Jvm.Cond.methodLink own i y ∈ Ts) (w2 : Jvm.Cond.static y ∈ Ts) (w4 : Jvm.Cond.initialized y.cls ∈ Ts) (w5 : Jvm.Cond.code y bytes nL2 rt2 ∈ Ts) (hd : y.cls ≠ "java/lang/invoke/MethodHandle" ∧ y.cls ≠ "java/lang/invoke/VarHandle" ∧ (parseMethodDescriptor y.desc).map (fun d => d.parameters.length) = some n) (hn : As.length = n) (hsz : ls.size = nL) (hst : st0 = As.reverse ++ rest) (h8 : (rest.map fun v => v.category).sum ≤ 8) (hdg : decode cc pc = .ok (.invokestatic i, 3)) (hc : cn ≤ R.cells ∧ sn ≤ R.slots)
    (kk : ∀ locs1 : List Loc, va_S (fun q => B ≤ q) s.heap H locs1 → W p l e R s m args below meth c H locs1 cn sn Q (F0 m (pc + 3) ls (v.toList ++ rest))) : W p l e R s m args below meth c H locs cn sn Q (F0 m pc ls st0) := by
  refine zJcall (v := v) (va_runS (As := As) (rest := rest) ⟨hx, hb, hml, hown, hts⟩ hM (va_cwS n hts (fun w hw => ?_) rfl rfl rfl hd ⟨hR1, by show 8 + (nL2 + 11) + d * 64 ≤ R.locals; omega⟩) ⟨zJ_blind hZ, fun U hU hW => zJ_pre hZ hBs hZs hS U hU hW⟩ rfl hn hsz hst (lv_room h8) hdg ⟨hc.1, hc.2⟩) hS kk
  rcases List.mem_append.mp hw with q | q
  · rcases List.mem_cons.mp q with rfl | q
    · exact hG _ w1
    rcases List.mem_cons.mp q with rfl | q
    · exact hG _ w2
    rcases List.mem_cons.mp q with rfl | q
    · exact hG _ w4
    cases q
  · rcases List.mem_cons.mp q with rfl | q
    · exact hG _ w5
    · exact hG _ q
theorem zJvirt {i nL2 d n b : Nat} {y : MethodName} {bytes : ByteArray} {rt2 : Option FieldType} {As rest : List Value} {v : Option Value} {st0 : List Value} (hx : p.tables.exec = Jvm.exec) (hb : c.code = cc) (hml : c.maxLocals = nL) (hts : ∀ w ∈ Ts, w.before args s = true) (hG : GoodIn Ts Ts) (hown : s.vm.findClass own = some m.cls) (hZ : zStays B Z) (hZs : Z s) (hBs : B ≤ s.heap.size) (hS : va_S (fun q => B ≤ q) s.heap H locs) (hM : zJ l B Z Ts d y bytes nL2 rt2 (.ref b :: As) v) (hR1 : d + 1 ≤ R.frames) (hR2 : d * 64 + 64 ≤ R.locals) (h3 : nL2 ≤ 40)
    (hO : va_O y.cls b (fun q => B ≤ q) s s.heap)
    (w1 : Jvm.Cond.methodLink own i y ∈ Ts) (w2 : Jvm.Cond.instanceMethod y ∈ Ts) (w3 : Jvm.Cond.selects y.cls y y ∈ Ts) (w4 : Jvm.Cond.initialized y.cls ∈ Ts) (w5 : Jvm.Cond.code y bytes nL2 rt2 ∈ Ts) (hd : y.cls ≠ "java/lang/invoke/MethodHandle" ∧ y.cls ≠ "java/lang/invoke/VarHandle" ∧ (parseMethodDescriptor y.desc).map (fun d => d.parameters.length) = some n) (hn : As.length = n) (hsz : ls.size = nL) (hst : st0 = As.reverse ++ .ref b :: rest) (h8 : (rest.map fun v => v.category).sum ≤ 8) (hdg : decode cc pc = .ok (.invokevirtual i, 3)) (hc : cn ≤ R.cells ∧ sn ≤ R.slots)
    (kk : ∀ locs1 : List Loc, va_S (fun q => B ≤ q) s.heap H locs1 → W p l e R s m args below meth c H locs1 cn sn Q (F0 m (pc + 3) ls (v.toList ++ rest))) : W p l e R s m args below meth c H locs cn sn Q (F0 m pc ls st0) := by
  have hGc : GoodIn Ts (wsV own i y.cls y (.code y bytes nL2 rt2 :: Ts)) := fun w hw => by
    rcases List.mem_append.mp hw with q | q
    · rcases List.mem_cons.mp q with rfl | q
      · exact hG _ w1
      rcases List.mem_cons.mp q with rfl | q
      · exact hG _ w2
      rcases List.mem_cons.mp q with rfl | q
      · exact hG _ w3
      rcases List.mem_cons.mp q with rfl | q
      · exact hG _ w4
      cases q
    · rcases List.mem_cons.mp q with rfl | q
      · exact hG _ w5
      · exact hG _ q
  have hrecv : ∃ cell : Cell, H[b]? = some cell ∧ cell.vm.isStatics = false ∧ s.vm.findClass y.cls = some cell.cls := by
    obtain ⟨cell, h1, h2, h3, -⟩ := hO.kept hS.2.1
    exact ⟨cell, h1, h2, h3⟩
  exact zJcall (v := v) (va_runV (As := As) (rest := rest) ⟨hx, hb, hml, hown, hts⟩ hM (cwV n hts hGc rfl rfl rfl ⟨rfl, hd⟩ ⟨hR1, by show 8 + (nL2 + 11) + d * 64 ≤ R.locals; omega⟩) ⟨zJ_blind hZ, hrecv, fun U hU hW => zJ_pre (As := .ref b :: As) hZ hBs hZs hS U hU hW⟩ rfl hn hsz hst (lv_room h8) hdg ⟨hc.1, hc.2⟩) hS kk
end ZJ
/-- what the text's int at a place is as a char -/
def zch (x : Int32) : Int32 := ((x &&& 255).toUInt32 % 65536).toInt32
section ZS
variable {B : Nat} {Z : State → Prop} {Ts : List Jvm.Cond} {aS aV : Nat → Nat} {tx : Nat → List Int32}
theorem zJ_chP (l : Launch) (hG : GoodIn Ts Ts) (hZ : zStays B Z) (hB : ∀ s : State, Z s → B ≤ s.heap.size) (hZS : ∀ s : State, Z s → zSt B aS aV tx s) (hw : ∀ w ∈ zSw, w ∈ Ts) {i n : Int32} {f : Value} (hf : f = .null ∨ ∃ t, f = .ref t) (h1 : ¬ i < 0) (h2 : i < n) : zJ l B Z Ts 1 zyChP zbChP 3 (some .int) [.int i, .int n, f] (some (.int i)) := by
  have hc : f.category = 1 := by rcases hf with rfl | ⟨t, rfl⟩ <;> rfl
  refine zJ_of (by decide +kernel) (by rcases hf with rfl | ⟨t, rfl⟩ <;> exact Nat.le_of_ble_eq_true rfl) hB ?_
  intro p e R s m args below meth c Q ls hx hb hml hts hown hZs hBs hR hL hzr hvr
  have e0 := lv_at hL 0 (i := 0) (v := .int i) rfl
  have e1 := lv_at hL 1 (i := 1) (v := .int n) rfl
  refine lv_iload_n hx hb (k := 0) (i := 0) (by decide +kernel) rfl e0 ?_
  refine lv_if_lt hx hb (off := 8) (tgt := 9) (by decide +kernel) (by decide) (fun q => absurd q h1) (fun _ => ?_)
  refine lv_iload_n hx hb (k := 0) (i := 0) (by decide +kernel) rfl e0 ?_
  refine lv_iload_n hx hb (k := 1) (i := 1) (by decide +kernel) rfl e1 ?_
  refine lv_icmp_lt hx hb (off := 10) (tgt := 16) (by decide +kernel) (by decide) (fun _ => ?_) (fun q => absurd h2 q)
  refine lv_iload_n hx hb (k := 0) (i := 0) (by decide +kernel) rfl e0 ?_
  exact hzr i .int _ _ _ rfl rfl rfl va_S.rf (by decide +kernel)
theorem zJ_chk (l : Launch) (hG : GoodIn Ts Ts) (hZ : zStays B Z) (hB : ∀ s : State, Z s → B ≤ s.heap.size) (hZS : ∀ s : State, Z s → zSt B aS aV tx s) (hw : ∀ w ∈ zSw, w ∈ Ts) {i n : Int32} (h1 : ¬ i < 0) (h2 : i < n) : zJ l B Z Ts 2 zyChk zbChk 2 none [.int i, .int n] none := by
  refine zJ_of (by decide +kernel) (Nat.le_of_ble_eq_true rfl) hB ?_
  intro p e R s m args below meth c Q ls hx hb hml hts hown hZs hBs hR hL hzr hvr
  have e0 := lv_at hL 0 (i := 0) (v := .int i) rfl
  have e1 := lv_at hL 1 (i := 1) (v := .int n) rfl
  obtain ⟨-, g2, -⟩ := hZS s hZs
  have fin : ∀ f : Value, (f = .null ∨ ∃ t, f = .ref t) → W p l e R s m args below meth c s.heap [] 0 0 Q (F0 m 5 ls [f, .int n, .int i]) := fun f hf => by
    refine zJstat (As := [.int i, .int n, f]) (rest := []) (v := some (.int i)) (n := 3) (y := zyChP) (bytes := zbChP) (nL2 := 3) (rt2 := some .int) (i := 1059) hx hb hml hts hG hown hZ hZs hBs va_S.rf (zJ_chP l hG hZ hB hZS hw hf h1 h2) (by omega) (by omega) (by decide) (hw _ (List.mem_of_getElem? (i := 23) rfl)) (hw _ (List.mem_of_getElem? (i := 24) rfl)) (hw _ (List.mem_of_getElem? (i := 25) rfl)) (hw _ (List.mem_of_getElem? (i := 6) rfl)) (by decide +kernel) rfl hL.1 rfl (Nat.le_of_ble_eq_true rfl) (by decide +kernel) ⟨Nat.zero_le _, Nat.zero_le _⟩ (fun locs1 hS1 => ?_)
    refine lv_pop hx hb (by decide +kernel) rfl ?_
    exact hvr _ _ _ rfl rfl hS1 (by decide +kernel)
  refine lv_iload_n hx hb (k := 0) (i := 0) (by decide +kernel) rfl e0 ?_
  refine lv_iload_n hx hb (k := 1) (i := 1) (by decide +kernel) rfl e1 ?_
  have hlk := hts _ (hw _ (List.mem_of_getElem? (l := zSw) (i := 22) rfl))
  rcases g2 with g2 | ⟨t, g2⟩
  · exact va_gets hx hb g2 va_S.rf hown hlk (fun x h => h) (by decide +kernel) (fin _ (Or.inl rfl))
  · exact va_gets hx hb g2 va_S.rf hown hlk (fun x h => h) (by decide +kernel) (fin _ (Or.inr ⟨t, rfl⟩))
theorem zJ_cod (l : Launch) (hG : GoodIn Ts Ts) (hZ : zStays B Z) (hB : ∀ s : State, Z s → B ≤ s.heap.size) (hZS : ∀ s : State, Z s → zSt B aS aV tx s) (hw : ∀ w ∈ zSw, w ∈ Ts) {k : Nat} (hk : tx k ≠ []) : zJ l B Z Ts 1 zyCod zbCod 1 (some .byte) [.ref (aS k)] (some (.int 0)) := by
  refine zJ_of (by decide +kernel) (Nat.le_of_ble_eq_true rfl) hB ?_
  intro p e R s m args below meth c Q ls hx hb hml hts hown hZs hBs hR hL hzr hvr
  have e0 := lv_at hL 0 (i := 0) (v := .ref (aS k)) rfl
  obtain ⟨g1, -, g3⟩ := hZS s hZs
  obtain ⟨q1, q2, q3, q4⟩ := g3 k hk
  refine va_gets hx hb g1 va_S.rf hown (hts _ (hw _ (List.mem_of_getElem? (l := zSw) (i := 12) rfl))) (fun x h => h) (by decide +kernel) ?_
  refine lv_if_eq hx hb (off := 10) (tgt := 13) (by decide +kernel) (by decide) (fun q => absurd q (by decide)) (fun _ => ?_)
  refine lv_aload_n hx hb (k := 0) (i := 0) (by decide +kernel) rfl e0 ?_
  refine vk_getf hx hb q2 va_S.rf hown (hts _ (hw _ (List.mem_of_getElem? (l := zSw) (i := 13) rfl))) (fun x h => h) (by decide +kernel) ?_
  refine lv_goto hx hb (off := 4) (tgt := 14) (by decide +kernel) (by decide) ?_
  exact hzr 0 .byte _ _ _ rfl rfl (by decide) va_S.rf (by decide +kernel)
theorem zJ_lat (l : Launch) (hG : GoodIn Ts Ts) (hZ : zStays B Z) (hB : ∀ s : State, Z s → B ≤ s.heap.size) (hZS : ∀ s : State, Z s → zSt B aS aV tx s) (hw : ∀ w ∈ zSw, w ∈ Ts) {k : Nat} (hk : tx k ≠ []) : zJ l B Z Ts 1 zyLat zbLat 1 (some .boolean) [.ref (aS k)] (some (.int 1)) := by
  refine zJ_of (by decide +kernel) (Nat.le_of_ble_eq_true rfl) hB ?_
  intro p e R s m args below meth c Q ls hx hb hml hts hown hZs hBs hR hL hzr hvr
  have e0 := lv_at hL 0 (i := 0) (v := .ref (aS k)) rfl
  obtain ⟨g1, -, g3⟩ := hZS s hZs
  obtain ⟨q1, q2, q3, q4⟩ := g3 k hk
  refine va_gets hx hb g1 va_S.rf hown (hts _ (hw _ (List.mem_of_getElem? (l := zSw) (i := 12) rfl))) (fun x h => h) (by decide +kernel) ?_
  refine lv_if_eq hx hb (off := 14) (tgt := 17) (by decide +kernel) (by decide) (fun q => absurd q (by decide)) (fun _ => ?_)
  refine lv_aload_n hx hb (k := 0) (i := 0) (by decide +kernel) rfl e0 ?_
  refine vk_getf hx hb q2 va_S.rf hown (hts _ (hw _ (List.mem_of_getElem? (l := zSw) (i := 13) rfl))) (fun x h => h) (by decide +kernel) ?_
  refine lv_if_ne hx hb (off := 7) (tgt := 17) (by decide +kernel) (by decide) (fun q => absurd rfl q) (fun _ => ?_)
  refine lv_iconst hx hb (n := 1) (v := 1) (by decide +kernel) (by decide) ?_
  refine lv_goto hx hb (off := 4) (tgt := 18) (by decide +kernel) (by decide) ?_
  exact hzr 1 .boolean _ _ _ rfl rfl (by decide) va_S.rf (by decide +kernel)
theorem zJ_len (l : Launch) (hG : GoodIn Ts Ts) (hZ : zStays B Z) (hB : ∀ s : State, Z s → B ≤ s.heap.size) (hZS : ∀ s : State, Z s → zSt B aS aV tx s) (hw : ∀ w ∈ zSw, w ∈ Ts) {k : Nat} (hk : tx k ≠ []) (hN : (tx k).length < 2 ^ 31) : zJ l B Z Ts 2 zyLen zbLen 1 (some .int) [.ref (aS k)] (some (.int (Int32.ofNat (tx k).length))) := by
  refine zJ_of (by decide +kernel) (Nat.le_of_ble_eq_true rfl) hB ?_
  intro p e R s m args below meth c Q ls hx hb hml hts hown hZs hBs hR hL hzr hvr
  have e0 := lv_at hL 0 (i := 0) (v := .ref (aS k)) rfl
  obtain ⟨g1, -, g3⟩ := hZS s hZs
  obtain ⟨q1, q2, q3, q4⟩ := g3 k hk
  refine lv_aload_n hx hb (k := 0) (i := 0) (by decide +kernel) rfl e0 ?_
  refine vk_getf hx hb q3 va_S.rf hown (hts _ (hw _ (List.mem_of_getElem? (l := zSw) (i := 7) rfl))) (fun x h => h) (by decide +kernel) ?_
  refine va_tlen hx hb q4 va_S.rf rfl (by decide +kernel) ?_
  refine lv_aload_n hx hb (k := 0) (i := 0) (by decide +kernel) rfl e0 ?_
  refine zJvirt (As := []) (b := aS k) (rest := [.int (Int32.ofNat (tx k).length)]) (v := some (.int 0)) (n := 0) (y := zyCod) (bytes := zbCod) (nL2 := 1) (rt2 := some .byte) (i := 335) hx hb hml hts hG hown hZ hZs hBs va_S.rf (zJ_cod l hG hZ hB hZS hw hk) (by omega) (by omega) (by decide) q1 (hw _ (List.mem_of_getElem? (i := 8) rfl)) (hw _ (List.mem_of_getElem? (i := 9) rfl)) (hw _ (List.mem_of_getElem? (i := 10) rfl)) (hw _ (List.mem_of_getElem? (i := 11) rfl)) (hw _ (List.mem_of_getElem? (i := 1) rfl)) (by decide +kernel) rfl hL.1 rfl (Nat.le_of_ble_eq_true rfl) (by decide +kernel) ⟨Nat.zero_le _, Nat.zero_le _⟩ (fun locs1 hS1 => ?_)
  refine lv_ishr hx hb (by decide +kernel) ?_
  have e9 : Int32.ofNat (tx k).length >>> ((0 : Int32) &&& 31) = Int32.ofNat (tx k).length := by
    apply Int32.toInt_inj.mp
    rw [pk_shr _ _ 0 (by decide +kernel), Int.shiftRight_zero]
  rw [e9]
  exact hzr _ .int _ _ _ rfl rfl rfl hS1 (by decide +kernel)
theorem zJ_ch1 (l : Launch) (hG : GoodIn Ts Ts) (hZ : zStays B Z) (hB : ∀ s : State, Z s → B ≤ s.heap.size) (hZS : ∀ s : State, Z s → zSt B aS aV tx s) (hw : ∀ w ∈ zSw, w ∈ Ts) {k : Nat} {i : Int32} (hk : tx k ≠ []) (hN : (tx k).length < 2 ^ 31) (hi : vp_in i (tx k).length) (hlt : i < Int32.ofNat (tx k).length) (hch : narrow .char (.int (zch ((tx k).getD i.toNatClampNeg 0))) = .int (zch ((tx k).getD i.toNatClampNeg 0))) : zJ l B Z Ts 3 zyCh1 zbCh1 2 (some .char) [.ref (aV k), .int i] (some (.int (zch ((tx k).getD i.toNatClampNeg 0)))) := by
  refine zJ_of (by decide +kernel) (Nat.le_of_ble_eq_true rfl) hB ?_
  intro p e R s m args below meth c Q ls hx hb hml hts hown hZs hBs hR hL hzr hvr
  have e0 := lv_at hL 0 (i := 0) (v := .ref (aV k)) rfl
  have e1 := lv_at hL 1 (i := 1) (v := .int i) rfl
  obtain ⟨g1, -, g3⟩ := hZS s hZs
  obtain ⟨q1, q2, q3, q4⟩ := g3 k hk
  have h1 : ¬ i < 0 := fun q => hi (Or.inl q)
  refine lv_iload_n hx hb (k := 1) (i := 1) (by decide +kernel) rfl e1 ?_
  refine lv_aload_n hx hb (k := 0) (i := 0) (by decide +kernel) rfl e0 ?_
  refine va_tlen hx hb q4 va_S.rf rfl (by decide +kernel) ?_
  refine zJstat (As := [.int i, .int (Int32.ofNat (tx k).length)]) (rest := []) (v := none) (n := 2) (y := zyChk) (bytes := zbChk) (nL2 := 2) (rt2 := none) (i := 9) hx hb hml hts hG hown hZ hZs hBs va_S.rf (zJ_chk l hG hZ hB hZS hw h1 hlt) (by omega) (by omega) (by decide) (hw _ (List.mem_of_getElem? (i := 20) rfl)) (hw _ (List.mem_of_getElem? (i := 21) rfl)) (hw _ (List.mem_of_getElem? (i := 11) rfl)) (hw _ (List.mem_of_getElem? (i := 5) rfl)) (by decide +kernel) rfl hL.1 rfl (Nat.le_of_ble_eq_true rfl) (by decide +kernel) ⟨Nat.zero_le _, Nat.zero_le _⟩ (fun locs1 hS1 => ?_)
  refine lv_aload_n hx hb (k := 0) (i := 0) (by decide +kernel) rfl e0 ?_
  refine lv_iload_n hx hb (k := 1) (i := 1) (by decide +kernel) rfl e1 ?_
  refine va_tb hx hb q4 hS1 hi rfl (by decide +kernel) ?_
  refine lv_sipush hx hb (n := 255) (v := 255) (by decide +kernel) (by decide) ?_
  refine lv_iand hx hb (by decide +kernel) ?_
  refine lv_i2c hx hb (by decide +kernel) rfl ?_
  exact hzr _ .char _ _ _ rfl rfl hch hS1 (by decide +kernel)
theorem zJ_ch (l : Launch) (hG : GoodIn Ts Ts) (hZ : zStays B Z) (hB : ∀ s : State, Z s → B ≤ s.heap.size) (hZS : ∀ s : State, Z s → zSt B aS aV tx s) (hw : ∀ w ∈ zSw, w ∈ Ts) {k : Nat} {i : Int32} (hk : tx k ≠ []) (hN : (tx k).length < 2 ^ 31) (hi : vp_in i (tx k).length) (hlt : i < Int32.ofNat (tx k).length) (hch : narrow .char (.int (zch ((tx k).getD i.toNatClampNeg 0))) = .int (zch ((tx k).getD i.toNatClampNeg 0))) : zJ l B Z Ts 4 zyCh zbCh 2 (some .char) [.ref (aS k), .int i] (some (.int (zch ((tx k).getD i.toNatClampNeg 0)))) := by
  refine zJ_of (by decide +kernel) (Nat.le_of_ble_eq_true rfl) hB ?_
  intro p e R s m args below meth c Q ls hx hb hml hts hown hZs hBs hR hL hzr hvr
  have e0 := lv_at hL 0 (i := 0) (v := .ref (aS k)) rfl
  have e1 := lv_at hL 1 (i := 1) (v := .int i) rfl
  obtain ⟨g1, -, g3⟩ := hZS s hZs
  obtain ⟨q1, q2, q3, q4⟩ := g3 k hk
  refine lv_aload_n hx hb (k := 0) (i := 0) (by decide +kernel) rfl e0 ?_
  refine zJvirt (As := []) (b := aS k) (rest := []) (v := some (.int 1)) (n := 0) (y := zyLat) (bytes := zbLat) (nL2 := 1) (rt2 := some .boolean) (i := 492) hx hb hml hts hG hown hZ hZs hBs va_S.rf (zJ_lat l hG hZ hB hZS hw hk) (by omega) (by omega) (by decide) q1 (hw _ (List.mem_of_getElem? (i := 14) rfl)) (hw _ (List.mem_of_getElem? (i := 15) rfl)) (hw _ (List.mem_of_getElem? (i := 16) rfl)) (hw _ (List.mem_of_getElem? (i := 11) rfl)) (hw _ (List.mem_of_getElem? (i := 3) rfl)) (by decide +kernel) rfl hL.1 rfl (Nat.le_of_ble_eq_true rfl) (by decide +kernel) ⟨Nat.zero_le _, Nat.zero_le _⟩ (fun locs1 hS1 => ?_)
  refine lv_if_eq hx hb (off := 12) (tgt := 16) (by decide +kernel) (by decide) (fun q => absurd q (by decide)) (fun _ => ?_)
  refine lv_aload_n hx hb (k := 0) (i := 0) (by decide +kernel) rfl e0 ?_
  refine vk_getf hx hb q3 hS1 hown (hts _ (hw _ (List.mem_of_getElem? (l := zSw) (i := 7) rfl))) (fun x h => h) (by decide +kernel) ?_
  refine lv_iload_n hx hb (k := 1) (i := 1) (by decide +kernel) rfl e1 ?_
  refine zJstat (As := [.ref (aV k), .int i]) (rest := []) (v := some (.int (zch ((tx k).getD i.toNatClampNeg 0)))) (n := 2) (y := zyCh1) (bytes := zbCh1) (nL2 := 2) (rt2 := some .char) (i := 495) hx hb hml hts hG hown hZ hZs hBs hS1 (zJ_ch1 l hG hZ hB hZS hw hk hN hi hlt hch) (by omega) (by omega) (by decide) (hw _ (List.mem_of_getElem? (i := 17) rfl)) (hw _ (List.mem_of_getElem? (i := 18) rfl)) (hw _ (List.mem_of_getElem? (i := 19) rfl)) (hw _ (List.mem_of_getElem? (i := 4) rfl)) (by decide +kernel) rfl hL.1 rfl (Nat.le_of_ble_eq_true rfl) (by decide +kernel) ⟨Nat.zero_le _, Nat.zero_le _⟩ (fun locs2 hS2 => ?_)
  exact hzr _ .char _ _ _ rfl rfl hch hS2 (by decide +kernel)
end ZS
end
section
/-- what the strings' rows ask: their objects, the words, the texts, the constants' places -/
def zSok (B : Nat) (Z : State → Prop) (Ts : List Jvm.Cond) (aS : Nat → Nat) (tx : Nat → List Int32) : Prop := (∀ s : State, Z s → B ≤ s.heap.size) ∧ (∃ aV : Nat → Nat, ∀ s : State, Z s → zSt B aS aV tx s) ∧ (∀ w ∈ zSw, w ∈ Ts) ∧ (∀ k : Nat, (tx k).length < 2 ^ 31 ∧ ∀ j : Nat, j < (tx k).length → zch ((tx k).getD j 0) = (tx k).getD j 0 ∧ narrow .char (.int ((tx k).getD j 0)) = .int ((tx k).getD j 0)) ∧ ∀ q ∈ zsg, ∀ s : State, Z s → ∃ t : String, vk_R q.1 q.2.1 t (aS q.2.2) s
def zcstr (own : String) (i : Nat) (v : Value) : Bool := match v with
  | .retAddr k => zsg.contains (own, i, k)
  | _ => false
theorem zcstr_of {own : String} {i : Nat} {v : Value} (h : zcstr own i v = true) : ∃ k : Nat, v = .retAddr k ∧ (own, i, k) ∈ zsg := by
  cases v <;> first | exact ⟨_, rfl, List.contains_iff_mem.mp h⟩ | cases h
section SSTR
variable {p : Program} {l : Launch} {e : Env} {R : Room} {s : State} {m : MethodId} {args : Array Value} {below : List Frame} {meth : Method} {c : Code} {Q : State → Prop} {cc : ByteArray} {B : Nat} {D : va_G} {cl : List vw_C} {dA : Nat → ClassId} {aS : Nat → Nat} {nL bc bs pc : Nat}
variable {a b d : Nat} {v : Value} {L : zL} {st : List Value} {h : zH} {cn sn : Nat}
variable {tt : zT} {G : zG} {rt : Option FieldType} {M : zM} {ret : zQ} {Ts : List Jvm.Cond} {own : String} {Z : State → Prop} {H : Heap} {locs : List Loc} {ls : Array Slot} {rest : List Value}
theorem va_ldcwS (hexec : p.tables.exec = Jvm.exec) (hb : c.code = cc) {tx : String} {index q : Nat} (hown : s.vm.findClass own = some m.cls) (hZ : vk_R own index tx q s) (hdg : decode cc pc = .ok (.ldc_w index, 3))
    (k : W p l e R s m args below meth c H locs cn sn Q (F0 m (pc + 3) ls (.ref q :: rest))) : W p l e R s m args below meth c H locs cn sn Q (F0 m pc ls rest) := by
  intro T hT X
  obtain ⟨t, a1, b1⟩ := k T hT X
  refine ⟨t, ?_, b1⟩
  obtain ⟨k9, cf, i, a', hk, hcf, hcp, -, hr, hev'⟩ := Cond.stringRef_spec hown hZ.1
  cases hZ.2.symm.trans hev'
  obtain ⟨k', hk', he⟩ := X.warmed.alike.2.2 _ _ hk
  have hr' : k'.resolved[index]? = some (some (.string q)) := by
    rcases X.warmed.entry hk hk' index with h | ⟨h, -⟩
    · rw [h]; exact hr
    · rw [hr] at h; cases h
  jvm_step X.here [hexec, hb, hdg, ldc_w.wp_string (e := e) (s := T) (f := F0 m pc ls rest) X.here.top hk' (by rw [he]; exact hcf) hcp hr']
  exact a1
theorem s_ldcs {i k9 : Nat} {t9 : String} (hx : p.tables.exec = Jvm.exec) (hb : c.code = cc) (hdg : decode cc pc = .ok (.ldc i, 2)) (hv : v = .retAddr k9) (hown : s.vm.findClass own = some m.cls) (hR : vk_R own i t9 (aS k9) s) (hz : zex1 (wX p l e R s m args below meth c Q B D cl dA aS nL bc bs) (.aconst_null, pc + 2, a, b, d, v) L st h cn sn) : wX p l e R s m args below meth c Q B D cl dA aS nL bc bs pc L st h cn sn := by
  intro hc1 hc2 H locs lsA hH hS hL
  unfold zex1 at hz
  dsimp only at hz
  subst hv
  exact va_ldcS hx hb hown hR hdg (hz hc1 hc2 _ _ _ hH hS hL)
theorem s_ldcws {i k9 : Nat} {t9 : String} (hx : p.tables.exec = Jvm.exec) (hb : c.code = cc) (hdg : decode cc pc = .ok (.ldc_w i, 3)) (hv : v = .retAddr k9) (hown : s.vm.findClass own = some m.cls) (hR : vk_R own i t9 (aS k9) s) (hz : zex1 (wX p l e R s m args below meth c Q B D cl dA aS nL bc bs) (.aconst_null, pc + 3, a, b, d, v) L st h cn sn) : wX p l e R s m args below meth c Q B D cl dA aS nL bc bs pc L st h cn sn := by
  intro hc1 hc2 H locs lsA hH hS hL
  unfold zex1 at hz
  dsimp only at hz
  subst hv
  exact va_ldcwS hx hb hown hR hdg (hz hc1 hc2 _ _ _ hH hS hL)
theorem s_jlen {i : Nat} (hx : p.tables.exec = Jvm.exec) (hb : c.code = cc) (hml : c.maxLocals = nL) (hdg : decode cc pc = .ok (.invokevirtual i, 3)) (hts : ∀ w ∈ Ts, w.before args s = true) (hG : GoodIn Ts Ts) (hown : s.vm.findClass own = some m.cls) (hZ : zStays B Z) (hZs : Z s) (hBs : B ≤ s.heap.size) (hSo : zSok B Z Ts aS G.2.1) (hR : bc ≤ R.cells ∧ bs ≤ R.slots) (hR1 : 5 ≤ R.frames) (hR2 : 320 ≤ R.locals) (w1 : Jvm.Cond.methodLink own i zyLen ∈ Ts) (hz : zex2 tt G bc bs rt M ret (wX p l e R s m args below meth c Q B D cl dA aS nL bc bs) (.i2c, pc + 3, a, b, d, v) L st h cn sn) : wX p l e R s m args below meth c Q B D cl dA aS nL bc bs pc L st h cn sn := by
  intro hc1 hc2 H locs lsA hH hS hL
  unfold zex2 at hz
  dsimp only at hz
  obtain ⟨hB, ⟨aV, hZS⟩, hw, htx, -⟩ := hSo
  split at hz
  · rename_i k s9
    obtain ⟨g1, g2, g3⟩ := hz
    have hk : G.2.1 k ≠ [] := fun q => by rw [q] at g1; exact absurd g1 (by decide)
    obtain ⟨-, -, q3⟩ := hZS s hZs
    exact zJvirt (As := []) (b := aS k) (rest := s9.map (zcv B aS)) (v := some (.int (Int32.ofNat (G.2.1 k).length))) (n := 0) (y := zyLen) (bytes := zbLen) (nL2 := 1) (rt2 := some .int) (i := i) hx hb hml hts hG hown hZ hZs hBs hS (zJ_len l hG hZ hB hZS hw hk (htx k).1) (by omega) (by omega) (by decide) (q3 k hk).1 w1 (hw _ (List.mem_of_getElem? (i := 26) rfl)) (hw _ (List.mem_of_getElem? (i := 27) rfl)) (hw _ (List.mem_of_getElem? (i := 11) rfl)) (hw _ (List.mem_of_getElem? (i := 0) rfl)) (by decide +kernel) rfl hL.2.1 rfl (by rw [zcv_sum]; exact g2) hdg ⟨Nat.le_trans hc1 hR.1, Nat.le_trans hc2 hR.2⟩ (fun locs1 hS1 => g3 hc1 hc2 _ _ _ hH hS1 hL)
  · exact hz.elim
theorem s_jch {i : Nat} (hx : p.tables.exec = Jvm.exec) (hb : c.code = cc) (hml : c.maxLocals = nL) (hdg : decode cc pc = .ok (.invokevirtual i, 3)) (hts : ∀ w ∈ Ts, w.before args s = true) (hG : GoodIn Ts Ts) (hown : s.vm.findClass own = some m.cls) (hZ : zStays B Z) (hZs : Z s) (hBs : B ≤ s.heap.size) (hSo : zSok B Z Ts aS G.2.1) (hR : bc ≤ R.cells ∧ bs ≤ R.slots) (hR1 : 5 ≤ R.frames) (hR2 : 320 ≤ R.locals) (w1 : Jvm.Cond.methodLink own i zyCh ∈ Ts) (hz : zex2 tt G bc bs rt M ret (wX p l e R s m args below meth c Q B D cl dA aS nL bc bs) (.caload, pc + 3, a, b, d, v) L st h cn sn) : wX p l e R s m args below meth c Q B D cl dA aS nL bc bs pc L st h cn sn := by
  intro hc1 hc2 H locs lsA hH hS hL
  unfold zex2 at hz
  dsimp only at hz
  obtain ⟨hB, ⟨aV, hZS⟩, hw, htx, -⟩ := hSo
  split at hz
  · rename_i x k s9
    obtain ⟨g1, g2, g3⟩ := hz
    have hv := vp_in_iff.mp g1
    have hk : G.2.1 k ≠ [] := fun q => by rw [q] at hv; have := hv.1; have := hv.2; simp at this; omega
    have hj : x.toNatClampNeg < (G.2.1 k).length := by
      have e9 : x.toNatClampNeg = x.toInt.toNat := rfl
      rw [e9]; omega
    have hlt : x < Int32.ofNat (G.2.1 k).length := by
      rw [Int32.lt_iff_toInt_lt, show (Int32.ofNat (G.2.1 k).length).toInt = _ from nI_toInt (htx k).1]
      exact hv.2
    obtain ⟨c1, c2⟩ := (htx k).2 _ hj
    obtain ⟨-, -, q3⟩ := hZS s hZs
    have hM := zJ_ch l hG hZ hB hZS hw hk (htx k).1 g1 hlt (by rw [c1]; exact c2)
    rw [c1] at hM
    exact zJvirt (As := [.int x]) (b := aS k) (rest := s9.map (zcv B aS)) (v := some (.int ((G.2.1 k).getD x.toNatClampNeg 0))) (n := 1) (y := zyCh) (bytes := zbCh) (nL2 := 2) (rt2 := some .char) (i := i) hx hb hml hts hG hown hZ hZs hBs hS hM (by omega) (by omega) (by decide) (q3 k hk).1 w1 (hw _ (List.mem_of_getElem? (i := 28) rfl)) (hw _ (List.mem_of_getElem? (i := 29) rfl)) (hw _ (List.mem_of_getElem? (i := 11) rfl)) (hw _ (List.mem_of_getElem? (i := 2) rfl)) (by decide +kernel) rfl hL.2.1 rfl (by rw [zcv_sum]; exact g2) hdg ⟨Nat.le_trans hc1 hR.1, Nat.le_trans hc2 hR.2⟩ (fun locs1 hS1 => g3 hc1 hc2 _ _ _ hH hS1 hL)
  · exact hz.elim
end SSTR
end
section
section SMATH
variable {p : Program} {l : Launch} {e : Env} {R : Room} {s : State} {m : MethodId} {args : Array Value} {below : List Frame} {meth : Method} {c : Code} {Q : State → Prop} {cc : ByteArray} {B : Nat} {D : va_G} {cl : List vw_C} {dA : Nat → ClassId} {aS : Nat → Nat} {nL bc bs pc : Nat}
variable {a b d : Nat} {v : Value} {L : zL} {st : List Value} {h : zH} {cn sn : Nat}
variable {G : zG} {Ts : List Jvm.Cond} {own : String} {Z : State → Prop}
theorem s_imax {i : Nat} (hx : p.tables.exec = Jvm.exec) (hb : c.code = cc) (hml : c.maxLocals = nL) (hdg : decode cc pc = .ok (.invokestatic i, 3)) (hts : ∀ w ∈ Ts, w.before args s = true) (hown : s.vm.findClass own = some m.cls) (hSo : zSok B Z Ts aS G.2.1) (hR : bc ≤ R.cells ∧ bs ≤ R.slots) (hR1 : 1 ≤ R.frames) (hR2 : 30 ≤ R.locals) (w1 : Jvm.Cond.methodLink own i Lib.Math.max.name ∈ Ts) (hz : zex1 (wX p l e R s m args below meth c Q B D cl dA aS nL bc bs) (.fadd, pc + 3, a, b, d, v) L st h cn sn) : wX p l e R s m args below meth c Q B D cl dA aS nL bc bs pc L st h cn sn := by
  intro hc1 hc2 H locs lsA hH hS hL
  unfold zex1 at hz
  dsimp only at hz
  split at hz
  · exact va_mmax hx hb (hml.trans hL.2.1.symm) hown (hts _ w1) (hts _ (hSo.2.2.1 _ (List.mem_of_getElem? (i := 30) rfl))) (hts _ (hSo.2.2.1 _ (List.mem_of_getElem? (i := 34) rfl))) (hts _ (hSo.2.2.1 _ (List.mem_of_getElem? (i := 35) rfl))) hR1 (by rw [zcv_sum]; have := hz.1; omega) (Nat.le_trans hc1 hR.1) (Nat.le_trans hc2 hR.2) hdg (hz.2 hc1 hc2 _ _ _ hH hS hL)
  · exact hz.elim
theorem s_imin {i : Nat} (hx : p.tables.exec = Jvm.exec) (hb : c.code = cc) (hml : c.maxLocals = nL) (hdg : decode cc pc = .ok (.invokestatic i, 3)) (hts : ∀ w ∈ Ts, w.before args s = true) (hown : s.vm.findClass own = some m.cls) (hSo : zSok B Z Ts aS G.2.1) (hR : bc ≤ R.cells ∧ bs ≤ R.slots) (hR1 : 1 ≤ R.frames) (hR2 : 30 ≤ R.locals) (w1 : Jvm.Cond.methodLink own i Lib.Math.min.name ∈ Ts) (hz : zex1 (wX p l e R s m args below meth c Q B D cl dA aS nL bc bs) (.fsub, pc + 3, a, b, d, v) L st h cn sn) : wX p l e R s m args below meth c Q B D cl dA aS nL bc bs pc L st h cn sn := by
  intro hc1 hc2 H locs lsA hH hS hL
  unfold zex1 at hz
  dsimp only at hz
  split at hz
  · exact va_mmin hx hb (hml.trans hL.2.1.symm) hown (hts _ w1) (hts _ (hSo.2.2.1 _ (List.mem_of_getElem? (i := 31) rfl))) (hts _ (hSo.2.2.1 _ (List.mem_of_getElem? (i := 34) rfl))) (hts _ (hSo.2.2.1 _ (List.mem_of_getElem? (i := 36) rfl))) hR1 (by rw [zcv_sum]; have := hz.1; omega) (Nat.le_trans hc1 hR.1) (Nat.le_trans hc2 hR.2) hdg (hz.2 hc1 hc2 _ _ _ hH hS hL)
  · exact hz.elim
theorem s_lmax {i : Nat} (hx : p.tables.exec = Jvm.exec) (hb : c.code = cc) (hml : c.maxLocals = nL) (hdg : decode cc pc = .ok (.invokestatic i, 3)) (hts : ∀ w ∈ Ts, w.before args s = true) (hown : s.vm.findClass own = some m.cls) (hSo : zSok B Z Ts aS G.2.1) (hR : bc ≤ R.cells ∧ bs ≤ R.slots) (hR1 : 1 ≤ R.frames) (hR2 : 30 ≤ R.locals) (w1 : Jvm.Cond.methodLink own i Lib.MathLoose.max_long.x ∈ Ts) (hz : zex1 (wX p l e R s m args below meth c Q B D cl dA aS nL bc bs) (.dadd, pc + 3, a, b, d, v) L st h cn sn) : wX p l e R s m args below meth c Q B D cl dA aS nL bc bs pc L st h cn sn := by
  intro hc1 hc2 H locs lsA hH hS hL
  unfold zex1 at hz
  dsimp only at hz
  split at hz
  · exact va_mmax_long hx hb (hml.trans hL.2.1.symm) hown (hts _ w1) (hts _ (hSo.2.2.1 _ (List.mem_of_getElem? (i := 32) rfl))) (hts _ (hSo.2.2.1 _ (List.mem_of_getElem? (i := 34) rfl))) (hts _ (hSo.2.2.1 _ (List.mem_of_getElem? (i := 37) rfl))) hR1 (by rw [zcv_sum]; have := hz.1; omega) (Nat.le_trans hc1 hR.1) (Nat.le_trans hc2 hR.2) hdg (hz.2 hc1 hc2 _ _ _ hH hS hL)
  · exact hz.elim
theorem s_lmin {i : Nat} (hx : p.tables.exec = Jvm.exec) (hb : c.code = cc) (hml : c.maxLocals = nL) (hdg : decode cc pc = .ok (.invokestatic i, 3)) (hts : ∀ w ∈ Ts, w.before args s = true) (hown : s.vm.findClass own = some m.cls) (hSo : zSok B Z Ts aS G.2.1) (hR : bc ≤ R.cells ∧ bs ≤ R.slots) (hR1 : 1 ≤ R.frames) (hR2 : 30 ≤ R.locals) (w1 : Jvm.Cond.methodLink own i Lib.MathLoose.min_long.x ∈ Ts) (hz : zex1 (wX p l e R s m args below meth c Q B D cl dA aS nL bc bs) (.dsub, pc + 3, a, b, d, v) L st h cn sn) : wX p l e R s m args below meth c Q B D cl dA aS nL bc bs pc L st h cn sn := by
  intro hc1 hc2 H locs lsA hH hS hL
  unfold zex1 at hz
  dsimp only at hz
  split at hz
  · exact va_mmin_long hx hb (hml.trans hL.2.1.symm) hown (hts _ w1) (hts _ (hSo.2.2.1 _ (List.mem_of_getElem? (i := 33) rfl))) (hts _ (hSo.2.2.1 _ (List.mem_of_getElem? (i := 34) rfl))) (hts _ (hSo.2.2.1 _ (List.mem_of_getElem? (i := 38) rfl))) hR1 (by rw [zcv_sum]; have := hz.1; omega) (Nat.le_trans hc1 hR.1) (Nat.le_trans hc2 hR.2) hdg (hz.2 hc1 hc2 _ _ _ hH hS hL)
  · exact hz.elim
theorem s_pop2l (hx : p.tables.exec = Jvm.exec) (hb : c.code = cc) (hdg : decode cc pc = .ok (.pop2, 1)) (hz : zex1 (wX p l e R s m args below meth c Q B D cl dA aS nL bc bs) (.drem, pc + 1, a, b, d, v) L st h cn sn) : wX p l e R s m args below meth c Q B D cl dA aS nL bc bs pc L st h cn sn := by
  intro hc1 hc2 H locs lsA hH hS hL
  unfold zex1 at hz
  dsimp only at hz
  split at hz
  · rename_i w s9
    exact lv_pop2_2 hx hb hdg (by rw [zcv_cat]; exact hz.1) (hz.2 hc1 hc2 _ _ _ hH hS hL)
  · exact hz.elim
end SMATH
end
section
/-! arrays copied, cloned; stores of cells into arrays -/
theorem zover {args : Array Value} {s : State} {t : FieldType} (h : (Jvm.Cond.arrayOver (.array t)).before args s = true) : ∃ (comp c : ClassId) (k : Class), s.vm.findClass (FieldType.array t).toString = some comp ∧ s.vm.classes[c]? = some k ∧ k.kind = .array comp (.array t) ∧ s.vm.findClass ("[" ++ (FieldType.array t).toString) = some c := by
  simp only [Jvm.Cond.before, Jvm.Cond.holds, Jvm.Cond.value, beq_iff_eq] at h
  cases hc : s.vm.findClass (FieldType.array t).toString with
  | none => simp [hc] at h
  | some comp =>
    simp only [hc, Option.bind_some, Option.bind_eq_some_iff, Option.map_eq_some_iff] at h
    obtain ⟨c, hi, k, hk, hq⟩ := h
    obtain ⟨hlt, hp, -⟩ := Array.findIdx?_eq_some_iff_getElem.mp hi
    have e := (Array.getElem?_eq_some_iff.mp hk).2
    rw [e] at hp
    cases hkind : k.kind with
    | array component ty =>
      rw [hkind] at hq hp
      simp at hq hp
      exact ⟨comp, c, k, rfl, hk, by rw [hkind, hp, hq.1], hq.2⟩
    | _ => rw [hkind] at hq; simp at hq
section SIM7
variable {p : Program} {l : Launch} {e : Env} {R : Room} {s : State} {m : MethodId} {args : Array Value} {below : List Frame} {meth : Method} {c : Code} {Q : State → Prop} {cc : ByteArray} {B : Nat} {D : va_G} {cl : List vw_C} {dA : Nat → ClassId} {aS : Nat → Nat} {nL bc bs pc : Nat}
variable {L : zL} {st : List Value} {h : zH} {cn sn : Nat} {a b d : Nat} {v : Value}
variable {tt : zT} {G : zG} {rt : Option FieldType} {M : zM} {ret : zQ} {Ts : List Jvm.Cond} {own : String} {Z : State → Prop}
theorem s_aastore (hx : p.tables.exec = Jvm.exec) (hb : c.code = cc) (hdg : decode cc pc = .ok (.aastore, 1)) (hK : va_K D cl (ztys dA) s) (hov : (Jvm.Cond.arrayOver (.array .int)).before args s = true) (hd : (cl[d]?).map (fun q => q.1) = some "TankBehind$Car") (hz : zex2 tt G bc bs rt M ret (wX p l e R s m args below meth c Q B D cl dA aS nL bc bs) (.aastore, pc + 1, a, b, d, v) L st h cn sn) : wX p l e R s m args below meth c Q B D cl dA aS nL bc bs pc L st h cn sn := by
  intro hc1 hc2 H locs lsA hH hS hL
  unfold zex2 at hz
  dsimp only at hz
  split at hz
  · rename_i y i r s9
    obtain ⟨k0, N, f, hk, hr, hi, k⟩ := hz
    have hlt : i.toNatClampNeg < N := Nat.not_le.mp fun q => hi (Or.inr q)
    have h0 : ¬ i < 0 := fun q => hi (Or.inl q)
    have ha : H[B + r]? = some (vp_cell (dA k0) (N, .inr (.inr (.inr (.inr (fun j => (f j).map (fun a => B + a))))))) := hH.2 _ _ hr
    have fin : ∀ H1 : Heap, H1[B + r]? = some ((vp_cell (dA k0) (N, .inr (.inr (.inr (.inr (fun j => (f j).map (fun a => B + a))))))).setSlot i.toNatClampNeg (.ref (B + y))) → H1.size = H.size → (∀ q, q ≠ B + r → H1[q]? = H[q]?) → W p l e R s m args below meth c H1 (locs ++ [⟨B + r, i.toNatClampNeg⟩]) cn sn Q (F0 m (pc + 1) lsA (s9.map (zcv B aS))) := by
      intro H1 e9 z oq
      refine k hc1 hc2 _ _ _ (hH.set hr ?_ z oq) (hS.put z oq (Nat.le_add_right B r)) hL
      show H1[B + r]? = some (vp_cell _ _)
      rw [e9]
      rw [vp_cell_q, show zcA B (N, .inr (.inr (.inr (.inr (va_up f i.toNatClampNeg (some y)))))) = (N, .inr (.inr (.inr (.inr (fun j => (va_up f i.toNatClampNeg (some y) j).map (fun a => B + a)))))) from rfl, vp_cell_q, arrV_store]
      congr 2
      funext q
      by_cases hq : q = i.toNatClampNeg
      · subst hq
        simp [updV, va_up, va_rf]
      · simp [updV, va_up, hq]
    rcases hk with ⟨rfl, K, g, hy⟩ | ⟨rfl, fs, hy⟩
    · have hv : H[B + y]? = some (vp_cell (dA 0) (K, .inl g)) := hH.2 _ _ hy
      obtain ⟨comp, cA, kA, f1, f2, f3, f4⟩ := zover hov
      have ea : cA = dA 4 := zRA_find (k := 4) (by omega) hK f4
      have ec : comp = dA 0 := zRA_find (k := 0) (by omega) hK f1
      subst ea
      subst ec
      obtain ⟨-, kC, hkC, -, -⟩ := (hK.2 0 _ (ztys_get dA (by omega))).1 K (fun j => .int (g j))
      exact W.aast hx hb ha (fun q h => by cases h) (fun h => by cases h) f2 f3 rfl hkC ⟨h0, by show _ < (arrV _ _ _).slots.size; rw [arrV_size]; exact hlt⟩ hv (fun q h => by cases h) hkC (va_asg _ _) rfl rfl hdg fin
    · obtain ⟨q0, hq0, cellV, g1, g2, g3, -⟩ := hH.2 _ _ hy
      have hn : q0.1 = "TankBehind$Car" := by
        rw [hq0] at hd
        exact Option.some.inj hd
      have hcls := (hK.1 d q0 hq0).2
      obtain ⟨kA, comp, k1, k2, k3, -⟩ := (hK.2 5 _ (ztys_get dA (by omega))).2
      have hcomp : comp = D.1 d := by
        have := hcls.1
        rw [hn] at this
        exact Option.some.inj (k3.symm.trans this)
      subst hcomp
      obtain ⟨kC, hkC, -⟩ := hcls.2
      exact W.aast hx hb ha (fun q h => by cases h) (fun h => by cases h) k1 k2 rfl hkC ⟨h0, by show _ < (arrV _ _ _).slots.size; rw [arrV_size]; exact hlt⟩ g1 (fun q h => by rw [g3] at h; cases h) (by rw [g2]; exact hkC) (by rw [g2]; exact va_asg _ _) rfl rfl hdg fin
  · exact hz.elim
end SIM7
section SIM8
variable {p : Program} {l : Launch} {e : Env} {R : Room} {s : State} {m : MethodId} {args : Array Value} {below : List Frame} {meth : Method} {c : Code} {Q : State → Prop} {cc : ByteArray} {B : Nat} {D : va_G} {cl : List vw_C} {dA : Nat → ClassId} {aS : Nat → Nat} {nL bc bs pc : Nat}
variable {L : zL} {st : List Value} {h : zH} {cn sn : Nat} {a b d : Nat} {v : Value}
variable {tt : zT} {G : zG} {rt : Option FieldType} {M : zM} {ret : zQ} {Ts : List Jvm.Cond} {own : String} {Z : State → Prop}
theorem zsum_map (s9 : List Value) : ((s9.map (zcv B aS)).map fun v => v.category).sum = (s9.map fun v => v.category).sum := by rw [zcv_sum]
theorem s_cast {i : Nat} (hx : p.tables.exec = Jvm.exec) (hb : c.code = cc) (hdg : decode cc pc = .ok (.checkcast i, 3)) (hown : s.vm.findClass own = some m.cls) (hK : va_K D cl (ztys dA) s) (hlink : (Jvm.Cond.classLink own i ("[" ++ (zty 0).toString)).before args s = true) (hz : zex2 tt G bc bs rt M ret (wX p l e R s m args below meth c Q B D cl dA aS nL bc bs) (.fmul, pc + 3, a, b, d, v) L st h cn sn) : wX p l e R s m args below meth c Q B D cl dA aS nL bc bs pc L st h cn sn := by
  intro hc1 hc2 H locs lsA hH hS hL
  unfold zex2 at hz
  dsimp only at hz
  split at hz
  · rename_i r s9
    obtain ⟨N, f, hr, -, k⟩ := hz
    have ha : H[B + r]? = some (vp_cell (dA 0) (N, .inl f)) := hH.2 _ _ hr
    have hnm : s.vm.findClass ("[" ++ (zty 0).toString) = some (dA 0) := (hK.2 0 _ (ztys_get dA (by omega))).2
    intro T hT X
    obtain ⟨vm', X', stp⟩ := X.checkcastYes hx hown hlink (by rw [hT]; exact ha) rfl hnm (va_asg _ _) (g := F0 m pc lsA (.ref (B + r) :: s9.map (zcv B aS))) rfl rfl (by rw [hb]; exact hdg)
    obtain ⟨t, a1, b1⟩ := k hc1 hc2 H locs lsA hH hS hL (T.setVm vm') hT X'
    exact ⟨t, stp t a1, b1⟩
  · exact hz.elim
theorem s_copy {i : Nat} (hx : p.tables.exec = Jvm.exec) (hb : c.code = cc) (hml : c.maxLocals = nL) (hdg : decode cc pc = .ok (.invokestatic i, 3)) (hown : s.vm.findClass own = some m.cls) (hK : va_K D cl (ztys dA) s) (hlink : (Jvm.Cond.methodLink own i arraycopyName).before args s = true) (hnat : (Jvm.Cond.native arraycopyName).before args s = true) (hstat : (Jvm.Cond.static arraycopyName).before args s = true) (hini : (Jvm.Cond.initialized "java/lang/System").before args s = true) (hframes : 1 ≤ R.frames) (hlocals : nativeFrameWords "java/lang/System" "arraycopy" 5 + 30 ≤ R.locals) (hz : zex2 tt G bc bs rt M ret (wX p l e R s m args below meth c Q B D cl dA aS nL bc bs) (.sastore, pc + 3, a, b, d, v) L st h cn sn) : wX p l e R s m args below meth c Q B D cl dA aS nL bc bs pc L st h cn sn := by
  intro hc1 hc2 H locs lsA hH hS hL
  unfold zex2 at hz
  dsimp only at hz
  split at hz
  · rename_i n dp y sp r s9
    obtain ⟨N, K, f, g, hr, hy, ⟨rfl, rfl, hn, hN, hKn, hsum⟩, k⟩ := hz
    have hc0 : H[B + r]? = some (vp_cell (dA 0) (N, .inl f)) := hH.2 _ _ hr
    have hc1' : H[B + y]? = some (vp_cell (dA 0) (K, .inl g)) := hH.2 _ _ hy
    have nn : n.toInt = (n.toNatClampNeg : Int) := by
      have hz0 : (0 : Int) ≤ n.toInt := by
        have := Int32.not_lt.mp hn
        simpa using Int32.le_iff_toInt_le.mp this
      show n.toInt = ((n.toInt.toNat : Nat) : Int)
      omega
    have n0 : (0 : Int32).toNatClampNeg = 0 := rfl
    intro T hT X
    obtain ⟨-, k0, hk0, cm0, hkk0⟩ := (hK.2 0 _ (ztys_get dA (by omega))).1 N (fun j => .int (f j))
    obtain ⟨-, k1, hk1, cm1, hkk1⟩ := (hK.2 0 _ (ztys_get dA (by omega))).1 K (fun j => .int (g j))
    obtain ⟨vm', X', step⟩ := X.arraycopy hx hown hlink hnat hstat hini (src := B + r) (dst := B + y) (cs := vp_cell (dA 0) (N, .inl f)) (cd := vp_cell (dA 0) (K, .inl g)) (srcPos := 0) (destPos := 0) (n := n) (by rw [hT]; exact hc0) (by rw [hT]; exact hc1')
      (fun _ h => by cases h) (fun _ h => by cases h) (fun h => by cases h) (fun h => by cases h) hk0 hk1 hkk0 hkk1 (by rfl) (by decide) (by decide) hn
      (by rw [nn]; show ¬ _ > ((arrV (dA 0) N (fun j => .int (f j))).slots.size : Int); rw [arrV_size, show (0 : Int32).toInt = 0 from rfl]; omega)
      (by rw [nn]; show ¬ _ > ((arrV (dA 0) K (fun j => .int (g j))).slots.size : Int); rw [arrV_size, show (0 : Int32).toInt = 0 from rfl]; omega)
      (fun vm₁ _ i hi => by
        have e : (vp_cell (dA 0) (N, .inl f)).slots.getD ((0 : Int32).toNatClampNeg + i) .null = .int (f ((0 : Int32).toNatClampNeg + i)) := by
          show (arrV (dA 0) N (fun j => .int (f j))).slots.getD _ _ = _
          rw [Array.getD_eq_getD_getElem?, arrV_read _ _ (by rw [n0]; omega)]
          rfl
        refine ⟨?_, ?_⟩
        · rw [e]
          rfl
        · rw [e]
          exact trivial)
      (g := F0 m pc lsA (.int n :: .int 0 :: .ref (B + y) :: .int 0 :: .ref (B + r) :: s9.map (zcv B aS))) rfl (by rw [hml]; exact hL.2.1) (rest := s9.map (zcv B aS)) rfl (by rw [hb]; exact hdg) hframes (by show 2 * 0 + _ + _ ≤ _; rw [zsum_map]; omega)
    have e1 : copied (vp_cell (dA 0) (N, .inl f)) (vp_cell (dA 0) (K, .inl g)) 0 0 n = vp_cell (dA 0) (K, .inl (va_cpy f g 0 0 n.toNatClampNeg)) := va_copied (fun z => .int z) (dA 0) (dA 0) f g (by rw [n0]; omega)
    rw [e1] at X' step
    have hl : B + y < H.size := (Array.getElem?_eq_some_iff.mp hc1').1
    have hheap : ((T.setVm vm').setCell (B + y) (vp_cell (dA 0) (K, .inl (va_cpy f g 0 0 n.toNatClampNeg)))).heap = H.setIfInBounds (B + y) (vp_cell (dA 0) (K, .inl (va_cpy f g 0 0 n.toNatClampNeg))) := by rw [← hT]; rfl
    have oq : ∀ q : Nat, q ≠ B + y → (H.setIfInBounds (B + y) (vp_cell (dA 0) (K, .inl (va_cpy f g 0 0 n.toNatClampNeg))))[q]? = H[q]? := fun q hq => by simp [Array.getElem?_setIfInBounds, Ne.symm hq]
    obtain ⟨t, a1, b1⟩ := k hc1 hc2 _ _ lsA (hH.set hy (show (H.setIfInBounds (B + y) _)[B + y]? = some _ by simp [Array.getElem?_setIfInBounds, hl]; rfl) (by simp) oq) ⟨by simp; exact hS.1, fun q g1 g2 => by
        rw [oq q (fun e => g2 (by rw [e]; exact Nat.le_add_right B y))]
        exact hS.2.1 q g1 g2, fun q hq => by
        rcases List.mem_append.mp hq with h | h
        · exact hS.2.2 q h
        · obtain ⟨z, -, hz⟩ := List.mem_map.mp h
          rw [← hz]
          exact Nat.le_add_right B y⟩ hL _ hheap X'
    exact ⟨t, step t a1, b1⟩
  · exact hz.elim
theorem s_clone {i : Nat} {ad : String} (had : ad = "[" ++ (zty 0).toString) (hx : p.tables.exec = Jvm.exec) (hb : c.code = cc) (hml : c.maxLocals = nL) (hdg : decode cc pc = .ok (.invokevirtual i, 3)) (hown : s.vm.findClass own = some m.cls) (hK : va_K D cl (ztys dA) s) (hR : bc ≤ R.cells ∧ bs ≤ R.slots)
    (hlink : (Jvm.Cond.methodLink own i ⟨ad, "clone", "()Ljava/lang/Object;"⟩).before args s = true) (hsame : (Jvm.Cond.sameMethod ad "java/lang/Object" "clone" "()Ljava/lang/Object;").before args s = true) (hnat : (Jvm.Cond.native ⟨"java/lang/Object", "clone", "()Ljava/lang/Object;"⟩).before args s = true) (hinst : (Jvm.Cond.instanceMethod ⟨"java/lang/Object", "clone", "()Ljava/lang/Object;"⟩).before args s = true) (hsel : (Jvm.Cond.selects ad ⟨ad, "clone", "()Ljava/lang/Object;"⟩ ⟨"java/lang/Object", "clone", "()Ljava/lang/Object;"⟩).before args s = true) (hcl : va_Nw (.castable ad "java/lang/Cloneable") s)
    (hframes : 1 ≤ R.frames) (hlocals : 30 ≤ R.locals) (hz : zex2 tt G bc bs rt M ret (wX p l e R s m args below meth c Q B D cl dA aS nL bc bs) (.castore, pc + 3, a, b, d, v) L st h cn sn) : wX p l e R s m args below meth c Q B D cl dA aS nL bc bs pc L st h cn sn := by
  intro hc1 hc2 H locs lsA hH hS hL
  unfold zex2 at hz
  dsimp only at hz
  split at hz
  · rename_i r s9
    obtain ⟨N, f, hr, ⟨hsum, hcc, hss⟩, k⟩ := hz
    have ha : H[B + r]? = some (vp_cell (dA 0) (N, .inl f)) := hH.2 _ _ hr
    have hnm : s.vm.findClass ad = some (dA 0) := by rw [had]; exact (hK.2 0 _ (ztys_get dA (by omega))).2
    obtain ⟨c0, t0', f1, f2, f3⟩ := Cond.castable_spec (va_Nw.use (A := args) rfl hcl)
    cases hnm.symm.trans f1
    intro T hT X
    have hcellT : T.heap[B + r]? = some (vp_cell (dA 0) (N, .inl f)) := by rw [hT]; exact ha
    obtain ⟨-, kA, hkA, comp, hkind⟩ := State.isArrayOf_alike X.warmed.alike ((hK.2 0 _ (ztys_get dA (by omega))).1 0 (fun _ => .null))
    obtain ⟨-, kS, hkS, compS, hkindS⟩ := (hK.2 0 _ (ztys_get dA (by omega))).1 0 (fun _ => .null)
    obtain ⟨vm', X', stp⟩ := X.cloneArray hx hown hlink hsame hnat hinst hsel (a := B + r) (cell := vp_cell (dA 0) (N, .inl f)) hcellT (fun k h => by cases h) (fun h => by cases h) hnm f2 f3
      (fun i v hv => by
        have hk' : T.vm.classes[dA 0]? = some kA := hkA
        have hfit : fits (zty 0) v = true := by
          have : ∃ z : Int32, v = .int z := by
            rw [vp_cell_i] at hv
            by_cases hi : i < N
            · rw [arrV_read _ _ hi] at hv
              exact ⟨_, (Option.some.inj hv).symm⟩
            · rw [Array.getElem?_eq_none (by rw [arrV_size]; omega)] at hv
              cases hv
          obtain ⟨z, rfl⟩ := this
          rfl
        show State.fitsSlot _ (dA 0) _ _ _ = true
        simpa [State.fitsSlot, State.slotType?, hk', hkind] using hfit)
      (g := F0 m pc lsA (.ref (B + r) :: s9.map (zcv B aS))) rfl (by rw [hml]; exact hL.2.1) rfl (by rw [hb]; exact hdg) hframes (by show 2 * 0 + _ + 14 ≤ _; rw [zsum_map]; omega) (by omega) (by show _ + (arrV _ N _).slots.size ≤ _; rw [arrV_size]; omega) (hloader := Vm.clonesLoader_of_array hkS hkindS)
    have hsz : (vp_cell (dA 0) (N, .inl f)).slots.size = N := arrV_size _ _ _
    have hcellE : ({ cls := (vp_cell (dA 0) (N, .inl f)).cls, slots := (vp_cell (dA 0) (N, .inl f)).slots } : Cell) = vp_cell (dA 0) (N, .inl f) := rfl
    rw [hcellE, hsz] at X'
    generalize hH1 : H.push (vp_cell (dA 0) (N, .inl f)) = H1
    have z1 : H1.size = H.size + 1 := by rw [← hH1, Array.size_push]
    have e1 : H1[H.size]? = some (vp_cell (dA 0) (N, .inl f)) := by rw [← hH1, Array.getElem?_push_size]
    have o1 : ∀ q : Nat, q < H.size → H1[q]? = H[q]? := fun q hq => by rw [← hH1, Array.getElem?_push, if_neg (Nat.ne_of_lt hq)]
    have h9 := k (by omega) (by omega) H1 locs lsA (hH.push (e := .inl (0, N, .inl f)) e1 z1 o1) (zS_push hS (by omega) o1) hL
    have e3 : (Value.ref h.length :: s9).map (zcv B aS) = .ref H.size :: s9.map (zcv B aS) := by rw [hH.1]; rfl
    rw [e3] at h9
    obtain ⟨t, b1, b2⟩ := h9 ((T.setVm vm').pushCell (vp_cell (dA 0) (N, .inl f))) (by rw [← hH1, ← hT]; rfl) X'
    refine ⟨t, stp t ?_, b2⟩
    rw [hcellE, hT]
    exact b1
  · exact hz.elim
end SIM8
end
section
/-- a word of the tables, by its table and its place there -/
def ziu (tb : List (List Jvm.Cond)) (p : Nat) (w : Jvm.Cond) : Bool := decide ((tb.getD (p / 1000) [])[p % 1000]? = some w)
def zin (tb : List (List Jvm.Cond)) (p : Nat) (w : Jvm.Cond) : Bool := ziu tb p w && goodWord w
theorem zclI : "[I" = "[" ++ (zty 0).toString := by decide +kernel
theorem zcpw : nativeFrameWords "java/lang/System" "arraycopy" 5 + 30 ≤ 576 := by decide +kernel
/-- words that a change of the tables keeps, but not by the kit's own reading -/
def zspec (w : Jvm.Cond) : Bool := match w with
  | .arrayOver _ => true
  | .methodLinkNest .. => true
  | .castable .. => true
  | _ => false
def zcint (f : Int32 → Bool) (v : Value) : Bool := match v with
  | .int x => f x
  | _ => false
theorem zcint_of {f : Int32 → Bool} {v : Value} (h : zcint f v = true) : ∃ x, v = .int x ∧ f x = true := by
  cases v <;> first | exact ⟨_, rfl, h⟩ | cases h
def zclong (f : Int64 → Bool) (v : Value) : Bool := match v with
  | .long x => f x
  | _ => false
theorem zclong_of {f : Int64 → Bool} {v : Value} (h : zclong f v = true) : ∃ x, v = .long x ∧ f x = true := by
  cases v <;> first | exact ⟨_, rfl, h⟩ | cases h
def zcl (cl : List vw_C) (a : Nat) (f : String → u_T → Nat → Bool) : Bool := match cl[a]? with
  | some (C, T, N) => f C T N
  | none => false
theorem zcl_of {cl : List vw_C} {a : Nat} {f : String → u_T → Nat → Bool} (h : zcl cl a f = true) : ∃ C T N, cl[a]? = some (C, T, N) ∧ f C T N = true := by
  unfold zcl at h
  split at h
  · rename_i C T N hq
    exact ⟨C, T, N, hq, h⟩
  · cases h
def zcm (nm : List (MethodName × ByteArray × Nat)) (a : Nat) (f : MethodName → Nat → Bool) : Bool := match nm[a]? with
  | some (y, _, np) => f y np
  | none => false
theorem zcm_of {nm : List (MethodName × ByteArray × Nat)} {a : Nat} {f : MethodName → Nat → Bool} (h : zcm nm a f = true) : ∃ y bytes np, nm[a]? = some (y, bytes, np) ∧ f y np = true := by
  unfold zcm at h
  split at h
  · rename_i y bytes np hq
    exact ⟨y, bytes, np, hq, h⟩
  · cases h
/-- a canonical instruction is what stands in the code -/
def zchk (Ts : List (List Jvm.Cond)) (cl : List vw_C) (nm : List (MethodName × ByteArray × Nat)) (km : List Nat) (law ini : Bool) (own : String) (raw : Instr) (len pc : Nat) (e : zE) (ps : List Nat) : Bool := match e with
  | (ins, nx, a, b, d, v) => match ins with
    | .aconst_null => match raw with
      | .aconst_null => ((decide (len = 1)) && (decide (v = .null)))
      | .iconst i => ((decide (len = 1)) && (decide (v = .int (Int32.ofInt i))))
      | .bipush i => ((decide (len = 2)) && (decide (v = .int (Int8.ofInt i).toInt32)))
      | .sipush i => ((decide (len = 3)) && (decide (v = .int (Int16.ofInt i).toInt32)))
      | .lconst i => ((decide (len = 1)) && (decide (v = .long (Int64.ofNat (i : Nat)))))
      | .ldc i => ((decide (len = 2)) && (zcint (fun x => zin Ts (ps.getD 0 0) (.constant own i x)) v || zcstr own i v))
      | .ldc_w i => ((decide (len = 3)) && (zcint (fun x => zin Ts (ps.getD 0 0) (.constant own i x)) v || zcstr own i v))
      | .ldc2_w i => ((decide (len = 3)) && (zclong (fun x => zin Ts (ps.getD 0 0) (.constantLong own i x)) v))
      | _ => false
    | .iload _ => match raw with
      | .iload i => ((decide (len = 2)) && (decide (i = a)))
      | .iload_n k => ((decide (len = 1)) && (decide ((k : Nat) = a)))
      | _ => false
    | .lload _ => match raw with
      | .lload i => ((decide (len = 2)) && (decide (i = a)))
      | .lload_n k => ((decide (len = 1)) && (decide ((k : Nat) = a)))
      | _ => false
    | .aload _ => match raw with
      | .aload i => ((decide (len = 2)) && (decide (i = a)))
      | .aload_n k => ((decide (len = 1)) && (decide ((k : Nat) = a)))
      | _ => false
    | .istore _ => match raw with
      | .istore i => ((decide (len = 2)) && (decide (i = a)))
      | .istore_n k => ((decide (len = 1)) && (decide ((k : Nat) = a)))
      | _ => false
    | .lstore _ => match raw with
      | .lstore i => ((decide (len = 2)) && (decide (i = a)))
      | .lstore_n k => ((decide (len = 1)) && (decide ((k : Nat) = a)))
      | _ => false
    | .astore _ => match raw with
      | .astore i => ((decide (len = 2)) && (decide (i = a)))
      | .astore_n k => ((decide (len = 1)) && (decide ((k : Nat) = a)))
      | _ => false
    | .iinc _ _ => match raw with
      | .iinc i z => ((decide (len = 3)) && ((decide (i = a)) && (decide (v = .int (Int32.ofInt z)))))
      | _ => false
    | .pop => match raw with
      | .pop => (decide (len = 1))
      | _ => false
    | .dup => match raw with
      | .dup => (decide (len = 1))
      | _ => false
    | .dup_x1 => match raw with
      | .dup_x1 => (decide (len = 1))
      | _ => false
    | .dup2 => match raw with
      | .dup2 => (decide (len = 1))
      | _ => false
    | .dup2_x1 => match raw with
      | .dup2 => (decide (len = 1))
      | _ => false
    | .iadd => match raw with
      | .iadd => (decide (len = 1))
      | _ => false
    | .isub => match raw with
      | .isub => (decide (len = 1))
      | _ => false
    | .imul => match raw with
      | .imul => (decide (len = 1))
      | _ => false
    | .idiv => match raw with
      | .idiv => (decide (len = 1))
      | _ => false
    | .iand => match raw with
      | .iand => (decide (len = 1))
      | _ => false
    | .ior => match raw with
      | .ior => (decide (len = 1))
      | _ => false
    | .ishl => match raw with
      | .ishl => (decide (len = 1))
      | _ => false
    | .ishr => match raw with
      | .ishr => (decide (len = 1))
      | _ => false
    | .ladd => match raw with
      | .ladd => (decide (len = 1))
      | _ => false
    | .lsub => match raw with
      | .lsub => (decide (len = 1))
      | _ => false
    | .lmul => match raw with
      | .lmul => (decide (len = 1))
      | _ => false
    | .ldiv => match raw with
      | .ldiv => (decide (len = 1))
      | _ => false
    | .lrem => match raw with
      | .lrem => (decide (len = 1))
      | _ => false
    | .lneg => match raw with
      | .lneg => (decide (len = 1))
      | _ => false
    | .land => match raw with
      | .land => (decide (len = 1))
      | _ => false
    | .lor => match raw with
      | .lor => (decide (len = 1))
      | _ => false
    | .lxor => match raw with
      | .lxor => (decide (len = 1))
      | _ => false
    | .lshl => match raw with
      | .lshl => (decide (len = 1))
      | _ => false
    | .lshr => match raw with
      | .lshr => (decide (len = 1))
      | _ => false
    | .lcmp => match raw with
      | .lcmp => (decide (len = 1))
      | _ => false
    | .i2l => match raw with
      | .i2l => (decide (len = 1))
      | _ => false
    | .l2i => match raw with
      | .l2i => (decide (len = 1))
      | _ => false
    | .i2b => match raw with
      | .i2b => (decide (len = 1))
      | _ => false
    | .fadd => match raw with
      | .invokestatic i => ((decide (len = 3)) && (zin Ts (ps.getD 0 0) (.methodLink own i Lib.Math.max.name)))
      | _ => false
    | .fsub => match raw with
      | .invokestatic i => ((decide (len = 3)) && (zin Ts (ps.getD 0 0) (.methodLink own i Lib.Math.min.name)))
      | _ => false
    | .dadd => match raw with
      | .invokestatic i => ((decide (len = 3)) && (zin Ts (ps.getD 0 0) (.methodLink own i Lib.MathLoose.max_long.x)))
      | _ => false
    | .dsub => match raw with
      | .invokestatic i => ((decide (len = 3)) && (zin Ts (ps.getD 0 0) (.methodLink own i Lib.MathLoose.min_long.x)))
      | _ => false
    | .drem => match raw with
      | .pop2 => (decide (len = 1))
      | _ => false
    | .goto _ => match raw with
      | .goto i => ((decide (len = 3)) && (decide ((pc : Int) + i = (a : Int))))
      | _ => false
    | .ifnull _ => match raw with
      | .ifnull i => ((decide (len = 3)) && (decide ((pc : Int) + i = (a : Int))))
      | _ => false
    | .ifnonnull _ => match raw with
      | .ifnonnull i => ((decide (len = 3)) && (decide ((pc : Int) + i = (a : Int))))
      | _ => false
    | .ifCond o _ => match raw with
      | .ifCond o2 i => ((decide (len = 3)) && ((decide (o2 = o)) && (decide ((pc : Int) + i = (a : Int)))))
      | _ => false
    | .if_icmp o _ => match raw with
      | .if_icmp o2 i => ((decide (len = 3)) && ((decide (o2 = o)) && (decide ((pc : Int) + i = (a : Int)))))
      | _ => false
    | .tableswitch df lo hi tg => match raw with
      | .tableswitch dflt lo2 hi2 offs => ((decide (lo2 = lo)) && ((decide (hi2 = hi)) && ((decide (df = (pc : Int) + dflt)) && ((decide (tg = offs.map (fun o => (pc : Int) + o))) && ((decide (0 ≤ df)) && (tg.toList.all (fun t => decide ((0 : Int) ≤ t))))))))
      | _ => false
    | .lookupswitch df qs => match raw with
      | .lookupswitch dflt qr => (((qr.toList.zip (qr.toList.drop 1)).all (fun (a, next) => a.1 < next.1)) && ((decide (df = (pc : Int) + dflt)) && ((decide (qs.toList = qr.toList.map (fun q => (q.1, (pc : Int) + q.2)))) && ((decide (0 ≤ df)) && (qs.toList.all (fun t => decide ((0 : Int) ≤ t.2)))))))
      | _ => false
    | .iaload => match raw with
      | .iaload => (decide (len = 1))
      | _ => false
    | .baload => match raw with
      | .baload => (decide (len = 1))
      | _ => false
    | .laload => match raw with
      | .laload => (decide (len = 1))
      | _ => false
    | .aaload => match raw with
      | .aaload => (decide (len = 1))
      | _ => false
    | .iastore => match raw with
      | .iastore => (decide (len = 1))
      | _ => false
    | .bastore => match raw with
      | .bastore => (decide (len = 1))
      | _ => false
    | .lastore => match raw with
      | .lastore => (decide (len = 1))
      | _ => false
    | .aastore => match raw with
      | .aastore => ((decide (len = 1)) && ((ziu Ts (ps.getD 0 0) (.arrayOver (.array .int))) && (decide ((cl[d]?).map (fun q => q.1) = some "TankBehind$Car"))))
      | _ => false
    | .sastore => match raw with
      | .invokestatic i => ((decide (len = 3)) && ((zin Ts (ps.getD 0 0) (.methodLink own i arraycopyName)) && ((zin Ts (ps.getD 1 0) (.native arraycopyName)) && ((zin Ts (ps.getD 2 0) (.static arraycopyName)) && (zin Ts (ps.getD 3 0) (.initialized "java/lang/System"))))))
      | _ => false
    | .castore => match raw with
      | .invokevirtual i => ((decide (len = 3)) && ((zin Ts (ps.getD 0 0) (.methodLink own i ⟨"[I", "clone", "()Ljava/lang/Object;"⟩)) && ((zin Ts (ps.getD 1 0) (.sameMethod "[I" "java/lang/Object" "clone" "()Ljava/lang/Object;")) && ((zin Ts (ps.getD 2 0) (.native ⟨"java/lang/Object", "clone", "()Ljava/lang/Object;"⟩)) && ((zin Ts (ps.getD 3 0) (.instanceMethod ⟨"java/lang/Object", "clone", "()Ljava/lang/Object;"⟩)) && ((zin Ts (ps.getD 4 0) (.selects "[I" ⟨"[I", "clone", "()Ljava/lang/Object;"⟩ ⟨"java/lang/Object", "clone", "()Ljava/lang/Object;"⟩)) && (ziu Ts (ps.getD 5 0) (.castable "[I" "java/lang/Cloneable"))))))))
      | _ => false
    | .fmul => match raw with
      | .checkcast i => ((decide (len = 3)) && (zin Ts (ps.getD 0 0) (.classLink own i "[I")))
      | _ => false
    | .arraylength => match raw with
      | .arraylength => (decide (len = 1))
      | _ => false
    | .saload => match raw with
      | .iaload => ((decide (len = 1)) && (law))
      | _ => false
    | .i2s => match raw with
      | .arraylength => ((decide (len = 1)) && (law))
      | _ => false
    | .i2c => match raw with
      | .invokevirtual i => ((decide (len = 3)) && (zin Ts (ps.getD 0 0) (.methodLink own i zyLen)))
      | _ => false
    | .caload => match raw with
      | .invokevirtual i => ((decide (len = 3)) && (zin Ts (ps.getD 0 0) (.methodLink own i zyCh)))
      | _ => false
    | .newarray t => match raw with
      | .newarray t2 => ((decide (len = 2)) && ((decide (t2 = t)) && (zin Ts (ps.getD 0 0) (.arrayClass (newarray.typeOf t)))))
      | _ => false
    | .anewarray _ => match raw with
      | .anewarray i => ((decide (len = 3)) && ((decide (a = 5) && (zin Ts (ps.getD 0 0) (.classLink own i "TankBehind$Car") && ziu Ts (ps.getD 1 0) (.arrayOver (.object "TankBehind$Car")))) || (decide (a = 4) && (zin Ts (ps.getD 0 0) (.classLink own i (FieldType.array .int).toString) && ziu Ts (ps.getD 1 0) (.arrayOver (.array .int))))))
      | _ => false
    | .multianewarray _ _ => match raw with
      | .multianewarray i n2 => ((decide (len = 4)) && ((decide (n2 = 2)) && ((zin Ts (ps.getD 0 0) (.classLink own i ("[" ++ (FieldType.array .int).toString))) && ((ziu Ts (ps.getD 1 0) (.arrayOver (.array .int))) && (zin Ts (ps.getD 2 0) (.arrayClass .int))))))
      | _ => false
    | .new _ => match raw with
      | .new i => ((decide (len = 3)) && (zcl cl a (fun C T N => zin Ts (ps.getD 0 0) (.classLink own i C) && (zin Ts (ps.getD 1 0) (.instantiable C N) && zin Ts (ps.getD 2 0) (.initialized C)))))
      | _ => false
    | .getfield _ => match raw with
      | .getfield i => ((decide (len = 3)) && (zcl cl a (fun C T N => decide (b < N) && zin Ts (ps.getD 0 0) (.fieldLink own i (T b).1 (T b).2.1 (T b).2.2.1))))
      | _ => false
    | .putfield _ => match raw with
      | .putfield i => ((decide (len = 3)) && (zcl cl a (fun C T N => decide (b < N) && (zin Ts (ps.getD 0 0) (.fieldLink own i (T b).1 (T b).2.1 (T b).2.2.1) && (decide ((T b).2.2.2 = false) || (ini && decide ((T b).1 = own)))))))
      | _ => false
    | .pop2 => match raw with
      | .invokespecial i => ((decide (len = 3)) && ((zin Ts (ps.getD 0 0) (.methodLink own i Lib.objectInit)) && ((zin Ts (ps.getD 1 0) (.instanceMethod Lib.objectInit)) && (zin Ts (ps.getD 2 0) (.code Lib.objectInit ⟨#[0xb1]⟩ 1 none)))))
      | _ => false
    | .invokevirtual _ => match raw with
      | .invokevirtual i => ((decide (len = 3)) && (zcm nm a (fun y np => decide (np = b) && (zin Ts (ps.getD 0 0) (.methodLink own i y) && (decide ((cl[d]?).map (fun q => q.1) = some y.cls) && decide (km.getD a 9 = 1))))))
      | _ => false
    | .invokespecial _ => match raw with
      | .invokespecial i => ((decide (len = 3)) && (zcm nm a (fun y np => decide (np = b) && ((zin Ts (ps.getD 0 0) (.methodLink own i y) || ziu Ts (ps.getD 0 0) (.methodLinkNest own i y "TankBehind")) && decide (km.getD a 9 = 2)))))
      | _ => false
    | .invokestatic _ => match raw with
      | .invokestatic i => ((decide (len = 3)) && (zcm nm a (fun y np => decide (np = b) && ((zin Ts (ps.getD 0 0) (.methodLink own i y) || ziu Ts (ps.getD 0 0) (.methodLinkNest own i y "TankBehind")) && decide (km.getD a 9 = 0)))))
      | _ => false
    | .ireturn => match raw with
      | .ireturn => (decide (len = 1))
      | _ => false
    | .lreturn => match raw with
      | .lreturn => (decide (len = 1))
      | _ => false
    | .areturn => match raw with
      | .areturn => (decide (len = 1))
      | _ => false
    | .return_ => match raw with
      | .return_ => (decide (len = 1))
      | _ => false
    | _ => false
/-- what the methods' own words are -/
def zMok (Ts : List Jvm.Cond) (nm : List (MethodName × ByteArray × Nat)) (km : List Nat) (G : zG) : Prop := ∀ (j : Nat) (y : MethodName) (bytes : ByteArray) (np : Nat), nm[j]? = some (y, bytes, np) → ∃ (cd : zK) (nL : Nat) (rt : Option FieldType) (mc ms : Nat), G.1[j]? = some (cd, nL, rt, mc, ms) ∧ nL ≤ 40 ∧ Jvm.Cond.initialized y.cls ∈ Ts ∧ Jvm.Cond.code y bytes nL rt ∈ Ts ∧ (y.cls ≠ "java/lang/invoke/MethodHandle" ∧ y.cls ≠ "java/lang/invoke/VarHandle" ∧ (parseMethodDescriptor y.desc).map (fun d => d.parameters.length) = some np) ∧ (km.getD j 9 = 0 → Jvm.Cond.static y ∈ Ts) ∧ (km.getD j 9 = 1 → Jvm.Cond.instanceMethod y ∈ Ts ∧ Jvm.Cond.selects y.cls y y ∈ Ts) ∧ (km.getD j 9 = 2 → Jvm.Cond.instanceMethod y ∈ Ts ∧ y.name = "<init>" ∧ rt = none)
section SIM5
variable {p : Program} {l : Launch} {e : Env} {R : Room} {s : State} {m : MethodId} {args : Array Value} {below : List Frame} {meth : Method} {c : Code} {Q : State → Prop} {cc : ByteArray} {B : Nat} {D : va_G} {cl : List vw_C} {dA : Nat → ClassId} {aS : Nat → Nat} {nL bc bs pc : Nat}
variable {L : zL} {st : List Value} {h : zH} {cn sn : Nat}
variable {tt : zT} {G : zG} {rt : Option FieldType} {M : zM} {ret : zQ} {Ts : List Jvm.Cond} {own : String} {Z : State → Prop}
set_option maxHeartbeats 4000000 in
theorem zsnd {nm : List (MethodName × ByteArray × Nat)} {km : List Nat} {law ini : Bool} {raw : Instr} {len d9 : Nat} {ze : zE} {ps : List Nat} {tb : List (List Jvm.Cond)} (hx : p.tables.exec = Jvm.exec) (hb : c.code = cc) (hml : c.maxLocals = nL) (hts : ∀ w ∈ Ts, w.before args s = true) (hG : GoodIn Ts Ts) (hT : zTT tt cl Ts) (hMk : zMok Ts nm km G) (hown : s.vm.findClass own = some m.cls) (hini : ini = true → meth.name = "<init>") (hK : va_K D cl (ztys dA) s) (hZ : zStays B Z) (hZs : Z s) (hBs : B ≤ s.heap.size) (hM : zMet l nm G B D cl dA aS Z Ts d9 M)
    (hX : law = true → aS 0 < s.heap.size ∧ ¬ B ≤ aS 0 ∧ va_X (aS 0) G.2.2.1 G.2.2.2 s s.heap) (hSo : zSok B Z Ts aS G.2.1) (hR : bc ≤ R.cells ∧ bs ≤ R.slots) (hR1 : d9 + 9 ≤ R.frames) (hR2 : d9 * 64 + 576 ≤ R.locals)
    (hri : ∀ (x : Int32) (h : zH) (H : Heap) (locs : List Loc) (lsA : Array Slot) (pc cn sn : Nat), ret (some (.int x)) h → cn ≤ bc → sn ≤ bs → zhR B D cl dA aS h H → va_S (fun q => B ≤ q) s.heap H locs → decode cc pc = .ok (.ireturn, 1) → (∃ t : FieldType, rt = some t ∧ narrow t (.int x) = .int x) → W p l e R s m args below meth c H locs cn sn Q (F0 m pc lsA [.int x]))
    (hrl : ∀ (x : Int64) (h : zH) (H : Heap) (locs : List Loc) (lsA : Array Slot) (pc cn sn : Nat), ret (some (.long x)) h → cn ≤ bc → sn ≤ bs → zhR B D cl dA aS h H → va_S (fun q => B ≤ q) s.heap H locs → decode cc pc = .ok (.lreturn, 1) → rt = some .long → W p l e R s m args below meth c H locs cn sn Q (F0 m pc lsA [.long x]))
    (hra : ∀ (w : Value) (h : zH) (H : Heap) (locs : List Loc) (lsA : Array Slot) (pc cn sn : Nat), (w = .null ∨ (∃ r, w = .ref r) ∨ ∃ r, w = .retAddr r) → ret (some w) h → cn ≤ bc → sn ≤ bs → zhR B D cl dA aS h H → va_S (fun q => B ≤ q) s.heap H locs → decode cc pc = .ok (.areturn, 1) → (∃ t : FieldType, rt = some t ∧ fits t .null = true) → W p l e R s m args below meth c H locs cn sn Q (F0 m pc lsA [zcv B aS w]))
    (hrv : ∀ (h : zH) (H : Heap) (locs : List Loc) (lsA : Array Slot) (pc cn sn : Nat), ret none h → cn ≤ bc → sn ≤ bs → zhR B D cl dA aS h H → va_S (fun q => B ≤ q) s.heap H locs → decode cc pc = .ok (.return_, 1) → rt = none → W p l e R s m args below meth c H locs cn sn Q (F0 m pc lsA []))
    (hdg : decode cc pc = .ok (raw, len)) (hnx : ze.2.1 = pc + len) (hin : ∀ (p : Nat) (w : Jvm.Cond), zin tb p w = true → w ∈ Ts) (hiu : ∀ (p : Nat) (w : Jvm.Cond), ziu tb p w = true → zspec w = true → w.before #[] s = true) (hk : zchk tb cl nm km law ini own raw len pc ze ps = true) (hz : zex tt G bc bs rt M ret (wX p l e R s m args below meth c Q B D cl dA aS nL bc bs) ze L st h cn sn) : wX p l e R s m args below meth c Q B D cl dA aS nL bc bs pc L st h cn sn := by
  obtain ⟨ins, nx, a, b, d, v⟩ := ze
  have hnx : nx = pc + len := hnx
  subst hnx
  unfold zchk at hk
  dsimp only at hk
  cases ins

  case aconst_null =>
    have Z1 := hz.resolve_right (fun q => q)
    dsimp only at hk
    split at hk
    · simp only [Bool.and_eq_true, Bool.or_eq_true, decide_eq_true_eq] at hk
      obtain ⟨h0, h1⟩ := hk
      subst h0
      exact s_null hx hb hdg h1 Z1
    · rename_i i
      simp only [Bool.and_eq_true, Bool.or_eq_true, decide_eq_true_eq] at hk
      obtain ⟨h0, h1⟩ := hk
      subst h0
      exact s_iconst hx hb hdg h1 Z1
    · rename_i i
      simp only [Bool.and_eq_true, Bool.or_eq_true, decide_eq_true_eq] at hk
      obtain ⟨h0, h1⟩ := hk
      subst h0
      exact s_bipush hx hb hdg h1 Z1
    · rename_i i
      simp only [Bool.and_eq_true, Bool.or_eq_true, decide_eq_true_eq] at hk
      obtain ⟨h0, h1⟩ := hk
      subst h0
      exact s_sipush hx hb hdg h1 Z1
    · rename_i i
      simp only [Bool.and_eq_true, Bool.or_eq_true, decide_eq_true_eq] at hk
      obtain ⟨h0, h1⟩ := hk
      subst h0
      exact s_lconst hx hb hdg h1 Z1
    · rename_i i
      simp only [Bool.and_eq_true, Bool.or_eq_true, decide_eq_true_eq] at hk
      obtain ⟨h0, h1⟩ := hk
      subst h0
      rcases h1 with h1 | h1
      · obtain ⟨x, e1, e2⟩ := zcint_of h1
        exact s_ldc hx hb hdg e1 hown (hts _ (hin _ _ e2)) Z1
      · obtain ⟨k9, e1, e2⟩ := zcstr_of h1
        obtain ⟨t9, e3⟩ := hSo.2.2.2.2 _ e2 s hZs
        exact s_ldcs hx hb hdg e1 hown e3 Z1
    · rename_i i
      simp only [Bool.and_eq_true, Bool.or_eq_true, decide_eq_true_eq] at hk
      obtain ⟨h0, h1⟩ := hk
      subst h0
      rcases h1 with h1 | h1
      · obtain ⟨x, e1, e2⟩ := zcint_of h1
        exact s_ldcw hx hb hdg e1 hown (hts _ (hin _ _ e2)) Z1
      · obtain ⟨k9, e1, e2⟩ := zcstr_of h1
        obtain ⟨t9, e3⟩ := hSo.2.2.2.2 _ e2 s hZs
        exact s_ldcws hx hb hdg e1 hown e3 Z1
    · rename_i i
      simp only [Bool.and_eq_true, Bool.or_eq_true, decide_eq_true_eq] at hk
      obtain ⟨h0, h1⟩ := hk
      subst h0
      obtain ⟨x, e1, e2⟩ := zclong_of h1
      exact s_ldc2 hx hb hdg e1 hown (hts _ (hin _ _ e2)) Z1
    · cases hk
  case iload w0 =>
    have Z1 := hz.resolve_right (fun q => q)
    dsimp only at hk
    split at hk
    · rename_i i
      simp only [Bool.and_eq_true, Bool.or_eq_true, decide_eq_true_eq] at hk
      obtain ⟨h0, h1⟩ := hk
      subst h0
      subst h1
      exact s_iload hx hb hdg Z1
    · rename_i k
      simp only [Bool.and_eq_true, Bool.or_eq_true, decide_eq_true_eq] at hk
      obtain ⟨h0, h1⟩ := hk
      subst h0
      exact s_iload_n hx hb hdg h1 Z1
    · cases hk
  case lload w0 =>
    have Z1 := hz.resolve_right (fun q => q)
    dsimp only at hk
    split at hk
    · rename_i i
      simp only [Bool.and_eq_true, Bool.or_eq_true, decide_eq_true_eq] at hk
      obtain ⟨h0, h1⟩ := hk
      subst h0
      subst h1
      exact s_lload hx hb hdg Z1
    · rename_i k
      simp only [Bool.and_eq_true, Bool.or_eq_true, decide_eq_true_eq] at hk
      obtain ⟨h0, h1⟩ := hk
      subst h0
      exact s_lload_n hx hb hdg h1 Z1
    · cases hk
  case aload w0 =>
    have Z1 := hz.resolve_right (fun q => q)
    dsimp only at hk
    split at hk
    · rename_i i
      simp only [Bool.and_eq_true, Bool.or_eq_true, decide_eq_true_eq] at hk
      obtain ⟨h0, h1⟩ := hk
      subst h0
      subst h1
      exact s_aload hx hb hdg Z1
    · rename_i k
      simp only [Bool.and_eq_true, Bool.or_eq_true, decide_eq_true_eq] at hk
      obtain ⟨h0, h1⟩ := hk
      subst h0
      exact s_aload_n hx hb hdg h1 Z1
    · cases hk
  case istore w0 =>
    have Z1 := hz.resolve_right (fun q => q)
    dsimp only at hk
    split at hk
    · rename_i i
      simp only [Bool.and_eq_true, Bool.or_eq_true, decide_eq_true_eq] at hk
      obtain ⟨h0, h1⟩ := hk
      subst h0
      subst h1
      exact s_istore hx hb hdg Z1
    · rename_i k
      simp only [Bool.and_eq_true, Bool.or_eq_true, decide_eq_true_eq] at hk
      obtain ⟨h0, h1⟩ := hk
      subst h0
      exact s_istore_n hx hb hdg h1 Z1
    · cases hk
  case lstore w0 =>
    have Z1 := hz.resolve_right (fun q => q)
    dsimp only at hk
    split at hk
    · rename_i i
      simp only [Bool.and_eq_true, Bool.or_eq_true, decide_eq_true_eq] at hk
      obtain ⟨h0, h1⟩ := hk
      subst h0
      subst h1
      exact s_lstore hx hb hdg Z1
    · rename_i k
      simp only [Bool.and_eq_true, Bool.or_eq_true, decide_eq_true_eq] at hk
      obtain ⟨h0, h1⟩ := hk
      subst h0
      exact s_lstore_n hx hb hdg h1 Z1
    · cases hk
  case astore w0 =>
    have Z1 := hz.resolve_right (fun q => q)
    dsimp only at hk
    split at hk
    · rename_i i
      simp only [Bool.and_eq_true, Bool.or_eq_true, decide_eq_true_eq] at hk
      obtain ⟨h0, h1⟩ := hk
      subst h0
      subst h1
      exact s_astore hx hb hdg Z1
    · rename_i k
      simp only [Bool.and_eq_true, Bool.or_eq_true, decide_eq_true_eq] at hk
      obtain ⟨h0, h1⟩ := hk
      subst h0
      exact s_astore_n hx hb hdg h1 Z1
    · cases hk
  case iinc w0 w1 =>
    have Z1 := hz.resolve_right (fun q => q)
    dsimp only at hk
    split at hk
    · rename_i i z
      simp only [Bool.and_eq_true, Bool.or_eq_true, decide_eq_true_eq] at hk
      obtain ⟨h0, h1, h2⟩ := hk
      subst h0
      subst h1
      exact s_iinc hx hb hdg h2 Z1
    · cases hk
  case pop =>
    have Z1 := hz.resolve_right (fun q => q)
    dsimp only at hk
    split at hk
    · simp only [Bool.and_eq_true, Bool.or_eq_true, decide_eq_true_eq] at hk
      have h0 := hk
      subst h0
      exact s_pop hx hb hdg Z1
    · cases hk
  case dup =>
    have Z1 := hz.resolve_right (fun q => q)
    dsimp only at hk
    split at hk
    · simp only [Bool.and_eq_true, Bool.or_eq_true, decide_eq_true_eq] at hk
      have h0 := hk
      subst h0
      exact s_dup hx hb hdg Z1
    · cases hk
  case dup_x1 =>
    have Z1 := hz.resolve_right (fun q => q)
    dsimp only at hk
    split at hk
    · simp only [Bool.and_eq_true, Bool.or_eq_true, decide_eq_true_eq] at hk
      have h0 := hk
      subst h0
      exact s_dup_x1 hx hb hdg Z1
    · cases hk
  case dup2 =>
    have Z1 := hz.resolve_right (fun q => q)
    dsimp only at hk
    split at hk
    · simp only [Bool.and_eq_true, Bool.or_eq_true, decide_eq_true_eq] at hk
      have h0 := hk
      subst h0
      exact s_dup2 hx hb hdg Z1
    · cases hk
  case dup2_x1 =>
    have Z1 := hz.resolve_right (fun q => q)
    dsimp only at hk
    split at hk
    · simp only [Bool.and_eq_true, Bool.or_eq_true, decide_eq_true_eq] at hk
      have h0 := hk
      subst h0
      exact s_dupl hx hb hdg Z1
    · cases hk
  case iadd =>
    have Z1 := hz.resolve_right (fun q => q)
    dsimp only at hk
    split at hk
    · simp only [Bool.and_eq_true, Bool.or_eq_true, decide_eq_true_eq] at hk
      have h0 := hk
      subst h0
      exact s_iadd hx hb hdg Z1
    · cases hk
  case isub =>
    have Z1 := hz.resolve_right (fun q => q)
    dsimp only at hk
    split at hk
    · simp only [Bool.and_eq_true, Bool.or_eq_true, decide_eq_true_eq] at hk
      have h0 := hk
      subst h0
      exact s_isub hx hb hdg Z1
    · cases hk
  case imul =>
    have Z1 := hz.resolve_right (fun q => q)
    dsimp only at hk
    split at hk
    · simp only [Bool.and_eq_true, Bool.or_eq_true, decide_eq_true_eq] at hk
      have h0 := hk
      subst h0
      exact s_imul hx hb hdg Z1
    · cases hk
  case idiv =>
    have Z1 := hz.resolve_right (fun q => q)
    dsimp only at hk
    split at hk
    · simp only [Bool.and_eq_true, Bool.or_eq_true, decide_eq_true_eq] at hk
      have h0 := hk
      subst h0
      exact s_idiv hx hb hdg Z1
    · cases hk
  case iand =>
    have Z1 := hz.resolve_right (fun q => q)
    dsimp only at hk
    split at hk
    · simp only [Bool.and_eq_true, Bool.or_eq_true, decide_eq_true_eq] at hk
      have h0 := hk
      subst h0
      exact s_iand hx hb hdg Z1
    · cases hk
  case ior =>
    have Z1 := hz.resolve_right (fun q => q)
    dsimp only at hk
    split at hk
    · simp only [Bool.and_eq_true, Bool.or_eq_true, decide_eq_true_eq] at hk
      have h0 := hk
      subst h0
      exact s_ior hx hb hdg Z1
    · cases hk
  case ishl =>
    have Z1 := hz.resolve_right (fun q => q)
    dsimp only at hk
    split at hk
    · simp only [Bool.and_eq_true, Bool.or_eq_true, decide_eq_true_eq] at hk
      have h0 := hk
      subst h0
      exact s_ishl hx hb hdg Z1
    · cases hk
  case ishr =>
    have Z1 := hz.resolve_right (fun q => q)
    dsimp only at hk
    split at hk
    · simp only [Bool.and_eq_true, Bool.or_eq_true, decide_eq_true_eq] at hk
      have h0 := hk
      subst h0
      exact s_ishr hx hb hdg Z1
    · cases hk
  case ladd =>
    have Z1 := hz.resolve_right (fun q => q)
    dsimp only at hk
    split at hk
    · simp only [Bool.and_eq_true, Bool.or_eq_true, decide_eq_true_eq] at hk
      have h0 := hk
      subst h0
      exact s_ladd hx hb hdg Z1
    · cases hk
  case lsub =>
    have Z1 := hz.resolve_right (fun q => q)
    dsimp only at hk
    split at hk
    · simp only [Bool.and_eq_true, Bool.or_eq_true, decide_eq_true_eq] at hk
      have h0 := hk
      subst h0
      exact s_lsub hx hb hdg Z1
    · cases hk
  case lmul =>
    have Z1 := hz.resolve_right (fun q => q)
    dsimp only at hk
    split at hk
    · simp only [Bool.and_eq_true, Bool.or_eq_true, decide_eq_true_eq] at hk
      have h0 := hk
      subst h0
      exact s_lmul hx hb hdg Z1
    · cases hk
  case ldiv =>
    have Z1 := hz.resolve_right (fun q => q)
    dsimp only at hk
    split at hk
    · simp only [Bool.and_eq_true, Bool.or_eq_true, decide_eq_true_eq] at hk
      have h0 := hk
      subst h0
      exact s_ldiv hx hb hdg Z1
    · cases hk
  case lrem =>
    have Z1 := hz.resolve_right (fun q => q)
    dsimp only at hk
    split at hk
    · simp only [Bool.and_eq_true, Bool.or_eq_true, decide_eq_true_eq] at hk
      have h0 := hk
      subst h0
      exact s_lrem hx hb hdg Z1
    · cases hk
  case lneg =>
    have Z1 := hz.resolve_right (fun q => q)
    dsimp only at hk
    split at hk
    · simp only [Bool.and_eq_true, Bool.or_eq_true, decide_eq_true_eq] at hk
      have h0 := hk
      subst h0
      exact s_lneg hx hb hdg Z1
    · cases hk
  case land =>
    have Z1 := hz.resolve_right (fun q => q)
    dsimp only at hk
    split at hk
    · simp only [Bool.and_eq_true, Bool.or_eq_true, decide_eq_true_eq] at hk
      have h0 := hk
      subst h0
      exact s_land hx hb hdg Z1
    · cases hk
  case lor =>
    have Z1 := hz.resolve_right (fun q => q)
    dsimp only at hk
    split at hk
    · simp only [Bool.and_eq_true, Bool.or_eq_true, decide_eq_true_eq] at hk
      have h0 := hk
      subst h0
      exact s_lor hx hb hdg Z1
    · cases hk
  case lxor =>
    have Z1 := hz.resolve_right (fun q => q)
    dsimp only at hk
    split at hk
    · simp only [Bool.and_eq_true, Bool.or_eq_true, decide_eq_true_eq] at hk
      have h0 := hk
      subst h0
      exact s_lxor hx hb hdg Z1
    · cases hk
  case lshl =>
    have Z1 := hz.resolve_right (fun q => q)
    dsimp only at hk
    split at hk
    · simp only [Bool.and_eq_true, Bool.or_eq_true, decide_eq_true_eq] at hk
      have h0 := hk
      subst h0
      exact s_lshl hx hb hdg Z1
    · cases hk
  case lshr =>
    have Z1 := hz.resolve_right (fun q => q)
    dsimp only at hk
    split at hk
    · simp only [Bool.and_eq_true, Bool.or_eq_true, decide_eq_true_eq] at hk
      have h0 := hk
      subst h0
      exact s_lshr hx hb hdg Z1
    · cases hk
  case lcmp =>
    have Z1 := hz.resolve_right (fun q => q)
    dsimp only at hk
    split at hk
    · simp only [Bool.and_eq_true, Bool.or_eq_true, decide_eq_true_eq] at hk
      have h0 := hk
      subst h0
      exact s_lcmp hx hb hdg Z1
    · cases hk
  case i2l =>
    have Z1 := hz.resolve_right (fun q => q)
    dsimp only at hk
    split at hk
    · simp only [Bool.and_eq_true, Bool.or_eq_true, decide_eq_true_eq] at hk
      have h0 := hk
      subst h0
      exact s_i2l hx hb hdg Z1
    · cases hk
  case l2i =>
    have Z1 := hz.resolve_right (fun q => q)
    dsimp only at hk
    split at hk
    · simp only [Bool.and_eq_true, Bool.or_eq_true, decide_eq_true_eq] at hk
      have h0 := hk
      subst h0
      exact s_l2i hx hb hdg Z1
    · cases hk
  case i2b =>
    have Z1 := hz.resolve_right (fun q => q)
    dsimp only at hk
    split at hk
    · simp only [Bool.and_eq_true, Bool.or_eq_true, decide_eq_true_eq] at hk
      have h0 := hk
      subst h0
      exact s_i2b hx hb hdg Z1
    · cases hk
  case fadd =>
    have Z1 := hz.resolve_right (fun q => q)
    dsimp only at hk
    split at hk
    · rename_i i
      simp only [Bool.and_eq_true, Bool.or_eq_true, decide_eq_true_eq] at hk
      obtain ⟨h0, h1⟩ := hk
      subst h0
      exact s_imax hx hb hml hdg hts hown hSo hR (by omega) (by omega) (hin _ _ h1) Z1
    · cases hk
  case fsub =>
    have Z1 := hz.resolve_right (fun q => q)
    dsimp only at hk
    split at hk
    · rename_i i
      simp only [Bool.and_eq_true, Bool.or_eq_true, decide_eq_true_eq] at hk
      obtain ⟨h0, h1⟩ := hk
      subst h0
      exact s_imin hx hb hml hdg hts hown hSo hR (by omega) (by omega) (hin _ _ h1) Z1
    · cases hk
  case dadd =>
    have Z1 := hz.resolve_right (fun q => q)
    dsimp only at hk
    split at hk
    · rename_i i
      simp only [Bool.and_eq_true, Bool.or_eq_true, decide_eq_true_eq] at hk
      obtain ⟨h0, h1⟩ := hk
      subst h0
      exact s_lmax hx hb hml hdg hts hown hSo hR (by omega) (by omega) (hin _ _ h1) Z1
    · cases hk
  case dsub =>
    have Z1 := hz.resolve_right (fun q => q)
    dsimp only at hk
    split at hk
    · rename_i i
      simp only [Bool.and_eq_true, Bool.or_eq_true, decide_eq_true_eq] at hk
      obtain ⟨h0, h1⟩ := hk
      subst h0
      exact s_lmin hx hb hml hdg hts hown hSo hR (by omega) (by omega) (hin _ _ h1) Z1
    · cases hk
  case drem =>
    have Z1 := hz.resolve_right (fun q => q)
    dsimp only at hk
    split at hk
    · simp only [Bool.and_eq_true, Bool.or_eq_true, decide_eq_true_eq] at hk
      have h0 := hk
      subst h0
      exact s_pop2l hx hb hdg Z1
    · cases hk
  case goto w0 =>
    have Z1 := hz.resolve_right (fun q => q)
    dsimp only at hk
    split at hk
    · rename_i i
      simp only [Bool.and_eq_true, Bool.or_eq_true, decide_eq_true_eq] at hk
      obtain ⟨h0, h1⟩ := hk
      subst h0
      exact s_goto hx hb hdg h1 Z1
    · cases hk
  case ifnull w0 =>
    have Z1 := hz.resolve_right (fun q => q)
    dsimp only at hk
    split at hk
    · rename_i i
      simp only [Bool.and_eq_true, Bool.or_eq_true, decide_eq_true_eq] at hk
      obtain ⟨h0, h1⟩ := hk
      subst h0
      exact s_ifnull hx hb hdg h1 Z1
    · cases hk
  case ifnonnull w0 =>
    have Z1 := hz.resolve_right (fun q => q)
    dsimp only at hk
    split at hk
    · rename_i i
      simp only [Bool.and_eq_true, Bool.or_eq_true, decide_eq_true_eq] at hk
      obtain ⟨h0, h1⟩ := hk
      subst h0
      exact s_ifnonnull hx hb hdg h1 Z1
    · cases hk
  case ifCond o w1 =>
    have Z1 := hz.resolve_right (fun q => q)
    dsimp only at hk
    split at hk
    · rename_i o2 i
      simp only [Bool.and_eq_true, Bool.or_eq_true, decide_eq_true_eq] at hk
      obtain ⟨h0, h1, h2⟩ := hk
      subst h0
      subst h1
      cases o2 <;> first | exact s_if_eq hx hb hdg h2 Z1 | exact s_if_ne hx hb hdg h2 Z1 | exact s_if_lt hx hb hdg h2 Z1 | exact s_if_ge hx hb hdg h2 Z1 | exact s_if_gt hx hb hdg h2 Z1 | exact s_if_le hx hb hdg h2 Z1
    · cases hk
  case if_icmp o w1 =>
    have Z1 := hz.resolve_right (fun q => q)
    dsimp only at hk
    split at hk
    · rename_i o2 i
      simp only [Bool.and_eq_true, Bool.or_eq_true, decide_eq_true_eq] at hk
      obtain ⟨h0, h1, h2⟩ := hk
      subst h0
      subst h1
      cases o2 <;> first | exact s_icmp_eq hx hb hdg h2 Z1 | exact s_icmp_ne hx hb hdg h2 Z1 | exact s_icmp_lt hx hb hdg h2 Z1 | exact s_icmp_ge hx hb hdg h2 Z1 | exact s_icmp_gt hx hb hdg h2 Z1 | exact s_icmp_le hx hb hdg h2 Z1
    · cases hk
  case tableswitch df lo hi tg =>
    have Z2 := hz.resolve_left (fun q => q)
    dsimp only at hk
    split at hk
    · rename_i dflt lo2 hi2 offs
      simp only [Bool.and_eq_true, Bool.or_eq_true, decide_eq_true_eq] at hk
      obtain ⟨h0, h1, h2, h3, h4, h5⟩ := hk
      subst h0
      subst h1
      exact s_tableswitch hx hb hdg h2 h3 h4 (fun t ht => of_decide_eq_true (List.all_eq_true.mp h5 t (Array.mem_toList_iff.mpr ht))) Z2
    · cases hk
  case lookupswitch df qs =>
    have Z2 := hz.resolve_left (fun q => q)
    dsimp only at hk
    split at hk
    · rename_i dflt qr
      simp only [Bool.and_eq_true, Bool.or_eq_true, decide_eq_true_eq] at hk
      obtain ⟨h0, h1, h2, h3, h4⟩ := hk
      exact s_lookupswitch hx hb hdg h0 h1 h2 h3 (fun t ht => of_decide_eq_true (List.all_eq_true.mp h4 t ht)) Z2
    · cases hk
  case iaload =>
    have Z2 := hz.resolve_left (fun q => q)
    dsimp only at hk
    split at hk
    · simp only [Bool.and_eq_true, Bool.or_eq_true, decide_eq_true_eq] at hk
      have h0 := hk
      subst h0
      exact s_iaload hx hb hdg hK Z2
    · cases hk
  case baload =>
    have Z2 := hz.resolve_left (fun q => q)
    dsimp only at hk
    split at hk
    · simp only [Bool.and_eq_true, Bool.or_eq_true, decide_eq_true_eq] at hk
      have h0 := hk
      subst h0
      exact s_baload hx hb hdg hK Z2
    · cases hk
  case laload =>
    have Z2 := hz.resolve_left (fun q => q)
    dsimp only at hk
    split at hk
    · simp only [Bool.and_eq_true, Bool.or_eq_true, decide_eq_true_eq] at hk
      have h0 := hk
      subst h0
      exact s_laload hx hb hdg hK Z2
    · cases hk
  case aaload =>
    have Z2 := hz.resolve_left (fun q => q)
    dsimp only at hk
    split at hk
    · simp only [Bool.and_eq_true, Bool.or_eq_true, decide_eq_true_eq] at hk
      have h0 := hk
      subst h0
      exact s_aaload hx hb hdg hK Z2
    · cases hk
  case iastore =>
    have Z2 := hz.resolve_left (fun q => q)
    dsimp only at hk
    split at hk
    · simp only [Bool.and_eq_true, Bool.or_eq_true, decide_eq_true_eq] at hk
      have h0 := hk
      subst h0
      exact s_iastore hx hb hdg hK Z2
    · cases hk
  case bastore =>
    have Z2 := hz.resolve_left (fun q => q)
    dsimp only at hk
    split at hk
    · simp only [Bool.and_eq_true, Bool.or_eq_true, decide_eq_true_eq] at hk
      have h0 := hk
      subst h0
      exact s_bastore hx hb hdg hK Z2
    · cases hk
  case lastore =>
    have Z2 := hz.resolve_left (fun q => q)
    dsimp only at hk
    split at hk
    · simp only [Bool.and_eq_true, Bool.or_eq_true, decide_eq_true_eq] at hk
      have h0 := hk
      subst h0
      exact s_lastore hx hb hdg hK Z2
    · cases hk
  case aastore =>
    have Z2 := hz.resolve_left (fun q => q)
    dsimp only at hk
    split at hk
    · simp only [Bool.and_eq_true, Bool.or_eq_true, decide_eq_true_eq] at hk
      obtain ⟨h0, h1, h2⟩ := hk
      subst h0
      exact s_aastore hx hb hdg hK (hiu _ _ h1 rfl) h2 Z2
    · cases hk
  case sastore =>
    have Z2 := hz.resolve_left (fun q => q)
    dsimp only at hk
    split at hk
    · rename_i i
      simp only [Bool.and_eq_true, Bool.or_eq_true, decide_eq_true_eq] at hk
      obtain ⟨h0, h1, h2, h3, h4⟩ := hk
      subst h0
      exact s_copy hx hb hml hdg hown hK (hts _ (hin _ _ h1)) (hts _ (hin _ _ h2)) (hts _ (hin _ _ h3)) (hts _ (hin _ _ h4)) (by omega) (Nat.le_trans zcpw (Nat.le_trans (Nat.le_add_left 576 _) hR2)) Z2
    · cases hk
  case castore =>
    have Z2 := hz.resolve_left (fun q => q)
    dsimp only at hk
    split at hk
    · rename_i i
      simp only [Bool.and_eq_true, Bool.or_eq_true, decide_eq_true_eq] at hk
      obtain ⟨h0, h1, h2, h3, h4, h5, h6⟩ := hk
      subst h0
      exact s_clone zclI hx hb hml hdg hown hK hR (hts _ (hin _ _ h1)) (hts _ (hin _ _ h2)) (hts _ (hin _ _ h3)) (hts _ (hin _ _ h4)) (hts _ (hin _ _ h5)) (hiu _ _ h6 rfl) (by omega) (by omega) Z2
    · cases hk
  case fmul =>
    have Z2 := hz.resolve_left (fun q => q)
    dsimp only at hk
    split at hk
    · rename_i i
      simp only [Bool.and_eq_true, Bool.or_eq_true, decide_eq_true_eq] at hk
      obtain ⟨h0, h1⟩ := hk
      subst h0
      exact s_cast hx hb hdg hown hK (by rw [← zclI]; exact hts _ (hin _ _ h1)) Z2
    · cases hk
  case arraylength =>
    have Z2 := hz.resolve_left (fun q => q)
    dsimp only at hk
    split at hk
    · simp only [Bool.and_eq_true, Bool.or_eq_true, decide_eq_true_eq] at hk
      have h0 := hk
      subst h0
      exact s_alen hx hb hdg hK Z2
    · cases hk
  case saload =>
    have Z2 := hz.resolve_left (fun q => q)
    dsimp only at hk
    split at hk
    · simp only [Bool.and_eq_true, Bool.or_eq_true, decide_eq_true_eq] at hk
      obtain ⟨h0, h1⟩ := hk
      subst h0
      exact s_saload hx hb hdg (hX h1) Z2
    · cases hk
  case i2s =>
    have Z2 := hz.resolve_left (fun q => q)
    dsimp only at hk
    split at hk
    · simp only [Bool.and_eq_true, Bool.or_eq_true, decide_eq_true_eq] at hk
      obtain ⟨h0, h1⟩ := hk
      subst h0
      exact s_slen hx hb hdg (hX h1) Z2
    · cases hk
  case i2c =>
    have Z2 := hz.resolve_left (fun q => q)
    dsimp only at hk
    split at hk
    · rename_i i
      simp only [Bool.and_eq_true, Bool.or_eq_true, decide_eq_true_eq] at hk
      obtain ⟨h0, h1⟩ := hk
      subst h0
      exact s_jlen hx hb hml hdg hts hG hown hZ hZs hBs hSo hR (by omega) (by omega) (hin _ _ h1) Z2
    · cases hk
  case caload =>
    have Z2 := hz.resolve_left (fun q => q)
    dsimp only at hk
    split at hk
    · rename_i i
      simp only [Bool.and_eq_true, Bool.or_eq_true, decide_eq_true_eq] at hk
      obtain ⟨h0, h1⟩ := hk
      subst h0
      exact s_jch hx hb hml hdg hts hG hown hZ hZs hBs hSo hR (by omega) (by omega) (hin _ _ h1) Z2
    · cases hk
  case newarray t =>
    have Z2 := hz.resolve_left (fun q => q)
    dsimp only at hk
    split at hk
    · rename_i t2
      simp only [Bool.and_eq_true, Bool.or_eq_true, decide_eq_true_eq] at hk
      obtain ⟨h0, h1, h2⟩ := hk
      subst h0
      subst h1
      exact s_newarray hx hb hdg hK hR (hts _ (hin _ _ h2)) Z2
    · cases hk
  case anewarray w0 =>
    have Z2 := hz.resolve_left (fun q => q)
    dsimp only at hk
    split at hk
    · rename_i i
      simp only [Bool.and_eq_true, Bool.or_eq_true, decide_eq_true_eq] at hk
      obtain ⟨h0, h1⟩ := hk
      subst h0
      exact s_anewarray hx hb hdg hown hK hR (h1.imp (fun q => ⟨q.1, hts _ (hin _ _ q.2.1), hiu _ _ q.2.2 rfl⟩) (fun q => ⟨q.1, hts _ (hin _ _ q.2.1), hiu _ _ q.2.2 rfl⟩)) Z2
    · cases hk
  case multianewarray w0 w1 =>
    have Z2 := hz.resolve_left (fun q => q)
    dsimp only at hk
    split at hk
    · rename_i i n2
      simp only [Bool.and_eq_true, Bool.or_eq_true, decide_eq_true_eq] at hk
      obtain ⟨h0, h1, h2, h3, h4⟩ := hk
      subst h0
      subst h1
      exact s_multi hx hb hdg hown hK hR (hts _ (hin _ _ h2)) (hiu _ _ h3 rfl) (hts _ (hin _ _ h4)) Z2
    · cases hk
  case new w0 =>
    have Z2 := hz.resolve_left (fun q => q)
    dsimp only at hk
    split at hk
    · rename_i i
      simp only [Bool.and_eq_true, Bool.or_eq_true, decide_eq_true_eq] at hk
      obtain ⟨h0, h1⟩ := hk
      subst h0
      obtain ⟨C, T, N, e1, e2⟩ := zcl_of h1
      simp only [Bool.and_eq_true] at e2
      exact s_new hx hb hdg hts hT hown hK e1 hR (hts _ (hin _ _ e2.1)) (hts _ (hin _ _ e2.2.1)) (hts _ (hin _ _ e2.2.2)) Z2
    · cases hk
  case getfield w0 =>
    have Z2 := hz.resolve_left (fun q => q)
    dsimp only at hk
    split at hk
    · rename_i i
      simp only [Bool.and_eq_true, Bool.or_eq_true, decide_eq_true_eq] at hk
      obtain ⟨h0, h1⟩ := hk
      subst h0
      obtain ⟨C, T, N, e1, e2⟩ := zcl_of h1
      simp only [Bool.and_eq_true, decide_eq_true_eq] at e2
      exact s_getfield hx hb hdg hts hT hown hK e1 e2.1 (hts _ (hin _ _ e2.2)) Z2
    · cases hk
  case putfield w0 =>
    have Z2 := hz.resolve_left (fun q => q)
    dsimp only at hk
    split at hk
    · rename_i i
      simp only [Bool.and_eq_true, Bool.or_eq_true, decide_eq_true_eq] at hk
      obtain ⟨h0, h1⟩ := hk
      subst h0
      obtain ⟨C, T, N, e1, e2⟩ := zcl_of h1
      simp only [Bool.and_eq_true, Bool.or_eq_true, decide_eq_true_eq] at e2
      exact s_putfield hx hb hdg hts hT hown hK e1 e2.1 (hts _ (hin _ _ e2.2.1)) (e2.2.2.imp id (fun q => ⟨hini q.1, q.2⟩)) Z2
    · cases hk
  case pop2 =>
    have Z2 := hz.resolve_left (fun q => q)
    dsimp only at hk
    split at hk
    · rename_i i
      simp only [Bool.and_eq_true, Bool.or_eq_true, decide_eq_true_eq] at hk
      obtain ⟨h0, h1, h2, h3⟩ := hk
      subst h0
      exact s_objInit hx hb hml hdg hown (hts _ (hin _ _ h1)) (hts _ (hin _ _ h2)) (hts _ (hin _ _ h3)) (by omega) (by omega) Z2
    · cases hk
  case invokevirtual w0 =>
    have Z2 := hz.resolve_left (fun q => q)
    dsimp only at hk
    split at hk
    · rename_i i
      simp only [Bool.and_eq_true, Bool.or_eq_true, decide_eq_true_eq] at hk
      obtain ⟨h0, h1⟩ := hk
      subst h0
      obtain ⟨y, bytes, np, e1, e2⟩ := zcm_of h1
      simp only [Bool.and_eq_true, decide_eq_true_eq] at e2
      obtain ⟨e3, e4, e5, e6⟩ := e2
      subst e3
      obtain ⟨cd2, nL2, rt2, mc2, ms2, f1, f2, f3, f4, f5, f6, f7, f8⟩ := hMk a _ _ _ e1
      obtain ⟨q9, g1, g2⟩ := Option.map_eq_some_iff.mp e5
      obtain ⟨C9, T9, N9⟩ := q9
      have g3 : C9 = y.cls := g2
      subst g3
      exact s_virt hx hb hml hdg hts hG hown hK hZ hZs hBs hM hR hR1 hR2 e1 f1 f2 g1 (hin _ _ e4) (f7 e6).1 (f7 e6).2 f3 f4 f5 Z2
    · cases hk
  case invokespecial w0 =>
    have Z2 := hz.resolve_left (fun q => q)
    dsimp only at hk
    split at hk
    · rename_i i
      simp only [Bool.and_eq_true, Bool.or_eq_true, decide_eq_true_eq] at hk
      obtain ⟨h0, h1⟩ := hk
      subst h0
      obtain ⟨y, bytes, np, e1, e2⟩ := zcm_of h1
      simp only [Bool.and_eq_true, Bool.or_eq_true, decide_eq_true_eq] at e2
      obtain ⟨e3, e4, e6⟩ := e2
      subst e3
      obtain ⟨cd2, nL2, rt2, mc2, ms2, f1, f2, f3, f4, f5, f6, f7, f8⟩ := hMk a _ _ _ e1
      obtain ⟨g1, g2, g3⟩ := f8 e6
      subst g3
      exact s_spec hx hb hml hdg hts hG hown hK hZ hZs hBs hM hR hR1 hR2 e1 f1 f2 (e4.imp (hin _ _) (fun q => ⟨_, hiu _ _ q rfl⟩)) g1 f3 f4 g2 f5 Z2
    · cases hk
  case invokestatic w0 =>
    have Z2 := hz.resolve_left (fun q => q)
    dsimp only at hk
    split at hk
    · rename_i i
      simp only [Bool.and_eq_true, Bool.or_eq_true, decide_eq_true_eq] at hk
      obtain ⟨h0, h1⟩ := hk
      subst h0
      obtain ⟨y, bytes, np, e1, e2⟩ := zcm_of h1
      simp only [Bool.and_eq_true, Bool.or_eq_true, decide_eq_true_eq] at e2
      obtain ⟨e3, e4, e6⟩ := e2
      subst e3
      obtain ⟨cd2, nL2, rt2, mc2, ms2, f1, f2, f3, f4, f5, f6, f7, f8⟩ := hMk a _ _ _ e1
      exact s_stat hx hb hml hdg hts hG hown hK hZ hZs hBs hM hR hR1 hR2 e1 f1 f2 (e4.imp (hin _ _) (fun q => ⟨_, hiu _ _ q rfl⟩)) (f6 e6) f3 f4 f5 Z2
    · cases hk
  case ireturn =>
    have Z2 := hz.resolve_left (fun q => q)
    dsimp only at hk
    split at hk
    · simp only [Bool.and_eq_true, Bool.or_eq_true, decide_eq_true_eq] at hk
      have h0 := hk
      subst h0
      intro hc1 hc2 H locs lsA hH hS hL
      unfold zex2 at Z2
      dsimp only at Z2
      split at Z2
      · exact hri _ _ _ _ _ _ _ _ Z2.2 hc1 hc2 hH hS hdg Z2.1
      · exact Z2.elim
    · cases hk
  case lreturn =>
    have Z2 := hz.resolve_left (fun q => q)
    dsimp only at hk
    split at hk
    · simp only [Bool.and_eq_true, Bool.or_eq_true, decide_eq_true_eq] at hk
      have h0 := hk
      subst h0
      intro hc1 hc2 H locs lsA hH hS hL
      unfold zex2 at Z2
      dsimp only at Z2
      split at Z2
      · exact hrl _ _ _ _ _ _ _ _ Z2.2 hc1 hc2 hH hS hdg Z2.1
      · exact Z2.elim
    · cases hk
  case areturn =>
    have Z2 := hz.resolve_left (fun q => q)
    dsimp only at hk
    split at hk
    · simp only [Bool.and_eq_true, Bool.or_eq_true, decide_eq_true_eq] at hk
      have h0 := hk
      subst h0
      intro hc1 hc2 H locs lsA hH hS hL
      unfold zex2 at Z2
      dsimp only at Z2
      split at Z2
      · exact hra _ _ _ _ _ _ _ _ (by exact Or.inr (Or.inl ⟨_, rfl⟩)) Z2.2 hc1 hc2 hH hS hdg Z2.1
      · exact hra _ _ _ _ _ _ _ _ (Or.inl rfl) Z2.2 hc1 hc2 hH hS hdg Z2.1
      · exact hra _ _ _ _ _ _ _ _ (Or.inr (Or.inr ⟨_, rfl⟩)) Z2.2 hc1 hc2 hH hS hdg Z2.1
      · exact Z2.elim
    · cases hk
  case return_ =>
    have Z2 := hz.resolve_left (fun q => q)
    dsimp only at hk
    split at hk
    · simp only [Bool.and_eq_true, Bool.or_eq_true, decide_eq_true_eq] at hk
      have h0 := hk
      subst h0
      intro hc1 hc2 H locs lsA hH hS hL
      unfold zex2 at Z2
      dsimp only at Z2
      split at Z2
      · exact hrv _ _ _ _ _ _ _ Z2.2 hc1 hc2 hH hS hdg Z2.1
      · exact Z2.elim
    · cases hk
  all_goals cases hk
end SIM5
end
section
def zall (tb : List (List Jvm.Cond)) (cl : List vw_C) (nm : List (MethodName × ByteArray × Nat)) (km : List Nat) (law ini : Bool) (own : String) (bytes : ByteArray) : Nat → zK → List (List Nat) → Bool
  | pc, some e :: r, p :: ps => (match decode bytes pc with
    | .ok (raw, len) => decide (e.2.1 = pc + len) && zchk tb cl nm km law ini own raw len pc e p
    | .error _ => false) && zall tb cl nm km law ini own bytes (pc + 1) r ps
  | pc, none :: r, _ :: ps => zall tb cl nm km law ini own bytes (pc + 1) r ps
  | _, [], _ => true
  | _, _ :: _, [] => false
/-- each canonical instruction of a method stands in its code -/
def zCok (tb : List (List Jvm.Cond)) (cl : List vw_C) (nm : List (MethodName × ByteArray × Nat)) (km : List Nat) (law ini : Bool) (own : String) (bytes : ByteArray) (cd : zK) : Prop := ∀ (pc : Nat) (e : zE), cd[pc]? = some (some e) → ∃ (raw : Instr) (len : Nat) (ps : List Nat), decode bytes pc = .ok (raw, len) ∧ e.2.1 = pc + len ∧ zchk tb cl nm km law ini own raw len pc e ps = true
theorem zall_ok {tb : List (List Jvm.Cond)} {cl : List vw_C} {nm : List (MethodName × ByteArray × Nat)} {km : List Nat} {law ini : Bool} {own : String} {bytes : ByteArray} : ∀ (cd : zK) (pp : List (List Nat)) (k : Nat), zall tb cl nm km law ini own bytes k cd pp = true → ∀ (i : Nat) (e : zE), cd[i]? = some (some e) → ∃ (raw : Instr) (len : Nat) (ps : List Nat), decode bytes (k + i) = .ok (raw, len) ∧ e.2.1 = k + i + len ∧ zchk tb cl nm km law ini own raw len (k + i) e ps = true
  | [], _, _, _, i, e, hi => by simp at hi
  | none :: r, [], k, h, i, e, hi => by cases h
  | some e0 :: r, [], k, h, i, e, hi => by cases h
  | none :: r, p :: ps, k, h, i, e, hi => by
    cases i with
    | zero => cases hi
    | succ i =>
      have h9 := zall_ok r ps (k + 1) h i e hi
      rw [show k + (i + 1) = k + 1 + i by omega]
      exact h9
  | some e0 :: r, p :: ps, k, h, i, e, hi => by
    unfold zall at h
    rw [Bool.and_eq_true] at h
    cases i with
    | zero =>
      cases hi
      have h1 := h.1
      split at h1
      · rename_i raw len hdec
        rw [Bool.and_eq_true, decide_eq_true_eq] at h1
        exact ⟨raw, len, p, hdec, h1.1, h1.2⟩
      · cases h1
    | succ i =>
      have h9 := zall_ok r ps (k + 1) h.2 i e hi
      rw [show k + (i + 1) = k + 1 + i by omega]
      exact h9
theorem zCok_of {tb : List (List Jvm.Cond)} {cl : List vw_C} {nm : List (MethodName × ByteArray × Nat)} {km : List Nat} {law ini : Bool} {own : String} {bytes : ByteArray} {cd : zK} (pp : List (List Nat)) (h : zall tb cl nm km law ini own bytes 0 cd pp = true) : zCok tb cl nm km law ini own bytes cd := fun pc e hi => by
  have h9 := zall_ok cd pp 0 h pc e hi
  rw [Nat.zero_add] at h9
  exact h9
def zPok (tb : List (List Jvm.Cond)) (cl : List vw_C) (nm : List (MethodName × ByteArray × Nat)) (km : List Nat) (G : zG) : Prop := ∀ (j : Nat) (y : MethodName) (bytes : ByteArray) (np : Nat), nm[j]? = some (y, bytes, np) → ∀ (cd : zK) (nL : Nat) (rt : Option FieldType) (mc ms : Nat), G.1[j]? = some (cd, nL, rt, mc, ms) → plainFor y = true ∧ zCok tb cl nm km false (decide (y.name = "<init>")) y.cls bytes cd
theorem zargs_in (f : Value → Value) (hf : ∀ w, (f w).category = w.category) : ∀ (as : List Value) (k i : Nat) (v : Value), (zargs as).getD i none = some v → (k + i, f v) ∈ lv_args k (as.map f)
  | [], k, i, v, h => by simp [zargs] at h
  | a :: as, k, i, v, h => by
    unfold zargs at h
    by_cases hc : a.category = 2
    · rw [show (a.category == 2) = true by simp [hc]] at h
      rw [List.map_cons]
      unfold lv_args
      rw [if_pos (by rw [hf]; exact hc)]
      match i, h with
      | 0, h => cases h; exact List.mem_cons_self
      | 1, h => cases h
      | i + 2, h =>
        have h9 := zargs_in f hf as (k + 2) i v h
        rw [show k + (i + 2) = k + 2 + i by omega]
        exact List.mem_cons_of_mem _ h9
    · rw [show (a.category == 2) = false by simp [hc]] at h
      rw [List.map_cons]
      unfold lv_args
      rw [if_neg (by rw [hf]; exact hc)]
      match i, h with
      | 0, h => cases h; exact List.mem_cons_self
      | i + 1, h =>
        have h9 := zargs_in f hf as (k + 1) i v h
        rw [show k + (i + 1) = k + 1 + i by omega]
        exact List.mem_cons_of_mem _ h9
theorem zargs_len (f : Value → Value) (hf : ∀ w, (f w).category = w.category) : ∀ as : List Value, (zargs as).length = (lg_sl (as.map f)).length
  | [] => rfl
  | a :: as => by
    have ih := zargs_len f hf as
    rw [List.map_cons]
    unfold zargs
    unfold lg_sl at ih ⊢
    rw [List.flatMap_cons, List.length_append, ← ih, hf]
    by_cases hc : a.category = 2
    · rw [show (a.category == 2) = true by simp [hc], if_pos hc]
      show (some a :: none :: zargs as).length = _
      simp only [List.length_cons, List.length_nil]; omega
    · rw [show (a.category == 2) = false by simp [hc], if_neg hc]
      show (some a :: zargs as).length = _
      simp only [List.length_cons, List.length_nil]; omega
theorem zentry_has {f : Value → Value} (hf : ∀ w, (f w).category = w.category) {as : List Value} {nL : Nat} (hl : (zargs as).length ≤ nL) : zLs f nL (zentry as nL) ((lg_sl (as.map f) ++ List.replicate (nL - (lg_sl (as.map f)).length) Slot.unset).toArray) := by
  have h9 := lv_entry (as.map f) (n := nL) (by rw [← zargs_len f hf]; exact hl)
  refine ⟨by unfold zentry; rw [List.length_append, List.length_replicate]; omega, h9.1, h9.2.1, fun i v hv => ?_⟩
  have h1 : (zargs as).getD i none = some v := by
    unfold zentry at hv
    rw [List.getD_eq_getElem?_getD] at hv ⊢
    by_cases q : i < (zargs as).length
    · rw [List.getElem?_append_left q] at hv
      exact hv
    · rw [List.getElem?_append_right (by omega), List.getElem?_replicate] at hv
      split at hv <;> cases hv
  have h2 := h9.2.2 (0 + i, f v) (zargs_in f hf as 0 i v h1)
  rw [Nat.zero_add] at h2
  exact h2
set_option maxHeartbeats 4000000 in
/-- the head of a method that no row of the natives stands for -/
theorem zMetW {l : Launch} {y : MethodName} {ws ws' : List Jvm.Cond} {rm : Room} {Pc : Array Value → State → Prop} {Qc : Array Value → State → Outcome → State → Prop} {mc ms : Nat} {free : Addr → Prop} {cc : ByteArray} {maxL : Nat} {ret : Option FieldType} (hy : plainFor y = true) (hw : ws = Jvm.Cond.code y cc maxL ret :: ws')
    (body : ∀ p e s m args below meth c s₁, BodyLoose p l y (headSpec ws rm) cc maxL ret e s m args below meth c s₁ → c.maxLocals = maxL → Pc args s → W p l e (headSpec ws rm).room s m args below meth c s.heap [] 0 0 (MQ below Qc args s mc ms free) (entryFrame m args maxL)) : Met l y ws rm Pc Qc mc ms free := by
  refine MetFree.of_bodyRF (code := cc) (maxLocals := maxL) (ret := ret) hy ?_ ?_
  · intro args s m h hn
    obtain ⟨meth, c, h1, h2, h3, h4, h5, h6, -, -⟩ := Cond.code_spec hn (atoms_spec (ws := ws) h _ (by rw [hw]; exact List.mem_cons_self))
    exact ⟨meth, c, h1, h2, h3, h4, h5, h6⟩
  · intro p e s m args below meth c s₁ Bd hml hP _ hst
    have hh0 : s₁.heap = s.heap := by rw [Bd.state]; rfl
    obtain ⟨t, a1, o, b1, b2, b3⟩ := body p e s m args below meth c s₁ Bd hml hP s₁ hh0 (Stand.of_body Bd)
    exact ⟨t, o, hst.trans a1, b1, b2, ⟨b3.1, b3.2⟩⟩
/-- the methods of the program are worth in the machine what the small machine says of them -/
theorem zMet_all (l : Launch) {nm : List (MethodName × ByteArray × Nat)} {km : List Nat} {G : zG} {B : Nat} {D : va_G} {cl : List vw_C} {dA : Nat → ClassId} {aS : Nat → Nat} {Z : State → Prop} {Ts : List Jvm.Cond} {tt : zT} {tb : List (List Jvm.Cond)} (hit : ∀ (p : Nat) (w : Jvm.Cond), zin tb p w = true → w ∈ Ts) (hZU : ∀ U : State, Z U → ∀ (p : Nat) (w : Jvm.Cond), ziu tb p w = true → zspec w = true → w.before #[] U = true) (hG : GoodIn Ts Ts) (hT : zTT tt cl Ts) (hMk : zMok Ts nm km G) (hPk : zPok tb cl nm km G) (hZ : zStays B Z) (hSo : zSok B Z Ts aS G.2.1) : ∀ d : Nat, zMet l nm G B D cl dA aS Z Ts d (zW tt G d)
  | 0 => fun _ _ _ _ k => k.elim
  | d + 1 => by
    have ihM := zMet_all l (B := B) (D := D) (dA := dA) (aS := aS) hit hZU hG hT hMk hPk hZ hSo d
    intro j as h K k y bytes np cd nL rt mc ms h1 h2
    unfold zW at k
    rw [h2] at k
    obtain ⟨k1, k2⟩ := k
    obtain ⟨hpl, hcok⟩ := hPk j y bytes np h1 cd nL rt mc ms h2
    obtain ⟨cd', nL', rt', mc', ms', f1, f2, f3, f4, f5, f6, f7, f8⟩ := hMk j y bytes np h1
    rw [h2] at f1
    cases f1
    refine zMetW (cc := bytes) (maxL := nL) (ret := rt) hpl rfl ?_
    intro p e s m args below meth c s₁ Bd hml hv
    obtain ⟨rfl, hH, hK, hZs⟩ := hv
    have hx := Bd.exec
    have hb := Bd.bytes
    have hr := Bd.returns
    have hts0 := atoms_spec (ws := .code y bytes nL rt :: Ts) Bd.pre
    have hts : ∀ w ∈ Ts, w.before (as.map (zcv B aS)).toArray s = true := fun w hw => hts0 w (List.mem_cons_of_mem _ hw)
    have hown : s.vm.findClass y.cls = some m.cls := findClass_of_methodNamed Bd.named
    have hlocks := Bd.notSynchronized
    have hin : meth.name = y.name := (name_of_methodNamed Bd.named Bd.method).1
    have hBs : B ≤ s.heap.size := by rw [hH.1]; exact Nat.le_add_right _ _
    rw [lg_entry_eq]
    refine k2 (wX p l e (headSpec (.code y bytes nL rt :: Ts) (zrm (d + 1) mc ms)).room s m (as.map (zcv B aS)).toArray below meth c (MQ below (zQc B D cl dA aS K) (as.map (zcv B aS)).toArray s mc ms (fun q => B ≤ q)) B D cl dA aS nL mc ms) ?_ (Nat.zero_le _) (Nat.zero_le _) s.heap [] _ hH va_S.rf (zentry_has (zcv_cat B aS) k1)
    intro pc L st h' cn sn hz
    unfold zstep at hz
    split at hz
    · rename_i ze hze
      obtain ⟨raw, len, ps, g1, g2, g3⟩ := hcok pc ze hze
      refine zsnd (R := (headSpec (.code y bytes nL rt :: Ts) (zrm (d + 1) mc ms)).room) hx hb hml hts hG hT hMk hown (fun q => ?_) hK hZ hZs hBs ihM (fun q => by cases q) hSo ⟨Nat.le_refl _, Nat.le_refl _⟩ (by show d + 9 ≤ d + 1 + 8; omega) (by show d * 64 + 576 ≤ (d + 1) * 64 + 512; omega) ?_ ?_ ?_ ?_ g1 g2 hit (hZU s hZs) g3 hz
      · rw [hin]; exact of_decide_eq_true q
      · intro x h9 H locs lsA pc9 cn9 sn9 q1 q2 q3 q4 q5 q6 q7
        obtain ⟨t, rfl, hn⟩ := q7
        refine W.widen q2 q3 ?_
        exact W.zret hx hb hr hn (fun t ht hW => ⟨⟨some (.int x), h9, rfl, q1, by rw [ht]; exact q4⟩, q5.F ht⟩) q5.2.2 q6
      · intro x h9 H locs lsA pc9 cn9 sn9 q1 q2 q3 q4 q5 q6 q7
        subst q7
        refine W.widen q2 q3 ?_
        exact W.lret hx hb hr (fun t ht hW => ⟨⟨some (.long x), h9, rfl, q1, by rw [ht]; exact q4⟩, q5.F ht⟩) q5.2.2 q6
      · intro w h9 H locs lsA pc9 cn9 sn9 q0 q1 q2 q3 q4 q5 q6 q7
        obtain ⟨t, rfl, hn⟩ := q7
        refine W.widen q2 q3 ?_
        refine W.aret hx hb hr ?_ ?_ (fun t ht hW => ⟨⟨some w, h9, rfl, q1, by rw [ht]; exact q4⟩, q5.F ht⟩) q5.2.2 q6
        · cases t <;> first | exact Or.inl ⟨_, rfl⟩ | exact Or.inr ⟨_, rfl⟩ | cases hn
        · rcases q0 with rfl | ⟨r, rfl⟩ | ⟨r, rfl⟩
          · exact Or.inl rfl
          · exact Or.inr ⟨_, rfl⟩
          · exact Or.inr ⟨_, rfl⟩
      · intro h9 H locs lsA pc9 cn9 sn9 q1 q2 q3 q4 q5 q6 q7
        subst q7
        refine W.widen q2 q3 ?_
        exact W.vret hx hb hr (fun t ht hW => ⟨⟨none, h9, rfl, q1, by rw [ht]; exact q4⟩, q5.F ht⟩) q5.2.2 q6
    · exact hz.elim
end
section
def zTG : List Nat := [1, 2, 3, 4, 5, 6, 6, 6, 6, 6, 6, 6, 6, 7, 8, 9, 9, 9, 9, 9, 9, 9, 9, 9, 9, 9, 9, 10, 11, 11, 11, 11, 11, 11, 11, 11, 12, 13, 14, 15, 16, 17, 18, 19, 20, 21, 22, 23, 24, 25, 26, 27, 28, 29, 30, 31, 32, 33, 34, 35, 36, 37, 38, 39, 40, 41, 42, 43, 44, 45, 46, 47, 48, 49, 50, 51, 52, 53, 54, 55, 56, 57, 58, 59, 60, 61, 62, 63, 63, 65, 66, 67, 68, 69, 70, 71, 72, 73, 74, 74, 74, 74, 74, 74, 74, 74, 74, 75, 75, 75, 78, 79, 80, 81, 82, 83, 84, 85, 86, 87, 88, 89, 90, 91, 92, 93, 94, 95, 96, 97, 98, 99, 100, 101, 102, 103, 104, 105, 106, 107, 108, 109, 110, 111, 112, 113, 114, 115, 116, 117, 118, 119, 120, 121, 122, 123, 124, 125, 126, 127, 128, 129, 130, 131, 132, 133, 134, 135, 136, 137, 138, 139, 140, 141, 142, 143, 144, 145, 146, 147, 148, 149]
def zTTy : List yC := [.inr (9, 0, 0, (9, .ofNat 0, .ofNat 0, 0)),
  .inl (11, [(2, .ofNat 1, .ofNat 1, 2), (2, .ofNat 36, .ofNat 36, 12), (2, .ofNat 44, .ofNat 44, 20), (2, .ofNat 48, .ofNat 48, 24), (2, .ofNat 54, .ofNat 54, 30), (2, .ofNat 63, .ofNat 63, 39), (2, .ofNat 76, .ofNat 76, 52), (2, .ofNat 81, .ofNat 81, 57), (2, .ofNat 89, .ofNat 89, 65), (2, .ofNat 94, .ofNat 94, 70), (2, .ofNat 107, .ofNat 107, 75), (2, .ofNat 108, .ofNat 108, 75), (2, .ofNat 109, .ofNat 109, 75), (2, .ofNat 110, .ofNat 110, 78), (0, .ofNat 0, .ofNat 599, 0)]),
  .inl (3, [(2, .ofNat 2, .ofNat 2, 3), (2, .ofNat 3, .ofNat 3, 4), (2, .ofNat 4, .ofNat 4, 5), (2, .ofNat 13, .ofNat 13, 7), (2, .ofNat 14, .ofNat 14, 8), (2, .ofNat 27, .ofNat 27, 10), (0, .ofNat 0, .ofNat 8, 0), (0, .ofNat 0, .ofNat 12, 0)]),
  .inr (0, 3, 3, (0, .ofNat 1, .ofNat 999, 0)),
  .inr (0, 8, 8, (0, .ofNat 0, .ofNat 3, 0)),
  .inr (4, 8, 8, (2, .ofNat 5, .ofNat 12, 6)),
  .inr (0, 3, 3, (0, .ofNat 0, .ofNat 99999, 0)),
  .inr (0, 12, 12, (0, .ofNat 0, .ofNat 9999, 0)),
  .inr (4, 12, 12, (2, .ofNat 15, .ofNat 26, 9)),
  .inr (0, 3, 3, (0, .ofNat 0, .ofNat 9999, 0)),
  .inr (4, 8, 8, (2, .ofNat 28, .ofNat 35, 11)),
  .inr (0, 12, 12, (0, .ofNat 0, .ofNat 600, 0)),
  .inl (2, [(2, .ofNat 37, .ofNat 37, 13), (2, .ofNat 38, .ofNat 38, 14), (0, .ofNat 0, .ofNat 60, 0), (2, .ofNat 39, .ofNat 39, 15), (0, .ofNat 0, .ofNat 300, 0), (2, .ofNat 40, .ofNat 40, 16), (2, .ofNat 41, .ofNat 41, 17), (2, .ofNat 42, .ofNat 42, 18), (2, .ofNat 43, .ofNat 43, 19), (0, .ofNat 0, .ofNat 400, 0)]),
  .inr (0, 60, 60, (0, .negSucc 0, .ofNat 3, 0)),
  .inr (1, 60, 60, (0, .ofNat 0, .ofNat 1, 0)),
  .inr (5, 300, 300, (2, .negSucc 0, .ofNat 10000000, 150)),
  .inr (0, 400, 400, (0, .ofNat 0, .ofNat 299, 0)),
  .inr (0, 400, 400, (0, .ofNat 0, .ofNat 59, 0)),
  .inr (0, 400, 400, (0, .ofNat 0, .ofNat 599, 0)),
  .inr (0, 400, 400, (0, .ofNat 0, .ofNat 599, 0)),
  .inl (8, [(2, .ofNat 45, .ofNat 45, 21), (0, .ofNat 0, .ofNat 400, 0), (0, .ofNat 0, .ofNat 400, 0), (0, .ofNat 0, .ofNat 400, 0), (2, .ofNat 46, .ofNat 46, 22), (0, .ofNat 0, .ofNat 400, 0), (2, .ofNat 47, .ofNat 47, 23), (0, .ofNat 0, .ofNat 12, 0), (0, .ofNat 0, .ofNat 80, 0), (0, .negSucc 2147483647, .ofNat 2147483647, 0)]),
  .inr (2, 400, 400, (0, .negSucc 127, .ofNat 127, 0)),
  .inr (0, 400, 400, (0, .ofNat 0, .ofNat 100110, 0)),
  .inr (0, 48, 48, (0, .ofNat 0, .ofNat 400, 0)),
  .inl (7, [(2, .ofNat 49, .ofNat 49, 25), (2, .ofNat 50, .ofNat 50, 26), (2, .ofNat 51, .ofNat 51, 27), (0, .ofNat 0, .ofNat 10, 0), (2, .ofNat 52, .ofNat 52, 28), (2, .ofNat 53, .ofNat 53, 29)]),
  .inr (0, 10, 10, (0, .ofNat 0, .ofNat 599, 0)),
  .inr (4, 10, 10, (2, .negSucc 0, .ofNat 10000000, 152)),
  .inr (4, 10, 10, (2, .negSucc 0, .ofNat 10000000, 153)),
  .inr (3, 12, 12, (1, .negSucc 9223372036854775807, .ofNat 9223372036854775807, 0)),
  .inr (3, 80, 80, (1, .negSucc 9223372036854775807, .ofNat 9223372036854775807, 0)),
  .inl (10, [(2, .ofNat 55, .ofNat 55, 31), (2, .ofNat 56, .ofNat 56, 32), (2, .ofNat 57, .ofNat 57, 33), (2, .ofNat 58, .ofNat 58, 34), (2, .ofNat 59, .ofNat 59, 35), (0, .ofNat 0, .ofNat 200, 0), (2, .ofNat 60, .ofNat 60, 36), (2, .ofNat 61, .ofNat 61, 37), (2, .ofNat 62, .ofNat 62, 38), (0, .ofNat 0, .ofNat 600, 0)]),
  .inr (0, 200, 200, (0, .ofNat 0, .ofNat 7, 0)),
  .inr (0, 200, 200, (0, .ofNat 0, .ofNat 2, 0)),
  .inr (0, 200, 200, (0, .ofNat 0, .ofNat 200, 0)),
  .inr (1, 200, 200, (0, .ofNat 0, .ofNat 1, 0)),
  .inr (3, 200, 200, (1, .negSucc 9223372036854775807, .ofNat 9223372036854775807, 0)),
  .inr (0, 600, 600, (0, .ofNat 0, .ofNat 199, 0)),
  .inr (0, 600, 600, (0, .ofNat 0, .ofNat 59, 0)),
  .inr (0, 600, 600, (0, .ofNat 0, .ofNat 599, 0)),
  .inl (1, [(2, .ofNat 64, .ofNat 64, 40), (2, .ofNat 65, .ofNat 65, 41), (2, .ofNat 66, .ofNat 66, 42), (2, .ofNat 67, .ofNat 67, 43), (2, .ofNat 68, .ofNat 68, 44), (2, .ofNat 69, .ofNat 69, 45), (2, .ofNat 70, .ofNat 70, 46), (2, .ofNat 71, .ofNat 71, 47), (0, .ofNat 0, .ofNat 200, 0), (2, .ofNat 72, .ofNat 72, 48), (2, .ofNat 73, .ofNat 73, 49), (2, .ofNat 74, .ofNat 74, 50), (2, .ofNat 75, .ofNat 75, 51)]),
  .inr (0, 200, 200, (0, .ofNat 0, .ofNat 299, 0)),
  .inr (0, 200, 200, (0, .ofNat 0, .ofNat 7, 0)),
  .inr (0, 200, 200, (0, .ofNat 0, .ofNat 599, 0)),
  .inr (0, 200, 200, (0, .ofNat 0, .ofNat 599, 0)),
  .inr (0, 200, 200, (0, .ofNat 0, .ofNat 2, 0)),
  .inr (0, 200, 200, (0, .ofNat 0, .ofNat 200, 0)),
  .inr (0, 200, 200, (0, .ofNat 0, .ofNat 9, 0)),
  .inr (1, 200, 200, (0, .ofNat 0, .ofNat 1, 0)),
  .inr (0, 9, 9, (0, .negSucc 2147483647, .ofNat 2147483647, 0)),
  .inr (0, 9, 9, (0, .negSucc 2147483647, .ofNat 2147483647, 0)),
  .inr (0, 9, 9, (0, .negSucc 2147483647, .ofNat 2147483647, 0)),
  .inr (0, 9, 9, (0, .negSucc 2147483647, .ofNat 2147483647, 0)),
  .inl (4, [(0, .ofNat 0, .ofNat 20, 0), (2, .ofNat 77, .ofNat 77, 53), (2, .ofNat 78, .ofNat 78, 54), (2, .ofNat 79, .ofNat 79, 55), (2, .ofNat 80, .ofNat 80, 56)]),
  .inr (0, 20, 20, (0, .ofNat 0, .ofNat 6, 0)),
  .inr (1, 120, 120, (0, .ofNat 0, .ofNat 1, 0)),
  .inr (0, 120, 120, (0, .ofNat 0, .ofNat 999999, 0)),
  .inr (0, 120, 120, (0, .ofNat 0, .ofNat 9999999, 0)),
  .inl (5, [(2, .ofNat 82, .ofNat 82, 58), (2, .ofNat 83, .ofNat 83, 59), (2, .ofNat 84, .ofNat 84, 60), (2, .ofNat 85, .ofNat 85, 61), (2, .ofNat 86, .ofNat 86, 62), (2, .ofNat 87, .ofNat 87, 63), (2, .ofNat 88, .ofNat 88, 63), (0, .ofNat 0, .ofNat 24, 0)]),
  .inr (0, 24, 24, (0, .ofNat 0, .ofNat 99, 0)),
  .inr (0, 24, 24, (0, .negSucc 0, .ofNat 3, 0)),
  .inr (0, 24, 24, (0, .ofNat 0, .ofNat 2147483647, 0)),
  .inr (0, 24, 24, (0, .ofNat 0, .ofNat 9999, 0)),
  .inr (0, 24, 24, (0, .ofNat 0, .ofNat 2147483647, 0)),
  .inr (0, 24, 24, (0, .negSucc 2147483647, .ofNat 2147483647, 0)),
  .inr (0, 24, 24, (0, .ofNat 0, .ofNat 0, 0)),
  .inl (6, [(2, .ofNat 90, .ofNat 90, 66), (2, .ofNat 91, .ofNat 91, 67), (2, .ofNat 92, .ofNat 92, 68), (2, .ofNat 93, .ofNat 93, 69), (0, .ofNat 0, .ofNat 20, 0)]),
  .inr (0, 20, 20, (0, .ofNat 0, .ofNat 7, 0)),
  .inr (0, 20, 20, (0, .ofNat 0, .ofNat 599, 0)),
  .inr (0, 20, 20, (0, .ofNat 0, .ofNat 599, 0)),
  .inr (0, 20, 20, (0, .ofNat 0, .ofNat 11, 0)),
  .inl (9, [(2, .ofNat 95, .ofNat 95, 71), (2, .ofNat 96, .ofNat 96, 72), (2, .ofNat 97, .ofNat 97, 73), (0, .ofNat 0, .ofNat 9, 0), (0, .negSucc 0, .ofNat 2147483647, 0), (0, .negSucc 2147483647, .ofNat 999999, 0)]),
  .inr (0, 9, 9, (0, .ofNat 0, .ofNat 99999, 0)),
  .inr (0, 9, 9, (0, .ofNat 0, .ofNat 999, 0)),
  .inr (4, 9, 9, (2, .ofNat 98, .ofNat 106, 74)),
  .inr (0, 9, 9, (0, .ofNat 0, .ofNat 999, 0)),
  .inr (0, 600, 600, (0, .negSucc 2147483647, .ofNat 2147483647, 0)),
  .inr (0, 600, 600, (0, .ofNat 0, .ofNat 0, 0)),
  .inr (0, 600, 600, (0, .ofNat 0, .ofNat 0, 0)),
  .inr (0, 600, 600, (0, .ofNat 0, .ofNat 201, 0)),
  .inl (12, [(0, .ofNat 0, .ofNat 0, 0), (0, .ofNat 0, .ofNat 599, 0), (0, .ofNat 0, .ofNat 60, 0), (0, .ofNat 0, .ofNat 8, 0), (0, .ofNat 0, .ofNat 12, 0), (0, .ofNat 0, .ofNat 300, 0), (0, .ofNat 0, .ofNat 400, 0), (2, .ofNat 112, .ofNat 112, 80), (2, .ofNat 113, .ofNat 113, 81), (2, .ofNat 114, .ofNat 114, 82), (2, .ofNat 115, .ofNat 115, 83), (2, .ofNat 116, .ofNat 116, 84), (2, .ofNat 117, .ofNat 117, 85), (2, .ofNat 118, .ofNat 118, 86), (2, .ofNat 119, .ofNat 119, 87), (2, .ofNat 120, .ofNat 120, 88), (2, .ofNat 121, .ofNat 121, 89), (2, .ofNat 122, .ofNat 122, 90), (2, .ofNat 123, .ofNat 123, 91), (2, .ofNat 124, .ofNat 124, 92), (2, .ofNat 125, .ofNat 125, 93), (2, .ofNat 126, .ofNat 126, 94), (2, .ofNat 127, .ofNat 127, 95), (2, .ofNat 128, .ofNat 128, 96), (2, .ofNat 129, .ofNat 129, 97), (2, .ofNat 130, .ofNat 130, 98), (2, .ofNat 131, .ofNat 131, 99), (0, .ofNat 0, .ofNat 400, 0), (0, .ofNat 0, .ofNat 402, 0), (0, .ofNat 0, .ofNat 4000, 0), (0, .ofNat 0, .ofNat 10, 0), (0, .ofNat 0, .ofNat 410, 0), (0, .negSucc 2147483647, .ofNat 2147483647, 0), (0, .negSucc 2147483647, .ofNat 2147483647, 0), (0, .ofNat 0, .ofNat 400, 0), (2, .ofNat 132, .ofNat 132, 100), (2, .ofNat 133, .ofNat 133, 101), (2, .ofNat 134, .ofNat 134, 102), (2, .ofNat 135, .ofNat 135, 103), (2, .ofNat 136, .ofNat 136, 104), (2, .ofNat 137, .ofNat 137, 105), (2, .ofNat 138, .ofNat 138, 106), (2, .ofNat 139, .ofNat 139, 107), (2, .ofNat 140, .ofNat 140, 108), (2, .ofNat 141, .ofNat 141, 109), (2, .ofNat 142, .ofNat 142, 110), (0, .ofNat 0, .ofNat 4, 0), (0, .ofNat 0, .ofNat 0, 0), (2, .ofNat 143, .ofNat 143, 111), (2, .ofNat 144, .ofNat 144, 112), (0, .ofNat 0, .ofNat 200, 0), (0, .ofNat 0, .ofNat 600, 0), (2, .ofNat 145, .ofNat 145, 113), (2, .ofNat 146, .ofNat 146, 114), (2, .ofNat 147, .ofNat 147, 115), (2, .ofNat 148, .ofNat 148, 116), (2, .ofNat 149, .ofNat 149, 117), (2, .ofNat 150, .ofNat 150, 118), (2, .ofNat 151, .ofNat 151, 119), (0, .ofNat 0, .ofNat 200, 0), (2, .ofNat 152, .ofNat 152, 120), (2, .ofNat 153, .ofNat 153, 121), (2, .ofNat 154, .ofNat 154, 122), (2, .ofNat 155, .ofNat 155, 123), (2, .ofNat 156, .ofNat 156, 124), (2, .ofNat 157, .ofNat 157, 125), (2, .ofNat 158, .ofNat 158, 126), (2, .ofNat 159, .ofNat 159, 127), (2, .ofNat 160, .ofNat 160, 128), (2, .ofNat 161, .ofNat 161, 129), (2, .ofNat 162, .ofNat 162, 130), (0, .ofNat 0, .ofNat 20, 0), (2, .ofNat 163, .ofNat 163, 131), (2, .ofNat 164, .ofNat 164, 132), (2, .ofNat 165, .ofNat 165, 133), (2, .ofNat 166, .ofNat 166, 134), (0, .ofNat 0, .ofNat 24, 0), (2, .ofNat 167, .ofNat 167, 135), (2, .ofNat 168, .ofNat 168, 136), (2, .ofNat 169, .ofNat 169, 137), (2, .ofNat 170, .ofNat 170, 138), (2, .ofNat 171, .ofNat 171, 139), (2, .ofNat 172, .ofNat 172, 140), (0, .ofNat 0, .ofNat 20, 0), (2, .ofNat 173, .ofNat 173, 141), (2, .ofNat 174, .ofNat 174, 142), (2, .ofNat 175, .ofNat 175, 143), (2, .ofNat 176, .ofNat 176, 144), (2, .ofNat 177, .ofNat 177, 145), (2, .ofNat 178, .ofNat 178, 146), (0, .ofNat 0, .ofNat 9, 0), (0, .negSucc 0, .ofNat 2147483647, 0), (0, .negSucc 2147483647, .ofNat 999999, 0), (2, .ofNat 179, .ofNat 179, 147), (2, .ofNat 180, .ofNat 180, 148), (2, .ofNat 181, .ofNat 181, 149)]),
  .inr (0, 60, 60, (0, .negSucc 0, .ofNat 3, 0)),
  .inr (0, 3, 3, (0, .ofNat 1, .ofNat 999, 0)),
  .inr (0, 8, 8, (0, .ofNat 0, .ofNat 3, 0)),
  .inr (0, 24, 24, (0, .ofNat 0, .ofNat 99999, 0)),
  .inr (0, 12, 12, (0, .ofNat 0, .ofNat 9999, 0)),
  .inr (0, 36, 36, (0, .ofNat 0, .ofNat 9999, 0)),
  .inr (0, 96, 96, (0, .ofNat 0, .ofNat 1000000, 0)),
  .inr (1, 60, 60, (0, .ofNat 0, .ofNat 1, 0)),
  .inr (1, 300, 300, (0, .ofNat 0, .ofNat 1, 0)),
  .inr (0, 300, 300, (0, .ofNat 0, .ofNat 7, 0)),
  .inr (0, 300, 300, (0, .ofNat 0, .ofNat 599, 0)),
  .inr (0, 300, 300, (0, .ofNat 0, .ofNat 599, 0)),
  .inr (0, 300, 300, (0, .ofNat 0, .ofNat 59, 0)),
  .inr (0, 300, 300, (0, .ofNat 0, .ofNat 59, 0)),
  .inr (0, 300, 300, (0, .ofNat 0, .ofNat 599, 0)),
  .inr (0, 300, 300, (0, .ofNat 0, .ofNat 599, 0)),
  .inr (0, 400, 400, (0, .ofNat 0, .ofNat 299, 0)),
  .inr (0, 400, 400, (0, .ofNat 0, .ofNat 59, 0)),
  .inr (0, 400, 400, (0, .ofNat 0, .ofNat 599, 0)),
  .inr (0, 400, 400, (0, .ofNat 0, .ofNat 599, 0)),
  .inr (2, 400, 400, (0, .negSucc 127, .ofNat 127, 0)),
  .inr (0, 5000, 5000, (0, .ofNat 0, .ofNat 14, 0)),
  .inr (0, 5000, 5000, (0, .ofNat 0, .ofNat 99999, 0)),
  .inr (0, 120, 120, (0, .ofNat 0, .ofNat 0, 0)),
  .inr (0, 120, 120, (0, .ofNat 0, .ofNat 0, 0)),
  .inr (0, 120, 120, (0, .ofNat 0, .ofNat 0, 0)),
  .inr (0, 120, 120, (0, .ofNat 0, .ofNat 0, 0)),
  .inr (0, 120, 120, (0, .ofNat 0, .ofNat 0, 0)),
  .inr (0, 10, 10, (0, .ofNat 0, .ofNat 12, 0)),
  .inr (0, 10, 10, (0, .ofNat 0, .ofNat 0, 0)),
  .inr (0, 400, 400, (0, .ofNat 0, .ofNat 0, 0)),
  .inr (3, 12, 12, (1, .ofNat 0, .ofNat 0, 0)),
  .inr (3, 500, 500, (1, .ofNat 0, .ofNat 0, 0)),
  .inr (0, 200, 200, (0, .ofNat 0, .ofNat 7, 0)),
  .inr (0, 200, 200, (0, .ofNat 0, .ofNat 2, 0)),
  .inr (0, 200, 200, (0, .ofNat 0, .ofNat 200, 0)),
  .inr (0, 600, 600, (0, .ofNat 0, .ofNat 199, 0)),
  .inr (0, 600, 600, (0, .ofNat 0, .ofNat 59, 0)),
  .inr (0, 600, 600, (0, .ofNat 0, .ofNat 599, 0)),
  .inr (1, 200, 200, (0, .ofNat 0, .ofNat 1, 0)),
  .inr (0, 200, 200, (0, .ofNat 0, .ofNat 299, 0)),
  .inr (0, 200, 200, (0, .ofNat 0, .ofNat 599, 0)),
  .inr (0, 200, 200, (0, .ofNat 0, .ofNat 2, 0)),
  .inr (0, 200, 200, (0, .ofNat 0, .ofNat 200, 0)),
  .inr (0, 200, 200, (0, .ofNat 0, .ofNat 9, 0)),
  .inr (0, 200, 200, (0, .ofNat 0, .ofNat 599, 0)),
  .inr (1, 200, 200, (0, .ofNat 0, .ofNat 1, 0)),
  .inr (0, 9, 9, (0, .ofNat 0, .ofNat 0, 0)),
  .inr (0, 9, 9, (0, .ofNat 0, .ofNat 0, 0)),
  .inr (0, 9, 9, (0, .ofNat 0, .ofNat 0, 0)),
  .inr (0, 9, 9, (0, .ofNat 0, .ofNat 0, 0)),
  .inr (0, 20, 20, (0, .ofNat 0, .ofNat 6, 0)),
  .inr (0, 120, 120, (0, .ofNat 0, .ofNat 999999, 0)),
  .inr (0, 120, 120, (0, .ofNat 0, .ofNat 9999999, 0)),
  .inr (1, 120, 120, (0, .ofNat 0, .ofNat 1, 0)),
  .inr (0, 24, 24, (0, .ofNat 0, .ofNat 99, 0)),
  .inr (0, 24, 24, (0, .negSucc 0, .ofNat 3, 0)),
  .inr (0, 24, 24, (0, .negSucc 2147483647, .ofNat 2147483647, 0)),
  .inr (0, 24, 24, (0, .ofNat 0, .ofNat 9999, 0)),
  .inr (0, 24, 24, (0, .ofNat 0, .ofNat 2147483647, 0)),
  .inr (0, 24, 24, (0, .negSucc 2147483647, .ofNat 2147483647, 0)),
  .inr (0, 20, 20, (0, .ofNat 0, .ofNat 7, 0)),
  .inr (0, 20, 20, (0, .ofNat 0, .ofNat 599, 0)),
  .inr (0, 20, 20, (0, .ofNat 0, .ofNat 599, 0)),
  .inr (0, 20, 20, (0, .ofNat 0, .ofNat 11, 0)),
  .inr (0, 6000, 6000, (0, .ofNat 0, .ofNat 600, 0)),
  .inr (1, 6000, 6000, (0, .ofNat 0, .ofNat 1, 0)),
  .inr (0, 9, 9, (0, .ofNat 0, .ofNat 99999, 0)),
  .inr (0, 9, 9, (0, .ofNat 0, .ofNat 999, 0)),
  .inr (0, 81, 81, (0, .ofNat 0, .ofNat 999, 0)),
  .inl (0, [(0, .ofNat 0, .ofNat 7, 0), (0, .ofNat 0, .ofNat 599, 0), (0, .ofNat 0, .ofNat 599, 0), (0, .ofNat 0, .ofNat 59, 0), (0, .ofNat 0, .ofNat 59, 0), (0, .ofNat 0, .ofNat 599, 0), (0, .ofNat 0, .ofNat 599, 0), (0, .ofNat 0, .ofNat 1, 0), (0, .negSucc 2147483647, .ofNat 2147483647, 0), (0, .negSucc 2147483647, .ofNat 2147483647, 0), (2, .ofNat 0, .ofNat 10000000, 151)]),
  .inr (0, 12, 12, (0, .ofNat 0, .ofNat 600, 0)),
  .inr (0, 0, 400, (0, .ofNat 0, .ofNat 100110, 0)),
  .inr (0, 0, 48, (0, .ofNat 0, .ofNat 400, 0))]
def zTX : List Nat := [0, 102, 5, 4, 4, 4, 4, 5, 6, 4, 5, 4, 4, 4, 5, 4, 4, 6, 3, 3, 2, 2]
def zGd : List (Nat × Nat × Nat) := [(26, 48, 3), (27, 48, 3)]
def zXf : Nat → Nat → Bool := fun _ _ => false
def kt_1_0 : yCt := (([(0, 0, 0), (0, 1, 0)], [(0, .ofNat 0, .ofNat 10000000, 150), (1, .ofNat 0, .ofNat 599, 0)], [], [some (2, (.ofNat 0, [(0, .ofNat 1)])), some (0, (.ofNat 0, [(1, .ofNat 1)]))], [], [], []), [], (.ofNat 1, []), [([(2, 0, 0)], [(0, .ofNat 0, .ofNat 10000000, 150), (1, .ofNat 0, .ofNat 599, 0), (2, .negSucc 2147483647, .ofNat 2147483647, 0)], [], [], [(0, (.ofNat 0, [(2, .ofNat 1)]))], [], [])])
def kt_10_0 : yCt := (([(0, 1, 0)], [(0, .ofNat 0, .ofNat 7, 0)], [], [some (2, (.ofNat 63, [])), some (0, (.ofNat 0, [(0, .ofNat 1)])), some (2, (.ofNat 108, [])), some (2, (.ofNat 109, []))], [], [], []), [(75, 0)], (.ofNat 2, []), [([], [(0, .ofNat 0, .ofNat 7, 0)], [], [], [], [], [])])
def kt_11_0 : yCt := (([(0, 1, 0), (0, 2, 0), (0, 3, 0)], [(0, .ofNat 0, .ofNat 7, 0), (1, .ofNat 0, .ofNat 599, 0), (2, .ofNat 0, .ofNat 3, 0)], [], [some (2, (.ofNat 63, [])), some (0, (.ofNat 0, [(0, .ofNat 1)])), some (0, (.ofNat 0, [(1, .ofNat 1)])), some (0, (.ofNat 0, [(2, .ofNat 1)]))], [], [], []), [(48, 0), (49, 0), (50, 0), (51, 0)], (.ofNat 3, []), [([(2, 0, 0)], [(0, .ofNat 0, .ofNat 7, 0), (1, .ofNat 0, .ofNat 599, 0), (2, .ofNat 0, .ofNat 3, 0), (3, .negSucc 9223372036854775807, .ofNat 9223372036854775807, 0)], [], [], [(1, (.ofNat 0, [(3, .ofNat 1)]))], [], [])])
def kt_12_0 : yCt := (([(0, 1, 0), (0, 2, 0)], [(0, .ofNat 0, .ofNat 7, 0), (1, .ofNat 0, .ofNat 599, 0)], [], [some (2, (.ofNat 63, [])), some (0, (.ofNat 0, [(0, .ofNat 1)])), some (0, (.ofNat 0, [(1, .ofNat 1)]))], [], [], []), [(48, 0), (49, 0), (50, 0), (51, 0)], (.ofNat 2, []), [([], [(0, .ofNat 0, .ofNat 7, 0), (1, .ofNat 0, .ofNat 599, 0)], [], [], [], [], [])])
def kt_13_0 : yCt := (([(0, 0, 0), (0, 2, 0)], [(0, .negSucc 9223372036854775807, .ofNat 9223372036854775807, 0), (1, .negSucc 9223372036854775807, .ofNat 9223372036854775807, 0)], [], [some (1, (.ofNat 0, [(0, .ofNat 1)])), none, some (1, (.ofNat 0, [(1, .ofNat 1)])), none], [], [], []), [], (.ofNat 1, []), [([(2, 0, 0)], [(0, .negSucc 9223372036854775807, .ofNat 9223372036854775807, 0), (1, .negSucc 9223372036854775807, .ofNat 9223372036854775807, 0), (2, .ofNat 1, .ofNat 9223372036854775807, 0)], [], [], [(1, (.ofNat 0, [(2, .ofNat 1)]))], [], [])])
def kt_18_0 : yCt := (([(0, 1, 0)], [(0, .ofNat 0, .ofNat 3, 0)], [], [some (2, (.ofNat 36, [])), some (0, (.ofNat 0, [(0, .ofNat 1)]))], [], [], []), [], (.ofNat 1, []), [([(2, 0, 0)], [(0, .ofNat 0, .ofNat 3, 0), (1, .negSucc 9223372036854775807, .ofNat 9223372036854775807, 0)], [], [], [(1, (.ofNat 0, [(1, .ofNat 1)]))], [], [])])
def kt_20_0 : yCt := (([(0, 1, 0), (0, 2, 0), (0, 3, 0), (0, 4, 0)], [(0, .ofNat 0, .ofNat 7, 0), (1, .ofNat 0, .ofNat 599, 0), (2, .ofNat 0, .ofNat 59, 0), (3, .ofNat 0, .ofNat 599, 0)], [], [some (2, (.ofNat 36, [])), some (0, (.ofNat 0, [(0, .ofNat 1)])), some (0, (.ofNat 0, [(1, .ofNat 1)])), some (0, (.ofNat 0, [(2, .ofNat 1)])), some (0, (.ofNat 0, [(3, .ofNat 1)]))], [], [], []), [(12, 4), (15, 0)], (.ofNat 5, []), [([(2, 0, 0)], [(4, .negSucc 0, .ofNat 299, 0)], [], [], [(0, (.ofNat 0, [(4, .ofNat 1)]))], [], [])])
def kt_22_0 : yCt := (([(0, 1, 0), (0, 2, 0), (0, 3, 0)], [(0, .ofNat 0, .ofNat 299, 0), (1, .ofNat 0, .ofNat 599, 0), (2, .ofNat 0, .ofNat 599, 0)], [], [some (2, (.ofNat 36, [])), some (0, (.ofNat 0, [(0, .ofNat 1)])), some (0, (.ofNat 0, [(1, .ofNat 1)])), some (0, (.ofNat 0, [(2, .ofNat 1)]))], [], [], []), [], (.ofNat 2, []), [([(2, 0, 0)], [(0, .ofNat 0, .ofNat 299, 0), (1, .ofNat 0, .ofNat 599, 0), (2, .ofNat 0, .ofNat 599, 0), (3, .negSucc 0, .ofNat 59, 0)], [], [], [(0, (.ofNat 0, [(3, .ofNat 1)]))], [], [])])
def kt_23_0 : yCt := (([(0, 1, 0)], [(0, .ofNat 0, .ofNat 7, 0)], [], [some (2, (.ofNat 36, [])), some (0, (.ofNat 0, [(0, .ofNat 1)])), some (2, (.ofNat 107, []))], [], [], []), [(75, 0)], (.ofNat 2, []), [([], [(0, .ofNat 0, .ofNat 7, 0)], [], [], [], [], [])])
def kt_32_0 : yCt := (([(0, 1, 0), (0, 2, 0)], [(0, .ofNat 0, .ofNat 7, 0), (1, .ofNat 0, .ofNat 599, 0)], [], [some (2, (.ofNat 1, [])), some (0, (.ofNat 0, [(0, .ofNat 1)])), some (0, (.ofNat 0, [(1, .ofNat 1)]))], [], [], []), [], (.ofNat 1, []), [([(2, 0, 0)], [(0, .ofNat 0, .ofNat 7, 0), (1, .ofNat 0, .ofNat 599, 0), (2, .negSucc 2147483647, .ofNat 2147483647, 0)], [], [], [(0, (.ofNat 0, [(2, .ofNat 1)]))], [], [])])
def kt_34_0 : yCt := (([(0, 1, 0), (0, 2, 0), (0, 3, 0), (0, 4, 0)], [(0, .ofNat 0, .ofNat 7, 0), (1, .negSucc 2147483647, .ofNat 2147483647, 0), (2, .ofNat 0, .ofNat 2, 0), (3, .ofNat 0, .ofNat 200, 0)], [], [some (2, (.ofNat 1, [])), some (0, (.ofNat 0, [(0, .ofNat 1)])), some (0, (.ofNat 0, [(1, .ofNat 1)])), some (0, (.ofNat 0, [(2, .ofNat 1)])), some (0, (.ofNat 0, [(3, .ofNat 1)]))], [], [], []), [], (.ofNat 2, []), [([(2, 0, 0)], [(0, .ofNat 0, .ofNat 7, 0), (1, .negSucc 2147483647, .ofNat 2147483647, 0), (2, .ofNat 0, .ofNat 2, 0), (3, .ofNat 0, .ofNat 200, 0), (4, .ofNat 0, .ofNat 1, 0)], [], [], [(0, (.ofNat 0, [(4, .ofNat 1)]))], [], [])])
def kt_35_0 : yCt := (([(0, 1, 0), (0, 2, 0), (0, 3, 0), (0, 4, 0)], [(0, .ofNat 0, .ofNat 7, 0), (1, .negSucc 2147483647, .ofNat 2147483647, 0), (2, .ofNat 0, .ofNat 2, 0), (3, .ofNat 0, .ofNat 200, 0)], [], [some (2, (.ofNat 1, [])), some (0, (.ofNat 0, [(0, .ofNat 1)])), some (0, (.ofNat 0, [(1, .ofNat 1)])), some (0, (.ofNat 0, [(2, .ofNat 1)])), some (0, (.ofNat 0, [(3, .ofNat 1)]))], [], [], []), [], (.ofNat 3, []), [([(2, 0, 0)], [(0, .ofNat 0, .ofNat 7, 0), (1, .negSucc 2147483647, .ofNat 2147483647, 0), (2, .ofNat 0, .ofNat 2, 0), (3, .ofNat 0, .ofNat 200, 0), (4, .ofNat 0, .ofNat 9999, 0)], [], [], [(0, (.ofNat 0, [(4, .ofNat 1)]))], [], [])])
def kt_42_0 : yCt := (([(0, 1, 0), (0, 2, 0), (0, 3, 0)], [(0, .ofNat 0, .ofNat 19, 0), (1, .ofNat 0, .ofNat 19, 0), (2, .ofNat 0, .ofNat 63, 0)], [], [some (2, (.ofNat 76, [])), some (0, (.ofNat 0, [(0, .ofNat 1)])), some (0, (.ofNat 0, [(1, .ofNat 1)])), some (0, (.ofNat 0, [(2, .ofNat 1)]))], [], [], []), [], (.ofNat 2, []), [([(2, 0, 0)], [(0, .ofNat 0, .ofNat 19, 0), (1, .ofNat 0, .ofNat 19, 0), (2, .ofNat 0, .ofNat 63, 0), (3, .negSucc 9223372036854775807, .ofNat 9223372036854775807, 0)], [], [], [(1, (.ofNat 0, [(3, .ofNat 1)]))], [], [])])
def kt_48_0 : yCt := (([(0, 1, 0), (0, 2, 0)], [(0, .ofNat 0, .ofNat 23, 0), (1, .ofNat 87, .ofNat 88, 63)], [], [some (2, (.ofNat 81, [])), some (0, (.ofNat 0, [(0, .ofNat 1)])), some (2, (.ofNat 0, [(1, .ofNat 1)]))], [], [], []), [], (.ofNat 2, []), [([(2, 0, 0)], [(0, .ofNat 0, .ofNat 23, 0), (1, .ofNat 87, .ofNat 88, 63), (2, .ofNat 0, .ofNat 2147483647, 0)], [], [], [(0, (.ofNat 0, [(2, .ofNat 1)]))], [], [])])
def kt_50_0 : yCt := (([(0, 1, 0)], [(0, .ofNat 0, .ofNat 3, 0)], [], [some (2, (.ofNat 81, [])), some (0, (.ofNat 0, [(0, .ofNat 1)]))], [], [], []), [(63, 0)], (.ofNat 3, []), [([(2, 0, 0)], [(0, .ofNat 0, .ofNat 3, 0), (1, .negSucc 2147483647, .ofNat 2147483647, 0)], [], [], [(0, (.ofNat 0, [(1, .ofNat 1)]))], [], [])])
def kt_51_0 : yCt := (([(0, 1, 0)], [(0, .ofNat 0, .ofNat 23, 0)], [], [some (2, (.ofNat 81, [])), some (0, (.ofNat 0, [(0, .ofNat 1)]))], [], [], []), [(63, 0)], (.ofNat 2, []), [([(2, 0, 0)], [(0, .ofNat 0, .ofNat 23, 0), (1, .negSucc 2147483647, .ofNat 2147483647, 0)], [], [], [(0, (.ofNat 0, [(1, .ofNat 1)]))], [], [])])
def kt_53_0 : yCt := (([(0, 1, 0), (0, 2, 0)], [(0, .ofNat 0, .ofNat 23, 0), (1, .ofNat 0, .ofNat 2147483647, 0)], [], [some (2, (.ofNat 81, [])), some (0, (.ofNat 0, [(0, .ofNat 1)])), some (0, (.ofNat 0, [(1, .ofNat 1)]))], [], [], []), [], (.ofNat 2, []), [([(2, 0, 0)], [(0, .ofNat 0, .ofNat 23, 0), (1, .ofNat 0, .ofNat 2147483647, 0), (2, .negSucc 0, .ofNat 599, 0)], [], [], [(0, (.ofNat 0, [(2, .ofNat 1)]))], [], [])])
def kt_59_0 : yCt := (([(0, 1, 0)], [(0, .ofNat 0, .ofNat 19, 0)], [], [some (2, (.ofNat 89, [])), some (0, (.ofNat 0, [(0, .ofNat 1)])), some (2, (.ofNat 36, []))], [], [], []), [(150, 8)], (.ofNat 3, []), [([(2, 0, 0)], [(0, .ofNat 0, .ofNat 19, 0), (1, .negSucc 2147483647, .ofNat 2147483647, 0)], [], [], [(0, (.ofNat 0, [(1, .ofNat 1)]))], [], [])])
def kt_60_0 : yCt := (([(0, 1, 0)], [(0, .ofNat 0, .ofNat 19, 0)], [], [some (2, (.ofNat 89, [])), some (0, (.ofNat 0, [(0, .ofNat 1)])), some (2, (.ofNat 36, []))], [], [], []), [], (.ofNat 3, []), [([(2, 0, 0)], [(0, .ofNat 0, .ofNat 19, 0), (1, .negSucc 2147483647, .ofNat 2147483647, 0)], [], [], [(0, (.ofNat 0, [(1, .ofNat 1)]))], [], [])])
def kt_61_0 : yCt := (([(0, 1, 0), (0, 2, 0)], [(0, .ofNat 0, .ofNat 19, 0), (1, .negSucc 2147483647, .ofNat 2147483647, 0)], [], [some (2, (.ofNat 89, [])), some (0, (.ofNat 0, [(0, .ofNat 1)])), some (0, (.ofNat 0, [(1, .ofNat 1)])), some (2, (.ofNat 36, []))], [], [], []), [], (.ofNat 3, []), [([(2, 0, 0)], [(0, .ofNat 0, .ofNat 19, 0), (1, .negSucc 2147483647, .ofNat 2147483647, 0), (2, .negSucc 0, .ofNat 299, 0)], [], [], [(0, (.ofNat 0, [(2, .ofNat 1)]))], [], [])])
def kt_64_0 : yCt := (([(0, 1, 0)], [(0, .ofNat 0, .ofNat 599, 0)], [], [some (2, (.ofNat 48, [])), some (0, (.ofNat 0, [(0, .ofNat 1)])), some (2, (.ofNat 44, []))], [], [], []), [(24, 3), (25, 0), (26, 0), (27, 0)], (.ofNat 5, []), [([(2, 0, 0)], [(1, .negSucc 0, .ofNat 9, 0)], [], [], [(0, (.ofNat 0, [(1, .ofNat 1)]))], [], [])])
def kt_65_0 : yCt := (([(0, 1, 0)], [(0, .ofNat 0, .ofNat 599, 0)], [], [some (2, (.ofNat 48, [])), some (0, (.ofNat 0, [(0, .ofNat 1)]))], [], [], []), [], (.ofNat 1, []), [([(2, 0, 0)], [(0, .ofNat 0, .ofNat 599, 0), (1, .negSucc 0, .ofNat 9, 0)], [], [], [(0, (.ofNat 0, [(1, .ofNat 1)]))], [], [])])
def kt_66_0 : yCt := (([(0, 1, 0), (0, 2, 0)], [(0, .negSucc 0, .ofNat 9, 0), (1, .ofNat 0, .ofNat 15, 0)], [], [some (2, (.ofNat 48, [])), some (0, (.ofNat 0, [(0, .ofNat 1)])), some (0, (.ofNat 0, [(1, .ofNat 1)]))], [], [], []), [(29, 0)], (.ofNat 3, []), [([], [(0, .negSucc 0, .ofNat 9, 0), (1, .ofNat 0, .ofNat 15, 0)], [], [], [(0, (.negSucc 0, []))], [], []), ([(2, 0, 0), (1, 48, 3), (3, 51, 0), (4, 51, 0)], [(0, .ofNat 0, .ofNat 9, 0), (1, .ofNat 0, .ofNat 15, 0), (2, .ofNat 0, .ofNat 44, 0), (3, .ofNat 1, .ofNat 10, 0), (4, .ofNat 0, .ofNat 10000000, 153), (5, .ofNat 4, .ofNat 48, 0)], [(.ofNat 4, [(2, .ofNat 1), (5, .negSucc 0)]), (.ofNat 1, [(0, .ofNat 1), (3, .negSucc 0)]), (.ofNat 0, [(0, .negSucc 0)])], [], [(0, (.ofNat 0, [(2, .ofNat 1)]))], [(48, 3, (0, (.ofNat 0, [(3, .ofNat 1)])))], [((55, (.ofNat 0, [(0, .ofNat 1)])), (.ofNat 0, [(4, .ofNat 1)])), ((2, (.ofNat 0, [(4, .ofNat 1)])), (.ofNat 0, [(5, .ofNat 1)]))])])
def kt_68_0 : yCt := (([(0, 1, 0), (0, 2, 0), (0, 3, 0)], [(0, .ofNat 0, .ofNat 10000000, 152), (1, .ofNat 0, .ofNat 400, 0), (2, .ofNat 0, .ofNat 400, 0)], [], [some (2, (.ofNat 48, [])), some (2, (.ofNat 0, [(0, .ofNat 1)])), some (0, (.ofNat 0, [(1, .ofNat 1)])), some (0, (.ofNat 0, [(2, .ofNat 1)]))], [], [], []), [(29, 0)], (.ofNat 2, []), [([(2, 0, 0)], [(0, .ofNat 0, .ofNat 10000000, 152), (1, .ofNat 0, .ofNat 400, 0), (2, .ofNat 0, .ofNat 400, 0), (3, .negSucc 9223372036854775807, .ofNat 9223372036854775807, 0)], [], [], [(1, (.ofNat 0, [(3, .ofNat 1)]))], [], [])])
def kt_73_0 : yCt := (([(0, 1, 0)], [(0, .negSucc 2147483647, .ofNat 2147483647, 0)], [], [some (2, (.ofNat 44, [])), some (0, (.ofNat 0, [(0, .ofNat 1)]))], [], [], []), [(20, 1), (21, 0)], (.ofNat 1, []), [([], [(0, .negSucc 2147483647, .ofNat 2147483647, 0)], [], [], [], [], [])])
def kt_75_0 : yCt := (([], [], [], [some (2, (.ofNat 44, []))], [], [], []), [(20, 1), (20, 2), (20, 3), (20, 5), (20, 7), (20, 8), (20, 9), (22, 0), (23, 0)], (.ofNat 42, []), [([(2, 0, 0)], [(0, .negSucc 2147483647, .ofNat 2147483647, 0)], [], [], [(0, (.ofNat 0, [(0, .ofNat 1)]))], [], [])])
def kt_78_0 : yCt := (([(0, 1, 0)], [(0, .ofNat 0, .ofNat 10, 0)], [], [some (2, (.ofNat 44, [])), some (0, (.ofNat 0, [(0, .ofNat 1)]))], [], [], []), [(20, 1), (20, 2), (20, 3), (20, 5), (20, 8), (20, 9), (22, 0)], (.ofNat 40, [(0, .negSucc 2)]), [([(2, 0, 0)], [(0, .ofNat 0, .ofNat 10, 0), (1, .ofNat 0, .ofNat 1, 0)], [], [], [(0, (.ofNat 0, [(1, .ofNat 1)]))], [], [])])
def kt_79_0 : yCt := (([(0, 1, 0)], [(0, .ofNat 0, .ofNat 10, 0)], [], [some (2, (.ofNat 44, [])), some (0, (.ofNat 0, [(0, .ofNat 1)]))], [], [], []), [(20, 1), (20, 2), (20, 3), (20, 5), (20, 8), (20, 9), (22, 0)], (.ofNat 39, [(0, .negSucc 2)]), [([(2, 0, 0)], [(0, .ofNat 0, .ofNat 10, 0), (1, .ofNat 0, .ofNat 1, 0)], [], [], [(0, (.ofNat 0, [(1, .ofNat 1)]))], [], [])])
def kt_80_0 : yCt := (([(0, 1, 0)], [(0, .ofNat 0, .ofNat 10, 0)], [], [some (2, (.ofNat 44, [])), some (0, (.ofNat 0, [(0, .ofNat 1)]))], [], [], []), [(20, 1), (20, 2), (20, 3), (20, 5), (20, 8), (20, 9), (22, 0)], (.ofNat 38, [(0, .negSucc 2)]), [([(2, 0, 0)], [(0, .ofNat 0, .ofNat 10, 0), (1, .ofNat 0, .ofNat 1, 0)], [], [], [(0, (.ofNat 0, [(1, .ofNat 1)]))], [], [])])
def kt_81_0 : yCt := (([(0, 1, 0)], [(0, .ofNat 0, .ofNat 10, 0)], [], [some (2, (.ofNat 44, [])), some (0, (.ofNat 0, [(0, .ofNat 1)]))], [], [], []), [(20, 2), (20, 3), (20, 5), (20, 8), (20, 9), (22, 0)], (.ofNat 37, [(0, .negSucc 2)]), [([(2, 0, 0)], [(0, .ofNat 0, .ofNat 10, 0), (1, .ofNat 0, .ofNat 1, 0)], [], [], [(0, (.ofNat 0, [(1, .ofNat 1)]))], [], [])])
def kt_83_0 : yCt := (([(0, 1, 0)], [(0, .ofNat 0, .ofNat 10, 0)], [], [some (2, (.ofNat 44, [])), some (0, (.ofNat 0, [(0, .ofNat 1)]))], [], [], []), [(20, 2), (20, 3), (20, 5), (20, 8), (20, 9), (22, 0)], (.ofNat 36, [(0, .negSucc 2)]), [([(2, 0, 0)], [(0, .ofNat 0, .ofNat 10, 0), (1, .ofNat 0, .ofNat 1, 0)], [], [], [(0, (.ofNat 0, [(1, .ofNat 1)]))], [], [])])
def kt_84_0 : yCt := (([(0, 1, 0)], [(0, .ofNat 0, .ofNat 10, 0)], [], [some (2, (.ofNat 44, [])), some (0, (.ofNat 0, [(0, .ofNat 1)]))], [], [], []), [(20, 2), (20, 3), (20, 5), (20, 8), (20, 9), (22, 0)], (.ofNat 35, [(0, .negSucc 2)]), [([(2, 0, 0)], [(0, .ofNat 0, .ofNat 10, 0), (1, .ofNat 0, .ofNat 1, 0)], [], [], [(0, (.ofNat 0, [(1, .ofNat 1)]))], [], [])])
def kt_85_0 : yCt := (([(0, 1, 0)], [(0, .ofNat 0, .ofNat 10, 0)], [], [some (2, (.ofNat 44, [])), some (0, (.ofNat 0, [(0, .ofNat 1)]))], [], [], []), [(20, 2), (20, 3), (20, 5), (20, 8), (20, 9), (22, 0)], (.ofNat 34, [(0, .negSucc 2)]), [([(2, 0, 0)], [(0, .ofNat 0, .ofNat 10, 0), (1, .ofNat 0, .ofNat 1, 0)], [], [], [(0, (.ofNat 0, [(1, .ofNat 1)]))], [], [])])
def kt_89_0 : yCt := (([(0, 1, 0)], [(0, .ofNat 2, .ofNat 99999, 0)], [], [some (2, (.ofNat 44, [])), some (0, (.ofNat 0, [(0, .ofNat 1)]))], [], [], []), [(20, 2), (20, 9)], (.ofNat 2, []), [([(1, 44, 1), (1, 44, 2)], [(0, .ofNat 2, .ofNat 99999, 0), (1, .ofNat 0, .ofNat 400, 0), (2, .ofNat 0, .ofNat 400, 0)], [], [], [(0, (.negSucc 0, []))], [(44, 1, (0, (.ofNat 0, [(1, .ofNat 1)]))), (44, 2, (0, (.ofNat 0, [(2, .ofNat 1)])))], []), ([(2, 0, 0), (1, 44, 1), (1, 44, 2)], [(0, .ofNat 2, .ofNat 99999, 0), (1, .ofNat 0, .ofNat 99999, 0), (2, .ofNat 0, .ofNat 400, 0), (3, .ofNat 0, .ofNat 400, 0)], [(.ofNat 0, [(0, .negSucc 0), (1, .ofNat 1)])], [], [(0, (.ofNat 0, [(1, .ofNat 1)]))], [(44, 1, (0, (.ofNat 0, [(2, .ofNat 1)]))), (44, 2, (0, (.ofNat 0, [(3, .ofNat 1)])))], [])])
def kt_90_0 : yCt := (([], [], [], [some (2, (.ofNat 44, []))], [], [], []), [(20, 2)], (.ofNat 1, []), [([(1, 44, 1), (1, 44, 2)], [(0, .ofNat 0, .ofNat 400, 0), (1, .ofNat 0, .ofNat 400, 0)], [(.ofNat 0, [(0, .ofNat 1), (1, .negSucc 0)])], [], [(0, (.negSucc 0, []))], [(44, 1, (0, (.ofNat 0, [(0, .ofNat 1)]))), (44, 2, (0, (.ofNat 0, [(1, .ofNat 1)])))], []), ([(2, 0, 0), (1, 44, 1), (1, 44, 2)], [(0, .ofNat 0, .ofNat 255, 0), (1, .ofNat 1, .ofNat 400, 0), (2, .ofNat 0, .ofNat 399, 0)], [(.ofNat 1, [(1, .negSucc 0), (2, .ofNat 1)])], [], [(0, (.ofNat 0, [(0, .ofNat 1)]))], [(44, 1, (0, (.ofNat 0, [(1, .ofNat 1)]))), (44, 2, (0, (.ofNat 0, [(2, .ofNat 1)])))], [])])
def kt_91_0 : yCt := (([], [], [], [some (2, (.ofNat 44, []))], [], [], []), [(20, 2), (20, 3)], (.ofNat 2, []), [([], [], [], [], [(0, (.negSucc 0, []))], [], []), ([(2, 0, 0)], [(0, .ofNat 0, .ofNat 101, 0)], [], [], [(0, (.ofNat 0, [(0, .ofNat 1)]))], [], [])])
def kt_98_0 : yCt := (([(0, 1, 0)], [(0, .ofNat 0, .ofNat 999999, 0)], [], [some (2, (.ofNat 94, [])), some (0, (.ofNat 0, [(0, .ofNat 1)]))], [], [], []), [(70, 4), (70, 5)], (.ofNat 2, []), [([(2, 0, 0)], [(0, .ofNat 0, .ofNat 999999, 0), (1, .ofNat 0, .ofNat 2147483647, 0)], [], [], [(0, (.ofNat 0, [(1, .ofNat 1)]))], [], [])])
def kt_99_0 : yCt := (([(0, 1, 0)], [(0, .ofNat 1, .ofNat 2147483646, 0)], [], [some (2, (.ofNat 94, [])), some (0, (.ofNat 0, [(0, .ofNat 1)]))], [], [], []), [], (.ofNat 1, []), [([(2, 0, 0)], [(0, .ofNat 1, .ofNat 2147483646, 0), (1, .negSucc 2147483647, .ofNat 2147483647, 0)], [], [], [(0, (.ofNat 0, [(1, .ofNat 1)]))], [], [])])
def kt_100_0 : yCt := (([(0, 1, 0)], [(0, .ofNat 1, .ofNat 2147483646, 0)], [], [some (2, (.ofNat 94, [])), some (0, (.ofNat 0, [(0, .ofNat 1)]))], [], [], []), [], (.ofNat 1, []), [([(2, 0, 0)], [(0, .ofNat 1, .ofNat 2147483646, 0), (1, .negSucc 2147483647, .ofNat 2147483647, 0)], [], [], [(0, (.ofNat 0, [(1, .ofNat 1)]))], [], [])])
def kt_106_0 : yCt := (([(0, 1, 0), (0, 2, 0), (0, 3, 0), (0, 4, 0)], [(0, .ofNat 0, .ofNat 59, 0), (1, .ofNat 0, .ofNat 7, 0), (2, .ofNat 0, .ofNat 2, 0), (3, .ofNat 0, .ofNat 599, 0)], [], [some (2, (.ofNat 54, [])), some (0, (.ofNat 0, [(0, .ofNat 1)])), some (0, (.ofNat 0, [(1, .ofNat 1)])), some (0, (.ofNat 0, [(2, .ofNat 1)])), some (0, (.ofNat 0, [(3, .ofNat 1)]))], [], [], []), [], (.ofNat 2, []), [([(2, 0, 0)], [(0, .ofNat 0, .ofNat 59, 0), (1, .ofNat 0, .ofNat 7, 0), (2, .ofNat 0, .ofNat 2, 0), (3, .ofNat 0, .ofNat 599, 0), (4, .negSucc 0, .ofNat 200, 0)], [], [], [(0, (.ofNat 0, [(4, .ofNat 1)]))], [], [])])
def kt_107_0 : yCt := (([(0, 1, 0), (0, 2, 0), (0, 3, 0), (0, 4, 0)], [(0, .ofNat 0, .ofNat 59, 0), (1, .ofNat 0, .ofNat 7, 0), (2, .ofNat 0, .ofNat 2, 0), (3, .ofNat 0, .ofNat 599, 0)], [], [some (2, (.ofNat 54, [])), some (0, (.ofNat 0, [(0, .ofNat 1)])), some (0, (.ofNat 0, [(1, .ofNat 1)])), some (0, (.ofNat 0, [(2, .ofNat 1)])), some (0, (.ofNat 0, [(3, .ofNat 1)]))], [], [], []), [], (.ofNat 2, []), [([(2, 0, 0)], [(0, .ofNat 0, .ofNat 59, 0), (1, .ofNat 0, .ofNat 7, 0), (2, .ofNat 0, .ofNat 2, 0), (3, .ofNat 0, .ofNat 599, 0), (4, .negSucc 0, .ofNat 200, 0)], [], [], [(0, (.ofNat 0, [(4, .ofNat 1)]))], [], [])])
def kt_108_0 : yCt := (([(0, 1, 0), (0, 3, 0), (0, 4, 0)], [(0, .negSucc 9223372036854775807, .ofNat 9223372036854775807, 0), (1, .ofNat 0, .ofNat 7, 0), (2, .ofNat 0, .ofNat 2, 0)], [], [some (2, (.ofNat 54, [])), some (1, (.ofNat 0, [(0, .ofNat 1)])), none, some (0, (.ofNat 0, [(1, .ofNat 1)])), some (0, (.ofNat 0, [(2, .ofNat 1)])), some (2, (.ofNat 110, []))], [], [], []), [(78, 0)], (.ofNat 2, []), [([], [(0, .negSucc 9223372036854775807, .ofNat 9223372036854775807, 0), (1, .ofNat 0, .ofNat 7, 0), (2, .ofNat 0, .ofNat 2, 0)], [], [], [], [], [])])
def kt_110_0 : yCt := (([(0, 1, 0)], [(0, .negSucc 2147483647, .ofNat 2147483647, 0)], [], [some (2, (.ofNat 0, [])), some (0, (.ofNat 0, [(0, .ofNat 1)]))], [], [], []), [(1, 14)], (.ofNat 3, []), [([(2, 0, 0)], [(0, .negSucc 2147483647, .ofNat 2147483647, 0), (1, .ofNat 0, .ofNat 1, 0)], [], [], [(0, (.ofNat 0, [(1, .ofNat 1)]))], [], [])])
def kt_111_0 : yCt := (([(0, 1, 0)], [(0, .negSucc 2147483647, .ofNat 2147483647, 0)], [], [some (2, (.ofNat 0, [])), some (0, (.ofNat 0, [(0, .ofNat 1)]))], [], [], []), [(12, 2), (13, 0)], (.ofNat 3, []), [([(2, 0, 0)], [(0, .negSucc 2147483647, .ofNat 2147483647, 0), (1, .negSucc 0, .ofNat 59, 0)], [], [], [(0, (.ofNat 0, [(1, .ofNat 1)]))], [], [])])
def kt_112_0 : yCt := (([(0, 1, 0), (0, 2, 0)], [(0, .negSucc 2147483647, .ofNat 2147483647, 0), (1, .negSucc 2147483647, .ofNat 2147483647, 0)], [], [some (2, (.ofNat 0, [])), some (0, (.ofNat 0, [(0, .ofNat 1)])), some (0, (.ofNat 0, [(1, .ofNat 1)]))], [], [], []), [(3, 0)], (.ofNat 3, []), [([(2, 0, 0)], [(0, .negSucc 2147483647, .ofNat 2147483647, 0), (1, .negSucc 2147483647, .ofNat 2147483647, 0), (2, .negSucc 0, .ofNat 999, 0)], [], [], [(0, (.ofNat 0, [(2, .ofNat 1)]))], [], [])])
def kt_113_0 : yCt := (([(0, 1, 0), (0, 2, 0), (0, 3, 0), (0, 4, 0)], [(0, .negSucc 2147483647, .ofNat 2147483647, 0), (1, .negSucc 2147483647, .ofNat 2147483647, 0), (2, .negSucc 2147483647, .ofNat 2147483647, 0), (3, .negSucc 2147483647, .ofNat 2147483647, 0)], [], [some (2, (.ofNat 0, [])), some (0, (.ofNat 0, [(0, .ofNat 1)])), some (0, (.ofNat 0, [(1, .ofNat 1)])), some (0, (.ofNat 0, [(2, .ofNat 1)])), some (0, (.ofNat 0, [(3, .ofNat 1)]))], [], [], []), [(2, 6), (4, 0), (6, 0)], (.ofNat 3, []), [([(2, 0, 0)], [(0, .negSucc 2147483647, .ofNat 2147483647, 0), (1, .negSucc 2147483647, .ofNat 2147483647, 0), (2, .negSucc 2147483647, .ofNat 2147483647, 0), (3, .negSucc 2147483647, .ofNat 2147483647, 0), (4, .negSucc 0, .ofNat 7, 0)], [], [], [(0, (.ofNat 0, [(4, .ofNat 1)]))], [], [])])
def kt_114_0 : yCt := (([(0, 1, 0), (0, 2, 0), (0, 3, 0), (0, 4, 0)], [(0, .negSucc 2147483647, .ofNat 2147483647, 0), (1, .negSucc 2147483647, .ofNat 2147483647, 0), (2, .negSucc 2147483647, .ofNat 2147483647, 0), (3, .negSucc 2147483647, .ofNat 2147483647, 0)], [], [some (2, (.ofNat 0, [])), some (0, (.ofNat 0, [(0, .ofNat 1)])), some (0, (.ofNat 0, [(1, .ofNat 1)])), some (0, (.ofNat 0, [(2, .ofNat 1)])), some (0, (.ofNat 0, [(3, .ofNat 1)]))], [], [], []), [(2, 7), (7, 0), (9, 0)], (.ofNat 3, []), [([(2, 0, 0)], [(0, .negSucc 2147483647, .ofNat 2147483647, 0), (1, .negSucc 2147483647, .ofNat 2147483647, 0), (2, .negSucc 2147483647, .ofNat 2147483647, 0), (3, .negSucc 2147483647, .ofNat 2147483647, 0), (4, .negSucc 0, .ofNat 11, 0)], [], [], [(0, (.ofNat 0, [(4, .ofNat 1)]))], [], [])])
def kt_115_0 : yCt := (([(0, 1, 0), (0, 2, 0), (0, 3, 0)], [(0, .negSucc 2147483647, .ofNat 2147483647, 0), (1, .negSucc 2147483647, .ofNat 2147483647, 0), (2, .negSucc 2147483647, .ofNat 2147483647, 0)], [], [some (2, (.ofNat 0, [])), some (0, (.ofNat 0, [(0, .ofNat 1)])), some (0, (.ofNat 0, [(1, .ofNat 1)])), some (0, (.ofNat 0, [(2, .ofNat 1)]))], [], [], []), [(11, 0)], (.ofNat 3, []), [([(2, 0, 0)], [(0, .negSucc 2147483647, .ofNat 2147483647, 0), (1, .negSucc 2147483647, .ofNat 2147483647, 0), (2, .negSucc 2147483647, .ofNat 2147483647, 0), (3, .ofNat 0, .ofNat 1, 0)], [], [], [(0, (.ofNat 0, [(3, .ofNat 1)]))], [], [])])
def kt_116_0 : yCt := (([(0, 1, 0), (0, 2, 0), (0, 3, 0)], [(0, .negSucc 2147483647, .ofNat 2147483647, 0), (1, .negSucc 2147483647, .ofNat 2147483647, 0), (2, .negSucc 2147483647, .ofNat 2147483647, 0)], [], [some (2, (.ofNat 0, [])), some (0, (.ofNat 0, [(0, .ofNat 1)])), some (0, (.ofNat 0, [(1, .ofNat 1)])), some (0, (.ofNat 0, [(2, .ofNat 1)]))], [], [], []), [(12, 4), (15, 0)], (.ofNat 6, []), [([(2, 0, 0)], [(0, .negSucc 2147483647, .ofNat 2147483647, 0), (1, .negSucc 2147483647, .ofNat 2147483647, 0), (2, .negSucc 2147483647, .ofNat 2147483647, 0), (3, .negSucc 0, .ofNat 299, 0)], [], [], [(0, (.ofNat 0, [(3, .ofNat 1)]))], [], [])])
def kt_117_0 : yCt := (([(0, 1, 0), (0, 2, 0), (0, 3, 0)], [(0, .negSucc 2147483647, .ofNat 2147483647, 0), (1, .negSucc 2147483647, .ofNat 2147483647, 0), (2, .negSucc 2147483647, .ofNat 2147483647, 0)], [], [some (2, (.ofNat 0, [])), some (0, (.ofNat 0, [(0, .ofNat 1)])), some (0, (.ofNat 0, [(1, .ofNat 1)])), some (0, (.ofNat 0, [(2, .ofNat 1)]))], [], [], []), [(12, 9), (16, 0), (17, 0), (18, 0), (19, 0), (150, 4), (150, 5)], (.ofNat 3, []), [([(2, 0, 0)], [(0, .negSucc 2147483647, .ofNat 2147483647, 0), (1, .negSucc 2147483647, .ofNat 2147483647, 0), (2, .negSucc 2147483647, .ofNat 2147483647, 0), (3, .ofNat 0, .ofNat 1, 0)], [], [], [(0, (.ofNat 0, [(3, .ofNat 1)]))], [], [])])
def kt_118_0 : yCt := (([(0, 1, 0), (0, 2, 0), (0, 3, 0)], [(0, .negSucc 2147483647, .ofNat 2147483647, 0), (1, .negSucc 2147483647, .ofNat 2147483647, 0), (2, .negSucc 2147483647, .ofNat 2147483647, 0)], [], [some (2, (.ofNat 0, [])), some (0, (.ofNat 0, [(0, .ofNat 1)])), some (0, (.ofNat 0, [(1, .ofNat 1)])), some (0, (.ofNat 0, [(2, .ofNat 1)]))], [], [], []), [], (.ofNat 3, []), [([(2, 0, 0)], [(0, .negSucc 2147483647, .ofNat 2147483647, 0), (1, .negSucc 2147483647, .ofNat 2147483647, 0), (2, .negSucc 2147483647, .ofNat 2147483647, 0), (3, .negSucc 0, .ofNat 59, 0)], [], [], [(0, (.ofNat 0, [(3, .ofNat 1)]))], [], [])])
def kt_119_0 : yCt := (([(0, 1, 0), (0, 2, 0)], [(0, .negSucc 2147483647, .ofNat 2147483647, 0), (1, .negSucc 2147483647, .ofNat 2147483647, 0)], [], [some (2, (.ofNat 0, [])), some (0, (.ofNat 0, [(0, .ofNat 1)])), some (0, (.ofNat 0, [(1, .ofNat 1)]))], [], [], []), [], (.ofNat 3, []), [([(2, 0, 0)], [(0, .negSucc 2147483647, .ofNat 2147483647, 0), (1, .negSucc 2147483647, .ofNat 2147483647, 0), (2, .negSucc 2147483647, .ofNat 2147483647, 0)], [], [], [(0, (.ofNat 0, [(2, .ofNat 1)]))], [], [])])
def kt_120_0 : yCt := (([(0, 1, 0), (0, 2, 0)], [(0, .negSucc 2147483647, .ofNat 2147483647, 0), (1, .negSucc 2147483647, .ofNat 2147483647, 0)], [], [some (2, (.ofNat 0, [])), some (0, (.ofNat 0, [(0, .ofNat 1)])), some (0, (.ofNat 0, [(1, .ofNat 1)]))], [], [], []), [], (.ofNat 3, []), [([(2, 0, 0)], [(0, .negSucc 2147483647, .ofNat 2147483647, 0), (1, .negSucc 2147483647, .ofNat 2147483647, 0), (2, .negSucc 0, .ofNat 399600, 0)], [], [], [(0, (.ofNat 0, [(2, .ofNat 1)]))], [], [])])
def kt_121_0 : yCt := (([(0, 1, 0), (0, 2, 0), (0, 3, 0), (0, 4, 0), (0, 5, 0)], [(0, .negSucc 2147483647, .ofNat 2147483647, 0), (1, .negSucc 2147483647, .ofNat 2147483647, 0), (2, .negSucc 2147483647, .ofNat 2147483647, 0), (3, .negSucc 2147483647, .ofNat 2147483647, 0), (4, .negSucc 2147483647, .ofNat 2147483647, 0)], [], [some (2, (.ofNat 0, [])), some (0, (.ofNat 0, [(0, .ofNat 1)])), some (0, (.ofNat 0, [(1, .ofNat 1)])), some (0, (.ofNat 0, [(2, .ofNat 1)])), some (0, (.ofNat 0, [(3, .ofNat 1)])), some (0, (.ofNat 0, [(4, .ofNat 1)]))], [], [], []), [], (.ofNat 3, []), [([(2, 0, 0)], [(0, .negSucc 2147483647, .ofNat 2147483647, 0), (1, .negSucc 2147483647, .ofNat 2147483647, 0), (2, .negSucc 2147483647, .ofNat 2147483647, 0), (3, .negSucc 2147483647, .ofNat 2147483647, 0), (4, .negSucc 2147483647, .ofNat 2147483647, 0), (5, .negSucc 0, .ofNat 1, 0)], [], [], [(0, (.ofNat 0, [(5, .ofNat 1)]))], [], [])])
def kt_122_0 : yCt := (([(0, 1, 0), (0, 2, 0), (0, 3, 0), (0, 4, 0), (0, 5, 0)], [(0, .negSucc 2147483647, .ofNat 2147483647, 0), (1, .negSucc 2147483647, .ofNat 2147483647, 0), (2, .negSucc 2147483647, .ofNat 2147483647, 0), (3, .negSucc 2147483647, .ofNat 2147483647, 0), (4, .negSucc 2147483647, .ofNat 2147483647, 0)], [], [some (2, (.ofNat 0, [])), some (0, (.ofNat 0, [(0, .ofNat 1)])), some (0, (.ofNat 0, [(1, .ofNat 1)])), some (0, (.ofNat 0, [(2, .ofNat 1)])), some (0, (.ofNat 0, [(3, .ofNat 1)])), some (0, (.ofNat 0, [(4, .ofNat 1)]))], [], [], []), [(20, 1), (21, 0)], (.ofNat 2, []), [([(2, 0, 0)], [(0, .negSucc 2147483647, .ofNat 2147483647, 0), (1, .negSucc 2147483647, .ofNat 2147483647, 0), (2, .negSucc 2147483647, .ofNat 2147483647, 0), (3, .negSucc 2147483647, .ofNat 2147483647, 0), (4, .negSucc 2147483647, .ofNat 2147483647, 0), (5, .negSucc 0, .ofNat 400, 0)], [], [], [(0, (.ofNat 0, [(5, .ofNat 1)]))], [], [])])
def kt_123_0 : yCt := (([(0, 1, 0)], [(0, .negSucc 2147483647, .ofNat 2147483647, 0)], [], [some (2, (.ofNat 0, [])), some (0, (.ofNat 0, [(0, .ofNat 1)]))], [], [], []), [(20, 1)], (.ofNat 2, []), [([(2, 0, 0)], [(0, .negSucc 2147483647, .ofNat 2147483647, 0), (1, .negSucc 0, .ofNat 400, 0)], [], [], [(0, (.ofNat 0, [(1, .ofNat 1)]))], [], [])])
def kt_124_0 : yCt := (([(0, 1, 0)], [(0, .negSucc 2147483647, .ofNat 2147483647, 0)], [], [some (2, (.ofNat 0, [])), some (0, (.ofNat 0, [(0, .ofNat 1)]))], [], [], []), [(20, 1), (20, 2), (20, 3), (20, 5), (20, 7), (20, 8), (20, 9), (22, 0), (23, 0), (24, 3), (25, 0), (26, 0), (27, 0)], (.ofNat 43, []), [([(2, 0, 0)], [(0, .negSucc 2147483647, .ofNat 2147483647, 0), (1, .negSucc 2147483647, .ofNat 2147483647, 0)], [], [], [(0, (.ofNat 0, [(1, .ofNat 1)]))], [], [])])
def kt_125_0 : yCt := (([(0, 1, 0)], [(0, .negSucc 2147483647, .ofNat 2147483647, 0)], [], [some (2, (.ofNat 0, [])), some (0, (.ofNat 0, [(0, .ofNat 1)]))], [], [], []), [], (.ofNat 3, []), [([(2, 0, 0)], [(0, .negSucc 2147483647, .ofNat 2147483647, 0), (1, .negSucc 0, .ofNat 9, 0)], [], [], [(0, (.ofNat 0, [(1, .ofNat 1)]))], [], [])])
def kt_126_0 : yCt := (([(0, 1, 0), (0, 2, 0), (0, 3, 0)], [(0, .negSucc 2147483647, .ofNat 2147483647, 0), (1, .negSucc 2147483647, .ofNat 2147483647, 0), (2, .negSucc 2147483647, .ofNat 2147483647, 0)], [], [some (2, (.ofNat 0, [])), some (0, (.ofNat 0, [(0, .ofNat 1)])), some (0, (.ofNat 0, [(1, .ofNat 1)])), some (0, (.ofNat 0, [(2, .ofNat 1)]))], [], [], []), [(28, 0), (29, 0), (75, 0)], (.ofNat 5, []), [([], [(0, .negSucc 2147483647, .ofNat 2147483647, 0), (1, .negSucc 2147483647, .ofNat 2147483647, 0), (2, .negSucc 2147483647, .ofNat 2147483647, 0)], [], [], [(0, (.negSucc 1, []))], [], []), ([], [(0, .ofNat 0, .ofNat 7, 0), (1, .ofNat 0, .ofNat 2, 0), (2, .ofNat 0, .ofNat 599, 0)], [(.ofNat 0, [(0, .negSucc 0)]), (.negSucc 6, [(0, .ofNat 1)]), (.ofNat 0, [(1, .negSucc 0)]), (.negSucc 1, [(1, .ofNat 1)]), (.ofNat 0, [(2, .negSucc 0)]), (.negSucc 598, [(2, .ofNat 1)])], [], [(0, (.ofNat 0, []))], [], []), ([], [(0, .ofNat 0, .ofNat 7, 0), (1, .ofNat 0, .ofNat 2, 0), (2, .ofNat 0, .ofNat 599, 0)], [(.ofNat 0, [(0, .negSucc 0)]), (.negSucc 6, [(0, .ofNat 1)]), (.ofNat 0, [(1, .negSucc 0)]), (.negSucc 1, [(1, .ofNat 1)]), (.ofNat 0, [(2, .negSucc 0)]), (.negSucc 598, [(2, .ofNat 1)])], [], [(0, (.negSucc 0, []))], [], []), ([(2, 0, 0)], [(0, .ofNat 0, .ofNat 7, 0), (1, .ofNat 0, .ofNat 2, 0), (2, .ofNat 0, .ofNat 599, 0), (3, .ofNat 1, .ofNat 200, 0)], [(.ofNat 0, [(0, .negSucc 0)]), (.negSucc 6, [(0, .ofNat 1)]), (.ofNat 0, [(1, .negSucc 0)]), (.negSucc 1, [(1, .ofNat 1)]), (.ofNat 0, [(2, .negSucc 0)]), (.negSucc 598, [(2, .ofNat 1)])], [], [(0, (.ofNat 0, [(3, .ofNat 1)]))], [], [])])
def kt_127_0 : yCt := (([(0, 1, 0), (0, 2, 0), (0, 3, 0)], [(0, .negSucc 2147483647, .ofNat 2147483647, 0), (1, .negSucc 2147483647, .ofNat 2147483647, 0), (2, .negSucc 2147483647, .ofNat 2147483647, 0)], [], [some (2, (.ofNat 0, [])), some (0, (.ofNat 0, [(0, .ofNat 1)])), some (0, (.ofNat 0, [(1, .ofNat 1)])), some (0, (.ofNat 0, [(2, .ofNat 1)]))], [], [], []), [(28, 0), (29, 0), (75, 0)], (.ofNat 6, []), [([(2, 0, 0)], [(0, .negSucc 2147483647, .ofNat 2147483647, 0), (1, .negSucc 2147483647, .ofNat 2147483647, 0), (2, .negSucc 2147483647, .ofNat 2147483647, 0), (3, .negSucc 0, .ofNat 1, 0)], [], [], [(0, (.ofNat 0, [(3, .ofNat 1)]))], [], [])])
def kt_128_0 : yCt := (([(0, 1, 0), (0, 2, 0)], [(0, .negSucc 2147483647, .ofNat 2147483647, 0), (1, .negSucc 2147483647, .ofNat 2147483647, 0)], [], [some (2, (.ofNat 0, [])), some (0, (.ofNat 0, [(0, .ofNat 1)])), some (0, (.ofNat 0, [(1, .ofNat 1)]))], [], [], []), [(28, 0), (29, 0), (75, 0)], (.ofNat 4, []), [([(2, 0, 0)], [(0, .negSucc 2147483647, .ofNat 2147483647, 0), (1, .negSucc 2147483647, .ofNat 2147483647, 0), (2, .negSucc 0, .ofNat 1, 0)], [], [], [(0, (.ofNat 0, [(2, .ofNat 1)]))], [], [])])
def kt_129_0 : yCt := (([(0, 1, 0), (0, 2, 0), (0, 3, 0), (0, 4, 0)], [(0, .negSucc 2147483647, .ofNat 2147483647, 0), (1, .negSucc 2147483647, .ofNat 2147483647, 0), (2, .negSucc 2147483647, .ofNat 2147483647, 0), (3, .ofNat 0, .ofNat 1, 0)], [], [some (2, (.ofNat 0, [])), some (0, (.ofNat 0, [(0, .ofNat 1)])), some (0, (.ofNat 0, [(1, .ofNat 1)])), some (0, (.ofNat 0, [(2, .ofNat 1)])), some (0, (.ofNat 0, [(3, .ofNat 1)]))], [], [], []), [(30, 5), (31, 0), (32, 0), (33, 0), (34, 0)], (.ofNat 3, []), [([(2, 0, 0)], [(0, .negSucc 2147483647, .ofNat 2147483647, 0), (1, .negSucc 2147483647, .ofNat 2147483647, 0), (2, .negSucc 2147483647, .ofNat 2147483647, 0), (3, .ofNat 0, .ofNat 1, 0), (4, .negSucc 0, .ofNat 199, 0)], [], [], [(0, (.ofNat 0, [(4, .ofNat 1)]))], [], [])])
def kt_130_0 : yCt := (([(0, 1, 0), (0, 2, 0)], [(0, .negSucc 2147483647, .ofNat 2147483647, 0), (1, .negSucc 2147483647, .ofNat 2147483647, 0)], [], [some (2, (.ofNat 0, [])), some (0, (.ofNat 0, [(0, .ofNat 1)])), some (0, (.ofNat 0, [(1, .ofNat 1)]))], [], [], []), [(30, 9), (35, 0), (36, 0), (37, 0), (38, 0)], (.ofNat 2, []), [([(2, 0, 0)], [(0, .negSucc 2147483647, .ofNat 2147483647, 0), (1, .negSucc 2147483647, .ofNat 2147483647, 0), (2, .ofNat 0, .ofNat 1, 0)], [], [], [(0, (.ofNat 0, [(2, .ofNat 1)]))], [], [])])
def kt_131_0 : yCt := (([(0, 1, 0), (0, 2, 0), (0, 3, 0), (0, 4, 0), (0, 5, 0)], [(0, .negSucc 2147483647, .ofNat 2147483647, 0), (1, .negSucc 2147483647, .ofNat 2147483647, 0), (2, .negSucc 2147483647, .ofNat 2147483647, 0), (3, .negSucc 2147483647, .ofNat 2147483647, 0), (4, .negSucc 2147483647, .ofNat 2147483647, 0)], [], [some (2, (.ofNat 0, [])), some (0, (.ofNat 0, [(0, .ofNat 1)])), some (0, (.ofNat 0, [(1, .ofNat 1)])), some (0, (.ofNat 0, [(2, .ofNat 1)])), some (0, (.ofNat 0, [(3, .ofNat 1)])), some (0, (.ofNat 0, [(4, .ofNat 1)]))], [], [], []), [], (.ofNat 3, []), [([(2, 0, 0)], [(0, .negSucc 2147483647, .ofNat 2147483647, 0), (1, .negSucc 2147483647, .ofNat 2147483647, 0), (2, .negSucc 2147483647, .ofNat 2147483647, 0), (3, .negSucc 2147483647, .ofNat 2147483647, 0), (4, .negSucc 2147483647, .ofNat 2147483647, 0), (5, .negSucc 1, .ofNat 200, 0)], [], [], [(0, (.ofNat 0, [(5, .ofNat 1)]))], [], [])])
def kt_132_0 : yCt := (([(0, 1, 0), (0, 2, 0), (0, 3, 0)], [(0, .negSucc 2147483647, .ofNat 2147483647, 0), (1, .negSucc 2147483647, .ofNat 2147483647, 0), (2, .negSucc 2147483647, .ofNat 2147483647, 0)], [], [some (2, (.ofNat 0, [])), some (0, (.ofNat 0, [(0, .ofNat 1)])), some (0, (.ofNat 0, [(1, .ofNat 1)])), some (0, (.ofNat 0, [(2, .ofNat 1)]))], [], [], []), [(28, 0), (29, 0), (75, 0), (78, 0)], (.ofNat 6, []), [([(2, 0, 0)], [(0, .negSucc 2147483647, .ofNat 2147483647, 0), (1, .negSucc 2147483647, .ofNat 2147483647, 0), (2, .negSucc 2147483647, .ofNat 2147483647, 0), (3, .negSucc 1, .ofNat 599, 0)], [], [], [(0, (.ofNat 0, [(3, .ofNat 1)]))], [], [])])
def kt_133_0 : yCt := (([(0, 1, 0), (0, 2, 0), (0, 3, 0), (0, 4, 0), (0, 5, 0), (0, 6, 0), (0, 7, 0)], [(0, .negSucc 2147483647, .ofNat 2147483647, 0), (1, .negSucc 2147483647, .ofNat 2147483647, 0), (2, .negSucc 2147483647, .ofNat 2147483647, 0), (3, .negSucc 2147483647, .ofNat 2147483647, 0), (4, .negSucc 2147483647, .ofNat 2147483647, 0), (5, .ofNat 0, .ofNat 1, 0), (6, .ofNat 0, .ofNat 1, 0)], [], [some (2, (.ofNat 0, [])), some (0, (.ofNat 0, [(0, .ofNat 1)])), some (0, (.ofNat 0, [(1, .ofNat 1)])), some (0, (.ofNat 0, [(2, .ofNat 1)])), some (0, (.ofNat 0, [(3, .ofNat 1)])), some (0, (.ofNat 0, [(4, .ofNat 1)])), some (0, (.ofNat 0, [(5, .ofNat 1)])), some (0, (.ofNat 0, [(6, .ofNat 1)]))], [], [], []), [(39, 8), (40, 0), (41, 0), (42, 0), (43, 0), (44, 0), (45, 0), (46, 0), (47, 0), (150, 6), (150, 7)], (.ofNat 3, []), [([(2, 0, 0)], [(0, .negSucc 2147483647, .ofNat 2147483647, 0), (1, .negSucc 2147483647, .ofNat 2147483647, 0), (2, .negSucc 2147483647, .ofNat 2147483647, 0), (3, .negSucc 2147483647, .ofNat 2147483647, 0), (4, .negSucc 2147483647, .ofNat 2147483647, 0), (5, .ofNat 0, .ofNat 1, 0), (6, .ofNat 0, .ofNat 1, 0), (7, .negSucc 0, .ofNat 199, 0)], [], [], [(0, (.ofNat 0, [(7, .ofNat 1)]))], [], [])])
def kt_134_0 : yCt := (([(0, 1, 0)], [(0, .negSucc 2147483647, .ofNat 2147483647, 0)], [], [some (2, (.ofNat 0, [])), some (0, (.ofNat 0, [(0, .ofNat 1)]))], [], [], []), [], (.ofNat 3, []), [([(2, 0, 0)], [(0, .negSucc 2147483647, .ofNat 2147483647, 0), (1, .negSucc 0, .ofNat 1, 0)], [], [], [(0, (.ofNat 0, [(1, .ofNat 1)]))], [], [])])
def kt_135_0 : yCt := (([(0, 1, 0), (0, 2, 0), (0, 3, 0)], [(0, .negSucc 2147483647, .ofNat 2147483647, 0), (1, .negSucc 2147483647, .ofNat 2147483647, 0), (2, .negSucc 2147483647, .ofNat 2147483647, 0)], [], [some (2, (.ofNat 0, [])), some (0, (.ofNat 0, [(0, .ofNat 1)])), some (0, (.ofNat 0, [(1, .ofNat 1)])), some (0, (.ofNat 0, [(2, .ofNat 1)]))], [], [], []), [(48, 0), (49, 0), (50, 0), (51, 0)], (.ofNat 4, []), [([(2, 0, 0)], [(0, .negSucc 2147483647, .ofNat 2147483647, 0), (1, .negSucc 2147483647, .ofNat 2147483647, 0), (2, .negSucc 2147483647, .ofNat 2147483647, 0), (3, .negSucc 9223372036854775807, .ofNat 9223372036854775807, 0)], [], [], [(1, (.ofNat 0, [(3, .ofNat 1)]))], [], [])])
def kt_136_0 : yCt := (([(0, 1, 0)], [(0, .negSucc 2147483647, .ofNat 2147483647, 0)], [], [some (2, (.ofNat 0, [])), some (0, (.ofNat 0, [(0, .ofNat 1)]))], [], [], []), [(52, 0)], (.ofNat 2, []), [([(2, 0, 0)], [(0, .negSucc 2147483647, .ofNat 2147483647, 0), (1, .negSucc 0, .ofNat 19, 0)], [], [], [(0, (.ofNat 0, [(1, .ofNat 1)]))], [], [])])
def kt_137_0 : yCt := (([(0, 1, 0), (0, 2, 0), (0, 3, 0), (0, 4, 0)], [(0, .negSucc 2147483647, .ofNat 2147483647, 0), (1, .ofNat 0, .ofNat 1, 0), (2, .negSucc 2147483647, .ofNat 2147483647, 0), (3, .negSucc 2147483647, .ofNat 2147483647, 0)], [], [some (2, (.ofNat 0, [])), some (0, (.ofNat 0, [(0, .ofNat 1)])), some (0, (.ofNat 0, [(1, .ofNat 1)])), some (0, (.ofNat 0, [(2, .ofNat 1)])), some (0, (.ofNat 0, [(3, .ofNat 1)]))], [], [], []), [(53, 0), (54, 0), (55, 0), (56, 0)], (.ofNat 2, []), [([(2, 0, 0)], [(0, .negSucc 2147483647, .ofNat 2147483647, 0), (1, .ofNat 0, .ofNat 1, 0), (2, .negSucc 2147483647, .ofNat 2147483647, 0), (3, .negSucc 2147483647, .ofNat 2147483647, 0), (4, .negSucc 0, .ofNat 5, 0)], [], [], [(0, (.ofNat 0, [(4, .ofNat 1)]))], [], [])])
def kt_138_0 : yCt := (([(0, 1, 0)], [(0, .negSucc 2147483647, .ofNat 2147483647, 0)], [], [some (2, (.ofNat 0, [])), some (0, (.ofNat 0, [(0, .ofNat 1)]))], [], [], []), [], (.ofNat 4, []), [([(2, 0, 0)], [(0, .negSucc 2147483647, .ofNat 2147483647, 0), (1, .negSucc 9223372036854775807, .ofNat 9223372036854775807, 0)], [], [], [(1, (.ofNat 0, [(1, .ofNat 1)]))], [], [])])
def kt_139_0 : yCt := (([(0, 1, 0), (0, 2, 0), (0, 3, 0)], [(0, .negSucc 2147483647, .ofNat 2147483647, 0), (1, .negSucc 2147483647, .ofNat 2147483647, 0), (2, .negSucc 2147483647, .ofNat 2147483647, 0)], [], [some (2, (.ofNat 0, [])), some (0, (.ofNat 0, [(0, .ofNat 1)])), some (0, (.ofNat 0, [(1, .ofNat 1)])), some (0, (.ofNat 0, [(2, .ofNat 1)]))], [], [], []), [], (.ofNat 5, []), [([(2, 0, 0)], [(0, .negSucc 2147483647, .ofNat 2147483647, 0), (1, .negSucc 2147483647, .ofNat 2147483647, 0), (2, .negSucc 2147483647, .ofNat 2147483647, 0), (3, .negSucc 9223372036854775807, .ofNat 9223372036854775807, 0)], [], [], [(1, (.ofNat 0, [(3, .ofNat 1)]))], [], [])])
def kt_140_0 : yCt := (([(0, 1, 0), (0, 2, 0), (0, 3, 0)], [(0, .negSucc 2147483647, .ofNat 2147483647, 0), (1, .negSucc 2147483647, .ofNat 2147483647, 0), (2, .negSucc 2147483647, .ofNat 2147483647, 0)], [], [some (2, (.ofNat 0, [])), some (0, (.ofNat 0, [(0, .ofNat 1)])), some (0, (.ofNat 0, [(1, .ofNat 1)])), some (0, (.ofNat 0, [(2, .ofNat 1)]))], [], [], []), [], (.ofNat 3, []), [([(2, 0, 0)], [(0, .negSucc 2147483647, .ofNat 2147483647, 0), (1, .negSucc 2147483647, .ofNat 2147483647, 0), (2, .negSucc 2147483647, .ofNat 2147483647, 0), (3, .negSucc 9223372036854775807, .ofNat 9223372036854775807, 0)], [], [], [(1, (.ofNat 0, [(3, .ofNat 1)]))], [], [])])
def kt_141_0 : yCt := (([(0, 1, 0), (0, 2, 0), (0, 3, 0), (0, 4, 0)], [(0, .negSucc 2147483647, .ofNat 2147483647, 0), (1, .negSucc 2147483647, .ofNat 2147483647, 0), (2, .negSucc 2147483647, .ofNat 2147483647, 0), (3, .negSucc 2147483647, .ofNat 2147483647, 0)], [], [some (2, (.ofNat 0, [])), some (0, (.ofNat 0, [(0, .ofNat 1)])), some (0, (.ofNat 0, [(1, .ofNat 1)])), some (0, (.ofNat 0, [(2, .ofNat 1)])), some (0, (.ofNat 0, [(3, .ofNat 1)]))], [], [], []), [(57, 7), (58, 0), (59, 0), (60, 0), (61, 0), (62, 0), (63, 0)], (.ofNat 4, []), [([(2, 0, 0)], [(0, .negSucc 2147483647, .ofNat 2147483647, 0), (1, .negSucc 2147483647, .ofNat 2147483647, 0), (2, .negSucc 2147483647, .ofNat 2147483647, 0), (3, .negSucc 2147483647, .ofNat 2147483647, 0), (4, .negSucc 0, .ofNat 23, 0)], [], [], [(0, (.ofNat 0, [(4, .ofNat 1)]))], [], [])])
def kt_142_0 : yCt := (([(0, 1, 0), (0, 2, 0)], [(0, .negSucc 2147483647, .ofNat 2147483647, 0), (1, .negSucc 2147483647, .ofNat 2147483647, 0)], [], [some (2, (.ofNat 0, [])), some (0, (.ofNat 0, [(0, .ofNat 1)])), some (0, (.ofNat 0, [(1, .ofNat 1)]))], [], [], []), [(63, 0)], (.ofNat 3, []), [([(2, 0, 0)], [(0, .negSucc 2147483647, .ofNat 2147483647, 0), (1, .negSucc 2147483647, .ofNat 2147483647, 0), (2, .negSucc 2147483647, .ofNat 2147483647, 0)], [], [], [(0, (.ofNat 0, [(2, .ofNat 1)]))], [], [])])
def kt_143_0 : yCt := (([(0, 1, 0)], [(0, .negSucc 2147483647, .ofNat 2147483647, 0)], [], [some (2, (.ofNat 0, [])), some (0, (.ofNat 0, [(0, .ofNat 1)]))], [], [], []), [(63, 0)], (.ofNat 4, []), [([(2, 0, 0)], [(0, .negSucc 2147483647, .ofNat 2147483647, 0), (1, .negSucc 2147483647, .ofNat 2147483647, 0)], [], [], [(0, (.ofNat 0, [(1, .ofNat 1)]))], [], [])])
def kt_144_0 : yCt := (([(0, 1, 0), (0, 2, 0)], [(0, .negSucc 2147483647, .ofNat 2147483647, 0), (1, .negSucc 2147483647, .ofNat 2147483647, 0)], [], [some (2, (.ofNat 0, [])), some (0, (.ofNat 0, [(0, .ofNat 1)])), some (0, (.ofNat 0, [(1, .ofNat 1)]))], [], [], []), [], (.ofNat 3, []), [([(2, 0, 0)], [(0, .negSucc 2147483647, .ofNat 2147483647, 0), (1, .negSucc 2147483647, .ofNat 2147483647, 0), (2, .negSucc 0, .ofNat 89991, 0)], [], [], [(0, (.ofNat 0, [(2, .ofNat 1)]))], [], [])])
def kt_145_0 : yCt := (([(0, 1, 0), (0, 2, 0)], [(0, .negSucc 2147483647, .ofNat 2147483647, 0), (1, .negSucc 2147483647, .ofNat 2147483647, 0)], [], [some (2, (.ofNat 0, [])), some (0, (.ofNat 0, [(0, .ofNat 1)])), some (0, (.ofNat 0, [(1, .ofNat 1)]))], [], [], []), [], (.ofNat 3, []), [([(2, 0, 0)], [(0, .negSucc 2147483647, .ofNat 2147483647, 0), (1, .negSucc 2147483647, .ofNat 2147483647, 0), (2, .negSucc 1, .ofNat 599, 0)], [], [], [(0, (.ofNat 0, [(2, .ofNat 1)]))], [], [])])
def kt_146_0 : yCt := (([(0, 1, 0), (0, 2, 0), (0, 3, 0), (0, 4, 0)], [(0, .negSucc 2147483647, .ofNat 2147483647, 0), (1, .negSucc 2147483647, .ofNat 2147483647, 0), (2, .negSucc 2147483647, .ofNat 2147483647, 0), (3, .negSucc 2147483647, .ofNat 2147483647, 0)], [], [some (2, (.ofNat 0, [])), some (0, (.ofNat 0, [(0, .ofNat 1)])), some (0, (.ofNat 0, [(1, .ofNat 1)])), some (0, (.ofNat 0, [(2, .ofNat 1)])), some (0, (.ofNat 0, [(3, .ofNat 1)]))], [], [], []), [(65, 4), (66, 0), (67, 0), (68, 0), (69, 0)], (.ofNat 3, []), [([(2, 0, 0)], [(0, .negSucc 2147483647, .ofNat 2147483647, 0), (1, .negSucc 2147483647, .ofNat 2147483647, 0), (2, .negSucc 2147483647, .ofNat 2147483647, 0), (3, .negSucc 2147483647, .ofNat 2147483647, 0), (4, .negSucc 0, .ofNat 19, 0)], [], [], [(0, (.ofNat 0, [(4, .ofNat 1)]))], [], [])])
def kt_147_0 : yCt := (([(0, 1, 0)], [(0, .negSucc 2147483647, .ofNat 2147483647, 0)], [], [some (2, (.ofNat 0, [])), some (0, (.ofNat 0, [(0, .ofNat 1)]))], [], [], []), [(150, 8)], (.ofNat 4, []), [([(2, 0, 0)], [(0, .negSucc 2147483647, .ofNat 2147483647, 0), (1, .negSucc 2147483647, .ofNat 2147483647, 0)], [], [], [(0, (.ofNat 0, [(1, .ofNat 1)]))], [], [])])
def kt_148_0 : yCt := (([(0, 1, 0), (0, 2, 0)], [(0, .negSucc 2147483647, .ofNat 2147483647, 0), (1, .negSucc 2147483647, .ofNat 2147483647, 0)], [], [some (2, (.ofNat 0, [])), some (0, (.ofNat 0, [(0, .ofNat 1)])), some (0, (.ofNat 0, [(1, .ofNat 1)]))], [], [], []), [], (.ofNat 2, []), [([(2, 0, 0)], [(0, .negSucc 2147483647, .ofNat 2147483647, 0), (1, .negSucc 2147483647, .ofNat 2147483647, 0), (2, .negSucc 0, .ofNat 1, 0)], [], [], [(0, (.ofNat 0, [(2, .ofNat 1)]))], [], [])])
def kt_149_0 : yCt := (([(0, 1, 0), (0, 2, 0)], [(0, .negSucc 2147483647, .ofNat 2147483647, 0), (1, .negSucc 2147483647, .ofNat 2147483647, 0)], [], [some (2, (.ofNat 0, [])), some (0, (.ofNat 0, [(0, .ofNat 1)])), some (0, (.ofNat 0, [(1, .ofNat 1)]))], [], [], []), [(150, 9), (151, 0)], (.ofNat 2, []), [([(2, 0, 0)], [(0, .negSucc 2147483647, .ofNat 2147483647, 0), (1, .negSucc 2147483647, .ofNat 2147483647, 0), (2, .ofNat 0, .ofNat 1, 0)], [], [], [(0, (.ofNat 0, [(2, .ofNat 1)]))], [], [])])
def kt_150_0 : yCt := (([(0, 1, 0), (0, 2, 0)], [(0, .negSucc 2147483647, .ofNat 2147483647, 0), (1, .negSucc 2147483647, .ofNat 2147483647, 0)], [], [some (2, (.ofNat 0, [])), some (0, (.ofNat 0, [(0, .ofNat 1)])), some (0, (.ofNat 0, [(1, .ofNat 1)]))], [], [], []), [], (.ofNat 4, []), [([(2, 0, 0)], [(0, .negSucc 2147483647, .ofNat 2147483647, 0), (1, .negSucc 2147483647, .ofNat 2147483647, 0), (2, .negSucc 2147483647, .ofNat 2147483647, 0)], [], [], [(0, (.ofNat 0, [(2, .ofNat 1)]))], [], [])])
def kt_151_0 : yCt := (([(0, 1, 0), (0, 2, 0)], [(0, .negSucc 2147483647, .ofNat 2147483647, 0), (1, .ofNat 0, .ofNat 1, 0)], [], [some (2, (.ofNat 0, [])), some (0, (.ofNat 0, [(0, .ofNat 1)])), some (0, (.ofNat 0, [(1, .ofNat 1)]))], [], [], []), [(14, 0)], (.ofNat 2, []), [([(2, 0, 0)], [(0, .negSucc 2147483647, .ofNat 2147483647, 0), (1, .ofNat 0, .ofNat 1, 0), (2, .ofNat 0, .ofNat 1, 0)], [], [], [(0, (.ofNat 0, [(2, .ofNat 1)]))], [], [])])
def kt_152_0 : yCt := (([(0, 1, 0)], [(0, .negSucc 2147483647, .ofNat 2147483647, 0)], [], [some (2, (.ofNat 0, [])), some (0, (.ofNat 0, [(0, .ofNat 1)]))], [], [], []), [(28, 0), (29, 0), (75, 0), (78, 0)], (.ofNat 7, []), [([(2, 0, 0)], [(0, .negSucc 2147483647, .ofNat 2147483647, 0), (1, .negSucc 0, .ofNat 9223372036854775807, 0)], [], [], [(1, (.ofNat 0, [(1, .ofNat 1)]))], [], [])])
def kt_153_0 : yCt := (([(0, 1, 0), (0, 2, 0)], [(0, .negSucc 2147483647, .ofNat 2147483647, 0), (1, .negSucc 2147483647, .ofNat 2147483647, 0)], [], [some (2, (.ofNat 0, [])), some (0, (.ofNat 0, [(0, .ofNat 1)])), some (0, (.ofNat 0, [(1, .ofNat 1)]))], [], [], []), [(70, 3), (71, 0), (72, 0)], (.ofNat 2, []), [([(2, 0, 0)], [(0, .negSucc 2147483647, .ofNat 2147483647, 0), (1, .negSucc 2147483647, .ofNat 2147483647, 0), (2, .negSucc 0, .ofNat 8, 0)], [], [], [(0, (.ofNat 0, [(2, .ofNat 1)]))], [], [])])
def kt_154_0 : yCt := (([(0, 1, 0), (0, 2, 0), (0, 3, 0)], [(0, .negSucc 2147483647, .ofNat 2147483647, 0), (1, .negSucc 2147483647, .ofNat 2147483647, 0), (2, .negSucc 2147483647, .ofNat 2147483647, 0)], [], [some (2, (.ofNat 0, [])), some (0, (.ofNat 0, [(0, .ofNat 1)])), some (0, (.ofNat 0, [(1, .ofNat 1)])), some (0, (.ofNat 0, [(2, .ofNat 1)]))], [], [], []), [(74, 0)], (.ofNat 2, []), [([(2, 0, 0)], [(0, .negSucc 2147483647, .ofNat 2147483647, 0), (1, .negSucc 2147483647, .ofNat 2147483647, 0), (2, .negSucc 2147483647, .ofNat 2147483647, 0), (3, .negSucc 0, .ofNat 999, 0)], [], [], [(0, (.ofNat 0, [(3, .ofNat 1)]))], [], [])])
def kt_155_0 : yCt := (([(0, 1, 0)], [(0, .negSucc 2147483647, .ofNat 2147483647, 0)], [], [some (2, (.ofNat 0, [])), some (0, (.ofNat 0, [(0, .ofNat 1)]))], [], [], []), [(70, 4), (70, 5)], (.ofNat 3, []), [([(2, 0, 0)], [(0, .negSucc 2147483647, .ofNat 2147483647, 0), (1, .negSucc 0, .ofNat 2147483647, 0)], [], [], [(0, (.ofNat 0, [(1, .ofNat 1)]))], [], [])])
def kt_156_0 : yCt := (([(0, 1, 0)], [(0, .negSucc 2147483647, .ofNat 2147483647, 0)], [], [some (2, (.ofNat 0, [])), some (0, (.ofNat 0, [(0, .ofNat 1)]))], [], [], []), [], (.ofNat 1, []), [([(2, 0, 0)], [(0, .negSucc 2147483647, .ofNat 2147483647, 0), (1, .negSucc 2147483647, .ofNat 2147483647, 0)], [], [], [(0, (.ofNat 0, [(1, .ofNat 1)]))], [], [])])
def kt_157_0 : yCt := (([(0, 1, 0)], [(0, .negSucc 2147483647, .ofNat 2147483647, 0)], [], [some (2, (.ofNat 0, [])), some (0, (.ofNat 0, [(0, .ofNat 1)]))], [], [], []), [], (.ofNat 1, []), [([(2, 0, 0)], [(0, .negSucc 2147483647, .ofNat 2147483647, 0), (1, .negSucc 0, .ofNat 599, 0)], [], [], [(0, (.ofNat 0, [(1, .ofNat 1)]))], [], [])])
def kt_168_0 : yCt := (([(0, 1, 0), (0, 3, 0), (0, 4, 0)], [(0, .negSucc 9223372036854775807, .ofNat 9223372036854775807, 0), (1, .ofNat 0, .ofNat 7, 0), (2, .ofNat 0, .ofNat 2, 0)], [], [some (2, (.ofNat 0, [])), some (1, (.ofNat 0, [(0, .ofNat 1)])), none, some (0, (.ofNat 0, [(1, .ofNat 1)])), some (0, (.ofNat 0, [(2, .ofNat 1)]))], [], [], []), [(28, 0), (29, 0), (78, 0)], (.ofNat 5, []), [([(2, 0, 0)], [(0, .negSucc 9223372036854775807, .ofNat 9223372036854775807, 0), (1, .ofNat 0, .ofNat 7, 0), (2, .ofNat 0, .ofNat 2, 0), (3, .negSucc 0, .ofNat 599, 0)], [], [], [(0, (.ofNat 0, [(3, .ofNat 1)]))], [], [])])
def kt_169_0 : yCt := (([(0, 0, 0)], [(0, .ofNat 107, .ofNat 109, 75)], [], [some (2, (.ofNat 0, [(0, .ofNat 1)]))], [], [], []), [(75, 0)], (.ofNat 1, []), [([], [(0, .ofNat 107, .ofNat 109, 75)], [], [], [], [], [])])
def kt_174_0 : yCt := (([(0, 1, 0)], [(0, .negSucc 2147483647, .ofNat 2147483647, 0)], [], [some (2, (.ofNat 111, [])), some (0, (.ofNat 0, [(0, .ofNat 1)]))], [], [], []), [(79, 1)], (.ofNat 2, []), [([(2, 0, 0)], [(0, .negSucc 2147483647, .ofNat 2147483647, 0), (1, .ofNat 0, .ofNat 1, 0)], [], [], [(0, (.ofNat 0, [(1, .ofNat 1)]))], [], [])])
def kt_179_0 : yCt := (([(0, 1, 0)], [(0, .negSucc 2147483647, .ofNat 2147483647, 0)], [], [some (2, (.ofNat 111, [])), some (0, (.ofNat 0, [(0, .ofNat 1)]))], [], [], []), [(79, 2), (80, 0)], (.ofNat 2, []), [([(2, 0, 0)], [(0, .negSucc 2147483647, .ofNat 2147483647, 0), (1, .negSucc 0, .ofNat 59, 0)], [], [], [(0, (.ofNat 0, [(1, .ofNat 1)]))], [], [])])
def kt_180_0 : yCt := (([(0, 1, 0), (0, 2, 0)], [(0, .negSucc 2147483647, .ofNat 2147483647, 0), (1, .negSucc 2147483647, .ofNat 2147483647, 0)], [], [some (2, (.ofNat 111, [])), some (0, (.ofNat 0, [(0, .ofNat 1)])), some (0, (.ofNat 0, [(1, .ofNat 1)]))], [], [], []), [(81, 0)], (.ofNat 3, []), [([(2, 0, 0)], [(0, .negSucc 2147483647, .ofNat 2147483647, 0), (1, .negSucc 2147483647, .ofNat 2147483647, 0), (2, .negSucc 0, .ofNat 999, 0)], [], [], [(0, (.ofNat 0, [(2, .ofNat 1)]))], [], [])])
def kt_181_0 : yCt := (([(0, 1, 0), (0, 2, 0), (0, 3, 0), (0, 4, 0)], [(0, .negSucc 2147483647, .ofNat 2147483647, 0), (1, .negSucc 2147483647, .ofNat 2147483647, 0), (2, .negSucc 2147483647, .ofNat 2147483647, 0), (3, .negSucc 2147483647, .ofNat 2147483647, 0)], [], [some (2, (.ofNat 111, [])), some (0, (.ofNat 0, [(0, .ofNat 1)])), some (0, (.ofNat 0, [(1, .ofNat 1)])), some (0, (.ofNat 0, [(2, .ofNat 1)])), some (0, (.ofNat 0, [(3, .ofNat 1)]))], [], [], []), [(79, 3), (82, 0), (83, 0)], (.ofNat 2, []), [([(2, 0, 0)], [(0, .negSucc 2147483647, .ofNat 2147483647, 0), (1, .negSucc 2147483647, .ofNat 2147483647, 0), (2, .negSucc 2147483647, .ofNat 2147483647, 0), (3, .negSucc 2147483647, .ofNat 2147483647, 0), (4, .negSucc 0, .ofNat 7, 0)], [], [], [(0, (.ofNat 0, [(4, .ofNat 1)]))], [], [])])
def kt_182_0 : yCt := (([(0, 1, 0), (0, 2, 0), (0, 3, 0), (0, 4, 0)], [(0, .negSucc 2147483647, .ofNat 2147483647, 0), (1, .negSucc 2147483647, .ofNat 2147483647, 0), (2, .negSucc 2147483647, .ofNat 2147483647, 0), (3, .negSucc 2147483647, .ofNat 2147483647, 0)], [], [some (2, (.ofNat 111, [])), some (0, (.ofNat 0, [(0, .ofNat 1)])), some (0, (.ofNat 0, [(1, .ofNat 1)])), some (0, (.ofNat 0, [(2, .ofNat 1)])), some (0, (.ofNat 0, [(3, .ofNat 1)]))], [], [], []), [(79, 4), (84, 0), (85, 0)], (.ofNat 2, []), [([(2, 0, 0)], [(0, .negSucc 2147483647, .ofNat 2147483647, 0), (1, .negSucc 2147483647, .ofNat 2147483647, 0), (2, .negSucc 2147483647, .ofNat 2147483647, 0), (3, .negSucc 2147483647, .ofNat 2147483647, 0), (4, .negSucc 0, .ofNat 11, 0)], [], [], [(0, (.ofNat 0, [(4, .ofNat 1)]))], [], [])])
def kt_183_0 : yCt := (([(0, 1, 0), (0, 2, 0), (0, 3, 0)], [(0, .negSucc 2147483647, .ofNat 2147483647, 0), (1, .negSucc 2147483647, .ofNat 2147483647, 0), (2, .negSucc 2147483647, .ofNat 2147483647, 0)], [], [some (2, (.ofNat 111, [])), some (0, (.ofNat 0, [(0, .ofNat 1)])), some (0, (.ofNat 0, [(1, .ofNat 1)])), some (0, (.ofNat 0, [(2, .ofNat 1)]))], [], [], []), [(86, 0)], (.ofNat 3, []), [([(2, 0, 0)], [(0, .negSucc 2147483647, .ofNat 2147483647, 0), (1, .negSucc 2147483647, .ofNat 2147483647, 0), (2, .negSucc 2147483647, .ofNat 2147483647, 0), (3, .ofNat 0, .ofNat 1, 0)], [], [], [(0, (.ofNat 0, [(3, .ofNat 1)]))], [], [])])
def kt_184_0 : yCt := (([(0, 1, 0), (0, 2, 0), (0, 3, 0)], [(0, .negSucc 2147483647, .ofNat 2147483647, 0), (1, .negSucc 2147483647, .ofNat 2147483647, 0), (2, .negSucc 2147483647, .ofNat 2147483647, 0)], [], [some (2, (.ofNat 111, [])), some (0, (.ofNat 0, [(0, .ofNat 1)])), some (0, (.ofNat 0, [(1, .ofNat 1)])), some (0, (.ofNat 0, [(2, .ofNat 1)]))], [], [], []), [(79, 5), (89, 0), (90, 0), (91, 0), (92, 0), (93, 0), (94, 0), (95, 0)], (.ofNat 3, []), [([(2, 0, 0)], [(0, .negSucc 2147483647, .ofNat 2147483647, 0), (1, .negSucc 2147483647, .ofNat 2147483647, 0), (2, .negSucc 2147483647, .ofNat 2147483647, 0), (3, .negSucc 0, .ofNat 299, 0)], [], [], [(0, (.ofNat 0, [(3, .ofNat 1)]))], [], [])])
def kt_185_0 : yCt := (([(0, 1, 0), (0, 2, 0), (0, 3, 0)], [(0, .negSucc 2147483647, .ofNat 2147483647, 0), (1, .negSucc 2147483647, .ofNat 2147483647, 0), (2, .negSucc 2147483647, .ofNat 2147483647, 0)], [], [some (2, (.ofNat 111, [])), some (0, (.ofNat 0, [(0, .ofNat 1)])), some (0, (.ofNat 0, [(1, .ofNat 1)])), some (0, (.ofNat 0, [(2, .ofNat 1)]))], [], [], []), [(79, 6), (93, 0), (94, 0), (96, 0), (97, 0), (98, 0), (99, 0)], (.ofNat 3, []), [([(2, 0, 0)], [(0, .negSucc 2147483647, .ofNat 2147483647, 0), (1, .negSucc 2147483647, .ofNat 2147483647, 0), (2, .negSucc 2147483647, .ofNat 2147483647, 0), (3, .ofNat 0, .ofNat 1, 0)], [], [], [(0, (.ofNat 0, [(3, .ofNat 1)]))], [], [])])
def kt_186_0 : yCt := (([(0, 1, 0), (0, 2, 0), (0, 3, 0)], [(0, .ofNat 0, .ofNat 299, 0), (1, .ofNat 0, .ofNat 599, 0), (2, .ofNat 0, .ofNat 599, 0)], [], [some (2, (.ofNat 111, [])), some (0, (.ofNat 0, [(0, .ofNat 1)])), some (0, (.ofNat 0, [(1, .ofNat 1)])), some (0, (.ofNat 0, [(2, .ofNat 1)]))], [], [], []), [], (.ofNat 1, []), [([(2, 0, 0)], [(0, .ofNat 0, .ofNat 299, 0), (1, .ofNat 0, .ofNat 599, 0), (2, .ofNat 0, .ofNat 599, 0), (3, .ofNat 0, .ofNat 59, 0)], [], [], [(0, (.ofNat 0, [(3, .ofNat 1)]))], [], [])])
def kt_187_0 : yCt := (([(0, 1, 0), (0, 2, 0), (0, 3, 0)], [(0, .negSucc 2147483647, .ofNat 2147483647, 0), (1, .negSucc 2147483647, .ofNat 2147483647, 0), (2, .negSucc 2147483647, .ofNat 2147483647, 0)], [], [some (2, (.ofNat 111, [])), some (0, (.ofNat 0, [(0, .ofNat 1)])), some (0, (.ofNat 0, [(1, .ofNat 1)])), some (0, (.ofNat 0, [(2, .ofNat 1)]))], [], [], []), [], (.ofNat 3, []), [([(2, 0, 0)], [(0, .negSucc 2147483647, .ofNat 2147483647, 0), (1, .negSucc 2147483647, .ofNat 2147483647, 0), (2, .negSucc 2147483647, .ofNat 2147483647, 0), (3, .negSucc 0, .ofNat 59, 0)], [], [], [(0, (.ofNat 0, [(3, .ofNat 1)]))], [], [])])
def kt_188_0 : yCt := (([(0, 1, 0), (0, 2, 0)], [(0, .ofNat 0, .ofNat 7, 0), (1, .ofNat 0, .ofNat 599, 0)], [], [some (2, (.ofNat 111, [])), some (0, (.ofNat 0, [(0, .ofNat 1)])), some (0, (.ofNat 0, [(1, .ofNat 1)]))], [], [], []), [], (.ofNat 1, []), [([(2, 0, 0)], [(0, .ofNat 0, .ofNat 7, 0), (1, .ofNat 0, .ofNat 599, 0), (2, .negSucc 2147483647, .ofNat 2147483647, 0)], [], [], [(0, (.ofNat 0, [(2, .ofNat 1)]))], [], [])])
def kt_189_0 : yCt := (([(0, 1, 0), (0, 2, 0)], [(0, .ofNat 0, .ofNat 299, 0), (1, .ofNat 0, .ofNat 599, 0)], [], [some (2, (.ofNat 111, [])), some (0, (.ofNat 0, [(0, .ofNat 1)])), some (0, (.ofNat 0, [(1, .ofNat 1)]))], [], [], []), [], (.ofNat 2, []), [([(2, 0, 0)], [(0, .ofNat 0, .ofNat 299, 0), (1, .ofNat 0, .ofNat 599, 0), (2, .negSucc 2147483647, .ofNat 2147483647, 0)], [], [], [(0, (.ofNat 0, [(2, .ofNat 1)]))], [], [])])
def kt_191_0 : yCt := (([(0, 1, 0), (0, 2, 0), (0, 3, 0), (0, 4, 0)], [(0, .ofNat 0, .ofNat 7, 0), (1, .negSucc 2147483647, .ofNat 2147483647, 0), (2, .ofNat 0, .ofNat 2, 0), (3, .ofNat 0, .ofNat 200, 0)], [], [some (2, (.ofNat 111, [])), some (0, (.ofNat 0, [(0, .ofNat 1)])), some (0, (.ofNat 0, [(1, .ofNat 1)])), some (0, (.ofNat 0, [(2, .ofNat 1)])), some (0, (.ofNat 0, [(3, .ofNat 1)]))], [], [], []), [], (.ofNat 2, []), [([(2, 0, 0)], [(0, .ofNat 0, .ofNat 7, 0), (1, .negSucc 2147483647, .ofNat 2147483647, 0), (2, .ofNat 0, .ofNat 2, 0), (3, .ofNat 0, .ofNat 200, 0), (4, .ofNat 0, .ofNat 1, 0)], [], [], [(0, (.ofNat 0, [(4, .ofNat 1)]))], [], [])])
def kt_192_0 : yCt := (([(0, 1, 0), (0, 2, 0)], [(0, .negSucc 2147483647, .ofNat 2147483647, 0), (1, .negSucc 2147483647, .ofNat 2147483647, 0)], [], [some (2, (.ofNat 111, [])), some (0, (.ofNat 0, [(0, .ofNat 1)])), some (0, (.ofNat 0, [(1, .ofNat 1)]))], [], [], []), [], (.ofNat 3, []), [([(2, 0, 0)], [(0, .negSucc 2147483647, .ofNat 2147483647, 0), (1, .negSucc 2147483647, .ofNat 2147483647, 0), (2, .negSucc 2147483647, .ofNat 2147483647, 0)], [], [], [(0, (.ofNat 0, [(2, .ofNat 1)]))], [], [])])
def kt_193_0 : yCt := (([(0, 1, 0), (0, 2, 0)], [(0, .negSucc 2147483647, .ofNat 2147483647, 0), (1, .negSucc 2147483647, .ofNat 2147483647, 0)], [], [some (2, (.ofNat 111, [])), some (0, (.ofNat 0, [(0, .ofNat 1)])), some (0, (.ofNat 0, [(1, .ofNat 1)]))], [], [], []), [], (.ofNat 3, []), [([(2, 0, 0)], [(0, .negSucc 2147483647, .ofNat 2147483647, 0), (1, .negSucc 2147483647, .ofNat 2147483647, 0), (2, .negSucc 0, .ofNat 399600, 0)], [], [], [(0, (.ofNat 0, [(2, .ofNat 1)]))], [], [])])
def kt_195_0 : yCt := (([(0, 1, 0), (0, 2, 0), (0, 3, 0), (0, 4, 0), (0, 5, 0)], [(0, .negSucc 2147483647, .ofNat 2147483647, 0), (1, .negSucc 2147483647, .ofNat 2147483647, 0), (2, .negSucc 2147483647, .ofNat 2147483647, 0), (3, .negSucc 2147483647, .ofNat 2147483647, 0), (4, .negSucc 2147483647, .ofNat 2147483647, 0)], [], [some (2, (.ofNat 111, [])), some (0, (.ofNat 0, [(0, .ofNat 1)])), some (0, (.ofNat 0, [(1, .ofNat 1)])), some (0, (.ofNat 0, [(2, .ofNat 1)])), some (0, (.ofNat 0, [(3, .ofNat 1)])), some (0, (.ofNat 0, [(4, .ofNat 1)]))], [], [], []), [], (.ofNat 4, []), [([(2, 0, 0)], [(0, .negSucc 2147483647, .ofNat 2147483647, 0), (1, .negSucc 2147483647, .ofNat 2147483647, 0), (2, .negSucc 2147483647, .ofNat 2147483647, 0), (3, .negSucc 2147483647, .ofNat 2147483647, 0), (4, .negSucc 2147483647, .ofNat 2147483647, 0), (5, .negSucc 0, .ofNat 1, 0)], [], [], [(0, (.ofNat 0, [(5, .ofNat 1)]))], [], [])])
def kt_196_0 : yCt := (([(0, 1, 0), (0, 2, 0), (0, 3, 0), (0, 4, 0), (0, 5, 0)], [(0, .negSucc 2147483647, .ofNat 2147483647, 0), (1, .negSucc 2147483647, .ofNat 2147483647, 0), (2, .negSucc 2147483647, .ofNat 2147483647, 0), (3, .negSucc 2147483647, .ofNat 2147483647, 0), (4, .negSucc 2147483647, .ofNat 2147483647, 0)], [], [some (2, (.ofNat 111, [])), some (0, (.ofNat 0, [(0, .ofNat 1)])), some (0, (.ofNat 0, [(1, .ofNat 1)])), some (0, (.ofNat 0, [(2, .ofNat 1)])), some (0, (.ofNat 0, [(3, .ofNat 1)])), some (0, (.ofNat 0, [(4, .ofNat 1)]))], [], [], []), [(79, 27), (100, 0)], (.ofNat 2, []), [([(2, 0, 0)], [(0, .negSucc 2147483647, .ofNat 2147483647, 0), (1, .negSucc 2147483647, .ofNat 2147483647, 0), (2, .negSucc 2147483647, .ofNat 2147483647, 0), (3, .negSucc 2147483647, .ofNat 2147483647, 0), (4, .negSucc 2147483647, .ofNat 2147483647, 0), (5, .negSucc 0, .ofNat 400, 0)], [], [], [(0, (.ofNat 0, [(5, .ofNat 1)]))], [], [])])
def kt_198_0 : yCt := (([(0, 1, 0)], [(0, .negSucc 2147483647, .ofNat 2147483647, 0)], [], [some (2, (.ofNat 111, [])), some (0, (.ofNat 0, [(0, .ofNat 1)]))], [], [], []), [(79, 27)], (.ofNat 1, []), [([(2, 0, 0)], [(0, .negSucc 2147483647, .ofNat 2147483647, 0), (1, .negSucc 0, .ofNat 400, 0)], [], [], [(0, (.ofNat 0, [(1, .ofNat 1)]))], [], [])])
def kt_226_0 : yCt := (([(0, 1, 0)], [(0, .ofNat 0, .ofNat 599, 0)], [], [some (2, (.ofNat 111, [])), some (0, (.ofNat 0, [(0, .ofNat 1)]))], [], [], []), [], (.ofNat 1, []), [([(2, 0, 0)], [(0, .ofNat 0, .ofNat 599, 0), (1, .negSucc 0, .ofNat 9, 0)], [], [], [(0, (.ofNat 0, [(1, .ofNat 1)]))], [], [])])
def kt_227_0 : yCt := (([(0, 1, 0)], [(0, .negSucc 2147483647, .ofNat 2147483647, 0)], [], [some (2, (.ofNat 111, [])), some (0, (.ofNat 0, [(0, .ofNat 1)]))], [], [], []), [], (.ofNat 3, []), [([(2, 0, 0)], [(0, .negSucc 2147483647, .ofNat 2147483647, 0), (1, .negSucc 0, .ofNat 9, 0)], [], [], [(0, (.ofNat 0, [(1, .ofNat 1)]))], [], [])])
def kt_238_0 : yCt := (([(0, 1, 0), (0, 2, 0), (0, 3, 0), (0, 4, 0)], [(0, .negSucc 2147483647, .ofNat 2147483647, 0), (1, .negSucc 2147483647, .ofNat 2147483647, 0), (2, .negSucc 2147483647, .ofNat 2147483647, 0), (3, .ofNat 0, .ofNat 1, 0)], [], [some (2, (.ofNat 111, [])), some (0, (.ofNat 0, [(0, .ofNat 1)])), some (0, (.ofNat 0, [(1, .ofNat 1)])), some (0, (.ofNat 0, [(2, .ofNat 1)])), some (0, (.ofNat 0, [(3, .ofNat 1)]))], [], [], []), [(79, 50), (113, 0), (114, 0), (115, 0), (119, 0)], (.ofNat 3, []), [([(2, 0, 0)], [(0, .negSucc 2147483647, .ofNat 2147483647, 0), (1, .negSucc 2147483647, .ofNat 2147483647, 0), (2, .negSucc 2147483647, .ofNat 2147483647, 0), (3, .ofNat 0, .ofNat 1, 0), (4, .negSucc 0, .ofNat 199, 0)], [], [], [(0, (.ofNat 0, [(4, .ofNat 1)]))], [], [])])
def kt_239_0 : yCt := (([(0, 1, 0), (0, 2, 0)], [(0, .negSucc 2147483647, .ofNat 2147483647, 0), (1, .negSucc 2147483647, .ofNat 2147483647, 0)], [], [some (2, (.ofNat 111, [])), some (0, (.ofNat 0, [(0, .ofNat 1)])), some (0, (.ofNat 0, [(1, .ofNat 1)]))], [], [], []), [(79, 51), (116, 0), (117, 0), (118, 0)], (.ofNat 3, []), [([(2, 0, 0)], [(0, .negSucc 2147483647, .ofNat 2147483647, 0), (1, .negSucc 2147483647, .ofNat 2147483647, 0), (2, .ofNat 0, .ofNat 1, 0)], [], [], [(0, (.ofNat 0, [(2, .ofNat 1)]))], [], [])])
def kt_240_0 : yCt := (([(0, 1, 0), (0, 2, 0), (0, 3, 0), (0, 4, 0), (0, 5, 0)], [(0, .ofNat 0, .ofNat 59, 0), (1, .ofNat 0, .ofNat 7, 0), (2, .ofNat 0, .ofNat 2, 0), (3, .ofNat 0, .ofNat 599, 0), (4, .ofNat 0, .ofNat 1, 0)], [], [some (2, (.ofNat 111, [])), some (0, (.ofNat 0, [(0, .ofNat 1)])), some (0, (.ofNat 0, [(1, .ofNat 1)])), some (0, (.ofNat 0, [(2, .ofNat 1)])), some (0, (.ofNat 0, [(3, .ofNat 1)])), some (0, (.ofNat 0, [(4, .ofNat 1)]))], [], [], []), [], (.ofNat 1, []), [([(2, 0, 0)], [(0, .ofNat 0, .ofNat 59, 0), (1, .ofNat 0, .ofNat 7, 0), (2, .ofNat 0, .ofNat 2, 0), (3, .ofNat 0, .ofNat 599, 0), (4, .ofNat 0, .ofNat 1, 0), (5, .negSucc 0, .ofNat 200, 0)], [], [], [(0, (.ofNat 0, [(5, .ofNat 1)]))], [], [])])
def kt_241_0 : yCt := (([(0, 1, 0), (0, 2, 0), (0, 3, 0), (0, 4, 0), (0, 5, 0)], [(0, .negSucc 2147483647, .ofNat 2147483647, 0), (1, .negSucc 2147483647, .ofNat 2147483647, 0), (2, .negSucc 2147483647, .ofNat 2147483647, 0), (3, .negSucc 2147483647, .ofNat 2147483647, 0), (4, .negSucc 2147483647, .ofNat 2147483647, 0)], [], [some (2, (.ofNat 111, [])), some (0, (.ofNat 0, [(0, .ofNat 1)])), some (0, (.ofNat 0, [(1, .ofNat 1)])), some (0, (.ofNat 0, [(2, .ofNat 1)])), some (0, (.ofNat 0, [(3, .ofNat 1)])), some (0, (.ofNat 0, [(4, .ofNat 1)]))], [], [], []), [], (.ofNat 4, []), [([(2, 0, 0)], [(0, .negSucc 2147483647, .ofNat 2147483647, 0), (1, .negSucc 2147483647, .ofNat 2147483647, 0), (2, .negSucc 2147483647, .ofNat 2147483647, 0), (3, .negSucc 2147483647, .ofNat 2147483647, 0), (4, .negSucc 2147483647, .ofNat 2147483647, 0), (5, .negSucc 1, .ofNat 200, 0)], [], [], [(0, (.ofNat 0, [(5, .ofNat 1)]))], [], [])])
def kt_244_0 : yCt := (([(0, 1, 0), (0, 2, 0), (0, 3, 0), (0, 4, 0), (0, 5, 0), (0, 6, 0), (0, 7, 0)], [(0, .negSucc 2147483647, .ofNat 2147483647, 0), (1, .negSucc 2147483647, .ofNat 2147483647, 0), (2, .negSucc 2147483647, .ofNat 2147483647, 0), (3, .negSucc 2147483647, .ofNat 2147483647, 0), (4, .negSucc 2147483647, .ofNat 2147483647, 0), (5, .ofNat 0, .ofNat 1, 0), (6, .ofNat 0, .ofNat 1, 0)], [], [some (2, (.ofNat 111, [])), some (0, (.ofNat 0, [(0, .ofNat 1)])), some (0, (.ofNat 0, [(1, .ofNat 1)])), some (0, (.ofNat 0, [(2, .ofNat 1)])), some (0, (.ofNat 0, [(3, .ofNat 1)])), some (0, (.ofNat 0, [(4, .ofNat 1)])), some (0, (.ofNat 0, [(5, .ofNat 1)])), some (0, (.ofNat 0, [(6, .ofNat 1)]))], [], [], []), [(79, 59), (88, 0), (95, 0), (120, 0), (121, 0), (122, 0), (123, 0), (124, 0), (125, 0), (126, 0)], (.ofNat 3, []), [([(2, 0, 0)], [(0, .negSucc 2147483647, .ofNat 2147483647, 0), (1, .negSucc 2147483647, .ofNat 2147483647, 0), (2, .negSucc 2147483647, .ofNat 2147483647, 0), (3, .negSucc 2147483647, .ofNat 2147483647, 0), (4, .negSucc 2147483647, .ofNat 2147483647, 0), (5, .ofNat 0, .ofNat 1, 0), (6, .ofNat 0, .ofNat 1, 0), (7, .negSucc 0, .ofNat 199, 0)], [], [], [(0, (.ofNat 0, [(7, .ofNat 1)]))], [], [])])
def kt_245_0 : yCt := (([(0, 1, 0)], [(0, .negSucc 2147483647, .ofNat 2147483647, 0)], [], [some (2, (.ofNat 111, [])), some (0, (.ofNat 0, [(0, .ofNat 1)]))], [], [], []), [], (.ofNat 4, []), [([(2, 0, 0)], [(0, .negSucc 2147483647, .ofNat 2147483647, 0), (1, .negSucc 0, .ofNat 1, 0)], [], [], [(0, (.ofNat 0, [(1, .ofNat 1)]))], [], [])])
def kt_248_0 : yCt := (([(0, 1, 0)], [(0, .negSucc 2147483647, .ofNat 2147483647, 0)], [], [some (2, (.ofNat 111, [])), some (0, (.ofNat 0, [(0, .ofNat 1)]))], [], [], []), [(79, 71)], (.ofNat 3, []), [([(2, 0, 0)], [(0, .negSucc 2147483647, .ofNat 2147483647, 0), (1, .negSucc 0, .ofNat 19, 0)], [], [], [(0, (.ofNat 0, [(1, .ofNat 1)]))], [], [])])
def kt_250_0 : yCt := (([(0, 1, 0), (0, 2, 0), (0, 3, 0), (0, 4, 0)], [(0, .negSucc 2147483647, .ofNat 2147483647, 0), (1, .ofNat 0, .ofNat 1, 0), (2, .negSucc 2147483647, .ofNat 2147483647, 0), (3, .negSucc 2147483647, .ofNat 2147483647, 0)], [], [some (2, (.ofNat 111, [])), some (0, (.ofNat 0, [(0, .ofNat 1)])), some (0, (.ofNat 0, [(1, .ofNat 1)])), some (0, (.ofNat 0, [(2, .ofNat 1)])), some (0, (.ofNat 0, [(3, .ofNat 1)]))], [], [], []), [(131, 0), (132, 0), (133, 0), (134, 0)], (.ofNat 3, []), [([(2, 0, 0)], [(0, .negSucc 2147483647, .ofNat 2147483647, 0), (1, .ofNat 0, .ofNat 1, 0), (2, .negSucc 2147483647, .ofNat 2147483647, 0), (3, .negSucc 2147483647, .ofNat 2147483647, 0), (4, .negSucc 0, .ofNat 5, 0)], [], [], [(0, (.ofNat 0, [(4, .ofNat 1)]))], [], [])])
def kt_251_0 : yCt := (([(0, 1, 0), (0, 2, 0), (0, 3, 0)], [(0, .ofNat 0, .ofNat 19, 0), (1, .ofNat 0, .ofNat 19, 0), (2, .ofNat 0, .ofNat 63, 0)], [], [some (2, (.ofNat 111, [])), some (0, (.ofNat 0, [(0, .ofNat 1)])), some (0, (.ofNat 0, [(1, .ofNat 1)])), some (0, (.ofNat 0, [(2, .ofNat 1)]))], [], [], []), [], (.ofNat 1, []), [([(2, 0, 0)], [(0, .ofNat 0, .ofNat 19, 0), (1, .ofNat 0, .ofNat 19, 0), (2, .ofNat 0, .ofNat 63, 0), (3, .negSucc 9223372036854775807, .ofNat 9223372036854775807, 0)], [], [], [(1, (.ofNat 0, [(3, .ofNat 1)]))], [], [])])
def kt_252_0 : yCt := (([(0, 1, 0)], [(0, .negSucc 2147483647, .ofNat 2147483647, 0)], [], [some (2, (.ofNat 111, [])), some (0, (.ofNat 0, [(0, .ofNat 1)]))], [], [], []), [], (.ofNat 3, []), [([(2, 0, 0)], [(0, .negSucc 2147483647, .ofNat 2147483647, 0), (1, .negSucc 9223372036854775807, .ofNat 9223372036854775807, 0)], [], [], [(1, (.ofNat 0, [(1, .ofNat 1)]))], [], [])])
def kt_253_0 : yCt := (([(0, 1, 0), (0, 2, 0), (0, 3, 0)], [(0, .negSucc 2147483647, .ofNat 2147483647, 0), (1, .negSucc 2147483647, .ofNat 2147483647, 0), (2, .negSucc 2147483647, .ofNat 2147483647, 0)], [], [some (2, (.ofNat 111, [])), some (0, (.ofNat 0, [(0, .ofNat 1)])), some (0, (.ofNat 0, [(1, .ofNat 1)])), some (0, (.ofNat 0, [(2, .ofNat 1)]))], [], [], []), [], (.ofNat 3, []), [([(2, 0, 0)], [(0, .negSucc 2147483647, .ofNat 2147483647, 0), (1, .negSucc 2147483647, .ofNat 2147483647, 0), (2, .negSucc 2147483647, .ofNat 2147483647, 0), (3, .negSucc 9223372036854775807, .ofNat 9223372036854775807, 0)], [], [], [(1, (.ofNat 0, [(3, .ofNat 1)]))], [], [])])
def kt_256_0 : yCt := (([(0, 1, 0), (0, 2, 0), (0, 3, 0)], [(0, .negSucc 2147483647, .ofNat 2147483647, 0), (1, .negSucc 2147483647, .ofNat 2147483647, 0), (2, .negSucc 2147483647, .ofNat 2147483647, 0)], [], [some (2, (.ofNat 111, [])), some (0, (.ofNat 0, [(0, .ofNat 1)])), some (0, (.ofNat 0, [(1, .ofNat 1)])), some (0, (.ofNat 0, [(2, .ofNat 1)]))], [], [], []), [], (.ofNat 3, []), [([(2, 0, 0)], [(0, .negSucc 2147483647, .ofNat 2147483647, 0), (1, .negSucc 2147483647, .ofNat 2147483647, 0), (2, .negSucc 2147483647, .ofNat 2147483647, 0), (3, .negSucc 9223372036854775807, .ofNat 9223372036854775807, 0)], [], [], [(1, (.ofNat 0, [(3, .ofNat 1)]))], [], [])])
def kt_257_0 : yCt := (([(0, 1, 0), (0, 2, 0), (0, 3, 0), (0, 4, 0)], [(0, .negSucc 2147483647, .ofNat 2147483647, 0), (1, .negSucc 2147483647, .ofNat 2147483647, 0), (2, .negSucc 2147483647, .ofNat 2147483647, 0), (3, .negSucc 2147483647, .ofNat 2147483647, 0)], [], [some (2, (.ofNat 111, [])), some (0, (.ofNat 0, [(0, .ofNat 1)])), some (0, (.ofNat 0, [(1, .ofNat 1)])), some (0, (.ofNat 0, [(2, .ofNat 1)])), some (0, (.ofNat 0, [(3, .ofNat 1)]))], [], [], []), [(79, 76), (135, 0), (136, 0), (137, 0), (138, 0)], (.ofNat 2, []), [([(2, 0, 0)], [(0, .negSucc 2147483647, .ofNat 2147483647, 0), (1, .negSucc 2147483647, .ofNat 2147483647, 0), (2, .negSucc 2147483647, .ofNat 2147483647, 0), (3, .negSucc 2147483647, .ofNat 2147483647, 0), (4, .negSucc 0, .ofNat 23, 0)], [], [], [(0, (.ofNat 0, [(4, .ofNat 1)]))], [], [])])
def kt_258_0 : yCt := (([(0, 1, 0)], [(0, .negSucc 1, .ofNat 3, 0)], [], [some (2, (.ofNat 111, [])), some (0, (.ofNat 0, [(0, .ofNat 1)]))], [], [], []), [(139, 0)], (.ofNat 1, []), [([(2, 0, 0)], [(0, .negSucc 1, .ofNat 3, 0), (1, .negSucc 2147483647, .ofNat 2147483647, 0)], [], [], [(0, (.ofNat 0, [(1, .ofNat 1)]))], [], [])])
def kt_259_0 : yCt := (([(0, 1, 0)], [(0, .ofNat 0, .ofNat 23, 0)], [], [some (2, (.ofNat 111, [])), some (0, (.ofNat 0, [(0, .ofNat 1)]))], [], [], []), [(139, 0), (140, 0)], (.ofNat 2, []), [([(2, 0, 0)], [(0, .ofNat 0, .ofNat 23, 0), (1, .negSucc 2147483647, .ofNat 2147483647, 0)], [], [], [(0, (.ofNat 0, [(1, .ofNat 1)]))], [], [])])
def kt_260_0 : yCt := (([(0, 1, 0), (0, 2, 0)], [(0, .negSucc 2147483647, .ofNat 2147483647, 0), (1, .negSucc 2147483647, .ofNat 2147483647, 0)], [], [some (2, (.ofNat 111, [])), some (0, (.ofNat 0, [(0, .ofNat 1)])), some (0, (.ofNat 0, [(1, .ofNat 1)]))], [], [], []), [(139, 0), (140, 0)], (.ofNat 3, []), [([(2, 0, 0)], [(0, .negSucc 2147483647, .ofNat 2147483647, 0), (1, .negSucc 2147483647, .ofNat 2147483647, 0), (2, .negSucc 2147483647, .ofNat 2147483647, 0)], [], [], [(0, (.ofNat 0, [(2, .ofNat 1)]))], [], [])])
def kt_261_0 : yCt := (([(0, 1, 0)], [(0, .negSucc 2147483647, .ofNat 2147483647, 0)], [], [some (2, (.ofNat 111, [])), some (0, (.ofNat 0, [(0, .ofNat 1)]))], [], [], []), [(139, 0)], (.ofNat 2, []), [([(2, 0, 0)], [(0, .negSucc 2147483647, .ofNat 2147483647, 0), (1, .negSucc 2147483647, .ofNat 2147483647, 0)], [], [], [(0, (.ofNat 0, [(1, .ofNat 1)]))], [], [])])
def kt_263_0 : yCt := (([(0, 1, 0), (0, 2, 0)], [(0, .negSucc 2147483647, .ofNat 2147483647, 0), (1, .negSucc 2147483647, .ofNat 2147483647, 0)], [], [some (2, (.ofNat 111, [])), some (0, (.ofNat 0, [(0, .ofNat 1)])), some (0, (.ofNat 0, [(1, .ofNat 1)]))], [], [], []), [(139, 0)], (.ofNat 3, []), [([(2, 0, 0)], [(0, .negSucc 2147483647, .ofNat 2147483647, 0), (1, .negSucc 2147483647, .ofNat 2147483647, 0), (2, .negSucc 0, .ofNat 89991, 0)], [], [], [(0, (.ofNat 0, [(2, .ofNat 1)]))], [], [])])
def kt_264_0 : yCt := (([(0, 1, 0), (0, 2, 0)], [(0, .negSucc 2147483647, .ofNat 2147483647, 0), (1, .negSucc 2147483647, .ofNat 2147483647, 0)], [], [some (2, (.ofNat 111, [])), some (0, (.ofNat 0, [(0, .ofNat 1)])), some (0, (.ofNat 0, [(1, .ofNat 1)]))], [], [], []), [(139, 0)], (.ofNat 2, []), [([(2, 0, 0)], [(0, .negSucc 2147483647, .ofNat 2147483647, 0), (1, .negSucc 2147483647, .ofNat 2147483647, 0), (2, .negSucc 1, .ofNat 599, 0)], [], [], [(0, (.ofNat 0, [(2, .ofNat 1)]))], [], [])])
def kt_265_0 : yCt := (([(0, 1, 0), (0, 2, 0), (0, 3, 0), (0, 4, 0)], [(0, .negSucc 2147483647, .ofNat 2147483647, 0), (1, .negSucc 2147483647, .ofNat 2147483647, 0), (2, .negSucc 2147483647, .ofNat 2147483647, 0), (3, .negSucc 2147483647, .ofNat 2147483647, 0)], [], [some (2, (.ofNat 111, [])), some (0, (.ofNat 0, [(0, .ofNat 1)])), some (0, (.ofNat 0, [(1, .ofNat 1)])), some (0, (.ofNat 0, [(2, .ofNat 1)])), some (0, (.ofNat 0, [(3, .ofNat 1)]))], [], [], []), [(79, 83), (141, 0), (142, 0), (143, 0), (144, 0)], (.ofNat 3, []), [([(2, 0, 0)], [(0, .negSucc 2147483647, .ofNat 2147483647, 0), (1, .negSucc 2147483647, .ofNat 2147483647, 0), (2, .negSucc 2147483647, .ofNat 2147483647, 0), (3, .negSucc 2147483647, .ofNat 2147483647, 0), (4, .negSucc 0, .ofNat 19, 0)], [], [], [(0, (.ofNat 0, [(4, .ofNat 1)]))], [], [])])
def kt_269_0 : yCt := (([(0, 1, 0)], [(0, .negSucc 2147483647, .ofNat 2147483647, 0)], [], [some (2, (.ofNat 111, [])), some (0, (.ofNat 0, [(0, .ofNat 1)]))], [], [], []), [(146, 0)], (.ofNat 4, []), [([(2, 0, 0)], [(0, .negSucc 2147483647, .ofNat 2147483647, 0), (1, .negSucc 2147483647, .ofNat 2147483647, 0)], [], [], [(0, (.ofNat 0, [(1, .ofNat 1)]))], [], [])])
def kt_270_0 : yCt := (([(0, 1, 0), (0, 2, 0)], [(0, .negSucc 2147483647, .ofNat 2147483647, 0), (1, .negSucc 2147483647, .ofNat 2147483647, 0)], [], [some (2, (.ofNat 111, [])), some (0, (.ofNat 0, [(0, .ofNat 1)])), some (0, (.ofNat 0, [(1, .ofNat 1)]))], [], [], []), [], (.ofNat 3, []), [([(2, 0, 0)], [(0, .negSucc 2147483647, .ofNat 2147483647, 0), (1, .negSucc 2147483647, .ofNat 2147483647, 0), (2, .negSucc 0, .ofNat 1, 0)], [], [], [(0, (.ofNat 0, [(2, .ofNat 1)]))], [], [])])
def kt_271_0 : yCt := (([(0, 1, 0), (0, 2, 0)], [(0, .negSucc 2147483647, .ofNat 2147483647, 0), (1, .negSucc 2147483647, .ofNat 2147483647, 0)], [], [some (2, (.ofNat 111, [])), some (0, (.ofNat 0, [(0, .ofNat 1)])), some (0, (.ofNat 0, [(1, .ofNat 1)]))], [], [], []), [(145, 0)], (.ofNat 4, []), [([(2, 0, 0)], [(0, .negSucc 2147483647, .ofNat 2147483647, 0), (1, .negSucc 2147483647, .ofNat 2147483647, 0), (2, .ofNat 0, .ofNat 1, 0)], [], [], [(0, (.ofNat 0, [(2, .ofNat 1)]))], [], [])])
def kt_272_0 : yCt := (([(0, 1, 0), (0, 2, 0)], [(0, .negSucc 2147483647, .ofNat 2147483647, 0), (1, .negSucc 2147483647, .ofNat 2147483647, 0)], [], [some (2, (.ofNat 111, [])), some (0, (.ofNat 0, [(0, .ofNat 1)])), some (0, (.ofNat 0, [(1, .ofNat 1)]))], [], [], []), [], (.ofNat 4, []), [([(2, 0, 0)], [(0, .negSucc 2147483647, .ofNat 2147483647, 0), (1, .negSucc 2147483647, .ofNat 2147483647, 0), (2, .negSucc 2147483647, .ofNat 2147483647, 0)], [], [], [(0, (.ofNat 0, [(2, .ofNat 1)]))], [], [])])
def kt_273_0 : yCt := (([(0, 1, 0), (0, 2, 0)], [(0, .negSucc 2147483647, .ofNat 2147483647, 0), (1, .ofNat 0, .ofNat 1, 0)], [], [some (2, (.ofNat 111, [])), some (0, (.ofNat 0, [(0, .ofNat 1)])), some (0, (.ofNat 0, [(1, .ofNat 1)]))], [], [], []), [(87, 0)], (.ofNat 3, []), [([(2, 0, 0)], [(0, .negSucc 2147483647, .ofNat 2147483647, 0), (1, .ofNat 0, .ofNat 1, 0), (2, .ofNat 0, .ofNat 1, 0)], [], [], [(0, (.ofNat 0, [(2, .ofNat 1)]))], [], [])])
def kt_275_0 : yCt := (([(0, 1, 0), (0, 2, 0)], [(0, .negSucc 2147483647, .ofNat 2147483647, 0), (1, .negSucc 2147483647, .ofNat 2147483647, 0)], [], [some (2, (.ofNat 111, [])), some (0, (.ofNat 0, [(0, .ofNat 1)])), some (0, (.ofNat 0, [(1, .ofNat 1)]))], [], [], []), [(79, 90), (147, 0), (148, 0)], (.ofNat 2, []), [([(2, 0, 0)], [(0, .negSucc 2147483647, .ofNat 2147483647, 0), (1, .negSucc 2147483647, .ofNat 2147483647, 0), (2, .negSucc 0, .ofNat 8, 0)], [], [], [(0, (.ofNat 0, [(2, .ofNat 1)]))], [], [])])
def kt_276_0 : yCt := (([(0, 1, 0), (0, 2, 0), (0, 3, 0)], [(0, .negSucc 2147483647, .ofNat 2147483647, 0), (1, .negSucc 2147483647, .ofNat 2147483647, 0), (2, .negSucc 2147483647, .ofNat 2147483647, 0)], [], [some (2, (.ofNat 111, [])), some (0, (.ofNat 0, [(0, .ofNat 1)])), some (0, (.ofNat 0, [(1, .ofNat 1)])), some (0, (.ofNat 0, [(2, .ofNat 1)]))], [], [], []), [(149, 0)], (.ofNat 2, []), [([(2, 0, 0)], [(0, .negSucc 2147483647, .ofNat 2147483647, 0), (1, .negSucc 2147483647, .ofNat 2147483647, 0), (2, .negSucc 2147483647, .ofNat 2147483647, 0), (3, .negSucc 0, .ofNat 999, 0)], [], [], [(0, (.ofNat 0, [(3, .ofNat 1)]))], [], [])])
def kt_277_0 : yCt := (([(0, 1, 0)], [(0, .negSucc 2147483647, .ofNat 2147483647, 0)], [], [some (2, (.ofNat 111, [])), some (0, (.ofNat 0, [(0, .ofNat 1)]))], [], [], []), [(79, 91), (79, 92)], (.ofNat 2, []), [([(2, 0, 0)], [(0, .negSucc 2147483647, .ofNat 2147483647, 0), (1, .negSucc 0, .ofNat 2147483647, 0)], [], [], [(0, (.ofNat 0, [(1, .ofNat 1)]))], [], [])])
def kt_278_0 : yCt := (([(0, 1, 0)], [(0, .negSucc 2147483647, .ofNat 2147483647, 0)], [], [some (2, (.ofNat 111, [])), some (0, (.ofNat 0, [(0, .ofNat 1)]))], [], [], []), [], (.ofNat 1, []), [([(2, 0, 0)], [(0, .negSucc 2147483647, .ofNat 2147483647, 0), (1, .negSucc 2147483647, .ofNat 2147483647, 0)], [], [], [(0, (.ofNat 0, [(1, .ofNat 1)]))], [], [])])
def kt_279_0 : yCt := (([(0, 1, 0)], [(0, .negSucc 2147483647, .ofNat 2147483647, 0)], [], [some (2, (.ofNat 111, [])), some (0, (.ofNat 0, [(0, .ofNat 1)]))], [], [], []), [], (.ofNat 1, []), [([(2, 0, 0)], [(0, .negSucc 2147483647, .ofNat 2147483647, 0), (1, .negSucc 0, .ofNat 599, 0)], [], [], [(0, (.ofNat 0, [(1, .ofNat 1)]))], [], [])])
def kt_280_0 : yCt := (([], [], [], [some (2, (.ofNat 52, [])), some (1, (.ofNat 0, [])), none], [], [], []), [(28, 0)], (.ofNat 1, []), [([], [], [], [], [], [], [])])
def kt_281_0 : yCt := (([], [], [], [some (2, (.ofNat 72, [])), some (0, (.ofNat 0, []))], [], [], []), [(48, 0)], (.ofNat 1, []), [([], [], [], [], [], [], [])])
def kt_281_1 : yCt := (([(0, 0, 0)], [(0, .ofNat 107, .ofNat 109, 75)], [], [some (2, (.ofNat 0, [(0, .ofNat 1)])), some (0, (.ofNat 0, []))], [], [], []), [(75, 0)], (.ofNat 1, []), [([], [(0, .ofNat 107, .ofNat 109, 75)], [], [], [], [], [])])
def kt_281_2 : yCt := (([], [], [], [some (2, (.ofNat 88, [])), some (0, (.negSucc 0, []))], [], [], []), [(63, 0)], (.ofNat 1, []), [([], [], [], [], [], [], [])])
def kt_281_3 : yCt := (([], [], [], [some (2, (.ofNat 73, [])), some (0, (.ofNat 0, []))], [], [], []), [(49, 0)], (.ofNat 1, []), [([], [], [], [], [], [], [])])
def kt_281_4 : yCt := (([], [], [], [some (2, (.ofNat 74, [])), some (0, (.ofNat 0, []))], [], [], []), [(50, 0)], (.ofNat 1, []), [([], [], [], [], [], [], [])])
def kt_281_5 : yCt := (([], [], [], [some (2, (.ofNat 110, [])), some (0, (.ofNat 201, []))], [], [], []), [(78, 0)], (.ofNat 1, []), [([], [], [], [], [], [], [])])
def kt_281_6 : yCt := (([], [], [], [some (2, (.ofNat 75, [])), some (0, (.ofNat 0, []))], [], [], []), [(51, 0)], (.ofNat 1, []), [([], [], [], [], [], [], [])])
def zCT : List (List yCt) := [[], [kt_1_0], [], [], [], [], [], [], [], [], [kt_10_0], [kt_11_0], [kt_12_0], [kt_13_0], [], [], [], [], [kt_18_0], [], [kt_20_0], [], [kt_22_0], [kt_23_0], [], [], [], [], [], [], [], [], [kt_32_0], [], [kt_34_0], [kt_35_0], [], [], [], [], [], [], [kt_42_0], [], [], [], [], [], [kt_48_0], [], [kt_50_0], [kt_51_0], [], [kt_53_0], [], [], [], [], [], [kt_59_0], [kt_60_0], [kt_61_0], [], [], [kt_64_0], [kt_65_0], [kt_66_0], [], [kt_68_0], [], [], [], [], [kt_73_0], [], [kt_75_0], [], [], [kt_78_0], [kt_79_0], [kt_80_0], [kt_81_0], [], [kt_83_0], [kt_84_0], [kt_85_0], [], [], [], [kt_89_0], [kt_90_0], [kt_91_0], [], [], [], [], [], [], [kt_98_0], [kt_99_0], [kt_100_0], [], [], [], [], [], [kt_106_0], [kt_107_0], [kt_108_0], [], [kt_110_0], [kt_111_0], [kt_112_0], [kt_113_0], [kt_114_0], [kt_115_0], [kt_116_0], [kt_117_0], [kt_118_0], [kt_119_0], [kt_120_0], [kt_121_0], [kt_122_0], [kt_123_0], [kt_124_0], [kt_125_0], [kt_126_0], [kt_127_0], [kt_128_0], [kt_129_0], [kt_130_0], [kt_131_0], [kt_132_0], [kt_133_0], [kt_134_0], [kt_135_0], [kt_136_0], [kt_137_0], [kt_138_0], [kt_139_0], [kt_140_0], [kt_141_0], [kt_142_0], [kt_143_0], [kt_144_0], [kt_145_0], [kt_146_0], [kt_147_0], [kt_148_0], [kt_149_0], [kt_150_0], [kt_151_0], [kt_152_0], [kt_153_0], [kt_154_0], [kt_155_0], [kt_156_0], [kt_157_0], [], [], [], [], [], [], [], [], [], [], [kt_168_0], [kt_169_0], [], [], [], [], [kt_174_0], [], [], [], [], [kt_179_0], [kt_180_0], [kt_181_0], [kt_182_0], [kt_183_0], [kt_184_0], [kt_185_0], [kt_186_0], [kt_187_0], [kt_188_0], [kt_189_0], [], [kt_191_0], [kt_192_0], [kt_193_0], [], [kt_195_0], [kt_196_0], [], [kt_198_0], [], [], [], [], [], [], [], [], [], [], [], [], [], [], [], [], [], [], [], [], [], [], [], [], [], [], [], [kt_226_0], [kt_227_0], [], [], [], [], [], [], [], [], [], [], [kt_238_0], [kt_239_0], [kt_240_0], [kt_241_0], [], [], [kt_244_0], [kt_245_0], [], [], [kt_248_0], [], [kt_250_0], [kt_251_0], [kt_252_0], [kt_253_0], [], [], [kt_256_0], [kt_257_0], [kt_258_0], [kt_259_0], [kt_260_0], [kt_261_0], [], [kt_263_0], [kt_264_0], [kt_265_0], [], [], [], [kt_269_0], [kt_270_0], [kt_271_0], [kt_272_0], [kt_273_0], [], [kt_275_0], [kt_276_0], [kt_277_0], [kt_278_0], [kt_279_0], [kt_280_0], [kt_281_0, kt_281_1, kt_281_2, kt_281_3, kt_281_4, kt_281_5, kt_281_6]]
end
section
def ku_1_0 : List yCu := [(4, ([(0, 2, 0), (0, 3, 0)], [(0, .ofNat 0, .ofNat 10000000, 150), (1, .ofNat 0, .ofNat 599, 0), (2, .negSucc 2147483647, .ofNat 2147483647, 0), (3, .ofNat 0, .ofNat 12, 0)], [], [some (2, (.ofNat 0, [(0, .ofNat 1)])), some (0, (.ofNat 0, [(1, .ofNat 1)])), some (0, (.ofNat 0, [(2, .ofNat 1)])), some (0, (.ofNat 0, [(3, .ofNat 1)]))], [], [], []), (.ofNat 12, [(3, .negSucc 0)]), (.ofNat 0, []), (.ofNat 0, []))]
theorem kk_1_0 : ychk zTt zProg zTG zTTy zTX zGd zXf zCT 4000 1 kt_1_0 ku_1_0 = true := by decide +kernel
def ku_169_0 : List yCu := [(2, ([(0, 1, 0)], [(0, .ofNat 107, .ofNat 109, 75), (1, .ofNat 1, .ofNat 600, 0)], [], [some (2, (.ofNat 0, [(0, .ofNat 1)])), some (0, (.ofNat 0, [(1, .ofNat 1)]))], [], [], []), (.ofNat 600, [(1, .negSucc 0)]), (.ofNat 0, []), (.ofNat 0, []))]
theorem kk_169_0 : ychk zTt zProg zTG zTTy zTX zGd zXf zCT 4000 169 kt_169_0 ku_169_0 = true := by decide +kernel
def ku_281_1 : List yCu := [(5, ([(0, 2, 0)], [(0, .ofNat 107, .ofNat 109, 75), (1, .ofNat 0, .ofNat 600, 0)], [], [some (2, (.ofNat 0, [(0, .ofNat 1)])), some (0, (.ofNat 0, [])), some (0, (.ofNat 0, [(1, .ofNat 1)])), some (0, (.ofNat 600, []))], [], [], []), (.ofNat 600, [(1, .negSucc 0)]), (.ofNat 0, []), (.ofNat 0, []))]
theorem kk_281_1 : ychk zTt zProg zTG zTTy zTX zGd zXf zCT 4000 281 kt_281_1 ku_281_1 = true := by decide +kernel
def ku_10_0 : List yCu := [(13, ([(0, 4, 0)], [(0, .ofNat 0, .ofNat 7, 0), (1, .ofNat 0, .ofNat 200, 0)], [], [some (2, (.ofNat 63, [])), some (0, (.ofNat 0, [(0, .ofNat 1)])), some (2, (.ofNat 108, [])), some (2, (.ofNat 109, [])), some (0, (.ofNat 0, [(1, .ofNat 1)]))], [], [], []), (.ofNat 200, [(1, .negSucc 0)]), (.ofNat 0, []), (.ofNat 0, []))]
theorem kk_10_0 : ychk zTt zProg zTG zTTy zTX zGd zXf zCT 4000 10 kt_10_0 ku_10_0 = true := by decide +kernel
def ku_281_0 : List yCu := [(5, ([(0, 2, 0)], [(0, .ofNat 0, .ofNat 9, 0)], [], [some (2, (.ofNat 72, [])), some (0, (.ofNat 0, [])), some (0, (.ofNat 0, [(0, .ofNat 1)])), some (0, (.ofNat 9, []))], [], [], []), (.ofNat 9, [(0, .negSucc 0)]), (.ofNat 0, []), (.ofNat 0, []))]
theorem kk_281_0 : ychk zTt zProg zTG zTTy zTX zGd zXf zCT 4000 281 kt_281_0 ku_281_0 = true := by decide +kernel
def ku_281_3 : List yCu := [(5, ([(0, 2, 0)], [(0, .ofNat 0, .ofNat 9, 0)], [], [some (2, (.ofNat 73, [])), some (0, (.ofNat 0, [])), some (0, (.ofNat 0, [(0, .ofNat 1)])), some (0, (.ofNat 9, []))], [], [], []), (.ofNat 9, [(0, .negSucc 0)]), (.ofNat 0, []), (.ofNat 0, []))]
theorem kk_281_3 : ychk zTt zProg zTG zTTy zTX zGd zXf zCT 4000 281 kt_281_3 ku_281_3 = true := by decide +kernel
def ku_281_4 : List yCu := [(5, ([(0, 2, 0)], [(0, .ofNat 0, .ofNat 9, 0)], [], [some (2, (.ofNat 74, [])), some (0, (.ofNat 0, [])), some (0, (.ofNat 0, [(0, .ofNat 1)])), some (0, (.ofNat 9, []))], [], [], []), (.ofNat 9, [(0, .negSucc 0)]), (.ofNat 0, []), (.ofNat 0, []))]
theorem kk_281_4 : ychk zTt zProg zTG zTTy zTX zGd zXf zCT 4000 281 kt_281_4 ku_281_4 = true := by decide +kernel
def ku_281_6 : List yCu := [(5, ([(0, 2, 0)], [(0, .ofNat 0, .ofNat 9, 0)], [], [some (2, (.ofNat 75, [])), some (0, (.ofNat 0, [])), some (0, (.ofNat 0, [(0, .ofNat 1)])), some (0, (.ofNat 9, []))], [], [], []), (.ofNat 9, [(0, .negSucc 0)]), (.ofNat 0, []), (.ofNat 0, []))]
theorem kk_281_6 : ychk zTt zProg zTG zTTy zTX zGd zXf zCT 4000 281 kt_281_6 ku_281_6 = true := by decide +kernel
def ku_12_0 : List yCu := [(34, ([(0, 3, 0)], [(0, .ofNat 0, .ofNat 7, 0), (1, .ofNat 0, .ofNat 599, 0), (2, .ofNat 0, .ofNat 200, 0)], [], [some (2, (.ofNat 63, [])), some (0, (.ofNat 0, [(0, .ofNat 1)])), some (0, (.ofNat 0, [(1, .ofNat 1)])), some (0, (.ofNat 0, [(2, .ofNat 1)])), none, none, none, none], [], [(63, 9, (2, (.ofNat 72, []))), (63, 10, (2, (.ofNat 73, []))), (63, 11, (2, (.ofNat 74, []))), (63, 12, (2, (.ofNat 75, [])))], []), (.ofNat 200, [(2, .negSucc 0)]), (.ofNat 0, []), (.ofNat 0, []))]
theorem kk_12_0 : ychk zTt zProg zTG zTTy zTX zGd zXf zCT 4000 12 kt_12_0 ku_12_0 = true := by decide +kernel
def ku_13_0 : List yCu := [(9, ([(0, 4, 0), (0, 6, 0), (0, 8, 0)], [(0, .negSucc 9223372036854775807, .ofNat 9223372036854775807, 0), (1, .negSucc 9223372036854775807, .ofNat 9223372036854775807, 0), (2, .negSucc 9223372036854775807, .ofNat 9223372036854775807, 0), (3, .negSucc 9223372036854775807, .ofNat 9223372036854775807, 0), (4, .ofNat 0, .ofNat 200, 0)], [], [some (1, (.ofNat 0, [(0, .ofNat 1)])), none, some (1, (.ofNat 0, [(1, .ofNat 1)])), none, some (1, (.ofNat 0, [(2, .ofNat 1)])), none, some (1, (.ofNat 0, [(3, .ofNat 1)])), none, some (0, (.ofNat 0, [(4, .ofNat 1)])), none, none], [], [], []), (.ofNat 200, [(4, .negSucc 0)]), (.ofNat 0, []), (.ofNat 0, []))]
theorem kk_13_0 : ychk zTt zProg zTG zTTy zTX zGd zXf zCT 4000 13 kt_13_0 ku_13_0 = true := by decide +kernel
def ku_11_0 : List yCu := [(21, ([(0, 4, 0), (0, 6, 0), (0, 8, 0), (0, 10, 0), (0, 12, 0)], [(0, .ofNat 0, .ofNat 7, 0), (1, .ofNat 0, .ofNat 599, 0), (2, .ofNat 0, .ofNat 3, 0), (3, .negSucc 9223372036854775807, .ofNat 9223372036854775807, 0), (4, .negSucc 9223372036854775807, .ofNat 9223372036854775807, 0), (5, .negSucc 9223372036854775807, .ofNat 9223372036854775807, 0), (6, .negSucc 9223372036854775807, .ofNat 9223372036854775807, 0), (7, .ofNat 0, .ofNat 9, 0)], [], [some (2, (.ofNat 63, [])), some (0, (.ofNat 0, [(0, .ofNat 1)])), some (0, (.ofNat 0, [(1, .ofNat 1)])), some (0, (.ofNat 0, [(2, .ofNat 1)])), some (1, (.ofNat 0, [(3, .ofNat 1)])), none, some (1, (.ofNat 0, [(4, .ofNat 1)])), none, some (1, (.ofNat 0, [(5, .ofNat 1)])), none, some (1, (.ofNat 0, [(6, .ofNat 1)])), none, some (0, (.ofNat 0, [(7, .ofNat 1)])), none, none, none, none], [], [], []), (.ofNat 9, [(7, .negSucc 0)]), (.ofNat 0, []), (.ofNat 0, []))]
theorem kk_11_0 : ychk zTt zProg zTG zTTy zTX zGd zXf zCT 4000 11 kt_11_0 ku_11_0 = true := by decide +kernel
def ku_18_0 : List yCu := [(5, ([(0, 2, 0), (0, 4, 0)], [(0, .ofNat 0, .ofNat 3, 0), (1, .negSucc 9223372036854775807, .ofNat 9223372036854775807, 0), (2, .ofNat 0, .ofNat 60, 0)], [], [some (2, (.ofNat 36, [])), some (0, (.ofNat 0, [(0, .ofNat 1)])), some (1, (.ofNat 0, [(1, .ofNat 1)])), none, some (0, (.ofNat 0, [(2, .ofNat 1)]))], [], [], []), (.ofNat 60, [(2, .negSucc 0)]), (.ofNat 0, []), (.ofNat 0, []))]
theorem kk_18_0 : ychk zTt zProg zTG zTTy zTX zGd zXf zCT 4000 18 kt_18_0 ku_18_0 = true := by decide +kernel
def ku_22_0 : List yCu := [(8, ([(0, 4, 0), (1, 36, 9)], [(0, .ofNat 0, .ofNat 299, 0), (1, .ofNat 0, .ofNat 599, 0), (2, .ofNat 0, .ofNat 599, 0), (3, .negSucc 0, .ofNat 399, 0), (4, .ofNat 0, .ofNat 400, 0)], [], [some (2, (.ofNat 36, [])), some (0, (.ofNat 0, [(0, .ofNat 1)])), some (0, (.ofNat 0, [(1, .ofNat 1)])), some (0, (.ofNat 0, [(2, .ofNat 1)])), some (0, (.ofNat 0, [(3, .ofNat 1)]))], [], [(36, 9, (0, (.ofNat 0, [(4, .ofNat 1)])))], []), (.ofNat 1, [(3, .ofNat 1)]), (.ofNat 0, []), (.ofNat 0, []))]
theorem kk_22_0 : ychk zTt zProg zTG zTTy zTX zGd zXf zCT 4000 22 kt_22_0 ku_22_0 = true := by decide +kernel
def ku_23_0 : List yCu := [(7, ([(0, 3, 0)], [(0, .ofNat 0, .ofNat 7, 0), (1, .ofNat 0, .ofNat 300, 0)], [], [some (2, (.ofNat 36, [])), some (0, (.ofNat 0, [(0, .ofNat 1)])), some (2, (.ofNat 107, [])), some (0, (.ofNat 0, [(1, .ofNat 1)])), none], [], [], []), (.ofNat 300, [(1, .negSucc 0)]), (.ofNat 0, []), (.ofNat 0, []))]
theorem kk_23_0 : ychk zTt zProg zTG zTTy zTX zGd zXf zCT 4000 23 kt_23_0 ku_23_0 = true := by decide +kernel
def ku_32_0 : List yCu := [(5, ([(0, 3, 0), (0, 4, 0)], [(0, .ofNat 0, .ofNat 7, 0), (1, .ofNat 0, .ofNat 599, 0), (2, .negSucc 2147483647, .ofNat 2147483647, 0), (3, .ofNat 0, .ofNat 12, 0)], [], [some (2, (.ofNat 1, [])), some (0, (.ofNat 0, [(0, .ofNat 1)])), some (0, (.ofNat 0, [(1, .ofNat 1)])), some (0, (.ofNat 0, [(2, .ofNat 1)])), some (0, (.ofNat 0, [(3, .ofNat 1)]))], [], [], []), (.ofNat 12, [(3, .negSucc 0)]), (.ofNat 0, []), (.ofNat 0, []))]
theorem kk_32_0 : ychk zTt zProg zTG zTTy zTX zGd zXf zCT 4000 32 kt_32_0 ku_32_0 = true := by decide +kernel
def ku_34_0 : List yCu := [(13, ([(0, 5, 0), (0, 6, 0)], [(0, .ofNat 0, .ofNat 7, 0), (1, .negSucc 2147483647, .ofNat 2147483647, 0), (2, .ofNat 0, .ofNat 2, 0), (3, .ofNat 0, .ofNat 200, 0), (4, .negSucc 2147483647, .ofNat 2147483647, 0), (5, .ofNat 0, .ofNat 12, 0)], [], [some (2, (.ofNat 1, [])), some (0, (.ofNat 0, [(0, .ofNat 1)])), some (0, (.ofNat 0, [(1, .ofNat 1)])), some (0, (.ofNat 0, [(2, .ofNat 1)])), some (0, (.ofNat 0, [(3, .ofNat 1)])), some (0, (.ofNat 0, [(4, .ofNat 1)])), some (0, (.ofNat 0, [(5, .ofNat 1)]))], [], [(1, 2, (2, (.ofNat 4, [])))], []), (.ofNat 12, [(5, .negSucc 0)]), (.ofNat 0, []), (.ofNat 0, []))]
theorem kk_34_0 : ychk zTt zProg zTG zTTy zTX zGd zXf zCT 4000 34 kt_34_0 ku_34_0 = true := by decide +kernel
def ku_35_0 : List yCu := [(6, ([(0, 5, 0), (0, 6, 0)], [(0, .ofNat 0, .ofNat 7, 0), (1, .negSucc 2147483647, .ofNat 2147483647, 0), (2, .ofNat 0, .ofNat 2, 0), (3, .ofNat 0, .ofNat 200, 0), (4, .negSucc 0, .ofNat 9999, 0), (5, .ofNat 0, .ofNat 12, 0)], [], [some (2, (.ofNat 1, [])), some (0, (.ofNat 0, [(0, .ofNat 1)])), some (0, (.ofNat 0, [(1, .ofNat 1)])), some (0, (.ofNat 0, [(2, .ofNat 1)])), some (0, (.ofNat 0, [(3, .ofNat 1)])), some (0, (.ofNat 0, [(4, .ofNat 1)])), some (0, (.ofNat 0, [(5, .ofNat 1)])), none], [], [], []), (.ofNat 12, [(5, .negSucc 0)]), (.ofNat 0, []), (.ofNat 0, []))]
theorem kk_35_0 : ychk zTt zProg zTG zTTy zTX zGd zXf zCT 4000 35 kt_35_0 ku_35_0 = true := by decide +kernel
def ku_42_0 : List yCu := [(6, ([(0, 4, 0), (0, 6, 0)], [(0, .ofNat 0, .ofNat 19, 0), (1, .ofNat 0, .ofNat 19, 0), (2, .ofNat 0, .ofNat 63, 0), (3, .negSucc 9223372036854775807, .ofNat 9223372036854775807, 0), (4, .ofNat 0, .ofNat 6, 0)], [], [some (2, (.ofNat 76, [])), some (0, (.ofNat 0, [(0, .ofNat 1)])), some (0, (.ofNat 0, [(1, .ofNat 1)])), some (0, (.ofNat 0, [(2, .ofNat 1)])), some (1, (.ofNat 0, [(3, .ofNat 1)])), none, some (0, (.ofNat 0, [(4, .ofNat 1)])), none, none, none, none], [], [], []), (.ofNat 6, [(4, .negSucc 0)]), (.ofNat 0, []), (.ofNat 0, []))]
theorem kk_42_0 : ychk zTt zProg zTG zTTy zTX zGd zXf zCT 4000 42 kt_42_0 ku_42_0 = true := by decide +kernel
def ku_48_0 : List yCu := [(5, ([(0, 3, 0), (0, 4, 0)], [(0, .ofNat 0, .ofNat 23, 0), (1, .ofNat 87, .ofNat 88, 63), (2, .ofNat 0, .ofNat 2147483647, 0), (3, .ofNat 0, .ofNat 24, 0)], [], [some (2, (.ofNat 81, [])), some (0, (.ofNat 0, [(0, .ofNat 1)])), some (2, (.ofNat 0, [(1, .ofNat 1)])), some (0, (.ofNat 0, [(2, .ofNat 1)])), some (0, (.ofNat 0, [(3, .ofNat 1)]))], [], [], []), (.ofNat 24, [(3, .negSucc 0)]), (.ofNat 0, []), (.ofNat 0, []))]
theorem kk_48_0 : ychk zTt zProg zTG zTTy zTX zGd zXf zCT 4000 48 kt_48_0 ku_48_0 = true := by decide +kernel
def ku_50_0 : List yCu := [(2, ([(0, 2, 0)], [(0, .ofNat 0, .ofNat 3, 0), (1, .ofNat 0, .ofNat 24, 0)], [], [some (2, (.ofNat 81, [])), some (0, (.ofNat 0, [(0, .ofNat 1)])), some (0, (.ofNat 0, [(1, .ofNat 1)]))], [], [], []), (.ofNat 24, [(1, .negSucc 0)]), (.ofNat 0, []), (.ofNat 0, []))]
theorem kk_50_0 : ychk zTt zProg zTG zTTy zTX zGd zXf zCT 4000 50 kt_50_0 ku_50_0 = true := by decide +kernel
def ku_281_2 : List yCu := [(5, ([(0, 2, 0)], [(0, .ofNat 0, .ofNat 24, 0)], [], [some (2, (.ofNat 88, [])), some (0, (.negSucc 0, [])), some (0, (.ofNat 0, [(0, .ofNat 1)])), some (0, (.ofNat 24, []))], [], [], []), (.ofNat 24, [(0, .negSucc 0)]), (.ofNat 0, []), (.ofNat 0, []))]
theorem kk_281_2 : ychk zTt zProg zTG zTTy zTX zGd zXf zCT 4000 281 kt_281_2 ku_281_2 = true := by decide +kernel
def ku_51_0 : List yCu := [(33, ([(0, 2, 0), (0, 4, 0), (1, 81, 7)], [(0, .ofNat 0, .ofNat 23, 0), (1, .negSucc 0, .ofNat 23, 0), (2, .negSucc 0, .ofNat 23, 0), (3, .ofNat 0, .ofNat 24, 0)], [], [some (2, (.ofNat 81, [])), some (0, (.ofNat 0, [(0, .ofNat 1)])), some (0, (.ofNat 0, [(1, .ofNat 1)])), some (2, (.ofNat 88, [])), some (0, (.ofNat 0, [(2, .ofNat 1)])), none, none], [], [(81, 6, (2, (.ofNat 88, []))), (81, 7, (0, (.ofNat 0, [(3, .ofNat 1)])))], []), (.ofNat 51, [(2, .ofNat 26)]), (.ofNat 0, []), (.ofNat 0, [])), (56, ([(0, 2, 0), (0, 4, 0), (0, 5, 0), (0, 6, 0), (1, 81, 7)], [(0, .ofNat 0, .ofNat 22, 0), (1, .negSucc 0, .ofNat 23, 0), (2, .ofNat 1, .ofNat 23, 0), (3, .negSucc 2147483647, .ofNat 2147483647, 0), (4, .ofNat 0, .ofNat 24, 0), (5, .ofNat 0, .ofNat 24, 0)], [(.ofNat 1, [(0, .ofNat 1), (2, .negSucc 0)])], [some (2, (.ofNat 81, [])), some (0, (.ofNat 0, [(0, .ofNat 1)])), some (0, (.ofNat 0, [(1, .ofNat 1)])), some (2, (.ofNat 88, [])), some (0, (.ofNat 0, [(2, .ofNat 1)])), some (0, (.ofNat 0, [(3, .ofNat 1)])), some (0, (.ofNat 0, [(4, .ofNat 1)]))], [], [(81, 0, (2, (.ofNat 82, []))), (81, 6, (2, (.ofNat 88, []))), (81, 7, (0, (.ofNat 0, [(5, .ofNat 1)])))], []), (.ofNat 50, [(2, .ofNat 26), (4, .negSucc 0)]), (.ofNat 0, []), (.ofNat 0, []))]
theorem kk_51_0 : ychk zTt zProg zTG zTTy zTX zGd zXf zCT 4000 51 kt_51_0 ku_51_0 = true := by decide +kernel
def ku_53_0 : List yCu := [(4, ([(0, 3, 0)], [(0, .ofNat 0, .ofNat 23, 0), (1, .ofNat 0, .ofNat 2147483647, 0), (2, .negSucc 0, .ofNat 599, 0)], [], [some (2, (.ofNat 81, [])), some (0, (.ofNat 0, [(0, .ofNat 1)])), some (0, (.ofNat 0, [(1, .ofNat 1)])), some (0, (.ofNat 0, [(2, .ofNat 1)]))], [], [], []), (.ofNat 1, [(2, .ofNat 1)]), (.ofNat 0, []), (.ofNat 0, []))]
theorem kk_53_0 : ychk zTt zProg zTG zTTy zTX zGd zXf zCT 4000 53 kt_53_0 ku_53_0 = true := by decide +kernel
def ku_59_0 : List yCu := [(5, ([(0, 3, 0), (0, 4, 0)], [(0, .ofNat 0, .ofNat 19, 0), (1, .negSucc 2147483647, .ofNat 2147483647, 0), (2, .ofNat 0, .ofNat 300, 0)], [], [some (2, (.ofNat 89, [])), some (0, (.ofNat 0, [(0, .ofNat 1)])), some (2, (.ofNat 36, [])), some (0, (.ofNat 0, [(1, .ofNat 1)])), some (0, (.ofNat 0, [(2, .ofNat 1)])), none], [], [], []), (.ofNat 300, [(2, .negSucc 0)]), (.ofNat 0, []), (.ofNat 0, []))]
theorem kk_59_0 : ychk zTt zProg zTG zTTy zTX zGd zXf zCT 4000 59 kt_59_0 ku_59_0 = true := by decide +kernel
def ku_60_0 : List yCu := [(5, ([(0, 3, 0), (0, 4, 0)], [(0, .ofNat 0, .ofNat 19, 0), (1, .negSucc 2147483647, .ofNat 2147483647, 0), (2, .ofNat 0, .ofNat 300, 0)], [], [some (2, (.ofNat 89, [])), some (0, (.ofNat 0, [(0, .ofNat 1)])), some (2, (.ofNat 36, [])), some (0, (.ofNat 0, [(1, .ofNat 1)])), some (0, (.ofNat 0, [(2, .ofNat 1)]))], [], [], []), (.ofNat 300, [(2, .negSucc 0)]), (.ofNat 0, []), (.ofNat 0, []))]
theorem kk_60_0 : ychk zTt zProg zTG zTTy zTX zGd zXf zCT 4000 60 kt_60_0 ku_60_0 = true := by decide +kernel
def ku_61_0 : List yCu := [(6, ([(0, 4, 0), (0, 5, 0)], [(0, .ofNat 0, .ofNat 19, 0), (1, .negSucc 2147483647, .ofNat 2147483647, 0), (2, .negSucc 2147483647, .ofNat 2147483647, 0), (3, .ofNat 0, .ofNat 300, 0)], [], [some (2, (.ofNat 89, [])), some (0, (.ofNat 0, [(0, .ofNat 1)])), some (0, (.ofNat 0, [(1, .ofNat 1)])), some (2, (.ofNat 36, [])), some (0, (.ofNat 0, [(2, .ofNat 1)])), some (0, (.ofNat 0, [(3, .ofNat 1)]))], [], [], []), (.ofNat 300, [(3, .negSucc 0)]), (.ofNat 0, []), (.ofNat 0, []))]
theorem kk_61_0 : ychk zTt zProg zTG zTTy zTX zGd zXf zCT 4000 61 kt_61_0 ku_61_0 = true := by decide +kernel
def ku_65_0 : List yCu := [(4, ([(0, 2, 0), (0, 3, 0)], [(0, .ofNat 0, .ofNat 599, 0), (1, .negSucc 0, .ofNat 9, 0), (2, .ofNat 0, .ofNat 10, 0)], [], [some (2, (.ofNat 48, [])), some (0, (.ofNat 0, [(0, .ofNat 1)])), some (0, (.ofNat 0, [(1, .ofNat 1)])), some (0, (.ofNat 0, [(2, .ofNat 1)]))], [], [], []), (.ofNat 10, [(2, .negSucc 0)]), (.ofNat 0, []), (.ofNat 0, []))]
theorem kk_65_0 : ychk zTt zProg zTG zTTy zTX zGd zXf zCT 4000 65 kt_65_0 ku_65_0 = true := by decide +kernel
def ku_68_0 : List yCu := [(6, ([(0, 4, 0), (0, 5, 0)], [(0, .ofNat 0, .ofNat 10000000, 152), (1, .ofNat 0, .ofNat 400, 0), (2, .ofNat 0, .ofNat 400, 0), (3, .ofNat 0, .ofNat 80, 0), (4, .ofNat 0, .ofNat 400, 0)], [], [some (2, (.ofNat 48, [])), some (2, (.ofNat 0, [(0, .ofNat 1)])), some (0, (.ofNat 0, [(1, .ofNat 1)])), some (0, (.ofNat 0, [(2, .ofNat 1)])), some (0, (.ofNat 0, [(3, .ofNat 1)])), some (0, (.ofNat 0, [(4, .ofNat 1)])), none], [], [], []), (.ofNat 400, [(4, .negSucc 0)]), (.ofNat 0, []), (.ofNat 0, []))]
theorem kk_68_0 : ychk zTt zProg zTG zTTy zTX zGd zXf zCT 4000 68 kt_68_0 ku_68_0 = true := by decide +kernel
def ku_66_0 : List yCu := [(24, ([(0, 3, 0), (0, 4, 0), (1, 48, 3)], [(0, .ofNat 0, .ofNat 9, 0), (1, .ofNat 0, .ofNat 15, 0), (2, .ofNat 0, .ofNat 10000000, 153), (3, .ofNat 0, .ofNat 60, 0), (4, .ofNat 1, .ofNat 10, 0)], [(.ofNat 1, [(0, .ofNat 1), (4, .negSucc 0)])], [some (2, (.ofNat 48, [])), some (0, (.ofNat 0, [(0, .ofNat 1)])), some (0, (.ofNat 0, [(1, .ofNat 1)])), some (2, (.ofNat 0, [(2, .ofNat 1)])), some (0, (.ofNat 0, [(3, .ofNat 1)])), none], [], [(48, 2, (2, (.ofNat 51, []))), (48, 3, (0, (.ofNat 0, [(4, .ofNat 1)])))], [((55, (.ofNat 0, [(0, .ofNat 1)])), (.ofNat 0, [(2, .ofNat 1)]))]), (.ofNat 60, [(3, .negSucc 0)]), (.ofNat 0, []), (.ofNat 0, []))]
theorem kk_66_0 : ychk zTt zProg zTG zTTy zTX zGd zXf zCT 4000 66 kt_66_0 ku_66_0 = true := by decide +kernel
def ku_73_0 : List yCu := [(3, ([(0, 2, 0)], [(0, .negSucc 2147483647, .ofNat 2147483647, 0), (1, .negSucc 2147483647, .ofNat 24, 0)], [], [some (2, (.ofNat 44, [])), some (0, (.ofNat 0, [(0, .ofNat 1)])), some (0, (.ofNat 0, [(1, .ofNat 1)]))], [], [], []), (.ofNat 2147483648, [(1, .ofNat 1)]), (.ofNat 0, []), (.ofNat 0, []))]
theorem kk_73_0 : ychk zTt zProg zTG zTTy zTX zGd zXf zCT 4000 73 kt_73_0 ku_73_0 = true := by decide +kernel
def ku_90_0 : List yCu := [(0, ([(1, 44, 1), (1, 44, 2)], [(0, .ofNat 1, .ofNat 400, 0), (1, .ofNat 1, .ofNat 400, 0)], [(.ofNat 0, [(0, .negSucc 0), (1, .ofNat 1)])], [some (2, (.ofNat 44, []))], [], [(44, 0, (2, (.ofNat 45, []))), (44, 1, (0, (.ofNat 0, [(0, .ofNat 1)]))), (44, 2, (0, (.ofNat 0, [(1, .ofNat 1)])))], []), (.ofNat 400, [(1, .negSucc 0)]), (.ofNat 0, []), (.ofNat 0, []))]
theorem kk_90_0 : ychk zTt zProg zTG zTTy zTX zGd zXf zCT 4000 90 kt_90_0 ku_90_0 = true := by decide +kernel
def ku_89_0 : List yCu := [(13, ([(0, 2, 0), (0, 3, 0), (0, 4, 0), (1, 44, 1), (1, 44, 2)], [(0, .ofNat 2, .ofNat 99999, 0), (1, .negSucc 0, .ofNat 255, 0), (2, .ofNat 0, .ofNat 400, 0), (3, .ofNat 0, .ofNat 100000, 0), (4, .ofNat 0, .ofNat 400, 0), (5, .ofNat 0, .ofNat 400, 0)], [], [some (2, (.ofNat 44, [])), some (0, (.ofNat 0, [(0, .ofNat 1)])), some (0, (.ofNat 0, [(1, .ofNat 1)])), some (0, (.ofNat 0, [(2, .ofNat 1)])), some (0, (.ofNat 0, [(3, .ofNat 1)]))], [], [(44, 1, (0, (.ofNat 0, [(4, .ofNat 1)]))), (44, 2, (0, (.ofNat 0, [(5, .ofNat 1)])))], []), (.ofNat 400, [(2, .negSucc 0)]), (.ofNat 0, []), (.ofNat 0, []))]
theorem kk_89_0 : ychk zTt zProg zTG zTTy zTX zGd zXf zCT 4000 89 kt_89_0 ku_89_0 = true := by decide +kernel
def ku_91_0 : List yCu := [(13, ([(1, 44, 1), (1, 44, 2), (1, 44, 3)], [(0, .ofNat 0, .ofNat 400, 0), (1, .ofNat 0, .ofNat 400, 0), (2, .ofNat 0, .ofNat 400, 0)], [], [some (2, (.ofNat 44, [])), none, none, none, none, none], [], [(44, 1, (0, (.ofNat 0, [(0, .ofNat 1)]))), (44, 2, (0, (.ofNat 0, [(1, .ofNat 1)]))), (44, 3, (0, (.ofNat 0, [(2, .ofNat 1)])))], []), (.ofNat 521, [(2, .negSucc 0)]), (.ofNat 0, []), (.ofNat 0, [])), (77, ([(0, 1, 0), (0, 2, 0), (0, 3, 0), (0, 4, 0), (1, 44, 1), (1, 44, 2), (1, 44, 3)], [(0, .ofNat 0, .ofNat 120, 0), (1, .ofNat 0, .ofNat 513, 0), (2, .ofNat 0, .ofNat 1, 0), (3, .ofNat 0, .ofNat 120, 0), (4, .ofNat 0, .ofNat 400, 0), (5, .ofNat 0, .ofNat 400, 0), (6, .ofNat 0, .ofNat 400, 0)], [(.negSucc 399, [(1, .ofNat 1), (3, .negSucc 0)]), (.ofNat 0, [(0, .ofNat 1), (3, .negSucc 0)])], [some (2, (.ofNat 44, [])), some (0, (.ofNat 0, [(0, .ofNat 1)])), some (0, (.ofNat 0, [(1, .ofNat 1)])), some (0, (.ofNat 0, [(2, .ofNat 1)])), some (0, (.ofNat 0, [(3, .ofNat 1)])), none], [], [(44, 1, (0, (.ofNat 0, [(4, .ofNat 1)]))), (44, 2, (0, (.ofNat 0, [(5, .ofNat 1)]))), (44, 3, (0, (.ofNat 0, [(6, .ofNat 1)])))], []), (.ofNat 120, [(3, .negSucc 0)]), (.ofNat 0, []), (.ofNat 0, []))]
theorem kk_91_0 : ychk zTt zProg zTG zTTy zTX zGd zXf zCT 4000 91 kt_91_0 ku_91_0 = true := by decide +kernel
def ku_85_0 : List yCu := []
theorem kk_85_0 : ychk zTt zProg zTG zTTy zTX zGd zXf zCT 4000 85 kt_85_0 ku_85_0 = true := by decide +kernel
def ku_84_0 : List yCu := [(12, ([(0, 2, 0)], [(0, .ofNat 0, .ofNat 10, 0), (1, .ofNat 0, .ofNat 400, 0)], [], [some (2, (.ofNat 44, [])), some (0, (.ofNat 0, [(0, .ofNat 1)])), some (0, (.ofNat 0, [(1, .ofNat 1)]))], [], [], []), (.ofNat 400, [(1, .negSucc 0)]), (.ofNat 0, []), (.ofNat 0, []))]
theorem kk_84_0 : ychk zTt zProg zTG zTTy zTX zGd zXf zCT 4000 84 kt_84_0 ku_84_0 = true := by decide +kernel
def ku_83_0 : List yCu := [(12, ([(0, 2, 0)], [(0, .ofNat 0, .ofNat 10, 0), (1, .ofNat 0, .ofNat 400, 0)], [], [some (2, (.ofNat 44, [])), some (0, (.ofNat 0, [(0, .ofNat 1)])), some (0, (.ofNat 0, [(1, .ofNat 1)])), none], [], [], []), (.ofNat 400, [(1, .negSucc 0)]), (.ofNat 0, []), (.ofNat 0, []))]
theorem kk_83_0 : ychk zTt zProg zTG zTTy zTX zGd zXf zCT 4000 83 kt_83_0 ku_83_0 = true := by decide +kernel
def ku_81_0 : List yCu := []
theorem kk_81_0 : ychk zTt zProg zTG zTTy zTX zGd zXf zCT 4000 81 kt_81_0 ku_81_0 = true := by decide +kernel
def ku_80_0 : List yCu := []
theorem kk_80_0 : ychk zTt zProg zTG zTTy zTX zGd zXf zCT 4000 80 kt_80_0 ku_80_0 = true := by decide +kernel
def ku_79_0 : List yCu := [(12, ([(0, 2, 0)], [(0, .ofNat 0, .ofNat 10, 0), (1, .ofNat 0, .ofNat 400, 0)], [], [some (2, (.ofNat 44, [])), some (0, (.ofNat 0, [(0, .ofNat 1)])), some (0, (.ofNat 0, [(1, .ofNat 1)]))], [], [], []), (.ofNat 400, [(1, .negSucc 0)]), (.ofNat 0, []), (.ofNat 0, []))]
theorem kk_79_0 : ychk zTt zProg zTG zTTy zTX zGd zXf zCT 4000 79 kt_79_0 ku_79_0 = true := by decide +kernel
def ku_78_0 : List yCu := [(12, ([(0, 2, 0)], [(0, .ofNat 0, .ofNat 10, 0), (1, .ofNat 0, .ofNat 400, 0)], [], [some (2, (.ofNat 44, [])), some (0, (.ofNat 0, [(0, .ofNat 1)])), some (0, (.ofNat 0, [(1, .ofNat 1)]))], [], [], []), (.ofNat 400, [(1, .negSucc 0)]), (.ofNat 0, []), (.ofNat 0, []))]
theorem kk_78_0 : ychk zTt zProg zTG zTTy zTX zGd zXf zCT 4000 78 kt_78_0 ku_78_0 = true := by decide +kernel
def ku_75_0 : List yCu := [(27, ([(0, 1, 0), (1, 44, 2), (1, 44, 7)], [(0, .ofNat 0, .ofNat 20, 0), (1, .ofNat 0, .ofNat 400, 0), (2, .ofNat 0, .ofNat 12, 0)], [], [some (2, (.ofNat 44, [])), some (0, (.ofNat 0, [(0, .ofNat 1)]))], [], [(44, 2, (0, (.ofNat 0, [(1, .ofNat 1)]))), (44, 7, (0, (.ofNat 0, [(2, .ofNat 1)])))], []), (.ofNat 20, [(0, .negSucc 0)]), (.ofNat 0, []), (.ofNat 0, []))]
theorem kk_75_0 : ychk zTt zProg zTG zTTy zTX zGd zXf zCT 4000 75 kt_75_0 ku_75_0 = true := by decide +kernel
def ku_99_0 : List yCu := [(4, ([(0, 2, 0), (0, 3, 0)], [(0, .ofNat 1, .ofNat 2147483646, 0), (1, .negSucc 2147483647, .ofNat 2147483647, 0), (2, .ofNat 0, .ofNat 9, 0)], [], [some (2, (.ofNat 94, [])), some (0, (.ofNat 0, [(0, .ofNat 1)])), some (0, (.ofNat 0, [(1, .ofNat 1)])), some (0, (.ofNat 0, [(2, .ofNat 1)]))], [], [], []), (.ofNat 9, [(2, .negSucc 0)]), (.ofNat 0, []), (.ofNat 0, []))]
theorem kk_99_0 : ychk zTt zProg zTG zTTy zTX zGd zXf zCT 4000 99 kt_99_0 ku_99_0 = true := by decide +kernel
def ku_100_0 : List yCu := [(4, ([(0, 2, 0), (0, 3, 0)], [(0, .ofNat 1, .ofNat 2147483646, 0), (1, .negSucc 2147483647, .ofNat 2147483647, 0), (2, .ofNat 0, .ofNat 9, 0)], [], [some (2, (.ofNat 94, [])), some (0, (.ofNat 0, [(0, .ofNat 1)])), some (0, (.ofNat 0, [(1, .ofNat 1)])), some (0, (.ofNat 0, [(2, .ofNat 1)])), none], [], [], []), (.ofNat 99, [(2, .negSucc 9)]), (.ofNat 0, []), (.ofNat 0, [])), (33, ([(0, 2, 0), (0, 3, 0), (0, 4, 0), (1, 94, 3)], [(0, .ofNat 1, .ofNat 2147483646, 0), (1, .negSucc 2147483647, .ofNat 2147483647, 0), (2, .ofNat 0, .ofNat 8, 0), (3, .ofNat 0, .ofNat 8, 0), (4, .ofNat 1, .ofNat 9, 0)], [(.ofNat 1, [(2, .ofNat 1), (4, .negSucc 0)])], [some (2, (.ofNat 94, [])), some (0, (.ofNat 0, [(0, .ofNat 1)])), some (0, (.ofNat 0, [(1, .ofNat 1)])), some (0, (.ofNat 0, [(2, .ofNat 1)])), some (0, (.ofNat 0, [(3, .ofNat 1)]))], [], [(94, 1, (2, (.ofNat 96, []))), (94, 3, (0, (.ofNat 0, [(4, .ofNat 1)])))], []), (.ofNat 98, [(2, .negSucc 9), (3, .negSucc 0)]), (.ofNat 0, []), (.ofNat 0, []))]
theorem kk_100_0 : ychk zTt zProg zTG zTTy zTX zGd zXf zCT 4000 100 kt_100_0 ku_100_0 = true := by decide +kernel
def ku_98_0 : List yCu := [(14, ([(0, 2, 0), (0, 3, 0), (1, 94, 4), (1, 94, 5)], [(0, .ofNat 0, .ofNat 999999, 0), (1, .ofNat 0, .ofNat 2147483647, 0), (2, .ofNat 1, .ofNat 2147483647, 0), (3, .ofNat 0, .ofNat 2147483646, 0), (4, .negSucc 2147483647, .ofNat 999999, 0)], [], [some (2, (.ofNat 94, [])), some (0, (.ofNat 0, [(0, .ofNat 1)])), some (0, (.ofNat 0, [(1, .ofNat 1)])), some (0, (.ofNat 0, [(2, .ofNat 1)])), none, none], [], [(94, 4, (0, (.ofNat 0, [(3, .ofNat 1)]))), (94, 5, (0, (.ofNat 0, [(4, .ofNat 1)])))], []), (.ofNat 2147483647, [(2, .negSucc 0)]), (.ofNat 0, []), (.ofNat 0, []))]
theorem kk_98_0 : ychk zTt zProg zTG zTTy zTX zGd zXf zCT 4000 98 kt_98_0 ku_98_0 = true := by decide +kernel
def ku_106_0 : List yCu := [(6, ([(0, 5, 0), (0, 6, 0)], [(0, .ofNat 0, .ofNat 59, 0), (1, .ofNat 0, .ofNat 7, 0), (2, .ofNat 0, .ofNat 2, 0), (3, .ofNat 0, .ofNat 599, 0), (4, .negSucc 0, .ofNat 200, 0), (5, .ofNat 0, .ofNat 600, 0)], [], [some (2, (.ofNat 54, [])), some (0, (.ofNat 0, [(0, .ofNat 1)])), some (0, (.ofNat 0, [(1, .ofNat 1)])), some (0, (.ofNat 0, [(2, .ofNat 1)])), some (0, (.ofNat 0, [(3, .ofNat 1)])), some (0, (.ofNat 0, [(4, .ofNat 1)])), some (0, (.ofNat 0, [(5, .ofNat 1)])), none], [], [], []), (.ofNat 600, [(5, .negSucc 0)]), (.ofNat 0, []), (.ofNat 0, []))]
theorem kk_106_0 : ychk zTt zProg zTG zTTy zTX zGd zXf zCT 4000 106 kt_106_0 ku_106_0 = true := by decide +kernel
def ku_107_0 : List yCu := [(6, ([(0, 5, 0), (0, 6, 0)], [(0, .ofNat 0, .ofNat 59, 0), (1, .ofNat 0, .ofNat 7, 0), (2, .ofNat 0, .ofNat 2, 0), (3, .ofNat 0, .ofNat 599, 0), (4, .negSucc 0, .ofNat 200, 0), (5, .ofNat 0, .ofNat 600, 0)], [], [some (2, (.ofNat 54, [])), some (0, (.ofNat 0, [(0, .ofNat 1)])), some (0, (.ofNat 0, [(1, .ofNat 1)])), some (0, (.ofNat 0, [(2, .ofNat 1)])), some (0, (.ofNat 0, [(3, .ofNat 1)])), some (0, (.ofNat 0, [(4, .ofNat 1)])), some (0, (.ofNat 0, [(5, .ofNat 1)])), none], [], [], []), (.ofNat 600, [(5, .negSucc 0)]), (.ofNat 0, []), (.ofNat 0, []))]
theorem kk_107_0 : ychk zTt zProg zTG zTTy zTX zGd zXf zCT 4000 107 kt_107_0 ku_107_0 = true := by decide +kernel
def ku_281_5 : List yCu := [(5, ([(0, 2, 0)], [(0, .ofNat 0, .ofNat 600, 0)], [], [some (2, (.ofNat 110, [])), some (0, (.ofNat 201, [])), some (0, (.ofNat 0, [(0, .ofNat 1)])), some (0, (.ofNat 600, []))], [], [], []), (.ofNat 600, [(0, .negSucc 0)]), (.ofNat 0, []), (.ofNat 0, []))]
theorem kk_281_5 : ychk zTt zProg zTG zTTy zTX zGd zXf zCT 4000 281 kt_281_5 ku_281_5 = true := by decide +kernel
def ku_108_0 : List yCu := [(11, ([(0, 6, 0)], [(0, .negSucc 9223372036854775807, .ofNat 9223372036854775807, 0), (1, .ofNat 0, .ofNat 7, 0), (2, .ofNat 0, .ofNat 2, 0), (3, .ofNat 0, .ofNat 600, 0)], [], [some (2, (.ofNat 54, [])), some (1, (.ofNat 0, [(0, .ofNat 1)])), none, some (0, (.ofNat 0, [(1, .ofNat 1)])), some (0, (.ofNat 0, [(2, .ofNat 1)])), some (2, (.ofNat 110, [])), some (0, (.ofNat 0, [(3, .ofNat 1)])), none, none], [], [], []), (.ofNat 1200, [(3, .negSucc 0)]), (.ofNat 0, []), (.ofNat 0, [])), (105, ([(0, 6, 0), (1, 54, 9)], [(0, .negSucc 9223372036854775807, .ofNat 9223372036854775807, 0), (1, .ofNat 0, .ofNat 7, 0), (2, .ofNat 0, .ofNat 2, 0), (3, .ofNat 1, .ofNat 600, 0), (4, .ofNat 0, .ofNat 600, 0)], [], [some (2, (.ofNat 54, [])), some (1, (.ofNat 0, [(0, .ofNat 1)])), none, some (0, (.ofNat 0, [(1, .ofNat 1)])), some (0, (.ofNat 0, [(2, .ofNat 1)])), some (2, (.ofNat 110, [])), some (0, (.ofNat 0, [(3, .ofNat 1)])), none, none], [], [(54, 9, (0, (.ofNat 0, [(4, .ofNat 1)])))], []), (.ofNat 600, [(3, .negSucc 0)]), (.ofNat 0, []), (.ofNat 0, []))]
theorem kk_108_0 : ychk zTt zProg zTG zTTy zTX zGd zXf zCT 4000 108 kt_108_0 ku_108_0 = true := by decide +kernel
def ku_110_0 : List yCu := []
theorem kk_110_0 : ychk zTt zProg zTG zTTy zTX zGd zXf zCT 4000 110 kt_110_0 ku_110_0 = true := by decide +kernel
def ku_111_0 : List yCu := []
theorem kk_111_0 : ychk zTt zProg zTG zTTy zTX zGd zXf zCT 4000 111 kt_111_0 ku_111_0 = true := by decide +kernel
def ku_112_0 : List yCu := []
theorem kk_112_0 : ychk zTt zProg zTG zTTy zTX zGd zXf zCT 4000 112 kt_112_0 ku_112_0 = true := by decide +kernel
def ku_113_0 : List yCu := []
theorem kk_113_0 : ychk zTt zProg zTG zTTy zTX zGd zXf zCT 4000 113 kt_113_0 ku_113_0 = true := by decide +kernel
def ku_114_0 : List yCu := []
theorem kk_114_0 : ychk zTt zProg zTG zTTy zTX zGd zXf zCT 4000 114 kt_114_0 ku_114_0 = true := by decide +kernel
def ku_115_0 : List yCu := []
theorem kk_115_0 : ychk zTt zProg zTG zTTy zTX zGd zXf zCT 4000 115 kt_115_0 ku_115_0 = true := by decide +kernel
def ku_116_0 : List yCu := []
theorem kk_116_0 : ychk zTt zProg zTG zTTy zTX zGd zXf zCT 4000 116 kt_116_0 ku_116_0 = true := by decide +kernel
def ku_117_0 : List yCu := []
theorem kk_117_0 : ychk zTt zProg zTG zTTy zTX zGd zXf zCT 4000 117 kt_117_0 ku_117_0 = true := by decide +kernel
def ku_118_0 : List yCu := []
theorem kk_118_0 : ychk zTt zProg zTG zTTy zTX zGd zXf zCT 4000 118 kt_118_0 ku_118_0 = true := by decide +kernel
def ku_119_0 : List yCu := []
theorem kk_119_0 : ychk zTt zProg zTG zTTy zTX zGd zXf zCT 4000 119 kt_119_0 ku_119_0 = true := by decide +kernel
def ku_120_0 : List yCu := []
theorem kk_120_0 : ychk zTt zProg zTG zTTy zTX zGd zXf zCT 4000 120 kt_120_0 ku_120_0 = true := by decide +kernel
def ku_121_0 : List yCu := []
theorem kk_121_0 : ychk zTt zProg zTG zTTy zTX zGd zXf zCT 4000 121 kt_121_0 ku_121_0 = true := by decide +kernel
def ku_122_0 : List yCu := []
theorem kk_122_0 : ychk zTt zProg zTG zTTy zTX zGd zXf zCT 4000 122 kt_122_0 ku_122_0 = true := by decide +kernel
def ku_123_0 : List yCu := []
theorem kk_123_0 : ychk zTt zProg zTG zTTy zTX zGd zXf zCT 4000 123 kt_123_0 ku_123_0 = true := by decide +kernel
def ku_124_0 : List yCu := []
theorem kk_124_0 : ychk zTt zProg zTG zTTy zTX zGd zXf zCT 4000 124 kt_124_0 ku_124_0 = true := by decide +kernel
def ku_125_0 : List yCu := []
theorem kk_125_0 : ychk zTt zProg zTG zTTy zTX zGd zXf zCT 4000 125 kt_125_0 ku_125_0 = true := by decide +kernel
def ku_280_0 : List yCu := [(6, ([(0, 3, 0)], [(0, .ofNat 0, .ofNat 12, 0)], [], [some (2, (.ofNat 52, [])), some (1, (.ofNat 0, [])), none, some (0, (.ofNat 0, [(0, .ofNat 1)])), some (0, (.ofNat 12, []))], [], [], []), (.ofNat 12, [(0, .negSucc 0)]), (.ofNat 0, []), (.ofNat 0, []))]
theorem kk_280_0 : ychk zTt zProg zTG zTTy zTX zGd zXf zCT 4000 280 kt_280_0 ku_280_0 = true := by decide +kernel
def ku_126_0 : List yCu := []
theorem kk_126_0 : ychk zTt zProg zTG zTTy zTX zGd zXf zCT 4000 126 kt_126_0 ku_126_0 = true := by decide +kernel
def ku_127_0 : List yCu := []
theorem kk_127_0 : ychk zTt zProg zTG zTTy zTX zGd zXf zCT 4000 127 kt_127_0 ku_127_0 = true := by decide +kernel
def ku_128_0 : List yCu := []
theorem kk_128_0 : ychk zTt zProg zTG zTTy zTX zGd zXf zCT 4000 128 kt_128_0 ku_128_0 = true := by decide +kernel
def ku_129_0 : List yCu := []
theorem kk_129_0 : ychk zTt zProg zTG zTTy zTX zGd zXf zCT 4000 129 kt_129_0 ku_129_0 = true := by decide +kernel
def ku_130_0 : List yCu := []
theorem kk_130_0 : ychk zTt zProg zTG zTTy zTX zGd zXf zCT 4000 130 kt_130_0 ku_130_0 = true := by decide +kernel
def ku_131_0 : List yCu := []
theorem kk_131_0 : ychk zTt zProg zTG zTTy zTX zGd zXf zCT 4000 131 kt_131_0 ku_131_0 = true := by decide +kernel
def ku_168_0 : List yCu := [(18, ([(0, 5, 0)], [(0, .negSucc 9223372036854775807, .ofNat 9223372036854775807, 0), (1, .ofNat 0, .ofNat 7, 0), (2, .ofNat 0, .ofNat 2, 0), (3, .ofNat 0, .ofNat 600, 0)], [], [some (2, (.ofNat 0, [])), some (1, (.ofNat 0, [(0, .ofNat 1)])), none, some (0, (.ofNat 0, [(1, .ofNat 1)])), some (0, (.ofNat 0, [(2, .ofNat 1)])), some (0, (.ofNat 0, [(3, .ofNat 1)]))], [], [(0, 4, (2, (.ofNat 54, []))), (0, 13, (2, (.ofNat 110, [])))], []), (.ofNat 600, [(3, .negSucc 0)]), (.ofNat 0, []), (.ofNat 0, []))]
theorem kk_168_0 : ychk zTt zProg zTG zTTy zTX zGd zXf zCT 4000 168 kt_168_0 ku_168_0 = true := by decide +kernel
def ku_132_0 : List yCu := []
theorem kk_132_0 : ychk zTt zProg zTG zTTy zTX zGd zXf zCT 4000 132 kt_132_0 ku_132_0 = true := by decide +kernel
def ku_133_0 : List yCu := []
theorem kk_133_0 : ychk zTt zProg zTG zTTy zTX zGd zXf zCT 4000 133 kt_133_0 ku_133_0 = true := by decide +kernel
def ku_134_0 : List yCu := []
theorem kk_134_0 : ychk zTt zProg zTG zTTy zTX zGd zXf zCT 4000 134 kt_134_0 ku_134_0 = true := by decide +kernel
def ku_135_0 : List yCu := []
theorem kk_135_0 : ychk zTt zProg zTG zTTy zTX zGd zXf zCT 4000 135 kt_135_0 ku_135_0 = true := by decide +kernel
def ku_136_0 : List yCu := []
theorem kk_136_0 : ychk zTt zProg zTG zTTy zTX zGd zXf zCT 4000 136 kt_136_0 ku_136_0 = true := by decide +kernel
def ku_137_0 : List yCu := []
theorem kk_137_0 : ychk zTt zProg zTG zTTy zTX zGd zXf zCT 4000 137 kt_137_0 ku_137_0 = true := by decide +kernel
def ku_138_0 : List yCu := []
theorem kk_138_0 : ychk zTt zProg zTG zTTy zTX zGd zXf zCT 4000 138 kt_138_0 ku_138_0 = true := by decide +kernel
def ku_139_0 : List yCu := []
theorem kk_139_0 : ychk zTt zProg zTG zTTy zTX zGd zXf zCT 4000 139 kt_139_0 ku_139_0 = true := by decide +kernel
def ku_140_0 : List yCu := []
theorem kk_140_0 : ychk zTt zProg zTG zTTy zTX zGd zXf zCT 4000 140 kt_140_0 ku_140_0 = true := by decide +kernel
def ku_141_0 : List yCu := []
theorem kk_141_0 : ychk zTt zProg zTG zTTy zTX zGd zXf zCT 4000 141 kt_141_0 ku_141_0 = true := by decide +kernel
def ku_142_0 : List yCu := []
theorem kk_142_0 : ychk zTt zProg zTG zTTy zTX zGd zXf zCT 4000 142 kt_142_0 ku_142_0 = true := by decide +kernel
def ku_143_0 : List yCu := []
theorem kk_143_0 : ychk zTt zProg zTG zTTy zTX zGd zXf zCT 4000 143 kt_143_0 ku_143_0 = true := by decide +kernel
def ku_144_0 : List yCu := []
theorem kk_144_0 : ychk zTt zProg zTG zTTy zTX zGd zXf zCT 4000 144 kt_144_0 ku_144_0 = true := by decide +kernel
def ku_145_0 : List yCu := []
theorem kk_145_0 : ychk zTt zProg zTG zTTy zTX zGd zXf zCT 4000 145 kt_145_0 ku_145_0 = true := by decide +kernel
def ku_146_0 : List yCu := []
theorem kk_146_0 : ychk zTt zProg zTG zTTy zTX zGd zXf zCT 4000 146 kt_146_0 ku_146_0 = true := by decide +kernel
def ku_147_0 : List yCu := []
theorem kk_147_0 : ychk zTt zProg zTG zTTy zTX zGd zXf zCT 4000 147 kt_147_0 ku_147_0 = true := by decide +kernel
def ku_148_0 : List yCu := []
theorem kk_148_0 : ychk zTt zProg zTG zTTy zTX zGd zXf zCT 4000 148 kt_148_0 ku_148_0 = true := by decide +kernel
def ku_149_0 : List yCu := []
theorem kk_149_0 : ychk zTt zProg zTG zTTy zTX zGd zXf zCT 4000 149 kt_149_0 ku_149_0 = true := by decide +kernel
def ku_150_0 : List yCu := []
theorem kk_150_0 : ychk zTt zProg zTG zTTy zTX zGd zXf zCT 4000 150 kt_150_0 ku_150_0 = true := by decide +kernel
def ku_151_0 : List yCu := []
theorem kk_151_0 : ychk zTt zProg zTG zTTy zTX zGd zXf zCT 4000 151 kt_151_0 ku_151_0 = true := by decide +kernel
def ku_152_0 : List yCu := []
theorem kk_152_0 : ychk zTt zProg zTG zTTy zTX zGd zXf zCT 4000 152 kt_152_0 ku_152_0 = true := by decide +kernel
def ku_153_0 : List yCu := []
theorem kk_153_0 : ychk zTt zProg zTG zTTy zTX zGd zXf zCT 4000 153 kt_153_0 ku_153_0 = true := by decide +kernel
def ku_154_0 : List yCu := []
theorem kk_154_0 : ychk zTt zProg zTG zTTy zTX zGd zXf zCT 4000 154 kt_154_0 ku_154_0 = true := by decide +kernel
def ku_155_0 : List yCu := []
theorem kk_155_0 : ychk zTt zProg zTG zTTy zTX zGd zXf zCT 4000 155 kt_155_0 ku_155_0 = true := by decide +kernel
def ku_156_0 : List yCu := []
theorem kk_156_0 : ychk zTt zProg zTG zTTy zTX zGd zXf zCT 4000 156 kt_156_0 ku_156_0 = true := by decide +kernel
def ku_157_0 : List yCu := []
theorem kk_157_0 : ychk zTt zProg zTG zTTy zTX zGd zXf zCT 4000 157 kt_157_0 ku_157_0 = true := by decide +kernel
def ku_174_0 : List yCu := []
theorem kk_174_0 : ychk zTt zProg zTG zTTy zTX zGd zXf zCT 4000 174 kt_174_0 ku_174_0 = true := by decide +kernel
def ku_179_0 : List yCu := []
theorem kk_179_0 : ychk zTt zProg zTG zTTy zTX zGd zXf zCT 4000 179 kt_179_0 ku_179_0 = true := by decide +kernel
def ku_180_0 : List yCu := []
theorem kk_180_0 : ychk zTt zProg zTG zTTy zTX zGd zXf zCT 4000 180 kt_180_0 ku_180_0 = true := by decide +kernel
def ku_181_0 : List yCu := []
theorem kk_181_0 : ychk zTt zProg zTG zTTy zTX zGd zXf zCT 4000 181 kt_181_0 ku_181_0 = true := by decide +kernel
def ku_182_0 : List yCu := []
theorem kk_182_0 : ychk zTt zProg zTG zTTy zTX zGd zXf zCT 4000 182 kt_182_0 ku_182_0 = true := by decide +kernel
def ku_183_0 : List yCu := []
theorem kk_183_0 : ychk zTt zProg zTG zTTy zTX zGd zXf zCT 4000 183 kt_183_0 ku_183_0 = true := by decide +kernel
def ku_184_0 : List yCu := []
theorem kk_184_0 : ychk zTt zProg zTG zTTy zTX zGd zXf zCT 4000 184 kt_184_0 ku_184_0 = true := by decide +kernel
def ku_185_0 : List yCu := []
theorem kk_185_0 : ychk zTt zProg zTG zTTy zTX zGd zXf zCT 4000 185 kt_185_0 ku_185_0 = true := by decide +kernel
def ku_186_0 : List yCu := [(11, ([(0, 4, 0), (0, 5, 0)], [(0, .ofNat 0, .ofNat 299, 0), (1, .ofNat 0, .ofNat 599, 0), (2, .ofNat 0, .ofNat 599, 0), (3, .ofNat 0, .ofNat 59, 0), (4, .ofNat 0, .ofNat 400, 0)], [], [some (2, (.ofNat 111, [])), some (0, (.ofNat 0, [(0, .ofNat 1)])), some (0, (.ofNat 0, [(1, .ofNat 1)])), some (0, (.ofNat 0, [(2, .ofNat 1)])), some (0, (.ofNat 0, [(3, .ofNat 1)])), some (0, (.ofNat 0, [(4, .ofNat 1)]))], [], [(111, 19, (2, (.ofNat 124, [])))], []), (.ofNat 400, [(4, .negSucc 0)]), (.ofNat 0, []), (.ofNat 0, []))]
theorem kk_186_0 : ychk zTt zProg zTG zTTy zTX zGd zXf zCT 4000 186 kt_186_0 ku_186_0 = true := by decide +kernel
def ku_187_0 : List yCu := []
theorem kk_187_0 : ychk zTt zProg zTG zTTy zTX zGd zXf zCT 4000 187 kt_187_0 ku_187_0 = true := by decide +kernel
def ku_188_0 : List yCu := [(5, ([(0, 3, 0), (0, 4, 0)], [(0, .ofNat 0, .ofNat 7, 0), (1, .ofNat 0, .ofNat 599, 0), (2, .negSucc 2147483647, .ofNat 2147483647, 0), (3, .ofNat 0, .ofNat 12, 0)], [], [some (2, (.ofNat 111, [])), some (0, (.ofNat 0, [(0, .ofNat 1)])), some (0, (.ofNat 0, [(1, .ofNat 1)])), some (0, (.ofNat 0, [(2, .ofNat 1)])), some (0, (.ofNat 0, [(3, .ofNat 1)]))], [], [], []), (.ofNat 12, [(3, .negSucc 0)]), (.ofNat 0, []), (.ofNat 0, []))]
theorem kk_188_0 : ychk zTt zProg zTG zTTy zTX zGd zXf zCT 4000 188 kt_188_0 ku_188_0 = true := by decide +kernel
def ku_189_0 : List yCu := [(20, ([(0, 3, 0), (0, 4, 0)], [(0, .ofNat 0, .ofNat 299, 0), (1, .ofNat 0, .ofNat 599, 0), (2, .negSucc 2147483647, .ofNat 2147483647, 0), (3, .ofNat 0, .ofNat 20, 0)], [], [some (2, (.ofNat 111, [])), some (0, (.ofNat 0, [(0, .ofNat 1)])), some (0, (.ofNat 0, [(1, .ofNat 1)])), some (0, (.ofNat 0, [(2, .ofNat 1)])), some (0, (.ofNat 0, [(3, .ofNat 1)]))], [], [(111, 16, (2, (.ofNat 121, []))), (111, 17, (2, (.ofNat 122, [])))], []), (.ofNat 20, [(3, .negSucc 0)]), (.ofNat 0, []), (.ofNat 0, []))]
theorem kk_189_0 : ychk zTt zProg zTG zTTy zTX zGd zXf zCT 4000 189 kt_189_0 ku_189_0 = true := by decide +kernel
def ku_191_0 : List yCu := [(15, ([(0, 5, 0), (0, 6, 0)], [(0, .ofNat 0, .ofNat 7, 0), (1, .negSucc 2147483647, .ofNat 2147483647, 0), (2, .ofNat 0, .ofNat 2, 0), (3, .ofNat 0, .ofNat 200, 0), (4, .negSucc 2147483647, .ofNat 2147483647, 0), (5, .ofNat 0, .ofNat 12, 0)], [], [some (2, (.ofNat 111, [])), some (0, (.ofNat 0, [(0, .ofNat 1)])), some (0, (.ofNat 0, [(1, .ofNat 1)])), some (0, (.ofNat 0, [(2, .ofNat 1)])), some (0, (.ofNat 0, [(3, .ofNat 1)])), some (0, (.ofNat 0, [(4, .ofNat 1)])), some (0, (.ofNat 0, [(5, .ofNat 1)]))], [], [(111, 10, (2, (.ofNat 115, [])))], []), (.ofNat 12, [(5, .negSucc 0)]), (.ofNat 0, []), (.ofNat 0, []))]
theorem kk_191_0 : ychk zTt zProg zTG zTTy zTX zGd zXf zCT 4000 191 kt_191_0 ku_191_0 = true := by decide +kernel
def ku_192_0 : List yCu := []
theorem kk_192_0 : ychk zTt zProg zTG zTTy zTX zGd zXf zCT 4000 192 kt_192_0 ku_192_0 = true := by decide +kernel
def ku_193_0 : List yCu := []
theorem kk_193_0 : ychk zTt zProg zTG zTTy zTX zGd zXf zCT 4000 193 kt_193_0 ku_193_0 = true := by decide +kernel
def ku_195_0 : List yCu := []
theorem kk_195_0 : ychk zTt zProg zTG zTTy zTX zGd zXf zCT 4000 195 kt_195_0 ku_195_0 = true := by decide +kernel
def ku_196_0 : List yCu := []
theorem kk_196_0 : ychk zTt zProg zTG zTTy zTX zGd zXf zCT 4000 196 kt_196_0 ku_196_0 = true := by decide +kernel
def ku_198_0 : List yCu := []
theorem kk_198_0 : ychk zTt zProg zTG zTTy zTX zGd zXf zCT 4000 198 kt_198_0 ku_198_0 = true := by decide +kernel
def ku_226_0 : List yCu := [(4, ([(0, 2, 0), (0, 3, 0)], [(0, .ofNat 0, .ofNat 599, 0), (1, .negSucc 0, .ofNat 9, 0), (2, .ofNat 0, .ofNat 10, 0)], [], [some (2, (.ofNat 111, [])), some (0, (.ofNat 0, [(0, .ofNat 1)])), some (0, (.ofNat 0, [(1, .ofNat 1)])), some (0, (.ofNat 0, [(2, .ofNat 1)]))], [], [], []), (.ofNat 10, [(2, .negSucc 0)]), (.ofNat 0, []), (.ofNat 0, []))]
theorem kk_226_0 : ychk zTt zProg zTG zTTy zTX zGd zXf zCT 4000 226 kt_226_0 ku_226_0 = true := by decide +kernel
def ku_227_0 : List yCu := []
theorem kk_227_0 : ychk zTt zProg zTG zTTy zTX zGd zXf zCT 4000 227 kt_227_0 ku_227_0 = true := by decide +kernel
def ku_238_0 : List yCu := []
theorem kk_238_0 : ychk zTt zProg zTG zTTy zTX zGd zXf zCT 4000 238 kt_238_0 ku_238_0 = true := by decide +kernel
def ku_239_0 : List yCu := [(5, ([(0, 3, 0), (0, 4, 0)], [(0, .negSucc 2147483647, .ofNat 2147483647, 0), (1, .negSucc 2147483647, .ofNat 2147483647, 0), (2, .ofNat 0, .ofNat 1, 0), (3, .ofNat 0, .ofNat 600, 0)], [], [some (2, (.ofNat 111, [])), some (0, (.ofNat 0, [(0, .ofNat 1)])), some (0, (.ofNat 0, [(1, .ofNat 1)])), some (0, (.ofNat 0, [(2, .ofNat 1)])), some (0, (.ofNat 0, [(3, .ofNat 1)]))], [], [], []), (.ofNat 600, [(3, .negSucc 0)]), (.ofNat 0, []), (.ofNat 0, []))]
theorem kk_239_0 : ychk zTt zProg zTG zTTy zTX zGd zXf zCT 4000 239 kt_239_0 ku_239_0 = true := by decide +kernel
def ku_240_0 : List yCu := [(6, ([(0, 6, 0), (0, 7, 0)], [(0, .ofNat 0, .ofNat 59, 0), (1, .ofNat 0, .ofNat 7, 0), (2, .ofNat 0, .ofNat 2, 0), (3, .ofNat 0, .ofNat 599, 0), (4, .ofNat 0, .ofNat 1, 0), (5, .negSucc 0, .ofNat 200, 0), (6, .ofNat 0, .ofNat 600, 0)], [], [some (2, (.ofNat 111, [])), some (0, (.ofNat 0, [(0, .ofNat 1)])), some (0, (.ofNat 0, [(1, .ofNat 1)])), some (0, (.ofNat 0, [(2, .ofNat 1)])), some (0, (.ofNat 0, [(3, .ofNat 1)])), some (0, (.ofNat 0, [(4, .ofNat 1)])), some (0, (.ofNat 0, [(5, .ofNat 1)])), some (0, (.ofNat 0, [(6, .ofNat 1)])), none, none], [], [], []), (.ofNat 600, [(6, .negSucc 0)]), (.ofNat 0, []), (.ofNat 0, []))]
theorem kk_240_0 : ychk zTt zProg zTG zTTy zTX zGd zXf zCT 4000 240 kt_240_0 ku_240_0 = true := by decide +kernel
def ku_241_0 : List yCu := []
theorem kk_241_0 : ychk zTt zProg zTG zTTy zTX zGd zXf zCT 4000 241 kt_241_0 ku_241_0 = true := by decide +kernel
def ku_244_0 : List yCu := []
theorem kk_244_0 : ychk zTt zProg zTG zTTy zTX zGd zXf zCT 4000 244 kt_244_0 ku_244_0 = true := by decide +kernel
def ku_245_0 : List yCu := []
theorem kk_245_0 : ychk zTt zProg zTG zTTy zTX zGd zXf zCT 4000 245 kt_245_0 ku_245_0 = true := by decide +kernel
def ku_248_0 : List yCu := []
theorem kk_248_0 : ychk zTt zProg zTG zTTy zTX zGd zXf zCT 4000 248 kt_248_0 ku_248_0 = true := by decide +kernel
def ku_250_0 : List yCu := []
theorem kk_250_0 : ychk zTt zProg zTG zTTy zTX zGd zXf zCT 4000 250 kt_250_0 ku_250_0 = true := by decide +kernel
def ku_251_0 : List yCu := [(6, ([(0, 4, 0), (0, 6, 0)], [(0, .ofNat 0, .ofNat 19, 0), (1, .ofNat 0, .ofNat 19, 0), (2, .ofNat 0, .ofNat 63, 0), (3, .negSucc 9223372036854775807, .ofNat 9223372036854775807, 0), (4, .ofNat 0, .ofNat 6, 0)], [], [some (2, (.ofNat 111, [])), some (0, (.ofNat 0, [(0, .ofNat 1)])), some (0, (.ofNat 0, [(1, .ofNat 1)])), some (0, (.ofNat 0, [(2, .ofNat 1)])), some (1, (.ofNat 0, [(3, .ofNat 1)])), none, some (0, (.ofNat 0, [(4, .ofNat 1)])), none, none, none, none], [], [], []), (.ofNat 6, [(4, .negSucc 0)]), (.ofNat 0, []), (.ofNat 0, []))]
theorem kk_251_0 : ychk zTt zProg zTG zTTy zTX zGd zXf zCT 4000 251 kt_251_0 ku_251_0 = true := by decide +kernel
def ku_252_0 : List yCu := []
theorem kk_252_0 : ychk zTt zProg zTG zTTy zTX zGd zXf zCT 4000 252 kt_252_0 ku_252_0 = true := by decide +kernel
def ku_253_0 : List yCu := []
theorem kk_253_0 : ychk zTt zProg zTG zTTy zTX zGd zXf zCT 4000 253 kt_253_0 ku_253_0 = true := by decide +kernel
def ku_256_0 : List yCu := []
theorem kk_256_0 : ychk zTt zProg zTG zTTy zTX zGd zXf zCT 4000 256 kt_256_0 ku_256_0 = true := by decide +kernel
def ku_257_0 : List yCu := []
theorem kk_257_0 : ychk zTt zProg zTG zTTy zTX zGd zXf zCT 4000 257 kt_257_0 ku_257_0 = true := by decide +kernel
def ku_258_0 : List yCu := [(4, ([(0, 2, 0), (0, 3, 0)], [(0, .negSucc 1, .ofNat 3, 0), (1, .negSucc 2147483647, .ofNat 2147483647, 0), (2, .ofNat 0, .ofNat 24, 0)], [], [some (2, (.ofNat 111, [])), some (0, (.ofNat 0, [(0, .ofNat 1)])), some (0, (.ofNat 0, [(1, .ofNat 1)])), some (0, (.ofNat 0, [(2, .ofNat 1)])), none, none], [], [], []), (.ofNat 649, [(2, .negSucc 25)]), (.ofNat 0, []), (.ofNat 0, [])), (22, ([(0, 2, 0), (0, 3, 0), (0, 4, 0), (1, 111, 76)], [(0, .negSucc 1, .ofNat 3, 0), (1, .negSucc 2147483647, .ofNat 2147483647, 0), (2, .ofNat 0, .ofNat 23, 0), (3, .ofNat 0, .ofNat 24, 0), (4, .ofNat 1, .ofNat 24, 0)], [(.ofNat 1, [(2, .ofNat 1), (4, .negSucc 0)])], [some (2, (.ofNat 111, [])), some (0, (.ofNat 0, [(0, .ofNat 1)])), some (0, (.ofNat 0, [(1, .ofNat 1)])), some (0, (.ofNat 0, [(2, .ofNat 1)])), some (0, (.ofNat 0, [(3, .ofNat 1)])), none], [], [(111, 76, (0, (.ofNat 0, [(4, .ofNat 1)]))), (111, 81, (2, (.ofNat 171, [])))], []), (.ofNat 648, [(2, .negSucc 25), (3, .negSucc 0)]), (.ofNat 0, []), (.ofNat 0, []))]
theorem kk_258_0 : ychk zTt zProg zTG zTTy zTX zGd zXf zCT 4000 258 kt_258_0 ku_258_0 = true := by decide +kernel
def ku_259_0 : List yCu := [(14, ([(0, 2, 0), (0, 3, 0), (1, 111, 76)], [(0, .ofNat 0, .ofNat 23, 0), (1, .negSucc 2147483647, .ofNat 2147483647, 0), (2, .negSucc 0, .ofNat 23, 0), (3, .ofNat 0, .ofNat 24, 0)], [], [some (2, (.ofNat 111, [])), some (0, (.ofNat 0, [(0, .ofNat 1)])), some (0, (.ofNat 0, [(1, .ofNat 1)])), some (0, (.ofNat 0, [(2, .ofNat 1)])), none, none], [], [(111, 76, (0, (.ofNat 0, [(3, .ofNat 1)])))], []), (.ofNat 49, [(2, .ofNat 25)]), (.ofNat 0, []), (.ofNat 0, [])), (44, ([(0, 2, 0), (0, 3, 0), (0, 4, 0), (1, 111, 76)], [(0, .ofNat 0, .ofNat 23, 0), (1, .negSucc 2147483647, .ofNat 2147483647, 0), (2, .ofNat 0, .ofNat 23, 0), (3, .ofNat 1, .ofNat 24, 0), (4, .ofNat 0, .ofNat 24, 0)], [], [some (2, (.ofNat 111, [])), some (0, (.ofNat 0, [(0, .ofNat 1)])), some (0, (.ofNat 0, [(1, .ofNat 1)])), some (0, (.ofNat 0, [(2, .ofNat 1)])), some (0, (.ofNat 0, [(3, .ofNat 1)])), none], [], [(111, 76, (0, (.ofNat 0, [(4, .ofNat 1)]))), (111, 82, (2, (.ofNat 172, [])))], []), (.ofNat 49, [(2, .ofNat 25), (3, .negSucc 0)]), (.ofNat 0, []), (.ofNat 0, []))]
theorem kk_259_0 : ychk zTt zProg zTG zTTy zTX zGd zXf zCT 4000 259 kt_259_0 ku_259_0 = true := by decide +kernel
def ku_260_0 : List yCu := []
theorem kk_260_0 : ychk zTt zProg zTG zTTy zTX zGd zXf zCT 4000 260 kt_260_0 ku_260_0 = true := by decide +kernel
def ku_261_0 : List yCu := []
theorem kk_261_0 : ychk zTt zProg zTG zTTy zTX zGd zXf zCT 4000 261 kt_261_0 ku_261_0 = true := by decide +kernel
def ku_263_0 : List yCu := []
theorem kk_263_0 : ychk zTt zProg zTG zTTy zTX zGd zXf zCT 4000 263 kt_263_0 ku_263_0 = true := by decide +kernel
def ku_264_0 : List yCu := [(35, ([(0, 3, 0), (0, 4, 0), (1, 111, 76)], [(0, .ofNat 0, .ofNat 23, 0), (1, .ofNat 0, .ofNat 2147483647, 0), (2, .negSucc 2147483647, .ofNat 2147483647, 0), (3, .negSucc 0, .ofNat 599, 0), (4, .ofNat 1, .ofNat 24, 0)], [(.ofNat 1, [(0, .ofNat 1), (4, .negSucc 0)])], [some (2, (.ofNat 111, [])), some (0, (.ofNat 0, [(0, .ofNat 1)])), some (0, (.ofNat 0, [(1, .ofNat 1)])), some (0, (.ofNat 0, [(2, .ofNat 1)])), some (0, (.ofNat 0, [(3, .ofNat 1)]))], [], [(111, 76, (0, (.ofNat 0, [(4, .ofNat 1)])))], []), (.ofNat 1, [(3, .ofNat 1)]), (.ofNat 0, []), (.ofNat 0, []))]
theorem kk_264_0 : ychk zTt zProg zTG zTTy zTX zGd zXf zCT 4000 264 kt_264_0 ku_264_0 = true := by decide +kernel
def ku_265_0 : List yCu := []
theorem kk_265_0 : ychk zTt zProg zTG zTTy zTX zGd zXf zCT 4000 265 kt_265_0 ku_265_0 = true := by decide +kernel
def ku_269_0 : List yCu := [(14, ([(0, 2, 0), (0, 3, 0), (1, 111, 83)], [(0, .ofNat 0, .ofNat 19, 0), (1, .negSucc 2147483647, .ofNat 2147483647, 0), (2, .ofNat 0, .ofNat 300, 0), (3, .ofNat 1, .ofNat 20, 0)], [(.ofNat 1, [(0, .ofNat 1), (3, .negSucc 0)])], [some (2, (.ofNat 111, [])), some (0, (.ofNat 0, [(0, .ofNat 1)])), some (0, (.ofNat 0, [(1, .ofNat 1)])), some (0, (.ofNat 0, [(2, .ofNat 1)]))], [], [(111, 83, (0, (.ofNat 0, [(3, .ofNat 1)])))], []), (.ofNat 300, [(2, .negSucc 0)]), (.ofNat 0, []), (.ofNat 0, []))]
theorem kk_269_0 : ychk zTt zProg zTG zTTy zTX zGd zXf zCT 4000 269 kt_269_0 ku_269_0 = true := by decide +kernel
def ku_270_0 : List yCu := []
theorem kk_270_0 : ychk zTt zProg zTG zTTy zTX zGd zXf zCT 4000 270 kt_270_0 ku_270_0 = true := by decide +kernel
def ku_271_0 : List yCu := []
theorem kk_271_0 : ychk zTt zProg zTG zTTy zTX zGd zXf zCT 4000 271 kt_271_0 ku_271_0 = true := by decide +kernel
def ku_272_0 : List yCu := [(15, ([(0, 3, 0), (0, 4, 0), (1, 111, 83)], [(0, .ofNat 0, .ofNat 19, 0), (1, .negSucc 2147483647, .ofNat 2147483647, 0), (2, .negSucc 2147483647, .ofNat 2147483647, 0), (3, .ofNat 0, .ofNat 300, 0), (4, .ofNat 1, .ofNat 20, 0)], [(.ofNat 1, [(0, .ofNat 1), (4, .negSucc 0)])], [some (2, (.ofNat 111, [])), some (0, (.ofNat 0, [(0, .ofNat 1)])), some (0, (.ofNat 0, [(1, .ofNat 1)])), some (0, (.ofNat 0, [(2, .ofNat 1)])), some (0, (.ofNat 0, [(3, .ofNat 1)]))], [], [(111, 83, (0, (.ofNat 0, [(4, .ofNat 1)])))], []), (.ofNat 300, [(3, .negSucc 0)]), (.ofNat 0, []), (.ofNat 0, []))]
theorem kk_272_0 : ychk zTt zProg zTG zTTy zTX zGd zXf zCT 4000 272 kt_272_0 ku_272_0 = true := by decide +kernel
def ku_273_0 : List yCu := []
theorem kk_273_0 : ychk zTt zProg zTG zTTy zTX zGd zXf zCT 4000 273 kt_273_0 ku_273_0 = true := by decide +kernel
def ku_275_0 : List yCu := []
theorem kk_275_0 : ychk zTt zProg zTG zTTy zTX zGd zXf zCT 4000 275 kt_275_0 ku_275_0 = true := by decide +kernel
def ku_276_0 : List yCu := []
theorem kk_276_0 : ychk zTt zProg zTG zTTy zTX zGd zXf zCT 4000 276 kt_276_0 ku_276_0 = true := by decide +kernel
def ku_277_0 : List yCu := [(28, ([(0, 2, 0), (0, 3, 0), (1, 111, 91), (1, 111, 92)], [(0, .ofNat 0, .ofNat 999999, 0), (1, .ofNat 0, .ofNat 2147483647, 0), (2, .ofNat 1, .ofNat 2147483647, 0), (3, .ofNat 0, .ofNat 2147483646, 0), (4, .negSucc 2147483647, .ofNat 1000000, 0)], [], [some (2, (.ofNat 111, [])), some (0, (.ofNat 0, [(0, .ofNat 1)])), some (0, (.ofNat 0, [(1, .ofNat 1)])), some (0, (.ofNat 0, [(2, .ofNat 1)])), none, none, none, none], [], [(111, 91, (0, (.ofNat 0, [(3, .ofNat 1)]))), (111, 92, (0, (.ofNat 0, [(4, .ofNat 1)])))], []), (.ofNat 216895848447, [(2, .negSucc 100)]), (.ofNat 0, []), (.ofNat 0, [])), (47, ([(0, 2, 0), (0, 3, 0), (0, 4, 0), (0, 5, 0), (0, 6, 0), (1, 111, 90), (1, 111, 91), (1, 111, 92)], [(0, .ofNat 0, .ofNat 999999, 0), (1, .ofNat 0, .ofNat 2147483647, 0), (2, .ofNat 1, .ofNat 2147483646, 0), (3, .negSucc 2147483647, .ofNat 2147483647, 0), (4, .negSucc 2147483647, .ofNat 2147483647, 0), (5, .ofNat 0, .ofNat 9, 0), (6, .ofNat 0, .ofNat 9, 0), (7, .ofNat 0, .ofNat 2147483646, 0), (8, .negSucc 2147483647, .ofNat 1000000, 0)], [], [some (2, (.ofNat 111, [])), some (0, (.ofNat 0, [(0, .ofNat 1)])), some (0, (.ofNat 0, [(1, .ofNat 1)])), some (0, (.ofNat 0, [(2, .ofNat 1)])), some (0, (.ofNat 0, [(3, .ofNat 1)])), some (0, (.ofNat 0, [(4, .ofNat 1)])), some (0, (.ofNat 0, [(5, .ofNat 1)])), none], [], [(111, 90, (0, (.ofNat 0, [(6, .ofNat 1)]))), (111, 91, (0, (.ofNat 0, [(7, .ofNat 1)]))), (111, 92, (0, (.ofNat 0, [(8, .ofNat 1)])))], []), (.ofNat 216895848446, [(2, .negSucc 100), (5, .negSucc 9)]), (.ofNat 0, []), (.ofNat 0, [])), (93, ([(0, 2, 0), (0, 3, 0), (0, 4, 0), (0, 5, 0), (0, 6, 0), (0, 7, 0), (1, 111, 90), (1, 111, 91), (1, 111, 92)], [(0, .ofNat 0, .ofNat 999999, 0), (1, .ofNat 0, .ofNat 2147483647, 0), (2, .ofNat 1, .ofNat 2147483646, 0), (3, .negSucc 2147483647, .ofNat 2147483647, 0), (4, .negSucc 2147483647, .ofNat 2147483647, 0), (5, .ofNat 0, .ofNat 8, 0), (6, .ofNat 0, .ofNat 8, 0), (7, .ofNat 1, .ofNat 9, 0), (8, .ofNat 0, .ofNat 2147483646, 0), (9, .negSucc 2147483647, .ofNat 1000000, 0)], [(.ofNat 1, [(5, .ofNat 1), (7, .negSucc 0)])], [some (2, (.ofNat 111, [])), some (0, (.ofNat 0, [(0, .ofNat 1)])), some (0, (.ofNat 0, [(1, .ofNat 1)])), some (0, (.ofNat 0, [(2, .ofNat 1)])), some (0, (.ofNat 0, [(3, .ofNat 1)])), some (0, (.ofNat 0, [(4, .ofNat 1)])), some (0, (.ofNat 0, [(5, .ofNat 1)])), some (0, (.ofNat 0, [(6, .ofNat 1)]))], [], [(111, 90, (0, (.ofNat 0, [(7, .ofNat 1)]))), (111, 91, (0, (.ofNat 0, [(8, .ofNat 1)]))), (111, 92, (0, (.ofNat 0, [(9, .ofNat 1)]))), (111, 93, (2, (.ofNat 179, []))), (111, 94, (2, (.ofNat 180, [])))], []), (.ofNat 216895848445, [(2, .negSucc 100), (5, .negSucc 9), (6, .negSucc 0)]), (.ofNat 0, []), (.ofNat 0, []))]
theorem kk_277_0 : ychk zTt zProg zTG zTTy zTX zGd zXf zCT 4000 277 kt_277_0 ku_277_0 = true := by decide +kernel
def ku_278_0 : List yCu := []
theorem kk_278_0 : ychk zTt zProg zTG zTTy zTX zGd zXf zCT 4000 278 kt_278_0 ku_278_0 = true := by decide +kernel
def ku_279_0 : List yCu := []
theorem kk_279_0 : ychk zTt zProg zTG zTTy zTX zGd zXf zCT 4000 279 kt_279_0 ku_279_0 = true := by decide +kernel
end
