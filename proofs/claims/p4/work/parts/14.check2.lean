theorem ck_71 : zCok zTabs zCl zNm zKm false (decide (zy_71.name = "<init>")) zy_71.cls prog_10_method_1_code cd_71 := zCok_of pp_71 (by decide +kernel)
theorem wk_71 : Jvm.Cond.code zy_71 prog_10_method_1_code 1 (Option.none : Option Jvm.ClassFile.FieldType) ∈ lw_tbl := zTabs_in tables_1_1 (List.mem_of_getElem? (i := 1) rfl) _ (List.mem_of_getElem? (i := 117) rfl)
theorem mk_71 : ∃ ps, zmok1 (zy_71, prog_10_method_1_code, 0) (cd_71, 1, (Option.none : Option Jvm.ClassFile.FieldType), 3, 848) 2 ps = true := ⟨[1005, 1117, 1116], by decide +kernel⟩
theorem ck_72 : zCok zTabs zCl zNm zKm false (decide (zy_72.name = "<init>")) zy_72.cls prog_10_method_2_code cd_72 := zCok_of pp_72 (by decide +kernel)
theorem wk_72 : Jvm.Cond.code zy_72 prog_10_method_2_code 2 (Option.some Jvm.ClassFile.FieldType.boolean) ∈ lw_tbl := zTabs_in tables_1_3 (List.mem_of_getElem? (i := 3) rfl) _ (List.mem_of_getElem? (i := 151) rfl)
theorem mk_72 : ∃ ps, zmok1 (zy_72, prog_10_method_2_code, 1) (cd_72, 2, (Option.some Jvm.ClassFile.FieldType.boolean), 0, 0) 1 ps = true := ⟨[1005, 3151, 3149, 3150], by decide +kernel⟩
theorem ck_73 : zCok zTabs zCl zNm zKm false (decide (zy_73.name = "<init>")) zy_73.cls prog_10_method_3_code cd_73 := zCok_of pp_73 (by decide +kernel)
theorem wk_73 : Jvm.Cond.code zy_73 prog_10_method_3_code 3 (Option.none : Option Jvm.ClassFile.FieldType) ∈ lw_tbl := zTabs_in tables_1_3 (List.mem_of_getElem? (i := 3) rfl) _ (List.mem_of_getElem? (i := 155) rfl)
theorem mk_73 : ∃ ps, zmok1 (zy_73, prog_10_method_3_code, 1) (cd_73, 3, (Option.none : Option Jvm.ClassFile.FieldType), 0, 0) 1 ps = true := ⟨[1005, 3155, 3153, 3154], by decide +kernel⟩
theorem ck_74 : zCok zTabs zCl zNm zKm false (decide (zy_74.name = "<init>")) zy_74.cls prog_10_method_4_code cd_74 := zCok_of pp_74 (by decide +kernel)
theorem wk_74 : Jvm.Cond.code zy_74 prog_10_method_4_code 2 (Option.some Jvm.ClassFile.FieldType.int) ∈ lw_tbl := zTabs_in tables_1_3 (List.mem_of_getElem? (i := 3) rfl) _ (List.mem_of_getElem? (i := 163) rfl)
theorem mk_74 : ∃ ps, zmok1 (zy_74, prog_10_method_4_code, 1) (cd_74, 2, (Option.some Jvm.ClassFile.FieldType.int), 0, 0) 1 ps = true := ⟨[1005, 3163, 3161, 3162], by decide +kernel⟩
theorem ck_75 : zCok zTabs zCl zNm zKm false (decide (zy_75.name = "<init>")) zy_75.cls prog_10_method_5_code cd_75 := zCok_of pp_75 (by decide +kernel)
theorem wk_75 : Jvm.Cond.code zy_75 prog_10_method_5_code 2 (Option.some Jvm.ClassFile.FieldType.int) ∈ lw_tbl := zTabs_in tables_1_3 (List.mem_of_getElem? (i := 3) rfl) _ (List.mem_of_getElem? (i := 175) rfl)
theorem mk_75 : ∃ ps, zmok1 (zy_75, prog_10_method_5_code, 0) (cd_75, 2, (Option.some Jvm.ClassFile.FieldType.int), 0, 0) 1 ps = true := ⟨[1005, 3175, 3173, 3174], by decide +kernel⟩
theorem ck_76 : zCok zTabs zCl zNm zKm false (decide (zy_76.name = "<init>")) zy_76.cls prog_10_method_6_code cd_76 := zCok_of pp_76 (by decide +kernel)
theorem wk_76 : Jvm.Cond.code zy_76 prog_10_method_6_code 5 (Option.some Jvm.ClassFile.FieldType.boolean) ∈ lw_tbl := zTabs_in tables_1_3 (List.mem_of_getElem? (i := 3) rfl) _ (List.mem_of_getElem? (i := 179) rfl)
theorem mk_76 : ∃ ps, zmok1 (zy_76, prog_10_method_6_code, 0) (cd_76, 5, (Option.some Jvm.ClassFile.FieldType.boolean), 0, 0) 1 ps = true := ⟨[1005, 3179, 3178, 1], by decide +kernel⟩
theorem ck_77 : zCok zTabs zCl zNm zKm false (decide (zy_77.name = "<init>")) zy_77.cls prog_10_method_7_code cd_77 := zCok_of pp_77 (by decide +kernel)
theorem wk_77 : Jvm.Cond.code zy_77 prog_10_method_7_code 5 (Option.none : Option Jvm.ClassFile.FieldType) ∈ lw_tbl := zTabs_in tables_1_4 (List.mem_of_getElem? (i := 4) rfl) _ (List.mem_of_getElem? (i := 72) rfl)
theorem mk_77 : ∃ ps, zmok1 (zy_77, prog_10_method_7_code, 3) (cd_77, 5, (Option.none : Option Jvm.ClassFile.FieldType), 0, 0) 1 ps = true := ⟨[1005, 4072, 4071, 18], by decide +kernel⟩
theorem ck_78 : zCok zTabs zCl zNm zKm false (decide (zy_78.name = "<init>")) zy_78.cls prog_10_method_8_code cd_78 := zCok_of pp_78 (by decide +kernel)
theorem wk_78 : Jvm.Cond.code zy_78 prog_10_method_8_code 3 (Option.some Jvm.ClassFile.FieldType.boolean) ∈ lw_tbl := zTabs_in tables_1_4 (List.mem_of_getElem? (i := 4) rfl) _ (List.mem_of_getElem? (i := 44) rfl)
theorem mk_78 : ∃ ps, zmok1 (zy_78, prog_10_method_8_code, 1) (cd_78, 3, (Option.some Jvm.ClassFile.FieldType.boolean), 0, 0) 1 ps = true := ⟨[1005, 4044, 4043, 13], by decide +kernel⟩
theorem ck_79 : zCok zTabs zCl zNm zKm false (decide (zy_79.name = "<init>")) zy_79.cls prog_10_method_9_code cd_79 := zCok_of pp_79 (by decide +kernel)
theorem wk_79 : Jvm.Cond.code zy_79 prog_10_method_9_code 3 (Option.some Jvm.ClassFile.FieldType.boolean) ∈ lw_tbl := zTabs_in tables_1_4 (List.mem_of_getElem? (i := 4) rfl) _ (List.mem_of_getElem? (i := 48) rfl)
theorem mk_79 : ∃ ps, zmok1 (zy_79, prog_10_method_9_code, 1) (cd_79, 3, (Option.some Jvm.ClassFile.FieldType.boolean), 0, 0) 1 ps = true := ⟨[1005, 4048, 4047, 14], by decide +kernel⟩
theorem ck_80 : zCok zTabs zCl zNm zKm false (decide (zy_80.name = "<init>")) zy_80.cls prog_10_method_10_code cd_80 := zCok_of pp_80 (by decide +kernel)
theorem wk_80 : Jvm.Cond.code zy_80 prog_10_method_10_code 4 (Option.some Jvm.ClassFile.FieldType.boolean) ∈ lw_tbl := zTabs_in tables_1_4 (List.mem_of_getElem? (i := 4) rfl) _ (List.mem_of_getElem? (i := 52) rfl)
theorem mk_80 : ∃ ps, zmok1 (zy_80, prog_10_method_10_code, 1) (cd_80, 4, (Option.some Jvm.ClassFile.FieldType.boolean), 0, 0) 1 ps = true := ⟨[1005, 4052, 4051, 15], by decide +kernel⟩
theorem ck_81 : zCok zTabs zCl zNm zKm false (decide (zy_81.name = "<init>")) zy_81.cls prog_10_method_11_code cd_81 := zCok_of pp_81 (by decide +kernel)
theorem wk_81 : Jvm.Cond.code zy_81 prog_10_method_11_code 3 (Option.some Jvm.ClassFile.FieldType.boolean) ∈ lw_tbl := zTabs_in tables_1_4 (List.mem_of_getElem? (i := 4) rfl) _ (List.mem_of_getElem? (i := 56) rfl)
theorem mk_81 : ∃ ps, zmok1 (zy_81, prog_10_method_11_code, 1) (cd_81, 3, (Option.some Jvm.ClassFile.FieldType.boolean), 0, 0) 1 ps = true := ⟨[1005, 4056, 4055, 16], by decide +kernel⟩
theorem ck_82 : zCok zTabs zCl zNm zKm false (decide (zy_82.name = "<init>")) zy_82.cls prog_10_method_12_code cd_82 := zCok_of pp_82 (by decide +kernel)
theorem wk_82 : Jvm.Cond.code zy_82 prog_10_method_12_code 2 (Option.some Jvm.ClassFile.FieldType.int) ∈ lw_tbl := zTabs_in tables_1_4 (List.mem_of_getElem? (i := 4) rfl) _ (List.mem_of_getElem? (i := 60) rfl)
theorem mk_82 : ∃ ps, zmok1 (zy_82, prog_10_method_12_code, 0) (cd_82, 2, (Option.some Jvm.ClassFile.FieldType.int), 0, 0) 1 ps = true := ⟨[1005, 4060, 4059, 17], by decide +kernel⟩
theorem ck_83 : zCok zTabs zCl zNm zKm false (decide (zy_83.name = "<init>")) zy_83.cls prog_10_method_13_code cd_83 := zCok_of pp_83 (by decide +kernel)
theorem wk_83 : Jvm.Cond.code zy_83 prog_10_method_13_code 4 (Option.some Jvm.ClassFile.FieldType.boolean) ∈ lw_tbl := zTabs_in tables_1_4 (List.mem_of_getElem? (i := 4) rfl) _ (List.mem_of_getElem? (i := 12) rfl)
theorem mk_83 : ∃ ps, zmok1 (zy_83, prog_10_method_13_code, 1) (cd_83, 4, (Option.some Jvm.ClassFile.FieldType.boolean), 0, 0) 1 ps = true := ⟨[1005, 4012, 4011, 6], by decide +kernel⟩
theorem ck_84 : zCok zTabs zCl zNm zKm false (decide (zy_84.name = "<init>")) zy_84.cls prog_10_method_14_code cd_84 := zCok_of pp_84 (by decide +kernel)
theorem wk_84 : Jvm.Cond.code zy_84 prog_10_method_14_code 3 (Option.some Jvm.ClassFile.FieldType.boolean) ∈ lw_tbl := zTabs_in tables_1_4 (List.mem_of_getElem? (i := 4) rfl) _ (List.mem_of_getElem? (i := 16) rfl)
theorem mk_84 : ∃ ps, zmok1 (zy_84, prog_10_method_14_code, 1) (cd_84, 3, (Option.some Jvm.ClassFile.FieldType.boolean), 0, 0) 1 ps = true := ⟨[1005, 4016, 4015, 7], by decide +kernel⟩
theorem ck_85 : zCok zTabs zCl zNm zKm false (decide (zy_85.name = "<init>")) zy_85.cls prog_10_method_15_code cd_85 := zCok_of pp_85 (by decide +kernel)
theorem wk_85 : Jvm.Cond.code zy_85 prog_10_method_15_code 5 (Option.some Jvm.ClassFile.FieldType.boolean) ∈ lw_tbl := zTabs_in tables_1_4 (List.mem_of_getElem? (i := 4) rfl) _ (List.mem_of_getElem? (i := 20) rfl)
theorem mk_85 : ∃ ps, zmok1 (zy_85, prog_10_method_15_code, 1) (cd_85, 5, (Option.some Jvm.ClassFile.FieldType.boolean), 0, 0) 1 ps = true := ⟨[1005, 4020, 4019, 8], by decide +kernel⟩
theorem ck_86 : zCok zTabs zCl zNm zKm false (decide (zy_86.name = "<init>")) zy_86.cls prog_10_method_16_code cd_86 := zCok_of pp_86 (by decide +kernel)
theorem wk_86 : Jvm.Cond.code zy_86 prog_10_method_16_code 2 (Option.some Jvm.ClassFile.FieldType.boolean) ∈ lw_tbl := zTabs_in tables_1_4 (List.mem_of_getElem? (i := 4) rfl) _ (List.mem_of_getElem? (i := 32) rfl)
theorem mk_86 : ∃ ps, zmok1 (zy_86, prog_10_method_16_code, 1) (cd_86, 2, (Option.some Jvm.ClassFile.FieldType.boolean), 0, 0) 1 ps = true := ⟨[1005, 4032, 4031, 11], by decide +kernel⟩
theorem ck_87 : zCok zTabs zCl zNm zKm false (decide (zy_87.name = "<init>")) zy_87.cls prog_10_method_17_code cd_87 := zCok_of pp_87 (by decide +kernel)
theorem wk_87 : Jvm.Cond.code zy_87 prog_10_method_17_code 1 (Option.some Jvm.ClassFile.FieldType.boolean) ∈ lw_tbl := zTabs_in tables_1_4 (List.mem_of_getElem? (i := 4) rfl) _ (List.mem_of_getElem? (i := 24) rfl)
theorem mk_87 : ∃ ps, zmok1 (zy_87, prog_10_method_17_code, 0) (cd_87, 1, (Option.some Jvm.ClassFile.FieldType.boolean), 0, 0) 1 ps = true := ⟨[1005, 4024, 4023, 9], by decide +kernel⟩
theorem ck_88 : zCok zTabs zCl zNm zKm false (decide (zy_88.name = "<init>")) zy_88.cls prog_10_method_18_code cd_88 := zCok_of pp_88 (by decide +kernel)
theorem wk_88 : Jvm.Cond.code zy_88 prog_10_method_18_code 2 (Option.some Jvm.ClassFile.FieldType.boolean) ∈ lw_tbl := zTabs_in tables_1_4 (List.mem_of_getElem? (i := 4) rfl) _ (List.mem_of_getElem? (i := 28) rfl)
theorem mk_88 : ∃ ps, zmok1 (zy_88, prog_10_method_18_code, 1) (cd_88, 2, (Option.some Jvm.ClassFile.FieldType.boolean), 0, 0) 1 ps = true := ⟨[1005, 4028, 4027, 10], by decide +kernel⟩
theorem ck_89 : zCok zTabs zCl zNm zKm false (decide (zy_89.name = "<init>")) zy_89.cls prog_10_method_19_code cd_89 := zCok_of pp_89 (by decide +kernel)
theorem wk_89 : Jvm.Cond.code zy_89 prog_10_method_19_code 5 (Option.some Jvm.ClassFile.FieldType.int) ∈ lw_tbl := zTabs_in tables_1_4 (List.mem_of_getElem? (i := 4) rfl) _ (List.mem_of_getElem? (i := 4) rfl)
theorem mk_89 : ∃ ps, zmok1 (zy_89, prog_10_method_19_code, 1) (cd_89, 5, (Option.some Jvm.ClassFile.FieldType.int), 0, 0) 1 ps = true := ⟨[1005, 4004, 4003, 5], by decide +kernel⟩
theorem ck_90 : zCok zTabs zCl zNm zKm false (decide (zy_90.name = "<init>")) zy_90.cls prog_10_method_20_code cd_90 := zCok_of pp_90 (by decide +kernel)
theorem wk_90 : Jvm.Cond.code zy_90 prog_10_method_20_code 1 (Option.some Jvm.ClassFile.FieldType.int) ∈ lw_tbl := zTabs_in tables_1_3 (List.mem_of_getElem? (i := 3) rfl) _ (List.mem_of_getElem? (i := 187) rfl)
theorem mk_90 : ∃ ps, zmok1 (zy_90, prog_10_method_20_code, 0) (cd_90, 1, (Option.some Jvm.ClassFile.FieldType.int), 0, 0) 1 ps = true := ⟨[1005, 3187, 3186, 3], by decide +kernel⟩
theorem ck_91 : zCok zTabs zCl zNm zKm false (decide (zy_91.name = "<init>")) zy_91.cls prog_10_method_21_code cd_91 := zCok_of pp_91 (by decide +kernel)
theorem wk_91 : Jvm.Cond.code zy_91 prog_10_method_21_code 6 (Option.some Jvm.ClassFile.FieldType.int) ∈ lw_tbl := zTabs_in tables_1_3 (List.mem_of_getElem? (i := 3) rfl) _ (List.mem_of_getElem? (i := 183) rfl)
theorem mk_91 : ∃ ps, zmok1 (zy_91, prog_10_method_21_code, 0) (cd_91, 6, (Option.some Jvm.ClassFile.FieldType.int), 0, 0) 1 ps = true := ⟨[1005, 3183, 3182, 2], by decide +kernel⟩
theorem ck_92 : zCok zTabs zCl zNm zKm false (decide (zy_92.name = "<init>")) zy_92.cls prog_10_method_22_code cd_92 := zCok_of pp_92 (by decide +kernel)
theorem wk_92 : Jvm.Cond.code zy_92 prog_10_method_22_code 2 (Option.none : Option Jvm.ClassFile.FieldType) ∈ lw_tbl := zTabs_in tables_1_4 (List.mem_of_getElem? (i := 4) rfl) _ (List.mem_of_getElem? (i := 36) rfl)
theorem mk_92 : ∃ ps, zmok1 (zy_92, prog_10_method_22_code, 1) (cd_92, 2, (Option.none : Option Jvm.ClassFile.FieldType), 0, 0) 1 ps = true := ⟨[1005, 4036, 4035, 12], by decide +kernel⟩
theorem ck_93 : zCok zTabs zCl zNm zKm false (decide (zy_93.name = "<init>")) zy_93.cls prog_10_method_23_code cd_93 := zCok_of pp_93 (by decide +kernel)
theorem wk_93 : Jvm.Cond.code zy_93 prog_10_method_23_code 3 (Option.some Jvm.ClassFile.FieldType.boolean) ∈ lw_tbl := zTabs_in tables_1_4 (List.mem_of_getElem? (i := 4) rfl) _ (List.mem_of_getElem? (i := 0) rfl)
theorem mk_93 : ∃ ps, zmok1 (zy_93, prog_10_method_23_code, 2) (cd_93, 3, (Option.some Jvm.ClassFile.FieldType.boolean), 0, 0) 1 ps = true := ⟨[1005, 4000, 3239, 4], by decide +kernel⟩
theorem ck_94 : zCok zTabs zCl zNm zKm false (decide (zy_94.name = "<init>")) zy_94.cls prog_11_method_1_code cd_94 := zCok_of pp_94 (by decide +kernel)
theorem wk_94 : Jvm.Cond.code zy_94 prog_11_method_1_code 1 (Option.none : Option Jvm.ClassFile.FieldType) ∈ lw_tbl := zTabs_in tables_1_2 (List.mem_of_getElem? (i := 2) rfl) _ (List.mem_of_getElem? (i := 121) rfl)
theorem mk_94 : ∃ ps, zmok1 (zy_94, prog_11_method_1_code, 0) (cd_94, 1, (Option.none : Option Jvm.ClassFile.FieldType), 12, 108) 2 ps = true := ⟨[1012, 2121, 2120], by decide +kernel⟩
theorem ck_95 : zCok zTabs zCl zNm zKm false (decide (zy_95.name = "<init>")) zy_95.cls prog_11_method_2_code cd_95 := zCok_of pp_95 (by decide +kernel)
theorem wk_95 : Jvm.Cond.code zy_95 prog_11_method_2_code 2 (Option.some Jvm.ClassFile.FieldType.boolean) ∈ lw_tbl := zTabs_in tables_1_6 (List.mem_of_getElem? (i := 6) rfl) _ (List.mem_of_getElem? (i := 12) rfl)
theorem mk_95 : ∃ ps, zmok1 (zy_95, prog_11_method_2_code, 1) (cd_95, 2, (Option.some Jvm.ClassFile.FieldType.boolean), 0, 0) 1 ps = true := ⟨[1012, 6012, 6010, 6011], by decide +kernel⟩
theorem ck_96 : zCok zTabs zCl zNm zKm false (decide (zy_96.name = "<init>")) zy_96.cls prog_11_method_3_code cd_96 := zCok_of pp_96 (by decide +kernel)
theorem wk_96 : Jvm.Cond.code zy_96 prog_11_method_3_code 3 (Option.some Jvm.ClassFile.FieldType.int) ∈ lw_tbl := zTabs_in tables_1_6 (List.mem_of_getElem? (i := 6) rfl) _ (List.mem_of_getElem? (i := 4) rfl)
theorem mk_96 : ∃ ps, zmok1 (zy_96, prog_11_method_3_code, 2) (cd_96, 3, (Option.some Jvm.ClassFile.FieldType.int), 0, 0) 1 ps = true := ⟨[1012, 6004, 6002, 6003], by decide +kernel⟩
theorem ck_97 : zCok zTabs zCl zNm zKm false (decide (zy_97.name = "<init>")) zy_97.cls prog_11_method_4_code cd_97 := zCok_of pp_97 (by decide +kernel)
theorem wk_97 : Jvm.Cond.code zy_97 prog_11_method_4_code 5 (Option.some Jvm.ClassFile.FieldType.int) ∈ lw_tbl := zTabs_in tables_1_6 (List.mem_of_getElem? (i := 6) rfl) _ (List.mem_of_getElem? (i := 16) rfl)
theorem mk_97 : ∃ ps, zmok1 (zy_97, prog_11_method_4_code, 3) (cd_97, 5, (Option.some Jvm.ClassFile.FieldType.int), 0, 0) 1 ps = true := ⟨[1012, 6016, 6014, 6015], by decide +kernel⟩
theorem ck_98 : zCok zTabs zCl zNm zKm false (decide (zy_98.name = "<init>")) zy_98.cls prog_11_method_5_code cd_98 := zCok_of pp_98 (by decide +kernel)
theorem wk_98 : Jvm.Cond.code zy_98 prog_11_method_5_code 6 (Option.some Jvm.ClassFile.FieldType.int) ∈ lw_tbl := zTabs_in tables_1_6 (List.mem_of_getElem? (i := 6) rfl) _ (List.mem_of_getElem? (i := 24) rfl)
theorem mk_98 : ∃ ps, zmok1 (zy_98, prog_11_method_5_code, 1) (cd_98, 6, (Option.some Jvm.ClassFile.FieldType.int), 0, 0) 1 ps = true := ⟨[1012, 6024, 6022, 6023], by decide +kernel⟩
theorem ck_99 : zCok zTabs zCl zNm zKm false (decide (zy_99.name = "<init>")) zy_99.cls prog_11_method_6_code cd_99 := zCok_of pp_99 (by decide +kernel)
theorem wk_99 : Jvm.Cond.code zy_99 prog_11_method_6_code 4 (Option.some Jvm.ClassFile.FieldType.int) ∈ lw_tbl := zTabs_in tables_1_6 (List.mem_of_getElem? (i := 6) rfl) _ (List.mem_of_getElem? (i := 28) rfl)
theorem mk_99 : ∃ ps, zmok1 (zy_99, prog_11_method_6_code, 1) (cd_99, 4, (Option.some Jvm.ClassFile.FieldType.int), 0, 0) 1 ps = true := ⟨[1012, 6028, 6027, 31], by decide +kernel⟩
theorem ck_100 : zCok zTabs zCl zNm zKm false (decide (zy_100.name = "<init>")) zy_100.cls prog_11_method_7_code cd_100 := zCok_of pp_100 (by decide +kernel)
theorem wk_100 : Jvm.Cond.code zy_100 prog_11_method_7_code 5 (Option.some Jvm.ClassFile.FieldType.int) ∈ lw_tbl := zTabs_in tables_1_6 (List.mem_of_getElem? (i := 6) rfl) _ (List.mem_of_getElem? (i := 32) rfl)
theorem mk_100 : ∃ ps, zmok1 (zy_100, prog_11_method_7_code, 1) (cd_100, 5, (Option.some Jvm.ClassFile.FieldType.int), 0, 0) 1 ps = true := ⟨[1012, 6032, 6031, 32], by decide +kernel⟩
theorem ck_101 : zCok zTabs zCl zNm zKm false (decide (zy_101.name = "<init>")) zy_101.cls prog_12_method_1_code cd_101 := zCok_of pp_101 (by decide +kernel)
theorem wk_101 : Jvm.Cond.code zy_101 prog_12_method_1_code 1 (Option.none : Option Jvm.ClassFile.FieldType) ∈ lw_tbl := zTabs_in tables_1_1 (List.mem_of_getElem? (i := 1) rfl) _ (List.mem_of_getElem? (i := 189) rfl)
theorem mk_101 : ∃ ps, zmok1 (zy_101, prog_12_method_1_code, 0) (cd_101, 1, (Option.none : Option Jvm.ClassFile.FieldType), 8, 2800) 2 ps = true := ⟨[1007, 1189, 1188], by decide +kernel⟩
theorem ck_102 : zCok zTabs zCl zNm zKm false (decide (zy_102.name = "<init>")) zy_102.cls prog_12_method_2_code cd_102 := zCok_of pp_102 (by decide +kernel)
theorem wk_102 : Jvm.Cond.code zy_102 prog_12_method_2_code 2 (Option.some Jvm.ClassFile.FieldType.boolean) ∈ lw_tbl := zTabs_in tables_1_4 (List.mem_of_getElem? (i := 4) rfl) _ (List.mem_of_getElem? (i := 186) rfl)
theorem mk_102 : ∃ ps, zmok1 (zy_102, prog_12_method_2_code, 1) (cd_102, 2, (Option.some Jvm.ClassFile.FieldType.boolean), 0, 0) 1 ps = true := ⟨[1007, 4186, 4184, 4185], by decide +kernel⟩
theorem ck_103 : zCok zTabs zCl zNm zKm false (decide (zy_103.name = "<init>")) zy_103.cls prog_12_method_3_code cd_103 := zCok_of pp_103 (by decide +kernel)
theorem wk_103 : Jvm.Cond.code zy_103 prog_12_method_3_code 5 (Option.some Jvm.ClassFile.FieldType.int) ∈ lw_tbl := zTabs_in tables_1_4 (List.mem_of_getElem? (i := 4) rfl) _ (List.mem_of_getElem? (i := 178) rfl)
theorem mk_103 : ∃ ps, zmok1 (zy_103, prog_12_method_3_code, 4) (cd_103, 5, (Option.some Jvm.ClassFile.FieldType.int), 0, 0) 1 ps = true := ⟨[1007, 4178, 4176, 4177], by decide +kernel⟩
theorem ck_104 : zCok zTabs zCl zNm zKm false (decide (zy_104.name = "<init>")) zy_104.cls prog_12_method_4_code cd_104 := zCok_of pp_104 (by decide +kernel)
theorem wk_104 : Jvm.Cond.code zy_104 prog_12_method_4_code 4 (Option.some Jvm.ClassFile.FieldType.boolean) ∈ lw_tbl := zTabs_in tables_1_4 (List.mem_of_getElem? (i := 4) rfl) _ (List.mem_of_getElem? (i := 190) rfl)
theorem mk_104 : ∃ ps, zmok1 (zy_104, prog_12_method_4_code, 3) (cd_104, 4, (Option.some Jvm.ClassFile.FieldType.boolean), 0, 0) 1 ps = true := ⟨[1007, 4190, 4188, 4189], by decide +kernel⟩
theorem ck_105 : zCok zTabs zCl zNm zKm false (decide (zy_105.name = "<init>")) zy_105.cls prog_12_method_5_code cd_105 := zCok_of pp_105 (by decide +kernel)
theorem wk_105 : Jvm.Cond.code zy_105 prog_12_method_5_code 4 (Option.some Jvm.ClassFile.FieldType.boolean) ∈ lw_tbl := zTabs_in tables_1_4 (List.mem_of_getElem? (i := 4) rfl) _ (List.mem_of_getElem? (i := 202) rfl)
theorem mk_105 : ∃ ps, zmok1 (zy_105, prog_12_method_5_code, 3) (cd_105, 4, (Option.some Jvm.ClassFile.FieldType.boolean), 0, 0) 1 ps = true := ⟨[1007, 4202, 4201, 24], by decide +kernel⟩
theorem ck_106 : zCok zTabs zCl zNm zKm false (decide (zy_106.name = "<init>")) zy_106.cls prog_12_method_6_code cd_106 := zCok_of pp_106 (by decide +kernel)
theorem wk_106 : Jvm.Cond.code zy_106 prog_12_method_6_code 8 (Option.some Jvm.ClassFile.FieldType.int) ∈ lw_tbl := zTabs_in tables_1_4 (List.mem_of_getElem? (i := 4) rfl) _ (List.mem_of_getElem? (i := 198) rfl)
theorem mk_106 : ∃ ps, zmok1 (zy_106, prog_12_method_6_code, 4) (cd_106, 8, (Option.some Jvm.ClassFile.FieldType.int), 0, 0) 1 ps = true := ⟨[1007, 4198, 4196, 4197], by decide +kernel⟩
theorem ck_107 : zCok zTabs zCl zNm zKm false (decide (zy_107.name = "<init>")) zy_107.cls prog_12_method_7_code cd_107 := zCok_of pp_107 (by decide +kernel)
theorem wk_107 : Jvm.Cond.code zy_107 prog_12_method_7_code 8 (Option.some Jvm.ClassFile.FieldType.int) ∈ lw_tbl := zTabs_in tables_1_4 (List.mem_of_getElem? (i := 4) rfl) _ (List.mem_of_getElem? (i := 207) rfl)
theorem mk_107 : ∃ ps, zmok1 (zy_107, prog_12_method_7_code, 4) (cd_107, 8, (Option.some Jvm.ClassFile.FieldType.int), 0, 0) 1 ps = true := ⟨[1007, 4207, 4205, 4206], by decide +kernel⟩
theorem ck_108 : zCok zTabs zCl zNm zKm false (decide (zy_108.name = "<init>")) zy_108.cls prog_12_method_8_code cd_108 := zCok_of pp_108 (by decide +kernel)
theorem wk_108 : Jvm.Cond.code zy_108 prog_12_method_8_code 9 (Option.none : Option Jvm.ClassFile.FieldType) ∈ lw_tbl := zTabs_in tables_1_4 (List.mem_of_getElem? (i := 4) rfl) _ (List.mem_of_getElem? (i := 222) rfl)
theorem mk_108 : ∃ ps, zmok1 (zy_108, prog_12_method_8_code, 4) (cd_108, 9, (Option.none : Option Jvm.ClassFile.FieldType), 0, 0) 1 ps = true := ⟨[1007, 4222, 4220, 4221], by decide +kernel⟩
theorem ck_109 : zCok zTabs zCl zNm zKm false (decide (zy_109.name = "<init>")) zy_109.cls prog_1_method_1_code cd_109 := zCok_of pp_109 (by decide +kernel)
theorem wk_109 : Jvm.Cond.code zy_109 prog_1_method_1_code 1 (Option.none : Option Jvm.ClassFile.FieldType) ∈ lw_tbl := zTabs_in tables_1_1 (List.mem_of_getElem? (i := 1) rfl) _ (List.mem_of_getElem? (i := 25) rfl)
theorem mk_109 : ∃ ps, zmok1 (zy_109, prog_1_method_1_code, 0) (cd_109, 1, (Option.none : Option Jvm.ClassFile.FieldType), 110, 10850) 2 ps = true := ⟨[1001, 1025, 1024], by decide +kernel⟩
theorem ck_110 : zCok zTabs zCl zNm zKm false (decide (zy_110.name = "<init>")) zy_110.cls prog_1_method_2_code cd_110 := zCok_of pp_110 (by decide +kernel)
theorem wk_110 : Jvm.Cond.code zy_110 prog_1_method_2_code 2 (Option.some Jvm.ClassFile.FieldType.boolean) ∈ lw_tbl := zTabs_in tables_1_2 (List.mem_of_getElem? (i := 2) rfl) _ (List.mem_of_getElem? (i := 194) rfl)
theorem mk_110 : ∃ ps, zmok1 (zy_110, prog_1_method_2_code, 1) (cd_110, 2, (Option.some Jvm.ClassFile.FieldType.boolean), 0, 0) 1 ps = true := ⟨[1001, 2194, 2192, 2193], by decide +kernel⟩
theorem ck_111 : zCok zTabs zCl zNm zKm false (decide (zy_111.name = "<init>")) zy_111.cls prog_1_method_3_code cd_111 := zCok_of pp_111 (by decide +kernel)
theorem wk_111 : Jvm.Cond.code zy_111 prog_1_method_3_code 2 (Option.some Jvm.ClassFile.FieldType.int) ∈ lw_tbl := zTabs_in tables_1_2 (List.mem_of_getElem? (i := 2) rfl) _ (List.mem_of_getElem? (i := 204) rfl)
theorem mk_111 : ∃ ps, zmok1 (zy_111, prog_1_method_3_code, 1) (cd_111, 2, (Option.some Jvm.ClassFile.FieldType.int), 0, 0) 1 ps = true := ⟨[1001, 2204, 2202, 2203], by decide +kernel⟩
theorem ck_112 : zCok zTabs zCl zNm zKm false (decide (zy_112.name = "<init>")) zy_112.cls prog_1_method_4_code cd_112 := zCok_of pp_112 (by decide +kernel)
theorem wk_112 : Jvm.Cond.code zy_112 prog_1_method_4_code 3 (Option.some Jvm.ClassFile.FieldType.int) ∈ lw_tbl := zTabs_in tables_1_2 (List.mem_of_getElem? (i := 2) rfl) _ (List.mem_of_getElem? (i := 215) rfl)
theorem mk_112 : ∃ ps, zmok1 (zy_112, prog_1_method_4_code, 2) (cd_112, 3, (Option.some Jvm.ClassFile.FieldType.int), 0, 0) 1 ps = true := ⟨[1001, 2215, 2213, 2214], by decide +kernel⟩
theorem ck_113 : zCok zTabs zCl zNm zKm false (decide (zy_113.name = "<init>")) zy_113.cls prog_1_method_5_code cd_113 := zCok_of pp_113 (by decide +kernel)
theorem wk_113 : Jvm.Cond.code zy_113 prog_1_method_5_code 6 (Option.some Jvm.ClassFile.FieldType.int) ∈ lw_tbl := zTabs_in tables_1_2 (List.mem_of_getElem? (i := 2) rfl) _ (List.mem_of_getElem? (i := 226) rfl)
theorem mk_113 : ∃ ps, zmok1 (zy_113, prog_1_method_5_code, 4) (cd_113, 6, (Option.some Jvm.ClassFile.FieldType.int), 0, 0) 1 ps = true := ⟨[1001, 2226, 2224, 2225], by decide +kernel⟩
theorem ck_114 : zCok zTabs zCl zNm zKm false (decide (zy_114.name = "<init>")) zy_114.cls prog_1_method_6_code cd_114 := zCok_of pp_114 (by decide +kernel)
theorem wk_114 : Jvm.Cond.code zy_114 prog_1_method_6_code 6 (Option.some Jvm.ClassFile.FieldType.int) ∈ lw_tbl := zTabs_in tables_1_2 (List.mem_of_getElem? (i := 2) rfl) _ (List.mem_of_getElem? (i := 238) rfl)
theorem mk_114 : ∃ ps, zmok1 (zy_114, prog_1_method_6_code, 4) (cd_114, 6, (Option.some Jvm.ClassFile.FieldType.int), 0, 0) 1 ps = true := ⟨[1001, 2238, 2236, 2237], by decide +kernel⟩
theorem ck_115 : zCok zTabs zCl zNm zKm false (decide (zy_115.name = "<init>")) zy_115.cls prog_1_method_7_code cd_115 := zCok_of pp_115 (by decide +kernel)
theorem wk_115 : Jvm.Cond.code zy_115 prog_1_method_7_code 4 (Option.some Jvm.ClassFile.FieldType.boolean) ∈ lw_tbl := zTabs_in tables_1_3 (List.mem_of_getElem? (i := 3) rfl) _ (List.mem_of_getElem? (i := 6) rfl)
theorem mk_115 : ∃ ps, zmok1 (zy_115, prog_1_method_7_code, 3) (cd_115, 4, (Option.some Jvm.ClassFile.FieldType.boolean), 0, 0) 1 ps = true := ⟨[1001, 3006, 3004, 3005], by decide +kernel⟩
theorem ck_116 : zCok zTabs zCl zNm zKm false (decide (zy_116.name = "<init>")) zy_116.cls prog_1_method_8_code cd_116 := zCok_of pp_116 (by decide +kernel)
theorem wk_116 : Jvm.Cond.code zy_116 prog_1_method_8_code 5 (Option.some Jvm.ClassFile.FieldType.int) ∈ lw_tbl := zTabs_in tables_1_3 (List.mem_of_getElem? (i := 3) rfl) _ (List.mem_of_getElem? (i := 22) rfl)
theorem mk_116 : ∃ ps, zmok1 (zy_116, prog_1_method_8_code, 3) (cd_116, 5, (Option.some Jvm.ClassFile.FieldType.int), 2, 23) 1 ps = true := ⟨[1001, 3022, 3020, 3021], by decide +kernel⟩
theorem ck_117 : zCok zTabs zCl zNm zKm false (decide (zy_117.name = "<init>")) zy_117.cls prog_1_method_9_code cd_117 := zCok_of pp_117 (by decide +kernel)
theorem wk_117 : Jvm.Cond.code zy_117 prog_1_method_9_code 5 (Option.some Jvm.ClassFile.FieldType.boolean) ∈ lw_tbl := zTabs_in tables_1_3 (List.mem_of_getElem? (i := 3) rfl) _ (List.mem_of_getElem? (i := 90) rfl)
theorem mk_117 : ∃ ps, zmok1 (zy_117, prog_1_method_9_code, 3) (cd_117, 5, (Option.some Jvm.ClassFile.FieldType.boolean), 0, 0) 1 ps = true := ⟨[1001, 3090, 3088, 3089], by decide +kernel⟩
theorem ck_118 : zCok zTabs zCl zNm zKm false (decide (zy_118.name = "<init>")) zy_118.cls prog_1_method_10_code cd_118 := zCok_of pp_118 (by decide +kernel)
theorem wk_118 : Jvm.Cond.code zy_118 prog_1_method_10_code 5 (Option.some Jvm.ClassFile.FieldType.int) ∈ lw_tbl := zTabs_in tables_1_3 (List.mem_of_getElem? (i := 3) rfl) _ (List.mem_of_getElem? (i := 103) rfl)
theorem mk_118 : ∃ ps, zmok1 (zy_118, prog_1_method_10_code, 3) (cd_118, 5, (Option.some Jvm.ClassFile.FieldType.int), 0, 0) 1 ps = true := ⟨[1001, 3103, 3101, 3102], by decide +kernel⟩
theorem ck_119 : zCok zTabs zCl zNm zKm false (decide (zy_119.name = "<init>")) zy_119.cls prog_1_method_11_code cd_119 := zCok_of pp_119 (by decide +kernel)
theorem wk_119 : Jvm.Cond.code zy_119 prog_1_method_11_code 4 (Option.some Jvm.ClassFile.FieldType.int) ∈ lw_tbl := zTabs_in tables_1_3 (List.mem_of_getElem? (i := 3) rfl) _ (List.mem_of_getElem? (i := 111) rfl)
theorem mk_119 : ∃ ps, zmok1 (zy_119, prog_1_method_11_code, 2) (cd_119, 4, (Option.some Jvm.ClassFile.FieldType.int), 0, 0) 1 ps = true := ⟨[1001, 3111, 3109, 3110], by decide +kernel⟩
theorem ck_120 : zCok zTabs zCl zNm zKm false (decide (zy_120.name = "<init>")) zy_120.cls prog_1_method_12_code cd_120 := zCok_of pp_120 (by decide +kernel)
theorem wk_120 : Jvm.Cond.code zy_120 prog_1_method_12_code 3 (Option.some Jvm.ClassFile.FieldType.int) ∈ lw_tbl := zTabs_in tables_1_3 (List.mem_of_getElem? (i := 3) rfl) _ (List.mem_of_getElem? (i := 127) rfl)
theorem mk_120 : ∃ ps, zmok1 (zy_120, prog_1_method_12_code, 2) (cd_120, 3, (Option.some Jvm.ClassFile.FieldType.int), 0, 0) 1 ps = true := ⟨[1001, 3127, 3125, 3126], by decide +kernel⟩
theorem ck_121 : zCok zTabs zCl zNm zKm false (decide (zy_121.name = "<init>")) zy_121.cls prog_1_method_13_code cd_121 := zCok_of pp_121 (by decide +kernel)
theorem wk_121 : Jvm.Cond.code zy_121 prog_1_method_13_code 8 (Option.some Jvm.ClassFile.FieldType.int) ∈ lw_tbl := zTabs_in tables_1_3 (List.mem_of_getElem? (i := 3) rfl) _ (List.mem_of_getElem? (i := 138) rfl)
theorem mk_121 : ∃ ps, zmok1 (zy_121, prog_1_method_13_code, 5) (cd_121, 8, (Option.some Jvm.ClassFile.FieldType.int), 0, 0) 1 ps = true := ⟨[1001, 3138, 3136, 3137], by decide +kernel⟩
theorem ck_122 : zCok zTabs zCl zNm zKm false (decide (zy_122.name = "<init>")) zy_122.cls prog_1_method_14_code cd_122 := zCok_of pp_122 (by decide +kernel)
theorem wk_122 : Jvm.Cond.code zy_122 prog_1_method_14_code 6 (Option.some Jvm.ClassFile.FieldType.int) ∈ lw_tbl := zTabs_in tables_1_3 (List.mem_of_getElem? (i := 3) rfl) _ (List.mem_of_getElem? (i := 147) rfl)
theorem mk_122 : ∃ ps, zmok1 (zy_122, prog_1_method_14_code, 5) (cd_122, 6, (Option.some Jvm.ClassFile.FieldType.int), 0, 0) 1 ps = true := ⟨[1001, 3147, 3145, 3146], by decide +kernel⟩
theorem ck_123 : zCok zTabs zCl zNm zKm false (decide (zy_123.name = "<init>")) zy_123.cls prog_1_method_15_code cd_123 := zCok_of pp_123 (by decide +kernel)
theorem wk_123 : Jvm.Cond.code zy_123 prog_1_method_15_code 2 (Option.some Jvm.ClassFile.FieldType.int) ∈ lw_tbl := zTabs_in tables_1_3 (List.mem_of_getElem? (i := 3) rfl) _ (List.mem_of_getElem? (i := 159) rfl)
theorem mk_123 : ∃ ps, zmok1 (zy_123, prog_1_method_15_code, 1) (cd_123, 2, (Option.some Jvm.ClassFile.FieldType.int), 0, 0) 1 ps = true := ⟨[1001, 3159, 3157, 3158], by decide +kernel⟩
theorem ck_124 : zCok zTabs zCl zNm zKm false (decide (zy_124.name = "<init>")) zy_124.cls prog_1_method_16_code cd_124 := zCok_of pp_124 (by decide +kernel)
theorem wk_124 : Jvm.Cond.code zy_124 prog_1_method_16_code 3 (Option.some Jvm.ClassFile.FieldType.int) ∈ lw_tbl := zTabs_in tables_1_3 (List.mem_of_getElem? (i := 3) rfl) _ (List.mem_of_getElem? (i := 167) rfl)
theorem mk_124 : ∃ ps, zmok1 (zy_124, prog_1_method_16_code, 1) (cd_124, 3, (Option.some Jvm.ClassFile.FieldType.int), 2, 800) 1 ps = true := ⟨[1001, 3167, 3165, 3166], by decide +kernel⟩
theorem ck_125 : zCok zTabs zCl zNm zKm false (decide (zy_125.name = "<init>")) zy_125.cls prog_1_method_17_code cd_125 := zCok_of pp_125 (by decide +kernel)
theorem wk_125 : Jvm.Cond.code zy_125 prog_1_method_17_code 2 (Option.some Jvm.ClassFile.FieldType.int) ∈ lw_tbl := zTabs_in tables_1_4 (List.mem_of_getElem? (i := 4) rfl) _ (List.mem_of_getElem? (i := 95) rfl)
theorem mk_125 : ∃ ps, zmok1 (zy_125, prog_1_method_17_code, 1) (cd_125, 2, (Option.some Jvm.ClassFile.FieldType.int), 0, 0) 1 ps = true := ⟨[1001, 4095, 4093, 4094], by decide +kernel⟩
theorem ck_126 : zCok zTabs zCl zNm zKm false (decide (zy_126.name = "<init>")) zy_126.cls prog_1_method_18_code cd_126 := zCok_of pp_126 (by decide +kernel)
theorem wk_126 : Jvm.Cond.code zy_126 prog_1_method_18_code 4 (Option.some Jvm.ClassFile.FieldType.int) ∈ lw_tbl := zTabs_in tables_1_4 (List.mem_of_getElem? (i := 4) rfl) _ (List.mem_of_getElem? (i := 103) rfl)
theorem mk_126 : ∃ ps, zmok1 (zy_126, prog_1_method_18_code, 3) (cd_126, 4, (Option.some Jvm.ClassFile.FieldType.int), 0, 0) 1 ps = true := ⟨[1001, 4103, 4101, 4102], by decide +kernel⟩
theorem ck_127 : zCok zTabs zCl zNm zKm false (decide (zy_127.name = "<init>")) zy_127.cls prog_1_method_19_code cd_127 := zCok_of pp_127 (by decide +kernel)
theorem wk_127 : Jvm.Cond.code zy_127 prog_1_method_19_code 5 (Option.some Jvm.ClassFile.FieldType.int) ∈ lw_tbl := zTabs_in tables_1_4 (List.mem_of_getElem? (i := 4) rfl) _ (List.mem_of_getElem? (i := 165) rfl)
theorem mk_127 : ∃ ps, zmok1 (zy_127, prog_1_method_19_code, 3) (cd_127, 5, (Option.some Jvm.ClassFile.FieldType.int), 0, 0) 1 ps = true := ⟨[1001, 4165, 4163, 4164], by decide +kernel⟩
theorem ck_128 : zCok zTabs zCl zNm zKm false (decide (zy_128.name = "<init>")) zy_128.cls prog_1_method_20_code cd_128 := zCok_of pp_128 (by decide +kernel)
theorem wk_128 : Jvm.Cond.code zy_128 prog_1_method_20_code 3 (Option.some Jvm.ClassFile.FieldType.int) ∈ lw_tbl := zTabs_in tables_1_4 (List.mem_of_getElem? (i := 4) rfl) _ (List.mem_of_getElem? (i := 170) rfl)
theorem mk_128 : ∃ ps, zmok1 (zy_128, prog_1_method_20_code, 2) (cd_128, 3, (Option.some Jvm.ClassFile.FieldType.int), 0, 0) 1 ps = true := ⟨[1001, 4170, 4168, 4169], by decide +kernel⟩
theorem ck_129 : zCok zTabs zCl zNm zKm false (decide (zy_129.name = "<init>")) zy_129.cls prog_1_method_21_code cd_129 := zCok_of pp_129 (by decide +kernel)
theorem wk_129 : Jvm.Cond.code zy_129 prog_1_method_21_code 6 (Option.some Jvm.ClassFile.FieldType.int) ∈ lw_tbl := zTabs_in tables_1_4 (List.mem_of_getElem? (i := 4) rfl) _ (List.mem_of_getElem? (i := 174) rfl)
theorem mk_129 : ∃ ps, zmok1 (zy_129, prog_1_method_21_code, 4) (cd_129, 6, (Option.some Jvm.ClassFile.FieldType.int), 0, 0) 1 ps = true := ⟨[1001, 4174, 4172, 4173], by decide +kernel⟩
theorem ck_130 : zCok zTabs zCl zNm zKm false (decide (zy_130.name = "<init>")) zy_130.cls prog_1_method_22_code cd_130 := zCok_of pp_130 (by decide +kernel)
theorem wk_130 : Jvm.Cond.code zy_130 prog_1_method_22_code 3 (Option.some Jvm.ClassFile.FieldType.boolean) ∈ lw_tbl := zTabs_in tables_1_4 (List.mem_of_getElem? (i := 4) rfl) _ (List.mem_of_getElem? (i := 182) rfl)
theorem mk_130 : ∃ ps, zmok1 (zy_130, prog_1_method_22_code, 2) (cd_130, 3, (Option.some Jvm.ClassFile.FieldType.boolean), 0, 0) 1 ps = true := ⟨[1001, 4182, 4180, 4181], by decide +kernel⟩
theorem ck_131 : zCok zTabs zCl zNm zKm false (decide (zy_131.name = "<init>")) zy_131.cls prog_1_method_23_code cd_131 := zCok_of pp_131 (by decide +kernel)
theorem wk_131 : Jvm.Cond.code zy_131 prog_1_method_23_code 7 (Option.some Jvm.ClassFile.FieldType.int) ∈ lw_tbl := zTabs_in tables_1_4 (List.mem_of_getElem? (i := 4) rfl) _ (List.mem_of_getElem? (i := 194) rfl)
theorem mk_131 : ∃ ps, zmok1 (zy_131, prog_1_method_23_code, 5) (cd_131, 7, (Option.some Jvm.ClassFile.FieldType.int), 0, 0) 1 ps = true := ⟨[1001, 4194, 4192, 4193], by decide +kernel⟩
theorem ck_132 : zCok zTabs zCl zNm zKm false (decide (zy_132.name = "<init>")) zy_132.cls prog_1_method_24_code cd_132 := zCok_of pp_132 (by decide +kernel)
theorem wk_132 : Jvm.Cond.code zy_132 prog_1_method_24_code 4 (Option.some Jvm.ClassFile.FieldType.int) ∈ lw_tbl := zTabs_in tables_1_4 (List.mem_of_getElem? (i := 4) rfl) _ (List.mem_of_getElem? (i := 214) rfl)
theorem mk_132 : ∃ ps, zmok1 (zy_132, prog_1_method_24_code, 3) (cd_132, 4, (Option.some Jvm.ClassFile.FieldType.int), 0, 0) 1 ps = true := ⟨[1001, 4214, 4212, 4213], by decide +kernel⟩
theorem ck_133 : zCok zTabs zCl zNm zKm false (decide (zy_133.name = "<init>")) zy_133.cls prog_1_method_25_code cd_133 := zCok_of pp_133 (by decide +kernel)
theorem wk_133 : Jvm.Cond.code zy_133 prog_1_method_25_code 10 (Option.some Jvm.ClassFile.FieldType.int) ∈ lw_tbl := zTabs_in tables_1_4 (List.mem_of_getElem? (i := 4) rfl) _ (List.mem_of_getElem? (i := 227) rfl)
theorem mk_133 : ∃ ps, zmok1 (zy_133, prog_1_method_25_code, 7) (cd_133, 10, (Option.some Jvm.ClassFile.FieldType.int), 0, 0) 1 ps = true := ⟨[1001, 4227, 4225, 4226], by decide +kernel⟩
theorem ck_134 : zCok zTabs zCl zNm zKm false (decide (zy_134.name = "<init>")) zy_134.cls prog_1_method_26_code cd_134 := zCok_of pp_134 (by decide +kernel)
theorem wk_134 : Jvm.Cond.code zy_134 prog_1_method_26_code 5 (Option.some Jvm.ClassFile.FieldType.int) ∈ lw_tbl := zTabs_in tables_1_5 (List.mem_of_getElem? (i := 5) rfl) _ (List.mem_of_getElem? (i := 8) rfl)
theorem mk_134 : ∃ ps, zmok1 (zy_134, prog_1_method_26_code, 1) (cd_134, 5, (Option.some Jvm.ClassFile.FieldType.int), 0, 0) 1 ps = true := ⟨[1001, 5008, 5006, 5007], by decide +kernel⟩
theorem ck_135 : zCok zTabs zCl zNm zKm false (decide (zy_135.name = "<init>")) zy_135.cls prog_1_method_27_code cd_135 := zCok_of pp_135 (by decide +kernel)
theorem wk_135 : Jvm.Cond.code zy_135 prog_1_method_27_code 4 (Option.some Jvm.ClassFile.FieldType.long) ∈ lw_tbl := zTabs_in tables_1_5 (List.mem_of_getElem? (i := 5) rfl) _ (List.mem_of_getElem? (i := 13) rfl)
theorem mk_135 : ∃ ps, zmok1 (zy_135, prog_1_method_27_code, 3) (cd_135, 4, (Option.some Jvm.ClassFile.FieldType.long), 0, 0) 1 ps = true := ⟨[1001, 5013, 5011, 5012], by decide +kernel⟩
theorem ck_136 : zCok zTabs zCl zNm zKm false (decide (zy_136.name = "<init>")) zy_136.cls prog_1_method_28_code cd_136 := zCok_of pp_136 (by decide +kernel)
theorem wk_136 : Jvm.Cond.code zy_136 prog_1_method_28_code 2 (Option.some Jvm.ClassFile.FieldType.int) ∈ lw_tbl := zTabs_in tables_1_5 (List.mem_of_getElem? (i := 5) rfl) _ (List.mem_of_getElem? (i := 31) rfl)
theorem mk_136 : ∃ ps, zmok1 (zy_136, prog_1_method_28_code, 1) (cd_136, 2, (Option.some Jvm.ClassFile.FieldType.int), 0, 0) 1 ps = true := ⟨[1001, 5031, 5029, 5030], by decide +kernel⟩
theorem ck_137 : zCok zTabs zCl zNm zKm false (decide (zy_137.name = "<init>")) zy_137.cls prog_1_method_29_code cd_137 := zCok_of pp_137 (by decide +kernel)
theorem wk_137 : Jvm.Cond.code zy_137 prog_1_method_29_code 6 (Option.some Jvm.ClassFile.FieldType.int) ∈ lw_tbl := zTabs_in tables_1_5 (List.mem_of_getElem? (i := 5) rfl) _ (List.mem_of_getElem? (i := 39) rfl)
theorem mk_137 : ∃ ps, zmok1 (zy_137, prog_1_method_29_code, 4) (cd_137, 6, (Option.some Jvm.ClassFile.FieldType.int), 0, 0) 1 ps = true := ⟨[1001, 5039, 5037, 5038], by decide +kernel⟩
theorem ck_138 : zCok zTabs zCl zNm zKm false (decide (zy_138.name = "<init>")) zy_138.cls prog_1_method_30_code cd_138 := zCok_of pp_138 (by decide +kernel)
theorem wk_138 : Jvm.Cond.code zy_138 prog_1_method_30_code 2 (Option.some Jvm.ClassFile.FieldType.long) ∈ lw_tbl := zTabs_in tables_1_5 (List.mem_of_getElem? (i := 5) rfl) _ (List.mem_of_getElem? (i := 53) rfl)
theorem mk_138 : ∃ ps, zmok1 (zy_138, prog_1_method_30_code, 1) (cd_138, 2, (Option.some Jvm.ClassFile.FieldType.long), 0, 0) 1 ps = true := ⟨[1001, 5053, 5051, 5052], by decide +kernel⟩
theorem ck_139 : zCok zTabs zCl zNm zKm false (decide (zy_139.name = "<init>")) zy_139.cls prog_1_method_31_code cd_139 := zCok_of pp_139 (by decide +kernel)
theorem wk_139 : Jvm.Cond.code zy_139 prog_1_method_31_code 5 (Option.some Jvm.ClassFile.FieldType.long) ∈ lw_tbl := zTabs_in tables_1_5 (List.mem_of_getElem? (i := 5) rfl) _ (List.mem_of_getElem? (i := 70) rfl)
theorem mk_139 : ∃ ps, zmok1 (zy_139, prog_1_method_31_code, 3) (cd_139, 5, (Option.some Jvm.ClassFile.FieldType.long), 0, 0) 1 ps = true := ⟨[1001, 5070, 5068, 5069], by decide +kernel⟩
theorem ck_140 : zCok zTabs zCl zNm zKm false (decide (zy_140.name = "<init>")) zy_140.cls prog_1_method_32_code cd_140 := zCok_of pp_140 (by decide +kernel)
theorem wk_140 : Jvm.Cond.code zy_140 prog_1_method_32_code 5 (Option.some Jvm.ClassFile.FieldType.long) ∈ lw_tbl := zTabs_in tables_1_5 (List.mem_of_getElem? (i := 5) rfl) _ (List.mem_of_getElem? (i := 86) rfl)
theorem mk_140 : ∃ ps, zmok1 (zy_140, prog_1_method_32_code, 3) (cd_140, 5, (Option.some Jvm.ClassFile.FieldType.long), 0, 0) 1 ps = true := ⟨[1001, 5086, 5084, 5085], by decide +kernel⟩
theorem ck_141 : zCok zTabs zCl zNm zKm false (decide (zy_141.name = "<init>")) zy_141.cls prog_1_method_33_code cd_141 := zCok_of pp_141 (by decide +kernel)
theorem wk_141 : Jvm.Cond.code zy_141 prog_1_method_33_code 6 (Option.some Jvm.ClassFile.FieldType.int) ∈ lw_tbl := zTabs_in tables_1_5 (List.mem_of_getElem? (i := 5) rfl) _ (List.mem_of_getElem? (i := 91) rfl)
theorem mk_141 : ∃ ps, zmok1 (zy_141, prog_1_method_33_code, 4) (cd_141, 6, (Option.some Jvm.ClassFile.FieldType.int), 0, 0) 1 ps = true := ⟨[1001, 5091, 5089, 5090], by decide +kernel⟩
