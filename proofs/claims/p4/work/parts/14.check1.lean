theorem ck_0 : zCok zTabs zCl zNm zKm false (decide (zy_0.name = "<init>")) zy_0.cls prog_2_method_1_code cd_0 := zCok_of pp_0 (by decide +kernel)
theorem wk_0 : Jvm.Cond.code zy_0 prog_2_method_1_code 5 (Option.none : Option Jvm.ClassFile.FieldType) ∈ lw_tbl := zTabs_in tables_1_3 (List.mem_of_getElem? (i := 3) rfl) _ (List.mem_of_getElem? (i := 34) rfl)
theorem mk_0 : ∃ ps, zmok1 (zy_0, prog_2_method_1_code, 4) (cd_0, 5, (Option.none : Option Jvm.ClassFile.FieldType), 1, 12) 2 ps = true := ⟨[1014, 3034, 3033], by decide +kernel⟩
theorem ck_1 : zCok zTabs zCl zNm zKm false (decide (zy_1.name = "<init>")) zy_1.cls prog_2_method_2_code cd_1 := zCok_of pp_1 (by decide +kernel)
theorem wk_1 : Jvm.Cond.code zy_1 prog_2_method_2_code 4 (Option.some Jvm.ClassFile.FieldType.int) ∈ lw_tbl := zTabs_in tables_1_3 (List.mem_of_getElem? (i := 3) rfl) _ (List.mem_of_getElem? (i := 123) rfl)
theorem mk_1 : ∃ ps, zmok1 (zy_1, prog_2_method_2_code, 1) (cd_1, 4, (Option.some Jvm.ClassFile.FieldType.int), 0, 0) 1 ps = true := ⟨[1014, 3123, 3121, 3122], by decide +kernel⟩
theorem ck_2 : zCok zTabs zCl zNm zKm false (decide (zy_2.name = "<init>")) zy_2.cls prog_2_method_3_code cd_2 := zCok_of pp_2 (by decide +kernel)
theorem wk_2 : Jvm.Cond.code zy_2 prog_2_method_3_code 2 (Option.some Jvm.ClassFile.FieldType.boolean) ∈ lw_tbl := zTabs_in tables_1_5 (List.mem_of_getElem? (i := 5) rfl) _ (List.mem_of_getElem? (i := 189) rfl)
theorem mk_2 : ∃ ps, zmok1 (zy_2, prog_2_method_3_code, 1) (cd_2, 2, (Option.some Jvm.ClassFile.FieldType.boolean), 0, 0) 1 ps = true := ⟨[1014, 5189, 5187, 5188], by decide +kernel⟩
theorem ck_3 : zCok zTabs zCl zNm zKm false (decide (zy_3.name = "<init>")) zy_3.cls prog_2_method_4_code cd_3 := zCok_of pp_3 (by decide +kernel)
theorem wk_3 : Jvm.Cond.code zy_3 prog_2_method_4_code 2 (Option.some Jvm.ClassFile.FieldType.boolean) ∈ lw_tbl := zTabs_in tables_1_5 (List.mem_of_getElem? (i := 5) rfl) _ (List.mem_of_getElem? (i := 180) rfl)
theorem mk_3 : ∃ ps, zmok1 (zy_3, prog_2_method_4_code, 1) (cd_3, 2, (Option.some Jvm.ClassFile.FieldType.boolean), 0, 0) 1 ps = true := ⟨[1014, 5180, 5178, 5179], by decide +kernel⟩
theorem ck_4 : zCok zTabs zCl zNm zKm false (decide (zy_4.name = "<init>")) zy_4.cls prog_2_method_5_code cd_4 := zCok_of pp_4 (by decide +kernel)
theorem wk_4 : Jvm.Cond.code zy_4 prog_2_method_5_code 4 (Option.none : Option Jvm.ClassFile.FieldType) ∈ lw_tbl := zTabs_in tables_1_5 (List.mem_of_getElem? (i := 5) rfl) _ (List.mem_of_getElem? (i := 198) rfl)
theorem mk_4 : ∃ ps, zmok1 (zy_4, prog_2_method_5_code, 3) (cd_4, 4, (Option.none : Option Jvm.ClassFile.FieldType), 0, 0) 1 ps = true := ⟨[1014, 5198, 5196, 5197], by decide +kernel⟩
theorem ck_5 : zCok zTabs zCl zNm zKm false (decide (zy_5.name = "<init>")) zy_5.cls prog_3_method_1_code cd_5 := zCok_of pp_5 (by decide +kernel)
theorem wk_5 : Jvm.Cond.code zy_5 prog_3_method_1_code 1 (Option.none : Option Jvm.ClassFile.FieldType) ∈ lw_tbl := zTabs_in tables_1_1 (List.mem_of_getElem? (i := 1) rfl) _ (List.mem_of_getElem? (i := 227) rfl)
theorem mk_5 : ∃ ps, zmok1 (zy_5, prog_3_method_1_code, 0) (cd_5, 1, (Option.none : Option Jvm.ClassFile.FieldType), 12, 1636) 2 ps = true := ⟨[1008, 1227, 1226], by decide +kernel⟩
theorem ck_6 : zCok zTabs zCl zNm zKm false (decide (zy_6.name = "<init>")) zy_6.cls prog_3_method_2_code cd_6 := zCok_of pp_6 (by decide +kernel)
theorem wk_6 : Jvm.Cond.code zy_6 prog_3_method_2_code 2 (Option.some Jvm.ClassFile.FieldType.boolean) ∈ lw_tbl := zTabs_in tables_1_5 (List.mem_of_getElem? (i := 5) rfl) _ (List.mem_of_getElem? (i := 4) rfl)
theorem mk_6 : ∃ ps, zmok1 (zy_6, prog_3_method_2_code, 1) (cd_6, 2, (Option.some Jvm.ClassFile.FieldType.boolean), 0, 0) 1 ps = true := ⟨[1008, 5004, 5002, 5003], by decide +kernel⟩
theorem ck_7 : zCok zTabs zCl zNm zKm false (decide (zy_7.name = "<init>")) zy_7.cls prog_3_method_3_code cd_7 := zCok_of pp_7 (by decide +kernel)
theorem wk_7 : Jvm.Cond.code zy_7 prog_3_method_3_code 1 (Option.some Jvm.ClassFile.FieldType.boolean) ∈ lw_tbl := zTabs_in tables_1_4 (List.mem_of_getElem? (i := 4) rfl) _ (List.mem_of_getElem? (i := 231) rfl)
theorem mk_7 : ∃ ps, zmok1 (zy_7, prog_3_method_3_code, 0) (cd_7, 1, (Option.some Jvm.ClassFile.FieldType.boolean), 0, 0) 1 ps = true := ⟨[1008, 4231, 4229, 4230], by decide +kernel⟩
theorem ck_8 : zCok zTabs zCl zNm zKm false (decide (zy_8.name = "<init>")) zy_8.cls prog_3_method_4_code cd_8 := zCok_of pp_8 (by decide +kernel)
theorem wk_8 : Jvm.Cond.code zy_8 prog_3_method_4_code 5 (Option.some Jvm.ClassFile.FieldType.int) ∈ lw_tbl := zTabs_in tables_1_4 (List.mem_of_getElem? (i := 4) rfl) _ (List.mem_of_getElem? (i := 235) rfl)
theorem mk_8 : ∃ ps, zmok1 (zy_8, prog_3_method_4_code, 4) (cd_8, 5, (Option.some Jvm.ClassFile.FieldType.int), 0, 0) 1 ps = true := ⟨[1008, 4235, 4233, 4234], by decide +kernel⟩
theorem ck_9 : zCok zTabs zCl zNm zKm false (decide (zy_9.name = "<init>")) zy_9.cls prog_3_method_5_code cd_9 := zCok_of pp_9 (by decide +kernel)
theorem wk_9 : Jvm.Cond.code zy_9 prog_3_method_5_code 6 (Option.none : Option Jvm.ClassFile.FieldType) ∈ lw_tbl := zTabs_in tables_1_5 (List.mem_of_getElem? (i := 5) rfl) _ (List.mem_of_getElem? (i := 0) rfl)
theorem mk_9 : ∃ ps, zmok1 (zy_9, prog_3_method_5_code, 5) (cd_9, 6, (Option.none : Option Jvm.ClassFile.FieldType), 0, 0) 1 ps = true := ⟨[1008, 5000, 4238, 4239], by decide +kernel⟩
theorem ck_10 : zCok zTabs zCl zNm zKm false (decide (zy_10.name = "<init>")) zy_10.cls prog_3_method_6_code cd_10 := zCok_of pp_10 (by decide +kernel)
theorem wk_10 : Jvm.Cond.code zy_10 prog_3_method_6_code 5 (Option.none : Option Jvm.ClassFile.FieldType) ∈ lw_tbl := zTabs_in tables_1_4 (List.mem_of_getElem? (i := 4) rfl) _ (List.mem_of_getElem? (i := 119) rfl)
theorem mk_10 : ∃ ps, zmok1 (zy_10, prog_3_method_6_code, 3) (cd_10, 5, (Option.none : Option Jvm.ClassFile.FieldType), 0, 0) 1 ps = true := ⟨[1008, 4119, 4117, 4118], by decide +kernel⟩
theorem ck_11 : zCok zTabs zCl zNm zKm false (decide (zy_11.name = "<init>")) zy_11.cls prog_3_method_7_code cd_11 := zCok_of pp_11 (by decide +kernel)
theorem wk_11 : Jvm.Cond.code zy_11 prog_3_method_7_code 17 (Option.some Jvm.ClassFile.FieldType.long) ∈ lw_tbl := zTabs_in tables_1_5 (List.mem_of_getElem? (i := 5) rfl) _ (List.mem_of_getElem? (i := 18) rfl)
theorem mk_11 : ∃ ps, zmok1 (zy_11, prog_3_method_7_code, 3) (cd_11, 17, (Option.some Jvm.ClassFile.FieldType.long), 0, 0) 1 ps = true := ⟨[1008, 5018, 5016, 5017], by decide +kernel⟩
theorem ck_12 : zCok zTabs zCl zNm zKm false (decide (zy_12.name = "<init>")) zy_12.cls prog_3_method_8_code cd_12 := zCok_of pp_12 (by decide +kernel)
theorem wk_12 : Jvm.Cond.code zy_12 prog_3_method_8_code 8 (Option.none : Option Jvm.ClassFile.FieldType) ∈ lw_tbl := zTabs_in tables_1_5 (List.mem_of_getElem? (i := 5) rfl) _ (List.mem_of_getElem? (i := 22) rfl)
theorem mk_12 : ∃ ps, zmok1 (zy_12, prog_3_method_8_code, 2) (cd_12, 8, (Option.none : Option Jvm.ClassFile.FieldType), 0, 0) 1 ps = true := ⟨[1008, 5022, 5021, 26], by decide +kernel⟩
theorem ck_13 : zCok zTabs zCl zNm zKm false (decide (zy_13.name = "<init>")) zy_13.cls prog_3_method_9_code cd_13 := zCok_of pp_13 (by decide +kernel)
theorem wk_13 : Jvm.Cond.code zy_13 prog_3_method_9_code 11 (Option.some Jvm.ClassFile.FieldType.long) ∈ lw_tbl := zTabs_in tables_1_5 (List.mem_of_getElem? (i := 5) rfl) _ (List.mem_of_getElem? (i := 26) rfl)
theorem mk_13 : ∃ ps, zmok1 (zy_13, prog_3_method_9_code, 2) (cd_13, 11, (Option.some Jvm.ClassFile.FieldType.long), 0, 0) 0 ps = true := ⟨[1008, 5026, 5025], by decide +kernel⟩
theorem ck_14 : zCok zTabs zCl zNm zKm false (decide (zy_14.name = "<init>")) zy_14.cls prog_4_method_1_code cd_14 := zCok_of pp_14 (by decide +kernel)
theorem wk_14 : Jvm.Cond.code zy_14 prog_4_method_1_code 1 (Option.none : Option Jvm.ClassFile.FieldType) ∈ lw_tbl := zTabs_in tables_1_1 (List.mem_of_getElem? (i := 1) rfl) _ (List.mem_of_getElem? (i := 73) rfl)
theorem mk_14 : ∃ ps, zmok1 (zy_14, prog_4_method_1_code, 0) (cd_14, 1, (Option.none : Option Jvm.ClassFile.FieldType), 7, 2020) 2 ps = true := ⟨[1004, 1073, 1072], by decide +kernel⟩
theorem ck_15 : zCok zTabs zCl zNm zKm false (decide (zy_15.name = "<init>")) zy_15.cls prog_4_method_2_code cd_15 := zCok_of pp_15 (by decide +kernel)
theorem wk_15 : Jvm.Cond.code zy_15 prog_4_method_2_code 2 (Option.some Jvm.ClassFile.FieldType.boolean) ∈ lw_tbl := zTabs_in tables_1_3 (List.mem_of_getElem? (i := 3) rfl) _ (List.mem_of_getElem? (i := 26) rfl)
theorem mk_15 : ∃ ps, zmok1 (zy_15, prog_4_method_2_code, 1) (cd_15, 2, (Option.some Jvm.ClassFile.FieldType.boolean), 0, 0) 1 ps = true := ⟨[1004, 3026, 3024, 3025], by decide +kernel⟩
theorem ck_16 : zCok zTabs zCl zNm zKm false (decide (zy_16.name = "<init>")) zy_16.cls prog_4_method_3_code cd_16 := zCok_of pp_16 (by decide +kernel)
theorem wk_16 : Jvm.Cond.code zy_16 prog_4_method_3_code 2 (Option.some Jvm.ClassFile.FieldType.int) ∈ lw_tbl := zTabs_in tables_1_2 (List.mem_of_getElem? (i := 2) rfl) _ (List.mem_of_getElem? (i := 211) rfl)
theorem mk_16 : ∃ ps, zmok1 (zy_16, prog_4_method_3_code, 1) (cd_16, 2, (Option.some Jvm.ClassFile.FieldType.int), 0, 0) 1 ps = true := ⟨[1004, 2211, 2209, 2210], by decide +kernel⟩
theorem ck_17 : zCok zTabs zCl zNm zKm false (decide (zy_17.name = "<init>")) zy_17.cls prog_4_method_4_code cd_17 := zCok_of pp_17 (by decide +kernel)
theorem wk_17 : Jvm.Cond.code zy_17 prog_4_method_4_code 3 (Option.some Jvm.ClassFile.FieldType.boolean) ∈ lw_tbl := zTabs_in tables_1_5 (List.mem_of_getElem? (i := 5) rfl) _ (List.mem_of_getElem? (i := 219) rfl)
theorem mk_17 : ∃ ps, zmok1 (zy_17, prog_4_method_4_code, 2) (cd_17, 3, (Option.some Jvm.ClassFile.FieldType.boolean), 0, 0) 1 ps = true := ⟨[1004, 5219, 5217, 5218], by decide +kernel⟩
theorem ck_18 : zCok zTabs zCl zNm zKm false (decide (zy_18.name = "<init>")) zy_18.cls prog_4_method_5_code cd_18 := zCok_of pp_18 (by decide +kernel)
theorem wk_18 : Jvm.Cond.code zy_18 prog_4_method_5_code 5 (Option.some Jvm.ClassFile.FieldType.long) ∈ lw_tbl := zTabs_in tables_1_5 (List.mem_of_getElem? (i := 5) rfl) _ (List.mem_of_getElem? (i := 231) rfl)
theorem mk_18 : ∃ ps, zmok1 (zy_18, prog_4_method_5_code, 1) (cd_18, 5, (Option.some Jvm.ClassFile.FieldType.long), 0, 0) 1 ps = true := ⟨[1004, 5231, 5229, 5230], by decide +kernel⟩
theorem ck_19 : zCok zTabs zCl zNm zKm false (decide (zy_19.name = "<init>")) zy_19.cls prog_4_method_6_code cd_19 := zCok_of pp_19 (by decide +kernel)
theorem wk_19 : Jvm.Cond.code zy_19 prog_4_method_6_code 2 (Option.some (Jvm.ClassFile.FieldType.object "TankBehind$Car")) ∈ lw_tbl := zTabs_in tables_1_3 (List.mem_of_getElem? (i := 3) rfl) _ (List.mem_of_getElem? (i := 94) rfl)
theorem mk_19 : ∃ ps, zmok1 (zy_19, prog_4_method_6_code, 1) (cd_19, 2, (Option.some (Jvm.ClassFile.FieldType.object "TankBehind$Car")), 0, 0) 1 ps = true := ⟨[1004, 3094, 3092, 3093], by decide +kernel⟩
theorem ck_20 : zCok zTabs zCl zNm zKm false (decide (zy_20.name = "<init>")) zy_20.cls prog_4_method_7_code cd_20 := zCok_of pp_20 (by decide +kernel)
theorem wk_20 : Jvm.Cond.code zy_20 prog_4_method_7_code 5 (Option.some Jvm.ClassFile.FieldType.int) ∈ lw_tbl := zTabs_in tables_1_3 (List.mem_of_getElem? (i := 3) rfl) _ (List.mem_of_getElem? (i := 30) rfl)
theorem mk_20 : ∃ ps, zmok1 (zy_20, prog_4_method_7_code, 4) (cd_20, 5, (Option.some Jvm.ClassFile.FieldType.int), 2, 23) 1 ps = true := ⟨[1004, 3030, 3028, 3029], by decide +kernel⟩
theorem ck_21 : zCok zTabs zCl zNm zKm false (decide (zy_21.name = "<init>")) zy_21.cls prog_4_method_8_code cd_21 := zCok_of pp_21 (by decide +kernel)
theorem wk_21 : Jvm.Cond.code zy_21 prog_4_method_8_code 6 (Option.some Jvm.ClassFile.FieldType.boolean) ∈ lw_tbl := zTabs_in tables_1_3 (List.mem_of_getElem? (i := 3) rfl) _ (List.mem_of_getElem? (i := 98) rfl)
theorem mk_21 : ∃ ps, zmok1 (zy_21, prog_4_method_8_code, 4) (cd_21, 6, (Option.some Jvm.ClassFile.FieldType.boolean), 0, 0) 1 ps = true := ⟨[1004, 3098, 3096, 3097], by decide +kernel⟩
theorem ck_22 : zCok zTabs zCl zNm zKm false (decide (zy_22.name = "<init>")) zy_22.cls prog_4_method_9_code cd_22 := zCok_of pp_22 (by decide +kernel)
theorem wk_22 : Jvm.Cond.code zy_22 prog_4_method_9_code 5 (Option.some Jvm.ClassFile.FieldType.int) ∈ lw_tbl := zTabs_in tables_1_3 (List.mem_of_getElem? (i := 3) rfl) _ (List.mem_of_getElem? (i := 107) rfl)
theorem mk_22 : ∃ ps, zmok1 (zy_22, prog_4_method_9_code, 3) (cd_22, 5, (Option.some Jvm.ClassFile.FieldType.int), 0, 0) 1 ps = true := ⟨[1004, 3107, 3105, 3106], by decide +kernel⟩
theorem ck_23 : zCok zTabs zCl zNm zKm false (decide (zy_23.name = "<init>")) zy_23.cls prog_4_method_10_code cd_23 := zCok_of pp_23 (by decide +kernel)
theorem wk_23 : Jvm.Cond.code zy_23 prog_4_method_10_code 5 (Option.none : Option Jvm.ClassFile.FieldType) ∈ lw_tbl := zTabs_in tables_1_4 (List.mem_of_getElem? (i := 4) rfl) _ (List.mem_of_getElem? (i := 111) rfl)
theorem mk_23 : ∃ ps, zmok1 (zy_23, prog_4_method_10_code, 2) (cd_23, 5, (Option.none : Option Jvm.ClassFile.FieldType), 0, 0) 1 ps = true := ⟨[1004, 4111, 4109, 4110], by decide +kernel⟩
theorem ck_24 : zCok zTabs zCl zNm zKm false (decide (zy_24.name = "<init>")) zy_24.cls prog_5_method_1_code cd_24 := zCok_of pp_24 (by decide +kernel)
theorem wk_24 : Jvm.Cond.code zy_24 prog_5_method_1_code 2 (Option.none : Option Jvm.ClassFile.FieldType) ∈ lw_tbl := zTabs_in tables_1_1 (List.mem_of_getElem? (i := 1) rfl) _ (List.mem_of_getElem? (i := 33) rfl)
theorem mk_24 : ∃ ps, zmok1 (zy_24, prog_5_method_1_code, 0) (cd_24, 2, (Option.none : Option Jvm.ClassFile.FieldType), 34, 207) 2 ps = true := ⟨[1002, 1033, 1032], by decide +kernel⟩
theorem ck_25 : zCok zTabs zCl zNm zKm false (decide (zy_25.name = "<init>")) zy_25.cls prog_5_method_2_code cd_25 := zCok_of pp_25 (by decide +kernel)
theorem wk_25 : Jvm.Cond.code zy_25 prog_5_method_2_code 2 (Option.some Jvm.ClassFile.FieldType.boolean) ∈ lw_tbl := zTabs_in tables_1_3 (List.mem_of_getElem? (i := 3) rfl) _ (List.mem_of_getElem? (i := 10) rfl)
theorem mk_25 : ∃ ps, zmok1 (zy_25, prog_5_method_2_code, 1) (cd_25, 2, (Option.some Jvm.ClassFile.FieldType.boolean), 0, 0) 1 ps = true := ⟨[1002, 3010, 3008, 3009], by decide +kernel⟩
theorem ck_26 : zCok zTabs zCl zNm zKm false (decide (zy_26.name = "<init>")) zy_26.cls prog_5_method_3_code cd_26 := zCok_of pp_26 (by decide +kernel)
theorem wk_26 : Jvm.Cond.code zy_26 prog_5_method_3_code 2 (Option.some Jvm.ClassFile.FieldType.boolean) ∈ lw_tbl := zTabs_in tables_1_3 (List.mem_of_getElem? (i := 3) rfl) _ (List.mem_of_getElem? (i := 14) rfl)
theorem mk_26 : ∃ ps, zmok1 (zy_26, prog_5_method_3_code, 1) (cd_26, 2, (Option.some Jvm.ClassFile.FieldType.boolean), 0, 0) 1 ps = true := ⟨[1002, 3014, 3012, 3013], by decide +kernel⟩
theorem ck_27 : zCok zTabs zCl zNm zKm false (decide (zy_27.name = "<init>")) zy_27.cls prog_5_method_4_code cd_27 := zCok_of pp_27 (by decide +kernel)
theorem wk_27 : Jvm.Cond.code zy_27 prog_5_method_4_code 4 (Option.some Jvm.ClassFile.FieldType.int) ∈ lw_tbl := zTabs_in tables_1_2 (List.mem_of_getElem? (i := 2) rfl) _ (List.mem_of_getElem? (i := 222) rfl)
theorem mk_27 : ∃ ps, zmok1 (zy_27, prog_5_method_4_code, 2) (cd_27, 4, (Option.some Jvm.ClassFile.FieldType.int), 0, 0) 1 ps = true := ⟨[1002, 2222, 2220, 2221], by decide +kernel⟩
theorem ck_28 : zCok zTabs zCl zNm zKm false (decide (zy_28.name = "<init>")) zy_28.cls prog_5_method_5_code cd_28 := zCok_of pp_28 (by decide +kernel)
theorem wk_28 : Jvm.Cond.code zy_28 prog_5_method_5_code 5 (Option.some Jvm.ClassFile.FieldType.int) ∈ lw_tbl := zTabs_in tables_1_2 (List.mem_of_getElem? (i := 2) rfl) _ (List.mem_of_getElem? (i := 231) rfl)
theorem mk_28 : ∃ ps, zmok1 (zy_28, prog_5_method_5_code, 4) (cd_28, 5, (Option.some Jvm.ClassFile.FieldType.int), 0, 0) 1 ps = true := ⟨[1002, 2231, 2229, 2230], by decide +kernel⟩
theorem ck_29 : zCok zTabs zCl zNm zKm false (decide (zy_29.name = "<init>")) zy_29.cls prog_5_method_6_code cd_29 := zCok_of pp_29 (by decide +kernel)
theorem wk_29 : Jvm.Cond.code zy_29 prog_5_method_6_code 5 (Option.some Jvm.ClassFile.FieldType.int) ∈ lw_tbl := zTabs_in tables_1_3 (List.mem_of_getElem? (i := 3) rfl) _ (List.mem_of_getElem? (i := 2) rfl)
theorem mk_29 : ∃ ps, zmok1 (zy_29, prog_5_method_6_code, 4) (cd_29, 5, (Option.some Jvm.ClassFile.FieldType.int), 0, 0) 1 ps = true := ⟨[1002, 3002, 3000, 3001], by decide +kernel⟩
theorem ck_30 : zCok zTabs zCl zNm zKm false (decide (zy_30.name = "<init>")) zy_30.cls prog_5_method_7_code cd_30 := zCok_of pp_30 (by decide +kernel)
theorem wk_30 : Jvm.Cond.code zy_30 prog_5_method_7_code 4 (Option.none : Option Jvm.ClassFile.FieldType) ∈ lw_tbl := zTabs_in tables_1_2 (List.mem_of_getElem? (i := 2) rfl) _ (List.mem_of_getElem? (i := 234) rfl)
theorem mk_30 : ∃ ps, zmok1 (zy_30, prog_5_method_7_code, 4) (cd_30, 4, (Option.none : Option Jvm.ClassFile.FieldType), 0, 0) 0 ps = true := ⟨[1002, 2234, 2233], by decide +kernel⟩
theorem ck_31 : zCok zTabs zCl zNm zKm false (decide (zy_31.name = "<init>")) zy_31.cls prog_5_method_8_code cd_31 := zCok_of pp_31 (by decide +kernel)
theorem wk_31 : Jvm.Cond.code zy_31 prog_5_method_8_code 4 (Option.some Jvm.ClassFile.FieldType.boolean) ∈ lw_tbl := zTabs_in tables_1_3 (List.mem_of_getElem? (i := 3) rfl) _ (List.mem_of_getElem? (i := 18) rfl)
theorem mk_31 : ∃ ps, zmok1 (zy_31, prog_5_method_8_code, 3) (cd_31, 4, (Option.some Jvm.ClassFile.FieldType.boolean), 0, 0) 1 ps = true := ⟨[1002, 3018, 3016, 3017], by decide +kernel⟩
theorem ck_32 : zCok zTabs zCl zNm zKm false (decide (zy_32.name = "<init>")) zy_32.cls prog_5_method_9_code cd_32 := zCok_of pp_32 (by decide +kernel)
theorem wk_32 : Jvm.Cond.code zy_32 prog_5_method_9_code 5 (Option.some Jvm.ClassFile.FieldType.int) ∈ lw_tbl := zTabs_in tables_1_3 (List.mem_of_getElem? (i := 3) rfl) _ (List.mem_of_getElem? (i := 119) rfl)
theorem mk_32 : ∃ ps, zmok1 (zy_32, prog_5_method_9_code, 2) (cd_32, 5, (Option.some Jvm.ClassFile.FieldType.int), 0, 0) 1 ps = true := ⟨[1002, 3119, 3117, 3118], by decide +kernel⟩
theorem ck_33 : zCok zTabs zCl zNm zKm false (decide (zy_33.name = "<init>")) zy_33.cls prog_5_method_10_code cd_33 := zCok_of pp_33 (by decide +kernel)
theorem wk_33 : Jvm.Cond.code zy_33 prog_5_method_10_code 3 (Option.some Jvm.ClassFile.FieldType.int) ∈ lw_tbl := zTabs_in tables_1_3 (List.mem_of_getElem? (i := 3) rfl) _ (List.mem_of_getElem? (i := 134) rfl)
theorem mk_33 : ∃ ps, zmok1 (zy_33, prog_5_method_10_code, 2) (cd_33, 3, (Option.some Jvm.ClassFile.FieldType.int), 0, 0) 1 ps = true := ⟨[1002, 3134, 3132, 3133], by decide +kernel⟩
theorem ck_34 : zCok zTabs zCl zNm zKm false (decide (zy_34.name = "<init>")) zy_34.cls prog_5_method_11_code cd_34 := zCok_of pp_34 (by decide +kernel)
theorem wk_34 : Jvm.Cond.code zy_34 prog_5_method_11_code 7 (Option.some Jvm.ClassFile.FieldType.boolean) ∈ lw_tbl := zTabs_in tables_1_3 (List.mem_of_getElem? (i := 3) rfl) _ (List.mem_of_getElem? (i := 142) rfl)
theorem mk_34 : ∃ ps, zmok1 (zy_34, prog_5_method_11_code, 4) (cd_34, 7, (Option.some Jvm.ClassFile.FieldType.boolean), 0, 0) 1 ps = true := ⟨[1002, 3142, 3140, 3141], by decide +kernel⟩
theorem ck_35 : zCok zTabs zCl zNm zKm false (decide (zy_35.name = "<init>")) zy_35.cls prog_5_method_12_code cd_35 := zCok_of pp_35 (by decide +kernel)
theorem wk_35 : Jvm.Cond.code zy_35 prog_5_method_12_code 8 (Option.some Jvm.ClassFile.FieldType.int) ∈ lw_tbl := zTabs_in tables_1_5 (List.mem_of_getElem? (i := 5) rfl) _ (List.mem_of_getElem? (i := 235) rfl)
theorem mk_35 : ∃ ps, zmok1 (zy_35, prog_5_method_12_code, 4) (cd_35, 8, (Option.some Jvm.ClassFile.FieldType.int), 0, 0) 1 ps = true := ⟨[1002, 5235, 5233, 5234], by decide +kernel⟩
theorem ck_36 : zCok zTabs zCl zNm zKm false (decide (zy_36.name = "<init>")) zy_36.cls prog_6_method_1_code cd_36 := zCok_of pp_36 (by decide +kernel)
theorem wk_36 : Jvm.Cond.code zy_36 prog_6_method_1_code 1 (Option.none : Option Jvm.ClassFile.FieldType) ∈ lw_tbl := zTabs_in tables_1_2 (List.mem_of_getElem? (i := 2) rfl) _ (List.mem_of_getElem? (i := 40) rfl)
theorem mk_36 : ∃ ps, zmok1 (zy_36, prog_6_method_1_code, 0) (cd_36, 1, (Option.none : Option Jvm.ClassFile.FieldType), 4, 380) 2 ps = true := ⟨[1009, 2040, 2039], by decide +kernel⟩
theorem ck_37 : zCok zTabs zCl zNm zKm false (decide (zy_37.name = "<init>")) zy_37.cls prog_6_method_2_code cd_37 := zCok_of pp_37 (by decide +kernel)
theorem wk_37 : Jvm.Cond.code zy_37 prog_6_method_2_code 2 (Option.some Jvm.ClassFile.FieldType.boolean) ∈ lw_tbl := zTabs_in tables_1_5 (List.mem_of_getElem? (i := 5) rfl) _ (List.mem_of_getElem? (i := 43) rfl)
theorem mk_37 : ∃ ps, zmok1 (zy_37, prog_6_method_2_code, 1) (cd_37, 2, (Option.some Jvm.ClassFile.FieldType.boolean), 0, 0) 1 ps = true := ⟨[1009, 5043, 5041, 5042], by decide +kernel⟩
theorem ck_38 : zCok zTabs zCl zNm zKm false (decide (zy_38.name = "<init>")) zy_38.cls prog_6_method_3_code cd_38 := zCok_of pp_38 (by decide +kernel)
theorem wk_38 : Jvm.Cond.code zy_38 prog_6_method_3_code 3 (Option.some Jvm.ClassFile.FieldType.boolean) ∈ lw_tbl := zTabs_in tables_1_5 (List.mem_of_getElem? (i := 5) rfl) _ (List.mem_of_getElem? (i := 65) rfl)
theorem mk_38 : ∃ ps, zmok1 (zy_38, prog_6_method_3_code, 2) (cd_38, 3, (Option.some Jvm.ClassFile.FieldType.boolean), 0, 0) 1 ps = true := ⟨[1009, 5065, 5063, 5064], by decide +kernel⟩
theorem ck_39 : zCok zTabs zCl zNm zKm false (decide (zy_39.name = "<init>")) zy_39.cls prog_6_method_4_code cd_39 := zCok_of pp_39 (by decide +kernel)
theorem wk_39 : Jvm.Cond.code zy_39 prog_6_method_4_code 1 (Option.some Jvm.ClassFile.FieldType.int) ∈ lw_tbl := zTabs_in tables_1_5 (List.mem_of_getElem? (i := 5) rfl) _ (List.mem_of_getElem? (i := 35) rfl)
theorem mk_39 : ∃ ps, zmok1 (zy_39, prog_6_method_4_code, 0) (cd_39, 1, (Option.some Jvm.ClassFile.FieldType.int), 0, 0) 1 ps = true := ⟨[1009, 5035, 5033, 5034], by decide +kernel⟩
theorem ck_40 : zCok zTabs zCl zNm zKm false (decide (zy_40.name = "<init>")) zy_40.cls prog_6_method_5_code cd_40 := zCok_of pp_40 (by decide +kernel)
theorem wk_40 : Jvm.Cond.code zy_40 prog_6_method_5_code 7 (Option.some Jvm.ClassFile.FieldType.int) ∈ lw_tbl := zTabs_in tables_1_5 (List.mem_of_getElem? (i := 5) rfl) _ (List.mem_of_getElem? (i := 49) rfl)
theorem mk_40 : ∃ ps, zmok1 (zy_40, prog_6_method_5_code, 4) (cd_40, 7, (Option.some Jvm.ClassFile.FieldType.int), 0, 0) 1 ps = true := ⟨[1009, 5049, 5047, 5048], by decide +kernel⟩
theorem ck_41 : zCok zTabs zCl zNm zKm false (decide (zy_41.name = "<init>")) zy_41.cls prog_6_method_6_code cd_41 := zCok_of pp_41 (by decide +kernel)
theorem wk_41 : Jvm.Cond.code zy_41 prog_6_method_6_code 2 (Option.some Jvm.ClassFile.FieldType.long) ∈ lw_tbl := zTabs_in tables_1_5 (List.mem_of_getElem? (i := 5) rfl) _ (List.mem_of_getElem? (i := 57) rfl)
theorem mk_41 : ∃ ps, zmok1 (zy_41, prog_6_method_6_code, 1) (cd_41, 2, (Option.some Jvm.ClassFile.FieldType.long), 0, 0) 1 ps = true := ⟨[1009, 5057, 5055, 5056], by decide +kernel⟩
theorem ck_42 : zCok zTabs zCl zNm zKm false (decide (zy_42.name = "<init>")) zy_42.cls prog_6_method_7_code cd_42 := zCok_of pp_42 (by decide +kernel)
theorem wk_42 : Jvm.Cond.code zy_42 prog_6_method_7_code 11 (Option.some Jvm.ClassFile.FieldType.long) ∈ lw_tbl := zTabs_in tables_1_5 (List.mem_of_getElem? (i := 5) rfl) _ (List.mem_of_getElem? (i := 61) rfl)
theorem mk_42 : ∃ ps, zmok1 (zy_42, prog_6_method_7_code, 3) (cd_42, 11, (Option.some Jvm.ClassFile.FieldType.long), 0, 0) 1 ps = true := ⟨[1009, 5061, 5059, 5060], by decide +kernel⟩
theorem ck_43 : zCok zTabs zCl zNm zKm false (decide (zy_43.name = "<init>")) zy_43.cls prog_6_method_8_code cd_43 := zCok_of pp_43 (by decide +kernel)
theorem wk_43 : Jvm.Cond.code zy_43 prog_6_method_8_code 13 (Option.some Jvm.ClassFile.FieldType.long) ∈ lw_tbl := zTabs_in tables_1_5 (List.mem_of_getElem? (i := 5) rfl) _ (List.mem_of_getElem? (i := 75) rfl)
theorem mk_43 : ∃ ps, zmok1 (zy_43, prog_6_method_8_code, 3) (cd_43, 13, (Option.some Jvm.ClassFile.FieldType.long), 0, 0) 1 ps = true := ⟨[1009, 5075, 5073, 5074], by decide +kernel⟩
theorem ck_44 : zCok zTabs zCl zNm zKm false (decide (zy_44.name = "<init>")) zy_44.cls prog_7_method_1_code cd_44 := zCok_of pp_44 (by decide +kernel)
theorem wk_44 : Jvm.Cond.code zy_44 prog_7_method_1_code 1 (Option.none : Option Jvm.ClassFile.FieldType) ∈ lw_tbl := zTabs_in tables_1_2 (List.mem_of_getElem? (i := 2) rfl) _ (List.mem_of_getElem? (i := 63) rfl)
theorem mk_44 : ∃ ps, zmok1 (zy_44, prog_7_method_1_code, 0) (cd_44, 1, (Option.none : Option Jvm.ClassFile.FieldType), 7, 168) 2 ps = true := ⟨[1010, 2063, 2062], by decide +kernel⟩
theorem ck_45 : zCok zTabs zCl zNm zKm false (decide (zy_45.name = "<init>")) zy_45.cls prog_7_method_2_code cd_45 := zCok_of pp_45 (by decide +kernel)
theorem wk_45 : Jvm.Cond.code zy_45 prog_7_method_2_code 2 (Option.some Jvm.ClassFile.FieldType.boolean) ∈ lw_tbl := zTabs_in tables_1_5 (List.mem_of_getElem? (i := 5) rfl) _ (List.mem_of_getElem? (i := 116) rfl)
theorem mk_45 : ∃ ps, zmok1 (zy_45, prog_7_method_2_code, 1) (cd_45, 2, (Option.some Jvm.ClassFile.FieldType.boolean), 0, 0) 1 ps = true := ⟨[1010, 5116, 5114, 5115], by decide +kernel⟩
theorem ck_46 : zCok zTabs zCl zNm zKm false (decide (zy_46.name = "<init>")) zy_46.cls prog_7_method_3_code cd_46 := zCok_of pp_46 (by decide +kernel)
theorem wk_46 : Jvm.Cond.code zy_46 prog_7_method_3_code 2 (Option.some Jvm.ClassFile.FieldType.boolean) ∈ lw_tbl := zTabs_in tables_1_5 (List.mem_of_getElem? (i := 5) rfl) _ (List.mem_of_getElem? (i := 95) rfl)
theorem mk_46 : ∃ ps, zmok1 (zy_46, prog_7_method_3_code, 1) (cd_46, 2, (Option.some Jvm.ClassFile.FieldType.boolean), 0, 0) 1 ps = true := ⟨[1010, 5095, 5093, 5094], by decide +kernel⟩
theorem ck_47 : zCok zTabs zCl zNm zKm false (decide (zy_47.name = "<init>")) zy_47.cls prog_7_method_4_code cd_47 := zCok_of pp_47 (by decide +kernel)
theorem wk_47 : Jvm.Cond.code zy_47 prog_7_method_4_code 5 (Option.some Jvm.ClassFile.FieldType.int) ∈ lw_tbl := zTabs_in tables_1_5 (List.mem_of_getElem? (i := 5) rfl) _ (List.mem_of_getElem? (i := 99) rfl)
theorem mk_47 : ∃ ps, zmok1 (zy_47, prog_7_method_4_code, 4) (cd_47, 5, (Option.some Jvm.ClassFile.FieldType.int), 0, 0) 1 ps = true := ⟨[1010, 5099, 5097, 5098], by decide +kernel⟩
theorem ck_48 : zCok zTabs zCl zNm zKm false (decide (zy_48.name = "<init>")) zy_48.cls prog_7_method_5_code cd_48 := zCok_of pp_48 (by decide +kernel)
theorem wk_48 : Jvm.Cond.code zy_48 prog_7_method_5_code 5 (Option.some Jvm.ClassFile.FieldType.int) ∈ lw_tbl := zTabs_in tables_1_5 (List.mem_of_getElem? (i := 5) rfl) _ (List.mem_of_getElem? (i := 103) rfl)
theorem mk_48 : ∃ ps, zmok1 (zy_48, prog_7_method_5_code, 2) (cd_48, 5, (Option.some Jvm.ClassFile.FieldType.int), 0, 0) 1 ps = true := ⟨[1010, 5103, 5102, 27], by decide +kernel⟩
theorem ck_49 : zCok zTabs zCl zNm zKm false (decide (zy_49.name = "<init>")) zy_49.cls prog_7_method_6_code cd_49 := zCok_of pp_49 (by decide +kernel)
theorem wk_49 : Jvm.Cond.code zy_49 prog_7_method_6_code 3 (Option.some Jvm.ClassFile.FieldType.boolean) ∈ lw_tbl := zTabs_in tables_1_5 (List.mem_of_getElem? (i := 5) rfl) _ (List.mem_of_getElem? (i := 107) rfl)
theorem mk_49 : ∃ ps, zmok1 (zy_49, prog_7_method_6_code, 2) (cd_49, 3, (Option.some Jvm.ClassFile.FieldType.boolean), 0, 0) 1 ps = true := ⟨[1010, 5107, 5106, 28], by decide +kernel⟩
theorem ck_50 : zCok zTabs zCl zNm zKm false (decide (zy_50.name = "<init>")) zy_50.cls prog_7_method_7_code cd_50 := zCok_of pp_50 (by decide +kernel)
theorem wk_50 : Jvm.Cond.code zy_50 prog_7_method_7_code 3 (Option.some Jvm.ClassFile.FieldType.int) ∈ lw_tbl := zTabs_in tables_1_5 (List.mem_of_getElem? (i := 5) rfl) _ (List.mem_of_getElem? (i := 130) rfl)
theorem mk_50 : ∃ ps, zmok1 (zy_50, prog_7_method_7_code, 1) (cd_50, 3, (Option.some Jvm.ClassFile.FieldType.int), 0, 0) 1 ps = true := ⟨[1010, 5130, 5128, 5129], by decide +kernel⟩
theorem ck_51 : zCok zTabs zCl zNm zKm false (decide (zy_51.name = "<init>")) zy_51.cls prog_7_method_8_code cd_51 := zCok_of pp_51 (by decide +kernel)
theorem wk_51 : Jvm.Cond.code zy_51 prog_7_method_8_code 7 (Option.some Jvm.ClassFile.FieldType.int) ∈ lw_tbl := zTabs_in tables_1_5 (List.mem_of_getElem? (i := 5) rfl) _ (List.mem_of_getElem? (i := 120) rfl)
theorem mk_51 : ∃ ps, zmok1 (zy_51, prog_7_method_8_code, 1) (cd_51, 7, (Option.some Jvm.ClassFile.FieldType.int), 0, 0) 1 ps = true := ⟨[1010, 5120, 5118, 5119], by decide +kernel⟩
theorem ck_52 : zCok zTabs zCl zNm zKm false (decide (zy_52.name = "<init>")) zy_52.cls prog_7_method_9_code cd_52 := zCok_of pp_52 (by decide +kernel)
theorem wk_52 : Jvm.Cond.code zy_52 prog_7_method_9_code 3 (Option.some Jvm.ClassFile.FieldType.int) ∈ lw_tbl := zTabs_in tables_1_5 (List.mem_of_getElem? (i := 5) rfl) _ (List.mem_of_getElem? (i := 138) rfl)
theorem mk_52 : ∃ ps, zmok1 (zy_52, prog_7_method_9_code, 2) (cd_52, 3, (Option.some Jvm.ClassFile.FieldType.int), 0, 0) 1 ps = true := ⟨[1010, 5138, 5136, 5137], by decide +kernel⟩
theorem ck_53 : zCok zTabs zCl zNm zKm false (decide (zy_53.name = "<init>")) zy_53.cls prog_7_method_10_code cd_53 := zCok_of pp_53 (by decide +kernel)
theorem wk_53 : Jvm.Cond.code zy_53 prog_7_method_10_code 4 (Option.some Jvm.ClassFile.FieldType.int) ∈ lw_tbl := zTabs_in tables_1_5 (List.mem_of_getElem? (i := 5) rfl) _ (List.mem_of_getElem? (i := 146) rfl)
theorem mk_53 : ∃ ps, zmok1 (zy_53, prog_7_method_10_code, 2) (cd_53, 4, (Option.some Jvm.ClassFile.FieldType.int), 0, 0) 1 ps = true := ⟨[1010, 5146, 5144, 5145], by decide +kernel⟩
theorem ck_54 : zCok zTabs zCl zNm zKm false (decide (zy_54.name = "<init>")) zy_54.cls prog_8_method_1_code cd_54 := zCok_of pp_54 (by decide +kernel)
theorem wk_54 : Jvm.Cond.code zy_54 prog_8_method_1_code 1 (Option.none : Option Jvm.ClassFile.FieldType) ∈ lw_tbl := zTabs_in tables_1_2 (List.mem_of_getElem? (i := 2) rfl) _ (List.mem_of_getElem? (i := 97) rfl)
theorem mk_54 : ∃ ps, zmok1 (zy_54, prog_8_method_1_code, 0) (cd_54, 1, (Option.none : Option Jvm.ClassFile.FieldType), 4, 80) 2 ps = true := ⟨[1011, 2097, 2096], by decide +kernel⟩
theorem ck_55 : zCok zTabs zCl zNm zKm false (decide (zy_55.name = "<init>")) zy_55.cls prog_8_method_2_code cd_55 := zCok_of pp_55 (by decide +kernel)
theorem wk_55 : Jvm.Cond.code zy_55 prog_8_method_2_code 2 (Option.some Jvm.ClassFile.FieldType.boolean) ∈ lw_tbl := zTabs_in tables_1_5 (List.mem_of_getElem? (i := 5) rfl) _ (List.mem_of_getElem? (i := 163) rfl)
theorem mk_55 : ∃ ps, zmok1 (zy_55, prog_8_method_2_code, 1) (cd_55, 2, (Option.some Jvm.ClassFile.FieldType.boolean), 0, 0) 1 ps = true := ⟨[1011, 5163, 5161, 5162], by decide +kernel⟩
theorem ck_56 : zCok zTabs zCl zNm zKm false (decide (zy_56.name = "<init>")) zy_56.cls prog_8_method_3_code cd_56 := zCok_of pp_56 (by decide +kernel)
theorem wk_56 : Jvm.Cond.code zy_56 prog_8_method_3_code 5 (Option.some Jvm.ClassFile.FieldType.int) ∈ lw_tbl := zTabs_in tables_1_5 (List.mem_of_getElem? (i := 5) rfl) _ (List.mem_of_getElem? (i := 155) rfl)
theorem mk_56 : ∃ ps, zmok1 (zy_56, prog_8_method_3_code, 4) (cd_56, 5, (Option.some Jvm.ClassFile.FieldType.int), 0, 0) 1 ps = true := ⟨[1011, 5155, 5153, 5154], by decide +kernel⟩
theorem ck_57 : zCok zTabs zCl zNm zKm false (decide (zy_57.name = "<init>")) zy_57.cls prog_8_method_4_code cd_57 := zCok_of pp_57 (by decide +kernel)
theorem wk_57 : Jvm.Cond.code zy_57 prog_8_method_4_code 3 (Option.some Jvm.ClassFile.FieldType.boolean) ∈ lw_tbl := zTabs_in tables_1_5 (List.mem_of_getElem? (i := 5) rfl) _ (List.mem_of_getElem? (i := 176) rfl)
theorem mk_57 : ∃ ps, zmok1 (zy_57, prog_8_method_4_code, 2) (cd_57, 3, (Option.some Jvm.ClassFile.FieldType.boolean), 0, 0) 1 ps = true := ⟨[1011, 5176, 5174, 5175], by decide +kernel⟩
theorem ck_58 : zCok zTabs zCl zNm zKm false (decide (zy_58.name = "<init>")) zy_58.cls prog_8_method_5_code cd_58 := zCok_of pp_58 (by decide +kernel)
theorem wk_58 : Jvm.Cond.code zy_58 prog_8_method_5_code 3 (Option.some Jvm.ClassFile.FieldType.boolean) ∈ lw_tbl := zTabs_in tables_1_5 (List.mem_of_getElem? (i := 5) rfl) _ (List.mem_of_getElem? (i := 172) rfl)
theorem mk_58 : ∃ ps, zmok1 (zy_58, prog_8_method_5_code, 2) (cd_58, 3, (Option.some Jvm.ClassFile.FieldType.boolean), 0, 0) 1 ps = true := ⟨[1011, 5172, 5171, 29], by decide +kernel⟩
theorem ck_59 : zCok zTabs zCl zNm zKm false (decide (zy_59.name = "<init>")) zy_59.cls prog_8_method_6_code cd_59 := zCok_of pp_59 (by decide +kernel)
theorem wk_59 : Jvm.Cond.code zy_59 prog_8_method_6_code 6 (Option.some Jvm.ClassFile.FieldType.int) ∈ lw_tbl := zTabs_in tables_1_5 (List.mem_of_getElem? (i := 5) rfl) _ (List.mem_of_getElem? (i := 167) rfl)
theorem mk_59 : ∃ ps, zmok1 (zy_59, prog_8_method_6_code, 2) (cd_59, 6, (Option.some Jvm.ClassFile.FieldType.int), 0, 0) 1 ps = true := ⟨[1011, 5167, 5165, 5166], by decide +kernel⟩
theorem ck_60 : zCok zTabs zCl zNm zKm false (decide (zy_60.name = "<init>")) zy_60.cls prog_8_method_7_code cd_60 := zCok_of pp_60 (by decide +kernel)
theorem wk_60 : Jvm.Cond.code zy_60 prog_8_method_7_code 5 (Option.some Jvm.ClassFile.FieldType.int) ∈ lw_tbl := zTabs_in tables_1_5 (List.mem_of_getElem? (i := 5) rfl) _ (List.mem_of_getElem? (i := 207) rfl)
theorem mk_60 : ∃ ps, zmok1 (zy_60, prog_8_method_7_code, 2) (cd_60, 5, (Option.some Jvm.ClassFile.FieldType.int), 0, 0) 1 ps = true := ⟨[1011, 5207, 5205, 5206], by decide +kernel⟩
theorem ck_61 : zCok zTabs zCl zNm zKm false (decide (zy_61.name = "<init>")) zy_61.cls prog_8_method_8_code cd_61 := zCok_of pp_61 (by decide +kernel)
theorem wk_61 : Jvm.Cond.code zy_61 prog_8_method_8_code 6 (Option.some Jvm.ClassFile.FieldType.int) ∈ lw_tbl := zTabs_in tables_1_5 (List.mem_of_getElem? (i := 5) rfl) _ (List.mem_of_getElem? (i := 211) rfl)
theorem mk_61 : ∃ ps, zmok1 (zy_61, prog_8_method_8_code, 3) (cd_61, 6, (Option.some Jvm.ClassFile.FieldType.int), 0, 0) 1 ps = true := ⟨[1011, 5211, 5209, 5210], by decide +kernel⟩
theorem ck_62 : zCok zTabs zCl zNm zKm false (decide (zy_62.name = "<init>")) zy_62.cls prog_9_method_1_code cd_62 := zCok_of pp_62 (by decide +kernel)
theorem wk_62 : Jvm.Cond.code zy_62 prog_9_method_1_code 1 (Option.none : Option Jvm.ClassFile.FieldType) ∈ lw_tbl := zTabs_in tables_1_1 (List.mem_of_getElem? (i := 1) rfl) _ (List.mem_of_getElem? (i := 160) rfl)
theorem mk_62 : ∃ ps, zmok1 (zy_62, prog_9_method_1_code, 0) (cd_62, 1, (Option.none : Option Jvm.ClassFile.FieldType), 5, 122) 2 ps = true := ⟨[1006, 1160, 1159], by decide +kernel⟩
theorem ck_63 : zCok zTabs zCl zNm zKm false (decide (zy_63.name = "<init>")) zy_63.cls prog_9_method_2_code cd_63 := zCok_of pp_63 (by decide +kernel)
theorem wk_63 : Jvm.Cond.code zy_63 prog_9_method_2_code 1 (Option.some Jvm.ClassFile.FieldType.boolean) ∈ lw_tbl := zTabs_in tables_1_3 (List.mem_of_getElem? (i := 3) rfl) _ (List.mem_of_getElem? (i := 171) rfl)
theorem mk_63 : ∃ ps, zmok1 (zy_63, prog_9_method_2_code, 0) (cd_63, 1, (Option.some Jvm.ClassFile.FieldType.boolean), 0, 0) 1 ps = true := ⟨[1006, 3171, 3169, 3170], by decide +kernel⟩
theorem ck_64 : zCok zTabs zCl zNm zKm false (decide (zy_64.name = "<init>")) zy_64.cls prog_9_method_3_code cd_64 := zCok_of pp_64 (by decide +kernel)
theorem wk_64 : Jvm.Cond.code zy_64 prog_9_method_3_code 3 (Option.some Jvm.ClassFile.FieldType.int) ∈ lw_tbl := zTabs_in tables_1_4 (List.mem_of_getElem? (i := 4) rfl) _ (List.mem_of_getElem? (i := 76) rfl)
theorem mk_64 : ∃ ps, zmok1 (zy_64, prog_9_method_3_code, 2) (cd_64, 3, (Option.some Jvm.ClassFile.FieldType.int), 2, 800) 1 ps = true := ⟨[1006, 4076, 4074, 4075], by decide +kernel⟩
theorem ck_65 : zCok zTabs zCl zNm zKm false (decide (zy_65.name = "<init>")) zy_65.cls prog_9_method_4_code cd_65 := zCok_of pp_65 (by decide +kernel)
theorem wk_65 : Jvm.Cond.code zy_65 prog_9_method_4_code 4 (Option.some Jvm.ClassFile.FieldType.int) ∈ lw_tbl := zTabs_in tables_1_4 (List.mem_of_getElem? (i := 4) rfl) _ (List.mem_of_getElem? (i := 99) rfl)
theorem mk_65 : ∃ ps, zmok1 (zy_65, prog_9_method_4_code, 1) (cd_65, 4, (Option.some Jvm.ClassFile.FieldType.int), 0, 0) 1 ps = true := ⟨[1006, 4099, 4097, 4098], by decide +kernel⟩
theorem ck_66 : zCok zTabs zCl zNm zKm false (decide (zy_66.name = "<init>")) zy_66.cls prog_9_method_5_code cd_66 := zCok_of pp_66 (by decide +kernel)
theorem wk_66 : Jvm.Cond.code zy_66 prog_9_method_5_code 6 (Option.some Jvm.ClassFile.FieldType.int) ∈ lw_tbl := zTabs_in tables_1_4 (List.mem_of_getElem? (i := 4) rfl) _ (List.mem_of_getElem? (i := 136) rfl)
theorem mk_66 : ∃ ps, zmok1 (zy_66, prog_9_method_5_code, 2) (cd_66, 6, (Option.some Jvm.ClassFile.FieldType.int), 0, 0) 1 ps = true := ⟨[1006, 4136, 4134, 4135], by decide +kernel⟩
theorem ck_67 : zCok zTabs zCl zNm zKm false (decide (zy_67.name = "<init>")) zy_67.cls prog_9_method_6_code cd_67 := zCok_of pp_67 (by decide +kernel)
theorem wk_67 : Jvm.Cond.code zy_67 prog_9_method_6_code 3 (Option.some Jvm.ClassFile.FieldType.long) ∈ lw_tbl := zTabs_in tables_1_4 (List.mem_of_getElem? (i := 4) rfl) _ (List.mem_of_getElem? (i := 155) rfl)
theorem mk_67 : ∃ ps, zmok1 (zy_67, prog_9_method_6_code, 2) (cd_67, 3, (Option.some Jvm.ClassFile.FieldType.long), 0, 0) 1 ps = true := ⟨[1006, 4155, 4153, 4154], by decide +kernel⟩
theorem ck_68 : zCok zTabs zCl zNm zKm false (decide (zy_68.name = "<init>")) zy_68.cls prog_9_method_7_code cd_68 := zCok_of pp_68 (by decide +kernel)
theorem wk_68 : Jvm.Cond.code zy_68 prog_9_method_7_code 7 (Option.some Jvm.ClassFile.FieldType.long) ∈ lw_tbl := zTabs_in tables_1_4 (List.mem_of_getElem? (i := 4) rfl) _ (List.mem_of_getElem? (i := 140) rfl)
theorem mk_68 : ∃ ps, zmok1 (zy_68, prog_9_method_7_code, 3) (cd_68, 7, (Option.some Jvm.ClassFile.FieldType.long), 0, 0) 1 ps = true := ⟨[1006, 4140, 4139, 22], by decide +kernel⟩
theorem ck_69 : zCok zTabs zCl zNm zKm false (decide (zy_69.name = "<init>")) zy_69.cls prog_9_method_8_code cd_69 := zCok_of pp_69 (by decide +kernel)
theorem wk_69 : Jvm.Cond.code zy_69 prog_9_method_8_code 3 (Option.some Jvm.ClassFile.FieldType.long) ∈ lw_tbl := zTabs_in tables_1_4 (List.mem_of_getElem? (i := 4) rfl) _ (List.mem_of_getElem? (i := 145) rfl)
theorem mk_69 : ∃ ps, zmok1 (zy_69, prog_9_method_8_code, 1) (cd_69, 3, (Option.some Jvm.ClassFile.FieldType.long), 0, 0) 1 ps = true := ⟨[1006, 4145, 4144, 23], by decide +kernel⟩
theorem ck_70 : zCok zTabs zCl zNm zKm false (decide (zy_70.name = "<init>")) zy_70.cls prog_9_method_9_code cd_70 := zCok_of pp_70 (by decide +kernel)
theorem wk_70 : Jvm.Cond.code zy_70 prog_9_method_9_code 5 (Option.some Jvm.ClassFile.FieldType.long) ∈ lw_tbl := zTabs_in tables_1_4 (List.mem_of_getElem? (i := 4) rfl) _ (List.mem_of_getElem? (i := 150) rfl)
theorem mk_70 : ∃ ps, zmok1 (zy_70, prog_9_method_9_code, 3) (cd_70, 5, (Option.some Jvm.ClassFile.FieldType.long), 0, 0) 0 ps = true := ⟨[1006, 4150, 4149], by decide +kernel⟩
