theorem ck_213 : zCok zTabs zCl zNm zKm false (decide (zy_213.name = "<init>")) zy_213.cls prog_14_method_45_code cd_213 := zCok_of pp_213 (by decide +kernel)
theorem wk_213 : Jvm.Cond.code zy_213 prog_14_method_45_code 3 (Option.none : Option Jvm.ClassFile.FieldType) ∈ lw_tbl := zTabs_in tables_1_8 (List.mem_of_getElem? (i := 8) rfl) _ (List.mem_of_getElem? (i := 33) rfl)
theorem mk_213 : ∃ ps, zmok1 (zy_213, prog_14_method_45_code, 0) (cd_213, 3, (Option.none : Option Jvm.ClassFile.FieldType), 0, 0) 1 ps = true := ⟨[1013, 8033, 8032, 54], by decide +kernel⟩
theorem ck_214 : zCok zTabs zCl zNm zKm false (decide (zy_214.name = "<init>")) zy_214.cls prog_14_method_46_code cd_214 := zCok_of pp_214 (by decide +kernel)
theorem wk_214 : Jvm.Cond.code zy_214 prog_14_method_46_code 1 (Option.none : Option Jvm.ClassFile.FieldType) ∈ lw_tbl := zTabs_in tables_1_8 (List.mem_of_getElem? (i := 8) rfl) _ (List.mem_of_getElem? (i := 65) rfl)
theorem mk_214 : ∃ ps, zmok1 (zy_214, prog_14_method_46_code, 0) (cd_214, 1, (Option.none : Option Jvm.ClassFile.FieldType), 0, 0) 1 ps = true := ⟨[1013, 8065, 8064, 58], by decide +kernel⟩
theorem ck_215 : zCok zTabs zCl zNm zKm false (decide (zy_215.name = "<init>")) zy_215.cls prog_14_method_47_code cd_215 := zCok_of pp_215 (by decide +kernel)
theorem wk_215 : Jvm.Cond.code zy_215 prog_14_method_47_code 1 (Option.none : Option Jvm.ClassFile.FieldType) ∈ lw_tbl := zTabs_in tables_1_8 (List.mem_of_getElem? (i := 8) rfl) _ (List.mem_of_getElem? (i := 73) rfl)
theorem mk_215 : ∃ ps, zmok1 (zy_215, prog_14_method_47_code, 0) (cd_215, 1, (Option.none : Option Jvm.ClassFile.FieldType), 0, 0) 1 ps = true := ⟨[1013, 8073, 8072, 60], by decide +kernel⟩
theorem ck_216 : zCok zTabs zCl zNm zKm false (decide (zy_216.name = "<init>")) zy_216.cls prog_14_method_48_code cd_216 := zCok_of pp_216 (by decide +kernel)
theorem wk_216 : Jvm.Cond.code zy_216 prog_14_method_48_code 1 (Option.none : Option Jvm.ClassFile.FieldType) ∈ lw_tbl := zTabs_in tables_1_8 (List.mem_of_getElem? (i := 8) rfl) _ (List.mem_of_getElem? (i := 20) rfl)
theorem mk_216 : ∃ ps, zmok1 (zy_216, prog_14_method_48_code, 0) (cd_216, 1, (Option.none : Option Jvm.ClassFile.FieldType), 0, 0) 1 ps = true := ⟨[1013, 8020, 8019, 51], by decide +kernel⟩
theorem ck_217 : zCok zTabs zCl zNm zKm false (decide (zy_217.name = "<init>")) zy_217.cls prog_14_method_49_code cd_217 := zCok_of pp_217 (by decide +kernel)
theorem wk_217 : Jvm.Cond.code zy_217 prog_14_method_49_code 3 (Option.none : Option Jvm.ClassFile.FieldType) ∈ lw_tbl := zTabs_in tables_1_8 (List.mem_of_getElem? (i := 8) rfl) _ (List.mem_of_getElem? (i := 61) rfl)
theorem mk_217 : ∃ ps, zmok1 (zy_217, prog_14_method_49_code, 0) (cd_217, 3, (Option.none : Option Jvm.ClassFile.FieldType), 0, 0) 1 ps = true := ⟨[1013, 8061, 8060, 57], by decide +kernel⟩
theorem ck_218 : zCok zTabs zCl zNm zKm false (decide (zy_218.name = "<init>")) zy_218.cls prog_14_method_50_code cd_218 := zCok_of pp_218 (by decide +kernel)
theorem wk_218 : Jvm.Cond.code zy_218 prog_14_method_50_code 2 (Option.none : Option Jvm.ClassFile.FieldType) ∈ lw_tbl := zTabs_in tables_1_8 (List.mem_of_getElem? (i := 8) rfl) _ (List.mem_of_getElem? (i := 77) rfl)
theorem mk_218 : ∃ ps, zmok1 (zy_218, prog_14_method_50_code, 1) (cd_218, 2, (Option.none : Option Jvm.ClassFile.FieldType), 0, 0) 1 ps = true := ⟨[1013, 8077, 8076, 61], by decide +kernel⟩
theorem ck_219 : zCok zTabs zCl zNm zKm false (decide (zy_219.name = "<init>")) zy_219.cls prog_14_method_51_code cd_219 := zCok_of pp_219 (by decide +kernel)
theorem wk_219 : Jvm.Cond.code zy_219 prog_14_method_51_code 1 (Option.none : Option Jvm.ClassFile.FieldType) ∈ lw_tbl := zTabs_in tables_1_8 (List.mem_of_getElem? (i := 8) rfl) _ (List.mem_of_getElem? (i := 89) rfl)
theorem mk_219 : ∃ ps, zmok1 (zy_219, prog_14_method_51_code, 0) (cd_219, 1, (Option.none : Option Jvm.ClassFile.FieldType), 0, 0) 1 ps = true := ⟨[1013, 8089, 8088, 64], by decide +kernel⟩
theorem ck_220 : zCok zTabs zCl zNm zKm false (decide (zy_220.name = "<init>")) zy_220.cls prog_14_method_52_code cd_220 := zCok_of pp_220 (by decide +kernel)
theorem wk_220 : Jvm.Cond.code zy_220 prog_14_method_52_code 1 (Option.none : Option Jvm.ClassFile.FieldType) ∈ lw_tbl := zTabs_in tables_1_8 (List.mem_of_getElem? (i := 8) rfl) _ (List.mem_of_getElem? (i := 94) rfl)
theorem mk_220 : ∃ ps, zmok1 (zy_220, prog_14_method_52_code, 0) (cd_220, 1, (Option.none : Option Jvm.ClassFile.FieldType), 0, 0) 1 ps = true := ⟨[1013, 8094, 8093, 65], by decide +kernel⟩
theorem ck_221 : zCok zTabs zCl zNm zKm false (decide (zy_221.name = "<init>")) zy_221.cls prog_14_method_53_code cd_221 := zCok_of pp_221 (by decide +kernel)
theorem wk_221 : Jvm.Cond.code zy_221 prog_14_method_53_code 1 (Option.none : Option Jvm.ClassFile.FieldType) ∈ lw_tbl := zTabs_in tables_1_8 (List.mem_of_getElem? (i := 8) rfl) _ (List.mem_of_getElem? (i := 99) rfl)
theorem mk_221 : ∃ ps, zmok1 (zy_221, prog_14_method_53_code, 0) (cd_221, 1, (Option.none : Option Jvm.ClassFile.FieldType), 0, 0) 1 ps = true := ⟨[1013, 8099, 8098, 66], by decide +kernel⟩
theorem ck_222 : zCok zTabs zCl zNm zKm false (decide (zy_222.name = "<init>")) zy_222.cls prog_14_method_54_code cd_222 := zCok_of pp_222 (by decide +kernel)
theorem wk_222 : Jvm.Cond.code zy_222 prog_14_method_54_code 1 (Option.none : Option Jvm.ClassFile.FieldType) ∈ lw_tbl := zTabs_in tables_1_8 (List.mem_of_getElem? (i := 8) rfl) _ (List.mem_of_getElem? (i := 85) rfl)
theorem mk_222 : ∃ ps, zmok1 (zy_222, prog_14_method_54_code, 0) (cd_222, 1, (Option.none : Option Jvm.ClassFile.FieldType), 0, 0) 1 ps = true := ⟨[1013, 8085, 8084, 63], by decide +kernel⟩
theorem ck_223 : zCok zTabs zCl zNm zKm false (decide (zy_223.name = "<init>")) zy_223.cls prog_14_method_55_code cd_223 := zCok_of pp_223 (by decide +kernel)
theorem wk_223 : Jvm.Cond.code zy_223 prog_14_method_55_code 2 (Option.none : Option Jvm.ClassFile.FieldType) ∈ lw_tbl := zTabs_in tables_1_8 (List.mem_of_getElem? (i := 8) rfl) _ (List.mem_of_getElem? (i := 16) rfl)
theorem mk_223 : ∃ ps, zmok1 (zy_223, prog_14_method_55_code, 1) (cd_223, 2, (Option.none : Option Jvm.ClassFile.FieldType), 0, 0) 1 ps = true := ⟨[1013, 8016, 8015, 50], by decide +kernel⟩
theorem ck_224 : zCok zTabs zCl zNm zKm false (decide (zy_224.name = "<init>")) zy_224.cls prog_14_method_56_code cd_224 := zCok_of pp_224 (by decide +kernel)
theorem wk_224 : Jvm.Cond.code zy_224 prog_14_method_56_code 6 (Option.none : Option Jvm.ClassFile.FieldType) ∈ lw_tbl := zTabs_in tables_1_7 (List.mem_of_getElem? (i := 7) rfl) _ (List.mem_of_getElem? (i := 220) rfl)
theorem mk_224 : ∃ ps, zmok1 (zy_224, prog_14_method_56_code, 1) (cd_224, 6, (Option.none : Option Jvm.ClassFile.FieldType), 0, 0) 1 ps = true := ⟨[1013, 7220, 7219, 44], by decide +kernel⟩
theorem ck_225 : zCok zTabs zCl zNm zKm false (decide (zy_225.name = "<init>")) zy_225.cls prog_14_method_57_code cd_225 := zCok_of pp_225 (by decide +kernel)
theorem wk_225 : Jvm.Cond.code zy_225 prog_14_method_57_code 4 (Option.some Jvm.ClassFile.FieldType.int) ∈ lw_tbl := zTabs_in tables_1_7 (List.mem_of_getElem? (i := 7) rfl) _ (List.mem_of_getElem? (i := 216) rfl)
theorem mk_225 : ∃ ps, zmok1 (zy_225, prog_14_method_57_code, 1) (cd_225, 4, (Option.some Jvm.ClassFile.FieldType.int), 0, 0) 1 ps = true := ⟨[1013, 7216, 7214, 7215], by decide +kernel⟩
theorem ck_226 : zCok zTabs zCl zNm zKm false (decide (zy_226.name = "<init>")) zy_226.cls prog_14_method_58_code cd_226 := zCok_of pp_226 (by decide +kernel)
theorem wk_226 : Jvm.Cond.code zy_226 prog_14_method_58_code 4 (Option.some Jvm.ClassFile.FieldType.int) ∈ lw_tbl := zTabs_in tables_1_8 (List.mem_of_getElem? (i := 8) rfl) _ (List.mem_of_getElem? (i := 108) rfl)
theorem mk_226 : ∃ ps, zmok1 (zy_226, prog_14_method_58_code, 1) (cd_226, 4, (Option.some Jvm.ClassFile.FieldType.int), 0, 0) 1 ps = true := ⟨[1013, 8108, 8107, 67], by decide +kernel⟩
theorem ck_227 : zCok zTabs zCl zNm zKm false (decide (zy_227.name = "<init>")) zy_227.cls prog_14_method_59_code cd_227 := zCok_of pp_227 (by decide +kernel)
theorem wk_227 : Jvm.Cond.code zy_227 prog_14_method_59_code 2 (Option.some Jvm.ClassFile.FieldType.int) ∈ lw_tbl := zTabs_in tables_1_8 (List.mem_of_getElem? (i := 8) rfl) _ (List.mem_of_getElem? (i := 104) rfl)
theorem mk_227 : ∃ ps, zmok1 (zy_227, prog_14_method_59_code, 1) (cd_227, 2, (Option.some Jvm.ClassFile.FieldType.int), 0, 0) 1 ps = true := ⟨[1013, 8104, 8102, 8103], by decide +kernel⟩
theorem ck_228 : zCok zTabs zCl zNm zKm false (decide (zy_228.name = "<init>")) zy_228.cls prog_14_method_60_code cd_228 := zCok_of pp_228 (by decide +kernel)
theorem wk_228 : Jvm.Cond.code zy_228 prog_14_method_60_code 6 (Option.none : Option Jvm.ClassFile.FieldType) ∈ lw_tbl := zTabs_in tables_1_8 (List.mem_of_getElem? (i := 8) rfl) _ (List.mem_of_getElem? (i := 124) rfl)
theorem mk_228 : ∃ ps, zmok1 (zy_228, prog_14_method_60_code, 3) (cd_228, 6, (Option.none : Option Jvm.ClassFile.FieldType), 0, 0) 1 ps = true := ⟨[1013, 8124, 8123, 70], by decide +kernel⟩
theorem ck_229 : zCok zTabs zCl zNm zKm false (decide (zy_229.name = "<init>")) zy_229.cls prog_14_method_61_code cd_229 := zCok_of pp_229 (by decide +kernel)
theorem wk_229 : Jvm.Cond.code zy_229 prog_14_method_61_code 1 (Option.some Jvm.ClassFile.FieldType.long) ∈ lw_tbl := zTabs_in tables_1_8 (List.mem_of_getElem? (i := 8) rfl) _ (List.mem_of_getElem? (i := 135) rfl)
theorem mk_229 : ∃ ps, zmok1 (zy_229, prog_14_method_61_code, 1) (cd_229, 1, (Option.some Jvm.ClassFile.FieldType.long), 0, 0) 0 ps = true := ⟨[1013, 8135, 8134], by decide +kernel⟩
theorem ck_230 : zCok zTabs zCl zNm zKm false (decide (zy_230.name = "<init>")) zy_230.cls prog_14_method_62_code cd_230 := zCok_of pp_230 (by decide +kernel)
theorem wk_230 : Jvm.Cond.code zy_230 prog_14_method_62_code 5 (Option.some Jvm.ClassFile.FieldType.long) ∈ lw_tbl := zTabs_in tables_1_8 (List.mem_of_getElem? (i := 8) rfl) _ (List.mem_of_getElem? (i := 138) rfl)
theorem mk_230 : ∃ ps, zmok1 (zy_230, prog_14_method_62_code, 3) (cd_230, 5, (Option.some Jvm.ClassFile.FieldType.long), 0, 0) 0 ps = true := ⟨[1013, 8138, 8137], by decide +kernel⟩
theorem ck_231 : zCok zTabs zCl zNm zKm false (decide (zy_231.name = "<init>")) zy_231.cls prog_14_method_63_code cd_231 := zCok_of pp_231 (by decide +kernel)
theorem wk_231 : Jvm.Cond.code zy_231 prog_14_method_63_code 6 (Option.some Jvm.ClassFile.FieldType.long) ∈ lw_tbl := zTabs_in tables_1_8 (List.mem_of_getElem? (i := 8) rfl) _ (List.mem_of_getElem? (i := 132) rfl)
theorem mk_231 : ∃ ps, zmok1 (zy_231, prog_14_method_63_code, 3) (cd_231, 6, (Option.some Jvm.ClassFile.FieldType.long), 0, 0) 1 ps = true := ⟨[1013, 8132, 8131, 72], by decide +kernel⟩
theorem ck_232 : zCok zTabs zCl zNm zKm false (decide (zy_232.name = "<init>")) zy_232.cls prog_14_method_64_code cd_232 := zCok_of pp_232 (by decide +kernel)
theorem wk_232 : Jvm.Cond.code zy_232 prog_14_method_64_code 7 (Option.some Jvm.ClassFile.FieldType.int) ∈ lw_tbl := zTabs_in tables_1_8 (List.mem_of_getElem? (i := 8) rfl) _ (List.mem_of_getElem? (i := 128) rfl)
theorem mk_232 : ∃ ps, zmok1 (zy_232, prog_14_method_64_code, 3) (cd_232, 7, (Option.some Jvm.ClassFile.FieldType.int), 0, 0) 1 ps = true := ⟨[1013, 8128, 8127, 71], by decide +kernel⟩
theorem ck_233 : zCok zTabs zCl zNm zKm false (decide (zy_233.name = "<init>")) zy_233.cls prog_14_method_65_code cd_233 := zCok_of pp_233 (by decide +kernel)
theorem wk_233 : Jvm.Cond.code zy_233 prog_14_method_65_code 8 (Option.some Jvm.ClassFile.FieldType.int) ∈ lw_tbl := zTabs_in tables_1_8 (List.mem_of_getElem? (i := 8) rfl) _ (List.mem_of_getElem? (i := 120) rfl)
theorem mk_233 : ∃ ps, zmok1 (zy_233, prog_14_method_65_code, 3) (cd_233, 8, (Option.some Jvm.ClassFile.FieldType.int), 0, 0) 1 ps = true := ⟨[1013, 8120, 8119, 69], by decide +kernel⟩
theorem ck_234 : zCok zTabs zCl zNm zKm false (decide (zy_234.name = "<init>")) zy_234.cls prog_14_method_66_code cd_234 := zCok_of pp_234 (by decide +kernel)
theorem wk_234 : Jvm.Cond.code zy_234 prog_14_method_66_code 4 (Option.some Jvm.ClassFile.FieldType.boolean) ∈ lw_tbl := zTabs_in tables_1_8 (List.mem_of_getElem? (i := 8) rfl) _ (List.mem_of_getElem? (i := 116) rfl)
theorem mk_234 : ∃ ps, zmok1 (zy_234, prog_14_method_66_code, 3) (cd_234, 4, (Option.some Jvm.ClassFile.FieldType.boolean), 0, 0) 1 ps = true := ⟨[1013, 8116, 8115, 68], by decide +kernel⟩
theorem ck_235 : zCok zTabs zCl zNm zKm false (decide (zy_235.name = "<init>")) zy_235.cls prog_14_method_67_code cd_235 := zCok_of pp_235 (by decide +kernel)
theorem wk_235 : Jvm.Cond.code zy_235 prog_14_method_67_code 4 (Option.some Jvm.ClassFile.FieldType.int) ∈ lw_tbl := zTabs_in tables_1_8 (List.mem_of_getElem? (i := 8) rfl) _ (List.mem_of_getElem? (i := 112) rfl)
theorem mk_235 : ∃ ps, zmok1 (zy_235, prog_14_method_67_code, 3) (cd_235, 4, (Option.some Jvm.ClassFile.FieldType.int), 0, 0) 1 ps = true := ⟨[1013, 8112, 8110, 8111], by decide +kernel⟩
theorem ck_236 : zCok zTabs zCl zNm zKm false (decide (zy_236.name = "<init>")) zy_236.cls prog_14_method_68_code cd_236 := zCok_of pp_236 (by decide +kernel)
theorem wk_236 : Jvm.Cond.code zy_236 prog_14_method_68_code 5 (Option.some Jvm.ClassFile.FieldType.int) ∈ lw_tbl := zTabs_in tables_1_8 (List.mem_of_getElem? (i := 8) rfl) _ (List.mem_of_getElem? (i := 142) rfl)
theorem mk_236 : ∃ ps, zmok1 (zy_236, prog_14_method_68_code, 3) (cd_236, 5, (Option.some Jvm.ClassFile.FieldType.int), 0, 0) 1 ps = true := ⟨[1013, 8142, 8140, 8141], by decide +kernel⟩
theorem ck_237 : zCok zTabs zCl zNm zKm false (decide (zy_237.name = "<init>")) zy_237.cls prog_14_method_69_code cd_237 := zCok_of pp_237 (by decide +kernel)
theorem wk_237 : Jvm.Cond.code zy_237 prog_14_method_69_code 4 (Option.some Jvm.ClassFile.FieldType.int) ∈ lw_tbl := zTabs_in tables_1_8 (List.mem_of_getElem? (i := 8) rfl) _ (List.mem_of_getElem? (i := 146) rfl)
theorem mk_237 : ∃ ps, zmok1 (zy_237, prog_14_method_69_code, 2) (cd_237, 4, (Option.some Jvm.ClassFile.FieldType.int), 0, 0) 1 ps = true := ⟨[1013, 8146, 8144, 8145], by decide +kernel⟩
theorem ck_238 : zCok zTabs zCl zNm zKm false (decide (zy_238.name = "<init>")) zy_238.cls prog_14_method_70_code cd_238 := zCok_of pp_238 (by decide +kernel)
theorem wk_238 : Jvm.Cond.code zy_238 prog_14_method_70_code 5 (Option.some Jvm.ClassFile.FieldType.int) ∈ lw_tbl := zTabs_in tables_1_8 (List.mem_of_getElem? (i := 8) rfl) _ (List.mem_of_getElem? (i := 150) rfl)
theorem mk_238 : ∃ ps, zmok1 (zy_238, prog_14_method_70_code, 4) (cd_238, 5, (Option.some Jvm.ClassFile.FieldType.int), 0, 0) 1 ps = true := ⟨[1013, 8150, 8148, 8149], by decide +kernel⟩
theorem ck_239 : zCok zTabs zCl zNm zKm false (decide (zy_239.name = "<init>")) zy_239.cls prog_14_method_71_code cd_239 := zCok_of pp_239 (by decide +kernel)
theorem wk_239 : Jvm.Cond.code zy_239 prog_14_method_71_code 5 (Option.some Jvm.ClassFile.FieldType.boolean) ∈ lw_tbl := zTabs_in tables_1_8 (List.mem_of_getElem? (i := 8) rfl) _ (List.mem_of_getElem? (i := 154) rfl)
theorem mk_239 : ∃ ps, zmok1 (zy_239, prog_14_method_71_code, 2) (cd_239, 5, (Option.some Jvm.ClassFile.FieldType.boolean), 0, 0) 1 ps = true := ⟨[1013, 8154, 8152, 8153], by decide +kernel⟩
theorem ck_240 : zCok zTabs zCl zNm zKm false (decide (zy_240.name = "<init>")) zy_240.cls prog_14_method_72_code cd_240 := zCok_of pp_240 (by decide +kernel)
theorem wk_240 : Jvm.Cond.code zy_240 prog_14_method_72_code 10 (Option.some Jvm.ClassFile.FieldType.int) ∈ lw_tbl := zTabs_in tables_1_8 (List.mem_of_getElem? (i := 8) rfl) _ (List.mem_of_getElem? (i := 162) rfl)
theorem mk_240 : ∃ ps, zmok1 (zy_240, prog_14_method_72_code, 5) (cd_240, 10, (Option.some Jvm.ClassFile.FieldType.int), 0, 0) 1 ps = true := ⟨[1013, 8162, 8161, 73], by decide +kernel⟩
theorem ck_241 : zCok zTabs zCl zNm zKm false (decide (zy_241.name = "<init>")) zy_241.cls prog_14_method_73_code cd_241 := zCok_of pp_241 (by decide +kernel)
theorem wk_241 : Jvm.Cond.code zy_241 prog_14_method_73_code 6 (Option.some Jvm.ClassFile.FieldType.int) ∈ lw_tbl := zTabs_in tables_1_8 (List.mem_of_getElem? (i := 8) rfl) _ (List.mem_of_getElem? (i := 158) rfl)
theorem mk_241 : ∃ ps, zmok1 (zy_241, prog_14_method_73_code, 5) (cd_241, 6, (Option.some Jvm.ClassFile.FieldType.int), 0, 0) 1 ps = true := ⟨[1013, 8158, 8156, 8157], by decide +kernel⟩
theorem ck_242 : zCok zTabs zCl zNm zKm false (decide (zy_242.name = "<init>")) zy_242.cls prog_14_method_74_code cd_242 := zCok_of pp_242 (by decide +kernel)
theorem wk_242 : Jvm.Cond.code zy_242 prog_14_method_74_code 6 (Option.some Jvm.ClassFile.FieldType.int) ∈ lw_tbl := zTabs_in tables_1_8 (List.mem_of_getElem? (i := 8) rfl) _ (List.mem_of_getElem? (i := 170) rfl)
theorem mk_242 : ∃ ps, zmok1 (zy_242, prog_14_method_74_code, 3) (cd_242, 6, (Option.some Jvm.ClassFile.FieldType.int), 0, 0) 1 ps = true := ⟨[1013, 8170, 8169, 74], by decide +kernel⟩
theorem ck_243 : zCok zTabs zCl zNm zKm false (decide (zy_243.name = "<init>")) zy_243.cls prog_14_method_75_code cd_243 := zCok_of pp_243 (by decide +kernel)
theorem wk_243 : Jvm.Cond.code zy_243 prog_14_method_75_code 4 (Option.some Jvm.ClassFile.FieldType.int) ∈ lw_tbl := zTabs_in tables_1_8 (List.mem_of_getElem? (i := 8) rfl) _ (List.mem_of_getElem? (i := 166) rfl)
theorem mk_243 : ∃ ps, zmok1 (zy_243, prog_14_method_75_code, 3) (cd_243, 4, (Option.some Jvm.ClassFile.FieldType.int), 0, 0) 1 ps = true := ⟨[1013, 8166, 8164, 8165], by decide +kernel⟩
theorem ck_244 : zCok zTabs zCl zNm zKm false (decide (zy_244.name = "<init>")) zy_244.cls prog_14_method_76_code cd_244 := zCok_of pp_244 (by decide +kernel)
theorem wk_244 : Jvm.Cond.code zy_244 prog_14_method_76_code 8 (Option.some Jvm.ClassFile.FieldType.int) ∈ lw_tbl := zTabs_in tables_1_8 (List.mem_of_getElem? (i := 8) rfl) _ (List.mem_of_getElem? (i := 174) rfl)
theorem mk_244 : ∃ ps, zmok1 (zy_244, prog_14_method_76_code, 7) (cd_244, 8, (Option.some Jvm.ClassFile.FieldType.int), 0, 0) 1 ps = true := ⟨[1013, 8174, 8172, 8173], by decide +kernel⟩
theorem ck_245 : zCok zTabs zCl zNm zKm false (decide (zy_245.name = "<init>")) zy_245.cls prog_14_method_77_code cd_245 := zCok_of pp_245 (by decide +kernel)
theorem wk_245 : Jvm.Cond.code zy_245 prog_14_method_77_code 2 (Option.some Jvm.ClassFile.FieldType.int) ∈ lw_tbl := zTabs_in tables_1_8 (List.mem_of_getElem? (i := 8) rfl) _ (List.mem_of_getElem? (i := 179) rfl)
theorem mk_245 : ∃ ps, zmok1 (zy_245, prog_14_method_77_code, 1) (cd_245, 2, (Option.some Jvm.ClassFile.FieldType.int), 0, 0) 1 ps = true := ⟨[1013, 8179, 8177, 8178], by decide +kernel⟩
theorem ck_246 : zCok zTabs zCl zNm zKm false (decide (zy_246.name = "<init>")) zy_246.cls prog_14_method_78_code cd_246 := zCok_of pp_246 (by decide +kernel)
theorem wk_246 : Jvm.Cond.code zy_246 prog_14_method_78_code 10 (Option.some Jvm.ClassFile.FieldType.long) ∈ lw_tbl := zTabs_in tables_1_8 (List.mem_of_getElem? (i := 8) rfl) _ (List.mem_of_getElem? (i := 186) rfl)
theorem mk_246 : ∃ ps, zmok1 (zy_246, prog_14_method_78_code, 2) (cd_246, 10, (Option.some Jvm.ClassFile.FieldType.long), 0, 0) 0 ps = true := ⟨[1013, 8186, 8185], by decide +kernel⟩
theorem ck_247 : zCok zTabs zCl zNm zKm false (decide (zy_247.name = "<init>")) zy_247.cls prog_14_method_79_code cd_247 := zCok_of pp_247 (by decide +kernel)
theorem wk_247 : Jvm.Cond.code zy_247 prog_14_method_79_code 15 (Option.some Jvm.ClassFile.FieldType.long) ∈ lw_tbl := zTabs_in tables_1_8 (List.mem_of_getElem? (i := 8) rfl) _ (List.mem_of_getElem? (i := 183) rfl)
theorem mk_247 : ∃ ps, zmok1 (zy_247, prog_14_method_79_code, 3) (cd_247, 15, (Option.some Jvm.ClassFile.FieldType.long), 0, 0) 1 ps = true := ⟨[1013, 8183, 8181, 8182], by decide +kernel⟩
theorem ck_248 : zCok zTabs zCl zNm zKm false (decide (zy_248.name = "<init>")) zy_248.cls prog_14_method_80_code cd_248 := zCok_of pp_248 (by decide +kernel)
theorem wk_248 : Jvm.Cond.code zy_248 prog_14_method_80_code 2 (Option.some Jvm.ClassFile.FieldType.int) ∈ lw_tbl := zTabs_in tables_1_8 (List.mem_of_getElem? (i := 8) rfl) _ (List.mem_of_getElem? (i := 190) rfl)
theorem mk_248 : ∃ ps, zmok1 (zy_248, prog_14_method_80_code, 1) (cd_248, 2, (Option.some Jvm.ClassFile.FieldType.int), 0, 0) 1 ps = true := ⟨[1013, 8190, 8188, 8189], by decide +kernel⟩
theorem ck_249 : zCok zTabs zCl zNm zKm false (decide (zy_249.name = "<init>")) zy_249.cls prog_14_method_81_code cd_249 := zCok_of pp_249 (by decide +kernel)
theorem wk_249 : Jvm.Cond.code zy_249 prog_14_method_81_code 2 (Option.some Jvm.ClassFile.FieldType.boolean) ∈ lw_tbl := zTabs_in tables_1_8 (List.mem_of_getElem? (i := 8) rfl) _ (List.mem_of_getElem? (i := 198) rfl)
theorem mk_249 : ∃ ps, zmok1 (zy_249, prog_14_method_81_code, 1) (cd_249, 2, (Option.some Jvm.ClassFile.FieldType.boolean), 0, 0) 1 ps = true := ⟨[1013, 8198, 8197, 75], by decide +kernel⟩
theorem ck_250 : zCok zTabs zCl zNm zKm false (decide (zy_250.name = "<init>")) zy_250.cls prog_14_method_82_code cd_250 := zCok_of pp_250 (by decide +kernel)
theorem wk_250 : Jvm.Cond.code zy_250 prog_14_method_82_code 6 (Option.some Jvm.ClassFile.FieldType.int) ∈ lw_tbl := zTabs_in tables_1_8 (List.mem_of_getElem? (i := 8) rfl) _ (List.mem_of_getElem? (i := 194) rfl)
theorem mk_250 : ∃ ps, zmok1 (zy_250, prog_14_method_82_code, 4) (cd_250, 6, (Option.some Jvm.ClassFile.FieldType.int), 0, 0) 1 ps = true := ⟨[1013, 8194, 8192, 8193], by decide +kernel⟩
theorem ck_251 : zCok zTabs zCl zNm zKm false (decide (zy_251.name = "<init>")) zy_251.cls prog_14_method_83_code cd_251 := zCok_of pp_251 (by decide +kernel)
theorem wk_251 : Jvm.Cond.code zy_251 prog_14_method_83_code 11 (Option.some Jvm.ClassFile.FieldType.long) ∈ lw_tbl := zTabs_in tables_1_8 (List.mem_of_getElem? (i := 8) rfl) _ (List.mem_of_getElem? (i := 208) rfl)
theorem mk_251 : ∃ ps, zmok1 (zy_251, prog_14_method_83_code, 3) (cd_251, 11, (Option.some Jvm.ClassFile.FieldType.long), 0, 0) 1 ps = true := ⟨[1013, 8208, 8207, 76], by decide +kernel⟩
theorem ck_252 : zCok zTabs zCl zNm zKm false (decide (zy_252.name = "<init>")) zy_252.cls prog_14_method_84_code cd_252 := zCok_of pp_252 (by decide +kernel)
theorem wk_252 : Jvm.Cond.code zy_252 prog_14_method_84_code 2 (Option.some Jvm.ClassFile.FieldType.long) ∈ lw_tbl := zTabs_in tables_1_8 (List.mem_of_getElem? (i := 8) rfl) _ (List.mem_of_getElem? (i := 204) rfl)
theorem mk_252 : ∃ ps, zmok1 (zy_252, prog_14_method_84_code, 1) (cd_252, 2, (Option.some Jvm.ClassFile.FieldType.long), 0, 0) 1 ps = true := ⟨[1013, 8204, 8202, 8203], by decide +kernel⟩
theorem ck_253 : zCok zTabs zCl zNm zKm false (decide (zy_253.name = "<init>")) zy_253.cls prog_14_method_85_code cd_253 := zCok_of pp_253 (by decide +kernel)
theorem wk_253 : Jvm.Cond.code zy_253 prog_14_method_85_code 14 (Option.some Jvm.ClassFile.FieldType.long) ∈ lw_tbl := zTabs_in tables_1_8 (List.mem_of_getElem? (i := 8) rfl) _ (List.mem_of_getElem? (i := 213) rfl)
theorem mk_253 : ∃ ps, zmok1 (zy_253, prog_14_method_85_code, 3) (cd_253, 14, (Option.some Jvm.ClassFile.FieldType.long), 0, 0) 1 ps = true := ⟨[1013, 8213, 8211, 8212], by decide +kernel⟩
theorem ck_254 : zCok zTabs zCl zNm zKm false (decide (zy_254.name = "<init>")) zy_254.cls prog_14_method_86_code cd_254 := zCok_of pp_254 (by decide +kernel)
theorem wk_254 : Jvm.Cond.code zy_254 prog_14_method_86_code 7 (Option.some Jvm.ClassFile.FieldType.long) ∈ lw_tbl := zTabs_in tables_1_8 (List.mem_of_getElem? (i := 8) rfl) _ (List.mem_of_getElem? (i := 220) rfl)
theorem mk_254 : ∃ ps, zmok1 (zy_254, prog_14_method_86_code, 3) (cd_254, 7, (Option.some Jvm.ClassFile.FieldType.long), 0, 0) 0 ps = true := ⟨[1013, 8220, 8219], by decide +kernel⟩
theorem ck_255 : zCok zTabs zCl zNm zKm false (decide (zy_255.name = "<init>")) zy_255.cls prog_14_method_87_code cd_255 := zCok_of pp_255 (by decide +kernel)
theorem wk_255 : Jvm.Cond.code zy_255 prog_14_method_87_code 7 (Option.some Jvm.ClassFile.FieldType.long) ∈ lw_tbl := zTabs_in tables_1_8 (List.mem_of_getElem? (i := 8) rfl) _ (List.mem_of_getElem? (i := 217) rfl)
theorem mk_255 : ∃ ps, zmok1 (zy_255, prog_14_method_87_code, 3) (cd_255, 7, (Option.some Jvm.ClassFile.FieldType.long), 0, 0) 0 ps = true := ⟨[1013, 8217, 8216], by decide +kernel⟩
theorem ck_256 : zCok zTabs zCl zNm zKm false (decide (zy_256.name = "<init>")) zy_256.cls prog_14_method_88_code cd_256 := zCok_of pp_256 (by decide +kernel)
theorem wk_256 : Jvm.Cond.code zy_256 prog_14_method_88_code 4 (Option.some Jvm.ClassFile.FieldType.long) ∈ lw_tbl := zTabs_in tables_1_8 (List.mem_of_getElem? (i := 8) rfl) _ (List.mem_of_getElem? (i := 224) rfl)
theorem mk_256 : ∃ ps, zmok1 (zy_256, prog_14_method_88_code, 3) (cd_256, 4, (Option.some Jvm.ClassFile.FieldType.long), 0, 0) 1 ps = true := ⟨[1013, 8224, 8222, 8223], by decide +kernel⟩
theorem ck_257 : zCok zTabs zCl zNm zKm false (decide (zy_257.name = "<init>")) zy_257.cls prog_14_method_89_code cd_257 := zCok_of pp_257 (by decide +kernel)
theorem wk_257 : Jvm.Cond.code zy_257 prog_14_method_89_code 5 (Option.some Jvm.ClassFile.FieldType.int) ∈ lw_tbl := zTabs_in tables_1_8 (List.mem_of_getElem? (i := 8) rfl) _ (List.mem_of_getElem? (i := 229) rfl)
theorem mk_257 : ∃ ps, zmok1 (zy_257, prog_14_method_89_code, 4) (cd_257, 5, (Option.some Jvm.ClassFile.FieldType.int), 0, 0) 1 ps = true := ⟨[1013, 8229, 8227, 8228], by decide +kernel⟩
theorem ck_258 : zCok zTabs zCl zNm zKm false (decide (zy_258.name = "<init>")) zy_258.cls prog_14_method_90_code cd_258 := zCok_of pp_258 (by decide +kernel)
theorem wk_258 : Jvm.Cond.code zy_258 prog_14_method_90_code 6 (Option.some Jvm.ClassFile.FieldType.int) ∈ lw_tbl := zTabs_in tables_1_8 (List.mem_of_getElem? (i := 8) rfl) _ (List.mem_of_getElem? (i := 238) rfl)
theorem mk_258 : ∃ ps, zmok1 (zy_258, prog_14_method_90_code, 1) (cd_258, 6, (Option.some Jvm.ClassFile.FieldType.int), 0, 0) 1 ps = true := ⟨[1013, 8238, 8237, 77], by decide +kernel⟩
theorem ck_259 : zCok zTabs zCl zNm zKm false (decide (zy_259.name = "<init>")) zy_259.cls prog_14_method_91_code cd_259 := zCok_of pp_259 (by decide +kernel)
theorem wk_259 : Jvm.Cond.code zy_259 prog_14_method_91_code 6 (Option.some Jvm.ClassFile.FieldType.int) ∈ lw_tbl := zTabs_in tables_1_9 (List.mem_of_getElem? (i := 9) rfl) _ (List.mem_of_getElem? (i := 2) rfl)
theorem mk_259 : ∃ ps, zmok1 (zy_259, prog_14_method_91_code, 1) (cd_259, 6, (Option.some Jvm.ClassFile.FieldType.int), 0, 0) 1 ps = true := ⟨[1013, 9002, 9001, 78], by decide +kernel⟩
theorem ck_260 : zCok zTabs zCl zNm zKm false (decide (zy_260.name = "<init>")) zy_260.cls prog_14_method_92_code cd_260 := zCok_of pp_260 (by decide +kernel)
theorem wk_260 : Jvm.Cond.code zy_260 prog_14_method_92_code 4 (Option.some Jvm.ClassFile.FieldType.int) ∈ lw_tbl := zTabs_in tables_1_8 (List.mem_of_getElem? (i := 8) rfl) _ (List.mem_of_getElem? (i := 234) rfl)
theorem mk_260 : ∃ ps, zmok1 (zy_260, prog_14_method_92_code, 2) (cd_260, 4, (Option.some Jvm.ClassFile.FieldType.int), 0, 0) 1 ps = true := ⟨[1013, 8234, 8232, 8233], by decide +kernel⟩
theorem ck_261 : zCok zTabs zCl zNm zKm false (decide (zy_261.name = "<init>")) zy_261.cls prog_14_method_93_code cd_261 := zCok_of pp_261 (by decide +kernel)
theorem wk_261 : Jvm.Cond.code zy_261 prog_14_method_93_code 2 (Option.some Jvm.ClassFile.FieldType.int) ∈ lw_tbl := zTabs_in tables_1_9 (List.mem_of_getElem? (i := 9) rfl) _ (List.mem_of_getElem? (i := 6) rfl)
theorem mk_261 : ∃ ps, zmok1 (zy_261, prog_14_method_93_code, 1) (cd_261, 2, (Option.some Jvm.ClassFile.FieldType.int), 0, 0) 1 ps = true := ⟨[1013, 9006, 9004, 9005], by decide +kernel⟩
theorem ck_262 : zCok zTabs zCl zNm zKm false (decide (zy_262.name = "<init>")) zy_262.cls prog_14_method_94_code cd_262 := zCok_of pp_262 (by decide +kernel)
theorem wk_262 : Jvm.Cond.code zy_262 prog_14_method_94_code 3 (Option.some Jvm.ClassFile.FieldType.int) ∈ lw_tbl := zTabs_in tables_1_9 (List.mem_of_getElem? (i := 9) rfl) _ (List.mem_of_getElem? (i := 14) rfl)
theorem mk_262 : ∃ ps, zmok1 (zy_262, prog_14_method_94_code, 2) (cd_262, 3, (Option.some Jvm.ClassFile.FieldType.int), 0, 0) 1 ps = true := ⟨[1013, 9014, 9013, 79], by decide +kernel⟩
theorem ck_263 : zCok zTabs zCl zNm zKm false (decide (zy_263.name = "<init>")) zy_263.cls prog_14_method_95_code cd_263 := zCok_of pp_263 (by decide +kernel)
theorem wk_263 : Jvm.Cond.code zy_263 prog_14_method_95_code 4 (Option.some Jvm.ClassFile.FieldType.int) ∈ lw_tbl := zTabs_in tables_1_9 (List.mem_of_getElem? (i := 9) rfl) _ (List.mem_of_getElem? (i := 10) rfl)
theorem mk_263 : ∃ ps, zmok1 (zy_263, prog_14_method_95_code, 2) (cd_263, 4, (Option.some Jvm.ClassFile.FieldType.int), 0, 0) 1 ps = true := ⟨[1013, 9010, 9008, 9009], by decide +kernel⟩
theorem ck_264 : zCok zTabs zCl zNm zKm false (decide (zy_264.name = "<init>")) zy_264.cls prog_14_method_96_code cd_264 := zCok_of pp_264 (by decide +kernel)
theorem wk_264 : Jvm.Cond.code zy_264 prog_14_method_96_code 5 (Option.some Jvm.ClassFile.FieldType.int) ∈ lw_tbl := zTabs_in tables_1_9 (List.mem_of_getElem? (i := 9) rfl) _ (List.mem_of_getElem? (i := 18) rfl)
theorem mk_264 : ∃ ps, zmok1 (zy_264, prog_14_method_96_code, 2) (cd_264, 5, (Option.some Jvm.ClassFile.FieldType.int), 0, 0) 1 ps = true := ⟨[1013, 9018, 9016, 9017], by decide +kernel⟩
theorem ck_265 : zCok zTabs zCl zNm zKm false (decide (zy_265.name = "<init>")) zy_265.cls prog_14_method_97_code cd_265 := zCok_of pp_265 (by decide +kernel)
theorem wk_265 : Jvm.Cond.code zy_265 prog_14_method_97_code 5 (Option.some Jvm.ClassFile.FieldType.int) ∈ lw_tbl := zTabs_in tables_1_9 (List.mem_of_getElem? (i := 9) rfl) _ (List.mem_of_getElem? (i := 22) rfl)
theorem mk_265 : ∃ ps, zmok1 (zy_265, prog_14_method_97_code, 4) (cd_265, 5, (Option.some Jvm.ClassFile.FieldType.int), 0, 0) 1 ps = true := ⟨[1013, 9022, 9020, 9021], by decide +kernel⟩
theorem ck_266 : zCok zTabs zCl zNm zKm false (decide (zy_266.name = "<init>")) zy_266.cls prog_14_method_98_code cd_266 := zCok_of pp_266 (by decide +kernel)
theorem wk_266 : Jvm.Cond.code zy_266 prog_14_method_98_code 2 (Option.some Jvm.ClassFile.FieldType.boolean) ∈ lw_tbl := zTabs_in tables_1_9 (List.mem_of_getElem? (i := 9) rfl) _ (List.mem_of_getElem? (i := 30) rfl)
theorem mk_266 : ∃ ps, zmok1 (zy_266, prog_14_method_98_code, 1) (cd_266, 2, (Option.some Jvm.ClassFile.FieldType.boolean), 0, 0) 1 ps = true := ⟨[1013, 9030, 9029, 80], by decide +kernel⟩
theorem ck_267 : zCok zTabs zCl zNm zKm false (decide (zy_267.name = "<init>")) zy_267.cls prog_14_method_99_code cd_267 := zCok_of pp_267 (by decide +kernel)
theorem wk_267 : Jvm.Cond.code zy_267 prog_14_method_99_code 3 (Option.some Jvm.ClassFile.FieldType.boolean) ∈ lw_tbl := zTabs_in tables_1_9 (List.mem_of_getElem? (i := 9) rfl) _ (List.mem_of_getElem? (i := 38) rfl)
theorem mk_267 : ∃ ps, zmok1 (zy_267, prog_14_method_99_code, 2) (cd_267, 3, (Option.some Jvm.ClassFile.FieldType.boolean), 0, 0) 1 ps = true := ⟨[1013, 9038, 9037, 82], by decide +kernel⟩
theorem ck_268 : zCok zTabs zCl zNm zKm false (decide (zy_268.name = "<init>")) zy_268.cls prog_14_method_100_code cd_268 := zCok_of pp_268 (by decide +kernel)
theorem wk_268 : Jvm.Cond.code zy_268 prog_14_method_100_code 3 (Option.some Jvm.ClassFile.FieldType.boolean) ∈ lw_tbl := zTabs_in tables_1_9 (List.mem_of_getElem? (i := 9) rfl) _ (List.mem_of_getElem? (i := 34) rfl)
theorem mk_268 : ∃ ps, zmok1 (zy_268, prog_14_method_100_code, 2) (cd_268, 3, (Option.some Jvm.ClassFile.FieldType.boolean), 0, 0) 1 ps = true := ⟨[1013, 9034, 9033, 81], by decide +kernel⟩
theorem ck_269 : zCok zTabs zCl zNm zKm false (decide (zy_269.name = "<init>")) zy_269.cls prog_14_method_101_code cd_269 := zCok_of pp_269 (by decide +kernel)
theorem wk_269 : Jvm.Cond.code zy_269 prog_14_method_101_code 4 (Option.some Jvm.ClassFile.FieldType.int) ∈ lw_tbl := zTabs_in tables_1_9 (List.mem_of_getElem? (i := 9) rfl) _ (List.mem_of_getElem? (i := 26) rfl)
theorem mk_269 : ∃ ps, zmok1 (zy_269, prog_14_method_101_code, 1) (cd_269, 4, (Option.some Jvm.ClassFile.FieldType.int), 0, 0) 1 ps = true := ⟨[1013, 9026, 9024, 9025], by decide +kernel⟩
theorem ck_270 : zCok zTabs zCl zNm zKm false (decide (zy_270.name = "<init>")) zy_270.cls prog_14_method_102_code cd_270 := zCok_of pp_270 (by decide +kernel)
theorem wk_270 : Jvm.Cond.code zy_270 prog_14_method_102_code 3 (Option.some Jvm.ClassFile.FieldType.int) ∈ lw_tbl := zTabs_in tables_1_9 (List.mem_of_getElem? (i := 9) rfl) _ (List.mem_of_getElem? (i := 42) rfl)
theorem mk_270 : ∃ ps, zmok1 (zy_270, prog_14_method_102_code, 2) (cd_270, 3, (Option.some Jvm.ClassFile.FieldType.int), 0, 0) 1 ps = true := ⟨[1013, 9042, 9040, 9041], by decide +kernel⟩
theorem ck_271 : zCok zTabs zCl zNm zKm false (decide (zy_271.name = "<init>")) zy_271.cls prog_14_method_103_code cd_271 := zCok_of pp_271 (by decide +kernel)
theorem wk_271 : Jvm.Cond.code zy_271 prog_14_method_103_code 3 (Option.some Jvm.ClassFile.FieldType.boolean) ∈ lw_tbl := zTabs_in tables_1_9 (List.mem_of_getElem? (i := 9) rfl) _ (List.mem_of_getElem? (i := 46) rfl)
theorem mk_271 : ∃ ps, zmok1 (zy_271, prog_14_method_103_code, 2) (cd_271, 3, (Option.some Jvm.ClassFile.FieldType.boolean), 0, 0) 1 ps = true := ⟨[1013, 9046, 9044, 9045], by decide +kernel⟩
theorem ck_272 : zCok zTabs zCl zNm zKm false (decide (zy_272.name = "<init>")) zy_272.cls prog_14_method_104_code cd_272 := zCok_of pp_272 (by decide +kernel)
theorem wk_272 : Jvm.Cond.code zy_272 prog_14_method_104_code 5 (Option.some Jvm.ClassFile.FieldType.int) ∈ lw_tbl := zTabs_in tables_1_9 (List.mem_of_getElem? (i := 9) rfl) _ (List.mem_of_getElem? (i := 50) rfl)
theorem mk_272 : ∃ ps, zmok1 (zy_272, prog_14_method_104_code, 2) (cd_272, 5, (Option.some Jvm.ClassFile.FieldType.int), 0, 0) 1 ps = true := ⟨[1013, 9050, 9048, 9049], by decide +kernel⟩
theorem ck_273 : zCok zTabs zCl zNm zKm false (decide (zy_273.name = "<init>")) zy_273.cls prog_14_method_105_code cd_273 := zCok_of pp_273 (by decide +kernel)
theorem wk_273 : Jvm.Cond.code zy_273 prog_14_method_105_code 3 (Option.some Jvm.ClassFile.FieldType.boolean) ∈ lw_tbl := zTabs_in tables_1_9 (List.mem_of_getElem? (i := 9) rfl) _ (List.mem_of_getElem? (i := 54) rfl)
theorem mk_273 : ∃ ps, zmok1 (zy_273, prog_14_method_105_code, 2) (cd_273, 3, (Option.some Jvm.ClassFile.FieldType.boolean), 0, 0) 1 ps = true := ⟨[1013, 9054, 9052, 9053], by decide +kernel⟩
theorem ck_274 : zCok zTabs zCl zNm zKm false (decide (zy_274.name = "<init>")) zy_274.cls prog_14_method_106_code cd_274 := zCok_of pp_274 (by decide +kernel)
theorem wk_274 : Jvm.Cond.code zy_274 prog_14_method_106_code 13 (Option.some Jvm.ClassFile.FieldType.long) ∈ lw_tbl := zTabs_in tables_1_9 (List.mem_of_getElem? (i := 9) rfl) _ (List.mem_of_getElem? (i := 58) rfl)
theorem mk_274 : ∃ ps, zmok1 (zy_274, prog_14_method_106_code, 1) (cd_274, 13, (Option.some Jvm.ClassFile.FieldType.long), 0, 0) 1 ps = true := ⟨[1013, 9058, 9056, 9057], by decide +kernel⟩
theorem ck_275 : zCok zTabs zCl zNm zKm false (decide (zy_275.name = "<init>")) zy_275.cls prog_14_method_107_code cd_275 := zCok_of pp_275 (by decide +kernel)
theorem wk_275 : Jvm.Cond.code zy_275 prog_14_method_107_code 3 (Option.some Jvm.ClassFile.FieldType.int) ∈ lw_tbl := zTabs_in tables_1_9 (List.mem_of_getElem? (i := 9) rfl) _ (List.mem_of_getElem? (i := 62) rfl)
theorem mk_275 : ∃ ps, zmok1 (zy_275, prog_14_method_107_code, 2) (cd_275, 3, (Option.some Jvm.ClassFile.FieldType.int), 0, 0) 1 ps = true := ⟨[1013, 9062, 9060, 9061], by decide +kernel⟩
theorem ck_276 : zCok zTabs zCl zNm zKm false (decide (zy_276.name = "<init>")) zy_276.cls prog_14_method_108_code cd_276 := zCok_of pp_276 (by decide +kernel)
theorem wk_276 : Jvm.Cond.code zy_276 prog_14_method_108_code 5 (Option.some Jvm.ClassFile.FieldType.int) ∈ lw_tbl := zTabs_in tables_1_9 (List.mem_of_getElem? (i := 9) rfl) _ (List.mem_of_getElem? (i := 66) rfl)
theorem mk_276 : ∃ ps, zmok1 (zy_276, prog_14_method_108_code, 3) (cd_276, 5, (Option.some Jvm.ClassFile.FieldType.int), 0, 0) 1 ps = true := ⟨[1013, 9066, 9064, 9065], by decide +kernel⟩
theorem ck_277 : zCok zTabs zCl zNm zKm false (decide (zy_277.name = "<init>")) zy_277.cls prog_14_method_109_code cd_277 := zCok_of pp_277 (by decide +kernel)
theorem wk_277 : Jvm.Cond.code zy_277 prog_14_method_109_code 8 (Option.some Jvm.ClassFile.FieldType.int) ∈ lw_tbl := zTabs_in tables_1_9 (List.mem_of_getElem? (i := 9) rfl) _ (List.mem_of_getElem? (i := 70) rfl)
theorem mk_277 : ∃ ps, zmok1 (zy_277, prog_14_method_109_code, 1) (cd_277, 8, (Option.some Jvm.ClassFile.FieldType.int), 0, 0) 1 ps = true := ⟨[1013, 9070, 9068, 9069], by decide +kernel⟩
theorem ck_278 : zCok zTabs zCl zNm zKm false (decide (zy_278.name = "<init>")) zy_278.cls prog_14_method_110_code cd_278 := zCok_of pp_278 (by decide +kernel)
theorem wk_278 : Jvm.Cond.code zy_278 prog_14_method_110_code 2 (Option.some Jvm.ClassFile.FieldType.int) ∈ lw_tbl := zTabs_in tables_1_9 (List.mem_of_getElem? (i := 9) rfl) _ (List.mem_of_getElem? (i := 74) rfl)
theorem mk_278 : ∃ ps, zmok1 (zy_278, prog_14_method_110_code, 1) (cd_278, 2, (Option.some Jvm.ClassFile.FieldType.int), 0, 0) 1 ps = true := ⟨[1013, 9074, 9072, 9073], by decide +kernel⟩
theorem ck_279 : zCok zTabs zCl zNm zKm false (decide (zy_279.name = "<init>")) zy_279.cls prog_14_method_111_code cd_279 := zCok_of pp_279 (by decide +kernel)
theorem wk_279 : Jvm.Cond.code zy_279 prog_14_method_111_code 2 (Option.some Jvm.ClassFile.FieldType.int) ∈ lw_tbl := zTabs_in tables_1_9 (List.mem_of_getElem? (i := 9) rfl) _ (List.mem_of_getElem? (i := 78) rfl)
theorem mk_279 : ∃ ps, zmok1 (zy_279, prog_14_method_111_code, 1) (cd_279, 2, (Option.some Jvm.ClassFile.FieldType.int), 0, 0) 1 ps = true := ⟨[1013, 9078, 9076, 9077], by decide +kernel⟩
theorem ck_280 : zCok zTabs zCl zNm zKm false (decide (zy_280.name = "<init>")) zy_280.cls prog_16_method_49_code cd_280 := zCok_of pp_280 (by decide +kernel)
theorem wk_280 : Jvm.Cond.code zy_280 prog_16_method_49_code 6 (Option.some Jvm.ClassFile.FieldType.long) ∈ lw_tbl := zTabs_in tables_1_5 (List.mem_of_getElem? (i := 5) rfl) _ (List.mem_of_getElem? (i := 80) rfl)
theorem mk_280 : ∃ ps, zmok1 (zy_280, prog_16_method_49_code, 2) (cd_280, 6, (Option.some Jvm.ClassFile.FieldType.long), 0, 0) 0 ps = true := ⟨[1019, 5080, 5079], by decide +kernel⟩
theorem ck_281 : zCok zTabs zCl zNm zKm false (decide (zy_281.name = "<init>")) zy_281.cls prog_21_method_101_code cd_281 := zCok_of pp_281 (by decide +kernel)
theorem wk_281 : Jvm.Cond.code zy_281 prog_21_method_101_code 5 (Option.none : Option Jvm.ClassFile.FieldType) ∈ lw_tbl := zTabs_in tables_1_4 (List.mem_of_getElem? (i := 4) rfl) _ (List.mem_of_getElem? (i := 132) rfl)
theorem mk_281 : ∃ ps, zmok1 (zy_281, prog_21_method_101_code, 2) (cd_281, 5, (Option.none : Option Jvm.ClassFile.FieldType), 0, 0) 0 ps = true := ⟨[1003, 4132, 4131], by decide +kernel⟩
theorem ck_282 : zCok zTabs zCl zNm zKm false (decide (zy_282.name = "<init>")) zy_282.cls prog_21_method_103_code cd_282 := zCok_of pp_282 (by decide +kernel)
theorem wk_282 : Jvm.Cond.code zy_282 prog_21_method_103_code 4 (Option.none : Option Jvm.ClassFile.FieldType) ∈ lw_tbl := zTabs_in tables_1_1 (List.mem_of_getElem? (i := 1) rfl) _ (List.mem_of_getElem? (i := 39) rfl)
theorem mk_282 : ∃ ps, zmok1 (zy_282, prog_21_method_103_code, 2) (cd_282, 4, (Option.none : Option Jvm.ClassFile.FieldType), 0, 0) 0 ps = true := ⟨[1003, 1039, 1038], by decide +kernel⟩
theorem ck_283 : zCok zTabs zCl zNm zKm false (decide (zy_283.name = "<init>")) zy_283.cls prog_21_method_123_code cd_283 := zCok_of pp_283 (by decide +kernel)
theorem wk_283 : Jvm.Cond.code zy_283 prog_21_method_123_code 3 (Option.some (Jvm.ClassFile.FieldType.array Jvm.ClassFile.FieldType.int)) ∈ lw_tbl := zTabs_in tables_1_4 (List.mem_of_getElem? (i := 4) rfl) _ (List.mem_of_getElem? (i := 80) rfl)
theorem mk_283 : ∃ ps, zmok1 (zy_283, prog_21_method_123_code, 2) (cd_283, 3, (Option.some (Jvm.ClassFile.FieldType.array Jvm.ClassFile.FieldType.int)), 1, 400) 0 ps = true := ⟨[1003, 4080, 4079], by decide +kernel⟩
