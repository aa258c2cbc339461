theorem ck_142 : zCok zTabs zCl zNm zKm false (decide (zy_142.name = "<init>")) zy_142.cls prog_1_method_34_code cd_142 := zCok_of pp_142 (by decide +kernel)
theorem wk_142 : Jvm.Cond.code zy_142 prog_1_method_34_code 3 (Option.some Jvm.ClassFile.FieldType.int) ∈ lw_tbl := zTabs_in tables_1_5 (List.mem_of_getElem? (i := 5) rfl) _ (List.mem_of_getElem? (i := 112) rfl)
theorem mk_142 : ∃ ps, zmok1 (zy_142, prog_1_method_34_code, 2) (cd_142, 3, (Option.some Jvm.ClassFile.FieldType.int), 0, 0) 1 ps = true := ⟨[1001, 5112, 5110, 5111], by decide +kernel⟩
theorem ck_143 : zCok zTabs zCl zNm zKm false (decide (zy_143.name = "<init>")) zy_143.cls prog_1_method_35_code cd_143 := zCok_of pp_143 (by decide +kernel)
theorem wk_143 : Jvm.Cond.code zy_143 prog_1_method_35_code 2 (Option.some Jvm.ClassFile.FieldType.int) ∈ lw_tbl := zTabs_in tables_1_5 (List.mem_of_getElem? (i := 5) rfl) _ (List.mem_of_getElem? (i := 126) rfl)
theorem mk_143 : ∃ ps, zmok1 (zy_143, prog_1_method_35_code, 1) (cd_143, 2, (Option.some Jvm.ClassFile.FieldType.int), 0, 0) 1 ps = true := ⟨[1001, 5126, 5124, 5125], by decide +kernel⟩
theorem ck_144 : zCok zTabs zCl zNm zKm false (decide (zy_144.name = "<init>")) zy_144.cls prog_1_method_36_code cd_144 := zCok_of pp_144 (by decide +kernel)
theorem wk_144 : Jvm.Cond.code zy_144 prog_1_method_36_code 3 (Option.some Jvm.ClassFile.FieldType.int) ∈ lw_tbl := zTabs_in tables_1_5 (List.mem_of_getElem? (i := 5) rfl) _ (List.mem_of_getElem? (i := 134) rfl)
theorem mk_144 : ∃ ps, zmok1 (zy_144, prog_1_method_36_code, 2) (cd_144, 3, (Option.some Jvm.ClassFile.FieldType.int), 0, 0) 1 ps = true := ⟨[1001, 5134, 5132, 5133], by decide +kernel⟩
theorem ck_145 : zCok zTabs zCl zNm zKm false (decide (zy_145.name = "<init>")) zy_145.cls prog_1_method_37_code cd_145 := zCok_of pp_145 (by decide +kernel)
theorem wk_145 : Jvm.Cond.code zy_145 prog_1_method_37_code 3 (Option.some Jvm.ClassFile.FieldType.int) ∈ lw_tbl := zTabs_in tables_1_5 (List.mem_of_getElem? (i := 5) rfl) _ (List.mem_of_getElem? (i := 142) rfl)
theorem mk_145 : ∃ ps, zmok1 (zy_145, prog_1_method_37_code, 2) (cd_145, 3, (Option.some Jvm.ClassFile.FieldType.int), 0, 0) 1 ps = true := ⟨[1001, 5142, 5140, 5141], by decide +kernel⟩
theorem ck_146 : zCok zTabs zCl zNm zKm false (decide (zy_146.name = "<init>")) zy_146.cls prog_1_method_38_code cd_146 := zCok_of pp_146 (by decide +kernel)
theorem wk_146 : Jvm.Cond.code zy_146 prog_1_method_38_code 6 (Option.some Jvm.ClassFile.FieldType.int) ∈ lw_tbl := zTabs_in tables_1_5 (List.mem_of_getElem? (i := 5) rfl) _ (List.mem_of_getElem? (i := 151) rfl)
theorem mk_146 : ∃ ps, zmok1 (zy_146, prog_1_method_38_code, 4) (cd_146, 6, (Option.some Jvm.ClassFile.FieldType.int), 0, 0) 1 ps = true := ⟨[1001, 5151, 5149, 5150], by decide +kernel⟩
theorem ck_147 : zCok zTabs zCl zNm zKm false (decide (zy_147.name = "<init>")) zy_147.cls prog_1_method_39_code cd_147 := zCok_of pp_147 (by decide +kernel)
theorem wk_147 : Jvm.Cond.code zy_147 prog_1_method_39_code 2 (Option.some Jvm.ClassFile.FieldType.int) ∈ lw_tbl := zTabs_in tables_1_5 (List.mem_of_getElem? (i := 5) rfl) _ (List.mem_of_getElem? (i := 159) rfl)
theorem mk_147 : ∃ ps, zmok1 (zy_147, prog_1_method_39_code, 1) (cd_147, 2, (Option.some Jvm.ClassFile.FieldType.int), 0, 0) 1 ps = true := ⟨[1001, 5159, 5157, 5158], by decide +kernel⟩
theorem ck_148 : zCok zTabs zCl zNm zKm false (decide (zy_148.name = "<init>")) zy_148.cls prog_1_method_40_code cd_148 := zCok_of pp_148 (by decide +kernel)
theorem wk_148 : Jvm.Cond.code zy_148 prog_1_method_40_code 4 (Option.some Jvm.ClassFile.FieldType.int) ∈ lw_tbl := zTabs_in tables_1_5 (List.mem_of_getElem? (i := 5) rfl) _ (List.mem_of_getElem? (i := 184) rfl)
theorem mk_148 : ∃ ps, zmok1 (zy_148, prog_1_method_40_code, 2) (cd_148, 4, (Option.some Jvm.ClassFile.FieldType.int), 0, 0) 1 ps = true := ⟨[1001, 5184, 5182, 5183], by decide +kernel⟩
theorem ck_149 : zCok zTabs zCl zNm zKm false (decide (zy_149.name = "<init>")) zy_149.cls prog_1_method_41_code cd_149 := zCok_of pp_149 (by decide +kernel)
theorem wk_149 : Jvm.Cond.code zy_149 prog_1_method_41_code 4 (Option.some Jvm.ClassFile.FieldType.boolean) ∈ lw_tbl := zTabs_in tables_1_5 (List.mem_of_getElem? (i := 5) rfl) _ (List.mem_of_getElem? (i := 193) rfl)
theorem mk_149 : ∃ ps, zmok1 (zy_149, prog_1_method_41_code, 2) (cd_149, 4, (Option.some Jvm.ClassFile.FieldType.boolean), 0, 0) 1 ps = true := ⟨[1001, 5193, 5191, 5192], by decide +kernel⟩
theorem ck_150 : zCok zTabs zCl zNm zKm false (decide (zy_150.name = "<init>")) zy_150.cls prog_1_method_42_code cd_150 := zCok_of pp_150 (by decide +kernel)
theorem wk_150 : Jvm.Cond.code zy_150 prog_1_method_42_code 3 (Option.some Jvm.ClassFile.FieldType.int) ∈ lw_tbl := zTabs_in tables_1_5 (List.mem_of_getElem? (i := 5) rfl) _ (List.mem_of_getElem? (i := 203) rfl)
theorem mk_150 : ∃ ps, zmok1 (zy_150, prog_1_method_42_code, 2) (cd_150, 3, (Option.some Jvm.ClassFile.FieldType.int), 0, 0) 1 ps = true := ⟨[1001, 5203, 5201, 5202], by decide +kernel⟩
theorem ck_151 : zCok zTabs zCl zNm zKm false (decide (zy_151.name = "<init>")) zy_151.cls prog_1_method_43_code cd_151 := zCok_of pp_151 (by decide +kernel)
theorem wk_151 : Jvm.Cond.code zy_151 prog_1_method_43_code 3 (Option.some Jvm.ClassFile.FieldType.boolean) ∈ lw_tbl := zTabs_in tables_1_5 (List.mem_of_getElem? (i := 5) rfl) _ (List.mem_of_getElem? (i := 215) rfl)
theorem mk_151 : ∃ ps, zmok1 (zy_151, prog_1_method_43_code, 2) (cd_151, 3, (Option.some Jvm.ClassFile.FieldType.boolean), 0, 0) 1 ps = true := ⟨[1001, 5215, 5213, 5214], by decide +kernel⟩
theorem ck_152 : zCok zTabs zCl zNm zKm false (decide (zy_152.name = "<init>")) zy_152.cls prog_1_method_44_code cd_152 := zCok_of pp_152 (by decide +kernel)
theorem wk_152 : Jvm.Cond.code zy_152 prog_1_method_44_code 8 (Option.some Jvm.ClassFile.FieldType.long) ∈ lw_tbl := zTabs_in tables_1_5 (List.mem_of_getElem? (i := 5) rfl) _ (List.mem_of_getElem? (i := 223) rfl)
theorem mk_152 : ∃ ps, zmok1 (zy_152, prog_1_method_44_code, 1) (cd_152, 8, (Option.some Jvm.ClassFile.FieldType.long), 0, 0) 1 ps = true := ⟨[1001, 5223, 5221, 5222], by decide +kernel⟩
theorem ck_153 : zCok zTabs zCl zNm zKm false (decide (zy_153.name = "<init>")) zy_153.cls prog_1_method_45_code cd_153 := zCok_of pp_153 (by decide +kernel)
theorem wk_153 : Jvm.Cond.code zy_153 prog_1_method_45_code 3 (Option.some Jvm.ClassFile.FieldType.int) ∈ lw_tbl := zTabs_in tables_1_6 (List.mem_of_getElem? (i := 6) rfl) _ (List.mem_of_getElem? (i := 0) rfl)
theorem mk_153 : ∃ ps, zmok1 (zy_153, prog_1_method_45_code, 2) (cd_153, 3, (Option.some Jvm.ClassFile.FieldType.int), 0, 0) 1 ps = true := ⟨[1001, 6000, 5238, 5239], by decide +kernel⟩
theorem ck_154 : zCok zTabs zCl zNm zKm false (decide (zy_154.name = "<init>")) zy_154.cls prog_1_method_46_code cd_154 := zCok_of pp_154 (by decide +kernel)
theorem wk_154 : Jvm.Cond.code zy_154 prog_1_method_46_code 5 (Option.some Jvm.ClassFile.FieldType.int) ∈ lw_tbl := zTabs_in tables_1_6 (List.mem_of_getElem? (i := 6) rfl) _ (List.mem_of_getElem? (i := 8) rfl)
theorem mk_154 : ∃ ps, zmok1 (zy_154, prog_1_method_46_code, 3) (cd_154, 5, (Option.some Jvm.ClassFile.FieldType.int), 0, 0) 1 ps = true := ⟨[1001, 6008, 6006, 6007], by decide +kernel⟩
theorem ck_155 : zCok zTabs zCl zNm zKm false (decide (zy_155.name = "<init>")) zy_155.cls prog_1_method_47_code cd_155 := zCok_of pp_155 (by decide +kernel)
theorem wk_155 : Jvm.Cond.code zy_155 prog_1_method_47_code 2 (Option.some Jvm.ClassFile.FieldType.int) ∈ lw_tbl := zTabs_in tables_1_6 (List.mem_of_getElem? (i := 6) rfl) _ (List.mem_of_getElem? (i := 20) rfl)
theorem mk_155 : ∃ ps, zmok1 (zy_155, prog_1_method_47_code, 1) (cd_155, 2, (Option.some Jvm.ClassFile.FieldType.int), 0, 0) 1 ps = true := ⟨[1001, 6020, 6018, 6019], by decide +kernel⟩
theorem ck_156 : zCok zTabs zCl zNm zKm false (decide (zy_156.name = "<init>")) zy_156.cls prog_1_method_48_code cd_156 := zCok_of pp_156 (by decide +kernel)
theorem wk_156 : Jvm.Cond.code zy_156 prog_1_method_48_code 2 (Option.some Jvm.ClassFile.FieldType.int) ∈ lw_tbl := zTabs_in tables_1_6 (List.mem_of_getElem? (i := 6) rfl) _ (List.mem_of_getElem? (i := 36) rfl)
theorem mk_156 : ∃ ps, zmok1 (zy_156, prog_1_method_48_code, 1) (cd_156, 2, (Option.some Jvm.ClassFile.FieldType.int), 0, 0) 1 ps = true := ⟨[1001, 6036, 6034, 6035], by decide +kernel⟩
theorem ck_157 : zCok zTabs zCl zNm zKm false (decide (zy_157.name = "<init>")) zy_157.cls prog_1_method_49_code cd_157 := zCok_of pp_157 (by decide +kernel)
theorem wk_157 : Jvm.Cond.code zy_157 prog_1_method_49_code 2 (Option.some Jvm.ClassFile.FieldType.int) ∈ lw_tbl := zTabs_in tables_1_6 (List.mem_of_getElem? (i := 6) rfl) _ (List.mem_of_getElem? (i := 40) rfl)
theorem mk_157 : ∃ ps, zmok1 (zy_157, prog_1_method_49_code, 1) (cd_157, 2, (Option.some Jvm.ClassFile.FieldType.int), 0, 0) 1 ps = true := ⟨[1001, 6040, 6038, 6039], by decide +kernel⟩
theorem ck_158 : zCok zTabs zCl zNm zKm false (decide (zy_158.name = "<init>")) zy_158.cls prog_1_method_50_code cd_158 := zCok_of pp_158 (by decide +kernel)
theorem wk_158 : Jvm.Cond.code zy_158 prog_1_method_50_code 3 (Option.some Jvm.ClassFile.FieldType.boolean) ∈ lw_tbl := zTabs_in tables_1_2 (List.mem_of_getElem? (i := 2) rfl) _ (List.mem_of_getElem? (i := 200) rfl)
theorem mk_158 : ∃ ps, zmok1 (zy_158, prog_1_method_50_code, 3) (cd_158, 3, (Option.some Jvm.ClassFile.FieldType.boolean), 0, 0) 0 ps = true := ⟨[1001, 2200, 2199], by decide +kernel⟩
theorem ck_159 : zCok zTabs zCl zNm zKm false (decide (zy_159.name = "<init>")) zy_159.cls prog_1_method_51_code cd_159 := zCok_of pp_159 (by decide +kernel)
theorem wk_159 : Jvm.Cond.code zy_159 prog_1_method_51_code 1 (Option.some Jvm.ClassFile.FieldType.boolean) ∈ lw_tbl := zTabs_in tables_1_2 (List.mem_of_getElem? (i := 2) rfl) _ (List.mem_of_getElem? (i := 197) rfl)
theorem mk_159 : ∃ ps, zmok1 (zy_159, prog_1_method_51_code, 1) (cd_159, 1, (Option.some Jvm.ClassFile.FieldType.boolean), 0, 0) 0 ps = true := ⟨[1001, 2197, 2196], by decide +kernel⟩
theorem ck_160 : zCok zTabs zCl zNm zKm false (decide (zy_160.name = "<init>")) zy_160.cls prog_1_method_52_code cd_160 := zCok_of pp_160 (by decide +kernel)
theorem wk_160 : Jvm.Cond.code zy_160 prog_1_method_52_code 1 (Option.some Jvm.ClassFile.FieldType.boolean) ∈ lw_tbl := zTabs_in tables_1_2 (List.mem_of_getElem? (i := 2) rfl) _ (List.mem_of_getElem? (i := 207) rfl)
theorem mk_160 : ∃ ps, zmok1 (zy_160, prog_1_method_52_code, 1) (cd_160, 1, (Option.some Jvm.ClassFile.FieldType.boolean), 0, 0) 0 ps = true := ⟨[1001, 2207, 2206], by decide +kernel⟩
theorem ck_161 : zCok zTabs zCl zNm zKm false (decide (zy_161.name = "<init>")) zy_161.cls prog_1_method_53_code cd_161 := zCok_of pp_161 (by decide +kernel)
theorem wk_161 : Jvm.Cond.code zy_161 prog_1_method_53_code 1 (Option.some Jvm.ClassFile.FieldType.boolean) ∈ lw_tbl := zTabs_in tables_1_2 (List.mem_of_getElem? (i := 2) rfl) _ (List.mem_of_getElem? (i := 218) rfl)
theorem mk_161 : ∃ ps, zmok1 (zy_161, prog_1_method_53_code, 1) (cd_161, 1, (Option.some Jvm.ClassFile.FieldType.boolean), 0, 0) 0 ps = true := ⟨[1001, 2218, 2217], by decide +kernel⟩
theorem ck_162 : zCok zTabs zCl zNm zKm false (decide (zy_162.name = "<init>")) zy_162.cls prog_1_method_54_code cd_162 := zCok_of pp_162 (by decide +kernel)
theorem wk_162 : Jvm.Cond.code zy_162 prog_1_method_54_code 1 (Option.some Jvm.ClassFile.FieldType.boolean) ∈ lw_tbl := zTabs_in tables_1_3 (List.mem_of_getElem? (i := 3) rfl) _ (List.mem_of_getElem? (i := 130) rfl)
theorem mk_162 : ∃ ps, zmok1 (zy_162, prog_1_method_54_code, 1) (cd_162, 1, (Option.some Jvm.ClassFile.FieldType.boolean), 0, 0) 0 ps = true := ⟨[1001, 3130, 3129], by decide +kernel⟩
theorem ck_163 : zCok zTabs zCl zNm zKm false (decide (zy_163.name = "<init>")) zy_163.cls prog_1_method_55_code cd_163 := zCok_of pp_163 (by decide +kernel)
theorem wk_163 : Jvm.Cond.code zy_163 prog_1_method_55_code 3 (Option.some Jvm.ClassFile.FieldType.int) ∈ lw_tbl := zTabs_in tables_1_3 (List.mem_of_getElem? (i := 3) rfl) _ (List.mem_of_getElem? (i := 115) rfl)
theorem mk_163 : ∃ ps, zmok1 (zy_163, prog_1_method_55_code, 2) (cd_163, 3, (Option.some Jvm.ClassFile.FieldType.int), 0, 0) 1 ps = true := ⟨[1001, 3115, 3114, 0], by decide +kernel⟩
theorem ck_164 : zCok zTabs zCl zNm zKm false (decide (zy_164.name = "<init>")) zy_164.cls prog_1_method_56_code cd_164 := zCok_of pp_164 (by decide +kernel)
theorem wk_164 : Jvm.Cond.code zy_164 prog_1_method_56_code 2 (Option.none : Option Jvm.ClassFile.FieldType) ∈ lw_tbl := zTabs_in tables_1_4 (List.mem_of_getElem? (i := 4) rfl) _ (List.mem_of_getElem? (i := 107) rfl)
theorem mk_164 : ∃ ps, zmok1 (zy_164, prog_1_method_56_code, 1) (cd_164, 2, (Option.none : Option Jvm.ClassFile.FieldType), 0, 0) 1 ps = true := ⟨[1001, 4107, 4106, 19], by decide +kernel⟩
theorem ck_165 : zCok zTabs zCl zNm zKm false (decide (zy_165.name = "<init>")) zy_165.cls prog_1_method_57_code cd_165 := zCok_of pp_165 (by decide +kernel)
theorem wk_165 : Jvm.Cond.code zy_165 prog_1_method_57_code 5 (Option.none : Option Jvm.ClassFile.FieldType) ∈ lw_tbl := zTabs_in tables_1_4 (List.mem_of_getElem? (i := 4) rfl) _ (List.mem_of_getElem? (i := 129) rfl)
theorem mk_165 : ∃ ps, zmok1 (zy_165, prog_1_method_57_code, 3) (cd_165, 5, (Option.none : Option Jvm.ClassFile.FieldType), 0, 0) 1 ps = true := ⟨[1001, 4129, 4128, 21], by decide +kernel⟩
theorem ck_166 : zCok zTabs zCl zNm zKm false (decide (zy_166.name = "<init>")) zy_166.cls prog_1_method_58_code cd_166 := zCok_of pp_166 (by decide +kernel)
theorem wk_166 : Jvm.Cond.code zy_166 prog_1_method_58_code 7 (Option.none : Option Jvm.ClassFile.FieldType) ∈ lw_tbl := zTabs_in tables_1_5 (List.mem_of_getElem? (i := 5) rfl) _ (List.mem_of_getElem? (i := 227) rfl)
theorem mk_166 : ∃ ps, zmok1 (zy_166, prog_1_method_58_code, 2) (cd_166, 7, (Option.none : Option Jvm.ClassFile.FieldType), 0, 0) 1 ps = true := ⟨[1001, 5227, 5226, 30], by decide +kernel⟩
theorem ck_167 : zCok zTabs zCl zNm zKm false (decide (zy_167.name = "<init>")) zy_167.cls prog_1_method_59_code cd_167 := zCok_of pp_167 (by decide +kernel)
theorem wk_167 : Jvm.Cond.code zy_167 prog_1_method_59_code 6 (Option.some Jvm.ClassFile.FieldType.int) ∈ lw_tbl := zTabs_in tables_1_4 (List.mem_of_getElem? (i := 4) rfl) _ (List.mem_of_getElem? (i := 125) rfl)
theorem mk_167 : ∃ ps, zmok1 (zy_167, prog_1_method_59_code, 3) (cd_167, 6, (Option.some Jvm.ClassFile.FieldType.int), 0, 0) 1 ps = true := ⟨[1001, 4125, 4124, 20], by decide +kernel⟩
theorem ck_168 : zCok zTabs zCl zNm zKm false (decide (zy_168.name = "<init>")) zy_168.cls prog_1_method_60_code cd_168 := zCok_of pp_168 (by decide +kernel)
theorem wk_168 : Jvm.Cond.code zy_168 prog_1_method_60_code 6 (Option.some Jvm.ClassFile.FieldType.int) ∈ lw_tbl := zTabs_in tables_1_4 (List.mem_of_getElem? (i := 4) rfl) _ (List.mem_of_getElem? (i := 218) rfl)
theorem mk_168 : ∃ ps, zmok1 (zy_168, prog_1_method_60_code, 3) (cd_168, 6, (Option.some Jvm.ClassFile.FieldType.int), 0, 0) 1 ps = true := ⟨[1001, 4218, 4217, 25], by decide +kernel⟩
theorem ck_169 : zCok zTabs zCl zNm zKm false (decide (zy_169.name = "<init>")) zy_169.cls prog_1_method_61_code cd_169 := zCok_of pp_169 (by decide +kernel)
theorem wk_169 : Jvm.Cond.code zy_169 prog_1_method_61_code 2 (Option.none : Option Jvm.ClassFile.FieldType) ∈ lw_tbl := zTabs_in tables_1_4 (List.mem_of_getElem? (i := 4) rfl) _ (List.mem_of_getElem? (i := 115) rfl)
theorem mk_169 : ∃ ps, zmok1 (zy_169, prog_1_method_61_code, 1) (cd_169, 2, (Option.none : Option Jvm.ClassFile.FieldType), 0, 0) 0 ps = true := ⟨[1001, 4115, 4114], by decide +kernel⟩
theorem ck_170 : zCok zTabs zCl zNm zKm false (decide (zy_170.name = "<init>")) zy_170.cls prog_14_method_1_code cd_170 := zCok_of pp_170 (by decide +kernel)
theorem wk_170 : Jvm.Cond.code zy_170 prog_14_method_1_code 2 (Option.none : Option Jvm.ClassFile.FieldType) ∈ lw_tbl := zTabs_in tables_1_6 (List.mem_of_getElem? (i := 6) rfl) _ (List.mem_of_getElem? (i := 45) rfl)
theorem mk_170 : ∃ ps, zmok1 (zy_170, prog_14_method_1_code, 0) (cd_170, 2, (Option.none : Option Jvm.ClassFile.FieldType), 70, 32970) 2 ps = true := ⟨[1013, 6045, 6044], by decide +kernel⟩
theorem ck_171 : zCok zTabs zCl zNm zKm false (decide (zy_171.name = "<init>")) zy_171.cls prog_14_method_3_code cd_171 := zCok_of pp_171 (by decide +kernel)
theorem wk_171 : Jvm.Cond.code zy_171 prog_14_method_3_code 6 (Option.some Jvm.ClassFile.FieldType.boolean) ∈ lw_tbl := zTabs_in tables_1_7 (List.mem_of_getElem? (i := 7) rfl) _ (List.mem_of_getElem? (i := 103) rfl)
theorem mk_171 : ∃ ps, zmok1 (zy_171, prog_14_method_3_code, 3) (cd_171, 6, (Option.some Jvm.ClassFile.FieldType.boolean), 0, 0) 0 ps = true := ⟨[1013, 7103, 7102], by decide +kernel⟩
theorem ck_172 : zCok zTabs zCl zNm zKm false (decide (zy_172.name = "<init>")) zy_172.cls prog_14_method_4_code cd_172 := zCok_of pp_172 (by decide +kernel)
theorem wk_172 : Jvm.Cond.code zy_172 prog_14_method_4_code 1 (Option.some Jvm.ClassFile.FieldType.boolean) ∈ lw_tbl := zTabs_in tables_1_7 (List.mem_of_getElem? (i := 7) rfl) _ (List.mem_of_getElem? (i := 143) rfl)
theorem mk_172 : ∃ ps, zmok1 (zy_172, prog_14_method_4_code, 1) (cd_172, 1, (Option.some Jvm.ClassFile.FieldType.boolean), 0, 0) 0 ps = true := ⟨[1013, 7143, 7142], by decide +kernel⟩
theorem ck_173 : zCok zTabs zCl zNm zKm false (decide (zy_173.name = "<init>")) zy_173.cls prog_14_method_5_code cd_173 := zCok_of pp_173 (by decide +kernel)
theorem wk_173 : Jvm.Cond.code zy_173 prog_14_method_5_code 1 (Option.some Jvm.ClassFile.FieldType.boolean) ∈ lw_tbl := zTabs_in tables_1_7 (List.mem_of_getElem? (i := 7) rfl) _ (List.mem_of_getElem? (i := 116) rfl)
theorem mk_173 : ∃ ps, zmok1 (zy_173, prog_14_method_5_code, 1) (cd_173, 1, (Option.some Jvm.ClassFile.FieldType.boolean), 0, 0) 0 ps = true := ⟨[1013, 7116, 7115], by decide +kernel⟩
theorem ck_174 : zCok zTabs zCl zNm zKm false (decide (zy_174.name = "<init>")) zy_174.cls prog_14_method_6_code cd_174 := zCok_of pp_174 (by decide +kernel)
theorem wk_174 : Jvm.Cond.code zy_174 prog_14_method_6_code 2 (Option.some Jvm.ClassFile.FieldType.boolean) ∈ lw_tbl := zTabs_in tables_1_7 (List.mem_of_getElem? (i := 7) rfl) _ (List.mem_of_getElem? (i := 99) rfl)
theorem mk_174 : ∃ ps, zmok1 (zy_174, prog_14_method_6_code, 1) (cd_174, 2, (Option.some Jvm.ClassFile.FieldType.boolean), 0, 0) 1 ps = true := ⟨[1013, 7099, 7097, 7098], by decide +kernel⟩
theorem ck_175 : zCok zTabs zCl zNm zKm false (decide (zy_175.name = "<init>")) zy_175.cls prog_14_method_7_code cd_175 := zCok_of pp_175 (by decide +kernel)
theorem wk_175 : Jvm.Cond.code zy_175 prog_14_method_7_code 2 (Option.some Jvm.ClassFile.FieldType.boolean) ∈ lw_tbl := zTabs_in tables_1_7 (List.mem_of_getElem? (i := 7) rfl) _ (List.mem_of_getElem? (i := 151) rfl)
theorem mk_175 : ∃ ps, zmok1 (zy_175, prog_14_method_7_code, 1) (cd_175, 2, (Option.some Jvm.ClassFile.FieldType.boolean), 0, 0) 1 ps = true := ⟨[1013, 7151, 7150, 35], by decide +kernel⟩
theorem ck_176 : zCok zTabs zCl zNm zKm false (decide (zy_176.name = "<init>")) zy_176.cls prog_14_method_8_code cd_176 := zCok_of pp_176 (by decide +kernel)
theorem wk_176 : Jvm.Cond.code zy_176 prog_14_method_8_code 2 (Option.some Jvm.ClassFile.FieldType.boolean) ∈ lw_tbl := zTabs_in tables_1_7 (List.mem_of_getElem? (i := 7) rfl) _ (List.mem_of_getElem? (i := 136) rfl)
theorem mk_176 : ∃ ps, zmok1 (zy_176, prog_14_method_8_code, 1) (cd_176, 2, (Option.some Jvm.ClassFile.FieldType.boolean), 0, 0) 1 ps = true := ⟨[1013, 7136, 7135, 33], by decide +kernel⟩
theorem ck_177 : zCok zTabs zCl zNm zKm false (decide (zy_177.name = "<init>")) zy_177.cls prog_14_method_9_code cd_177 := zCok_of pp_177 (by decide +kernel)
theorem wk_177 : Jvm.Cond.code zy_177 prog_14_method_9_code 2 (Option.some Jvm.ClassFile.FieldType.boolean) ∈ lw_tbl := zTabs_in tables_1_7 (List.mem_of_getElem? (i := 7) rfl) _ (List.mem_of_getElem? (i := 140) rfl)
theorem mk_177 : ∃ ps, zmok1 (zy_177, prog_14_method_9_code, 1) (cd_177, 2, (Option.some Jvm.ClassFile.FieldType.boolean), 0, 0) 1 ps = true := ⟨[1013, 7140, 7139, 34], by decide +kernel⟩
theorem ck_178 : zCok zTabs zCl zNm zKm false (decide (zy_178.name = "<init>")) zy_178.cls prog_14_method_10_code cd_178 := zCok_of pp_178 (by decide +kernel)
theorem wk_178 : Jvm.Cond.code zy_178 prog_14_method_10_code 2 (Option.some Jvm.ClassFile.FieldType.boolean) ∈ lw_tbl := zTabs_in tables_1_7 (List.mem_of_getElem? (i := 7) rfl) _ (List.mem_of_getElem? (i := 159) rfl)
theorem mk_178 : ∃ ps, zmok1 (zy_178, prog_14_method_10_code, 1) (cd_178, 2, (Option.some Jvm.ClassFile.FieldType.boolean), 0, 0) 1 ps = true := ⟨[1013, 7159, 7158, 36], by decide +kernel⟩
theorem ck_179 : zCok zTabs zCl zNm zKm false (decide (zy_179.name = "<init>")) zy_179.cls prog_14_method_11_code cd_179 := zCok_of pp_179 (by decide +kernel)
theorem wk_179 : Jvm.Cond.code zy_179 prog_14_method_11_code 2 (Option.some Jvm.ClassFile.FieldType.int) ∈ lw_tbl := zTabs_in tables_1_7 (List.mem_of_getElem? (i := 7) rfl) _ (List.mem_of_getElem? (i := 107) rfl)
theorem mk_179 : ∃ ps, zmok1 (zy_179, prog_14_method_11_code, 1) (cd_179, 2, (Option.some Jvm.ClassFile.FieldType.int), 0, 0) 1 ps = true := ⟨[1013, 7107, 7105, 7106], by decide +kernel⟩
theorem ck_180 : zCok zTabs zCl zNm zKm false (decide (zy_180.name = "<init>")) zy_180.cls prog_14_method_12_code cd_180 := zCok_of pp_180 (by decide +kernel)
theorem wk_180 : Jvm.Cond.code zy_180 prog_14_method_12_code 4 (Option.some Jvm.ClassFile.FieldType.int) ∈ lw_tbl := zTabs_in tables_1_7 (List.mem_of_getElem? (i := 7) rfl) _ (List.mem_of_getElem? (i := 113) rfl)
theorem mk_180 : ∃ ps, zmok1 (zy_180, prog_14_method_12_code, 2) (cd_180, 4, (Option.some Jvm.ClassFile.FieldType.int), 0, 0) 1 ps = true := ⟨[1013, 7113, 7111, 7112], by decide +kernel⟩
theorem ck_181 : zCok zTabs zCl zNm zKm false (decide (zy_181.name = "<init>")) zy_181.cls prog_14_method_13_code cd_181 := zCok_of pp_181 (by decide +kernel)
theorem wk_181 : Jvm.Cond.code zy_181 prog_14_method_13_code 5 (Option.some Jvm.ClassFile.FieldType.int) ∈ lw_tbl := zTabs_in tables_1_7 (List.mem_of_getElem? (i := 7) rfl) _ (List.mem_of_getElem? (i := 122) rfl)
theorem mk_181 : ∃ ps, zmok1 (zy_181, prog_14_method_13_code, 4) (cd_181, 5, (Option.some Jvm.ClassFile.FieldType.int), 0, 0) 1 ps = true := ⟨[1013, 7122, 7120, 7121], by decide +kernel⟩
theorem ck_182 : zCok zTabs zCl zNm zKm false (decide (zy_182.name = "<init>")) zy_182.cls prog_14_method_14_code cd_182 := zCok_of pp_182 (by decide +kernel)
theorem wk_182 : Jvm.Cond.code zy_182 prog_14_method_14_code 5 (Option.some Jvm.ClassFile.FieldType.int) ∈ lw_tbl := zTabs_in tables_1_7 (List.mem_of_getElem? (i := 7) rfl) _ (List.mem_of_getElem? (i := 127) rfl)
theorem mk_182 : ∃ ps, zmok1 (zy_182, prog_14_method_14_code, 4) (cd_182, 5, (Option.some Jvm.ClassFile.FieldType.int), 0, 0) 1 ps = true := ⟨[1013, 7127, 7125, 7126], by decide +kernel⟩
theorem ck_183 : zCok zTabs zCl zNm zKm false (decide (zy_183.name = "<init>")) zy_183.cls prog_14_method_15_code cd_183 := zCok_of pp_183 (by decide +kernel)
theorem wk_183 : Jvm.Cond.code zy_183 prog_14_method_15_code 4 (Option.some Jvm.ClassFile.FieldType.boolean) ∈ lw_tbl := zTabs_in tables_1_7 (List.mem_of_getElem? (i := 7) rfl) _ (List.mem_of_getElem? (i := 132) rfl)
theorem mk_183 : ∃ ps, zmok1 (zy_183, prog_14_method_15_code, 3) (cd_183, 4, (Option.some Jvm.ClassFile.FieldType.boolean), 0, 0) 1 ps = true := ⟨[1013, 7132, 7130, 7131], by decide +kernel⟩
theorem ck_184 : zCok zTabs zCl zNm zKm false (decide (zy_184.name = "<init>")) zy_184.cls prog_14_method_16_code cd_184 := zCok_of pp_184 (by decide +kernel)
theorem wk_184 : Jvm.Cond.code zy_184 prog_14_method_16_code 4 (Option.some Jvm.ClassFile.FieldType.int) ∈ lw_tbl := zTabs_in tables_1_7 (List.mem_of_getElem? (i := 7) rfl) _ (List.mem_of_getElem? (i := 147) rfl)
theorem mk_184 : ∃ ps, zmok1 (zy_184, prog_14_method_16_code, 3) (cd_184, 4, (Option.some Jvm.ClassFile.FieldType.int), 0, 0) 1 ps = true := ⟨[1013, 7147, 7145, 7146], by decide +kernel⟩
theorem ck_185 : zCok zTabs zCl zNm zKm false (decide (zy_185.name = "<init>")) zy_185.cls prog_14_method_17_code cd_185 := zCok_of pp_185 (by decide +kernel)
theorem wk_185 : Jvm.Cond.code zy_185 prog_14_method_17_code 4 (Option.some Jvm.ClassFile.FieldType.boolean) ∈ lw_tbl := zTabs_in tables_1_7 (List.mem_of_getElem? (i := 7) rfl) _ (List.mem_of_getElem? (i := 155) rfl)
theorem mk_185 : ∃ ps, zmok1 (zy_185, prog_14_method_17_code, 3) (cd_185, 4, (Option.some Jvm.ClassFile.FieldType.boolean), 0, 0) 1 ps = true := ⟨[1013, 7155, 7153, 7154], by decide +kernel⟩
theorem ck_186 : zCok zTabs zCl zNm zKm false (decide (zy_186.name = "<init>")) zy_186.cls prog_14_method_18_code cd_186 := zCok_of pp_186 (by decide +kernel)
theorem wk_186 : Jvm.Cond.code zy_186 prog_14_method_18_code 6 (Option.some Jvm.ClassFile.FieldType.int) ∈ lw_tbl := zTabs_in tables_1_7 (List.mem_of_getElem? (i := 7) rfl) _ (List.mem_of_getElem? (i := 167) rfl)
theorem mk_186 : ∃ ps, zmok1 (zy_186, prog_14_method_18_code, 3) (cd_186, 6, (Option.some Jvm.ClassFile.FieldType.int), 0, 0) 1 ps = true := ⟨[1013, 7167, 7166, 37], by decide +kernel⟩
theorem ck_187 : zCok zTabs zCl zNm zKm false (decide (zy_187.name = "<init>")) zy_187.cls prog_14_method_19_code cd_187 := zCok_of pp_187 (by decide +kernel)
theorem wk_187 : Jvm.Cond.code zy_187 prog_14_method_19_code 4 (Option.some Jvm.ClassFile.FieldType.int) ∈ lw_tbl := zTabs_in tables_1_7 (List.mem_of_getElem? (i := 7) rfl) _ (List.mem_of_getElem? (i := 163) rfl)
theorem mk_187 : ∃ ps, zmok1 (zy_187, prog_14_method_19_code, 3) (cd_187, 4, (Option.some Jvm.ClassFile.FieldType.int), 0, 0) 1 ps = true := ⟨[1013, 7163, 7161, 7162], by decide +kernel⟩
theorem ck_188 : zCok zTabs zCl zNm zKm false (decide (zy_188.name = "<init>")) zy_188.cls prog_14_method_20_code cd_188 := zCok_of pp_188 (by decide +kernel)
theorem wk_188 : Jvm.Cond.code zy_188 prog_14_method_20_code 5 (Option.some Jvm.ClassFile.FieldType.int) ∈ lw_tbl := zTabs_in tables_1_7 (List.mem_of_getElem? (i := 7) rfl) _ (List.mem_of_getElem? (i := 179) rfl)
theorem mk_188 : ∃ ps, zmok1 (zy_188, prog_14_method_20_code, 2) (cd_188, 5, (Option.some Jvm.ClassFile.FieldType.int), 0, 0) 1 ps = true := ⟨[1013, 7179, 7178, 39], by decide +kernel⟩
theorem ck_189 : zCok zTabs zCl zNm zKm false (decide (zy_189.name = "<init>")) zy_189.cls prog_14_method_21_code cd_189 := zCok_of pp_189 (by decide +kernel)
theorem wk_189 : Jvm.Cond.code zy_189 prog_14_method_21_code 5 (Option.some Jvm.ClassFile.FieldType.int) ∈ lw_tbl := zTabs_in tables_1_7 (List.mem_of_getElem? (i := 7) rfl) _ (List.mem_of_getElem? (i := 175) rfl)
theorem mk_189 : ∃ ps, zmok1 (zy_189, prog_14_method_21_code, 2) (cd_189, 5, (Option.some Jvm.ClassFile.FieldType.int), 0, 0) 1 ps = true := ⟨[1013, 7175, 7174, 38], by decide +kernel⟩
theorem ck_190 : zCok zTabs zCl zNm zKm false (decide (zy_190.name = "<init>")) zy_190.cls prog_14_method_22_code cd_190 := zCok_of pp_190 (by decide +kernel)
theorem wk_190 : Jvm.Cond.code zy_190 prog_14_method_22_code 3 (Option.some Jvm.ClassFile.FieldType.int) ∈ lw_tbl := zTabs_in tables_1_7 (List.mem_of_getElem? (i := 7) rfl) _ (List.mem_of_getElem? (i := 188) rfl)
theorem mk_190 : ∃ ps, zmok1 (zy_190, prog_14_method_22_code, 2) (cd_190, 3, (Option.some Jvm.ClassFile.FieldType.int), 0, 0) 1 ps = true := ⟨[1013, 7188, 7187, 40], by decide +kernel⟩
theorem ck_191 : zCok zTabs zCl zNm zKm false (decide (zy_191.name = "<init>")) zy_191.cls prog_14_method_23_code cd_191 := zCok_of pp_191 (by decide +kernel)
theorem wk_191 : Jvm.Cond.code zy_191 prog_14_method_23_code 7 (Option.some Jvm.ClassFile.FieldType.boolean) ∈ lw_tbl := zTabs_in tables_1_7 (List.mem_of_getElem? (i := 7) rfl) _ (List.mem_of_getElem? (i := 200) rfl)
theorem mk_191 : ∃ ps, zmok1 (zy_191, prog_14_method_23_code, 4) (cd_191, 7, (Option.some Jvm.ClassFile.FieldType.boolean), 0, 0) 1 ps = true := ⟨[1013, 7200, 7199, 42], by decide +kernel⟩
theorem ck_192 : zCok zTabs zCl zNm zKm false (decide (zy_192.name = "<init>")) zy_192.cls prog_14_method_24_code cd_192 := zCok_of pp_192 (by decide +kernel)
theorem wk_192 : Jvm.Cond.code zy_192 prog_14_method_24_code 3 (Option.some Jvm.ClassFile.FieldType.int) ∈ lw_tbl := zTabs_in tables_1_7 (List.mem_of_getElem? (i := 7) rfl) _ (List.mem_of_getElem? (i := 171) rfl)
theorem mk_192 : ∃ ps, zmok1 (zy_192, prog_14_method_24_code, 2) (cd_192, 3, (Option.some Jvm.ClassFile.FieldType.int), 0, 0) 1 ps = true := ⟨[1013, 7171, 7169, 7170], by decide +kernel⟩
theorem ck_193 : zCok zTabs zCl zNm zKm false (decide (zy_193.name = "<init>")) zy_193.cls prog_14_method_25_code cd_193 := zCok_of pp_193 (by decide +kernel)
theorem wk_193 : Jvm.Cond.code zy_193 prog_14_method_25_code 3 (Option.some Jvm.ClassFile.FieldType.int) ∈ lw_tbl := zTabs_in tables_1_7 (List.mem_of_getElem? (i := 7) rfl) _ (List.mem_of_getElem? (i := 183) rfl)
theorem mk_193 : ∃ ps, zmok1 (zy_193, prog_14_method_25_code, 2) (cd_193, 3, (Option.some Jvm.ClassFile.FieldType.int), 0, 0) 1 ps = true := ⟨[1013, 7183, 7181, 7182], by decide +kernel⟩
theorem ck_194 : zCok zTabs zCl zNm zKm false (decide (zy_194.name = "<init>")) zy_194.cls prog_14_method_26_code cd_194 := zCok_of pp_194 (by decide +kernel)
theorem wk_194 : Jvm.Cond.code zy_194 prog_14_method_26_code 6 (Option.some Jvm.ClassFile.FieldType.boolean) ∈ lw_tbl := zTabs_in tables_1_7 (List.mem_of_getElem? (i := 7) rfl) _ (List.mem_of_getElem? (i := 196) rfl)
theorem mk_194 : ∃ ps, zmok1 (zy_194, prog_14_method_26_code, 5) (cd_194, 6, (Option.some Jvm.ClassFile.FieldType.boolean), 0, 0) 1 ps = true := ⟨[1013, 7196, 7195, 41], by decide +kernel⟩
theorem ck_195 : zCok zTabs zCl zNm zKm false (decide (zy_195.name = "<init>")) zy_195.cls prog_14_method_27_code cd_195 := zCok_of pp_195 (by decide +kernel)
theorem wk_195 : Jvm.Cond.code zy_195 prog_14_method_27_code 6 (Option.some Jvm.ClassFile.FieldType.int) ∈ lw_tbl := zTabs_in tables_1_7 (List.mem_of_getElem? (i := 7) rfl) _ (List.mem_of_getElem? (i := 192) rfl)
theorem mk_195 : ∃ ps, zmok1 (zy_195, prog_14_method_27_code, 5) (cd_195, 6, (Option.some Jvm.ClassFile.FieldType.int), 0, 0) 1 ps = true := ⟨[1013, 7192, 7190, 7191], by decide +kernel⟩
theorem ck_196 : zCok zTabs zCl zNm zKm false (decide (zy_196.name = "<init>")) zy_196.cls prog_14_method_28_code cd_196 := zCok_of pp_196 (by decide +kernel)
theorem wk_196 : Jvm.Cond.code zy_196 prog_14_method_28_code 6 (Option.some Jvm.ClassFile.FieldType.int) ∈ lw_tbl := zTabs_in tables_1_7 (List.mem_of_getElem? (i := 7) rfl) _ (List.mem_of_getElem? (i := 204) rfl)
theorem mk_196 : ∃ ps, zmok1 (zy_196, prog_14_method_28_code, 5) (cd_196, 6, (Option.some Jvm.ClassFile.FieldType.int), 0, 0) 1 ps = true := ⟨[1013, 7204, 7202, 7203], by decide +kernel⟩
theorem ck_197 : zCok zTabs zCl zNm zKm false (decide (zy_197.name = "<init>")) zy_197.cls prog_14_method_29_code cd_197 := zCok_of pp_197 (by decide +kernel)
theorem wk_197 : Jvm.Cond.code zy_197 prog_14_method_29_code 3 (Option.none : Option Jvm.ClassFile.FieldType) ∈ lw_tbl := zTabs_in tables_1_7 (List.mem_of_getElem? (i := 7) rfl) _ (List.mem_of_getElem? (i := 208) rfl)
theorem mk_197 : ∃ ps, zmok1 (zy_197, prog_14_method_29_code, 1) (cd_197, 3, (Option.none : Option Jvm.ClassFile.FieldType), 0, 0) 1 ps = true := ⟨[1013, 7208, 7207, 43], by decide +kernel⟩
theorem ck_198 : zCok zTabs zCl zNm zKm false (decide (zy_198.name = "<init>")) zy_198.cls prog_14_method_30_code cd_198 := zCok_of pp_198 (by decide +kernel)
theorem wk_198 : Jvm.Cond.code zy_198 prog_14_method_30_code 2 (Option.some Jvm.ClassFile.FieldType.int) ∈ lw_tbl := zTabs_in tables_1_7 (List.mem_of_getElem? (i := 7) rfl) _ (List.mem_of_getElem? (i := 212) rfl)
theorem mk_198 : ∃ ps, zmok1 (zy_198, prog_14_method_30_code, 1) (cd_198, 2, (Option.some Jvm.ClassFile.FieldType.int), 0, 0) 1 ps = true := ⟨[1013, 7212, 7210, 7211], by decide +kernel⟩
theorem ck_199 : zCok zTabs zCl zNm zKm false (decide (zy_199.name = "<init>")) zy_199.cls prog_14_method_31_code cd_199 := zCok_of pp_199 (by decide +kernel)
theorem wk_199 : Jvm.Cond.code zy_199 prog_14_method_31_code 1 (Option.some (Jvm.ClassFile.FieldType.object "java/lang/String")) ∈ lw_tbl := zTabs_in tables_1_8 (List.mem_of_getElem? (i := 8) rfl) _ (List.mem_of_getElem? (i := 45) rfl)
theorem mk_199 : ∃ ps, zmok1 (zy_199, prog_14_method_31_code, 1) (cd_199, 1, (Option.some (Jvm.ClassFile.FieldType.object "java/lang/String")), 0, 0) 0 ps = true := ⟨[1013, 8045, 8044], by decide +kernel⟩
theorem ck_200 : zCok zTabs zCl zNm zKm false (decide (zy_200.name = "<init>")) zy_200.cls prog_14_method_32_code cd_200 := zCok_of pp_200 (by decide +kernel)
theorem wk_200 : Jvm.Cond.code zy_200 prog_14_method_32_code 1 (Option.some (Jvm.ClassFile.FieldType.object "java/lang/String")) ∈ lw_tbl := zTabs_in tables_1_7 (List.mem_of_getElem? (i := 7) rfl) _ (List.mem_of_getElem? (i := 231) rfl)
theorem mk_200 : ∃ ps, zmok1 (zy_200, prog_14_method_32_code, 1) (cd_200, 1, (Option.some (Jvm.ClassFile.FieldType.object "java/lang/String")), 0, 0) 0 ps = true := ⟨[1013, 7231, 7230], by decide +kernel⟩
theorem ck_201 : zCok zTabs zCl zNm zKm false (decide (zy_201.name = "<init>")) zy_201.cls prog_14_method_33_code cd_201 := zCok_of pp_201 (by decide +kernel)
theorem wk_201 : Jvm.Cond.code zy_201 prog_14_method_33_code 3 (Option.none : Option Jvm.ClassFile.FieldType) ∈ lw_tbl := zTabs_in tables_1_8 (List.mem_of_getElem? (i := 8) rfl) _ (List.mem_of_getElem? (i := 5) rfl)
theorem mk_201 : ∃ ps, zmok1 (zy_201, prog_14_method_33_code, 2) (cd_201, 3, (Option.none : Option Jvm.ClassFile.FieldType), 0, 0) 1 ps = true := ⟨[1013, 8005, 8004, 48], by decide +kernel⟩
theorem ck_202 : zCok zTabs zCl zNm zKm false (decide (zy_202.name = "<init>")) zy_202.cls prog_14_method_34_code cd_202 := zCok_of pp_202 (by decide +kernel)
theorem wk_202 : Jvm.Cond.code zy_202 prog_14_method_34_code 1 (Option.some Jvm.ClassFile.FieldType.int) ∈ lw_tbl := zTabs_in tables_1_7 (List.mem_of_getElem? (i := 7) rfl) _ (List.mem_of_getElem? (i := 228) rfl)
theorem mk_202 : ∃ ps, zmok1 (zy_202, prog_14_method_34_code, 0) (cd_202, 1, (Option.some Jvm.ClassFile.FieldType.int), 0, 0) 1 ps = true := ⟨[1013, 7228, 7227, 46], by decide +kernel⟩
theorem ck_203 : zCok zTabs zCl zNm zKm false (decide (zy_203.name = "<init>")) zy_203.cls prog_14_method_35_code cd_203 := zCok_of pp_203 (by decide +kernel)
theorem wk_203 : Jvm.Cond.code zy_203 prog_14_method_35_code 1 (Option.none : Option Jvm.ClassFile.FieldType) ∈ lw_tbl := zTabs_in tables_1_7 (List.mem_of_getElem? (i := 7) rfl) _ (List.mem_of_getElem? (i := 224) rfl)
theorem mk_203 : ∃ ps, zmok1 (zy_203, prog_14_method_35_code, 0) (cd_203, 1, (Option.none : Option Jvm.ClassFile.FieldType), 0, 0) 1 ps = true := ⟨[1013, 7224, 7223, 45], by decide +kernel⟩
theorem ck_204 : zCok zTabs zCl zNm zKm false (decide (zy_204.name = "<init>")) zy_204.cls prog_14_method_36_code cd_204 := zCok_of pp_204 (by decide +kernel)
theorem wk_204 : Jvm.Cond.code zy_204 prog_14_method_36_code 1 (Option.some Jvm.ClassFile.FieldType.boolean) ∈ lw_tbl := zTabs_in tables_1_8 (List.mem_of_getElem? (i := 8) rfl) _ (List.mem_of_getElem? (i := 12) rfl)
theorem mk_204 : ∃ ps, zmok1 (zy_204, prog_14_method_36_code, 1) (cd_204, 1, (Option.some Jvm.ClassFile.FieldType.boolean), 0, 0) 0 ps = true := ⟨[1013, 8012, 8011], by decide +kernel⟩
theorem ck_205 : zCok zTabs zCl zNm zKm false (decide (zy_205.name = "<init>")) zy_205.cls prog_14_method_37_code cd_205 := zCok_of pp_205 (by decide +kernel)
theorem wk_205 : Jvm.Cond.code zy_205 prog_14_method_37_code 5 (Option.some Jvm.ClassFile.FieldType.boolean) ∈ lw_tbl := zTabs_in tables_1_7 (List.mem_of_getElem? (i := 7) rfl) _ (List.mem_of_getElem? (i := 239) rfl)
theorem mk_205 : ∃ ps, zmok1 (zy_205, prog_14_method_37_code, 1) (cd_205, 5, (Option.some Jvm.ClassFile.FieldType.boolean), 0, 0) 1 ps = true := ⟨[1013, 7239, 7238, 47], by decide +kernel⟩
theorem ck_206 : zCok zTabs zCl zNm zKm false (decide (zy_206.name = "<init>")) zy_206.cls prog_14_method_38_code cd_206 := zCok_of pp_206 (by decide +kernel)
theorem wk_206 : Jvm.Cond.code zy_206 prog_14_method_38_code 3 (Option.none : Option Jvm.ClassFile.FieldType) ∈ lw_tbl := zTabs_in tables_1_8 (List.mem_of_getElem? (i := 8) rfl) _ (List.mem_of_getElem? (i := 42) rfl)
theorem mk_206 : ∃ ps, zmok1 (zy_206, prog_14_method_38_code, 2) (cd_206, 3, (Option.none : Option Jvm.ClassFile.FieldType), 0, 0) 1 ps = true := ⟨[1013, 8042, 8041, 56], by decide +kernel⟩
theorem ck_207 : zCok zTabs zCl zNm zKm false (decide (zy_207.name = "<init>")) zy_207.cls prog_14_method_39_code cd_207 := zCok_of pp_207 (by decide +kernel)
theorem wk_207 : Jvm.Cond.code zy_207 prog_14_method_39_code 2 (Option.none : Option Jvm.ClassFile.FieldType) ∈ lw_tbl := zTabs_in tables_1_8 (List.mem_of_getElem? (i := 8) rfl) _ (List.mem_of_getElem? (i := 37) rfl)
theorem mk_207 : ∃ ps, zmok1 (zy_207, prog_14_method_39_code, 1) (cd_207, 2, (Option.none : Option Jvm.ClassFile.FieldType), 0, 0) 1 ps = true := ⟨[1013, 8037, 8036, 55], by decide +kernel⟩
theorem ck_208 : zCok zTabs zCl zNm zKm false (decide (zy_208.name = "<init>")) zy_208.cls prog_14_method_40_code cd_208 := zCok_of pp_208 (by decide +kernel)
theorem wk_208 : Jvm.Cond.code zy_208 prog_14_method_40_code 2 (Option.none : Option Jvm.ClassFile.FieldType) ∈ lw_tbl := zTabs_in tables_1_8 (List.mem_of_getElem? (i := 8) rfl) _ (List.mem_of_getElem? (i := 29) rfl)
theorem mk_208 : ∃ ps, zmok1 (zy_208, prog_14_method_40_code, 1) (cd_208, 2, (Option.none : Option Jvm.ClassFile.FieldType), 0, 0) 1 ps = true := ⟨[1013, 8029, 8028, 53], by decide +kernel⟩
theorem ck_209 : zCok zTabs zCl zNm zKm false (decide (zy_209.name = "<init>")) zy_209.cls prog_14_method_41_code cd_209 := zCok_of pp_209 (by decide +kernel)
theorem wk_209 : Jvm.Cond.code zy_209 prog_14_method_41_code 3 (Option.none : Option Jvm.ClassFile.FieldType) ∈ lw_tbl := zTabs_in tables_1_8 (List.mem_of_getElem? (i := 8) rfl) _ (List.mem_of_getElem? (i := 25) rfl)
theorem mk_209 : ∃ ps, zmok1 (zy_209, prog_14_method_41_code, 2) (cd_209, 3, (Option.none : Option Jvm.ClassFile.FieldType), 0, 0) 1 ps = true := ⟨[1013, 8025, 8024, 52], by decide +kernel⟩
theorem ck_210 : zCok zTabs zCl zNm zKm false (decide (zy_210.name = "<init>")) zy_210.cls prog_14_method_42_code cd_210 := zCok_of pp_210 (by decide +kernel)
theorem wk_210 : Jvm.Cond.code zy_210 prog_14_method_42_code 1 (Option.some Jvm.ClassFile.FieldType.int) ∈ lw_tbl := zTabs_in tables_1_8 (List.mem_of_getElem? (i := 8) rfl) _ (List.mem_of_getElem? (i := 69) rfl)
theorem mk_210 : ∃ ps, zmok1 (zy_210, prog_14_method_42_code, 0) (cd_210, 1, (Option.some Jvm.ClassFile.FieldType.int), 0, 0) 1 ps = true := ⟨[1013, 8069, 8068, 59], by decide +kernel⟩
theorem ck_211 : zCok zTabs zCl zNm zKm false (decide (zy_211.name = "<init>")) zy_211.cls prog_14_method_43_code cd_211 := zCok_of pp_211 (by decide +kernel)
theorem wk_211 : Jvm.Cond.code zy_211 prog_14_method_43_code 5 (Option.some Jvm.ClassFile.FieldType.int) ∈ lw_tbl := zTabs_in tables_1_8 (List.mem_of_getElem? (i := 8) rfl) _ (List.mem_of_getElem? (i := 9) rfl)
theorem mk_211 : ∃ ps, zmok1 (zy_211, prog_14_method_43_code, 1) (cd_211, 5, (Option.some Jvm.ClassFile.FieldType.int), 0, 0) 1 ps = true := ⟨[1013, 8009, 8008, 49], by decide +kernel⟩
theorem ck_212 : zCok zTabs zCl zNm zKm false (decide (zy_212.name = "<init>")) zy_212.cls prog_14_method_44_code cd_212 := zCok_of pp_212 (by decide +kernel)
theorem wk_212 : Jvm.Cond.code zy_212 prog_14_method_44_code 3 (Option.some Jvm.ClassFile.FieldType.int) ∈ lw_tbl := zTabs_in tables_1_8 (List.mem_of_getElem? (i := 8) rfl) _ (List.mem_of_getElem? (i := 81) rfl)
theorem mk_212 : ∃ ps, zmok1 (zy_212, prog_14_method_44_code, 0) (cd_212, 3, (Option.some Jvm.ClassFile.FieldType.int), 0, 0) 1 ps = true := ⟨[1013, 8081, 8080, 62], by decide +kernel⟩
