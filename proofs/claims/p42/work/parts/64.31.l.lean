section
theorem zapp_hi {a b : zK} (n : Nat) {k : Nat} (h : a.length = n) : (a ++ b)[n + k]? = b[k]? := by
  subst h
  rw [List.getElem?_append_right (Nat.le_add_right _ _), Nat.add_sub_cancel_left]
theorem zlch {m : zK} {a b : zK} {n k : Nat} {e : Option zE} (h0 : m[n]? = (a ++ b)[k]?) (h : a[k]? = some e) : m[n]? = some e := by
  rw [h0]
  have hl : k < a.length := by
    rcases Nat.lt_or_ge k a.length with q | q
    · exact q
    · rw [List.getElem?_eq_none q] at h; cases h
  rw [List.getElem?_append_left hl]
  exact h
theorem lkT_0 (k : Nat) : cd_L[0 + k]? = cdT_0[k]? := by rw [Nat.zero_add]; rfl
theorem lkT_1 (k : Nat) : cd_L[100 + k]? = cdT_1[k]? := by
  rw [show 100 + k = 0 + (100 + k) by omega, lkT_0]
  exact zapp_hi 100 rfl
theorem lkT_2 (k : Nat) : cd_L[200 + k]? = cdT_2[k]? := by
  rw [show 200 + k = 100 + (100 + k) by omega, lkT_1]
  exact zapp_hi 100 rfl
theorem lkT_3 (k : Nat) : cd_L[300 + k]? = cdT_3[k]? := by
  rw [show 300 + k = 200 + (100 + k) by omega, lkT_2]
  exact zapp_hi 100 rfl
theorem lkT_4 (k : Nat) : cd_L[400 + k]? = cdT_4[k]? := by
  rw [show 400 + k = 300 + (100 + k) by omega, lkT_3]
  exact zapp_hi 100 rfl
theorem lkT_5 (k : Nat) : cd_L[500 + k]? = cdT_5[k]? := by
  rw [show 500 + k = 400 + (100 + k) by omega, lkT_4]
  exact zapp_hi 100 rfl
theorem lkT_6 (k : Nat) : cd_L[600 + k]? = cdT_6[k]? := by
  rw [show 600 + k = 500 + (100 + k) by omega, lkT_5]
  exact zapp_hi 100 rfl
theorem lkT_7 (k : Nat) : cd_L[700 + k]? = cdT_7[k]? := by
  rw [show 700 + k = 600 + (100 + k) by omega, lkT_6]
  exact zapp_hi 100 rfl
theorem lkT_8 (k : Nat) : cd_L[800 + k]? = cdT_8[k]? := by
  rw [show 800 + k = 700 + (100 + k) by omega, lkT_7]
  exact zapp_hi 100 rfl
theorem lkT_9 (k : Nat) : cd_L[900 + k]? = cdT_9[k]? := by
  rw [show 900 + k = 800 + (100 + k) by omega, lkT_8]
  exact zapp_hi 100 rfl
theorem lkT_10 (k : Nat) : cd_L[1000 + k]? = cdT_10[k]? := by
  rw [show 1000 + k = 900 + (100 + k) by omega, lkT_9]
  exact zapp_hi 100 rfl
theorem lkT_11 (k : Nat) : cd_L[1100 + k]? = cdT_11[k]? := by
  rw [show 1100 + k = 1000 + (100 + k) by omega, lkT_10]
  exact zapp_hi 100 rfl
theorem lkT_12 (k : Nat) : cd_L[1200 + k]? = cdT_12[k]? := by
  rw [show 1200 + k = 1100 + (100 + k) by omega, lkT_11]
  exact zapp_hi 100 rfl
theorem lkT_13 (k : Nat) : cd_L[1300 + k]? = cdT_13[k]? := by
  rw [show 1300 + k = 1200 + (100 + k) by omega, lkT_12]
  exact zapp_hi 100 rfl
theorem lkT_14 (k : Nat) : cd_L[1400 + k]? = cdT_14[k]? := by
  rw [show 1400 + k = 1300 + (100 + k) by omega, lkT_13]
  exact zapp_hi 100 rfl
theorem lkT_15 (k : Nat) : cd_L[1500 + k]? = cdT_15[k]? := by
  rw [show 1500 + k = 1400 + (100 + k) by omega, lkT_14]
  exact zapp_hi 100 rfl
theorem lkT_16 (k : Nat) : cd_L[1600 + k]? = cdT_16[k]? := by
  rw [show 1600 + k = 1500 + (100 + k) by omega, lkT_15]
  exact zapp_hi 100 rfl
theorem lkT_17 (k : Nat) : cd_L[1700 + k]? = cdT_17[k]? := by
  rw [show 1700 + k = 1600 + (100 + k) by omega, lkT_16]
  exact zapp_hi 100 rfl
theorem lkT_18 (k : Nat) : cd_L[1800 + k]? = cdT_18[k]? := by
  rw [show 1800 + k = 1700 + (100 + k) by omega, lkT_17]
  exact zapp_hi 100 rfl
theorem lkT_19 (k : Nat) : cd_L[1900 + k]? = cdT_19[k]? := by
  rw [show 1900 + k = 1800 + (100 + k) by omega, lkT_18]
  exact zapp_hi 100 rfl
theorem lkT_20 (k : Nat) : cd_L[2000 + k]? = cdT_20[k]? := by
  rw [show 2000 + k = 1900 + (100 + k) by omega, lkT_19]
  exact zapp_hi 100 rfl
theorem lkT_21 (k : Nat) : cd_L[2100 + k]? = cdT_21[k]? := by
  rw [show 2100 + k = 2000 + (100 + k) by omega, lkT_20]
  exact zapp_hi 100 rfl
noncomputable def cdU_0_10 : zK := cdT_1
noncomputable def cdS_0_9 : zK := [none, none, none, none, none, none, none, none, none, none]
noncomputable def cdU_0_9 : zK := cdS_0_9 ++ cdU_0_10
noncomputable def cdS_0_8 : zK := [none, none, none, none, none, none, none, none, none, none]
noncomputable def cdU_0_8 : zK := cdS_0_8 ++ cdU_0_9
noncomputable def cdS_0_7 : zK := [none, none, none, none, none, none, none, none, none, none]
noncomputable def cdU_0_7 : zK := cdS_0_7 ++ cdU_0_8
noncomputable def cdS_0_6 : zK := [none, none, none, none, none, none, none, none, none, none]
noncomputable def cdU_0_6 : zK := cdS_0_6 ++ cdU_0_7
noncomputable def cdS_0_5 : zK := [none, none, none, none, none, none, none, none, none, none]
noncomputable def cdU_0_5 : zK := cdS_0_5 ++ cdU_0_6
noncomputable def cdS_0_4 : zK := [none, none, none, none, none, none, none, none, none, none]
noncomputable def cdU_0_4 : zK := cdS_0_4 ++ cdU_0_5
noncomputable def cdS_0_3 : zK := [zi (.aconst_null) 32 0 0 0 (.int 63), none, zj (.iand) 33 0 0 0, zj (.tableswitch 2138 0 47 #[240, 263, 286, 319, 372, 425, 468, 511, 554, 597, 630, 663, 726, 789, 812, 835, 858, 901, 944, 977, 1046, 1079, 1142, 1185, 1304, 1327, 1370, 1393, 1462, 1485, 1528, 1571, 1624, 1657, 1680, 1713, 1746, 1799, 1822, 1855, 1888, 1921, 1970, 1993, 2026, 2069, 2092, 2115]) 240 0 0 0, none, none, none, none, none, none]
noncomputable def cdU_0_3 : zK := cdS_0_3 ++ cdU_0_4
noncomputable def cdS_0_2 : zK := [zj (.i2s) 21 0 0 0, zi (.aconst_null) 23 0 0 0 (.int 8), none, zj (.isub) 24 0 0 0, zj (.if_icmp .gt 0) 27 2144 0 0, none, none, zj (.aload 0) 28 0 0 0, zj (.iload 3) 29 3 0 0, zj (.saload) 30 0 0 0]
noncomputable def cdU_0_2 : zK := cdS_0_2 ++ cdU_0_3
noncomputable def cdS_0_1 : zK := [none, zj (.dup) 12 0 0 0, zj (.invokespecial 0) 15 170 0 0, none, none, zj (.astore 2) 16 2 0 0, zi (.aconst_null) 17 0 0 0 (.int 0), zj (.istore 3) 18 3 0 0, zj (.iload 3) 19 3 0 0, zj (.aload 0) 20 0 0 0]
noncomputable def cdU_0_1 : zK := cdS_0_1 ++ cdU_0_2
noncomputable def cdS_0_0 : zK := [zj (.new 0) 3 11 0 0, none, none, zj (.dup) 4 0 0 0, zj (.invokespecial 0) 7 109 0 0, none, none, zj (.astore 1) 8 1 0 0, zj (.new 0) 11 12 0 0, none]
noncomputable def cdU_0_0 : zK := cdS_0_0 ++ cdU_0_1
theorem luk_0_0 (k : Nat) : cd_L[0 + k]? = cdU_0_0[k]? := lkT_0 k
theorem luk_0_1 (k : Nat) : cd_L[10 + k]? = cdU_0_1[k]? := by
  rw [show 10 + k = 0 + (10 + k) by omega, luk_0_0]
  exact zapp_hi 10 rfl
theorem luk_0_2 (k : Nat) : cd_L[20 + k]? = cdU_0_2[k]? := by
  rw [show 20 + k = 10 + (10 + k) by omega, luk_0_1]
  exact zapp_hi 10 rfl
theorem luk_0_3 (k : Nat) : cd_L[30 + k]? = cdU_0_3[k]? := by
  rw [show 30 + k = 20 + (10 + k) by omega, luk_0_2]
  exact zapp_hi 10 rfl
theorem luk_0_4 (k : Nat) : cd_L[40 + k]? = cdU_0_4[k]? := by
  rw [show 40 + k = 30 + (10 + k) by omega, luk_0_3]
  exact zapp_hi 10 rfl
theorem luk_0_5 (k : Nat) : cd_L[50 + k]? = cdU_0_5[k]? := by
  rw [show 50 + k = 40 + (10 + k) by omega, luk_0_4]
  exact zapp_hi 10 rfl
theorem luk_0_6 (k : Nat) : cd_L[60 + k]? = cdU_0_6[k]? := by
  rw [show 60 + k = 50 + (10 + k) by omega, luk_0_5]
  exact zapp_hi 10 rfl
theorem luk_0_7 (k : Nat) : cd_L[70 + k]? = cdU_0_7[k]? := by
  rw [show 70 + k = 60 + (10 + k) by omega, luk_0_6]
  exact zapp_hi 10 rfl
theorem luk_0_8 (k : Nat) : cd_L[80 + k]? = cdU_0_8[k]? := by
  rw [show 80 + k = 70 + (10 + k) by omega, luk_0_7]
  exact zapp_hi 10 rfl
theorem luk_0_9 (k : Nat) : cd_L[90 + k]? = cdU_0_9[k]? := by
  rw [show 90 + k = 80 + (10 + k) by omega, luk_0_8]
  exact zapp_hi 10 rfl
noncomputable def cdU_1_10 : zK := cdT_2
noncomputable def cdS_1_9 : zK := [none, none, none, none, none, none, none, none, none, none]
noncomputable def cdU_1_9 : zK := cdS_1_9 ++ cdU_1_10
noncomputable def cdS_1_8 : zK := [none, none, none, none, none, none, none, none, none, none]
noncomputable def cdU_1_8 : zK := cdS_1_8 ++ cdU_1_9
noncomputable def cdS_1_7 : zK := [none, none, none, none, none, none, none, none, none, none]
noncomputable def cdU_1_7 : zK := cdS_1_7 ++ cdU_1_8
noncomputable def cdS_1_6 : zK := [none, none, none, none, none, none, none, none, none, none]
noncomputable def cdU_1_6 : zK := cdS_1_6 ++ cdU_1_7
noncomputable def cdS_1_5 : zK := [none, none, none, none, none, none, none, none, none, none]
noncomputable def cdU_1_5 : zK := cdS_1_5 ++ cdU_1_6
noncomputable def cdS_1_4 : zK := [none, none, none, none, none, none, none, none, none, none]
noncomputable def cdU_1_4 : zK := cdS_1_4 ++ cdU_1_5
noncomputable def cdS_1_3 : zK := [none, none, none, none, none, none, none, none, none, none]
noncomputable def cdU_1_3 : zK := cdS_1_3 ++ cdU_1_4
noncomputable def cdS_1_2 : zK := [none, none, none, none, none, none, none, none, none, none]
noncomputable def cdU_1_2 : zK := cdS_1_2 ++ cdU_1_3
noncomputable def cdS_1_1 : zK := [none, none, none, none, none, none, none, none, none, none]
noncomputable def cdU_1_1 : zK := cdS_1_1 ++ cdU_1_2
noncomputable def cdS_1_0 : zK := [none, none, none, none, none, none, none, none, none, none]
noncomputable def cdU_1_0 : zK := cdS_1_0 ++ cdU_1_1
theorem luk_1_0 (k : Nat) : cd_L[100 + k]? = cdU_1_0[k]? := lkT_1 k
theorem luk_1_1 (k : Nat) : cd_L[110 + k]? = cdU_1_1[k]? := by
  rw [show 110 + k = 100 + (10 + k) by omega, luk_1_0]
  exact zapp_hi 10 rfl
theorem luk_1_2 (k : Nat) : cd_L[120 + k]? = cdU_1_2[k]? := by
  rw [show 120 + k = 110 + (10 + k) by omega, luk_1_1]
  exact zapp_hi 10 rfl
theorem luk_1_3 (k : Nat) : cd_L[130 + k]? = cdU_1_3[k]? := by
  rw [show 130 + k = 120 + (10 + k) by omega, luk_1_2]
  exact zapp_hi 10 rfl
theorem luk_1_4 (k : Nat) : cd_L[140 + k]? = cdU_1_4[k]? := by
  rw [show 140 + k = 130 + (10 + k) by omega, luk_1_3]
  exact zapp_hi 10 rfl
theorem luk_1_5 (k : Nat) : cd_L[150 + k]? = cdU_1_5[k]? := by
  rw [show 150 + k = 140 + (10 + k) by omega, luk_1_4]
  exact zapp_hi 10 rfl
theorem luk_1_6 (k : Nat) : cd_L[160 + k]? = cdU_1_6[k]? := by
  rw [show 160 + k = 150 + (10 + k) by omega, luk_1_5]
  exact zapp_hi 10 rfl
theorem luk_1_7 (k : Nat) : cd_L[170 + k]? = cdU_1_7[k]? := by
  rw [show 170 + k = 160 + (10 + k) by omega, luk_1_6]
  exact zapp_hi 10 rfl
theorem luk_1_8 (k : Nat) : cd_L[180 + k]? = cdU_1_8[k]? := by
  rw [show 180 + k = 170 + (10 + k) by omega, luk_1_7]
  exact zapp_hi 10 rfl
theorem luk_1_9 (k : Nat) : cd_L[190 + k]? = cdU_1_9[k]? := by
  rw [show 190 + k = 180 + (10 + k) by omega, luk_1_8]
  exact zapp_hi 10 rfl
noncomputable def cdU_2_10 : zK := cdT_3
noncomputable def cdS_2_9 : zK := [zj (.iadd) 291 0 0 0, zj (.saload) 292 0 0 0, zj (.aload 0) 293 0 0 0, zj (.iload 3) 294 3 0 0, zi (.aconst_null) 295 0 0 0 (.int 2), zj (.iadd) 296 0 0 0, zj (.saload) 297 0 0 0, zj (.invokevirtual 0) 300 112 2 11, none, none]
noncomputable def cdU_2_9 : zK := cdS_2_9 ++ cdU_2_10
noncomputable def cdS_2_8 : zK := [none, none, zj (.pop) 283 0 0 0, zj (.goto 0) 286 2138 0 0, none, none, zj (.aload 1) 287 1 0 0, zj (.aload 0) 288 0 0 0, zj (.iload 3) 289 3 0 0, zi (.aconst_null) 290 0 0 0 (.int 1)]
noncomputable def cdU_2_8 : zK := cdS_2_8 ++ cdU_2_9
noncomputable def cdS_2_7 : zK := [none, none, zj (.pop) 273 0 0 0, zj (.aload 2) 274 2 0 0, zj (.aload 0) 275 0 0 0, zj (.iload 3) 276 3 0 0, zi (.aconst_null) 277 0 0 0 (.int 1), zj (.iadd) 278 0 0 0, zj (.saload) 279 0 0 0, zj (.invokevirtual 0) 282 179 1 12]
noncomputable def cdU_2_7 : zK := cdS_2_7 ++ cdU_2_8
noncomputable def cdS_2_6 : zK := [zj (.goto 0) 263 2138 0 0, none, none, zj (.aload 1) 264 1 0 0, zj (.aload 0) 265 0 0 0, zj (.iload 3) 266 3 0 0, zi (.aconst_null) 267 0 0 0 (.int 1), zj (.iadd) 268 0 0 0, zj (.saload) 269 0 0 0, zj (.invokevirtual 0) 272 111 1 11]
noncomputable def cdU_2_6 : zK := cdS_2_6 ++ cdU_2_7
noncomputable def cdS_2_5 : zK := [zj (.aload 2) 251 2 0 0, zj (.aload 0) 252 0 0 0, zj (.iload 3) 253 3 0 0, zi (.aconst_null) 254 0 0 0 (.int 1), zj (.iadd) 255 0 0 0, zj (.saload) 256 0 0 0, zj (.invokevirtual 0) 259 174 1 12, none, none, zj (.pop) 260 0 0 0]
noncomputable def cdU_2_5 : zK := cdS_2_5 ++ cdU_2_6
noncomputable def cdS_2_4 : zK := [zj (.aload 1) 241 1 0 0, zj (.aload 0) 242 0 0 0, zj (.iload 3) 243 3 0 0, zi (.aconst_null) 244 0 0 0 (.int 1), zj (.iadd) 245 0 0 0, zj (.saload) 246 0 0 0, zj (.invokevirtual 0) 249 110 1 11, none, none, zj (.pop) 250 0 0 0]
noncomputable def cdU_2_4 : zK := cdS_2_4 ++ cdU_2_5
noncomputable def cdS_2_3 : zK := [none, none, none, none, none, none, none, none, none, none]
noncomputable def cdU_2_3 : zK := cdS_2_3 ++ cdU_2_4
noncomputable def cdS_2_2 : zK := [none, none, none, none, none, none, none, none, none, none]
noncomputable def cdU_2_2 : zK := cdS_2_2 ++ cdU_2_3
noncomputable def cdS_2_1 : zK := [none, none, none, none, none, none, none, none, none, none]
noncomputable def cdU_2_1 : zK := cdS_2_1 ++ cdU_2_2
noncomputable def cdS_2_0 : zK := [none, none, none, none, none, none, none, none, none, none]
noncomputable def cdU_2_0 : zK := cdS_2_0 ++ cdU_2_1
theorem luk_2_0 (k : Nat) : cd_L[200 + k]? = cdU_2_0[k]? := lkT_2 k
theorem luk_2_1 (k : Nat) : cd_L[210 + k]? = cdU_2_1[k]? := by
  rw [show 210 + k = 200 + (10 + k) by omega, luk_2_0]
  exact zapp_hi 10 rfl
theorem luk_2_2 (k : Nat) : cd_L[220 + k]? = cdU_2_2[k]? := by
  rw [show 220 + k = 210 + (10 + k) by omega, luk_2_1]
  exact zapp_hi 10 rfl
theorem luk_2_3 (k : Nat) : cd_L[230 + k]? = cdU_2_3[k]? := by
  rw [show 230 + k = 220 + (10 + k) by omega, luk_2_2]
  exact zapp_hi 10 rfl
theorem luk_2_4 (k : Nat) : cd_L[240 + k]? = cdU_2_4[k]? := by
  rw [show 240 + k = 230 + (10 + k) by omega, luk_2_3]
  exact zapp_hi 10 rfl
theorem luk_2_5 (k : Nat) : cd_L[250 + k]? = cdU_2_5[k]? := by
  rw [show 250 + k = 240 + (10 + k) by omega, luk_2_4]
  exact zapp_hi 10 rfl
theorem luk_2_6 (k : Nat) : cd_L[260 + k]? = cdU_2_6[k]? := by
  rw [show 260 + k = 250 + (10 + k) by omega, luk_2_5]
  exact zapp_hi 10 rfl
theorem luk_2_7 (k : Nat) : cd_L[270 + k]? = cdU_2_7[k]? := by
  rw [show 270 + k = 260 + (10 + k) by omega, luk_2_6]
  exact zapp_hi 10 rfl
theorem luk_2_8 (k : Nat) : cd_L[280 + k]? = cdU_2_8[k]? := by
  rw [show 280 + k = 270 + (10 + k) by omega, luk_2_7]
  exact zapp_hi 10 rfl
theorem luk_2_9 (k : Nat) : cd_L[290 + k]? = cdU_2_9[k]? := by
  rw [show 290 + k = 280 + (10 + k) by omega, luk_2_8]
  exact zapp_hi 10 rfl
noncomputable def cdU_3_10 : zK := cdT_4
noncomputable def cdS_3_9 : zK := [zi (.aconst_null) 391 0 0 0 (.int 4), zj (.iadd) 392 0 0 0, zj (.saload) 393 0 0 0, zj (.invokevirtual 0) 396 114 4 11, none, none, zj (.pop) 397 0 0 0, zj (.aload 2) 398 2 0 0, zj (.aload 0) 399 0 0 0, zj (.iload 3) 400 3 0 0]
noncomputable def cdU_3_9 : zK := cdS_3_9 ++ cdU_3_10
noncomputable def cdS_3_8 : zK := [zi (.aconst_null) 381 0 0 0 (.int 2), zj (.iadd) 382 0 0 0, zj (.saload) 383 0 0 0, zj (.aload 0) 384 0 0 0, zj (.iload 3) 385 3 0 0, zi (.aconst_null) 386 0 0 0 (.int 3), zj (.iadd) 387 0 0 0, zj (.saload) 388 0 0 0, zj (.aload 0) 389 0 0 0, zj (.iload 3) 390 3 0 0]
noncomputable def cdU_3_8 : zK := cdS_3_8 ++ cdU_3_9
noncomputable def cdS_3_7 : zK := [none, none, zj (.aload 1) 373 1 0 0, zj (.aload 0) 374 0 0 0, zj (.iload 3) 375 3 0 0, zi (.aconst_null) 376 0 0 0 (.int 1), zj (.iadd) 377 0 0 0, zj (.saload) 378 0 0 0, zj (.aload 0) 379 0 0 0, zj (.iload 3) 380 3 0 0]
noncomputable def cdU_3_7 : zK := cdS_3_7 ++ cdU_3_8
noncomputable def cdS_3_6 : zK := [zj (.aload 0) 361 0 0 0, zj (.iload 3) 362 3 0 0, zi (.aconst_null) 363 0 0 0 (.int 4), zj (.iadd) 364 0 0 0, zj (.saload) 365 0 0 0, zj (.invokevirtual 0) 368 181 4 12, none, none, zj (.pop) 369 0 0 0, zj (.goto 0) 372 2138 0 0]
noncomputable def cdU_3_6 : zK := cdS_3_6 ++ cdU_3_7
noncomputable def cdS_3_5 : zK := [zj (.aload 0) 351 0 0 0, zj (.iload 3) 352 3 0 0, zi (.aconst_null) 353 0 0 0 (.int 2), zj (.iadd) 354 0 0 0, zj (.saload) 355 0 0 0, zj (.aload 0) 356 0 0 0, zj (.iload 3) 357 3 0 0, zi (.aconst_null) 358 0 0 0 (.int 3), zj (.iadd) 359 0 0 0, zj (.saload) 360 0 0 0]
noncomputable def cdU_3_5 : zK := cdS_3_5 ++ cdU_3_6
noncomputable def cdS_3_4 : zK := [zj (.invokevirtual 0) 343 113 4 11, none, none, zj (.pop) 344 0 0 0, zj (.aload 2) 345 2 0 0, zj (.aload 0) 346 0 0 0, zj (.iload 3) 347 3 0 0, zi (.aconst_null) 348 0 0 0 (.int 1), zj (.iadd) 349 0 0 0, zj (.saload) 350 0 0 0]
noncomputable def cdU_3_4 : zK := cdS_3_4 ++ cdU_3_5
noncomputable def cdS_3_3 : zK := [zj (.aload 0) 331 0 0 0, zj (.iload 3) 332 3 0 0, zi (.aconst_null) 333 0 0 0 (.int 3), zj (.iadd) 334 0 0 0, zj (.saload) 335 0 0 0, zj (.aload 0) 336 0 0 0, zj (.iload 3) 337 3 0 0, zi (.aconst_null) 338 0 0 0 (.int 4), zj (.iadd) 339 0 0 0, zj (.saload) 340 0 0 0]
noncomputable def cdU_3_3 : zK := cdS_3_3 ++ cdU_3_4
noncomputable def cdS_3_2 : zK := [zj (.aload 0) 321 0 0 0, zj (.iload 3) 322 3 0 0, zi (.aconst_null) 323 0 0 0 (.int 1), zj (.iadd) 324 0 0 0, zj (.saload) 325 0 0 0, zj (.aload 0) 326 0 0 0, zj (.iload 3) 327 3 0 0, zi (.aconst_null) 328 0 0 0 (.int 2), zj (.iadd) 329 0 0 0, zj (.saload) 330 0 0 0]
noncomputable def cdU_3_2 : zK := cdS_3_2 ++ cdU_3_3
noncomputable def cdS_3_1 : zK := [zj (.iadd) 311 0 0 0, zj (.saload) 312 0 0 0, zj (.invokevirtual 0) 315 180 2 12, none, none, zj (.pop) 316 0 0 0, zj (.goto 0) 319 2138 0 0, none, none, zj (.aload 1) 320 1 0 0]
noncomputable def cdU_3_1 : zK := cdS_3_1 ++ cdU_3_2
noncomputable def cdS_3_0 : zK := [zj (.pop) 301 0 0 0, zj (.aload 2) 302 2 0 0, zj (.aload 0) 303 0 0 0, zj (.iload 3) 304 3 0 0, zi (.aconst_null) 305 0 0 0 (.int 1), zj (.iadd) 306 0 0 0, zj (.saload) 307 0 0 0, zj (.aload 0) 308 0 0 0, zj (.iload 3) 309 3 0 0, zi (.aconst_null) 310 0 0 0 (.int 2)]
noncomputable def cdU_3_0 : zK := cdS_3_0 ++ cdU_3_1
theorem luk_3_0 (k : Nat) : cd_L[300 + k]? = cdU_3_0[k]? := lkT_3 k
theorem luk_3_1 (k : Nat) : cd_L[310 + k]? = cdU_3_1[k]? := by
  rw [show 310 + k = 300 + (10 + k) by omega, luk_3_0]
  exact zapp_hi 10 rfl
theorem luk_3_2 (k : Nat) : cd_L[320 + k]? = cdU_3_2[k]? := by
  rw [show 320 + k = 310 + (10 + k) by omega, luk_3_1]
  exact zapp_hi 10 rfl
theorem luk_3_3 (k : Nat) : cd_L[330 + k]? = cdU_3_3[k]? := by
  rw [show 330 + k = 320 + (10 + k) by omega, luk_3_2]
  exact zapp_hi 10 rfl
theorem luk_3_4 (k : Nat) : cd_L[340 + k]? = cdU_3_4[k]? := by
  rw [show 340 + k = 330 + (10 + k) by omega, luk_3_3]
  exact zapp_hi 10 rfl
theorem luk_3_5 (k : Nat) : cd_L[350 + k]? = cdU_3_5[k]? := by
  rw [show 350 + k = 340 + (10 + k) by omega, luk_3_4]
  exact zapp_hi 10 rfl
theorem luk_3_6 (k : Nat) : cd_L[360 + k]? = cdU_3_6[k]? := by
  rw [show 360 + k = 350 + (10 + k) by omega, luk_3_5]
  exact zapp_hi 10 rfl
theorem luk_3_7 (k : Nat) : cd_L[370 + k]? = cdU_3_7[k]? := by
  rw [show 370 + k = 360 + (10 + k) by omega, luk_3_6]
  exact zapp_hi 10 rfl
theorem luk_3_8 (k : Nat) : cd_L[380 + k]? = cdU_3_8[k]? := by
  rw [show 380 + k = 370 + (10 + k) by omega, luk_3_7]
  exact zapp_hi 10 rfl
theorem luk_3_9 (k : Nat) : cd_L[390 + k]? = cdU_3_9[k]? := by
  rw [show 390 + k = 380 + (10 + k) by omega, luk_3_8]
  exact zapp_hi 10 rfl
noncomputable def cdU_4_10 : zK := cdT_5
noncomputable def cdS_4_9 : zK := [zj (.iload 3) 491 3 0 0, zi (.aconst_null) 492 0 0 0 (.int 1), zj (.iadd) 493 0 0 0, zj (.saload) 494 0 0 0, zj (.aload 0) 495 0 0 0, zj (.iload 3) 496 3 0 0, zi (.aconst_null) 497 0 0 0 (.int 2), zj (.iadd) 498 0 0 0, zj (.saload) 499 0 0 0, zj (.aload 0) 500 0 0 0]
noncomputable def cdU_4_9 : zK := cdS_4_9 ++ cdU_4_10
noncomputable def cdS_4_8 : zK := [zj (.iload 3) 481 3 0 0, zi (.aconst_null) 482 0 0 0 (.int 3), zj (.iadd) 483 0 0 0, zj (.saload) 484 0 0 0, zj (.invokevirtual 0) 487 116 3 11, none, none, zj (.pop) 488 0 0 0, zj (.aload 2) 489 2 0 0, zj (.aload 0) 490 0 0 0]
noncomputable def cdU_4_8 : zK := cdS_4_8 ++ cdU_4_9
noncomputable def cdS_4_7 : zK := [zj (.iload 3) 471 3 0 0, zi (.aconst_null) 472 0 0 0 (.int 1), zj (.iadd) 473 0 0 0, zj (.saload) 474 0 0 0, zj (.aload 0) 475 0 0 0, zj (.iload 3) 476 3 0 0, zi (.aconst_null) 477 0 0 0 (.int 2), zj (.iadd) 478 0 0 0, zj (.saload) 479 0 0 0, zj (.aload 0) 480 0 0 0]
noncomputable def cdU_4_7 : zK := cdS_4_7 ++ cdU_4_8
noncomputable def cdS_4_6 : zK := [zj (.saload) 461 0 0 0, zj (.invokevirtual 0) 464 183 3 12, none, none, zj (.pop) 465 0 0 0, zj (.goto 0) 468 2138 0 0, none, none, zj (.aload 1) 469 1 0 0, zj (.aload 0) 470 0 0 0]
noncomputable def cdU_4_6 : zK := cdS_4_6 ++ cdU_4_7
noncomputable def cdS_4_5 : zK := [zj (.saload) 451 0 0 0, zj (.aload 0) 452 0 0 0, zj (.iload 3) 453 3 0 0, zi (.aconst_null) 454 0 0 0 (.int 2), zj (.iadd) 455 0 0 0, zj (.saload) 456 0 0 0, zj (.aload 0) 457 0 0 0, zj (.iload 3) 458 3 0 0, zi (.aconst_null) 459 0 0 0 (.int 3), zj (.iadd) 460 0 0 0]
noncomputable def cdU_4_5 : zK := cdS_4_5 ++ cdU_4_6
noncomputable def cdS_4_4 : zK := [zj (.saload) 441 0 0 0, zj (.invokevirtual 0) 444 115 3 11, none, none, zj (.pop) 445 0 0 0, zj (.aload 2) 446 2 0 0, zj (.aload 0) 447 0 0 0, zj (.iload 3) 448 3 0 0, zi (.aconst_null) 449 0 0 0 (.int 1), zj (.iadd) 450 0 0 0]
noncomputable def cdU_4_4 : zK := cdS_4_4 ++ cdU_4_5
noncomputable def cdS_4_3 : zK := [zj (.saload) 431 0 0 0, zj (.aload 0) 432 0 0 0, zj (.iload 3) 433 3 0 0, zi (.aconst_null) 434 0 0 0 (.int 2), zj (.iadd) 435 0 0 0, zj (.saload) 436 0 0 0, zj (.aload 0) 437 0 0 0, zj (.iload 3) 438 3 0 0, zi (.aconst_null) 439 0 0 0 (.int 3), zj (.iadd) 440 0 0 0]
noncomputable def cdU_4_3 : zK := cdS_4_3 ++ cdU_4_4
noncomputable def cdS_4_2 : zK := [none, zj (.pop) 422 0 0 0, zj (.goto 0) 425 2138 0 0, none, none, zj (.aload 1) 426 1 0 0, zj (.aload 0) 427 0 0 0, zj (.iload 3) 428 3 0 0, zi (.aconst_null) 429 0 0 0 (.int 1), zj (.iadd) 430 0 0 0]
noncomputable def cdU_4_2 : zK := cdS_4_2 ++ cdU_4_3
noncomputable def cdS_4_1 : zK := [zi (.aconst_null) 411 0 0 0 (.int 3), zj (.iadd) 412 0 0 0, zj (.saload) 413 0 0 0, zj (.aload 0) 414 0 0 0, zj (.iload 3) 415 3 0 0, zi (.aconst_null) 416 0 0 0 (.int 4), zj (.iadd) 417 0 0 0, zj (.saload) 418 0 0 0, zj (.invokevirtual 0) 421 182 4 12, none]
noncomputable def cdU_4_1 : zK := cdS_4_1 ++ cdU_4_2
noncomputable def cdS_4_0 : zK := [zi (.aconst_null) 401 0 0 0 (.int 1), zj (.iadd) 402 0 0 0, zj (.saload) 403 0 0 0, zj (.aload 0) 404 0 0 0, zj (.iload 3) 405 3 0 0, zi (.aconst_null) 406 0 0 0 (.int 2), zj (.iadd) 407 0 0 0, zj (.saload) 408 0 0 0, zj (.aload 0) 409 0 0 0, zj (.iload 3) 410 3 0 0]
noncomputable def cdU_4_0 : zK := cdS_4_0 ++ cdU_4_1
theorem luk_4_0 (k : Nat) : cd_L[400 + k]? = cdU_4_0[k]? := lkT_4 k
theorem luk_4_1 (k : Nat) : cd_L[410 + k]? = cdU_4_1[k]? := by
  rw [show 410 + k = 400 + (10 + k) by omega, luk_4_0]
  exact zapp_hi 10 rfl
theorem luk_4_2 (k : Nat) : cd_L[420 + k]? = cdU_4_2[k]? := by
  rw [show 420 + k = 410 + (10 + k) by omega, luk_4_1]
  exact zapp_hi 10 rfl
theorem luk_4_3 (k : Nat) : cd_L[430 + k]? = cdU_4_3[k]? := by
  rw [show 430 + k = 420 + (10 + k) by omega, luk_4_2]
  exact zapp_hi 10 rfl
theorem luk_4_4 (k : Nat) : cd_L[440 + k]? = cdU_4_4[k]? := by
  rw [show 440 + k = 430 + (10 + k) by omega, luk_4_3]
  exact zapp_hi 10 rfl
theorem luk_4_5 (k : Nat) : cd_L[450 + k]? = cdU_4_5[k]? := by
  rw [show 450 + k = 440 + (10 + k) by omega, luk_4_4]
  exact zapp_hi 10 rfl
theorem luk_4_6 (k : Nat) : cd_L[460 + k]? = cdU_4_6[k]? := by
  rw [show 460 + k = 450 + (10 + k) by omega, luk_4_5]
  exact zapp_hi 10 rfl
theorem luk_4_7 (k : Nat) : cd_L[470 + k]? = cdU_4_7[k]? := by
  rw [show 470 + k = 460 + (10 + k) by omega, luk_4_6]
  exact zapp_hi 10 rfl
theorem luk_4_8 (k : Nat) : cd_L[480 + k]? = cdU_4_8[k]? := by
  rw [show 480 + k = 470 + (10 + k) by omega, luk_4_7]
  exact zapp_hi 10 rfl
theorem luk_4_9 (k : Nat) : cd_L[490 + k]? = cdU_4_9[k]? := by
  rw [show 490 + k = 480 + (10 + k) by omega, luk_4_8]
  exact zapp_hi 10 rfl
noncomputable def cdU_5_10 : zK := cdT_6
noncomputable def cdS_5_9 : zK := [zj (.invokevirtual 0) 593 187 3 12, none, none, zj (.pop) 594 0 0 0, zj (.goto 0) 597 2138 0 0, none, none, zj (.aload 1) 598 1 0 0, zj (.aload 0) 599 0 0 0, zj (.iload 3) 600 3 0 0]
noncomputable def cdU_5_9 : zK := cdS_5_9 ++ cdU_5_10
noncomputable def cdS_5_8 : zK := [zj (.aload 0) 581 0 0 0, zj (.iload 3) 582 3 0 0, zi (.aconst_null) 583 0 0 0 (.int 2), zj (.iadd) 584 0 0 0, zj (.saload) 585 0 0 0, zj (.aload 0) 586 0 0 0, zj (.iload 3) 587 3 0 0, zi (.aconst_null) 588 0 0 0 (.int 3), zj (.iadd) 589 0 0 0, zj (.saload) 590 0 0 0]
noncomputable def cdU_5_8 : zK := cdS_5_8 ++ cdU_5_9
noncomputable def cdS_5_7 : zK := [zj (.invokevirtual 0) 573 118 3 11, none, none, zj (.pop) 574 0 0 0, zj (.aload 2) 575 2 0 0, zj (.aload 0) 576 0 0 0, zj (.iload 3) 577 3 0 0, zi (.aconst_null) 578 0 0 0 (.int 1), zj (.iadd) 579 0 0 0, zj (.saload) 580 0 0 0]
noncomputable def cdU_5_7 : zK := cdS_5_7 ++ cdU_5_8
noncomputable def cdS_5_6 : zK := [zj (.aload 0) 561 0 0 0, zj (.iload 3) 562 3 0 0, zi (.aconst_null) 563 0 0 0 (.int 2), zj (.iadd) 564 0 0 0, zj (.saload) 565 0 0 0, zj (.aload 0) 566 0 0 0, zj (.iload 3) 567 3 0 0, zi (.aconst_null) 568 0 0 0 (.int 3), zj (.iadd) 569 0 0 0, zj (.saload) 570 0 0 0]
noncomputable def cdU_5_6 : zK := cdS_5_6 ++ cdU_5_7
noncomputable def cdS_5_5 : zK := [zj (.pop) 551 0 0 0, zj (.goto 0) 554 2138 0 0, none, none, zj (.aload 1) 555 1 0 0, zj (.aload 0) 556 0 0 0, zj (.iload 3) 557 3 0 0, zi (.aconst_null) 558 0 0 0 (.int 1), zj (.iadd) 559 0 0 0, zj (.saload) 560 0 0 0]
noncomputable def cdU_5_5 : zK := cdS_5_5 ++ cdU_5_6
noncomputable def cdS_5_4 : zK := [zj (.iadd) 541 0 0 0, zj (.saload) 542 0 0 0, zj (.aload 0) 543 0 0 0, zj (.iload 3) 544 3 0 0, zi (.aconst_null) 545 0 0 0 (.int 3), zj (.iadd) 546 0 0 0, zj (.saload) 547 0 0 0, zj (.invokevirtual 0) 550 185 3 12, none, none]
noncomputable def cdU_5_4 : zK := cdS_5_4 ++ cdU_5_5
noncomputable def cdS_5_3 : zK := [zj (.pop) 531 0 0 0, zj (.aload 2) 532 2 0 0, zj (.aload 0) 533 0 0 0, zj (.iload 3) 534 3 0 0, zi (.aconst_null) 535 0 0 0 (.int 1), zj (.iadd) 536 0 0 0, zj (.saload) 537 0 0 0, zj (.aload 0) 538 0 0 0, zj (.iload 3) 539 3 0 0, zi (.aconst_null) 540 0 0 0 (.int 2)]
noncomputable def cdU_5_3 : zK := cdS_5_3 ++ cdU_5_4
noncomputable def cdS_5_2 : zK := [zj (.iadd) 521 0 0 0, zj (.saload) 522 0 0 0, zj (.aload 0) 523 0 0 0, zj (.iload 3) 524 3 0 0, zi (.aconst_null) 525 0 0 0 (.int 3), zj (.iadd) 526 0 0 0, zj (.saload) 527 0 0 0, zj (.invokevirtual 0) 530 117 3 11, none, none]
noncomputable def cdU_5_2 : zK := cdS_5_2 ++ cdU_5_3
noncomputable def cdS_5_1 : zK := [none, zj (.aload 1) 512 1 0 0, zj (.aload 0) 513 0 0 0, zj (.iload 3) 514 3 0 0, zi (.aconst_null) 515 0 0 0 (.int 1), zj (.iadd) 516 0 0 0, zj (.saload) 517 0 0 0, zj (.aload 0) 518 0 0 0, zj (.iload 3) 519 3 0 0, zi (.aconst_null) 520 0 0 0 (.int 2)]
noncomputable def cdU_5_1 : zK := cdS_5_1 ++ cdU_5_2
noncomputable def cdS_5_0 : zK := [zj (.iload 3) 501 3 0 0, zi (.aconst_null) 502 0 0 0 (.int 3), zj (.iadd) 503 0 0 0, zj (.saload) 504 0 0 0, zj (.invokevirtual 0) 507 184 3 12, none, none, zj (.pop) 508 0 0 0, zj (.goto 0) 511 2138 0 0, none]
noncomputable def cdU_5_0 : zK := cdS_5_0 ++ cdU_5_1
theorem luk_5_0 (k : Nat) : cd_L[500 + k]? = cdU_5_0[k]? := lkT_5 k
theorem luk_5_1 (k : Nat) : cd_L[510 + k]? = cdU_5_1[k]? := by
  rw [show 510 + k = 500 + (10 + k) by omega, luk_5_0]
  exact zapp_hi 10 rfl
theorem luk_5_2 (k : Nat) : cd_L[520 + k]? = cdU_5_2[k]? := by
  rw [show 520 + k = 510 + (10 + k) by omega, luk_5_1]
  exact zapp_hi 10 rfl
theorem luk_5_3 (k : Nat) : cd_L[530 + k]? = cdU_5_3[k]? := by
  rw [show 530 + k = 520 + (10 + k) by omega, luk_5_2]
  exact zapp_hi 10 rfl
theorem luk_5_4 (k : Nat) : cd_L[540 + k]? = cdU_5_4[k]? := by
  rw [show 540 + k = 530 + (10 + k) by omega, luk_5_3]
  exact zapp_hi 10 rfl
theorem luk_5_5 (k : Nat) : cd_L[550 + k]? = cdU_5_5[k]? := by
  rw [show 550 + k = 540 + (10 + k) by omega, luk_5_4]
  exact zapp_hi 10 rfl
theorem luk_5_6 (k : Nat) : cd_L[560 + k]? = cdU_5_6[k]? := by
  rw [show 560 + k = 550 + (10 + k) by omega, luk_5_5]
  exact zapp_hi 10 rfl
theorem luk_5_7 (k : Nat) : cd_L[570 + k]? = cdU_5_7[k]? := by
  rw [show 570 + k = 560 + (10 + k) by omega, luk_5_6]
  exact zapp_hi 10 rfl
theorem luk_5_8 (k : Nat) : cd_L[580 + k]? = cdU_5_8[k]? := by
  rw [show 580 + k = 570 + (10 + k) by omega, luk_5_7]
  exact zapp_hi 10 rfl
theorem luk_5_9 (k : Nat) : cd_L[590 + k]? = cdU_5_9[k]? := by
  rw [show 590 + k = 580 + (10 + k) by omega, luk_5_8]
  exact zapp_hi 10 rfl
noncomputable def cdU_6_10 : zK := cdT_7
noncomputable def cdS_6_9 : zK := [none, none, zj (.pop) 693 0 0 0, zj (.aload 2) 694 2 0 0, zj (.aload 0) 695 0 0 0, zj (.iload 3) 696 3 0 0, zi (.aconst_null) 697 0 0 0 (.int 1), zj (.iadd) 698 0 0 0, zj (.saload) 699 0 0 0, zj (.aload 0) 700 0 0 0]
noncomputable def cdU_6_9 : zK := cdS_6_9 ++ cdU_6_10
noncomputable def cdS_6_8 : zK := [zj (.iload 3) 681 3 0 0, zi (.aconst_null) 682 0 0 0 (.int 4), zj (.iadd) 683 0 0 0, zj (.saload) 684 0 0 0, zj (.aload 0) 685 0 0 0, zj (.iload 3) 686 3 0 0, zi (.aconst_null) 687 0 0 0 (.int 5), zj (.iadd) 688 0 0 0, zj (.saload) 689 0 0 0, zj (.invokevirtual 0) 692 121 5 11]
noncomputable def cdU_6_8 : zK := cdS_6_8 ++ cdU_6_9
noncomputable def cdS_6_7 : zK := [zj (.iload 3) 671 3 0 0, zi (.aconst_null) 672 0 0 0 (.int 2), zj (.iadd) 673 0 0 0, zj (.saload) 674 0 0 0, zj (.aload 0) 675 0 0 0, zj (.iload 3) 676 3 0 0, zi (.aconst_null) 677 0 0 0 (.int 3), zj (.iadd) 678 0 0 0, zj (.saload) 679 0 0 0, zj (.aload 0) 680 0 0 0]
noncomputable def cdU_6_7 : zK := cdS_6_7 ++ cdU_6_8
noncomputable def cdS_6_6 : zK := [zj (.goto 0) 663 2138 0 0, none, none, zj (.aload 1) 664 1 0 0, zj (.aload 0) 665 0 0 0, zj (.iload 3) 666 3 0 0, zi (.aconst_null) 667 0 0 0 (.int 1), zj (.iadd) 668 0 0 0, zj (.saload) 669 0 0 0, zj (.aload 0) 670 0 0 0]
noncomputable def cdU_6_6 : zK := cdS_6_6 ++ cdU_6_7
noncomputable def cdS_6_5 : zK := [zj (.saload) 651 0 0 0, zj (.aload 0) 652 0 0 0, zj (.iload 3) 653 3 0 0, zi (.aconst_null) 654 0 0 0 (.int 2), zj (.iadd) 655 0 0 0, zj (.saload) 656 0 0 0, zj (.invokevirtual 0) 659 193 2 12, none, none, zj (.pop) 660 0 0 0]
noncomputable def cdU_6_5 : zK := cdS_6_5 ++ cdU_6_6
noncomputable def cdS_6_4 : zK := [zj (.saload) 641 0 0 0, zj (.invokevirtual 0) 644 120 2 11, none, none, zj (.pop) 645 0 0 0, zj (.aload 2) 646 2 0 0, zj (.aload 0) 647 0 0 0, zj (.iload 3) 648 3 0 0, zi (.aconst_null) 649 0 0 0 (.int 1), zj (.iadd) 650 0 0 0]
noncomputable def cdU_6_4 : zK := cdS_6_4 ++ cdU_6_5
noncomputable def cdS_6_3 : zK := [zj (.aload 1) 631 1 0 0, zj (.aload 0) 632 0 0 0, zj (.iload 3) 633 3 0 0, zi (.aconst_null) 634 0 0 0 (.int 1), zj (.iadd) 635 0 0 0, zj (.saload) 636 0 0 0, zj (.aload 0) 637 0 0 0, zj (.iload 3) 638 3 0 0, zi (.aconst_null) 639 0 0 0 (.int 2), zj (.iadd) 640 0 0 0]
noncomputable def cdU_6_3 : zK := cdS_6_3 ++ cdU_6_4
noncomputable def cdS_6_2 : zK := [zi (.aconst_null) 621 0 0 0 (.int 2), zj (.iadd) 622 0 0 0, zj (.saload) 623 0 0 0, zj (.invokevirtual 0) 626 192 2 12, none, none, zj (.pop) 627 0 0 0, zj (.goto 0) 630 2138 0 0, none, none]
noncomputable def cdU_6_2 : zK := cdS_6_2 ++ cdU_6_3
noncomputable def cdS_6_1 : zK := [none, zj (.pop) 612 0 0 0, zj (.aload 2) 613 2 0 0, zj (.aload 0) 614 0 0 0, zj (.iload 3) 615 3 0 0, zi (.aconst_null) 616 0 0 0 (.int 1), zj (.iadd) 617 0 0 0, zj (.saload) 618 0 0 0, zj (.aload 0) 619 0 0 0, zj (.iload 3) 620 3 0 0]
noncomputable def cdU_6_1 : zK := cdS_6_1 ++ cdU_6_2
noncomputable def cdS_6_0 : zK := [zi (.aconst_null) 601 0 0 0 (.int 1), zj (.iadd) 602 0 0 0, zj (.saload) 603 0 0 0, zj (.aload 0) 604 0 0 0, zj (.iload 3) 605 3 0 0, zi (.aconst_null) 606 0 0 0 (.int 2), zj (.iadd) 607 0 0 0, zj (.saload) 608 0 0 0, zj (.invokevirtual 0) 611 119 2 11, none]
noncomputable def cdU_6_0 : zK := cdS_6_0 ++ cdU_6_1
theorem luk_6_0 (k : Nat) : cd_L[600 + k]? = cdU_6_0[k]? := lkT_6 k
theorem luk_6_1 (k : Nat) : cd_L[610 + k]? = cdU_6_1[k]? := by
  rw [show 610 + k = 600 + (10 + k) by omega, luk_6_0]
  exact zapp_hi 10 rfl
theorem luk_6_2 (k : Nat) : cd_L[620 + k]? = cdU_6_2[k]? := by
  rw [show 620 + k = 610 + (10 + k) by omega, luk_6_1]
  exact zapp_hi 10 rfl
theorem luk_6_3 (k : Nat) : cd_L[630 + k]? = cdU_6_3[k]? := by
  rw [show 630 + k = 620 + (10 + k) by omega, luk_6_2]
  exact zapp_hi 10 rfl
theorem luk_6_4 (k : Nat) : cd_L[640 + k]? = cdU_6_4[k]? := by
  rw [show 640 + k = 630 + (10 + k) by omega, luk_6_3]
  exact zapp_hi 10 rfl
theorem luk_6_5 (k : Nat) : cd_L[650 + k]? = cdU_6_5[k]? := by
  rw [show 650 + k = 640 + (10 + k) by omega, luk_6_4]
  exact zapp_hi 10 rfl
theorem luk_6_6 (k : Nat) : cd_L[660 + k]? = cdU_6_6[k]? := by
  rw [show 660 + k = 650 + (10 + k) by omega, luk_6_5]
  exact zapp_hi 10 rfl
theorem luk_6_7 (k : Nat) : cd_L[670 + k]? = cdU_6_7[k]? := by
  rw [show 670 + k = 660 + (10 + k) by omega, luk_6_6]
  exact zapp_hi 10 rfl
theorem luk_6_8 (k : Nat) : cd_L[680 + k]? = cdU_6_8[k]? := by
  rw [show 680 + k = 670 + (10 + k) by omega, luk_6_7]
  exact zapp_hi 10 rfl
theorem luk_6_9 (k : Nat) : cd_L[690 + k]? = cdU_6_9[k]? := by
  rw [show 690 + k = 680 + (10 + k) by omega, luk_6_8]
  exact zapp_hi 10 rfl
noncomputable def cdU_7_10 : zK := cdT_8
noncomputable def cdS_7_9 : zK := [zj (.aload 0) 791 0 0 0, zj (.iload 3) 792 3 0 0, zi (.aconst_null) 793 0 0 0 (.int 1), zj (.iadd) 794 0 0 0, zj (.saload) 795 0 0 0, zj (.invokevirtual 0) 798 123 1 11, none, none, zj (.pop) 799 0 0 0, zj (.aload 2) 800 2 0 0]
noncomputable def cdU_7_9 : zK := cdS_7_9 ++ cdU_7_10
noncomputable def cdS_7_8 : zK := [zj (.iadd) 781 0 0 0, zj (.saload) 782 0 0 0, zj (.invokevirtual 0) 785 196 5 12, none, none, zj (.pop) 786 0 0 0, zj (.goto 0) 789 2138 0 0, none, none, zj (.aload 1) 790 1 0 0]
noncomputable def cdU_7_8 : zK := cdS_7_8 ++ cdU_7_9
noncomputable def cdS_7_7 : zK := [zj (.iadd) 771 0 0 0, zj (.saload) 772 0 0 0, zj (.aload 0) 773 0 0 0, zj (.iload 3) 774 3 0 0, zi (.aconst_null) 775 0 0 0 (.int 4), zj (.iadd) 776 0 0 0, zj (.saload) 777 0 0 0, zj (.aload 0) 778 0 0 0, zj (.iload 3) 779 3 0 0, zi (.aconst_null) 780 0 0 0 (.int 5)]
noncomputable def cdU_7_7 : zK := cdS_7_7 ++ cdU_7_8
noncomputable def cdS_7_6 : zK := [zj (.iadd) 761 0 0 0, zj (.saload) 762 0 0 0, zj (.aload 0) 763 0 0 0, zj (.iload 3) 764 3 0 0, zi (.aconst_null) 765 0 0 0 (.int 2), zj (.iadd) 766 0 0 0, zj (.saload) 767 0 0 0, zj (.aload 0) 768 0 0 0, zj (.iload 3) 769 3 0 0, zi (.aconst_null) 770 0 0 0 (.int 3)]
noncomputable def cdU_7_6 : zK := cdS_7_6 ++ cdU_7_7
noncomputable def cdS_7_5 : zK := [zj (.iadd) 751 0 0 0, zj (.saload) 752 0 0 0, zj (.invokevirtual 0) 755 122 5 11, none, none, zj (.pop) 756 0 0 0, zj (.aload 2) 757 2 0 0, zj (.aload 0) 758 0 0 0, zj (.iload 3) 759 3 0 0, zi (.aconst_null) 760 0 0 0 (.int 1)]
noncomputable def cdU_7_5 : zK := cdS_7_5 ++ cdU_7_6
noncomputable def cdS_7_4 : zK := [zj (.iadd) 741 0 0 0, zj (.saload) 742 0 0 0, zj (.aload 0) 743 0 0 0, zj (.iload 3) 744 3 0 0, zi (.aconst_null) 745 0 0 0 (.int 4), zj (.iadd) 746 0 0 0, zj (.saload) 747 0 0 0, zj (.aload 0) 748 0 0 0, zj (.iload 3) 749 3 0 0, zi (.aconst_null) 750 0 0 0 (.int 5)]
noncomputable def cdU_7_4 : zK := cdS_7_4 ++ cdU_7_5
noncomputable def cdS_7_3 : zK := [zj (.iadd) 731 0 0 0, zj (.saload) 732 0 0 0, zj (.aload 0) 733 0 0 0, zj (.iload 3) 734 3 0 0, zi (.aconst_null) 735 0 0 0 (.int 2), zj (.iadd) 736 0 0 0, zj (.saload) 737 0 0 0, zj (.aload 0) 738 0 0 0, zj (.iload 3) 739 3 0 0, zi (.aconst_null) 740 0 0 0 (.int 3)]
noncomputable def cdU_7_3 : zK := cdS_7_3 ++ cdU_7_4
noncomputable def cdS_7_2 : zK := [none, none, zj (.pop) 723 0 0 0, zj (.goto 0) 726 2138 0 0, none, none, zj (.aload 1) 727 1 0 0, zj (.aload 0) 728 0 0 0, zj (.iload 3) 729 3 0 0, zi (.aconst_null) 730 0 0 0 (.int 1)]
noncomputable def cdU_7_2 : zK := cdS_7_2 ++ cdU_7_3
noncomputable def cdS_7_1 : zK := [zj (.iload 3) 711 3 0 0, zi (.aconst_null) 712 0 0 0 (.int 4), zj (.iadd) 713 0 0 0, zj (.saload) 714 0 0 0, zj (.aload 0) 715 0 0 0, zj (.iload 3) 716 3 0 0, zi (.aconst_null) 717 0 0 0 (.int 5), zj (.iadd) 718 0 0 0, zj (.saload) 719 0 0 0, zj (.invokevirtual 0) 722 195 5 12]
noncomputable def cdU_7_1 : zK := cdS_7_1 ++ cdU_7_2
noncomputable def cdS_7_0 : zK := [zj (.iload 3) 701 3 0 0, zi (.aconst_null) 702 0 0 0 (.int 2), zj (.iadd) 703 0 0 0, zj (.saload) 704 0 0 0, zj (.aload 0) 705 0 0 0, zj (.iload 3) 706 3 0 0, zi (.aconst_null) 707 0 0 0 (.int 3), zj (.iadd) 708 0 0 0, zj (.saload) 709 0 0 0, zj (.aload 0) 710 0 0 0]
noncomputable def cdU_7_0 : zK := cdS_7_0 ++ cdU_7_1
theorem luk_7_0 (k : Nat) : cd_L[700 + k]? = cdU_7_0[k]? := lkT_7 k
theorem luk_7_1 (k : Nat) : cd_L[710 + k]? = cdU_7_1[k]? := by
  rw [show 710 + k = 700 + (10 + k) by omega, luk_7_0]
  exact zapp_hi 10 rfl
theorem luk_7_2 (k : Nat) : cd_L[720 + k]? = cdU_7_2[k]? := by
  rw [show 720 + k = 710 + (10 + k) by omega, luk_7_1]
  exact zapp_hi 10 rfl
theorem luk_7_3 (k : Nat) : cd_L[730 + k]? = cdU_7_3[k]? := by
  rw [show 730 + k = 720 + (10 + k) by omega, luk_7_2]
  exact zapp_hi 10 rfl
theorem luk_7_4 (k : Nat) : cd_L[740 + k]? = cdU_7_4[k]? := by
  rw [show 740 + k = 730 + (10 + k) by omega, luk_7_3]
  exact zapp_hi 10 rfl
theorem luk_7_5 (k : Nat) : cd_L[750 + k]? = cdU_7_5[k]? := by
  rw [show 750 + k = 740 + (10 + k) by omega, luk_7_4]
  exact zapp_hi 10 rfl
theorem luk_7_6 (k : Nat) : cd_L[760 + k]? = cdU_7_6[k]? := by
  rw [show 760 + k = 750 + (10 + k) by omega, luk_7_5]
  exact zapp_hi 10 rfl
theorem luk_7_7 (k : Nat) : cd_L[770 + k]? = cdU_7_7[k]? := by
  rw [show 770 + k = 760 + (10 + k) by omega, luk_7_6]
  exact zapp_hi 10 rfl
theorem luk_7_8 (k : Nat) : cd_L[780 + k]? = cdU_7_8[k]? := by
  rw [show 780 + k = 770 + (10 + k) by omega, luk_7_7]
  exact zapp_hi 10 rfl
theorem luk_7_9 (k : Nat) : cd_L[790 + k]? = cdU_7_9[k]? := by
  rw [show 790 + k = 780 + (10 + k) by omega, luk_7_8]
  exact zapp_hi 10 rfl
noncomputable def cdU_8_10 : zK := cdT_9
noncomputable def cdS_8_9 : zK := [zj (.iload 3) 891 3 0 0, zi (.aconst_null) 892 0 0 0 (.int 3), zj (.iadd) 893 0 0 0, zj (.saload) 894 0 0 0, zj (.invokevirtual 0) 897 235 3 12, none, none, zj (.pop) 898 0 0 0, zj (.goto 0) 901 2138 0 0, none]
noncomputable def cdU_8_9 : zK := cdS_8_9 ++ cdU_8_10
noncomputable def cdS_8_8 : zK := [zj (.iload 3) 881 3 0 0, zi (.aconst_null) 882 0 0 0 (.int 1), zj (.iadd) 883 0 0 0, zj (.saload) 884 0 0 0, zj (.aload 0) 885 0 0 0, zj (.iload 3) 886 3 0 0, zi (.aconst_null) 887 0 0 0 (.int 2), zj (.iadd) 888 0 0 0, zj (.saload) 889 0 0 0, zj (.aload 0) 890 0 0 0]
noncomputable def cdU_8_8 : zK := cdS_8_8 ++ cdU_8_9
noncomputable def cdS_8_7 : zK := [zj (.iload 3) 871 3 0 0, zi (.aconst_null) 872 0 0 0 (.int 3), zj (.iadd) 873 0 0 0, zj (.saload) 874 0 0 0, zj (.invokevirtual 0) 877 126 3 11, none, none, zj (.pop) 878 0 0 0, zj (.aload 2) 879 2 0 0, zj (.aload 0) 880 0 0 0]
noncomputable def cdU_8_7 : zK := cdS_8_7 ++ cdU_8_8
noncomputable def cdS_8_6 : zK := [zj (.iload 3) 861 3 0 0, zi (.aconst_null) 862 0 0 0 (.int 1), zj (.iadd) 863 0 0 0, zj (.saload) 864 0 0 0, zj (.aload 0) 865 0 0 0, zj (.iload 3) 866 3 0 0, zi (.aconst_null) 867 0 0 0 (.int 2), zj (.iadd) 868 0 0 0, zj (.saload) 869 0 0 0, zj (.aload 0) 870 0 0 0]
noncomputable def cdU_8_6 : zK := cdS_8_6 ++ cdU_8_7
noncomputable def cdS_8_5 : zK := [zj (.saload) 851 0 0 0, zj (.invokevirtual 0) 854 227 1 12, none, none, zj (.pop) 855 0 0 0, zj (.goto 0) 858 2138 0 0, none, none, zj (.aload 1) 859 1 0 0, zj (.aload 0) 860 0 0 0]
noncomputable def cdU_8_5 : zK := cdS_8_5 ++ cdU_8_6
noncomputable def cdS_8_4 : zK := [zj (.saload) 841 0 0 0, zj (.invokevirtual 0) 844 125 1 11, none, none, zj (.pop) 845 0 0 0, zj (.aload 2) 846 2 0 0, zj (.aload 0) 847 0 0 0, zj (.iload 3) 848 3 0 0, zi (.aconst_null) 849 0 0 0 (.int 1), zj (.iadd) 850 0 0 0]
noncomputable def cdU_8_4 : zK := cdS_8_4 ++ cdU_8_5
noncomputable def cdS_8_3 : zK := [none, zj (.pop) 832 0 0 0, zj (.goto 0) 835 2138 0 0, none, none, zj (.aload 1) 836 1 0 0, zj (.aload 0) 837 0 0 0, zj (.iload 3) 838 3 0 0, zi (.aconst_null) 839 0 0 0 (.int 1), zj (.iadd) 840 0 0 0]
noncomputable def cdU_8_3 : zK := cdS_8_3 ++ cdU_8_4
noncomputable def cdS_8_2 : zK := [none, zj (.pop) 822 0 0 0, zj (.aload 2) 823 2 0 0, zj (.aload 0) 824 0 0 0, zj (.iload 3) 825 3 0 0, zi (.aconst_null) 826 0 0 0 (.int 1), zj (.iadd) 827 0 0 0, zj (.saload) 828 0 0 0, zj (.invokevirtual 0) 831 225 1 12, none]
noncomputable def cdU_8_2 : zK := cdS_8_2 ++ cdU_8_3
noncomputable def cdS_8_1 : zK := [none, none, zj (.aload 1) 813 1 0 0, zj (.aload 0) 814 0 0 0, zj (.iload 3) 815 3 0 0, zi (.aconst_null) 816 0 0 0 (.int 1), zj (.iadd) 817 0 0 0, zj (.saload) 818 0 0 0, zj (.invokevirtual 0) 821 124 1 11, none]
noncomputable def cdU_8_1 : zK := cdS_8_1 ++ cdU_8_2
noncomputable def cdS_8_0 : zK := [zj (.aload 0) 801 0 0 0, zj (.iload 3) 802 3 0 0, zi (.aconst_null) 803 0 0 0 (.int 1), zj (.iadd) 804 0 0 0, zj (.saload) 805 0 0 0, zj (.invokevirtual 0) 808 198 1 12, none, none, zj (.pop) 809 0 0 0, zj (.goto 0) 812 2138 0 0]
noncomputable def cdU_8_0 : zK := cdS_8_0 ++ cdU_8_1
theorem luk_8_0 (k : Nat) : cd_L[800 + k]? = cdU_8_0[k]? := lkT_8 k
theorem luk_8_1 (k : Nat) : cd_L[810 + k]? = cdU_8_1[k]? := by
  rw [show 810 + k = 800 + (10 + k) by omega, luk_8_0]
  exact zapp_hi 10 rfl
theorem luk_8_2 (k : Nat) : cd_L[820 + k]? = cdU_8_2[k]? := by
  rw [show 820 + k = 810 + (10 + k) by omega, luk_8_1]
  exact zapp_hi 10 rfl
theorem luk_8_3 (k : Nat) : cd_L[830 + k]? = cdU_8_3[k]? := by
  rw [show 830 + k = 820 + (10 + k) by omega, luk_8_2]
  exact zapp_hi 10 rfl
theorem luk_8_4 (k : Nat) : cd_L[840 + k]? = cdU_8_4[k]? := by
  rw [show 840 + k = 830 + (10 + k) by omega, luk_8_3]
  exact zapp_hi 10 rfl
theorem luk_8_5 (k : Nat) : cd_L[850 + k]? = cdU_8_5[k]? := by
  rw [show 850 + k = 840 + (10 + k) by omega, luk_8_4]
  exact zapp_hi 10 rfl
theorem luk_8_6 (k : Nat) : cd_L[860 + k]? = cdU_8_6[k]? := by
  rw [show 860 + k = 850 + (10 + k) by omega, luk_8_5]
  exact zapp_hi 10 rfl
theorem luk_8_7 (k : Nat) : cd_L[870 + k]? = cdU_8_7[k]? := by
  rw [show 870 + k = 860 + (10 + k) by omega, luk_8_6]
  exact zapp_hi 10 rfl
theorem luk_8_8 (k : Nat) : cd_L[880 + k]? = cdU_8_8[k]? := by
  rw [show 880 + k = 870 + (10 + k) by omega, luk_8_7]
  exact zapp_hi 10 rfl
theorem luk_8_9 (k : Nat) : cd_L[890 + k]? = cdU_8_9[k]? := by
  rw [show 890 + k = 880 + (10 + k) by omega, luk_8_8]
  exact zapp_hi 10 rfl
noncomputable def cdU_9_10 : zK := cdT_10
noncomputable def cdS_9_9 : zK := [zi (.aconst_null) 991 0 0 0 (.int 3), zj (.iadd) 992 0 0 0, zj (.saload) 993 0 0 0, zj (.aload 0) 994 0 0 0, zj (.iload 3) 995 3 0 0, zi (.aconst_null) 996 0 0 0 (.int 4), zj (.iadd) 997 0 0 0, zj (.saload) 998 0 0 0, zj (.ifCond .eq 0) 1001 1005 0 0, none]
noncomputable def cdU_9_9 : zK := cdS_9_9 ++ cdU_9_10
noncomputable def cdS_9_8 : zK := [zi (.aconst_null) 981 0 0 0 (.int 1), zj (.iadd) 982 0 0 0, zj (.saload) 983 0 0 0, zj (.aload 0) 984 0 0 0, zj (.iload 3) 985 3 0 0, zi (.aconst_null) 986 0 0 0 (.int 2), zj (.iadd) 987 0 0 0, zj (.saload) 988 0 0 0, zj (.aload 0) 989 0 0 0, zj (.iload 3) 990 3 0 0]
noncomputable def cdU_9_8 : zK := cdS_9_8 ++ cdU_9_9
noncomputable def cdS_9_7 : zK := [zj (.invokevirtual 0) 973 237 2 12, none, none, zj (.pop) 974 0 0 0, zj (.goto 0) 977 2138 0 0, none, none, zj (.aload 1) 978 1 0 0, zj (.aload 0) 979 0 0 0, zj (.iload 3) 980 3 0 0]
noncomputable def cdU_9_7 : zK := cdS_9_7 ++ cdU_9_8
noncomputable def cdS_9_6 : zK := [zj (.aload 0) 961 0 0 0, zj (.iload 3) 962 3 0 0, zi (.aconst_null) 963 0 0 0 (.int 1), zj (.iadd) 964 0 0 0, zj (.saload) 965 0 0 0, zj (.aload 0) 966 0 0 0, zj (.iload 3) 967 3 0 0, zi (.aconst_null) 968 0 0 0 (.int 2), zj (.iadd) 969 0 0 0, zj (.saload) 970 0 0 0]
noncomputable def cdU_9_6 : zK := cdS_9_6 ++ cdU_9_7
noncomputable def cdS_9_5 : zK := [zj (.aload 0) 951 0 0 0, zj (.iload 3) 952 3 0 0, zi (.aconst_null) 953 0 0 0 (.int 2), zj (.iadd) 954 0 0 0, zj (.saload) 955 0 0 0, zj (.invokevirtual 0) 958 128 2 11, none, none, zj (.pop) 959 0 0 0, zj (.aload 2) 960 2 0 0]
noncomputable def cdU_9_5 : zK := cdS_9_5 ++ cdU_9_6
noncomputable def cdS_9_4 : zK := [zj (.pop) 941 0 0 0, zj (.goto 0) 944 2138 0 0, none, none, zj (.aload 1) 945 1 0 0, zj (.aload 0) 946 0 0 0, zj (.iload 3) 947 3 0 0, zi (.aconst_null) 948 0 0 0 (.int 1), zj (.iadd) 949 0 0 0, zj (.saload) 950 0 0 0]
noncomputable def cdU_9_4 : zK := cdS_9_4 ++ cdU_9_5
noncomputable def cdS_9_3 : zK := [zj (.iadd) 931 0 0 0, zj (.saload) 932 0 0 0, zj (.aload 0) 933 0 0 0, zj (.iload 3) 934 3 0 0, zi (.aconst_null) 935 0 0 0 (.int 3), zj (.iadd) 936 0 0 0, zj (.saload) 937 0 0 0, zj (.invokevirtual 0) 940 236 3 12, none, none]
noncomputable def cdU_9_3 : zK := cdS_9_3 ++ cdU_9_4
noncomputable def cdS_9_2 : zK := [zj (.pop) 921 0 0 0, zj (.aload 2) 922 2 0 0, zj (.aload 0) 923 0 0 0, zj (.iload 3) 924 3 0 0, zi (.aconst_null) 925 0 0 0 (.int 1), zj (.iadd) 926 0 0 0, zj (.saload) 927 0 0 0, zj (.aload 0) 928 0 0 0, zj (.iload 3) 929 3 0 0, zi (.aconst_null) 930 0 0 0 (.int 2)]
noncomputable def cdU_9_2 : zK := cdS_9_2 ++ cdU_9_3
noncomputable def cdS_9_1 : zK := [zj (.iadd) 911 0 0 0, zj (.saload) 912 0 0 0, zj (.aload 0) 913 0 0 0, zj (.iload 3) 914 3 0 0, zi (.aconst_null) 915 0 0 0 (.int 3), zj (.iadd) 916 0 0 0, zj (.saload) 917 0 0 0, zj (.invokevirtual 0) 920 127 3 11, none, none]
noncomputable def cdU_9_1 : zK := cdS_9_1 ++ cdU_9_2
noncomputable def cdS_9_0 : zK := [none, zj (.aload 1) 902 1 0 0, zj (.aload 0) 903 0 0 0, zj (.iload 3) 904 3 0 0, zi (.aconst_null) 905 0 0 0 (.int 1), zj (.iadd) 906 0 0 0, zj (.saload) 907 0 0 0, zj (.aload 0) 908 0 0 0, zj (.iload 3) 909 3 0 0, zi (.aconst_null) 910 0 0 0 (.int 2)]
noncomputable def cdU_9_0 : zK := cdS_9_0 ++ cdU_9_1
theorem luk_9_0 (k : Nat) : cd_L[900 + k]? = cdU_9_0[k]? := lkT_9 k
theorem luk_9_1 (k : Nat) : cd_L[910 + k]? = cdU_9_1[k]? := by
  rw [show 910 + k = 900 + (10 + k) by omega, luk_9_0]
  exact zapp_hi 10 rfl
theorem luk_9_2 (k : Nat) : cd_L[920 + k]? = cdU_9_2[k]? := by
  rw [show 920 + k = 910 + (10 + k) by omega, luk_9_1]
  exact zapp_hi 10 rfl
theorem luk_9_3 (k : Nat) : cd_L[930 + k]? = cdU_9_3[k]? := by
  rw [show 930 + k = 920 + (10 + k) by omega, luk_9_2]
  exact zapp_hi 10 rfl
theorem luk_9_4 (k : Nat) : cd_L[940 + k]? = cdU_9_4[k]? := by
  rw [show 940 + k = 930 + (10 + k) by omega, luk_9_3]
  exact zapp_hi 10 rfl
theorem luk_9_5 (k : Nat) : cd_L[950 + k]? = cdU_9_5[k]? := by
  rw [show 950 + k = 940 + (10 + k) by omega, luk_9_4]
  exact zapp_hi 10 rfl
theorem luk_9_6 (k : Nat) : cd_L[960 + k]? = cdU_9_6[k]? := by
  rw [show 960 + k = 950 + (10 + k) by omega, luk_9_5]
  exact zapp_hi 10 rfl
theorem luk_9_7 (k : Nat) : cd_L[970 + k]? = cdU_9_7[k]? := by
  rw [show 970 + k = 960 + (10 + k) by omega, luk_9_6]
  exact zapp_hi 10 rfl
theorem luk_9_8 (k : Nat) : cd_L[980 + k]? = cdU_9_8[k]? := by
  rw [show 980 + k = 970 + (10 + k) by omega, luk_9_7]
  exact zapp_hi 10 rfl
theorem luk_9_9 (k : Nat) : cd_L[990 + k]? = cdU_9_9[k]? := by
  rw [show 990 + k = 980 + (10 + k) by omega, luk_9_8]
  exact zapp_hi 10 rfl
noncomputable def cdU_10_10 : zK := cdT_11
noncomputable def cdS_10_9 : zK := [zj (.aload 0) 1091 0 0 0, zj (.iload 3) 1092 3 0 0, zi (.aconst_null) 1093 0 0 0 (.int 3), zj (.iadd) 1094 0 0 0, zj (.saload) 1095 0 0 0, zj (.aload 0) 1096 0 0 0, zj (.iload 3) 1097 3 0 0, zi (.aconst_null) 1098 0 0 0 (.int 4), zj (.iadd) 1099 0 0 0, zj (.saload) 1100 0 0 0]
noncomputable def cdU_10_9 : zK := cdS_10_9 ++ cdU_10_10
noncomputable def cdS_10_8 : zK := [zj (.aload 0) 1081 0 0 0, zj (.iload 3) 1082 3 0 0, zi (.aconst_null) 1083 0 0 0 (.int 1), zj (.iadd) 1084 0 0 0, zj (.saload) 1085 0 0 0, zj (.aload 0) 1086 0 0 0, zj (.iload 3) 1087 3 0 0, zi (.aconst_null) 1088 0 0 0 (.int 2), zj (.iadd) 1089 0 0 0, zj (.saload) 1090 0 0 0]
noncomputable def cdU_10_8 : zK := cdS_10_8 ++ cdU_10_9
noncomputable def cdS_10_7 : zK := [zj (.iadd) 1071 0 0 0, zj (.saload) 1072 0 0 0, zj (.invokevirtual 0) 1075 239 2 12, none, none, zj (.pop) 1076 0 0 0, zj (.goto 0) 1079 2138 0 0, none, none, zj (.aload 1) 1080 1 0 0]
noncomputable def cdU_10_7 : zK := cdS_10_7 ++ cdU_10_8
noncomputable def cdS_10_6 : zK := [zj (.pop) 1061 0 0 0, zj (.aload 2) 1062 2 0 0, zj (.aload 0) 1063 0 0 0, zj (.iload 3) 1064 3 0 0, zi (.aconst_null) 1065 0 0 0 (.int 1), zj (.iadd) 1066 0 0 0, zj (.saload) 1067 0 0 0, zj (.aload 0) 1068 0 0 0, zj (.iload 3) 1069 3 0 0, zi (.aconst_null) 1070 0 0 0 (.int 2)]
noncomputable def cdU_10_6 : zK := cdS_10_6 ++ cdU_10_7
noncomputable def cdS_10_5 : zK := [zj (.iadd) 1051 0 0 0, zj (.saload) 1052 0 0 0, zj (.aload 0) 1053 0 0 0, zj (.iload 3) 1054 3 0 0, zi (.aconst_null) 1055 0 0 0 (.int 2), zj (.iadd) 1056 0 0 0, zj (.saload) 1057 0 0 0, zj (.invokevirtual 0) 1060 130 2 11, none, none]
noncomputable def cdU_10_5 : zK := cdS_10_5 ++ cdU_10_6
noncomputable def cdS_10_4 : zK := [none, none, zj (.pop) 1043 0 0 0, zj (.goto 0) 1046 2138 0 0, none, none, zj (.aload 1) 1047 1 0 0, zj (.aload 0) 1048 0 0 0, zj (.iload 3) 1049 3 0 0, zi (.aconst_null) 1050 0 0 0 (.int 1)]
noncomputable def cdU_10_4 : zK := cdS_10_4 ++ cdU_10_5
noncomputable def cdS_10_3 : zK := [zj (.saload) 1031 0 0 0, zj (.ifCond .eq 0) 1034 1038 0 0, none, none, zi (.aconst_null) 1035 0 0 0 (.int 1), zj (.goto 0) 1038 1039 0 0, none, none, zi (.aconst_null) 1039 0 0 0 (.int 0), zj (.invokevirtual 0) 1042 238 4 12]
noncomputable def cdU_10_3 : zK := cdS_10_3 ++ cdU_10_4
noncomputable def cdS_10_2 : zK := [zj (.saload) 1021 0 0 0, zj (.aload 0) 1022 0 0 0, zj (.iload 3) 1023 3 0 0, zi (.aconst_null) 1024 0 0 0 (.int 3), zj (.iadd) 1025 0 0 0, zj (.saload) 1026 0 0 0, zj (.aload 0) 1027 0 0 0, zj (.iload 3) 1028 3 0 0, zi (.aconst_null) 1029 0 0 0 (.int 4), zj (.iadd) 1030 0 0 0]
noncomputable def cdU_10_2 : zK := cdS_10_2 ++ cdU_10_3
noncomputable def cdS_10_1 : zK := [zj (.aload 2) 1011 2 0 0, zj (.aload 0) 1012 0 0 0, zj (.iload 3) 1013 3 0 0, zi (.aconst_null) 1014 0 0 0 (.int 1), zj (.iadd) 1015 0 0 0, zj (.saload) 1016 0 0 0, zj (.aload 0) 1017 0 0 0, zj (.iload 3) 1018 3 0 0, zi (.aconst_null) 1019 0 0 0 (.int 2), zj (.iadd) 1020 0 0 0]
noncomputable def cdU_10_1 : zK := cdS_10_1 ++ cdU_10_2
noncomputable def cdS_10_0 : zK := [none, zi (.aconst_null) 1002 0 0 0 (.int 1), zj (.goto 0) 1005 1006 0 0, none, none, zi (.aconst_null) 1006 0 0 0 (.int 0), zj (.invokevirtual 0) 1009 129 4 11, none, none, zj (.pop) 1010 0 0 0]
noncomputable def cdU_10_0 : zK := cdS_10_0 ++ cdU_10_1
theorem luk_10_0 (k : Nat) : cd_L[1000 + k]? = cdU_10_0[k]? := lkT_10 k
theorem luk_10_1 (k : Nat) : cd_L[1010 + k]? = cdU_10_1[k]? := by
  rw [show 1010 + k = 1000 + (10 + k) by omega, luk_10_0]
  exact zapp_hi 10 rfl
theorem luk_10_2 (k : Nat) : cd_L[1020 + k]? = cdU_10_2[k]? := by
  rw [show 1020 + k = 1010 + (10 + k) by omega, luk_10_1]
  exact zapp_hi 10 rfl
theorem luk_10_3 (k : Nat) : cd_L[1030 + k]? = cdU_10_3[k]? := by
  rw [show 1030 + k = 1020 + (10 + k) by omega, luk_10_2]
  exact zapp_hi 10 rfl
theorem luk_10_4 (k : Nat) : cd_L[1040 + k]? = cdU_10_4[k]? := by
  rw [show 1040 + k = 1030 + (10 + k) by omega, luk_10_3]
  exact zapp_hi 10 rfl
theorem luk_10_5 (k : Nat) : cd_L[1050 + k]? = cdU_10_5[k]? := by
  rw [show 1050 + k = 1040 + (10 + k) by omega, luk_10_4]
  exact zapp_hi 10 rfl
theorem luk_10_6 (k : Nat) : cd_L[1060 + k]? = cdU_10_6[k]? := by
  rw [show 1060 + k = 1050 + (10 + k) by omega, luk_10_5]
  exact zapp_hi 10 rfl
theorem luk_10_7 (k : Nat) : cd_L[1070 + k]? = cdU_10_7[k]? := by
  rw [show 1070 + k = 1060 + (10 + k) by omega, luk_10_6]
  exact zapp_hi 10 rfl
theorem luk_10_8 (k : Nat) : cd_L[1080 + k]? = cdU_10_8[k]? := by
  rw [show 1080 + k = 1070 + (10 + k) by omega, luk_10_7]
  exact zapp_hi 10 rfl
theorem luk_10_9 (k : Nat) : cd_L[1090 + k]? = cdU_10_9[k]? := by
  rw [show 1090 + k = 1080 + (10 + k) by omega, luk_10_8]
  exact zapp_hi 10 rfl
noncomputable def cdU_11_10 : zK := cdT_12
noncomputable def cdS_11_9 : zK := [zj (.saload) 1191 0 0 0, zj (.aload 0) 1192 0 0 0, zj (.iload 3) 1193 3 0 0, zi (.aconst_null) 1194 0 0 0 (.int 2), zj (.iadd) 1195 0 0 0, zj (.saload) 1196 0 0 0, zj (.aload 0) 1197 0 0 0, zj (.iload 3) 1198 3 0 0, zi (.aconst_null) 1199 0 0 0 (.int 3), zj (.iadd) 1200 0 0 0]
noncomputable def cdU_11_9 : zK := cdS_11_9 ++ cdU_11_10
noncomputable def cdS_11_8 : zK := [none, zj (.pop) 1182 0 0 0, zj (.goto 0) 1185 2138 0 0, none, none, zj (.aload 1) 1186 1 0 0, zj (.aload 0) 1187 0 0 0, zj (.iload 3) 1188 3 0 0, zi (.aconst_null) 1189 0 0 0 (.int 1), zj (.iadd) 1190 0 0 0]
noncomputable def cdU_11_8 : zK := cdS_11_8 ++ cdU_11_9
noncomputable def cdS_11_7 : zK := [zi (.aconst_null) 1171 0 0 0 (.int 2), zj (.iadd) 1172 0 0 0, zj (.saload) 1173 0 0 0, zj (.aload 0) 1174 0 0 0, zj (.iload 3) 1175 3 0 0, zi (.aconst_null) 1176 0 0 0 (.int 3), zj (.iadd) 1177 0 0 0, zj (.saload) 1178 0 0 0, zj (.invokevirtual 0) 1181 243 3 12, none]
noncomputable def cdU_11_7 : zK := cdS_11_7 ++ cdU_11_8
noncomputable def cdS_11_6 : zK := [none, zj (.pop) 1162 0 0 0, zj (.aload 2) 1163 2 0 0, zj (.aload 0) 1164 0 0 0, zj (.iload 3) 1165 3 0 0, zi (.aconst_null) 1166 0 0 0 (.int 1), zj (.iadd) 1167 0 0 0, zj (.saload) 1168 0 0 0, zj (.aload 0) 1169 0 0 0, zj (.iload 3) 1170 3 0 0]
noncomputable def cdU_11_6 : zK := cdS_11_6 ++ cdU_11_7
noncomputable def cdS_11_5 : zK := [zi (.aconst_null) 1151 0 0 0 (.int 2), zj (.iadd) 1152 0 0 0, zj (.saload) 1153 0 0 0, zj (.aload 0) 1154 0 0 0, zj (.iload 3) 1155 3 0 0, zi (.aconst_null) 1156 0 0 0 (.int 3), zj (.iadd) 1157 0 0 0, zj (.saload) 1158 0 0 0, zj (.invokevirtual 0) 1161 132 3 11, none]
noncomputable def cdU_11_5 : zK := cdS_11_5 ++ cdU_11_6
noncomputable def cdS_11_4 : zK := [none, none, zj (.aload 1) 1143 1 0 0, zj (.aload 0) 1144 0 0 0, zj (.iload 3) 1145 3 0 0, zi (.aconst_null) 1146 0 0 0 (.int 1), zj (.iadd) 1147 0 0 0, zj (.saload) 1148 0 0 0, zj (.aload 0) 1149 0 0 0, zj (.iload 3) 1150 3 0 0]
noncomputable def cdU_11_4 : zK := cdS_11_4 ++ cdU_11_5
noncomputable def cdS_11_3 : zK := [zj (.aload 0) 1131 0 0 0, zj (.iload 3) 1132 3 0 0, zi (.aconst_null) 1133 0 0 0 (.int 5), zj (.iadd) 1134 0 0 0, zj (.saload) 1135 0 0 0, zj (.invokevirtual 0) 1138 241 5 12, none, none, zj (.pop) 1139 0 0 0, zj (.goto 0) 1142 2138 0 0]
noncomputable def cdU_11_3 : zK := cdS_11_3 ++ cdU_11_4
noncomputable def cdS_11_2 : zK := [zj (.aload 0) 1121 0 0 0, zj (.iload 3) 1122 3 0 0, zi (.aconst_null) 1123 0 0 0 (.int 3), zj (.iadd) 1124 0 0 0, zj (.saload) 1125 0 0 0, zj (.aload 0) 1126 0 0 0, zj (.iload 3) 1127 3 0 0, zi (.aconst_null) 1128 0 0 0 (.int 4), zj (.iadd) 1129 0 0 0, zj (.saload) 1130 0 0 0]
noncomputable def cdU_11_2 : zK := cdS_11_2 ++ cdU_11_3
noncomputable def cdS_11_1 : zK := [zj (.aload 0) 1111 0 0 0, zj (.iload 3) 1112 3 0 0, zi (.aconst_null) 1113 0 0 0 (.int 1), zj (.iadd) 1114 0 0 0, zj (.saload) 1115 0 0 0, zj (.aload 0) 1116 0 0 0, zj (.iload 3) 1117 3 0 0, zi (.aconst_null) 1118 0 0 0 (.int 2), zj (.iadd) 1119 0 0 0, zj (.saload) 1120 0 0 0]
noncomputable def cdU_11_1 : zK := cdS_11_1 ++ cdU_11_2
noncomputable def cdS_11_0 : zK := [zj (.aload 0) 1101 0 0 0, zj (.iload 3) 1102 3 0 0, zi (.aconst_null) 1103 0 0 0 (.int 5), zj (.iadd) 1104 0 0 0, zj (.saload) 1105 0 0 0, zj (.invokevirtual 0) 1108 131 5 11, none, none, zj (.pop) 1109 0 0 0, zj (.aload 2) 1110 2 0 0]
noncomputable def cdU_11_0 : zK := cdS_11_0 ++ cdU_11_1
theorem luk_11_0 (k : Nat) : cd_L[1100 + k]? = cdU_11_0[k]? := lkT_11 k
theorem luk_11_1 (k : Nat) : cd_L[1110 + k]? = cdU_11_1[k]? := by
  rw [show 1110 + k = 1100 + (10 + k) by omega, luk_11_0]
  exact zapp_hi 10 rfl
theorem luk_11_2 (k : Nat) : cd_L[1120 + k]? = cdU_11_2[k]? := by
  rw [show 1120 + k = 1110 + (10 + k) by omega, luk_11_1]
  exact zapp_hi 10 rfl
theorem luk_11_3 (k : Nat) : cd_L[1130 + k]? = cdU_11_3[k]? := by
  rw [show 1130 + k = 1120 + (10 + k) by omega, luk_11_2]
  exact zapp_hi 10 rfl
theorem luk_11_4 (k : Nat) : cd_L[1140 + k]? = cdU_11_4[k]? := by
  rw [show 1140 + k = 1130 + (10 + k) by omega, luk_11_3]
  exact zapp_hi 10 rfl
theorem luk_11_5 (k : Nat) : cd_L[1150 + k]? = cdU_11_5[k]? := by
  rw [show 1150 + k = 1140 + (10 + k) by omega, luk_11_4]
  exact zapp_hi 10 rfl
theorem luk_11_6 (k : Nat) : cd_L[1160 + k]? = cdU_11_6[k]? := by
  rw [show 1160 + k = 1150 + (10 + k) by omega, luk_11_5]
  exact zapp_hi 10 rfl
theorem luk_11_7 (k : Nat) : cd_L[1170 + k]? = cdU_11_7[k]? := by
  rw [show 1170 + k = 1160 + (10 + k) by omega, luk_11_6]
  exact zapp_hi 10 rfl
theorem luk_11_8 (k : Nat) : cd_L[1180 + k]? = cdU_11_8[k]? := by
  rw [show 1180 + k = 1170 + (10 + k) by omega, luk_11_7]
  exact zapp_hi 10 rfl
theorem luk_11_9 (k : Nat) : cd_L[1190 + k]? = cdU_11_9[k]? := by
  rw [show 1190 + k = 1180 + (10 + k) by omega, luk_11_8]
  exact zapp_hi 10 rfl
noncomputable def cdU_12_10 : zK := cdT_13
noncomputable def cdS_12_9 : zK := [none, none, zi (.aconst_null) 1293 0 0 0 (.int 1), zj (.goto 0) 1296 1297 0 0, none, none, zi (.aconst_null) 1297 0 0 0 (.int 0), zj (.invokevirtual 0) 1300 244 7 12, none, none]
noncomputable def cdU_12_9 : zK := cdS_12_9 ++ cdU_12_10
noncomputable def cdS_12_8 : zK := [none, none, zi (.aconst_null) 1283 0 0 0 (.int 0), zj (.aload 0) 1284 0 0 0, zj (.iload 3) 1285 3 0 0, zi (.aconst_null) 1287 0 0 0 (.int 7), none, zj (.iadd) 1288 0 0 0, zj (.saload) 1289 0 0 0, zj (.ifCond .eq 0) 1292 1296 0 0]
noncomputable def cdU_12_8 : zK := cdS_12_8 ++ cdU_12_9
noncomputable def cdS_12_7 : zK := [zj (.iload 3) 1271 3 0 0, zi (.aconst_null) 1273 0 0 0 (.int 6), none, zj (.iadd) 1274 0 0 0, zj (.saload) 1275 0 0 0, zj (.ifCond .eq 0) 1278 1282 0 0, none, none, zi (.aconst_null) 1279 0 0 0 (.int 1), zj (.goto 0) 1282 1283 0 0]
noncomputable def cdU_12_7 : zK := cdS_12_7 ++ cdU_12_8
noncomputable def cdS_12_6 : zK := [zj (.iload 3) 1261 3 0 0, zi (.aconst_null) 1262 0 0 0 (.int 4), zj (.iadd) 1263 0 0 0, zj (.saload) 1264 0 0 0, zj (.aload 0) 1265 0 0 0, zj (.iload 3) 1266 3 0 0, zi (.aconst_null) 1267 0 0 0 (.int 5), zj (.iadd) 1268 0 0 0, zj (.saload) 1269 0 0 0, zj (.aload 0) 1270 0 0 0]
noncomputable def cdU_12_6 : zK := cdS_12_6 ++ cdU_12_7
noncomputable def cdS_12_5 : zK := [zj (.iload 3) 1251 3 0 0, zi (.aconst_null) 1252 0 0 0 (.int 2), zj (.iadd) 1253 0 0 0, zj (.saload) 1254 0 0 0, zj (.aload 0) 1255 0 0 0, zj (.iload 3) 1256 3 0 0, zi (.aconst_null) 1257 0 0 0 (.int 3), zj (.iadd) 1258 0 0 0, zj (.saload) 1259 0 0 0, zj (.aload 0) 1260 0 0 0]
noncomputable def cdU_12_5 : zK := cdS_12_5 ++ cdU_12_6
noncomputable def cdS_12_4 : zK := [none, none, zj (.pop) 1243 0 0 0, zj (.aload 2) 1244 2 0 0, zj (.aload 0) 1245 0 0 0, zj (.iload 3) 1246 3 0 0, zi (.aconst_null) 1247 0 0 0 (.int 1), zj (.iadd) 1248 0 0 0, zj (.saload) 1249 0 0 0, zj (.aload 0) 1250 0 0 0]
noncomputable def cdU_12_4 : zK := cdS_12_4 ++ cdU_12_5
noncomputable def cdS_12_3 : zK := [zj (.saload) 1231 0 0 0, zj (.ifCond .eq 0) 1234 1238 0 0, none, none, zi (.aconst_null) 1235 0 0 0 (.int 1), zj (.goto 0) 1238 1239 0 0, none, none, zi (.aconst_null) 1239 0 0 0 (.int 0), zj (.invokevirtual 0) 1242 133 7 11]
noncomputable def cdU_12_3 : zK := cdS_12_3 ++ cdU_12_4
noncomputable def cdS_12_2 : zK := [zi (.aconst_null) 1221 0 0 0 (.int 1), zj (.goto 0) 1224 1225 0 0, none, none, zi (.aconst_null) 1225 0 0 0 (.int 0), zj (.aload 0) 1226 0 0 0, zj (.iload 3) 1227 3 0 0, zi (.aconst_null) 1229 0 0 0 (.int 7), none, zj (.iadd) 1230 0 0 0]
noncomputable def cdU_12_2 : zK := cdS_12_2 ++ cdU_12_3
noncomputable def cdS_12_1 : zK := [zj (.saload) 1211 0 0 0, zj (.aload 0) 1212 0 0 0, zj (.iload 3) 1213 3 0 0, zi (.aconst_null) 1215 0 0 0 (.int 6), none, zj (.iadd) 1216 0 0 0, zj (.saload) 1217 0 0 0, zj (.ifCond .eq 0) 1220 1224 0 0, none, none]
noncomputable def cdU_12_1 : zK := cdS_12_1 ++ cdU_12_2
noncomputable def cdS_12_0 : zK := [zj (.saload) 1201 0 0 0, zj (.aload 0) 1202 0 0 0, zj (.iload 3) 1203 3 0 0, zi (.aconst_null) 1204 0 0 0 (.int 4), zj (.iadd) 1205 0 0 0, zj (.saload) 1206 0 0 0, zj (.aload 0) 1207 0 0 0, zj (.iload 3) 1208 3 0 0, zi (.aconst_null) 1209 0 0 0 (.int 5), zj (.iadd) 1210 0 0 0]
noncomputable def cdU_12_0 : zK := cdS_12_0 ++ cdU_12_1
theorem luk_12_0 (k : Nat) : cd_L[1200 + k]? = cdU_12_0[k]? := lkT_12 k
theorem luk_12_1 (k : Nat) : cd_L[1210 + k]? = cdU_12_1[k]? := by
  rw [show 1210 + k = 1200 + (10 + k) by omega, luk_12_0]
  exact zapp_hi 10 rfl
theorem luk_12_2 (k : Nat) : cd_L[1220 + k]? = cdU_12_2[k]? := by
  rw [show 1220 + k = 1210 + (10 + k) by omega, luk_12_1]
  exact zapp_hi 10 rfl
theorem luk_12_3 (k : Nat) : cd_L[1230 + k]? = cdU_12_3[k]? := by
  rw [show 1230 + k = 1220 + (10 + k) by omega, luk_12_2]
  exact zapp_hi 10 rfl
theorem luk_12_4 (k : Nat) : cd_L[1240 + k]? = cdU_12_4[k]? := by
  rw [show 1240 + k = 1230 + (10 + k) by omega, luk_12_3]
  exact zapp_hi 10 rfl
theorem luk_12_5 (k : Nat) : cd_L[1250 + k]? = cdU_12_5[k]? := by
  rw [show 1250 + k = 1240 + (10 + k) by omega, luk_12_4]
  exact zapp_hi 10 rfl
theorem luk_12_6 (k : Nat) : cd_L[1260 + k]? = cdU_12_6[k]? := by
  rw [show 1260 + k = 1250 + (10 + k) by omega, luk_12_5]
  exact zapp_hi 10 rfl
theorem luk_12_7 (k : Nat) : cd_L[1270 + k]? = cdU_12_7[k]? := by
  rw [show 1270 + k = 1260 + (10 + k) by omega, luk_12_6]
  exact zapp_hi 10 rfl
theorem luk_12_8 (k : Nat) : cd_L[1280 + k]? = cdU_12_8[k]? := by
  rw [show 1280 + k = 1270 + (10 + k) by omega, luk_12_7]
  exact zapp_hi 10 rfl
theorem luk_12_9 (k : Nat) : cd_L[1290 + k]? = cdU_12_9[k]? := by
  rw [show 1290 + k = 1280 + (10 + k) by omega, luk_12_8]
  exact zapp_hi 10 rfl
noncomputable def cdU_13_10 : zK := cdT_14
noncomputable def cdS_13_9 : zK := [zj (.goto 0) 1393 2138 0 0, none, none, zj (.aload 1) 1394 1 0 0, zj (.aload 0) 1395 0 0 0, zj (.iload 3) 1396 3 0 0, zi (.aconst_null) 1397 0 0 0 (.int 1), zj (.iadd) 1398 0 0 0, zj (.saload) 1399 0 0 0, zj (.aload 0) 1400 0 0 0]
noncomputable def cdU_13_9 : zK := cdS_13_9 ++ cdU_13_10
noncomputable def cdS_13_8 : zK := [zj (.aload 2) 1381 2 0 0, zj (.aload 0) 1382 0 0 0, zj (.iload 3) 1383 3 0 0, zi (.aconst_null) 1384 0 0 0 (.int 1), zj (.iadd) 1385 0 0 0, zj (.saload) 1386 0 0 0, zj (.invokevirtual 0) 1389 248 1 12, none, none, zj (.pop) 1390 0 0 0]
noncomputable def cdU_13_8 : zK := cdS_13_8 ++ cdU_13_9
noncomputable def cdS_13_7 : zK := [zj (.aload 1) 1371 1 0 0, zj (.aload 0) 1372 0 0 0, zj (.iload 3) 1373 3 0 0, zi (.aconst_null) 1374 0 0 0 (.int 1), zj (.iadd) 1375 0 0 0, zj (.saload) 1376 0 0 0, zj (.invokevirtual 0) 1379 136 1 11, none, none, zj (.pop) 1380 0 0 0]
noncomputable def cdU_13_7 : zK := cdS_13_7 ++ cdU_13_8
noncomputable def cdS_13_6 : zK := [zi (.aconst_null) 1361 0 0 0 (.int 3), zj (.iadd) 1362 0 0 0, zj (.saload) 1363 0 0 0, zj (.invokevirtual 0) 1366 247 3 12, none, none, zj (.drem) 1367 0 0 0, zj (.goto 0) 1370 2138 0 0, none, none]
noncomputable def cdU_13_6 : zK := cdS_13_6 ++ cdU_13_7
noncomputable def cdS_13_5 : zK := [zi (.aconst_null) 1351 0 0 0 (.int 1), zj (.iadd) 1352 0 0 0, zj (.saload) 1353 0 0 0, zj (.aload 0) 1354 0 0 0, zj (.iload 3) 1355 3 0 0, zi (.aconst_null) 1356 0 0 0 (.int 2), zj (.iadd) 1357 0 0 0, zj (.saload) 1358 0 0 0, zj (.aload 0) 1359 0 0 0, zj (.iload 3) 1360 3 0 0]
noncomputable def cdU_13_5 : zK := cdS_13_5 ++ cdU_13_6
noncomputable def cdS_13_4 : zK := [zi (.aconst_null) 1341 0 0 0 (.int 3), zj (.iadd) 1342 0 0 0, zj (.saload) 1343 0 0 0, zj (.invokevirtual 0) 1346 135 3 11, none, none, zj (.drem) 1347 0 0 0, zj (.aload 2) 1348 2 0 0, zj (.aload 0) 1349 0 0 0, zj (.iload 3) 1350 3 0 0]
noncomputable def cdU_13_4 : zK := cdS_13_4 ++ cdU_13_5
noncomputable def cdS_13_3 : zK := [zi (.aconst_null) 1331 0 0 0 (.int 1), zj (.iadd) 1332 0 0 0, zj (.saload) 1333 0 0 0, zj (.aload 0) 1334 0 0 0, zj (.iload 3) 1335 3 0 0, zi (.aconst_null) 1336 0 0 0 (.int 2), zj (.iadd) 1337 0 0 0, zj (.saload) 1338 0 0 0, zj (.aload 0) 1339 0 0 0, zj (.iload 3) 1340 3 0 0]
noncomputable def cdU_13_3 : zK := cdS_13_3 ++ cdU_13_4
noncomputable def cdS_13_2 : zK := [zj (.invokevirtual 0) 1323 245 1 12, none, none, zj (.pop) 1324 0 0 0, zj (.goto 0) 1327 2138 0 0, none, none, zj (.aload 1) 1328 1 0 0, zj (.aload 0) 1329 0 0 0, zj (.iload 3) 1330 3 0 0]
noncomputable def cdU_13_2 : zK := cdS_13_2 ++ cdU_13_3
noncomputable def cdS_13_1 : zK := [zj (.invokevirtual 0) 1313 134 1 11, none, none, zj (.pop) 1314 0 0 0, zj (.aload 2) 1315 2 0 0, zj (.aload 0) 1316 0 0 0, zj (.iload 3) 1317 3 0 0, zi (.aconst_null) 1318 0 0 0 (.int 1), zj (.iadd) 1319 0 0 0, zj (.saload) 1320 0 0 0]
noncomputable def cdU_13_1 : zK := cdS_13_1 ++ cdU_13_2
noncomputable def cdS_13_0 : zK := [zj (.pop) 1301 0 0 0, zj (.goto 0) 1304 2138 0 0, none, none, zj (.aload 1) 1305 1 0 0, zj (.aload 0) 1306 0 0 0, zj (.iload 3) 1307 3 0 0, zi (.aconst_null) 1308 0 0 0 (.int 1), zj (.iadd) 1309 0 0 0, zj (.saload) 1310 0 0 0]
noncomputable def cdU_13_0 : zK := cdS_13_0 ++ cdU_13_1
theorem luk_13_0 (k : Nat) : cd_L[1300 + k]? = cdU_13_0[k]? := lkT_13 k
theorem luk_13_1 (k : Nat) : cd_L[1310 + k]? = cdU_13_1[k]? := by
  rw [show 1310 + k = 1300 + (10 + k) by omega, luk_13_0]
  exact zapp_hi 10 rfl
theorem luk_13_2 (k : Nat) : cd_L[1320 + k]? = cdU_13_2[k]? := by
  rw [show 1320 + k = 1310 + (10 + k) by omega, luk_13_1]
  exact zapp_hi 10 rfl
theorem luk_13_3 (k : Nat) : cd_L[1330 + k]? = cdU_13_3[k]? := by
  rw [show 1330 + k = 1320 + (10 + k) by omega, luk_13_2]
  exact zapp_hi 10 rfl
theorem luk_13_4 (k : Nat) : cd_L[1340 + k]? = cdU_13_4[k]? := by
  rw [show 1340 + k = 1330 + (10 + k) by omega, luk_13_3]
  exact zapp_hi 10 rfl
theorem luk_13_5 (k : Nat) : cd_L[1350 + k]? = cdU_13_5[k]? := by
  rw [show 1350 + k = 1340 + (10 + k) by omega, luk_13_4]
  exact zapp_hi 10 rfl
theorem luk_13_6 (k : Nat) : cd_L[1360 + k]? = cdU_13_6[k]? := by
  rw [show 1360 + k = 1350 + (10 + k) by omega, luk_13_5]
  exact zapp_hi 10 rfl
theorem luk_13_7 (k : Nat) : cd_L[1370 + k]? = cdU_13_7[k]? := by
  rw [show 1370 + k = 1360 + (10 + k) by omega, luk_13_6]
  exact zapp_hi 10 rfl
theorem luk_13_8 (k : Nat) : cd_L[1380 + k]? = cdU_13_8[k]? := by
  rw [show 1380 + k = 1370 + (10 + k) by omega, luk_13_7]
  exact zapp_hi 10 rfl
theorem luk_13_9 (k : Nat) : cd_L[1390 + k]? = cdU_13_9[k]? := by
  rw [show 1390 + k = 1380 + (10 + k) by omega, luk_13_8]
  exact zapp_hi 10 rfl
noncomputable def cdU_14_10 : zK := cdT_15
noncomputable def cdS_14_9 : zK := [zj (.saload) 1491 0 0 0, zj (.aload 0) 1492 0 0 0, zj (.iload 3) 1493 3 0 0, zi (.aconst_null) 1494 0 0 0 (.int 2), zj (.iadd) 1495 0 0 0, zj (.saload) 1496 0 0 0, zj (.aload 0) 1497 0 0 0, zj (.iload 3) 1498 3 0 0, zi (.aconst_null) 1499 0 0 0 (.int 3), zj (.iadd) 1500 0 0 0]
noncomputable def cdU_14_9 : zK := cdS_14_9 ++ cdU_14_10
noncomputable def cdS_14_8 : zK := [none, zj (.drem) 1482 0 0 0, zj (.goto 0) 1485 2138 0 0, none, none, zj (.aload 1) 1486 1 0 0, zj (.aload 0) 1487 0 0 0, zj (.iload 3) 1488 3 0 0, zi (.aconst_null) 1489 0 0 0 (.int 1), zj (.iadd) 1490 0 0 0]
noncomputable def cdU_14_8 : zK := cdS_14_8 ++ cdU_14_9
noncomputable def cdS_14_7 : zK := [none, zj (.drem) 1472 0 0 0, zj (.aload 2) 1473 2 0 0, zj (.aload 0) 1474 0 0 0, zj (.iload 3) 1475 3 0 0, zi (.aconst_null) 1476 0 0 0 (.int 1), zj (.iadd) 1477 0 0 0, zj (.saload) 1478 0 0 0, zj (.invokevirtual 0) 1481 252 1 12, none]
noncomputable def cdU_14_7 : zK := cdS_14_7 ++ cdU_14_8
noncomputable def cdS_14_6 : zK := [none, none, zj (.aload 1) 1463 1 0 0, zj (.aload 0) 1464 0 0 0, zj (.iload 3) 1465 3 0 0, zi (.aconst_null) 1466 0 0 0 (.int 1), zj (.iadd) 1467 0 0 0, zj (.saload) 1468 0 0 0, zj (.invokevirtual 0) 1471 138 1 11, none]
noncomputable def cdU_14_6 : zK := cdS_14_6 ++ cdU_14_7
noncomputable def cdS_14_5 : zK := [zj (.aload 0) 1451 0 0 0, zj (.iload 3) 1452 3 0 0, zi (.aconst_null) 1453 0 0 0 (.int 4), zj (.iadd) 1454 0 0 0, zj (.saload) 1455 0 0 0, zj (.invokevirtual 0) 1458 250 4 12, none, none, zj (.pop) 1459 0 0 0, zj (.goto 0) 1462 2138 0 0]
noncomputable def cdU_14_5 : zK := cdS_14_5 ++ cdU_14_6
noncomputable def cdS_14_4 : zK := [zi (.aconst_null) 1441 0 0 0 (.int 1), zj (.goto 0) 1444 1445 0 0, none, none, zi (.aconst_null) 1445 0 0 0 (.int 0), zj (.aload 0) 1446 0 0 0, zj (.iload 3) 1447 3 0 0, zi (.aconst_null) 1448 0 0 0 (.int 3), zj (.iadd) 1449 0 0 0, zj (.saload) 1450 0 0 0]
noncomputable def cdU_14_4 : zK := cdS_14_4 ++ cdU_14_5
noncomputable def cdS_14_3 : zK := [zj (.iadd) 1431 0 0 0, zj (.saload) 1432 0 0 0, zj (.aload 0) 1433 0 0 0, zj (.iload 3) 1434 3 0 0, zi (.aconst_null) 1435 0 0 0 (.int 2), zj (.iadd) 1436 0 0 0, zj (.saload) 1437 0 0 0, zj (.ifCond .eq 0) 1440 1444 0 0, none, none]
noncomputable def cdU_14_3 : zK := cdS_14_3 ++ cdU_14_4
noncomputable def cdS_14_2 : zK := [zj (.iadd) 1421 0 0 0, zj (.saload) 1422 0 0 0, zj (.invokevirtual 0) 1425 137 4 11, none, none, zj (.pop) 1426 0 0 0, zj (.aload 2) 1427 2 0 0, zj (.aload 0) 1428 0 0 0, zj (.iload 3) 1429 3 0 0, zi (.aconst_null) 1430 0 0 0 (.int 1)]
noncomputable def cdU_14_2 : zK := cdS_14_2 ++ cdU_14_3
noncomputable def cdS_14_1 : zK := [none, zi (.aconst_null) 1412 0 0 0 (.int 0), zj (.aload 0) 1413 0 0 0, zj (.iload 3) 1414 3 0 0, zi (.aconst_null) 1415 0 0 0 (.int 3), zj (.iadd) 1416 0 0 0, zj (.saload) 1417 0 0 0, zj (.aload 0) 1418 0 0 0, zj (.iload 3) 1419 3 0 0, zi (.aconst_null) 1420 0 0 0 (.int 4)]
noncomputable def cdU_14_1 : zK := cdS_14_1 ++ cdU_14_2
noncomputable def cdS_14_0 : zK := [zj (.iload 3) 1401 3 0 0, zi (.aconst_null) 1402 0 0 0 (.int 2), zj (.iadd) 1403 0 0 0, zj (.saload) 1404 0 0 0, zj (.ifCond .eq 0) 1407 1411 0 0, none, none, zi (.aconst_null) 1408 0 0 0 (.int 1), zj (.goto 0) 1411 1412 0 0, none]
noncomputable def cdU_14_0 : zK := cdS_14_0 ++ cdU_14_1
theorem luk_14_0 (k : Nat) : cd_L[1400 + k]? = cdU_14_0[k]? := lkT_14 k
theorem luk_14_1 (k : Nat) : cd_L[1410 + k]? = cdU_14_1[k]? := by
  rw [show 1410 + k = 1400 + (10 + k) by omega, luk_14_0]
  exact zapp_hi 10 rfl
theorem luk_14_2 (k : Nat) : cd_L[1420 + k]? = cdU_14_2[k]? := by
  rw [show 1420 + k = 1410 + (10 + k) by omega, luk_14_1]
  exact zapp_hi 10 rfl
theorem luk_14_3 (k : Nat) : cd_L[1430 + k]? = cdU_14_3[k]? := by
  rw [show 1430 + k = 1420 + (10 + k) by omega, luk_14_2]
  exact zapp_hi 10 rfl
theorem luk_14_4 (k : Nat) : cd_L[1440 + k]? = cdU_14_4[k]? := by
  rw [show 1440 + k = 1430 + (10 + k) by omega, luk_14_3]
  exact zapp_hi 10 rfl
theorem luk_14_5 (k : Nat) : cd_L[1450 + k]? = cdU_14_5[k]? := by
  rw [show 1450 + k = 1440 + (10 + k) by omega, luk_14_4]
  exact zapp_hi 10 rfl
theorem luk_14_6 (k : Nat) : cd_L[1460 + k]? = cdU_14_6[k]? := by
  rw [show 1460 + k = 1450 + (10 + k) by omega, luk_14_5]
  exact zapp_hi 10 rfl
theorem luk_14_7 (k : Nat) : cd_L[1470 + k]? = cdU_14_7[k]? := by
  rw [show 1470 + k = 1460 + (10 + k) by omega, luk_14_6]
  exact zapp_hi 10 rfl
theorem luk_14_8 (k : Nat) : cd_L[1480 + k]? = cdU_14_8[k]? := by
  rw [show 1480 + k = 1470 + (10 + k) by omega, luk_14_7]
  exact zapp_hi 10 rfl
theorem luk_14_9 (k : Nat) : cd_L[1490 + k]? = cdU_14_9[k]? := by
  rw [show 1490 + k = 1480 + (10 + k) by omega, luk_14_8]
  exact zapp_hi 10 rfl
noncomputable def cdU_15_10 : zK := cdT_16
noncomputable def cdS_15_9 : zK := [zj (.iadd) 1591 0 0 0, zj (.saload) 1592 0 0 0, zj (.invokevirtual 0) 1595 141 4 11, none, none, zj (.pop) 1596 0 0 0, zj (.aload 2) 1597 2 0 0, zj (.aload 0) 1598 0 0 0, zj (.iload 3) 1599 3 0 0, zi (.aconst_null) 1600 0 0 0 (.int 1)]
noncomputable def cdU_15_9 : zK := cdS_15_9 ++ cdU_15_10
noncomputable def cdS_15_8 : zK := [zj (.iadd) 1581 0 0 0, zj (.saload) 1582 0 0 0, zj (.aload 0) 1583 0 0 0, zj (.iload 3) 1584 3 0 0, zi (.aconst_null) 1585 0 0 0 (.int 3), zj (.iadd) 1586 0 0 0, zj (.saload) 1587 0 0 0, zj (.aload 0) 1588 0 0 0, zj (.iload 3) 1589 3 0 0, zi (.aconst_null) 1590 0 0 0 (.int 4)]
noncomputable def cdU_15_8 : zK := cdS_15_8 ++ cdU_15_9
noncomputable def cdS_15_7 : zK := [none, zj (.aload 1) 1572 1 0 0, zj (.aload 0) 1573 0 0 0, zj (.iload 3) 1574 3 0 0, zi (.aconst_null) 1575 0 0 0 (.int 1), zj (.iadd) 1576 0 0 0, zj (.saload) 1577 0 0 0, zj (.aload 0) 1578 0 0 0, zj (.iload 3) 1579 3 0 0, zi (.aconst_null) 1580 0 0 0 (.int 2)]
noncomputable def cdU_15_7 : zK := cdS_15_7 ++ cdU_15_8
noncomputable def cdS_15_6 : zK := [zj (.iload 3) 1561 3 0 0, zi (.aconst_null) 1562 0 0 0 (.int 3), zj (.iadd) 1563 0 0 0, zj (.saload) 1564 0 0 0, zj (.invokevirtual 0) 1567 256 3 12, none, none, zj (.drem) 1568 0 0 0, zj (.goto 0) 1571 2138 0 0, none]
noncomputable def cdU_15_6 : zK := cdS_15_6 ++ cdU_15_7
noncomputable def cdS_15_5 : zK := [zj (.iload 3) 1551 3 0 0, zi (.aconst_null) 1552 0 0 0 (.int 1), zj (.iadd) 1553 0 0 0, zj (.saload) 1554 0 0 0, zj (.aload 0) 1555 0 0 0, zj (.iload 3) 1556 3 0 0, zi (.aconst_null) 1557 0 0 0 (.int 2), zj (.iadd) 1558 0 0 0, zj (.saload) 1559 0 0 0, zj (.aload 0) 1560 0 0 0]
noncomputable def cdU_15_5 : zK := cdS_15_5 ++ cdU_15_6
noncomputable def cdS_15_4 : zK := [zj (.iload 3) 1541 3 0 0, zi (.aconst_null) 1542 0 0 0 (.int 3), zj (.iadd) 1543 0 0 0, zj (.saload) 1544 0 0 0, zj (.invokevirtual 0) 1547 140 3 11, none, none, zj (.drem) 1548 0 0 0, zj (.aload 2) 1549 2 0 0, zj (.aload 0) 1550 0 0 0]
noncomputable def cdU_15_4 : zK := cdS_15_4 ++ cdU_15_5
noncomputable def cdS_15_3 : zK := [zj (.iload 3) 1531 3 0 0, zi (.aconst_null) 1532 0 0 0 (.int 1), zj (.iadd) 1533 0 0 0, zj (.saload) 1534 0 0 0, zj (.aload 0) 1535 0 0 0, zj (.iload 3) 1536 3 0 0, zi (.aconst_null) 1537 0 0 0 (.int 2), zj (.iadd) 1538 0 0 0, zj (.saload) 1539 0 0 0, zj (.aload 0) 1540 0 0 0]
noncomputable def cdU_15_3 : zK := cdS_15_3 ++ cdU_15_4
noncomputable def cdS_15_2 : zK := [zj (.saload) 1521 0 0 0, zj (.invokevirtual 0) 1524 253 3 12, none, none, zj (.drem) 1525 0 0 0, zj (.goto 0) 1528 2138 0 0, none, none, zj (.aload 1) 1529 1 0 0, zj (.aload 0) 1530 0 0 0]
noncomputable def cdU_15_2 : zK := cdS_15_2 ++ cdU_15_3
noncomputable def cdS_15_1 : zK := [zj (.saload) 1511 0 0 0, zj (.aload 0) 1512 0 0 0, zj (.iload 3) 1513 3 0 0, zi (.aconst_null) 1514 0 0 0 (.int 2), zj (.iadd) 1515 0 0 0, zj (.saload) 1516 0 0 0, zj (.aload 0) 1517 0 0 0, zj (.iload 3) 1518 3 0 0, zi (.aconst_null) 1519 0 0 0 (.int 3), zj (.iadd) 1520 0 0 0]
noncomputable def cdU_15_1 : zK := cdS_15_1 ++ cdU_15_2
noncomputable def cdS_15_0 : zK := [zj (.saload) 1501 0 0 0, zj (.invokevirtual 0) 1504 139 3 11, none, none, zj (.drem) 1505 0 0 0, zj (.aload 2) 1506 2 0 0, zj (.aload 0) 1507 0 0 0, zj (.iload 3) 1508 3 0 0, zi (.aconst_null) 1509 0 0 0 (.int 1), zj (.iadd) 1510 0 0 0]
noncomputable def cdU_15_0 : zK := cdS_15_0 ++ cdU_15_1
theorem luk_15_0 (k : Nat) : cd_L[1500 + k]? = cdU_15_0[k]? := lkT_15 k
theorem luk_15_1 (k : Nat) : cd_L[1510 + k]? = cdU_15_1[k]? := by
  rw [show 1510 + k = 1500 + (10 + k) by omega, luk_15_0]
  exact zapp_hi 10 rfl
theorem luk_15_2 (k : Nat) : cd_L[1520 + k]? = cdU_15_2[k]? := by
  rw [show 1520 + k = 1510 + (10 + k) by omega, luk_15_1]
  exact zapp_hi 10 rfl
theorem luk_15_3 (k : Nat) : cd_L[1530 + k]? = cdU_15_3[k]? := by
  rw [show 1530 + k = 1520 + (10 + k) by omega, luk_15_2]
  exact zapp_hi 10 rfl
theorem luk_15_4 (k : Nat) : cd_L[1540 + k]? = cdU_15_4[k]? := by
  rw [show 1540 + k = 1530 + (10 + k) by omega, luk_15_3]
  exact zapp_hi 10 rfl
theorem luk_15_5 (k : Nat) : cd_L[1550 + k]? = cdU_15_5[k]? := by
  rw [show 1550 + k = 1540 + (10 + k) by omega, luk_15_4]
  exact zapp_hi 10 rfl
theorem luk_15_6 (k : Nat) : cd_L[1560 + k]? = cdU_15_6[k]? := by
  rw [show 1560 + k = 1550 + (10 + k) by omega, luk_15_5]
  exact zapp_hi 10 rfl
theorem luk_15_7 (k : Nat) : cd_L[1570 + k]? = cdU_15_7[k]? := by
  rw [show 1570 + k = 1560 + (10 + k) by omega, luk_15_6]
  exact zapp_hi 10 rfl
theorem luk_15_8 (k : Nat) : cd_L[1580 + k]? = cdU_15_8[k]? := by
  rw [show 1580 + k = 1570 + (10 + k) by omega, luk_15_7]
  exact zapp_hi 10 rfl
theorem luk_15_9 (k : Nat) : cd_L[1590 + k]? = cdU_15_9[k]? := by
  rw [show 1590 + k = 1580 + (10 + k) by omega, luk_15_8]
  exact zapp_hi 10 rfl
noncomputable def cdU_16_10 : zK := cdT_17
noncomputable def cdS_16_9 : zK := [zj (.saload) 1691 0 0 0, zj (.invokevirtual 0) 1694 144 2 11, none, none, zj (.pop) 1695 0 0 0, zj (.aload 2) 1696 2 0 0, zj (.aload 0) 1697 0 0 0, zj (.iload 3) 1698 3 0 0, zi (.aconst_null) 1699 0 0 0 (.int 1), zj (.iadd) 1700 0 0 0]
noncomputable def cdU_16_9 : zK := cdS_16_9 ++ cdU_16_10
noncomputable def cdS_16_8 : zK := [zj (.aload 1) 1681 1 0 0, zj (.aload 0) 1682 0 0 0, zj (.iload 3) 1683 3 0 0, zi (.aconst_null) 1684 0 0 0 (.int 1), zj (.iadd) 1685 0 0 0, zj (.saload) 1686 0 0 0, zj (.aload 0) 1687 0 0 0, zj (.iload 3) 1688 3 0 0, zi (.aconst_null) 1689 0 0 0 (.int 2), zj (.iadd) 1690 0 0 0]
noncomputable def cdU_16_8 : zK := cdS_16_8 ++ cdU_16_9
noncomputable def cdS_16_7 : zK := [zi (.aconst_null) 1671 0 0 0 (.int 1), zj (.iadd) 1672 0 0 0, zj (.saload) 1673 0 0 0, zj (.invokevirtual 0) 1676 261 1 12, none, none, zj (.pop) 1677 0 0 0, zj (.goto 0) 1680 2138 0 0, none, none]
noncomputable def cdU_16_7 : zK := cdS_16_7 ++ cdU_16_8
noncomputable def cdS_16_6 : zK := [zi (.aconst_null) 1661 0 0 0 (.int 1), zj (.iadd) 1662 0 0 0, zj (.saload) 1663 0 0 0, zj (.invokevirtual 0) 1666 143 1 11, none, none, zj (.pop) 1667 0 0 0, zj (.aload 2) 1668 2 0 0, zj (.aload 0) 1669 0 0 0, zj (.iload 3) 1670 3 0 0]
noncomputable def cdU_16_6 : zK := cdS_16_6 ++ cdU_16_7
noncomputable def cdS_16_5 : zK := [zj (.invokevirtual 0) 1653 260 2 12, none, none, zj (.pop) 1654 0 0 0, zj (.goto 0) 1657 2138 0 0, none, none, zj (.aload 1) 1658 1 0 0, zj (.aload 0) 1659 0 0 0, zj (.iload 3) 1660 3 0 0]
noncomputable def cdU_16_5 : zK := cdS_16_5 ++ cdU_16_6
noncomputable def cdS_16_4 : zK := [zj (.aload 0) 1641 0 0 0, zj (.iload 3) 1642 3 0 0, zi (.aconst_null) 1643 0 0 0 (.int 1), zj (.iadd) 1644 0 0 0, zj (.saload) 1645 0 0 0, zj (.aload 0) 1646 0 0 0, zj (.iload 3) 1647 3 0 0, zi (.aconst_null) 1648 0 0 0 (.int 2), zj (.iadd) 1649 0 0 0, zj (.saload) 1650 0 0 0]
noncomputable def cdU_16_4 : zK := cdS_16_4 ++ cdU_16_5
noncomputable def cdS_16_3 : zK := [zj (.aload 0) 1631 0 0 0, zj (.iload 3) 1632 3 0 0, zi (.aconst_null) 1633 0 0 0 (.int 2), zj (.iadd) 1634 0 0 0, zj (.saload) 1635 0 0 0, zj (.invokevirtual 0) 1638 142 2 11, none, none, zj (.pop) 1639 0 0 0, zj (.aload 2) 1640 2 0 0]
noncomputable def cdU_16_3 : zK := cdS_16_3 ++ cdU_16_4
noncomputable def cdS_16_2 : zK := [zj (.pop) 1621 0 0 0, zj (.goto 0) 1624 2138 0 0, none, none, zj (.aload 1) 1625 1 0 0, zj (.aload 0) 1626 0 0 0, zj (.iload 3) 1627 3 0 0, zi (.aconst_null) 1628 0 0 0 (.int 1), zj (.iadd) 1629 0 0 0, zj (.saload) 1630 0 0 0]
noncomputable def cdU_16_2 : zK := cdS_16_2 ++ cdU_16_3
noncomputable def cdS_16_1 : zK := [zj (.iadd) 1611 0 0 0, zj (.saload) 1612 0 0 0, zj (.aload 0) 1613 0 0 0, zj (.iload 3) 1614 3 0 0, zi (.aconst_null) 1615 0 0 0 (.int 4), zj (.iadd) 1616 0 0 0, zj (.saload) 1617 0 0 0, zj (.invokevirtual 0) 1620 257 4 12, none, none]
noncomputable def cdU_16_1 : zK := cdS_16_1 ++ cdU_16_2
noncomputable def cdS_16_0 : zK := [zj (.iadd) 1601 0 0 0, zj (.saload) 1602 0 0 0, zj (.aload 0) 1603 0 0 0, zj (.iload 3) 1604 3 0 0, zi (.aconst_null) 1605 0 0 0 (.int 2), zj (.iadd) 1606 0 0 0, zj (.saload) 1607 0 0 0, zj (.aload 0) 1608 0 0 0, zj (.iload 3) 1609 3 0 0, zi (.aconst_null) 1610 0 0 0 (.int 3)]
noncomputable def cdU_16_0 : zK := cdS_16_0 ++ cdU_16_1
theorem luk_16_0 (k : Nat) : cd_L[1600 + k]? = cdU_16_0[k]? := lkT_16 k
theorem luk_16_1 (k : Nat) : cd_L[1610 + k]? = cdU_16_1[k]? := by
  rw [show 1610 + k = 1600 + (10 + k) by omega, luk_16_0]
  exact zapp_hi 10 rfl
theorem luk_16_2 (k : Nat) : cd_L[1620 + k]? = cdU_16_2[k]? := by
  rw [show 1620 + k = 1610 + (10 + k) by omega, luk_16_1]
  exact zapp_hi 10 rfl
theorem luk_16_3 (k : Nat) : cd_L[1630 + k]? = cdU_16_3[k]? := by
  rw [show 1630 + k = 1620 + (10 + k) by omega, luk_16_2]
  exact zapp_hi 10 rfl
theorem luk_16_4 (k : Nat) : cd_L[1640 + k]? = cdU_16_4[k]? := by
  rw [show 1640 + k = 1630 + (10 + k) by omega, luk_16_3]
  exact zapp_hi 10 rfl
theorem luk_16_5 (k : Nat) : cd_L[1650 + k]? = cdU_16_5[k]? := by
  rw [show 1650 + k = 1640 + (10 + k) by omega, luk_16_4]
  exact zapp_hi 10 rfl
theorem luk_16_6 (k : Nat) : cd_L[1660 + k]? = cdU_16_6[k]? := by
  rw [show 1660 + k = 1650 + (10 + k) by omega, luk_16_5]
  exact zapp_hi 10 rfl
theorem luk_16_7 (k : Nat) : cd_L[1670 + k]? = cdU_16_7[k]? := by
  rw [show 1670 + k = 1660 + (10 + k) by omega, luk_16_6]
  exact zapp_hi 10 rfl
theorem luk_16_8 (k : Nat) : cd_L[1680 + k]? = cdU_16_8[k]? := by
  rw [show 1680 + k = 1670 + (10 + k) by omega, luk_16_7]
  exact zapp_hi 10 rfl
theorem luk_16_9 (k : Nat) : cd_L[1690 + k]? = cdU_16_9[k]? := by
  rw [show 1690 + k = 1680 + (10 + k) by omega, luk_16_8]
  exact zapp_hi 10 rfl
noncomputable def cdU_17_10 : zK := cdT_18
noncomputable def cdS_17_9 : zK := [zj (.iadd) 1791 0 0 0, zj (.saload) 1792 0 0 0, zj (.invokevirtual 0) 1795 265 4 12, none, none, zj (.pop) 1796 0 0 0, zj (.goto 0) 1799 2138 0 0, none, none, zj (.aload 1) 1800 1 0 0]
noncomputable def cdU_17_9 : zK := cdS_17_9 ++ cdU_17_10
noncomputable def cdS_17_8 : zK := [zj (.iadd) 1781 0 0 0, zj (.saload) 1782 0 0 0, zj (.aload 0) 1783 0 0 0, zj (.iload 3) 1784 3 0 0, zi (.aconst_null) 1785 0 0 0 (.int 3), zj (.iadd) 1786 0 0 0, zj (.saload) 1787 0 0 0, zj (.aload 0) 1788 0 0 0, zj (.iload 3) 1789 3 0 0, zi (.aconst_null) 1790 0 0 0 (.int 4)]
noncomputable def cdU_17_8 : zK := cdS_17_8 ++ cdU_17_9
noncomputable def cdS_17_7 : zK := [zj (.pop) 1771 0 0 0, zj (.aload 2) 1772 2 0 0, zj (.aload 0) 1773 0 0 0, zj (.iload 3) 1774 3 0 0, zi (.aconst_null) 1775 0 0 0 (.int 1), zj (.iadd) 1776 0 0 0, zj (.saload) 1777 0 0 0, zj (.aload 0) 1778 0 0 0, zj (.iload 3) 1779 3 0 0, zi (.aconst_null) 1780 0 0 0 (.int 2)]
noncomputable def cdU_17_7 : zK := cdS_17_7 ++ cdU_17_8
noncomputable def cdS_17_6 : zK := [zj (.iadd) 1761 0 0 0, zj (.saload) 1762 0 0 0, zj (.aload 0) 1763 0 0 0, zj (.iload 3) 1764 3 0 0, zi (.aconst_null) 1765 0 0 0 (.int 4), zj (.iadd) 1766 0 0 0, zj (.saload) 1767 0 0 0, zj (.invokevirtual 0) 1770 146 4 11, none, none]
noncomputable def cdU_17_6 : zK := cdS_17_6 ++ cdU_17_7
noncomputable def cdS_17_5 : zK := [zj (.iadd) 1751 0 0 0, zj (.saload) 1752 0 0 0, zj (.aload 0) 1753 0 0 0, zj (.iload 3) 1754 3 0 0, zi (.aconst_null) 1755 0 0 0 (.int 2), zj (.iadd) 1756 0 0 0, zj (.saload) 1757 0 0 0, zj (.aload 0) 1758 0 0 0, zj (.iload 3) 1759 3 0 0, zi (.aconst_null) 1760 0 0 0 (.int 3)]
noncomputable def cdU_17_5 : zK := cdS_17_5 ++ cdU_17_6
noncomputable def cdS_17_4 : zK := [none, none, zj (.pop) 1743 0 0 0, zj (.goto 0) 1746 2138 0 0, none, none, zj (.aload 1) 1747 1 0 0, zj (.aload 0) 1748 0 0 0, zj (.iload 3) 1749 3 0 0, zi (.aconst_null) 1750 0 0 0 (.int 1)]
noncomputable def cdU_17_4 : zK := cdS_17_4 ++ cdU_17_5
noncomputable def cdS_17_3 : zK := [zj (.iload 3) 1731 3 0 0, zi (.aconst_null) 1732 0 0 0 (.int 1), zj (.iadd) 1733 0 0 0, zj (.saload) 1734 0 0 0, zj (.aload 0) 1735 0 0 0, zj (.iload 3) 1736 3 0 0, zi (.aconst_null) 1737 0 0 0 (.int 2), zj (.iadd) 1738 0 0 0, zj (.saload) 1739 0 0 0, zj (.invokevirtual 0) 1742 264 2 12]
noncomputable def cdU_17_3 : zK := cdS_17_3 ++ cdU_17_4
noncomputable def cdS_17_2 : zK := [zj (.iload 3) 1721 3 0 0, zi (.aconst_null) 1722 0 0 0 (.int 2), zj (.iadd) 1723 0 0 0, zj (.saload) 1724 0 0 0, zj (.invokevirtual 0) 1727 145 2 11, none, none, zj (.pop) 1728 0 0 0, zj (.aload 2) 1729 2 0 0, zj (.aload 0) 1730 0 0 0]
noncomputable def cdU_17_2 : zK := cdS_17_2 ++ cdU_17_3
noncomputable def cdS_17_1 : zK := [zj (.goto 0) 1713 2138 0 0, none, none, zj (.aload 1) 1714 1 0 0, zj (.aload 0) 1715 0 0 0, zj (.iload 3) 1716 3 0 0, zi (.aconst_null) 1717 0 0 0 (.int 1), zj (.iadd) 1718 0 0 0, zj (.saload) 1719 0 0 0, zj (.aload 0) 1720 0 0 0]
noncomputable def cdU_17_1 : zK := cdS_17_1 ++ cdU_17_2
noncomputable def cdS_17_0 : zK := [zj (.saload) 1701 0 0 0, zj (.aload 0) 1702 0 0 0, zj (.iload 3) 1703 3 0 0, zi (.aconst_null) 1704 0 0 0 (.int 2), zj (.iadd) 1705 0 0 0, zj (.saload) 1706 0 0 0, zj (.invokevirtual 0) 1709 263 2 12, none, none, zj (.pop) 1710 0 0 0]
noncomputable def cdU_17_0 : zK := cdS_17_0 ++ cdU_17_1
theorem luk_17_0 (k : Nat) : cd_L[1700 + k]? = cdU_17_0[k]? := lkT_17 k
theorem luk_17_1 (k : Nat) : cd_L[1710 + k]? = cdU_17_1[k]? := by
  rw [show 1710 + k = 1700 + (10 + k) by omega, luk_17_0]
  exact zapp_hi 10 rfl
theorem luk_17_2 (k : Nat) : cd_L[1720 + k]? = cdU_17_2[k]? := by
  rw [show 1720 + k = 1710 + (10 + k) by omega, luk_17_1]
  exact zapp_hi 10 rfl
theorem luk_17_3 (k : Nat) : cd_L[1730 + k]? = cdU_17_3[k]? := by
  rw [show 1730 + k = 1720 + (10 + k) by omega, luk_17_2]
  exact zapp_hi 10 rfl
theorem luk_17_4 (k : Nat) : cd_L[1740 + k]? = cdU_17_4[k]? := by
  rw [show 1740 + k = 1730 + (10 + k) by omega, luk_17_3]
  exact zapp_hi 10 rfl
theorem luk_17_5 (k : Nat) : cd_L[1750 + k]? = cdU_17_5[k]? := by
  rw [show 1750 + k = 1740 + (10 + k) by omega, luk_17_4]
  exact zapp_hi 10 rfl
theorem luk_17_6 (k : Nat) : cd_L[1760 + k]? = cdU_17_6[k]? := by
  rw [show 1760 + k = 1750 + (10 + k) by omega, luk_17_5]
  exact zapp_hi 10 rfl
theorem luk_17_7 (k : Nat) : cd_L[1770 + k]? = cdU_17_7[k]? := by
  rw [show 1770 + k = 1760 + (10 + k) by omega, luk_17_6]
  exact zapp_hi 10 rfl
theorem luk_17_8 (k : Nat) : cd_L[1780 + k]? = cdU_17_8[k]? := by
  rw [show 1780 + k = 1770 + (10 + k) by omega, luk_17_7]
  exact zapp_hi 10 rfl
theorem luk_17_9 (k : Nat) : cd_L[1790 + k]? = cdU_17_9[k]? := by
  rw [show 1790 + k = 1780 + (10 + k) by omega, luk_17_8]
  exact zapp_hi 10 rfl
noncomputable def cdU_18_10 : zK := cdT_19
noncomputable def cdS_18_9 : zK := [zj (.iload 3) 1891 3 0 0, zi (.aconst_null) 1892 0 0 0 (.int 1), zj (.iadd) 1893 0 0 0, zj (.saload) 1894 0 0 0, zj (.aload 0) 1895 0 0 0, zj (.iload 3) 1896 3 0 0, zi (.aconst_null) 1897 0 0 0 (.int 2), zj (.iadd) 1898 0 0 0, zj (.saload) 1899 0 0 0, zj (.invokevirtual 0) 1902 150 2 11]
noncomputable def cdU_18_9 : zK := cdS_18_9 ++ cdU_18_10
noncomputable def cdS_18_8 : zK := [zj (.saload) 1881 0 0 0, zj (.invokevirtual 0) 1884 271 2 12, none, none, zj (.pop) 1885 0 0 0, zj (.goto 0) 1888 2138 0 0, none, none, zj (.aload 1) 1889 1 0 0, zj (.aload 0) 1890 0 0 0]
noncomputable def cdU_18_8 : zK := cdS_18_8 ++ cdU_18_9
noncomputable def cdS_18_7 : zK := [zj (.aload 2) 1871 2 0 0, zj (.aload 0) 1872 0 0 0, zj (.iload 3) 1873 3 0 0, zi (.aconst_null) 1874 0 0 0 (.int 1), zj (.iadd) 1875 0 0 0, zj (.saload) 1876 0 0 0, zj (.aload 0) 1877 0 0 0, zj (.iload 3) 1878 3 0 0, zi (.aconst_null) 1879 0 0 0 (.int 2), zj (.iadd) 1880 0 0 0]
noncomputable def cdU_18_7 : zK := cdS_18_7 ++ cdU_18_8
noncomputable def cdS_18_6 : zK := [zj (.saload) 1861 0 0 0, zj (.aload 0) 1862 0 0 0, zj (.iload 3) 1863 3 0 0, zi (.aconst_null) 1864 0 0 0 (.int 2), zj (.iadd) 1865 0 0 0, zj (.saload) 1866 0 0 0, zj (.invokevirtual 0) 1869 149 2 11, none, none, zj (.pop) 1870 0 0 0]
noncomputable def cdU_18_6 : zK := cdS_18_6 ++ cdU_18_7
noncomputable def cdS_18_5 : zK := [none, zj (.pop) 1852 0 0 0, zj (.goto 0) 1855 2138 0 0, none, none, zj (.aload 1) 1856 1 0 0, zj (.aload 0) 1857 0 0 0, zj (.iload 3) 1858 3 0 0, zi (.aconst_null) 1859 0 0 0 (.int 1), zj (.iadd) 1860 0 0 0]
noncomputable def cdU_18_5 : zK := cdS_18_5 ++ cdU_18_6
noncomputable def cdS_18_4 : zK := [zi (.aconst_null) 1841 0 0 0 (.int 1), zj (.iadd) 1842 0 0 0, zj (.saload) 1843 0 0 0, zj (.aload 0) 1844 0 0 0, zj (.iload 3) 1845 3 0 0, zi (.aconst_null) 1846 0 0 0 (.int 2), zj (.iadd) 1847 0 0 0, zj (.saload) 1848 0 0 0, zj (.invokevirtual 0) 1851 270 2 12, none]
noncomputable def cdU_18_4 : zK := cdS_18_4 ++ cdU_18_5
noncomputable def cdS_18_3 : zK := [zi (.aconst_null) 1831 0 0 0 (.int 2), zj (.iadd) 1832 0 0 0, zj (.saload) 1833 0 0 0, zj (.invokevirtual 0) 1836 148 2 11, none, none, zj (.pop) 1837 0 0 0, zj (.aload 2) 1838 2 0 0, zj (.aload 0) 1839 0 0 0, zj (.iload 3) 1840 3 0 0]
noncomputable def cdU_18_3 : zK := cdS_18_3 ++ cdU_18_4
noncomputable def cdS_18_2 : zK := [none, none, zj (.aload 1) 1823 1 0 0, zj (.aload 0) 1824 0 0 0, zj (.iload 3) 1825 3 0 0, zi (.aconst_null) 1826 0 0 0 (.int 1), zj (.iadd) 1827 0 0 0, zj (.saload) 1828 0 0 0, zj (.aload 0) 1829 0 0 0, zj (.iload 3) 1830 3 0 0]
noncomputable def cdU_18_2 : zK := cdS_18_2 ++ cdU_18_3
noncomputable def cdS_18_1 : zK := [zj (.aload 0) 1811 0 0 0, zj (.iload 3) 1812 3 0 0, zi (.aconst_null) 1813 0 0 0 (.int 1), zj (.iadd) 1814 0 0 0, zj (.saload) 1815 0 0 0, zj (.invokevirtual 0) 1818 269 1 12, none, none, zj (.pop) 1819 0 0 0, zj (.goto 0) 1822 2138 0 0]
noncomputable def cdU_18_1 : zK := cdS_18_1 ++ cdU_18_2
noncomputable def cdS_18_0 : zK := [zj (.aload 0) 1801 0 0 0, zj (.iload 3) 1802 3 0 0, zi (.aconst_null) 1803 0 0 0 (.int 1), zj (.iadd) 1804 0 0 0, zj (.saload) 1805 0 0 0, zj (.invokevirtual 0) 1808 147 1 11, none, none, zj (.pop) 1809 0 0 0, zj (.aload 2) 1810 2 0 0]
noncomputable def cdU_18_0 : zK := cdS_18_0 ++ cdU_18_1
theorem luk_18_0 (k : Nat) : cd_L[1800 + k]? = cdU_18_0[k]? := lkT_18 k
theorem luk_18_1 (k : Nat) : cd_L[1810 + k]? = cdU_18_1[k]? := by
  rw [show 1810 + k = 1800 + (10 + k) by omega, luk_18_0]
  exact zapp_hi 10 rfl
theorem luk_18_2 (k : Nat) : cd_L[1820 + k]? = cdU_18_2[k]? := by
  rw [show 1820 + k = 1810 + (10 + k) by omega, luk_18_1]
  exact zapp_hi 10 rfl
theorem luk_18_3 (k : Nat) : cd_L[1830 + k]? = cdU_18_3[k]? := by
  rw [show 1830 + k = 1820 + (10 + k) by omega, luk_18_2]
  exact zapp_hi 10 rfl
theorem luk_18_4 (k : Nat) : cd_L[1840 + k]? = cdU_18_4[k]? := by
  rw [show 1840 + k = 1830 + (10 + k) by omega, luk_18_3]
  exact zapp_hi 10 rfl
theorem luk_18_5 (k : Nat) : cd_L[1850 + k]? = cdU_18_5[k]? := by
  rw [show 1850 + k = 1840 + (10 + k) by omega, luk_18_4]
  exact zapp_hi 10 rfl
theorem luk_18_6 (k : Nat) : cd_L[1860 + k]? = cdU_18_6[k]? := by
  rw [show 1860 + k = 1850 + (10 + k) by omega, luk_18_5]
  exact zapp_hi 10 rfl
theorem luk_18_7 (k : Nat) : cd_L[1870 + k]? = cdU_18_7[k]? := by
  rw [show 1870 + k = 1860 + (10 + k) by omega, luk_18_6]
  exact zapp_hi 10 rfl
theorem luk_18_8 (k : Nat) : cd_L[1880 + k]? = cdU_18_8[k]? := by
  rw [show 1880 + k = 1870 + (10 + k) by omega, luk_18_7]
  exact zapp_hi 10 rfl
theorem luk_18_9 (k : Nat) : cd_L[1890 + k]? = cdU_18_9[k]? := by
  rw [show 1890 + k = 1880 + (10 + k) by omega, luk_18_8]
  exact zapp_hi 10 rfl
noncomputable def cdU_19_10 : zK := cdT_20
noncomputable def cdS_19_9 : zK := [zj (.goto 0) 1993 2138 0 0, none, none, zj (.aload 1) 1994 1 0 0, zj (.aload 0) 1995 0 0 0, zj (.iload 3) 1996 3 0 0, zi (.aconst_null) 1997 0 0 0 (.int 1), zj (.iadd) 1998 0 0 0, zj (.saload) 1999 0 0 0, zj (.aload 0) 2000 0 0 0]
noncomputable def cdU_19_9 : zK := cdS_19_9 ++ cdU_19_10
noncomputable def cdS_19_8 : zK := [zj (.aload 2) 1981 2 0 0, zj (.aload 0) 1982 0 0 0, zj (.iload 3) 1983 3 0 0, zi (.aconst_null) 1984 0 0 0 (.int 1), zj (.iadd) 1985 0 0 0, zj (.saload) 1986 0 0 0, zj (.invokevirtual 0) 1989 274 1 12, none, none, zj (.drem) 1990 0 0 0]
noncomputable def cdU_19_8 : zK := cdS_19_8 ++ cdU_19_9
noncomputable def cdS_19_7 : zK := [zj (.aload 1) 1971 1 0 0, zj (.aload 0) 1972 0 0 0, zj (.iload 3) 1973 3 0 0, zi (.aconst_null) 1974 0 0 0 (.int 1), zj (.iadd) 1975 0 0 0, zj (.saload) 1976 0 0 0, zj (.invokevirtual 0) 1979 152 1 11, none, none, zj (.drem) 1980 0 0 0]
noncomputable def cdU_19_7 : zK := cdS_19_7 ++ cdU_19_8
noncomputable def cdS_19_6 : zK := [none, none, zi (.aconst_null) 1963 0 0 0 (.int 0), zj (.invokevirtual 0) 1966 273 2 12, none, none, zj (.pop) 1967 0 0 0, zj (.goto 0) 1970 2138 0 0, none, none]
noncomputable def cdU_19_6 : zK := cdS_19_6 ++ cdU_19_7
noncomputable def cdS_19_5 : zK := [zj (.aload 0) 1951 0 0 0, zj (.iload 3) 1952 3 0 0, zi (.aconst_null) 1953 0 0 0 (.int 2), zj (.iadd) 1954 0 0 0, zj (.saload) 1955 0 0 0, zj (.ifCond .eq 0) 1958 1962 0 0, none, none, zi (.aconst_null) 1959 0 0 0 (.int 1), zj (.goto 0) 1962 1963 0 0]
noncomputable def cdU_19_5 : zK := cdS_19_5 ++ cdU_19_6
noncomputable def cdS_19_4 : zK := [zj (.invokevirtual 0) 1943 151 2 11, none, none, zj (.pop) 1944 0 0 0, zj (.aload 2) 1945 2 0 0, zj (.aload 0) 1946 0 0 0, zj (.iload 3) 1947 3 0 0, zi (.aconst_null) 1948 0 0 0 (.int 1), zj (.iadd) 1949 0 0 0, zj (.saload) 1950 0 0 0]
noncomputable def cdU_19_4 : zK := cdS_19_4 ++ cdU_19_5
noncomputable def cdS_19_3 : zK := [zj (.iadd) 1931 0 0 0, zj (.saload) 1932 0 0 0, zj (.ifCond .eq 0) 1935 1939 0 0, none, none, zi (.aconst_null) 1936 0 0 0 (.int 1), zj (.goto 0) 1939 1940 0 0, none, none, zi (.aconst_null) 1940 0 0 0 (.int 0)]
noncomputable def cdU_19_3 : zK := cdS_19_3 ++ cdU_19_4
noncomputable def cdS_19_2 : zK := [zj (.ireturn) 1921 0 0 0, zj (.aload 1) 1922 1 0 0, zj (.aload 0) 1923 0 0 0, zj (.iload 3) 1924 3 0 0, zi (.aconst_null) 1925 0 0 0 (.int 1), zj (.iadd) 1926 0 0 0, zj (.saload) 1927 0 0 0, zj (.aload 0) 1928 0 0 0, zj (.iload 3) 1929 3 0 0, zi (.aconst_null) 1930 0 0 0 (.int 2)]
noncomputable def cdU_19_2 : zK := cdS_19_2 ++ cdU_19_3
noncomputable def cdS_19_1 : zK := [zi (.aconst_null) 1911 0 0 0 (.int 2), zj (.iadd) 1912 0 0 0, zj (.saload) 1913 0 0 0, zj (.invokevirtual 0) 1916 272 2 12, none, none, zj (.if_icmp .eq 0) 1919 2138 0 0, none, none, zi (.aconst_null) 1920 0 0 0 (.int 0)]
noncomputable def cdU_19_1 : zK := cdS_19_1 ++ cdU_19_2
noncomputable def cdS_19_0 : zK := [none, none, zj (.aload 2) 1903 2 0 0, zj (.aload 0) 1904 0 0 0, zj (.iload 3) 1905 3 0 0, zi (.aconst_null) 1906 0 0 0 (.int 1), zj (.iadd) 1907 0 0 0, zj (.saload) 1908 0 0 0, zj (.aload 0) 1909 0 0 0, zj (.iload 3) 1910 3 0 0]
noncomputable def cdU_19_0 : zK := cdS_19_0 ++ cdU_19_1
theorem luk_19_0 (k : Nat) : cd_L[1900 + k]? = cdU_19_0[k]? := lkT_19 k
theorem luk_19_1 (k : Nat) : cd_L[1910 + k]? = cdU_19_1[k]? := by
  rw [show 1910 + k = 1900 + (10 + k) by omega, luk_19_0]
  exact zapp_hi 10 rfl
theorem luk_19_2 (k : Nat) : cd_L[1920 + k]? = cdU_19_2[k]? := by
  rw [show 1920 + k = 1910 + (10 + k) by omega, luk_19_1]
  exact zapp_hi 10 rfl
theorem luk_19_3 (k : Nat) : cd_L[1930 + k]? = cdU_19_3[k]? := by
  rw [show 1930 + k = 1920 + (10 + k) by omega, luk_19_2]
  exact zapp_hi 10 rfl
theorem luk_19_4 (k : Nat) : cd_L[1940 + k]? = cdU_19_4[k]? := by
  rw [show 1940 + k = 1930 + (10 + k) by omega, luk_19_3]
  exact zapp_hi 10 rfl
theorem luk_19_5 (k : Nat) : cd_L[1950 + k]? = cdU_19_5[k]? := by
  rw [show 1950 + k = 1940 + (10 + k) by omega, luk_19_4]
  exact zapp_hi 10 rfl
theorem luk_19_6 (k : Nat) : cd_L[1960 + k]? = cdU_19_6[k]? := by
  rw [show 1960 + k = 1950 + (10 + k) by omega, luk_19_5]
  exact zapp_hi 10 rfl
theorem luk_19_7 (k : Nat) : cd_L[1970 + k]? = cdU_19_7[k]? := by
  rw [show 1970 + k = 1960 + (10 + k) by omega, luk_19_6]
  exact zapp_hi 10 rfl
theorem luk_19_8 (k : Nat) : cd_L[1980 + k]? = cdU_19_8[k]? := by
  rw [show 1980 + k = 1970 + (10 + k) by omega, luk_19_7]
  exact zapp_hi 10 rfl
theorem luk_19_9 (k : Nat) : cd_L[1990 + k]? = cdU_19_9[k]? := by
  rw [show 1990 + k = 1980 + (10 + k) by omega, luk_19_8]
  exact zapp_hi 10 rfl
noncomputable def cdU_20_10 : zK := cdT_21
noncomputable def cdS_20_9 : zK := [none, none, zj (.aload 1) 2093 1 0 0, zj (.aload 0) 2094 0 0 0, zj (.iload 3) 2095 3 0 0, zi (.aconst_null) 2096 0 0 0 (.int 1), zj (.iadd) 2097 0 0 0, zj (.saload) 2098 0 0 0, zj (.invokevirtual 0) 2101 156 1 11, none]
noncomputable def cdU_20_9 : zK := cdS_20_9 ++ cdU_20_10
noncomputable def cdS_20_8 : zK := [zj (.aload 0) 2081 0 0 0, zj (.iload 3) 2082 3 0 0, zi (.aconst_null) 2083 0 0 0 (.int 1), zj (.iadd) 2084 0 0 0, zj (.saload) 2085 0 0 0, zj (.invokevirtual 0) 2088 277 1 12, none, none, zj (.pop) 2089 0 0 0, zj (.goto 0) 2092 2138 0 0]
noncomputable def cdU_20_8 : zK := cdS_20_8 ++ cdU_20_9
noncomputable def cdS_20_7 : zK := [zj (.aload 0) 2071 0 0 0, zj (.iload 3) 2072 3 0 0, zi (.aconst_null) 2073 0 0 0 (.int 1), zj (.iadd) 2074 0 0 0, zj (.saload) 2075 0 0 0, zj (.invokevirtual 0) 2078 155 1 11, none, none, zj (.pop) 2079 0 0 0, zj (.aload 2) 2080 2 0 0]
noncomputable def cdU_20_7 : zK := cdS_20_7 ++ cdU_20_8
noncomputable def cdS_20_6 : zK := [zj (.iadd) 2061 0 0 0, zj (.saload) 2062 0 0 0, zj (.invokevirtual 0) 2065 276 3 12, none, none, zj (.pop) 2066 0 0 0, zj (.goto 0) 2069 2138 0 0, none, none, zj (.aload 1) 2070 1 0 0]
noncomputable def cdU_20_6 : zK := cdS_20_6 ++ cdU_20_7
noncomputable def cdS_20_5 : zK := [zj (.iadd) 2051 0 0 0, zj (.saload) 2052 0 0 0, zj (.aload 0) 2053 0 0 0, zj (.iload 3) 2054 3 0 0, zi (.aconst_null) 2055 0 0 0 (.int 2), zj (.iadd) 2056 0 0 0, zj (.saload) 2057 0 0 0, zj (.aload 0) 2058 0 0 0, zj (.iload 3) 2059 3 0 0, zi (.aconst_null) 2060 0 0 0 (.int 3)]
noncomputable def cdU_20_5 : zK := cdS_20_5 ++ cdU_20_6
noncomputable def cdS_20_4 : zK := [zj (.iadd) 2041 0 0 0, zj (.saload) 2042 0 0 0, zj (.invokevirtual 0) 2045 154 3 11, none, none, zj (.pop) 2046 0 0 0, zj (.aload 2) 2047 2 0 0, zj (.aload 0) 2048 0 0 0, zj (.iload 3) 2049 3 0 0, zi (.aconst_null) 2050 0 0 0 (.int 1)]
noncomputable def cdU_20_4 : zK := cdS_20_4 ++ cdU_20_5
noncomputable def cdS_20_3 : zK := [zj (.iadd) 2031 0 0 0, zj (.saload) 2032 0 0 0, zj (.aload 0) 2033 0 0 0, zj (.iload 3) 2034 3 0 0, zi (.aconst_null) 2035 0 0 0 (.int 2), zj (.iadd) 2036 0 0 0, zj (.saload) 2037 0 0 0, zj (.aload 0) 2038 0 0 0, zj (.iload 3) 2039 3 0 0, zi (.aconst_null) 2040 0 0 0 (.int 3)]
noncomputable def cdU_20_3 : zK := cdS_20_3 ++ cdU_20_4
noncomputable def cdS_20_2 : zK := [none, none, zj (.pop) 2023 0 0 0, zj (.goto 0) 2026 2138 0 0, none, none, zj (.aload 1) 2027 1 0 0, zj (.aload 0) 2028 0 0 0, zj (.iload 3) 2029 3 0 0, zi (.aconst_null) 2030 0 0 0 (.int 1)]
noncomputable def cdU_20_2 : zK := cdS_20_2 ++ cdU_20_3
noncomputable def cdS_20_1 : zK := [zj (.iload 3) 2011 3 0 0, zi (.aconst_null) 2012 0 0 0 (.int 1), zj (.iadd) 2013 0 0 0, zj (.saload) 2014 0 0 0, zj (.aload 0) 2015 0 0 0, zj (.iload 3) 2016 3 0 0, zi (.aconst_null) 2017 0 0 0 (.int 2), zj (.iadd) 2018 0 0 0, zj (.saload) 2019 0 0 0, zj (.invokevirtual 0) 2022 275 2 12]
noncomputable def cdU_20_1 : zK := cdS_20_1 ++ cdU_20_2
noncomputable def cdS_20_0 : zK := [zj (.iload 3) 2001 3 0 0, zi (.aconst_null) 2002 0 0 0 (.int 2), zj (.iadd) 2003 0 0 0, zj (.saload) 2004 0 0 0, zj (.invokevirtual 0) 2007 153 2 11, none, none, zj (.pop) 2008 0 0 0, zj (.aload 2) 2009 2 0 0, zj (.aload 0) 2010 0 0 0]
noncomputable def cdU_20_0 : zK := cdS_20_0 ++ cdU_20_1
theorem luk_20_0 (k : Nat) : cd_L[2000 + k]? = cdU_20_0[k]? := lkT_20 k
theorem luk_20_1 (k : Nat) : cd_L[2010 + k]? = cdU_20_1[k]? := by
  rw [show 2010 + k = 2000 + (10 + k) by omega, luk_20_0]
  exact zapp_hi 10 rfl
theorem luk_20_2 (k : Nat) : cd_L[2020 + k]? = cdU_20_2[k]? := by
  rw [show 2020 + k = 2010 + (10 + k) by omega, luk_20_1]
  exact zapp_hi 10 rfl
theorem luk_20_3 (k : Nat) : cd_L[2030 + k]? = cdU_20_3[k]? := by
  rw [show 2030 + k = 2020 + (10 + k) by omega, luk_20_2]
  exact zapp_hi 10 rfl
theorem luk_20_4 (k : Nat) : cd_L[2040 + k]? = cdU_20_4[k]? := by
  rw [show 2040 + k = 2030 + (10 + k) by omega, luk_20_3]
  exact zapp_hi 10 rfl
theorem luk_20_5 (k : Nat) : cd_L[2050 + k]? = cdU_20_5[k]? := by
  rw [show 2050 + k = 2040 + (10 + k) by omega, luk_20_4]
  exact zapp_hi 10 rfl
theorem luk_20_6 (k : Nat) : cd_L[2060 + k]? = cdU_20_6[k]? := by
  rw [show 2060 + k = 2050 + (10 + k) by omega, luk_20_5]
  exact zapp_hi 10 rfl
theorem luk_20_7 (k : Nat) : cd_L[2070 + k]? = cdU_20_7[k]? := by
  rw [show 2070 + k = 2060 + (10 + k) by omega, luk_20_6]
  exact zapp_hi 10 rfl
theorem luk_20_8 (k : Nat) : cd_L[2080 + k]? = cdU_20_8[k]? := by
  rw [show 2080 + k = 2070 + (10 + k) by omega, luk_20_7]
  exact zapp_hi 10 rfl
theorem luk_20_9 (k : Nat) : cd_L[2090 + k]? = cdU_20_9[k]? := by
  rw [show 2090 + k = 2080 + (10 + k) by omega, luk_20_8]
  exact zapp_hi 10 rfl
noncomputable def cdU_21_5 : zK := cdT_22
noncomputable def cdS_21_4 : zK := [none, zj (.goto 0) 2144 18 0 0, none, none, zi (.aconst_null) 2145 0 0 0 (.int 1), zj (.ireturn) 2146 0 0 0]
noncomputable def cdU_21_4 : zK := cdS_21_4 ++ cdU_21_5
noncomputable def cdS_21_3 : zK := [zj (.saload) 2131 0 0 0, zj (.invokevirtual 0) 2134 279 1 12, none, none, zj (.pop) 2135 0 0 0, zj (.goto 0) 2138 2138 0 0, none, none, zi (.iinc 3 8) 2141 3 0 0 (.int 8), none]
noncomputable def cdU_21_3 : zK := cdS_21_3 ++ cdU_21_4
noncomputable def cdS_21_2 : zK := [zj (.saload) 2121 0 0 0, zj (.invokevirtual 0) 2124 157 1 11, none, none, zj (.pop) 2125 0 0 0, zj (.aload 2) 2126 2 0 0, zj (.aload 0) 2127 0 0 0, zj (.iload 3) 2128 3 0 0, zi (.aconst_null) 2129 0 0 0 (.int 1), zj (.iadd) 2130 0 0 0]
noncomputable def cdU_21_2 : zK := cdS_21_2 ++ cdU_21_3
noncomputable def cdS_21_1 : zK := [none, zj (.pop) 2112 0 0 0, zj (.goto 0) 2115 2138 0 0, none, none, zj (.aload 1) 2116 1 0 0, zj (.aload 0) 2117 0 0 0, zj (.iload 3) 2118 3 0 0, zi (.aconst_null) 2119 0 0 0 (.int 1), zj (.iadd) 2120 0 0 0]
noncomputable def cdU_21_1 : zK := cdS_21_1 ++ cdU_21_2
noncomputable def cdS_21_0 : zK := [none, zj (.pop) 2102 0 0 0, zj (.aload 2) 2103 2 0 0, zj (.aload 0) 2104 0 0 0, zj (.iload 3) 2105 3 0 0, zi (.aconst_null) 2106 0 0 0 (.int 1), zj (.iadd) 2107 0 0 0, zj (.saload) 2108 0 0 0, zj (.invokevirtual 0) 2111 278 1 12, none]
noncomputable def cdU_21_0 : zK := cdS_21_0 ++ cdU_21_1
theorem luk_21_0 (k : Nat) : cd_L[2100 + k]? = cdU_21_0[k]? := lkT_21 k
theorem luk_21_1 (k : Nat) : cd_L[2110 + k]? = cdU_21_1[k]? := by
  rw [show 2110 + k = 2100 + (10 + k) by omega, luk_21_0]
  exact zapp_hi 10 rfl
theorem luk_21_2 (k : Nat) : cd_L[2120 + k]? = cdU_21_2[k]? := by
  rw [show 2120 + k = 2110 + (10 + k) by omega, luk_21_1]
  exact zapp_hi 10 rfl
theorem luk_21_3 (k : Nat) : cd_L[2130 + k]? = cdU_21_3[k]? := by
  rw [show 2130 + k = 2120 + (10 + k) by omega, luk_21_2]
  exact zapp_hi 10 rfl
theorem luk_21_4 (k : Nat) : cd_L[2140 + k]? = cdU_21_4[k]? := by
  rw [show 2140 + k = 2130 + (10 + k) by omega, luk_21_3]
  exact zapp_hi 10 rfl
theorem zsm {a b : Option zE} (h : a = b) : some a = some b := by rw [h]
theorem zg0 {x0 : Option zE} {r : zK} : (x0 :: r)[0]? = some x0 := rfl
theorem zg1 {x0 x1 : Option zE} {r : zK} : (x0 :: x1 :: r)[1]? = some x1 := rfl
theorem zg2 {x0 x1 x2 : Option zE} {r : zK} : (x0 :: x1 :: x2 :: r)[2]? = some x2 := rfl
theorem zg3 {x0 x1 x2 x3 : Option zE} {r : zK} : (x0 :: x1 :: x2 :: x3 :: r)[3]? = some x3 := rfl
theorem zg4 {x0 x1 x2 x3 x4 : Option zE} {r : zK} : (x0 :: x1 :: x2 :: x3 :: x4 :: r)[4]? = some x4 := rfl
theorem zg5 {x0 x1 x2 x3 x4 x5 : Option zE} {r : zK} : (x0 :: x1 :: x2 :: x3 :: x4 :: x5 :: r)[5]? = some x5 := rfl
theorem zg6 {x0 x1 x2 x3 x4 x5 x6 : Option zE} {r : zK} : (x0 :: x1 :: x2 :: x3 :: x4 :: x5 :: x6 :: r)[6]? = some x6 := rfl
theorem zg7 {x0 x1 x2 x3 x4 x5 x6 x7 : Option zE} {r : zK} : (x0 :: x1 :: x2 :: x3 :: x4 :: x5 :: x6 :: x7 :: r)[7]? = some x7 := rfl
theorem zg8 {x0 x1 x2 x3 x4 x5 x6 x7 x8 : Option zE} {r : zK} : (x0 :: x1 :: x2 :: x3 :: x4 :: x5 :: x6 :: x7 :: x8 :: r)[8]? = some x8 := rfl
theorem zg9 {x0 x1 x2 x3 x4 x5 x6 x7 x8 x9 : Option zE} {r : zK} : (x0 :: x1 :: x2 :: x3 :: x4 :: x5 :: x6 :: x7 :: x8 :: x9 :: r)[9]? = some x9 := rfl
theorem lq_0 : cd_L[0]? = (some (some (.new 0, 3, 11, 0, 0, .null)) : Option (Option zE)) := zlch (a := cdS_0_0) (luk_0_0 0) zg0
theorem lq_3 : cd_L[3]? = (some (some (.dup, 4, 0, 0, 0, .null)) : Option (Option zE)) := zlch (a := cdS_0_0) (luk_0_0 3) zg3
theorem lq_4 : cd_L[4]? = (some (some (.invokespecial 0, 7, 109, 0, 0, .null)) : Option (Option zE)) := zlch (a := cdS_0_0) (luk_0_0 4) zg4
theorem lq_7 : cd_L[7]? = (some (some (.astore 1, 8, 1, 0, 0, .null)) : Option (Option zE)) := zlch (a := cdS_0_0) (luk_0_0 7) zg7
theorem lq_8 : cd_L[8]? = (some (some (.new 0, 11, 12, 0, 0, .null)) : Option (Option zE)) := zlch (a := cdS_0_0) (luk_0_0 8) zg8
theorem lq_11 : cd_L[11]? = (some (some (.dup, 12, 0, 0, 0, .null)) : Option (Option zE)) := zlch (a := cdS_0_1) (luk_0_1 1) zg1
theorem lq_12 : cd_L[12]? = (some (some (.invokespecial 0, 15, 170, 0, 0, .null)) : Option (Option zE)) := zlch (a := cdS_0_1) (luk_0_1 2) zg2
theorem lq_15 : cd_L[15]? = (some (some (.astore 2, 16, 2, 0, 0, .null)) : Option (Option zE)) := zlch (a := cdS_0_1) (luk_0_1 5) zg5
theorem lq_16 : cd_L[16]? = (some (some (.aconst_null, 17, 0, 0, 0, .int 0)) : Option (Option zE)) := zlch (a := cdS_0_1) (luk_0_1 6) zg6
theorem lq_17 : cd_L[17]? = (some (some (.istore 3, 18, 3, 0, 0, .null)) : Option (Option zE)) := zlch (a := cdS_0_1) (luk_0_1 7) zg7
theorem lq_18 : cd_L[18]? = (some (some (.iload 3, 19, 3, 0, 0, .null)) : Option (Option zE)) := zlch (a := cdS_0_1) (luk_0_1 8) zg8
theorem lq_19 : cd_L[19]? = (some (some (.aload 0, 20, 0, 0, 0, .null)) : Option (Option zE)) := zlch (a := cdS_0_1) (luk_0_1 9) zg9
theorem lq_20 : cd_L[20]? = (some (some (.i2s, 21, 0, 0, 0, .null)) : Option (Option zE)) := zlch (a := cdS_0_2) (luk_0_2 0) zg0
theorem lq_21 : cd_L[21]? = (some (some (.aconst_null, 23, 0, 0, 0, .int 8)) : Option (Option zE)) := zlch (a := cdS_0_2) (luk_0_2 1) zg1
theorem lq_23 : cd_L[23]? = (some (some (.isub, 24, 0, 0, 0, .null)) : Option (Option zE)) := zlch (a := cdS_0_2) (luk_0_2 3) zg3
theorem lq_24 : cd_L[24]? = (some (some (.if_icmp .gt 0, 27, 2144, 0, 0, .null)) : Option (Option zE)) := zlch (a := cdS_0_2) (luk_0_2 4) zg4
theorem lq_27 : cd_L[27]? = (some (some (.aload 0, 28, 0, 0, 0, .null)) : Option (Option zE)) := zlch (a := cdS_0_2) (luk_0_2 7) zg7
theorem lq_28 : cd_L[28]? = (some (some (.iload 3, 29, 3, 0, 0, .null)) : Option (Option zE)) := zlch (a := cdS_0_2) (luk_0_2 8) zg8
theorem lq_29 : cd_L[29]? = (some (some (.saload, 30, 0, 0, 0, .null)) : Option (Option zE)) := zlch (a := cdS_0_2) (luk_0_2 9) zg9
theorem lq_30 : cd_L[30]? = (some (some (.aconst_null, 32, 0, 0, 0, .int 63)) : Option (Option zE)) := zlch (a := cdS_0_3) (luk_0_3 0) zg0
theorem lq_32 : cd_L[32]? = (some (some (.iand, 33, 0, 0, 0, .null)) : Option (Option zE)) := zlch (a := cdS_0_3) (luk_0_3 2) zg2
theorem lq_33 : cd_L[33]? = (some (some (.tableswitch 2138 0 47 #[240, 263, 286, 319, 372, 425, 468, 511, 554, 597, 630, 663, 726, 789, 812, 835, 858, 901, 944, 977, 1046, 1079, 1142, 1185, 1304, 1327, 1370, 1393, 1462, 1485, 1528, 1571, 1624, 1657, 1680, 1713, 1746, 1799, 1822, 1855, 1888, 1921, 1970, 1993, 2026, 2069, 2092, 2115], 240, 0, 0, 0, .null)) : Option (Option zE)) := zlch (a := cdS_0_3) (luk_0_3 3) zg3
theorem lq_240 : cd_L[240]? = (some (some (.aload 1, 241, 1, 0, 0, .null)) : Option (Option zE)) := zlch (a := cdS_2_4) (luk_2_4 0) zg0
theorem lq_241 : cd_L[241]? = (some (some (.aload 0, 242, 0, 0, 0, .null)) : Option (Option zE)) := zlch (a := cdS_2_4) (luk_2_4 1) zg1
theorem lq_242 : cd_L[242]? = (some (some (.iload 3, 243, 3, 0, 0, .null)) : Option (Option zE)) := zlch (a := cdS_2_4) (luk_2_4 2) zg2
theorem lq_243 : cd_L[243]? = (some (some (.aconst_null, 244, 0, 0, 0, .int 1)) : Option (Option zE)) := zlch (a := cdS_2_4) (luk_2_4 3) zg3
theorem lq_244 : cd_L[244]? = (some (some (.iadd, 245, 0, 0, 0, .null)) : Option (Option zE)) := zlch (a := cdS_2_4) (luk_2_4 4) zg4
theorem lq_245 : cd_L[245]? = (some (some (.saload, 246, 0, 0, 0, .null)) : Option (Option zE)) := zlch (a := cdS_2_4) (luk_2_4 5) zg5
theorem lq_246 : cd_L[246]? = (some (some (.invokevirtual 0, 249, 110, 1, 11, .null)) : Option (Option zE)) := zlch (a := cdS_2_4) (luk_2_4 6) zg6
theorem lq_249 : cd_L[249]? = (some (some (.pop, 250, 0, 0, 0, .null)) : Option (Option zE)) := zlch (a := cdS_2_4) (luk_2_4 9) zg9
theorem lq_250 : cd_L[250]? = (some (some (.aload 2, 251, 2, 0, 0, .null)) : Option (Option zE)) := zlch (a := cdS_2_5) (luk_2_5 0) zg0
theorem lq_251 : cd_L[251]? = (some (some (.aload 0, 252, 0, 0, 0, .null)) : Option (Option zE)) := zlch (a := cdS_2_5) (luk_2_5 1) zg1
theorem lq_252 : cd_L[252]? = (some (some (.iload 3, 253, 3, 0, 0, .null)) : Option (Option zE)) := zlch (a := cdS_2_5) (luk_2_5 2) zg2
theorem lq_253 : cd_L[253]? = (some (some (.aconst_null, 254, 0, 0, 0, .int 1)) : Option (Option zE)) := zlch (a := cdS_2_5) (luk_2_5 3) zg3
theorem lq_254 : cd_L[254]? = (some (some (.iadd, 255, 0, 0, 0, .null)) : Option (Option zE)) := zlch (a := cdS_2_5) (luk_2_5 4) zg4
theorem lq_255 : cd_L[255]? = (some (some (.saload, 256, 0, 0, 0, .null)) : Option (Option zE)) := zlch (a := cdS_2_5) (luk_2_5 5) zg5
theorem lq_256 : cd_L[256]? = (some (some (.invokevirtual 0, 259, 174, 1, 12, .null)) : Option (Option zE)) := zlch (a := cdS_2_5) (luk_2_5 6) zg6
theorem lq_259 : cd_L[259]? = (some (some (.pop, 260, 0, 0, 0, .null)) : Option (Option zE)) := zlch (a := cdS_2_5) (luk_2_5 9) zg9
theorem lq_260 : cd_L[260]? = (some (some (.goto 0, 263, 2138, 0, 0, .null)) : Option (Option zE)) := zlch (a := cdS_2_6) (luk_2_6 0) zg0
theorem lq_263 : cd_L[263]? = (some (some (.aload 1, 264, 1, 0, 0, .null)) : Option (Option zE)) := zlch (a := cdS_2_6) (luk_2_6 3) zg3
theorem lq_264 : cd_L[264]? = (some (some (.aload 0, 265, 0, 0, 0, .null)) : Option (Option zE)) := zlch (a := cdS_2_6) (luk_2_6 4) zg4
theorem lq_265 : cd_L[265]? = (some (some (.iload 3, 266, 3, 0, 0, .null)) : Option (Option zE)) := zlch (a := cdS_2_6) (luk_2_6 5) zg5
theorem lq_266 : cd_L[266]? = (some (some (.aconst_null, 267, 0, 0, 0, .int 1)) : Option (Option zE)) := zlch (a := cdS_2_6) (luk_2_6 6) zg6
theorem lq_267 : cd_L[267]? = (some (some (.iadd, 268, 0, 0, 0, .null)) : Option (Option zE)) := zlch (a := cdS_2_6) (luk_2_6 7) zg7
theorem lq_268 : cd_L[268]? = (some (some (.saload, 269, 0, 0, 0, .null)) : Option (Option zE)) := zlch (a := cdS_2_6) (luk_2_6 8) zg8
theorem lq_269 : cd_L[269]? = (some (some (.invokevirtual 0, 272, 111, 1, 11, .null)) : Option (Option zE)) := zlch (a := cdS_2_6) (luk_2_6 9) zg9
theorem lq_272 : cd_L[272]? = (some (some (.pop, 273, 0, 0, 0, .null)) : Option (Option zE)) := zlch (a := cdS_2_7) (luk_2_7 2) zg2
theorem lq_273 : cd_L[273]? = (some (some (.aload 2, 274, 2, 0, 0, .null)) : Option (Option zE)) := zlch (a := cdS_2_7) (luk_2_7 3) zg3
theorem lq_274 : cd_L[274]? = (some (some (.aload 0, 275, 0, 0, 0, .null)) : Option (Option zE)) := zlch (a := cdS_2_7) (luk_2_7 4) zg4
theorem lq_275 : cd_L[275]? = (some (some (.iload 3, 276, 3, 0, 0, .null)) : Option (Option zE)) := zlch (a := cdS_2_7) (luk_2_7 5) zg5
theorem lq_276 : cd_L[276]? = (some (some (.aconst_null, 277, 0, 0, 0, .int 1)) : Option (Option zE)) := zlch (a := cdS_2_7) (luk_2_7 6) zg6
theorem lq_277 : cd_L[277]? = (some (some (.iadd, 278, 0, 0, 0, .null)) : Option (Option zE)) := zlch (a := cdS_2_7) (luk_2_7 7) zg7
theorem lq_278 : cd_L[278]? = (some (some (.saload, 279, 0, 0, 0, .null)) : Option (Option zE)) := zlch (a := cdS_2_7) (luk_2_7 8) zg8
theorem lq_279 : cd_L[279]? = (some (some (.invokevirtual 0, 282, 179, 1, 12, .null)) : Option (Option zE)) := zlch (a := cdS_2_7) (luk_2_7 9) zg9
theorem lq_282 : cd_L[282]? = (some (some (.pop, 283, 0, 0, 0, .null)) : Option (Option zE)) := zlch (a := cdS_2_8) (luk_2_8 2) zg2
theorem lq_283 : cd_L[283]? = (some (some (.goto 0, 286, 2138, 0, 0, .null)) : Option (Option zE)) := zlch (a := cdS_2_8) (luk_2_8 3) zg3
theorem lq_286 : cd_L[286]? = (some (some (.aload 1, 287, 1, 0, 0, .null)) : Option (Option zE)) := zlch (a := cdS_2_8) (luk_2_8 6) zg6
theorem lq_287 : cd_L[287]? = (some (some (.aload 0, 288, 0, 0, 0, .null)) : Option (Option zE)) := zlch (a := cdS_2_8) (luk_2_8 7) zg7
theorem lq_288 : cd_L[288]? = (some (some (.iload 3, 289, 3, 0, 0, .null)) : Option (Option zE)) := zlch (a := cdS_2_8) (luk_2_8 8) zg8
theorem lq_289 : cd_L[289]? = (some (some (.aconst_null, 290, 0, 0, 0, .int 1)) : Option (Option zE)) := zlch (a := cdS_2_8) (luk_2_8 9) zg9
theorem lq_290 : cd_L[290]? = (some (some (.iadd, 291, 0, 0, 0, .null)) : Option (Option zE)) := zlch (a := cdS_2_9) (luk_2_9 0) zg0
theorem lq_291 : cd_L[291]? = (some (some (.saload, 292, 0, 0, 0, .null)) : Option (Option zE)) := zlch (a := cdS_2_9) (luk_2_9 1) zg1
theorem lq_292 : cd_L[292]? = (some (some (.aload 0, 293, 0, 0, 0, .null)) : Option (Option zE)) := zlch (a := cdS_2_9) (luk_2_9 2) zg2
theorem lq_293 : cd_L[293]? = (some (some (.iload 3, 294, 3, 0, 0, .null)) : Option (Option zE)) := zlch (a := cdS_2_9) (luk_2_9 3) zg3
theorem lq_294 : cd_L[294]? = (some (some (.aconst_null, 295, 0, 0, 0, .int 2)) : Option (Option zE)) := zlch (a := cdS_2_9) (luk_2_9 4) zg4
theorem lq_295 : cd_L[295]? = (some (some (.iadd, 296, 0, 0, 0, .null)) : Option (Option zE)) := zlch (a := cdS_2_9) (luk_2_9 5) zg5
theorem lq_296 : cd_L[296]? = (some (some (.saload, 297, 0, 0, 0, .null)) : Option (Option zE)) := zlch (a := cdS_2_9) (luk_2_9 6) zg6
theorem lq_297 : cd_L[297]? = (some (some (.invokevirtual 0, 300, 112, 2, 11, .null)) : Option (Option zE)) := zlch (a := cdS_2_9) (luk_2_9 7) zg7
theorem lq_300 : cd_L[300]? = (some (some (.pop, 301, 0, 0, 0, .null)) : Option (Option zE)) := zlch (a := cdS_3_0) (luk_3_0 0) zg0
theorem lq_301 : cd_L[301]? = (some (some (.aload 2, 302, 2, 0, 0, .null)) : Option (Option zE)) := zlch (a := cdS_3_0) (luk_3_0 1) zg1
theorem lq_302 : cd_L[302]? = (some (some (.aload 0, 303, 0, 0, 0, .null)) : Option (Option zE)) := zlch (a := cdS_3_0) (luk_3_0 2) zg2
theorem lq_303 : cd_L[303]? = (some (some (.iload 3, 304, 3, 0, 0, .null)) : Option (Option zE)) := zlch (a := cdS_3_0) (luk_3_0 3) zg3
theorem lq_304 : cd_L[304]? = (some (some (.aconst_null, 305, 0, 0, 0, .int 1)) : Option (Option zE)) := zlch (a := cdS_3_0) (luk_3_0 4) zg4
theorem lq_305 : cd_L[305]? = (some (some (.iadd, 306, 0, 0, 0, .null)) : Option (Option zE)) := zlch (a := cdS_3_0) (luk_3_0 5) zg5
theorem lq_306 : cd_L[306]? = (some (some (.saload, 307, 0, 0, 0, .null)) : Option (Option zE)) := zlch (a := cdS_3_0) (luk_3_0 6) zg6
theorem lq_307 : cd_L[307]? = (some (some (.aload 0, 308, 0, 0, 0, .null)) : Option (Option zE)) := zlch (a := cdS_3_0) (luk_3_0 7) zg7
theorem lq_308 : cd_L[308]? = (some (some (.iload 3, 309, 3, 0, 0, .null)) : Option (Option zE)) := zlch (a := cdS_3_0) (luk_3_0 8) zg8
theorem lq_309 : cd_L[309]? = (some (some (.aconst_null, 310, 0, 0, 0, .int 2)) : Option (Option zE)) := zlch (a := cdS_3_0) (luk_3_0 9) zg9
theorem lq_310 : cd_L[310]? = (some (some (.iadd, 311, 0, 0, 0, .null)) : Option (Option zE)) := zlch (a := cdS_3_1) (luk_3_1 0) zg0
theorem lq_311 : cd_L[311]? = (some (some (.saload, 312, 0, 0, 0, .null)) : Option (Option zE)) := zlch (a := cdS_3_1) (luk_3_1 1) zg1
theorem lq_312 : cd_L[312]? = (some (some (.invokevirtual 0, 315, 180, 2, 12, .null)) : Option (Option zE)) := zlch (a := cdS_3_1) (luk_3_1 2) zg2
theorem lq_315 : cd_L[315]? = (some (some (.pop, 316, 0, 0, 0, .null)) : Option (Option zE)) := zlch (a := cdS_3_1) (luk_3_1 5) zg5
theorem lq_316 : cd_L[316]? = (some (some (.goto 0, 319, 2138, 0, 0, .null)) : Option (Option zE)) := zlch (a := cdS_3_1) (luk_3_1 6) zg6
theorem lq_319 : cd_L[319]? = (some (some (.aload 1, 320, 1, 0, 0, .null)) : Option (Option zE)) := zlch (a := cdS_3_1) (luk_3_1 9) zg9
theorem lq_320 : cd_L[320]? = (some (some (.aload 0, 321, 0, 0, 0, .null)) : Option (Option zE)) := zlch (a := cdS_3_2) (luk_3_2 0) zg0
theorem lq_321 : cd_L[321]? = (some (some (.iload 3, 322, 3, 0, 0, .null)) : Option (Option zE)) := zlch (a := cdS_3_2) (luk_3_2 1) zg1
theorem lq_322 : cd_L[322]? = (some (some (.aconst_null, 323, 0, 0, 0, .int 1)) : Option (Option zE)) := zlch (a := cdS_3_2) (luk_3_2 2) zg2
theorem lq_323 : cd_L[323]? = (some (some (.iadd, 324, 0, 0, 0, .null)) : Option (Option zE)) := zlch (a := cdS_3_2) (luk_3_2 3) zg3
theorem lq_324 : cd_L[324]? = (some (some (.saload, 325, 0, 0, 0, .null)) : Option (Option zE)) := zlch (a := cdS_3_2) (luk_3_2 4) zg4
theorem lq_325 : cd_L[325]? = (some (some (.aload 0, 326, 0, 0, 0, .null)) : Option (Option zE)) := zlch (a := cdS_3_2) (luk_3_2 5) zg5
theorem lq_326 : cd_L[326]? = (some (some (.iload 3, 327, 3, 0, 0, .null)) : Option (Option zE)) := zlch (a := cdS_3_2) (luk_3_2 6) zg6
theorem lq_327 : cd_L[327]? = (some (some (.aconst_null, 328, 0, 0, 0, .int 2)) : Option (Option zE)) := zlch (a := cdS_3_2) (luk_3_2 7) zg7
theorem lq_328 : cd_L[328]? = (some (some (.iadd, 329, 0, 0, 0, .null)) : Option (Option zE)) := zlch (a := cdS_3_2) (luk_3_2 8) zg8
theorem lq_329 : cd_L[329]? = (some (some (.saload, 330, 0, 0, 0, .null)) : Option (Option zE)) := zlch (a := cdS_3_2) (luk_3_2 9) zg9
theorem lq_330 : cd_L[330]? = (some (some (.aload 0, 331, 0, 0, 0, .null)) : Option (Option zE)) := zlch (a := cdS_3_3) (luk_3_3 0) zg0
theorem lq_331 : cd_L[331]? = (some (some (.iload 3, 332, 3, 0, 0, .null)) : Option (Option zE)) := zlch (a := cdS_3_3) (luk_3_3 1) zg1
theorem lq_332 : cd_L[332]? = (some (some (.aconst_null, 333, 0, 0, 0, .int 3)) : Option (Option zE)) := zlch (a := cdS_3_3) (luk_3_3 2) zg2
theorem lq_333 : cd_L[333]? = (some (some (.iadd, 334, 0, 0, 0, .null)) : Option (Option zE)) := zlch (a := cdS_3_3) (luk_3_3 3) zg3
theorem lq_334 : cd_L[334]? = (some (some (.saload, 335, 0, 0, 0, .null)) : Option (Option zE)) := zlch (a := cdS_3_3) (luk_3_3 4) zg4
theorem lq_335 : cd_L[335]? = (some (some (.aload 0, 336, 0, 0, 0, .null)) : Option (Option zE)) := zlch (a := cdS_3_3) (luk_3_3 5) zg5
theorem lq_336 : cd_L[336]? = (some (some (.iload 3, 337, 3, 0, 0, .null)) : Option (Option zE)) := zlch (a := cdS_3_3) (luk_3_3 6) zg6
theorem lq_337 : cd_L[337]? = (some (some (.aconst_null, 338, 0, 0, 0, .int 4)) : Option (Option zE)) := zlch (a := cdS_3_3) (luk_3_3 7) zg7
theorem lq_338 : cd_L[338]? = (some (some (.iadd, 339, 0, 0, 0, .null)) : Option (Option zE)) := zlch (a := cdS_3_3) (luk_3_3 8) zg8
theorem lq_339 : cd_L[339]? = (some (some (.saload, 340, 0, 0, 0, .null)) : Option (Option zE)) := zlch (a := cdS_3_3) (luk_3_3 9) zg9
theorem lq_340 : cd_L[340]? = (some (some (.invokevirtual 0, 343, 113, 4, 11, .null)) : Option (Option zE)) := zlch (a := cdS_3_4) (luk_3_4 0) zg0
theorem lq_343 : cd_L[343]? = (some (some (.pop, 344, 0, 0, 0, .null)) : Option (Option zE)) := zlch (a := cdS_3_4) (luk_3_4 3) zg3
theorem lq_344 : cd_L[344]? = (some (some (.aload 2, 345, 2, 0, 0, .null)) : Option (Option zE)) := zlch (a := cdS_3_4) (luk_3_4 4) zg4
theorem lq_345 : cd_L[345]? = (some (some (.aload 0, 346, 0, 0, 0, .null)) : Option (Option zE)) := zlch (a := cdS_3_4) (luk_3_4 5) zg5
theorem lq_346 : cd_L[346]? = (some (some (.iload 3, 347, 3, 0, 0, .null)) : Option (Option zE)) := zlch (a := cdS_3_4) (luk_3_4 6) zg6
theorem lq_347 : cd_L[347]? = (some (some (.aconst_null, 348, 0, 0, 0, .int 1)) : Option (Option zE)) := zlch (a := cdS_3_4) (luk_3_4 7) zg7
theorem lq_348 : cd_L[348]? = (some (some (.iadd, 349, 0, 0, 0, .null)) : Option (Option zE)) := zlch (a := cdS_3_4) (luk_3_4 8) zg8
theorem lq_349 : cd_L[349]? = (some (some (.saload, 350, 0, 0, 0, .null)) : Option (Option zE)) := zlch (a := cdS_3_4) (luk_3_4 9) zg9
theorem lq_350 : cd_L[350]? = (some (some (.aload 0, 351, 0, 0, 0, .null)) : Option (Option zE)) := zlch (a := cdS_3_5) (luk_3_5 0) zg0
theorem lq_351 : cd_L[351]? = (some (some (.iload 3, 352, 3, 0, 0, .null)) : Option (Option zE)) := zlch (a := cdS_3_5) (luk_3_5 1) zg1
theorem lq_352 : cd_L[352]? = (some (some (.aconst_null, 353, 0, 0, 0, .int 2)) : Option (Option zE)) := zlch (a := cdS_3_5) (luk_3_5 2) zg2
theorem lq_353 : cd_L[353]? = (some (some (.iadd, 354, 0, 0, 0, .null)) : Option (Option zE)) := zlch (a := cdS_3_5) (luk_3_5 3) zg3
theorem lq_354 : cd_L[354]? = (some (some (.saload, 355, 0, 0, 0, .null)) : Option (Option zE)) := zlch (a := cdS_3_5) (luk_3_5 4) zg4
theorem lq_355 : cd_L[355]? = (some (some (.aload 0, 356, 0, 0, 0, .null)) : Option (Option zE)) := zlch (a := cdS_3_5) (luk_3_5 5) zg5
theorem lq_356 : cd_L[356]? = (some (some (.iload 3, 357, 3, 0, 0, .null)) : Option (Option zE)) := zlch (a := cdS_3_5) (luk_3_5 6) zg6
theorem lq_357 : cd_L[357]? = (some (some (.aconst_null, 358, 0, 0, 0, .int 3)) : Option (Option zE)) := zlch (a := cdS_3_5) (luk_3_5 7) zg7
theorem lq_358 : cd_L[358]? = (some (some (.iadd, 359, 0, 0, 0, .null)) : Option (Option zE)) := zlch (a := cdS_3_5) (luk_3_5 8) zg8
theorem lq_359 : cd_L[359]? = (some (some (.saload, 360, 0, 0, 0, .null)) : Option (Option zE)) := zlch (a := cdS_3_5) (luk_3_5 9) zg9
theorem lq_360 : cd_L[360]? = (some (some (.aload 0, 361, 0, 0, 0, .null)) : Option (Option zE)) := zlch (a := cdS_3_6) (luk_3_6 0) zg0
theorem lq_361 : cd_L[361]? = (some (some (.iload 3, 362, 3, 0, 0, .null)) : Option (Option zE)) := zlch (a := cdS_3_6) (luk_3_6 1) zg1
theorem lq_362 : cd_L[362]? = (some (some (.aconst_null, 363, 0, 0, 0, .int 4)) : Option (Option zE)) := zlch (a := cdS_3_6) (luk_3_6 2) zg2
theorem lq_363 : cd_L[363]? = (some (some (.iadd, 364, 0, 0, 0, .null)) : Option (Option zE)) := zlch (a := cdS_3_6) (luk_3_6 3) zg3
theorem lq_364 : cd_L[364]? = (some (some (.saload, 365, 0, 0, 0, .null)) : Option (Option zE)) := zlch (a := cdS_3_6) (luk_3_6 4) zg4
theorem lq_365 : cd_L[365]? = (some (some (.invokevirtual 0, 368, 181, 4, 12, .null)) : Option (Option zE)) := zlch (a := cdS_3_6) (luk_3_6 5) zg5
theorem lq_368 : cd_L[368]? = (some (some (.pop, 369, 0, 0, 0, .null)) : Option (Option zE)) := zlch (a := cdS_3_6) (luk_3_6 8) zg8
theorem lq_369 : cd_L[369]? = (some (some (.goto 0, 372, 2138, 0, 0, .null)) : Option (Option zE)) := zlch (a := cdS_3_6) (luk_3_6 9) zg9
theorem lq_372 : cd_L[372]? = (some (some (.aload 1, 373, 1, 0, 0, .null)) : Option (Option zE)) := zlch (a := cdS_3_7) (luk_3_7 2) zg2
theorem lq_373 : cd_L[373]? = (some (some (.aload 0, 374, 0, 0, 0, .null)) : Option (Option zE)) := zlch (a := cdS_3_7) (luk_3_7 3) zg3
theorem lq_374 : cd_L[374]? = (some (some (.iload 3, 375, 3, 0, 0, .null)) : Option (Option zE)) := zlch (a := cdS_3_7) (luk_3_7 4) zg4
theorem lq_375 : cd_L[375]? = (some (some (.aconst_null, 376, 0, 0, 0, .int 1)) : Option (Option zE)) := zlch (a := cdS_3_7) (luk_3_7 5) zg5
theorem lq_376 : cd_L[376]? = (some (some (.iadd, 377, 0, 0, 0, .null)) : Option (Option zE)) := zlch (a := cdS_3_7) (luk_3_7 6) zg6
theorem lq_377 : cd_L[377]? = (some (some (.saload, 378, 0, 0, 0, .null)) : Option (Option zE)) := zlch (a := cdS_3_7) (luk_3_7 7) zg7
theorem lq_378 : cd_L[378]? = (some (some (.aload 0, 379, 0, 0, 0, .null)) : Option (Option zE)) := zlch (a := cdS_3_7) (luk_3_7 8) zg8
theorem lq_379 : cd_L[379]? = (some (some (.iload 3, 380, 3, 0, 0, .null)) : Option (Option zE)) := zlch (a := cdS_3_7) (luk_3_7 9) zg9
theorem lq_380 : cd_L[380]? = (some (some (.aconst_null, 381, 0, 0, 0, .int 2)) : Option (Option zE)) := zlch (a := cdS_3_8) (luk_3_8 0) zg0
theorem lq_381 : cd_L[381]? = (some (some (.iadd, 382, 0, 0, 0, .null)) : Option (Option zE)) := zlch (a := cdS_3_8) (luk_3_8 1) zg1
theorem lq_382 : cd_L[382]? = (some (some (.saload, 383, 0, 0, 0, .null)) : Option (Option zE)) := zlch (a := cdS_3_8) (luk_3_8 2) zg2
theorem lq_383 : cd_L[383]? = (some (some (.aload 0, 384, 0, 0, 0, .null)) : Option (Option zE)) := zlch (a := cdS_3_8) (luk_3_8 3) zg3
theorem lq_384 : cd_L[384]? = (some (some (.iload 3, 385, 3, 0, 0, .null)) : Option (Option zE)) := zlch (a := cdS_3_8) (luk_3_8 4) zg4
theorem lq_385 : cd_L[385]? = (some (some (.aconst_null, 386, 0, 0, 0, .int 3)) : Option (Option zE)) := zlch (a := cdS_3_8) (luk_3_8 5) zg5
theorem lq_386 : cd_L[386]? = (some (some (.iadd, 387, 0, 0, 0, .null)) : Option (Option zE)) := zlch (a := cdS_3_8) (luk_3_8 6) zg6
theorem lq_387 : cd_L[387]? = (some (some (.saload, 388, 0, 0, 0, .null)) : Option (Option zE)) := zlch (a := cdS_3_8) (luk_3_8 7) zg7
theorem lq_388 : cd_L[388]? = (some (some (.aload 0, 389, 0, 0, 0, .null)) : Option (Option zE)) := zlch (a := cdS_3_8) (luk_3_8 8) zg8
theorem lq_389 : cd_L[389]? = (some (some (.iload 3, 390, 3, 0, 0, .null)) : Option (Option zE)) := zlch (a := cdS_3_8) (luk_3_8 9) zg9
theorem lq_390 : cd_L[390]? = (some (some (.aconst_null, 391, 0, 0, 0, .int 4)) : Option (Option zE)) := zlch (a := cdS_3_9) (luk_3_9 0) zg0
theorem lq_391 : cd_L[391]? = (some (some (.iadd, 392, 0, 0, 0, .null)) : Option (Option zE)) := zlch (a := cdS_3_9) (luk_3_9 1) zg1
theorem lq_392 : cd_L[392]? = (some (some (.saload, 393, 0, 0, 0, .null)) : Option (Option zE)) := zlch (a := cdS_3_9) (luk_3_9 2) zg2
theorem lq_393 : cd_L[393]? = (some (some (.invokevirtual 0, 396, 114, 4, 11, .null)) : Option (Option zE)) := zlch (a := cdS_3_9) (luk_3_9 3) zg3
theorem lq_396 : cd_L[396]? = (some (some (.pop, 397, 0, 0, 0, .null)) : Option (Option zE)) := zlch (a := cdS_3_9) (luk_3_9 6) zg6
theorem lq_397 : cd_L[397]? = (some (some (.aload 2, 398, 2, 0, 0, .null)) : Option (Option zE)) := zlch (a := cdS_3_9) (luk_3_9 7) zg7
theorem lq_398 : cd_L[398]? = (some (some (.aload 0, 399, 0, 0, 0, .null)) : Option (Option zE)) := zlch (a := cdS_3_9) (luk_3_9 8) zg8
theorem lq_399 : cd_L[399]? = (some (some (.iload 3, 400, 3, 0, 0, .null)) : Option (Option zE)) := zlch (a := cdS_3_9) (luk_3_9 9) zg9
theorem lq_400 : cd_L[400]? = (some (some (.aconst_null, 401, 0, 0, 0, .int 1)) : Option (Option zE)) := zlch (a := cdS_4_0) (luk_4_0 0) zg0
theorem lq_401 : cd_L[401]? = (some (some (.iadd, 402, 0, 0, 0, .null)) : Option (Option zE)) := zlch (a := cdS_4_0) (luk_4_0 1) zg1
theorem lq_402 : cd_L[402]? = (some (some (.saload, 403, 0, 0, 0, .null)) : Option (Option zE)) := zlch (a := cdS_4_0) (luk_4_0 2) zg2
theorem lq_403 : cd_L[403]? = (some (some (.aload 0, 404, 0, 0, 0, .null)) : Option (Option zE)) := zlch (a := cdS_4_0) (luk_4_0 3) zg3
theorem lq_404 : cd_L[404]? = (some (some (.iload 3, 405, 3, 0, 0, .null)) : Option (Option zE)) := zlch (a := cdS_4_0) (luk_4_0 4) zg4
theorem lq_405 : cd_L[405]? = (some (some (.aconst_null, 406, 0, 0, 0, .int 2)) : Option (Option zE)) := zlch (a := cdS_4_0) (luk_4_0 5) zg5
theorem lq_406 : cd_L[406]? = (some (some (.iadd, 407, 0, 0, 0, .null)) : Option (Option zE)) := zlch (a := cdS_4_0) (luk_4_0 6) zg6
theorem lq_407 : cd_L[407]? = (some (some (.saload, 408, 0, 0, 0, .null)) : Option (Option zE)) := zlch (a := cdS_4_0) (luk_4_0 7) zg7
theorem lq_408 : cd_L[408]? = (some (some (.aload 0, 409, 0, 0, 0, .null)) : Option (Option zE)) := zlch (a := cdS_4_0) (luk_4_0 8) zg8
theorem lq_409 : cd_L[409]? = (some (some (.iload 3, 410, 3, 0, 0, .null)) : Option (Option zE)) := zlch (a := cdS_4_0) (luk_4_0 9) zg9
theorem lq_410 : cd_L[410]? = (some (some (.aconst_null, 411, 0, 0, 0, .int 3)) : Option (Option zE)) := zlch (a := cdS_4_1) (luk_4_1 0) zg0
theorem lq_411 : cd_L[411]? = (some (some (.iadd, 412, 0, 0, 0, .null)) : Option (Option zE)) := zlch (a := cdS_4_1) (luk_4_1 1) zg1
theorem lq_412 : cd_L[412]? = (some (some (.saload, 413, 0, 0, 0, .null)) : Option (Option zE)) := zlch (a := cdS_4_1) (luk_4_1 2) zg2
theorem lq_413 : cd_L[413]? = (some (some (.aload 0, 414, 0, 0, 0, .null)) : Option (Option zE)) := zlch (a := cdS_4_1) (luk_4_1 3) zg3
theorem lq_414 : cd_L[414]? = (some (some (.iload 3, 415, 3, 0, 0, .null)) : Option (Option zE)) := zlch (a := cdS_4_1) (luk_4_1 4) zg4
theorem lq_415 : cd_L[415]? = (some (some (.aconst_null, 416, 0, 0, 0, .int 4)) : Option (Option zE)) := zlch (a := cdS_4_1) (luk_4_1 5) zg5
theorem lq_416 : cd_L[416]? = (some (some (.iadd, 417, 0, 0, 0, .null)) : Option (Option zE)) := zlch (a := cdS_4_1) (luk_4_1 6) zg6
theorem lq_417 : cd_L[417]? = (some (some (.saload, 418, 0, 0, 0, .null)) : Option (Option zE)) := zlch (a := cdS_4_1) (luk_4_1 7) zg7
theorem lq_418 : cd_L[418]? = (some (some (.invokevirtual 0, 421, 182, 4, 12, .null)) : Option (Option zE)) := zlch (a := cdS_4_1) (luk_4_1 8) zg8
theorem lq_421 : cd_L[421]? = (some (some (.pop, 422, 0, 0, 0, .null)) : Option (Option zE)) := zlch (a := cdS_4_2) (luk_4_2 1) zg1
theorem lq_422 : cd_L[422]? = (some (some (.goto 0, 425, 2138, 0, 0, .null)) : Option (Option zE)) := zlch (a := cdS_4_2) (luk_4_2 2) zg2
theorem lq_425 : cd_L[425]? = (some (some (.aload 1, 426, 1, 0, 0, .null)) : Option (Option zE)) := zlch (a := cdS_4_2) (luk_4_2 5) zg5
theorem lq_426 : cd_L[426]? = (some (some (.aload 0, 427, 0, 0, 0, .null)) : Option (Option zE)) := zlch (a := cdS_4_2) (luk_4_2 6) zg6
theorem lq_427 : cd_L[427]? = (some (some (.iload 3, 428, 3, 0, 0, .null)) : Option (Option zE)) := zlch (a := cdS_4_2) (luk_4_2 7) zg7
theorem lq_428 : cd_L[428]? = (some (some (.aconst_null, 429, 0, 0, 0, .int 1)) : Option (Option zE)) := zlch (a := cdS_4_2) (luk_4_2 8) zg8
theorem lq_429 : cd_L[429]? = (some (some (.iadd, 430, 0, 0, 0, .null)) : Option (Option zE)) := zlch (a := cdS_4_2) (luk_4_2 9) zg9
theorem lq_430 : cd_L[430]? = (some (some (.saload, 431, 0, 0, 0, .null)) : Option (Option zE)) := zlch (a := cdS_4_3) (luk_4_3 0) zg0
theorem lq_431 : cd_L[431]? = (some (some (.aload 0, 432, 0, 0, 0, .null)) : Option (Option zE)) := zlch (a := cdS_4_3) (luk_4_3 1) zg1
theorem lq_432 : cd_L[432]? = (some (some (.iload 3, 433, 3, 0, 0, .null)) : Option (Option zE)) := zlch (a := cdS_4_3) (luk_4_3 2) zg2
theorem lq_433 : cd_L[433]? = (some (some (.aconst_null, 434, 0, 0, 0, .int 2)) : Option (Option zE)) := zlch (a := cdS_4_3) (luk_4_3 3) zg3
theorem lq_434 : cd_L[434]? = (some (some (.iadd, 435, 0, 0, 0, .null)) : Option (Option zE)) := zlch (a := cdS_4_3) (luk_4_3 4) zg4
theorem lq_435 : cd_L[435]? = (some (some (.saload, 436, 0, 0, 0, .null)) : Option (Option zE)) := zlch (a := cdS_4_3) (luk_4_3 5) zg5
theorem lq_436 : cd_L[436]? = (some (some (.aload 0, 437, 0, 0, 0, .null)) : Option (Option zE)) := zlch (a := cdS_4_3) (luk_4_3 6) zg6
theorem lq_437 : cd_L[437]? = (some (some (.iload 3, 438, 3, 0, 0, .null)) : Option (Option zE)) := zlch (a := cdS_4_3) (luk_4_3 7) zg7
theorem lq_438 : cd_L[438]? = (some (some (.aconst_null, 439, 0, 0, 0, .int 3)) : Option (Option zE)) := zlch (a := cdS_4_3) (luk_4_3 8) zg8
theorem lq_439 : cd_L[439]? = (some (some (.iadd, 440, 0, 0, 0, .null)) : Option (Option zE)) := zlch (a := cdS_4_3) (luk_4_3 9) zg9
theorem lq_440 : cd_L[440]? = (some (some (.saload, 441, 0, 0, 0, .null)) : Option (Option zE)) := zlch (a := cdS_4_4) (luk_4_4 0) zg0
theorem lq_441 : cd_L[441]? = (some (some (.invokevirtual 0, 444, 115, 3, 11, .null)) : Option (Option zE)) := zlch (a := cdS_4_4) (luk_4_4 1) zg1
theorem lq_444 : cd_L[444]? = (some (some (.pop, 445, 0, 0, 0, .null)) : Option (Option zE)) := zlch (a := cdS_4_4) (luk_4_4 4) zg4
theorem lq_445 : cd_L[445]? = (some (some (.aload 2, 446, 2, 0, 0, .null)) : Option (Option zE)) := zlch (a := cdS_4_4) (luk_4_4 5) zg5
theorem lq_446 : cd_L[446]? = (some (some (.aload 0, 447, 0, 0, 0, .null)) : Option (Option zE)) := zlch (a := cdS_4_4) (luk_4_4 6) zg6
theorem lq_447 : cd_L[447]? = (some (some (.iload 3, 448, 3, 0, 0, .null)) : Option (Option zE)) := zlch (a := cdS_4_4) (luk_4_4 7) zg7
theorem lq_448 : cd_L[448]? = (some (some (.aconst_null, 449, 0, 0, 0, .int 1)) : Option (Option zE)) := zlch (a := cdS_4_4) (luk_4_4 8) zg8
theorem lq_449 : cd_L[449]? = (some (some (.iadd, 450, 0, 0, 0, .null)) : Option (Option zE)) := zlch (a := cdS_4_4) (luk_4_4 9) zg9
theorem lq_450 : cd_L[450]? = (some (some (.saload, 451, 0, 0, 0, .null)) : Option (Option zE)) := zlch (a := cdS_4_5) (luk_4_5 0) zg0
theorem lq_451 : cd_L[451]? = (some (some (.aload 0, 452, 0, 0, 0, .null)) : Option (Option zE)) := zlch (a := cdS_4_5) (luk_4_5 1) zg1
theorem lq_452 : cd_L[452]? = (some (some (.iload 3, 453, 3, 0, 0, .null)) : Option (Option zE)) := zlch (a := cdS_4_5) (luk_4_5 2) zg2
theorem lq_453 : cd_L[453]? = (some (some (.aconst_null, 454, 0, 0, 0, .int 2)) : Option (Option zE)) := zlch (a := cdS_4_5) (luk_4_5 3) zg3
theorem lq_454 : cd_L[454]? = (some (some (.iadd, 455, 0, 0, 0, .null)) : Option (Option zE)) := zlch (a := cdS_4_5) (luk_4_5 4) zg4
theorem lq_455 : cd_L[455]? = (some (some (.saload, 456, 0, 0, 0, .null)) : Option (Option zE)) := zlch (a := cdS_4_5) (luk_4_5 5) zg5
theorem lq_456 : cd_L[456]? = (some (some (.aload 0, 457, 0, 0, 0, .null)) : Option (Option zE)) := zlch (a := cdS_4_5) (luk_4_5 6) zg6
theorem lq_457 : cd_L[457]? = (some (some (.iload 3, 458, 3, 0, 0, .null)) : Option (Option zE)) := zlch (a := cdS_4_5) (luk_4_5 7) zg7
theorem lq_458 : cd_L[458]? = (some (some (.aconst_null, 459, 0, 0, 0, .int 3)) : Option (Option zE)) := zlch (a := cdS_4_5) (luk_4_5 8) zg8
theorem lq_459 : cd_L[459]? = (some (some (.iadd, 460, 0, 0, 0, .null)) : Option (Option zE)) := zlch (a := cdS_4_5) (luk_4_5 9) zg9
theorem lq_460 : cd_L[460]? = (some (some (.saload, 461, 0, 0, 0, .null)) : Option (Option zE)) := zlch (a := cdS_4_6) (luk_4_6 0) zg0
theorem lq_461 : cd_L[461]? = (some (some (.invokevirtual 0, 464, 183, 3, 12, .null)) : Option (Option zE)) := zlch (a := cdS_4_6) (luk_4_6 1) zg1
theorem lq_464 : cd_L[464]? = (some (some (.pop, 465, 0, 0, 0, .null)) : Option (Option zE)) := zlch (a := cdS_4_6) (luk_4_6 4) zg4
theorem lq_465 : cd_L[465]? = (some (some (.goto 0, 468, 2138, 0, 0, .null)) : Option (Option zE)) := zlch (a := cdS_4_6) (luk_4_6 5) zg5
theorem lq_468 : cd_L[468]? = (some (some (.aload 1, 469, 1, 0, 0, .null)) : Option (Option zE)) := zlch (a := cdS_4_6) (luk_4_6 8) zg8
theorem lq_469 : cd_L[469]? = (some (some (.aload 0, 470, 0, 0, 0, .null)) : Option (Option zE)) := zlch (a := cdS_4_6) (luk_4_6 9) zg9
theorem lq_470 : cd_L[470]? = (some (some (.iload 3, 471, 3, 0, 0, .null)) : Option (Option zE)) := zlch (a := cdS_4_7) (luk_4_7 0) zg0
theorem lq_471 : cd_L[471]? = (some (some (.aconst_null, 472, 0, 0, 0, .int 1)) : Option (Option zE)) := zlch (a := cdS_4_7) (luk_4_7 1) zg1
theorem lq_472 : cd_L[472]? = (some (some (.iadd, 473, 0, 0, 0, .null)) : Option (Option zE)) := zlch (a := cdS_4_7) (luk_4_7 2) zg2
theorem lq_473 : cd_L[473]? = (some (some (.saload, 474, 0, 0, 0, .null)) : Option (Option zE)) := zlch (a := cdS_4_7) (luk_4_7 3) zg3
theorem lq_474 : cd_L[474]? = (some (some (.aload 0, 475, 0, 0, 0, .null)) : Option (Option zE)) := zlch (a := cdS_4_7) (luk_4_7 4) zg4
theorem lq_475 : cd_L[475]? = (some (some (.iload 3, 476, 3, 0, 0, .null)) : Option (Option zE)) := zlch (a := cdS_4_7) (luk_4_7 5) zg5
theorem lq_476 : cd_L[476]? = (some (some (.aconst_null, 477, 0, 0, 0, .int 2)) : Option (Option zE)) := zlch (a := cdS_4_7) (luk_4_7 6) zg6
theorem lq_477 : cd_L[477]? = (some (some (.iadd, 478, 0, 0, 0, .null)) : Option (Option zE)) := zlch (a := cdS_4_7) (luk_4_7 7) zg7
theorem lq_478 : cd_L[478]? = (some (some (.saload, 479, 0, 0, 0, .null)) : Option (Option zE)) := zlch (a := cdS_4_7) (luk_4_7 8) zg8
theorem lq_479 : cd_L[479]? = (some (some (.aload 0, 480, 0, 0, 0, .null)) : Option (Option zE)) := zlch (a := cdS_4_7) (luk_4_7 9) zg9
theorem lq_480 : cd_L[480]? = (some (some (.iload 3, 481, 3, 0, 0, .null)) : Option (Option zE)) := zlch (a := cdS_4_8) (luk_4_8 0) zg0
theorem lq_481 : cd_L[481]? = (some (some (.aconst_null, 482, 0, 0, 0, .int 3)) : Option (Option zE)) := zlch (a := cdS_4_8) (luk_4_8 1) zg1
theorem lq_482 : cd_L[482]? = (some (some (.iadd, 483, 0, 0, 0, .null)) : Option (Option zE)) := zlch (a := cdS_4_8) (luk_4_8 2) zg2
theorem lq_483 : cd_L[483]? = (some (some (.saload, 484, 0, 0, 0, .null)) : Option (Option zE)) := zlch (a := cdS_4_8) (luk_4_8 3) zg3
theorem lq_484 : cd_L[484]? = (some (some (.invokevirtual 0, 487, 116, 3, 11, .null)) : Option (Option zE)) := zlch (a := cdS_4_8) (luk_4_8 4) zg4
theorem lq_487 : cd_L[487]? = (some (some (.pop, 488, 0, 0, 0, .null)) : Option (Option zE)) := zlch (a := cdS_4_8) (luk_4_8 7) zg7
theorem lq_488 : cd_L[488]? = (some (some (.aload 2, 489, 2, 0, 0, .null)) : Option (Option zE)) := zlch (a := cdS_4_8) (luk_4_8 8) zg8
theorem lq_489 : cd_L[489]? = (some (some (.aload 0, 490, 0, 0, 0, .null)) : Option (Option zE)) := zlch (a := cdS_4_8) (luk_4_8 9) zg9
theorem lq_490 : cd_L[490]? = (some (some (.iload 3, 491, 3, 0, 0, .null)) : Option (Option zE)) := zlch (a := cdS_4_9) (luk_4_9 0) zg0
theorem lq_491 : cd_L[491]? = (some (some (.aconst_null, 492, 0, 0, 0, .int 1)) : Option (Option zE)) := zlch (a := cdS_4_9) (luk_4_9 1) zg1
theorem lq_492 : cd_L[492]? = (some (some (.iadd, 493, 0, 0, 0, .null)) : Option (Option zE)) := zlch (a := cdS_4_9) (luk_4_9 2) zg2
theorem lq_493 : cd_L[493]? = (some (some (.saload, 494, 0, 0, 0, .null)) : Option (Option zE)) := zlch (a := cdS_4_9) (luk_4_9 3) zg3
theorem lq_494 : cd_L[494]? = (some (some (.aload 0, 495, 0, 0, 0, .null)) : Option (Option zE)) := zlch (a := cdS_4_9) (luk_4_9 4) zg4
theorem lq_495 : cd_L[495]? = (some (some (.iload 3, 496, 3, 0, 0, .null)) : Option (Option zE)) := zlch (a := cdS_4_9) (luk_4_9 5) zg5
theorem lq_496 : cd_L[496]? = (some (some (.aconst_null, 497, 0, 0, 0, .int 2)) : Option (Option zE)) := zlch (a := cdS_4_9) (luk_4_9 6) zg6
theorem lq_497 : cd_L[497]? = (some (some (.iadd, 498, 0, 0, 0, .null)) : Option (Option zE)) := zlch (a := cdS_4_9) (luk_4_9 7) zg7
theorem lq_498 : cd_L[498]? = (some (some (.saload, 499, 0, 0, 0, .null)) : Option (Option zE)) := zlch (a := cdS_4_9) (luk_4_9 8) zg8
theorem lq_499 : cd_L[499]? = (some (some (.aload 0, 500, 0, 0, 0, .null)) : Option (Option zE)) := zlch (a := cdS_4_9) (luk_4_9 9) zg9
theorem lq_500 : cd_L[500]? = (some (some (.iload 3, 501, 3, 0, 0, .null)) : Option (Option zE)) := zlch (a := cdS_5_0) (luk_5_0 0) zg0
theorem lq_501 : cd_L[501]? = (some (some (.aconst_null, 502, 0, 0, 0, .int 3)) : Option (Option zE)) := zlch (a := cdS_5_0) (luk_5_0 1) zg1
theorem lq_502 : cd_L[502]? = (some (some (.iadd, 503, 0, 0, 0, .null)) : Option (Option zE)) := zlch (a := cdS_5_0) (luk_5_0 2) zg2
theorem lq_503 : cd_L[503]? = (some (some (.saload, 504, 0, 0, 0, .null)) : Option (Option zE)) := zlch (a := cdS_5_0) (luk_5_0 3) zg3
theorem lq_504 : cd_L[504]? = (some (some (.invokevirtual 0, 507, 184, 3, 12, .null)) : Option (Option zE)) := zlch (a := cdS_5_0) (luk_5_0 4) zg4
theorem lq_507 : cd_L[507]? = (some (some (.pop, 508, 0, 0, 0, .null)) : Option (Option zE)) := zlch (a := cdS_5_0) (luk_5_0 7) zg7
theorem lq_508 : cd_L[508]? = (some (some (.goto 0, 511, 2138, 0, 0, .null)) : Option (Option zE)) := zlch (a := cdS_5_0) (luk_5_0 8) zg8
theorem lq_511 : cd_L[511]? = (some (some (.aload 1, 512, 1, 0, 0, .null)) : Option (Option zE)) := zlch (a := cdS_5_1) (luk_5_1 1) zg1
theorem lq_512 : cd_L[512]? = (some (some (.aload 0, 513, 0, 0, 0, .null)) : Option (Option zE)) := zlch (a := cdS_5_1) (luk_5_1 2) zg2
theorem lq_513 : cd_L[513]? = (some (some (.iload 3, 514, 3, 0, 0, .null)) : Option (Option zE)) := zlch (a := cdS_5_1) (luk_5_1 3) zg3
theorem lq_514 : cd_L[514]? = (some (some (.aconst_null, 515, 0, 0, 0, .int 1)) : Option (Option zE)) := zlch (a := cdS_5_1) (luk_5_1 4) zg4
theorem lq_515 : cd_L[515]? = (some (some (.iadd, 516, 0, 0, 0, .null)) : Option (Option zE)) := zlch (a := cdS_5_1) (luk_5_1 5) zg5
theorem lq_516 : cd_L[516]? = (some (some (.saload, 517, 0, 0, 0, .null)) : Option (Option zE)) := zlch (a := cdS_5_1) (luk_5_1 6) zg6
theorem lq_517 : cd_L[517]? = (some (some (.aload 0, 518, 0, 0, 0, .null)) : Option (Option zE)) := zlch (a := cdS_5_1) (luk_5_1 7) zg7
theorem lq_518 : cd_L[518]? = (some (some (.iload 3, 519, 3, 0, 0, .null)) : Option (Option zE)) := zlch (a := cdS_5_1) (luk_5_1 8) zg8
theorem lq_519 : cd_L[519]? = (some (some (.aconst_null, 520, 0, 0, 0, .int 2)) : Option (Option zE)) := zlch (a := cdS_5_1) (luk_5_1 9) zg9
theorem lq_520 : cd_L[520]? = (some (some (.iadd, 521, 0, 0, 0, .null)) : Option (Option zE)) := zlch (a := cdS_5_2) (luk_5_2 0) zg0
theorem lq_521 : cd_L[521]? = (some (some (.saload, 522, 0, 0, 0, .null)) : Option (Option zE)) := zlch (a := cdS_5_2) (luk_5_2 1) zg1
theorem lq_522 : cd_L[522]? = (some (some (.aload 0, 523, 0, 0, 0, .null)) : Option (Option zE)) := zlch (a := cdS_5_2) (luk_5_2 2) zg2
theorem lq_523 : cd_L[523]? = (some (some (.iload 3, 524, 3, 0, 0, .null)) : Option (Option zE)) := zlch (a := cdS_5_2) (luk_5_2 3) zg3
theorem lq_524 : cd_L[524]? = (some (some (.aconst_null, 525, 0, 0, 0, .int 3)) : Option (Option zE)) := zlch (a := cdS_5_2) (luk_5_2 4) zg4
theorem lq_525 : cd_L[525]? = (some (some (.iadd, 526, 0, 0, 0, .null)) : Option (Option zE)) := zlch (a := cdS_5_2) (luk_5_2 5) zg5
theorem lq_526 : cd_L[526]? = (some (some (.saload, 527, 0, 0, 0, .null)) : Option (Option zE)) := zlch (a := cdS_5_2) (luk_5_2 6) zg6
theorem lq_527 : cd_L[527]? = (some (some (.invokevirtual 0, 530, 117, 3, 11, .null)) : Option (Option zE)) := zlch (a := cdS_5_2) (luk_5_2 7) zg7
theorem lq_530 : cd_L[530]? = (some (some (.pop, 531, 0, 0, 0, .null)) : Option (Option zE)) := zlch (a := cdS_5_3) (luk_5_3 0) zg0
theorem lq_531 : cd_L[531]? = (some (some (.aload 2, 532, 2, 0, 0, .null)) : Option (Option zE)) := zlch (a := cdS_5_3) (luk_5_3 1) zg1
theorem lq_532 : cd_L[532]? = (some (some (.aload 0, 533, 0, 0, 0, .null)) : Option (Option zE)) := zlch (a := cdS_5_3) (luk_5_3 2) zg2
theorem lq_533 : cd_L[533]? = (some (some (.iload 3, 534, 3, 0, 0, .null)) : Option (Option zE)) := zlch (a := cdS_5_3) (luk_5_3 3) zg3
theorem lq_534 : cd_L[534]? = (some (some (.aconst_null, 535, 0, 0, 0, .int 1)) : Option (Option zE)) := zlch (a := cdS_5_3) (luk_5_3 4) zg4
theorem lq_535 : cd_L[535]? = (some (some (.iadd, 536, 0, 0, 0, .null)) : Option (Option zE)) := zlch (a := cdS_5_3) (luk_5_3 5) zg5
theorem lq_536 : cd_L[536]? = (some (some (.saload, 537, 0, 0, 0, .null)) : Option (Option zE)) := zlch (a := cdS_5_3) (luk_5_3 6) zg6
theorem lq_537 : cd_L[537]? = (some (some (.aload 0, 538, 0, 0, 0, .null)) : Option (Option zE)) := zlch (a := cdS_5_3) (luk_5_3 7) zg7
theorem lq_538 : cd_L[538]? = (some (some (.iload 3, 539, 3, 0, 0, .null)) : Option (Option zE)) := zlch (a := cdS_5_3) (luk_5_3 8) zg8
theorem lq_539 : cd_L[539]? = (some (some (.aconst_null, 540, 0, 0, 0, .int 2)) : Option (Option zE)) := zlch (a := cdS_5_3) (luk_5_3 9) zg9
theorem lq_540 : cd_L[540]? = (some (some (.iadd, 541, 0, 0, 0, .null)) : Option (Option zE)) := zlch (a := cdS_5_4) (luk_5_4 0) zg0
theorem lq_541 : cd_L[541]? = (some (some (.saload, 542, 0, 0, 0, .null)) : Option (Option zE)) := zlch (a := cdS_5_4) (luk_5_4 1) zg1
theorem lq_542 : cd_L[542]? = (some (some (.aload 0, 543, 0, 0, 0, .null)) : Option (Option zE)) := zlch (a := cdS_5_4) (luk_5_4 2) zg2
theorem lq_543 : cd_L[543]? = (some (some (.iload 3, 544, 3, 0, 0, .null)) : Option (Option zE)) := zlch (a := cdS_5_4) (luk_5_4 3) zg3
theorem lq_544 : cd_L[544]? = (some (some (.aconst_null, 545, 0, 0, 0, .int 3)) : Option (Option zE)) := zlch (a := cdS_5_4) (luk_5_4 4) zg4
theorem lq_545 : cd_L[545]? = (some (some (.iadd, 546, 0, 0, 0, .null)) : Option (Option zE)) := zlch (a := cdS_5_4) (luk_5_4 5) zg5
theorem lq_546 : cd_L[546]? = (some (some (.saload, 547, 0, 0, 0, .null)) : Option (Option zE)) := zlch (a := cdS_5_4) (luk_5_4 6) zg6
theorem lq_547 : cd_L[547]? = (some (some (.invokevirtual 0, 550, 185, 3, 12, .null)) : Option (Option zE)) := zlch (a := cdS_5_4) (luk_5_4 7) zg7
theorem lq_550 : cd_L[550]? = (some (some (.pop, 551, 0, 0, 0, .null)) : Option (Option zE)) := zlch (a := cdS_5_5) (luk_5_5 0) zg0
theorem lq_551 : cd_L[551]? = (some (some (.goto 0, 554, 2138, 0, 0, .null)) : Option (Option zE)) := zlch (a := cdS_5_5) (luk_5_5 1) zg1
theorem lq_554 : cd_L[554]? = (some (some (.aload 1, 555, 1, 0, 0, .null)) : Option (Option zE)) := zlch (a := cdS_5_5) (luk_5_5 4) zg4
theorem lq_555 : cd_L[555]? = (some (some (.aload 0, 556, 0, 0, 0, .null)) : Option (Option zE)) := zlch (a := cdS_5_5) (luk_5_5 5) zg5
theorem lq_556 : cd_L[556]? = (some (some (.iload 3, 557, 3, 0, 0, .null)) : Option (Option zE)) := zlch (a := cdS_5_5) (luk_5_5 6) zg6
theorem lq_557 : cd_L[557]? = (some (some (.aconst_null, 558, 0, 0, 0, .int 1)) : Option (Option zE)) := zlch (a := cdS_5_5) (luk_5_5 7) zg7
theorem lq_558 : cd_L[558]? = (some (some (.iadd, 559, 0, 0, 0, .null)) : Option (Option zE)) := zlch (a := cdS_5_5) (luk_5_5 8) zg8
theorem lq_559 : cd_L[559]? = (some (some (.saload, 560, 0, 0, 0, .null)) : Option (Option zE)) := zlch (a := cdS_5_5) (luk_5_5 9) zg9
theorem lq_560 : cd_L[560]? = (some (some (.aload 0, 561, 0, 0, 0, .null)) : Option (Option zE)) := zlch (a := cdS_5_6) (luk_5_6 0) zg0
theorem lq_561 : cd_L[561]? = (some (some (.iload 3, 562, 3, 0, 0, .null)) : Option (Option zE)) := zlch (a := cdS_5_6) (luk_5_6 1) zg1
theorem lq_562 : cd_L[562]? = (some (some (.aconst_null, 563, 0, 0, 0, .int 2)) : Option (Option zE)) := zlch (a := cdS_5_6) (luk_5_6 2) zg2
theorem lq_563 : cd_L[563]? = (some (some (.iadd, 564, 0, 0, 0, .null)) : Option (Option zE)) := zlch (a := cdS_5_6) (luk_5_6 3) zg3
theorem lq_564 : cd_L[564]? = (some (some (.saload, 565, 0, 0, 0, .null)) : Option (Option zE)) := zlch (a := cdS_5_6) (luk_5_6 4) zg4
theorem lq_565 : cd_L[565]? = (some (some (.aload 0, 566, 0, 0, 0, .null)) : Option (Option zE)) := zlch (a := cdS_5_6) (luk_5_6 5) zg5
theorem lq_566 : cd_L[566]? = (some (some (.iload 3, 567, 3, 0, 0, .null)) : Option (Option zE)) := zlch (a := cdS_5_6) (luk_5_6 6) zg6
theorem lq_567 : cd_L[567]? = (some (some (.aconst_null, 568, 0, 0, 0, .int 3)) : Option (Option zE)) := zlch (a := cdS_5_6) (luk_5_6 7) zg7
theorem lq_568 : cd_L[568]? = (some (some (.iadd, 569, 0, 0, 0, .null)) : Option (Option zE)) := zlch (a := cdS_5_6) (luk_5_6 8) zg8
theorem lq_569 : cd_L[569]? = (some (some (.saload, 570, 0, 0, 0, .null)) : Option (Option zE)) := zlch (a := cdS_5_6) (luk_5_6 9) zg9
theorem lq_570 : cd_L[570]? = (some (some (.invokevirtual 0, 573, 118, 3, 11, .null)) : Option (Option zE)) := zlch (a := cdS_5_7) (luk_5_7 0) zg0
theorem lq_573 : cd_L[573]? = (some (some (.pop, 574, 0, 0, 0, .null)) : Option (Option zE)) := zlch (a := cdS_5_7) (luk_5_7 3) zg3
theorem lq_574 : cd_L[574]? = (some (some (.aload 2, 575, 2, 0, 0, .null)) : Option (Option zE)) := zlch (a := cdS_5_7) (luk_5_7 4) zg4
theorem lq_575 : cd_L[575]? = (some (some (.aload 0, 576, 0, 0, 0, .null)) : Option (Option zE)) := zlch (a := cdS_5_7) (luk_5_7 5) zg5
theorem lq_576 : cd_L[576]? = (some (some (.iload 3, 577, 3, 0, 0, .null)) : Option (Option zE)) := zlch (a := cdS_5_7) (luk_5_7 6) zg6
theorem lq_577 : cd_L[577]? = (some (some (.aconst_null, 578, 0, 0, 0, .int 1)) : Option (Option zE)) := zlch (a := cdS_5_7) (luk_5_7 7) zg7
theorem lq_578 : cd_L[578]? = (some (some (.iadd, 579, 0, 0, 0, .null)) : Option (Option zE)) := zlch (a := cdS_5_7) (luk_5_7 8) zg8
theorem lq_579 : cd_L[579]? = (some (some (.saload, 580, 0, 0, 0, .null)) : Option (Option zE)) := zlch (a := cdS_5_7) (luk_5_7 9) zg9
theorem lq_580 : cd_L[580]? = (some (some (.aload 0, 581, 0, 0, 0, .null)) : Option (Option zE)) := zlch (a := cdS_5_8) (luk_5_8 0) zg0
theorem lq_581 : cd_L[581]? = (some (some (.iload 3, 582, 3, 0, 0, .null)) : Option (Option zE)) := zlch (a := cdS_5_8) (luk_5_8 1) zg1
theorem lq_582 : cd_L[582]? = (some (some (.aconst_null, 583, 0, 0, 0, .int 2)) : Option (Option zE)) := zlch (a := cdS_5_8) (luk_5_8 2) zg2
theorem lq_583 : cd_L[583]? = (some (some (.iadd, 584, 0, 0, 0, .null)) : Option (Option zE)) := zlch (a := cdS_5_8) (luk_5_8 3) zg3
theorem lq_584 : cd_L[584]? = (some (some (.saload, 585, 0, 0, 0, .null)) : Option (Option zE)) := zlch (a := cdS_5_8) (luk_5_8 4) zg4
theorem lq_585 : cd_L[585]? = (some (some (.aload 0, 586, 0, 0, 0, .null)) : Option (Option zE)) := zlch (a := cdS_5_8) (luk_5_8 5) zg5
theorem lq_586 : cd_L[586]? = (some (some (.iload 3, 587, 3, 0, 0, .null)) : Option (Option zE)) := zlch (a := cdS_5_8) (luk_5_8 6) zg6
theorem lq_587 : cd_L[587]? = (some (some (.aconst_null, 588, 0, 0, 0, .int 3)) : Option (Option zE)) := zlch (a := cdS_5_8) (luk_5_8 7) zg7
theorem lq_588 : cd_L[588]? = (some (some (.iadd, 589, 0, 0, 0, .null)) : Option (Option zE)) := zlch (a := cdS_5_8) (luk_5_8 8) zg8
theorem lq_589 : cd_L[589]? = (some (some (.saload, 590, 0, 0, 0, .null)) : Option (Option zE)) := zlch (a := cdS_5_8) (luk_5_8 9) zg9
theorem lq_590 : cd_L[590]? = (some (some (.invokevirtual 0, 593, 187, 3, 12, .null)) : Option (Option zE)) := zlch (a := cdS_5_9) (luk_5_9 0) zg0
theorem lq_593 : cd_L[593]? = (some (some (.pop, 594, 0, 0, 0, .null)) : Option (Option zE)) := zlch (a := cdS_5_9) (luk_5_9 3) zg3
theorem lq_594 : cd_L[594]? = (some (some (.goto 0, 597, 2138, 0, 0, .null)) : Option (Option zE)) := zlch (a := cdS_5_9) (luk_5_9 4) zg4
theorem lq_597 : cd_L[597]? = (some (some (.aload 1, 598, 1, 0, 0, .null)) : Option (Option zE)) := zlch (a := cdS_5_9) (luk_5_9 7) zg7
theorem lq_598 : cd_L[598]? = (some (some (.aload 0, 599, 0, 0, 0, .null)) : Option (Option zE)) := zlch (a := cdS_5_9) (luk_5_9 8) zg8
theorem lq_599 : cd_L[599]? = (some (some (.iload 3, 600, 3, 0, 0, .null)) : Option (Option zE)) := zlch (a := cdS_5_9) (luk_5_9 9) zg9
theorem lq_600 : cd_L[600]? = (some (some (.aconst_null, 601, 0, 0, 0, .int 1)) : Option (Option zE)) := zlch (a := cdS_6_0) (luk_6_0 0) zg0
theorem lq_601 : cd_L[601]? = (some (some (.iadd, 602, 0, 0, 0, .null)) : Option (Option zE)) := zlch (a := cdS_6_0) (luk_6_0 1) zg1
theorem lq_602 : cd_L[602]? = (some (some (.saload, 603, 0, 0, 0, .null)) : Option (Option zE)) := zlch (a := cdS_6_0) (luk_6_0 2) zg2
theorem lq_603 : cd_L[603]? = (some (some (.aload 0, 604, 0, 0, 0, .null)) : Option (Option zE)) := zlch (a := cdS_6_0) (luk_6_0 3) zg3
theorem lq_604 : cd_L[604]? = (some (some (.iload 3, 605, 3, 0, 0, .null)) : Option (Option zE)) := zlch (a := cdS_6_0) (luk_6_0 4) zg4
theorem lq_605 : cd_L[605]? = (some (some (.aconst_null, 606, 0, 0, 0, .int 2)) : Option (Option zE)) := zlch (a := cdS_6_0) (luk_6_0 5) zg5
theorem lq_606 : cd_L[606]? = (some (some (.iadd, 607, 0, 0, 0, .null)) : Option (Option zE)) := zlch (a := cdS_6_0) (luk_6_0 6) zg6
theorem lq_607 : cd_L[607]? = (some (some (.saload, 608, 0, 0, 0, .null)) : Option (Option zE)) := zlch (a := cdS_6_0) (luk_6_0 7) zg7
theorem lq_608 : cd_L[608]? = (some (some (.invokevirtual 0, 611, 119, 2, 11, .null)) : Option (Option zE)) := zlch (a := cdS_6_0) (luk_6_0 8) zg8
theorem lq_611 : cd_L[611]? = (some (some (.pop, 612, 0, 0, 0, .null)) : Option (Option zE)) := zlch (a := cdS_6_1) (luk_6_1 1) zg1
theorem lq_612 : cd_L[612]? = (some (some (.aload 2, 613, 2, 0, 0, .null)) : Option (Option zE)) := zlch (a := cdS_6_1) (luk_6_1 2) zg2
theorem lq_613 : cd_L[613]? = (some (some (.aload 0, 614, 0, 0, 0, .null)) : Option (Option zE)) := zlch (a := cdS_6_1) (luk_6_1 3) zg3
theorem lq_614 : cd_L[614]? = (some (some (.iload 3, 615, 3, 0, 0, .null)) : Option (Option zE)) := zlch (a := cdS_6_1) (luk_6_1 4) zg4
theorem lq_615 : cd_L[615]? = (some (some (.aconst_null, 616, 0, 0, 0, .int 1)) : Option (Option zE)) := zlch (a := cdS_6_1) (luk_6_1 5) zg5
theorem lq_616 : cd_L[616]? = (some (some (.iadd, 617, 0, 0, 0, .null)) : Option (Option zE)) := zlch (a := cdS_6_1) (luk_6_1 6) zg6
theorem lq_617 : cd_L[617]? = (some (some (.saload, 618, 0, 0, 0, .null)) : Option (Option zE)) := zlch (a := cdS_6_1) (luk_6_1 7) zg7
theorem lq_618 : cd_L[618]? = (some (some (.aload 0, 619, 0, 0, 0, .null)) : Option (Option zE)) := zlch (a := cdS_6_1) (luk_6_1 8) zg8
theorem lq_619 : cd_L[619]? = (some (some (.iload 3, 620, 3, 0, 0, .null)) : Option (Option zE)) := zlch (a := cdS_6_1) (luk_6_1 9) zg9
theorem lq_620 : cd_L[620]? = (some (some (.aconst_null, 621, 0, 0, 0, .int 2)) : Option (Option zE)) := zlch (a := cdS_6_2) (luk_6_2 0) zg0
theorem lq_621 : cd_L[621]? = (some (some (.iadd, 622, 0, 0, 0, .null)) : Option (Option zE)) := zlch (a := cdS_6_2) (luk_6_2 1) zg1
theorem lq_622 : cd_L[622]? = (some (some (.saload, 623, 0, 0, 0, .null)) : Option (Option zE)) := zlch (a := cdS_6_2) (luk_6_2 2) zg2
theorem lq_623 : cd_L[623]? = (some (some (.invokevirtual 0, 626, 192, 2, 12, .null)) : Option (Option zE)) := zlch (a := cdS_6_2) (luk_6_2 3) zg3
theorem lq_626 : cd_L[626]? = (some (some (.pop, 627, 0, 0, 0, .null)) : Option (Option zE)) := zlch (a := cdS_6_2) (luk_6_2 6) zg6
theorem lq_627 : cd_L[627]? = (some (some (.goto 0, 630, 2138, 0, 0, .null)) : Option (Option zE)) := zlch (a := cdS_6_2) (luk_6_2 7) zg7
theorem lq_630 : cd_L[630]? = (some (some (.aload 1, 631, 1, 0, 0, .null)) : Option (Option zE)) := zlch (a := cdS_6_3) (luk_6_3 0) zg0
theorem lq_631 : cd_L[631]? = (some (some (.aload 0, 632, 0, 0, 0, .null)) : Option (Option zE)) := zlch (a := cdS_6_3) (luk_6_3 1) zg1
theorem lq_632 : cd_L[632]? = (some (some (.iload 3, 633, 3, 0, 0, .null)) : Option (Option zE)) := zlch (a := cdS_6_3) (luk_6_3 2) zg2
theorem lq_633 : cd_L[633]? = (some (some (.aconst_null, 634, 0, 0, 0, .int 1)) : Option (Option zE)) := zlch (a := cdS_6_3) (luk_6_3 3) zg3
theorem lq_634 : cd_L[634]? = (some (some (.iadd, 635, 0, 0, 0, .null)) : Option (Option zE)) := zlch (a := cdS_6_3) (luk_6_3 4) zg4
theorem lq_635 : cd_L[635]? = (some (some (.saload, 636, 0, 0, 0, .null)) : Option (Option zE)) := zlch (a := cdS_6_3) (luk_6_3 5) zg5
theorem lq_636 : cd_L[636]? = (some (some (.aload 0, 637, 0, 0, 0, .null)) : Option (Option zE)) := zlch (a := cdS_6_3) (luk_6_3 6) zg6
theorem lq_637 : cd_L[637]? = (some (some (.iload 3, 638, 3, 0, 0, .null)) : Option (Option zE)) := zlch (a := cdS_6_3) (luk_6_3 7) zg7
theorem lq_638 : cd_L[638]? = (some (some (.aconst_null, 639, 0, 0, 0, .int 2)) : Option (Option zE)) := zlch (a := cdS_6_3) (luk_6_3 8) zg8
theorem lq_639 : cd_L[639]? = (some (some (.iadd, 640, 0, 0, 0, .null)) : Option (Option zE)) := zlch (a := cdS_6_3) (luk_6_3 9) zg9
theorem lq_640 : cd_L[640]? = (some (some (.saload, 641, 0, 0, 0, .null)) : Option (Option zE)) := zlch (a := cdS_6_4) (luk_6_4 0) zg0
theorem lq_641 : cd_L[641]? = (some (some (.invokevirtual 0, 644, 120, 2, 11, .null)) : Option (Option zE)) := zlch (a := cdS_6_4) (luk_6_4 1) zg1
theorem lq_644 : cd_L[644]? = (some (some (.pop, 645, 0, 0, 0, .null)) : Option (Option zE)) := zlch (a := cdS_6_4) (luk_6_4 4) zg4
theorem lq_645 : cd_L[645]? = (some (some (.aload 2, 646, 2, 0, 0, .null)) : Option (Option zE)) := zlch (a := cdS_6_4) (luk_6_4 5) zg5
theorem lq_646 : cd_L[646]? = (some (some (.aload 0, 647, 0, 0, 0, .null)) : Option (Option zE)) := zlch (a := cdS_6_4) (luk_6_4 6) zg6
theorem lq_647 : cd_L[647]? = (some (some (.iload 3, 648, 3, 0, 0, .null)) : Option (Option zE)) := zlch (a := cdS_6_4) (luk_6_4 7) zg7
theorem lq_648 : cd_L[648]? = (some (some (.aconst_null, 649, 0, 0, 0, .int 1)) : Option (Option zE)) := zlch (a := cdS_6_4) (luk_6_4 8) zg8
theorem lq_649 : cd_L[649]? = (some (some (.iadd, 650, 0, 0, 0, .null)) : Option (Option zE)) := zlch (a := cdS_6_4) (luk_6_4 9) zg9
theorem lq_650 : cd_L[650]? = (some (some (.saload, 651, 0, 0, 0, .null)) : Option (Option zE)) := zlch (a := cdS_6_5) (luk_6_5 0) zg0
theorem lq_651 : cd_L[651]? = (some (some (.aload 0, 652, 0, 0, 0, .null)) : Option (Option zE)) := zlch (a := cdS_6_5) (luk_6_5 1) zg1
theorem lq_652 : cd_L[652]? = (some (some (.iload 3, 653, 3, 0, 0, .null)) : Option (Option zE)) := zlch (a := cdS_6_5) (luk_6_5 2) zg2
theorem lq_653 : cd_L[653]? = (some (some (.aconst_null, 654, 0, 0, 0, .int 2)) : Option (Option zE)) := zlch (a := cdS_6_5) (luk_6_5 3) zg3
theorem lq_654 : cd_L[654]? = (some (some (.iadd, 655, 0, 0, 0, .null)) : Option (Option zE)) := zlch (a := cdS_6_5) (luk_6_5 4) zg4
theorem lq_655 : cd_L[655]? = (some (some (.saload, 656, 0, 0, 0, .null)) : Option (Option zE)) := zlch (a := cdS_6_5) (luk_6_5 5) zg5
theorem lq_656 : cd_L[656]? = (some (some (.invokevirtual 0, 659, 193, 2, 12, .null)) : Option (Option zE)) := zlch (a := cdS_6_5) (luk_6_5 6) zg6
theorem lq_659 : cd_L[659]? = (some (some (.pop, 660, 0, 0, 0, .null)) : Option (Option zE)) := zlch (a := cdS_6_5) (luk_6_5 9) zg9
theorem lq_660 : cd_L[660]? = (some (some (.goto 0, 663, 2138, 0, 0, .null)) : Option (Option zE)) := zlch (a := cdS_6_6) (luk_6_6 0) zg0
theorem lq_663 : cd_L[663]? = (some (some (.aload 1, 664, 1, 0, 0, .null)) : Option (Option zE)) := zlch (a := cdS_6_6) (luk_6_6 3) zg3
theorem lq_664 : cd_L[664]? = (some (some (.aload 0, 665, 0, 0, 0, .null)) : Option (Option zE)) := zlch (a := cdS_6_6) (luk_6_6 4) zg4
theorem lq_665 : cd_L[665]? = (some (some (.iload 3, 666, 3, 0, 0, .null)) : Option (Option zE)) := zlch (a := cdS_6_6) (luk_6_6 5) zg5
theorem lq_666 : cd_L[666]? = (some (some (.aconst_null, 667, 0, 0, 0, .int 1)) : Option (Option zE)) := zlch (a := cdS_6_6) (luk_6_6 6) zg6
theorem lq_667 : cd_L[667]? = (some (some (.iadd, 668, 0, 0, 0, .null)) : Option (Option zE)) := zlch (a := cdS_6_6) (luk_6_6 7) zg7
theorem lq_668 : cd_L[668]? = (some (some (.saload, 669, 0, 0, 0, .null)) : Option (Option zE)) := zlch (a := cdS_6_6) (luk_6_6 8) zg8
theorem lq_669 : cd_L[669]? = (some (some (.aload 0, 670, 0, 0, 0, .null)) : Option (Option zE)) := zlch (a := cdS_6_6) (luk_6_6 9) zg9
theorem lq_670 : cd_L[670]? = (some (some (.iload 3, 671, 3, 0, 0, .null)) : Option (Option zE)) := zlch (a := cdS_6_7) (luk_6_7 0) zg0
theorem lq_671 : cd_L[671]? = (some (some (.aconst_null, 672, 0, 0, 0, .int 2)) : Option (Option zE)) := zlch (a := cdS_6_7) (luk_6_7 1) zg1
theorem lq_672 : cd_L[672]? = (some (some (.iadd, 673, 0, 0, 0, .null)) : Option (Option zE)) := zlch (a := cdS_6_7) (luk_6_7 2) zg2
theorem lq_673 : cd_L[673]? = (some (some (.saload, 674, 0, 0, 0, .null)) : Option (Option zE)) := zlch (a := cdS_6_7) (luk_6_7 3) zg3
theorem lq_674 : cd_L[674]? = (some (some (.aload 0, 675, 0, 0, 0, .null)) : Option (Option zE)) := zlch (a := cdS_6_7) (luk_6_7 4) zg4
theorem lq_675 : cd_L[675]? = (some (some (.iload 3, 676, 3, 0, 0, .null)) : Option (Option zE)) := zlch (a := cdS_6_7) (luk_6_7 5) zg5
theorem lq_676 : cd_L[676]? = (some (some (.aconst_null, 677, 0, 0, 0, .int 3)) : Option (Option zE)) := zlch (a := cdS_6_7) (luk_6_7 6) zg6
theorem lq_677 : cd_L[677]? = (some (some (.iadd, 678, 0, 0, 0, .null)) : Option (Option zE)) := zlch (a := cdS_6_7) (luk_6_7 7) zg7
theorem lq_678 : cd_L[678]? = (some (some (.saload, 679, 0, 0, 0, .null)) : Option (Option zE)) := zlch (a := cdS_6_7) (luk_6_7 8) zg8
theorem lq_679 : cd_L[679]? = (some (some (.aload 0, 680, 0, 0, 0, .null)) : Option (Option zE)) := zlch (a := cdS_6_7) (luk_6_7 9) zg9
theorem lq_680 : cd_L[680]? = (some (some (.iload 3, 681, 3, 0, 0, .null)) : Option (Option zE)) := zlch (a := cdS_6_8) (luk_6_8 0) zg0
theorem lq_681 : cd_L[681]? = (some (some (.aconst_null, 682, 0, 0, 0, .int 4)) : Option (Option zE)) := zlch (a := cdS_6_8) (luk_6_8 1) zg1
theorem lq_682 : cd_L[682]? = (some (some (.iadd, 683, 0, 0, 0, .null)) : Option (Option zE)) := zlch (a := cdS_6_8) (luk_6_8 2) zg2
theorem lq_683 : cd_L[683]? = (some (some (.saload, 684, 0, 0, 0, .null)) : Option (Option zE)) := zlch (a := cdS_6_8) (luk_6_8 3) zg3
theorem lq_684 : cd_L[684]? = (some (some (.aload 0, 685, 0, 0, 0, .null)) : Option (Option zE)) := zlch (a := cdS_6_8) (luk_6_8 4) zg4
theorem lq_685 : cd_L[685]? = (some (some (.iload 3, 686, 3, 0, 0, .null)) : Option (Option zE)) := zlch (a := cdS_6_8) (luk_6_8 5) zg5
theorem lq_686 : cd_L[686]? = (some (some (.aconst_null, 687, 0, 0, 0, .int 5)) : Option (Option zE)) := zlch (a := cdS_6_8) (luk_6_8 6) zg6
theorem lq_687 : cd_L[687]? = (some (some (.iadd, 688, 0, 0, 0, .null)) : Option (Option zE)) := zlch (a := cdS_6_8) (luk_6_8 7) zg7
theorem lq_688 : cd_L[688]? = (some (some (.saload, 689, 0, 0, 0, .null)) : Option (Option zE)) := zlch (a := cdS_6_8) (luk_6_8 8) zg8
theorem lq_689 : cd_L[689]? = (some (some (.invokevirtual 0, 692, 121, 5, 11, .null)) : Option (Option zE)) := zlch (a := cdS_6_8) (luk_6_8 9) zg9
theorem lq_692 : cd_L[692]? = (some (some (.pop, 693, 0, 0, 0, .null)) : Option (Option zE)) := zlch (a := cdS_6_9) (luk_6_9 2) zg2
theorem lq_693 : cd_L[693]? = (some (some (.aload 2, 694, 2, 0, 0, .null)) : Option (Option zE)) := zlch (a := cdS_6_9) (luk_6_9 3) zg3
theorem lq_694 : cd_L[694]? = (some (some (.aload 0, 695, 0, 0, 0, .null)) : Option (Option zE)) := zlch (a := cdS_6_9) (luk_6_9 4) zg4
theorem lq_695 : cd_L[695]? = (some (some (.iload 3, 696, 3, 0, 0, .null)) : Option (Option zE)) := zlch (a := cdS_6_9) (luk_6_9 5) zg5
theorem lq_696 : cd_L[696]? = (some (some (.aconst_null, 697, 0, 0, 0, .int 1)) : Option (Option zE)) := zlch (a := cdS_6_9) (luk_6_9 6) zg6
theorem lq_697 : cd_L[697]? = (some (some (.iadd, 698, 0, 0, 0, .null)) : Option (Option zE)) := zlch (a := cdS_6_9) (luk_6_9 7) zg7
theorem lq_698 : cd_L[698]? = (some (some (.saload, 699, 0, 0, 0, .null)) : Option (Option zE)) := zlch (a := cdS_6_9) (luk_6_9 8) zg8
theorem lq_699 : cd_L[699]? = (some (some (.aload 0, 700, 0, 0, 0, .null)) : Option (Option zE)) := zlch (a := cdS_6_9) (luk_6_9 9) zg9
theorem lq_700 : cd_L[700]? = (some (some (.iload 3, 701, 3, 0, 0, .null)) : Option (Option zE)) := zlch (a := cdS_7_0) (luk_7_0 0) zg0
theorem lq_701 : cd_L[701]? = (some (some (.aconst_null, 702, 0, 0, 0, .int 2)) : Option (Option zE)) := zlch (a := cdS_7_0) (luk_7_0 1) zg1
theorem lq_702 : cd_L[702]? = (some (some (.iadd, 703, 0, 0, 0, .null)) : Option (Option zE)) := zlch (a := cdS_7_0) (luk_7_0 2) zg2
theorem lq_703 : cd_L[703]? = (some (some (.saload, 704, 0, 0, 0, .null)) : Option (Option zE)) := zlch (a := cdS_7_0) (luk_7_0 3) zg3
theorem lq_704 : cd_L[704]? = (some (some (.aload 0, 705, 0, 0, 0, .null)) : Option (Option zE)) := zlch (a := cdS_7_0) (luk_7_0 4) zg4
theorem lq_705 : cd_L[705]? = (some (some (.iload 3, 706, 3, 0, 0, .null)) : Option (Option zE)) := zlch (a := cdS_7_0) (luk_7_0 5) zg5
theorem lq_706 : cd_L[706]? = (some (some (.aconst_null, 707, 0, 0, 0, .int 3)) : Option (Option zE)) := zlch (a := cdS_7_0) (luk_7_0 6) zg6
theorem lq_707 : cd_L[707]? = (some (some (.iadd, 708, 0, 0, 0, .null)) : Option (Option zE)) := zlch (a := cdS_7_0) (luk_7_0 7) zg7
theorem lq_708 : cd_L[708]? = (some (some (.saload, 709, 0, 0, 0, .null)) : Option (Option zE)) := zlch (a := cdS_7_0) (luk_7_0 8) zg8
theorem lq_709 : cd_L[709]? = (some (some (.aload 0, 710, 0, 0, 0, .null)) : Option (Option zE)) := zlch (a := cdS_7_0) (luk_7_0 9) zg9
theorem lq_710 : cd_L[710]? = (some (some (.iload 3, 711, 3, 0, 0, .null)) : Option (Option zE)) := zlch (a := cdS_7_1) (luk_7_1 0) zg0
theorem lq_711 : cd_L[711]? = (some (some (.aconst_null, 712, 0, 0, 0, .int 4)) : Option (Option zE)) := zlch (a := cdS_7_1) (luk_7_1 1) zg1
theorem lq_712 : cd_L[712]? = (some (some (.iadd, 713, 0, 0, 0, .null)) : Option (Option zE)) := zlch (a := cdS_7_1) (luk_7_1 2) zg2
theorem lq_713 : cd_L[713]? = (some (some (.saload, 714, 0, 0, 0, .null)) : Option (Option zE)) := zlch (a := cdS_7_1) (luk_7_1 3) zg3
theorem lq_714 : cd_L[714]? = (some (some (.aload 0, 715, 0, 0, 0, .null)) : Option (Option zE)) := zlch (a := cdS_7_1) (luk_7_1 4) zg4
theorem lq_715 : cd_L[715]? = (some (some (.iload 3, 716, 3, 0, 0, .null)) : Option (Option zE)) := zlch (a := cdS_7_1) (luk_7_1 5) zg5
theorem lq_716 : cd_L[716]? = (some (some (.aconst_null, 717, 0, 0, 0, .int 5)) : Option (Option zE)) := zlch (a := cdS_7_1) (luk_7_1 6) zg6
theorem lq_717 : cd_L[717]? = (some (some (.iadd, 718, 0, 0, 0, .null)) : Option (Option zE)) := zlch (a := cdS_7_1) (luk_7_1 7) zg7
theorem lq_718 : cd_L[718]? = (some (some (.saload, 719, 0, 0, 0, .null)) : Option (Option zE)) := zlch (a := cdS_7_1) (luk_7_1 8) zg8
theorem lq_719 : cd_L[719]? = (some (some (.invokevirtual 0, 722, 195, 5, 12, .null)) : Option (Option zE)) := zlch (a := cdS_7_1) (luk_7_1 9) zg9
theorem lq_722 : cd_L[722]? = (some (some (.pop, 723, 0, 0, 0, .null)) : Option (Option zE)) := zlch (a := cdS_7_2) (luk_7_2 2) zg2
theorem lq_723 : cd_L[723]? = (some (some (.goto 0, 726, 2138, 0, 0, .null)) : Option (Option zE)) := zlch (a := cdS_7_2) (luk_7_2 3) zg3
theorem lq_726 : cd_L[726]? = (some (some (.aload 1, 727, 1, 0, 0, .null)) : Option (Option zE)) := zlch (a := cdS_7_2) (luk_7_2 6) zg6
theorem lq_727 : cd_L[727]? = (some (some (.aload 0, 728, 0, 0, 0, .null)) : Option (Option zE)) := zlch (a := cdS_7_2) (luk_7_2 7) zg7
theorem lq_728 : cd_L[728]? = (some (some (.iload 3, 729, 3, 0, 0, .null)) : Option (Option zE)) := zlch (a := cdS_7_2) (luk_7_2 8) zg8
theorem lq_729 : cd_L[729]? = (some (some (.aconst_null, 730, 0, 0, 0, .int 1)) : Option (Option zE)) := zlch (a := cdS_7_2) (luk_7_2 9) zg9
theorem lq_730 : cd_L[730]? = (some (some (.iadd, 731, 0, 0, 0, .null)) : Option (Option zE)) := zlch (a := cdS_7_3) (luk_7_3 0) zg0
theorem lq_731 : cd_L[731]? = (some (some (.saload, 732, 0, 0, 0, .null)) : Option (Option zE)) := zlch (a := cdS_7_3) (luk_7_3 1) zg1
theorem lq_732 : cd_L[732]? = (some (some (.aload 0, 733, 0, 0, 0, .null)) : Option (Option zE)) := zlch (a := cdS_7_3) (luk_7_3 2) zg2
theorem lq_733 : cd_L[733]? = (some (some (.iload 3, 734, 3, 0, 0, .null)) : Option (Option zE)) := zlch (a := cdS_7_3) (luk_7_3 3) zg3
theorem lq_734 : cd_L[734]? = (some (some (.aconst_null, 735, 0, 0, 0, .int 2)) : Option (Option zE)) := zlch (a := cdS_7_3) (luk_7_3 4) zg4
theorem lq_735 : cd_L[735]? = (some (some (.iadd, 736, 0, 0, 0, .null)) : Option (Option zE)) := zlch (a := cdS_7_3) (luk_7_3 5) zg5
theorem lq_736 : cd_L[736]? = (some (some (.saload, 737, 0, 0, 0, .null)) : Option (Option zE)) := zlch (a := cdS_7_3) (luk_7_3 6) zg6
theorem lq_737 : cd_L[737]? = (some (some (.aload 0, 738, 0, 0, 0, .null)) : Option (Option zE)) := zlch (a := cdS_7_3) (luk_7_3 7) zg7
theorem lq_738 : cd_L[738]? = (some (some (.iload 3, 739, 3, 0, 0, .null)) : Option (Option zE)) := zlch (a := cdS_7_3) (luk_7_3 8) zg8
theorem lq_739 : cd_L[739]? = (some (some (.aconst_null, 740, 0, 0, 0, .int 3)) : Option (Option zE)) := zlch (a := cdS_7_3) (luk_7_3 9) zg9
theorem lq_740 : cd_L[740]? = (some (some (.iadd, 741, 0, 0, 0, .null)) : Option (Option zE)) := zlch (a := cdS_7_4) (luk_7_4 0) zg0
theorem lq_741 : cd_L[741]? = (some (some (.saload, 742, 0, 0, 0, .null)) : Option (Option zE)) := zlch (a := cdS_7_4) (luk_7_4 1) zg1
theorem lq_742 : cd_L[742]? = (some (some (.aload 0, 743, 0, 0, 0, .null)) : Option (Option zE)) := zlch (a := cdS_7_4) (luk_7_4 2) zg2
theorem lq_743 : cd_L[743]? = (some (some (.iload 3, 744, 3, 0, 0, .null)) : Option (Option zE)) := zlch (a := cdS_7_4) (luk_7_4 3) zg3
theorem lq_744 : cd_L[744]? = (some (some (.aconst_null, 745, 0, 0, 0, .int 4)) : Option (Option zE)) := zlch (a := cdS_7_4) (luk_7_4 4) zg4
theorem lq_745 : cd_L[745]? = (some (some (.iadd, 746, 0, 0, 0, .null)) : Option (Option zE)) := zlch (a := cdS_7_4) (luk_7_4 5) zg5
theorem lq_746 : cd_L[746]? = (some (some (.saload, 747, 0, 0, 0, .null)) : Option (Option zE)) := zlch (a := cdS_7_4) (luk_7_4 6) zg6
theorem lq_747 : cd_L[747]? = (some (some (.aload 0, 748, 0, 0, 0, .null)) : Option (Option zE)) := zlch (a := cdS_7_4) (luk_7_4 7) zg7
theorem lq_748 : cd_L[748]? = (some (some (.iload 3, 749, 3, 0, 0, .null)) : Option (Option zE)) := zlch (a := cdS_7_4) (luk_7_4 8) zg8
theorem lq_749 : cd_L[749]? = (some (some (.aconst_null, 750, 0, 0, 0, .int 5)) : Option (Option zE)) := zlch (a := cdS_7_4) (luk_7_4 9) zg9
theorem lq_750 : cd_L[750]? = (some (some (.iadd, 751, 0, 0, 0, .null)) : Option (Option zE)) := zlch (a := cdS_7_5) (luk_7_5 0) zg0
theorem lq_751 : cd_L[751]? = (some (some (.saload, 752, 0, 0, 0, .null)) : Option (Option zE)) := zlch (a := cdS_7_5) (luk_7_5 1) zg1
theorem lq_752 : cd_L[752]? = (some (some (.invokevirtual 0, 755, 122, 5, 11, .null)) : Option (Option zE)) := zlch (a := cdS_7_5) (luk_7_5 2) zg2
theorem lq_755 : cd_L[755]? = (some (some (.pop, 756, 0, 0, 0, .null)) : Option (Option zE)) := zlch (a := cdS_7_5) (luk_7_5 5) zg5
theorem lq_756 : cd_L[756]? = (some (some (.aload 2, 757, 2, 0, 0, .null)) : Option (Option zE)) := zlch (a := cdS_7_5) (luk_7_5 6) zg6
theorem lq_757 : cd_L[757]? = (some (some (.aload 0, 758, 0, 0, 0, .null)) : Option (Option zE)) := zlch (a := cdS_7_5) (luk_7_5 7) zg7
theorem lq_758 : cd_L[758]? = (some (some (.iload 3, 759, 3, 0, 0, .null)) : Option (Option zE)) := zlch (a := cdS_7_5) (luk_7_5 8) zg8
theorem lq_759 : cd_L[759]? = (some (some (.aconst_null, 760, 0, 0, 0, .int 1)) : Option (Option zE)) := zlch (a := cdS_7_5) (luk_7_5 9) zg9
theorem lq_760 : cd_L[760]? = (some (some (.iadd, 761, 0, 0, 0, .null)) : Option (Option zE)) := zlch (a := cdS_7_6) (luk_7_6 0) zg0
theorem lq_761 : cd_L[761]? = (some (some (.saload, 762, 0, 0, 0, .null)) : Option (Option zE)) := zlch (a := cdS_7_6) (luk_7_6 1) zg1
theorem lq_762 : cd_L[762]? = (some (some (.aload 0, 763, 0, 0, 0, .null)) : Option (Option zE)) := zlch (a := cdS_7_6) (luk_7_6 2) zg2
theorem lq_763 : cd_L[763]? = (some (some (.iload 3, 764, 3, 0, 0, .null)) : Option (Option zE)) := zlch (a := cdS_7_6) (luk_7_6 3) zg3
theorem lq_764 : cd_L[764]? = (some (some (.aconst_null, 765, 0, 0, 0, .int 2)) : Option (Option zE)) := zlch (a := cdS_7_6) (luk_7_6 4) zg4
theorem lq_765 : cd_L[765]? = (some (some (.iadd, 766, 0, 0, 0, .null)) : Option (Option zE)) := zlch (a := cdS_7_6) (luk_7_6 5) zg5
theorem lq_766 : cd_L[766]? = (some (some (.saload, 767, 0, 0, 0, .null)) : Option (Option zE)) := zlch (a := cdS_7_6) (luk_7_6 6) zg6
theorem lq_767 : cd_L[767]? = (some (some (.aload 0, 768, 0, 0, 0, .null)) : Option (Option zE)) := zlch (a := cdS_7_6) (luk_7_6 7) zg7
theorem lq_768 : cd_L[768]? = (some (some (.iload 3, 769, 3, 0, 0, .null)) : Option (Option zE)) := zlch (a := cdS_7_6) (luk_7_6 8) zg8
theorem lq_769 : cd_L[769]? = (some (some (.aconst_null, 770, 0, 0, 0, .int 3)) : Option (Option zE)) := zlch (a := cdS_7_6) (luk_7_6 9) zg9
theorem lq_770 : cd_L[770]? = (some (some (.iadd, 771, 0, 0, 0, .null)) : Option (Option zE)) := zlch (a := cdS_7_7) (luk_7_7 0) zg0
theorem lq_771 : cd_L[771]? = (some (some (.saload, 772, 0, 0, 0, .null)) : Option (Option zE)) := zlch (a := cdS_7_7) (luk_7_7 1) zg1
theorem lq_772 : cd_L[772]? = (some (some (.aload 0, 773, 0, 0, 0, .null)) : Option (Option zE)) := zlch (a := cdS_7_7) (luk_7_7 2) zg2
theorem lq_773 : cd_L[773]? = (some (some (.iload 3, 774, 3, 0, 0, .null)) : Option (Option zE)) := zlch (a := cdS_7_7) (luk_7_7 3) zg3
theorem lq_774 : cd_L[774]? = (some (some (.aconst_null, 775, 0, 0, 0, .int 4)) : Option (Option zE)) := zlch (a := cdS_7_7) (luk_7_7 4) zg4
theorem lq_775 : cd_L[775]? = (some (some (.iadd, 776, 0, 0, 0, .null)) : Option (Option zE)) := zlch (a := cdS_7_7) (luk_7_7 5) zg5
theorem lq_776 : cd_L[776]? = (some (some (.saload, 777, 0, 0, 0, .null)) : Option (Option zE)) := zlch (a := cdS_7_7) (luk_7_7 6) zg6
theorem lq_777 : cd_L[777]? = (some (some (.aload 0, 778, 0, 0, 0, .null)) : Option (Option zE)) := zlch (a := cdS_7_7) (luk_7_7 7) zg7
theorem lq_778 : cd_L[778]? = (some (some (.iload 3, 779, 3, 0, 0, .null)) : Option (Option zE)) := zlch (a := cdS_7_7) (luk_7_7 8) zg8
theorem lq_779 : cd_L[779]? = (some (some (.aconst_null, 780, 0, 0, 0, .int 5)) : Option (Option zE)) := zlch (a := cdS_7_7) (luk_7_7 9) zg9
theorem lq_780 : cd_L[780]? = (some (some (.iadd, 781, 0, 0, 0, .null)) : Option (Option zE)) := zlch (a := cdS_7_8) (luk_7_8 0) zg0
theorem lq_781 : cd_L[781]? = (some (some (.saload, 782, 0, 0, 0, .null)) : Option (Option zE)) := zlch (a := cdS_7_8) (luk_7_8 1) zg1
theorem lq_782 : cd_L[782]? = (some (some (.invokevirtual 0, 785, 196, 5, 12, .null)) : Option (Option zE)) := zlch (a := cdS_7_8) (luk_7_8 2) zg2
theorem lq_785 : cd_L[785]? = (some (some (.pop, 786, 0, 0, 0, .null)) : Option (Option zE)) := zlch (a := cdS_7_8) (luk_7_8 5) zg5
theorem lq_786 : cd_L[786]? = (some (some (.goto 0, 789, 2138, 0, 0, .null)) : Option (Option zE)) := zlch (a := cdS_7_8) (luk_7_8 6) zg6
theorem lq_789 : cd_L[789]? = (some (some (.aload 1, 790, 1, 0, 0, .null)) : Option (Option zE)) := zlch (a := cdS_7_8) (luk_7_8 9) zg9
theorem lq_790 : cd_L[790]? = (some (some (.aload 0, 791, 0, 0, 0, .null)) : Option (Option zE)) := zlch (a := cdS_7_9) (luk_7_9 0) zg0
theorem lq_791 : cd_L[791]? = (some (some (.iload 3, 792, 3, 0, 0, .null)) : Option (Option zE)) := zlch (a := cdS_7_9) (luk_7_9 1) zg1
theorem lq_792 : cd_L[792]? = (some (some (.aconst_null, 793, 0, 0, 0, .int 1)) : Option (Option zE)) := zlch (a := cdS_7_9) (luk_7_9 2) zg2
theorem lq_793 : cd_L[793]? = (some (some (.iadd, 794, 0, 0, 0, .null)) : Option (Option zE)) := zlch (a := cdS_7_9) (luk_7_9 3) zg3
theorem lq_794 : cd_L[794]? = (some (some (.saload, 795, 0, 0, 0, .null)) : Option (Option zE)) := zlch (a := cdS_7_9) (luk_7_9 4) zg4
theorem lq_795 : cd_L[795]? = (some (some (.invokevirtual 0, 798, 123, 1, 11, .null)) : Option (Option zE)) := zlch (a := cdS_7_9) (luk_7_9 5) zg5
theorem lq_798 : cd_L[798]? = (some (some (.pop, 799, 0, 0, 0, .null)) : Option (Option zE)) := zlch (a := cdS_7_9) (luk_7_9 8) zg8
theorem lq_799 : cd_L[799]? = (some (some (.aload 2, 800, 2, 0, 0, .null)) : Option (Option zE)) := zlch (a := cdS_7_9) (luk_7_9 9) zg9
theorem lq_800 : cd_L[800]? = (some (some (.aload 0, 801, 0, 0, 0, .null)) : Option (Option zE)) := zlch (a := cdS_8_0) (luk_8_0 0) zg0
theorem lq_801 : cd_L[801]? = (some (some (.iload 3, 802, 3, 0, 0, .null)) : Option (Option zE)) := zlch (a := cdS_8_0) (luk_8_0 1) zg1
theorem lq_802 : cd_L[802]? = (some (some (.aconst_null, 803, 0, 0, 0, .int 1)) : Option (Option zE)) := zlch (a := cdS_8_0) (luk_8_0 2) zg2
theorem lq_803 : cd_L[803]? = (some (some (.iadd, 804, 0, 0, 0, .null)) : Option (Option zE)) := zlch (a := cdS_8_0) (luk_8_0 3) zg3
theorem lq_804 : cd_L[804]? = (some (some (.saload, 805, 0, 0, 0, .null)) : Option (Option zE)) := zlch (a := cdS_8_0) (luk_8_0 4) zg4
theorem lq_805 : cd_L[805]? = (some (some (.invokevirtual 0, 808, 198, 1, 12, .null)) : Option (Option zE)) := zlch (a := cdS_8_0) (luk_8_0 5) zg5
theorem lq_808 : cd_L[808]? = (some (some (.pop, 809, 0, 0, 0, .null)) : Option (Option zE)) := zlch (a := cdS_8_0) (luk_8_0 8) zg8
theorem lq_809 : cd_L[809]? = (some (some (.goto 0, 812, 2138, 0, 0, .null)) : Option (Option zE)) := zlch (a := cdS_8_0) (luk_8_0 9) zg9
theorem lq_812 : cd_L[812]? = (some (some (.aload 1, 813, 1, 0, 0, .null)) : Option (Option zE)) := zlch (a := cdS_8_1) (luk_8_1 2) zg2
theorem lq_813 : cd_L[813]? = (some (some (.aload 0, 814, 0, 0, 0, .null)) : Option (Option zE)) := zlch (a := cdS_8_1) (luk_8_1 3) zg3
theorem lq_814 : cd_L[814]? = (some (some (.iload 3, 815, 3, 0, 0, .null)) : Option (Option zE)) := zlch (a := cdS_8_1) (luk_8_1 4) zg4
theorem lq_815 : cd_L[815]? = (some (some (.aconst_null, 816, 0, 0, 0, .int 1)) : Option (Option zE)) := zlch (a := cdS_8_1) (luk_8_1 5) zg5
theorem lq_816 : cd_L[816]? = (some (some (.iadd, 817, 0, 0, 0, .null)) : Option (Option zE)) := zlch (a := cdS_8_1) (luk_8_1 6) zg6
theorem lq_817 : cd_L[817]? = (some (some (.saload, 818, 0, 0, 0, .null)) : Option (Option zE)) := zlch (a := cdS_8_1) (luk_8_1 7) zg7
theorem lq_818 : cd_L[818]? = (some (some (.invokevirtual 0, 821, 124, 1, 11, .null)) : Option (Option zE)) := zlch (a := cdS_8_1) (luk_8_1 8) zg8
theorem lq_821 : cd_L[821]? = (some (some (.pop, 822, 0, 0, 0, .null)) : Option (Option zE)) := zlch (a := cdS_8_2) (luk_8_2 1) zg1
theorem lq_822 : cd_L[822]? = (some (some (.aload 2, 823, 2, 0, 0, .null)) : Option (Option zE)) := zlch (a := cdS_8_2) (luk_8_2 2) zg2
theorem lq_823 : cd_L[823]? = (some (some (.aload 0, 824, 0, 0, 0, .null)) : Option (Option zE)) := zlch (a := cdS_8_2) (luk_8_2 3) zg3
theorem lq_824 : cd_L[824]? = (some (some (.iload 3, 825, 3, 0, 0, .null)) : Option (Option zE)) := zlch (a := cdS_8_2) (luk_8_2 4) zg4
theorem lq_825 : cd_L[825]? = (some (some (.aconst_null, 826, 0, 0, 0, .int 1)) : Option (Option zE)) := zlch (a := cdS_8_2) (luk_8_2 5) zg5
theorem lq_826 : cd_L[826]? = (some (some (.iadd, 827, 0, 0, 0, .null)) : Option (Option zE)) := zlch (a := cdS_8_2) (luk_8_2 6) zg6
theorem lq_827 : cd_L[827]? = (some (some (.saload, 828, 0, 0, 0, .null)) : Option (Option zE)) := zlch (a := cdS_8_2) (luk_8_2 7) zg7
theorem lq_828 : cd_L[828]? = (some (some (.invokevirtual 0, 831, 225, 1, 12, .null)) : Option (Option zE)) := zlch (a := cdS_8_2) (luk_8_2 8) zg8
theorem lq_831 : cd_L[831]? = (some (some (.pop, 832, 0, 0, 0, .null)) : Option (Option zE)) := zlch (a := cdS_8_3) (luk_8_3 1) zg1
theorem lq_832 : cd_L[832]? = (some (some (.goto 0, 835, 2138, 0, 0, .null)) : Option (Option zE)) := zlch (a := cdS_8_3) (luk_8_3 2) zg2
theorem lq_835 : cd_L[835]? = (some (some (.aload 1, 836, 1, 0, 0, .null)) : Option (Option zE)) := zlch (a := cdS_8_3) (luk_8_3 5) zg5
theorem lq_836 : cd_L[836]? = (some (some (.aload 0, 837, 0, 0, 0, .null)) : Option (Option zE)) := zlch (a := cdS_8_3) (luk_8_3 6) zg6
theorem lq_837 : cd_L[837]? = (some (some (.iload 3, 838, 3, 0, 0, .null)) : Option (Option zE)) := zlch (a := cdS_8_3) (luk_8_3 7) zg7
theorem lq_838 : cd_L[838]? = (some (some (.aconst_null, 839, 0, 0, 0, .int 1)) : Option (Option zE)) := zlch (a := cdS_8_3) (luk_8_3 8) zg8
theorem lq_839 : cd_L[839]? = (some (some (.iadd, 840, 0, 0, 0, .null)) : Option (Option zE)) := zlch (a := cdS_8_3) (luk_8_3 9) zg9
theorem lq_840 : cd_L[840]? = (some (some (.saload, 841, 0, 0, 0, .null)) : Option (Option zE)) := zlch (a := cdS_8_4) (luk_8_4 0) zg0
theorem lq_841 : cd_L[841]? = (some (some (.invokevirtual 0, 844, 125, 1, 11, .null)) : Option (Option zE)) := zlch (a := cdS_8_4) (luk_8_4 1) zg1
theorem lq_844 : cd_L[844]? = (some (some (.pop, 845, 0, 0, 0, .null)) : Option (Option zE)) := zlch (a := cdS_8_4) (luk_8_4 4) zg4
theorem lq_845 : cd_L[845]? = (some (some (.aload 2, 846, 2, 0, 0, .null)) : Option (Option zE)) := zlch (a := cdS_8_4) (luk_8_4 5) zg5
theorem lq_846 : cd_L[846]? = (some (some (.aload 0, 847, 0, 0, 0, .null)) : Option (Option zE)) := zlch (a := cdS_8_4) (luk_8_4 6) zg6
theorem lq_847 : cd_L[847]? = (some (some (.iload 3, 848, 3, 0, 0, .null)) : Option (Option zE)) := zlch (a := cdS_8_4) (luk_8_4 7) zg7
theorem lq_848 : cd_L[848]? = (some (some (.aconst_null, 849, 0, 0, 0, .int 1)) : Option (Option zE)) := zlch (a := cdS_8_4) (luk_8_4 8) zg8
theorem lq_849 : cd_L[849]? = (some (some (.iadd, 850, 0, 0, 0, .null)) : Option (Option zE)) := zlch (a := cdS_8_4) (luk_8_4 9) zg9
theorem lq_850 : cd_L[850]? = (some (some (.saload, 851, 0, 0, 0, .null)) : Option (Option zE)) := zlch (a := cdS_8_5) (luk_8_5 0) zg0
theorem lq_851 : cd_L[851]? = (some (some (.invokevirtual 0, 854, 227, 1, 12, .null)) : Option (Option zE)) := zlch (a := cdS_8_5) (luk_8_5 1) zg1
theorem lq_854 : cd_L[854]? = (some (some (.pop, 855, 0, 0, 0, .null)) : Option (Option zE)) := zlch (a := cdS_8_5) (luk_8_5 4) zg4
theorem lq_855 : cd_L[855]? = (some (some (.goto 0, 858, 2138, 0, 0, .null)) : Option (Option zE)) := zlch (a := cdS_8_5) (luk_8_5 5) zg5
theorem lq_858 : cd_L[858]? = (some (some (.aload 1, 859, 1, 0, 0, .null)) : Option (Option zE)) := zlch (a := cdS_8_5) (luk_8_5 8) zg8
theorem lq_859 : cd_L[859]? = (some (some (.aload 0, 860, 0, 0, 0, .null)) : Option (Option zE)) := zlch (a := cdS_8_5) (luk_8_5 9) zg9
theorem lq_860 : cd_L[860]? = (some (some (.iload 3, 861, 3, 0, 0, .null)) : Option (Option zE)) := zlch (a := cdS_8_6) (luk_8_6 0) zg0
theorem lq_861 : cd_L[861]? = (some (some (.aconst_null, 862, 0, 0, 0, .int 1)) : Option (Option zE)) := zlch (a := cdS_8_6) (luk_8_6 1) zg1
theorem lq_862 : cd_L[862]? = (some (some (.iadd, 863, 0, 0, 0, .null)) : Option (Option zE)) := zlch (a := cdS_8_6) (luk_8_6 2) zg2
theorem lq_863 : cd_L[863]? = (some (some (.saload, 864, 0, 0, 0, .null)) : Option (Option zE)) := zlch (a := cdS_8_6) (luk_8_6 3) zg3
theorem lq_864 : cd_L[864]? = (some (some (.aload 0, 865, 0, 0, 0, .null)) : Option (Option zE)) := zlch (a := cdS_8_6) (luk_8_6 4) zg4
theorem lq_865 : cd_L[865]? = (some (some (.iload 3, 866, 3, 0, 0, .null)) : Option (Option zE)) := zlch (a := cdS_8_6) (luk_8_6 5) zg5
theorem lq_866 : cd_L[866]? = (some (some (.aconst_null, 867, 0, 0, 0, .int 2)) : Option (Option zE)) := zlch (a := cdS_8_6) (luk_8_6 6) zg6
theorem lq_867 : cd_L[867]? = (some (some (.iadd, 868, 0, 0, 0, .null)) : Option (Option zE)) := zlch (a := cdS_8_6) (luk_8_6 7) zg7
theorem lq_868 : cd_L[868]? = (some (some (.saload, 869, 0, 0, 0, .null)) : Option (Option zE)) := zlch (a := cdS_8_6) (luk_8_6 8) zg8
theorem lq_869 : cd_L[869]? = (some (some (.aload 0, 870, 0, 0, 0, .null)) : Option (Option zE)) := zlch (a := cdS_8_6) (luk_8_6 9) zg9
theorem lq_870 : cd_L[870]? = (some (some (.iload 3, 871, 3, 0, 0, .null)) : Option (Option zE)) := zlch (a := cdS_8_7) (luk_8_7 0) zg0
theorem lq_871 : cd_L[871]? = (some (some (.aconst_null, 872, 0, 0, 0, .int 3)) : Option (Option zE)) := zlch (a := cdS_8_7) (luk_8_7 1) zg1
theorem lq_872 : cd_L[872]? = (some (some (.iadd, 873, 0, 0, 0, .null)) : Option (Option zE)) := zlch (a := cdS_8_7) (luk_8_7 2) zg2
theorem lq_873 : cd_L[873]? = (some (some (.saload, 874, 0, 0, 0, .null)) : Option (Option zE)) := zlch (a := cdS_8_7) (luk_8_7 3) zg3
theorem lq_874 : cd_L[874]? = (some (some (.invokevirtual 0, 877, 126, 3, 11, .null)) : Option (Option zE)) := zlch (a := cdS_8_7) (luk_8_7 4) zg4
theorem lq_877 : cd_L[877]? = (some (some (.pop, 878, 0, 0, 0, .null)) : Option (Option zE)) := zlch (a := cdS_8_7) (luk_8_7 7) zg7
theorem lq_878 : cd_L[878]? = (some (some (.aload 2, 879, 2, 0, 0, .null)) : Option (Option zE)) := zlch (a := cdS_8_7) (luk_8_7 8) zg8
theorem lq_879 : cd_L[879]? = (some (some (.aload 0, 880, 0, 0, 0, .null)) : Option (Option zE)) := zlch (a := cdS_8_7) (luk_8_7 9) zg9
theorem lq_880 : cd_L[880]? = (some (some (.iload 3, 881, 3, 0, 0, .null)) : Option (Option zE)) := zlch (a := cdS_8_8) (luk_8_8 0) zg0
theorem lq_881 : cd_L[881]? = (some (some (.aconst_null, 882, 0, 0, 0, .int 1)) : Option (Option zE)) := zlch (a := cdS_8_8) (luk_8_8 1) zg1
theorem lq_882 : cd_L[882]? = (some (some (.iadd, 883, 0, 0, 0, .null)) : Option (Option zE)) := zlch (a := cdS_8_8) (luk_8_8 2) zg2
theorem lq_883 : cd_L[883]? = (some (some (.saload, 884, 0, 0, 0, .null)) : Option (Option zE)) := zlch (a := cdS_8_8) (luk_8_8 3) zg3
theorem lq_884 : cd_L[884]? = (some (some (.aload 0, 885, 0, 0, 0, .null)) : Option (Option zE)) := zlch (a := cdS_8_8) (luk_8_8 4) zg4
theorem lq_885 : cd_L[885]? = (some (some (.iload 3, 886, 3, 0, 0, .null)) : Option (Option zE)) := zlch (a := cdS_8_8) (luk_8_8 5) zg5
theorem lq_886 : cd_L[886]? = (some (some (.aconst_null, 887, 0, 0, 0, .int 2)) : Option (Option zE)) := zlch (a := cdS_8_8) (luk_8_8 6) zg6
theorem lq_887 : cd_L[887]? = (some (some (.iadd, 888, 0, 0, 0, .null)) : Option (Option zE)) := zlch (a := cdS_8_8) (luk_8_8 7) zg7
theorem lq_888 : cd_L[888]? = (some (some (.saload, 889, 0, 0, 0, .null)) : Option (Option zE)) := zlch (a := cdS_8_8) (luk_8_8 8) zg8
theorem lq_889 : cd_L[889]? = (some (some (.aload 0, 890, 0, 0, 0, .null)) : Option (Option zE)) := zlch (a := cdS_8_8) (luk_8_8 9) zg9
theorem lq_890 : cd_L[890]? = (some (some (.iload 3, 891, 3, 0, 0, .null)) : Option (Option zE)) := zlch (a := cdS_8_9) (luk_8_9 0) zg0
theorem lq_891 : cd_L[891]? = (some (some (.aconst_null, 892, 0, 0, 0, .int 3)) : Option (Option zE)) := zlch (a := cdS_8_9) (luk_8_9 1) zg1
theorem lq_892 : cd_L[892]? = (some (some (.iadd, 893, 0, 0, 0, .null)) : Option (Option zE)) := zlch (a := cdS_8_9) (luk_8_9 2) zg2
theorem lq_893 : cd_L[893]? = (some (some (.saload, 894, 0, 0, 0, .null)) : Option (Option zE)) := zlch (a := cdS_8_9) (luk_8_9 3) zg3
theorem lq_894 : cd_L[894]? = (some (some (.invokevirtual 0, 897, 235, 3, 12, .null)) : Option (Option zE)) := zlch (a := cdS_8_9) (luk_8_9 4) zg4
theorem lq_897 : cd_L[897]? = (some (some (.pop, 898, 0, 0, 0, .null)) : Option (Option zE)) := zlch (a := cdS_8_9) (luk_8_9 7) zg7
theorem lq_898 : cd_L[898]? = (some (some (.goto 0, 901, 2138, 0, 0, .null)) : Option (Option zE)) := zlch (a := cdS_8_9) (luk_8_9 8) zg8
theorem lq_901 : cd_L[901]? = (some (some (.aload 1, 902, 1, 0, 0, .null)) : Option (Option zE)) := zlch (a := cdS_9_0) (luk_9_0 1) zg1
theorem lq_902 : cd_L[902]? = (some (some (.aload 0, 903, 0, 0, 0, .null)) : Option (Option zE)) := zlch (a := cdS_9_0) (luk_9_0 2) zg2
theorem lq_903 : cd_L[903]? = (some (some (.iload 3, 904, 3, 0, 0, .null)) : Option (Option zE)) := zlch (a := cdS_9_0) (luk_9_0 3) zg3
theorem lq_904 : cd_L[904]? = (some (some (.aconst_null, 905, 0, 0, 0, .int 1)) : Option (Option zE)) := zlch (a := cdS_9_0) (luk_9_0 4) zg4
theorem lq_905 : cd_L[905]? = (some (some (.iadd, 906, 0, 0, 0, .null)) : Option (Option zE)) := zlch (a := cdS_9_0) (luk_9_0 5) zg5
theorem lq_906 : cd_L[906]? = (some (some (.saload, 907, 0, 0, 0, .null)) : Option (Option zE)) := zlch (a := cdS_9_0) (luk_9_0 6) zg6
theorem lq_907 : cd_L[907]? = (some (some (.aload 0, 908, 0, 0, 0, .null)) : Option (Option zE)) := zlch (a := cdS_9_0) (luk_9_0 7) zg7
theorem lq_908 : cd_L[908]? = (some (some (.iload 3, 909, 3, 0, 0, .null)) : Option (Option zE)) := zlch (a := cdS_9_0) (luk_9_0 8) zg8
theorem lq_909 : cd_L[909]? = (some (some (.aconst_null, 910, 0, 0, 0, .int 2)) : Option (Option zE)) := zlch (a := cdS_9_0) (luk_9_0 9) zg9
theorem lq_910 : cd_L[910]? = (some (some (.iadd, 911, 0, 0, 0, .null)) : Option (Option zE)) := zlch (a := cdS_9_1) (luk_9_1 0) zg0
theorem lq_911 : cd_L[911]? = (some (some (.saload, 912, 0, 0, 0, .null)) : Option (Option zE)) := zlch (a := cdS_9_1) (luk_9_1 1) zg1
theorem lq_912 : cd_L[912]? = (some (some (.aload 0, 913, 0, 0, 0, .null)) : Option (Option zE)) := zlch (a := cdS_9_1) (luk_9_1 2) zg2
theorem lq_913 : cd_L[913]? = (some (some (.iload 3, 914, 3, 0, 0, .null)) : Option (Option zE)) := zlch (a := cdS_9_1) (luk_9_1 3) zg3
theorem lq_914 : cd_L[914]? = (some (some (.aconst_null, 915, 0, 0, 0, .int 3)) : Option (Option zE)) := zlch (a := cdS_9_1) (luk_9_1 4) zg4
theorem lq_915 : cd_L[915]? = (some (some (.iadd, 916, 0, 0, 0, .null)) : Option (Option zE)) := zlch (a := cdS_9_1) (luk_9_1 5) zg5
theorem lq_916 : cd_L[916]? = (some (some (.saload, 917, 0, 0, 0, .null)) : Option (Option zE)) := zlch (a := cdS_9_1) (luk_9_1 6) zg6
theorem lq_917 : cd_L[917]? = (some (some (.invokevirtual 0, 920, 127, 3, 11, .null)) : Option (Option zE)) := zlch (a := cdS_9_1) (luk_9_1 7) zg7
theorem lq_920 : cd_L[920]? = (some (some (.pop, 921, 0, 0, 0, .null)) : Option (Option zE)) := zlch (a := cdS_9_2) (luk_9_2 0) zg0
theorem lq_921 : cd_L[921]? = (some (some (.aload 2, 922, 2, 0, 0, .null)) : Option (Option zE)) := zlch (a := cdS_9_2) (luk_9_2 1) zg1
theorem lq_922 : cd_L[922]? = (some (some (.aload 0, 923, 0, 0, 0, .null)) : Option (Option zE)) := zlch (a := cdS_9_2) (luk_9_2 2) zg2
theorem lq_923 : cd_L[923]? = (some (some (.iload 3, 924, 3, 0, 0, .null)) : Option (Option zE)) := zlch (a := cdS_9_2) (luk_9_2 3) zg3
theorem lq_924 : cd_L[924]? = (some (some (.aconst_null, 925, 0, 0, 0, .int 1)) : Option (Option zE)) := zlch (a := cdS_9_2) (luk_9_2 4) zg4
theorem lq_925 : cd_L[925]? = (some (some (.iadd, 926, 0, 0, 0, .null)) : Option (Option zE)) := zlch (a := cdS_9_2) (luk_9_2 5) zg5
theorem lq_926 : cd_L[926]? = (some (some (.saload, 927, 0, 0, 0, .null)) : Option (Option zE)) := zlch (a := cdS_9_2) (luk_9_2 6) zg6
theorem lq_927 : cd_L[927]? = (some (some (.aload 0, 928, 0, 0, 0, .null)) : Option (Option zE)) := zlch (a := cdS_9_2) (luk_9_2 7) zg7
theorem lq_928 : cd_L[928]? = (some (some (.iload 3, 929, 3, 0, 0, .null)) : Option (Option zE)) := zlch (a := cdS_9_2) (luk_9_2 8) zg8
theorem lq_929 : cd_L[929]? = (some (some (.aconst_null, 930, 0, 0, 0, .int 2)) : Option (Option zE)) := zlch (a := cdS_9_2) (luk_9_2 9) zg9
theorem lq_930 : cd_L[930]? = (some (some (.iadd, 931, 0, 0, 0, .null)) : Option (Option zE)) := zlch (a := cdS_9_3) (luk_9_3 0) zg0
theorem lq_931 : cd_L[931]? = (some (some (.saload, 932, 0, 0, 0, .null)) : Option (Option zE)) := zlch (a := cdS_9_3) (luk_9_3 1) zg1
theorem lq_932 : cd_L[932]? = (some (some (.aload 0, 933, 0, 0, 0, .null)) : Option (Option zE)) := zlch (a := cdS_9_3) (luk_9_3 2) zg2
theorem lq_933 : cd_L[933]? = (some (some (.iload 3, 934, 3, 0, 0, .null)) : Option (Option zE)) := zlch (a := cdS_9_3) (luk_9_3 3) zg3
theorem lq_934 : cd_L[934]? = (some (some (.aconst_null, 935, 0, 0, 0, .int 3)) : Option (Option zE)) := zlch (a := cdS_9_3) (luk_9_3 4) zg4
theorem lq_935 : cd_L[935]? = (some (some (.iadd, 936, 0, 0, 0, .null)) : Option (Option zE)) := zlch (a := cdS_9_3) (luk_9_3 5) zg5
theorem lq_936 : cd_L[936]? = (some (some (.saload, 937, 0, 0, 0, .null)) : Option (Option zE)) := zlch (a := cdS_9_3) (luk_9_3 6) zg6
theorem lq_937 : cd_L[937]? = (some (some (.invokevirtual 0, 940, 236, 3, 12, .null)) : Option (Option zE)) := zlch (a := cdS_9_3) (luk_9_3 7) zg7
theorem lq_940 : cd_L[940]? = (some (some (.pop, 941, 0, 0, 0, .null)) : Option (Option zE)) := zlch (a := cdS_9_4) (luk_9_4 0) zg0
theorem lq_941 : cd_L[941]? = (some (some (.goto 0, 944, 2138, 0, 0, .null)) : Option (Option zE)) := zlch (a := cdS_9_4) (luk_9_4 1) zg1
theorem lq_944 : cd_L[944]? = (some (some (.aload 1, 945, 1, 0, 0, .null)) : Option (Option zE)) := zlch (a := cdS_9_4) (luk_9_4 4) zg4
theorem lq_945 : cd_L[945]? = (some (some (.aload 0, 946, 0, 0, 0, .null)) : Option (Option zE)) := zlch (a := cdS_9_4) (luk_9_4 5) zg5
theorem lq_946 : cd_L[946]? = (some (some (.iload 3, 947, 3, 0, 0, .null)) : Option (Option zE)) := zlch (a := cdS_9_4) (luk_9_4 6) zg6
theorem lq_947 : cd_L[947]? = (some (some (.aconst_null, 948, 0, 0, 0, .int 1)) : Option (Option zE)) := zlch (a := cdS_9_4) (luk_9_4 7) zg7
theorem lq_948 : cd_L[948]? = (some (some (.iadd, 949, 0, 0, 0, .null)) : Option (Option zE)) := zlch (a := cdS_9_4) (luk_9_4 8) zg8
theorem lq_949 : cd_L[949]? = (some (some (.saload, 950, 0, 0, 0, .null)) : Option (Option zE)) := zlch (a := cdS_9_4) (luk_9_4 9) zg9
theorem lq_950 : cd_L[950]? = (some (some (.aload 0, 951, 0, 0, 0, .null)) : Option (Option zE)) := zlch (a := cdS_9_5) (luk_9_5 0) zg0
theorem lq_951 : cd_L[951]? = (some (some (.iload 3, 952, 3, 0, 0, .null)) : Option (Option zE)) := zlch (a := cdS_9_5) (luk_9_5 1) zg1
theorem lq_952 : cd_L[952]? = (some (some (.aconst_null, 953, 0, 0, 0, .int 2)) : Option (Option zE)) := zlch (a := cdS_9_5) (luk_9_5 2) zg2
theorem lq_953 : cd_L[953]? = (some (some (.iadd, 954, 0, 0, 0, .null)) : Option (Option zE)) := zlch (a := cdS_9_5) (luk_9_5 3) zg3
theorem lq_954 : cd_L[954]? = (some (some (.saload, 955, 0, 0, 0, .null)) : Option (Option zE)) := zlch (a := cdS_9_5) (luk_9_5 4) zg4
theorem lq_955 : cd_L[955]? = (some (some (.invokevirtual 0, 958, 128, 2, 11, .null)) : Option (Option zE)) := zlch (a := cdS_9_5) (luk_9_5 5) zg5
theorem lq_958 : cd_L[958]? = (some (some (.pop, 959, 0, 0, 0, .null)) : Option (Option zE)) := zlch (a := cdS_9_5) (luk_9_5 8) zg8
theorem lq_959 : cd_L[959]? = (some (some (.aload 2, 960, 2, 0, 0, .null)) : Option (Option zE)) := zlch (a := cdS_9_5) (luk_9_5 9) zg9
theorem lq_960 : cd_L[960]? = (some (some (.aload 0, 961, 0, 0, 0, .null)) : Option (Option zE)) := zlch (a := cdS_9_6) (luk_9_6 0) zg0
theorem lq_961 : cd_L[961]? = (some (some (.iload 3, 962, 3, 0, 0, .null)) : Option (Option zE)) := zlch (a := cdS_9_6) (luk_9_6 1) zg1
theorem lq_962 : cd_L[962]? = (some (some (.aconst_null, 963, 0, 0, 0, .int 1)) : Option (Option zE)) := zlch (a := cdS_9_6) (luk_9_6 2) zg2
theorem lq_963 : cd_L[963]? = (some (some (.iadd, 964, 0, 0, 0, .null)) : Option (Option zE)) := zlch (a := cdS_9_6) (luk_9_6 3) zg3
theorem lq_964 : cd_L[964]? = (some (some (.saload, 965, 0, 0, 0, .null)) : Option (Option zE)) := zlch (a := cdS_9_6) (luk_9_6 4) zg4
theorem lq_965 : cd_L[965]? = (some (some (.aload 0, 966, 0, 0, 0, .null)) : Option (Option zE)) := zlch (a := cdS_9_6) (luk_9_6 5) zg5
theorem lq_966 : cd_L[966]? = (some (some (.iload 3, 967, 3, 0, 0, .null)) : Option (Option zE)) := zlch (a := cdS_9_6) (luk_9_6 6) zg6
theorem lq_967 : cd_L[967]? = (some (some (.aconst_null, 968, 0, 0, 0, .int 2)) : Option (Option zE)) := zlch (a := cdS_9_6) (luk_9_6 7) zg7
theorem lq_968 : cd_L[968]? = (some (some (.iadd, 969, 0, 0, 0, .null)) : Option (Option zE)) := zlch (a := cdS_9_6) (luk_9_6 8) zg8
theorem lq_969 : cd_L[969]? = (some (some (.saload, 970, 0, 0, 0, .null)) : Option (Option zE)) := zlch (a := cdS_9_6) (luk_9_6 9) zg9
theorem lq_970 : cd_L[970]? = (some (some (.invokevirtual 0, 973, 237, 2, 12, .null)) : Option (Option zE)) := zlch (a := cdS_9_7) (luk_9_7 0) zg0
theorem lq_973 : cd_L[973]? = (some (some (.pop, 974, 0, 0, 0, .null)) : Option (Option zE)) := zlch (a := cdS_9_7) (luk_9_7 3) zg3
theorem lq_974 : cd_L[974]? = (some (some (.goto 0, 977, 2138, 0, 0, .null)) : Option (Option zE)) := zlch (a := cdS_9_7) (luk_9_7 4) zg4
theorem lq_977 : cd_L[977]? = (some (some (.aload 1, 978, 1, 0, 0, .null)) : Option (Option zE)) := zlch (a := cdS_9_7) (luk_9_7 7) zg7
theorem lq_978 : cd_L[978]? = (some (some (.aload 0, 979, 0, 0, 0, .null)) : Option (Option zE)) := zlch (a := cdS_9_7) (luk_9_7 8) zg8
theorem lq_979 : cd_L[979]? = (some (some (.iload 3, 980, 3, 0, 0, .null)) : Option (Option zE)) := zlch (a := cdS_9_7) (luk_9_7 9) zg9
theorem lq_980 : cd_L[980]? = (some (some (.aconst_null, 981, 0, 0, 0, .int 1)) : Option (Option zE)) := zlch (a := cdS_9_8) (luk_9_8 0) zg0
theorem lq_981 : cd_L[981]? = (some (some (.iadd, 982, 0, 0, 0, .null)) : Option (Option zE)) := zlch (a := cdS_9_8) (luk_9_8 1) zg1
theorem lq_982 : cd_L[982]? = (some (some (.saload, 983, 0, 0, 0, .null)) : Option (Option zE)) := zlch (a := cdS_9_8) (luk_9_8 2) zg2
theorem lq_983 : cd_L[983]? = (some (some (.aload 0, 984, 0, 0, 0, .null)) : Option (Option zE)) := zlch (a := cdS_9_8) (luk_9_8 3) zg3
theorem lq_984 : cd_L[984]? = (some (some (.iload 3, 985, 3, 0, 0, .null)) : Option (Option zE)) := zlch (a := cdS_9_8) (luk_9_8 4) zg4
theorem lq_985 : cd_L[985]? = (some (some (.aconst_null, 986, 0, 0, 0, .int 2)) : Option (Option zE)) := zlch (a := cdS_9_8) (luk_9_8 5) zg5
theorem lq_986 : cd_L[986]? = (some (some (.iadd, 987, 0, 0, 0, .null)) : Option (Option zE)) := zlch (a := cdS_9_8) (luk_9_8 6) zg6
theorem lq_987 : cd_L[987]? = (some (some (.saload, 988, 0, 0, 0, .null)) : Option (Option zE)) := zlch (a := cdS_9_8) (luk_9_8 7) zg7
theorem lq_988 : cd_L[988]? = (some (some (.aload 0, 989, 0, 0, 0, .null)) : Option (Option zE)) := zlch (a := cdS_9_8) (luk_9_8 8) zg8
theorem lq_989 : cd_L[989]? = (some (some (.iload 3, 990, 3, 0, 0, .null)) : Option (Option zE)) := zlch (a := cdS_9_8) (luk_9_8 9) zg9
theorem lq_990 : cd_L[990]? = (some (some (.aconst_null, 991, 0, 0, 0, .int 3)) : Option (Option zE)) := zlch (a := cdS_9_9) (luk_9_9 0) zg0
theorem lq_991 : cd_L[991]? = (some (some (.iadd, 992, 0, 0, 0, .null)) : Option (Option zE)) := zlch (a := cdS_9_9) (luk_9_9 1) zg1
theorem lq_992 : cd_L[992]? = (some (some (.saload, 993, 0, 0, 0, .null)) : Option (Option zE)) := zlch (a := cdS_9_9) (luk_9_9 2) zg2
theorem lq_993 : cd_L[993]? = (some (some (.aload 0, 994, 0, 0, 0, .null)) : Option (Option zE)) := zlch (a := cdS_9_9) (luk_9_9 3) zg3
theorem lq_994 : cd_L[994]? = (some (some (.iload 3, 995, 3, 0, 0, .null)) : Option (Option zE)) := zlch (a := cdS_9_9) (luk_9_9 4) zg4
theorem lq_995 : cd_L[995]? = (some (some (.aconst_null, 996, 0, 0, 0, .int 4)) : Option (Option zE)) := zlch (a := cdS_9_9) (luk_9_9 5) zg5
theorem lq_996 : cd_L[996]? = (some (some (.iadd, 997, 0, 0, 0, .null)) : Option (Option zE)) := zlch (a := cdS_9_9) (luk_9_9 6) zg6
theorem lq_997 : cd_L[997]? = (some (some (.saload, 998, 0, 0, 0, .null)) : Option (Option zE)) := zlch (a := cdS_9_9) (luk_9_9 7) zg7
theorem lq_998 : cd_L[998]? = (some (some (.ifCond .eq 0, 1001, 1005, 0, 0, .null)) : Option (Option zE)) := zlch (a := cdS_9_9) (luk_9_9 8) zg8
theorem lq_1001 : cd_L[1001]? = (some (some (.aconst_null, 1002, 0, 0, 0, .int 1)) : Option (Option zE)) := zlch (a := cdS_10_0) (luk_10_0 1) zg1
theorem lq_1002 : cd_L[1002]? = (some (some (.goto 0, 1005, 1006, 0, 0, .null)) : Option (Option zE)) := zlch (a := cdS_10_0) (luk_10_0 2) zg2
theorem lq_1005 : cd_L[1005]? = (some (some (.aconst_null, 1006, 0, 0, 0, .int 0)) : Option (Option zE)) := zlch (a := cdS_10_0) (luk_10_0 5) zg5
theorem lq_1006 : cd_L[1006]? = (some (some (.invokevirtual 0, 1009, 129, 4, 11, .null)) : Option (Option zE)) := zlch (a := cdS_10_0) (luk_10_0 6) zg6
theorem lq_1009 : cd_L[1009]? = (some (some (.pop, 1010, 0, 0, 0, .null)) : Option (Option zE)) := zlch (a := cdS_10_0) (luk_10_0 9) zg9
theorem lq_1010 : cd_L[1010]? = (some (some (.aload 2, 1011, 2, 0, 0, .null)) : Option (Option zE)) := zlch (a := cdS_10_1) (luk_10_1 0) zg0
theorem lq_1011 : cd_L[1011]? = (some (some (.aload 0, 1012, 0, 0, 0, .null)) : Option (Option zE)) := zlch (a := cdS_10_1) (luk_10_1 1) zg1
theorem lq_1012 : cd_L[1012]? = (some (some (.iload 3, 1013, 3, 0, 0, .null)) : Option (Option zE)) := zlch (a := cdS_10_1) (luk_10_1 2) zg2
theorem lq_1013 : cd_L[1013]? = (some (some (.aconst_null, 1014, 0, 0, 0, .int 1)) : Option (Option zE)) := zlch (a := cdS_10_1) (luk_10_1 3) zg3
theorem lq_1014 : cd_L[1014]? = (some (some (.iadd, 1015, 0, 0, 0, .null)) : Option (Option zE)) := zlch (a := cdS_10_1) (luk_10_1 4) zg4
theorem lq_1015 : cd_L[1015]? = (some (some (.saload, 1016, 0, 0, 0, .null)) : Option (Option zE)) := zlch (a := cdS_10_1) (luk_10_1 5) zg5
theorem lq_1016 : cd_L[1016]? = (some (some (.aload 0, 1017, 0, 0, 0, .null)) : Option (Option zE)) := zlch (a := cdS_10_1) (luk_10_1 6) zg6
theorem lq_1017 : cd_L[1017]? = (some (some (.iload 3, 1018, 3, 0, 0, .null)) : Option (Option zE)) := zlch (a := cdS_10_1) (luk_10_1 7) zg7
theorem lq_1018 : cd_L[1018]? = (some (some (.aconst_null, 1019, 0, 0, 0, .int 2)) : Option (Option zE)) := zlch (a := cdS_10_1) (luk_10_1 8) zg8
theorem lq_1019 : cd_L[1019]? = (some (some (.iadd, 1020, 0, 0, 0, .null)) : Option (Option zE)) := zlch (a := cdS_10_1) (luk_10_1 9) zg9
theorem lq_1020 : cd_L[1020]? = (some (some (.saload, 1021, 0, 0, 0, .null)) : Option (Option zE)) := zlch (a := cdS_10_2) (luk_10_2 0) zg0
theorem lq_1021 : cd_L[1021]? = (some (some (.aload 0, 1022, 0, 0, 0, .null)) : Option (Option zE)) := zlch (a := cdS_10_2) (luk_10_2 1) zg1
theorem lq_1022 : cd_L[1022]? = (some (some (.iload 3, 1023, 3, 0, 0, .null)) : Option (Option zE)) := zlch (a := cdS_10_2) (luk_10_2 2) zg2
theorem lq_1023 : cd_L[1023]? = (some (some (.aconst_null, 1024, 0, 0, 0, .int 3)) : Option (Option zE)) := zlch (a := cdS_10_2) (luk_10_2 3) zg3
theorem lq_1024 : cd_L[1024]? = (some (some (.iadd, 1025, 0, 0, 0, .null)) : Option (Option zE)) := zlch (a := cdS_10_2) (luk_10_2 4) zg4
theorem lq_1025 : cd_L[1025]? = (some (some (.saload, 1026, 0, 0, 0, .null)) : Option (Option zE)) := zlch (a := cdS_10_2) (luk_10_2 5) zg5
theorem lq_1026 : cd_L[1026]? = (some (some (.aload 0, 1027, 0, 0, 0, .null)) : Option (Option zE)) := zlch (a := cdS_10_2) (luk_10_2 6) zg6
theorem lq_1027 : cd_L[1027]? = (some (some (.iload 3, 1028, 3, 0, 0, .null)) : Option (Option zE)) := zlch (a := cdS_10_2) (luk_10_2 7) zg7
theorem lq_1028 : cd_L[1028]? = (some (some (.aconst_null, 1029, 0, 0, 0, .int 4)) : Option (Option zE)) := zlch (a := cdS_10_2) (luk_10_2 8) zg8
theorem lq_1029 : cd_L[1029]? = (some (some (.iadd, 1030, 0, 0, 0, .null)) : Option (Option zE)) := zlch (a := cdS_10_2) (luk_10_2 9) zg9
theorem lq_1030 : cd_L[1030]? = (some (some (.saload, 1031, 0, 0, 0, .null)) : Option (Option zE)) := zlch (a := cdS_10_3) (luk_10_3 0) zg0
theorem lq_1031 : cd_L[1031]? = (some (some (.ifCond .eq 0, 1034, 1038, 0, 0, .null)) : Option (Option zE)) := zlch (a := cdS_10_3) (luk_10_3 1) zg1
theorem lq_1034 : cd_L[1034]? = (some (some (.aconst_null, 1035, 0, 0, 0, .int 1)) : Option (Option zE)) := zlch (a := cdS_10_3) (luk_10_3 4) zg4
theorem lq_1035 : cd_L[1035]? = (some (some (.goto 0, 1038, 1039, 0, 0, .null)) : Option (Option zE)) := zlch (a := cdS_10_3) (luk_10_3 5) zg5
theorem lq_1038 : cd_L[1038]? = (some (some (.aconst_null, 1039, 0, 0, 0, .int 0)) : Option (Option zE)) := zlch (a := cdS_10_3) (luk_10_3 8) zg8
theorem lq_1039 : cd_L[1039]? = (some (some (.invokevirtual 0, 1042, 238, 4, 12, .null)) : Option (Option zE)) := zlch (a := cdS_10_3) (luk_10_3 9) zg9
theorem lq_1042 : cd_L[1042]? = (some (some (.pop, 1043, 0, 0, 0, .null)) : Option (Option zE)) := zlch (a := cdS_10_4) (luk_10_4 2) zg2
theorem lq_1043 : cd_L[1043]? = (some (some (.goto 0, 1046, 2138, 0, 0, .null)) : Option (Option zE)) := zlch (a := cdS_10_4) (luk_10_4 3) zg3
theorem lq_1046 : cd_L[1046]? = (some (some (.aload 1, 1047, 1, 0, 0, .null)) : Option (Option zE)) := zlch (a := cdS_10_4) (luk_10_4 6) zg6
theorem lq_1047 : cd_L[1047]? = (some (some (.aload 0, 1048, 0, 0, 0, .null)) : Option (Option zE)) := zlch (a := cdS_10_4) (luk_10_4 7) zg7
theorem lq_1048 : cd_L[1048]? = (some (some (.iload 3, 1049, 3, 0, 0, .null)) : Option (Option zE)) := zlch (a := cdS_10_4) (luk_10_4 8) zg8
theorem lq_1049 : cd_L[1049]? = (some (some (.aconst_null, 1050, 0, 0, 0, .int 1)) : Option (Option zE)) := zlch (a := cdS_10_4) (luk_10_4 9) zg9
theorem lq_1050 : cd_L[1050]? = (some (some (.iadd, 1051, 0, 0, 0, .null)) : Option (Option zE)) := zlch (a := cdS_10_5) (luk_10_5 0) zg0
theorem lq_1051 : cd_L[1051]? = (some (some (.saload, 1052, 0, 0, 0, .null)) : Option (Option zE)) := zlch (a := cdS_10_5) (luk_10_5 1) zg1
theorem lq_1052 : cd_L[1052]? = (some (some (.aload 0, 1053, 0, 0, 0, .null)) : Option (Option zE)) := zlch (a := cdS_10_5) (luk_10_5 2) zg2
theorem lq_1053 : cd_L[1053]? = (some (some (.iload 3, 1054, 3, 0, 0, .null)) : Option (Option zE)) := zlch (a := cdS_10_5) (luk_10_5 3) zg3
theorem lq_1054 : cd_L[1054]? = (some (some (.aconst_null, 1055, 0, 0, 0, .int 2)) : Option (Option zE)) := zlch (a := cdS_10_5) (luk_10_5 4) zg4
theorem lq_1055 : cd_L[1055]? = (some (some (.iadd, 1056, 0, 0, 0, .null)) : Option (Option zE)) := zlch (a := cdS_10_5) (luk_10_5 5) zg5
theorem lq_1056 : cd_L[1056]? = (some (some (.saload, 1057, 0, 0, 0, .null)) : Option (Option zE)) := zlch (a := cdS_10_5) (luk_10_5 6) zg6
theorem lq_1057 : cd_L[1057]? = (some (some (.invokevirtual 0, 1060, 130, 2, 11, .null)) : Option (Option zE)) := zlch (a := cdS_10_5) (luk_10_5 7) zg7
theorem lq_1060 : cd_L[1060]? = (some (some (.pop, 1061, 0, 0, 0, .null)) : Option (Option zE)) := zlch (a := cdS_10_6) (luk_10_6 0) zg0
theorem lq_1061 : cd_L[1061]? = (some (some (.aload 2, 1062, 2, 0, 0, .null)) : Option (Option zE)) := zlch (a := cdS_10_6) (luk_10_6 1) zg1
theorem lq_1062 : cd_L[1062]? = (some (some (.aload 0, 1063, 0, 0, 0, .null)) : Option (Option zE)) := zlch (a := cdS_10_6) (luk_10_6 2) zg2
theorem lq_1063 : cd_L[1063]? = (some (some (.iload 3, 1064, 3, 0, 0, .null)) : Option (Option zE)) := zlch (a := cdS_10_6) (luk_10_6 3) zg3
theorem lq_1064 : cd_L[1064]? = (some (some (.aconst_null, 1065, 0, 0, 0, .int 1)) : Option (Option zE)) := zlch (a := cdS_10_6) (luk_10_6 4) zg4
theorem lq_1065 : cd_L[1065]? = (some (some (.iadd, 1066, 0, 0, 0, .null)) : Option (Option zE)) := zlch (a := cdS_10_6) (luk_10_6 5) zg5
theorem lq_1066 : cd_L[1066]? = (some (some (.saload, 1067, 0, 0, 0, .null)) : Option (Option zE)) := zlch (a := cdS_10_6) (luk_10_6 6) zg6
theorem lq_1067 : cd_L[1067]? = (some (some (.aload 0, 1068, 0, 0, 0, .null)) : Option (Option zE)) := zlch (a := cdS_10_6) (luk_10_6 7) zg7
theorem lq_1068 : cd_L[1068]? = (some (some (.iload 3, 1069, 3, 0, 0, .null)) : Option (Option zE)) := zlch (a := cdS_10_6) (luk_10_6 8) zg8
theorem lq_1069 : cd_L[1069]? = (some (some (.aconst_null, 1070, 0, 0, 0, .int 2)) : Option (Option zE)) := zlch (a := cdS_10_6) (luk_10_6 9) zg9
theorem lq_1070 : cd_L[1070]? = (some (some (.iadd, 1071, 0, 0, 0, .null)) : Option (Option zE)) := zlch (a := cdS_10_7) (luk_10_7 0) zg0
theorem lq_1071 : cd_L[1071]? = (some (some (.saload, 1072, 0, 0, 0, .null)) : Option (Option zE)) := zlch (a := cdS_10_7) (luk_10_7 1) zg1
theorem lq_1072 : cd_L[1072]? = (some (some (.invokevirtual 0, 1075, 239, 2, 12, .null)) : Option (Option zE)) := zlch (a := cdS_10_7) (luk_10_7 2) zg2
theorem lq_1075 : cd_L[1075]? = (some (some (.pop, 1076, 0, 0, 0, .null)) : Option (Option zE)) := zlch (a := cdS_10_7) (luk_10_7 5) zg5
theorem lq_1076 : cd_L[1076]? = (some (some (.goto 0, 1079, 2138, 0, 0, .null)) : Option (Option zE)) := zlch (a := cdS_10_7) (luk_10_7 6) zg6
theorem lq_1079 : cd_L[1079]? = (some (some (.aload 1, 1080, 1, 0, 0, .null)) : Option (Option zE)) := zlch (a := cdS_10_7) (luk_10_7 9) zg9
theorem lq_1080 : cd_L[1080]? = (some (some (.aload 0, 1081, 0, 0, 0, .null)) : Option (Option zE)) := zlch (a := cdS_10_8) (luk_10_8 0) zg0
theorem lq_1081 : cd_L[1081]? = (some (some (.iload 3, 1082, 3, 0, 0, .null)) : Option (Option zE)) := zlch (a := cdS_10_8) (luk_10_8 1) zg1
theorem lq_1082 : cd_L[1082]? = (some (some (.aconst_null, 1083, 0, 0, 0, .int 1)) : Option (Option zE)) := zlch (a := cdS_10_8) (luk_10_8 2) zg2
theorem lq_1083 : cd_L[1083]? = (some (some (.iadd, 1084, 0, 0, 0, .null)) : Option (Option zE)) := zlch (a := cdS_10_8) (luk_10_8 3) zg3
theorem lq_1084 : cd_L[1084]? = (some (some (.saload, 1085, 0, 0, 0, .null)) : Option (Option zE)) := zlch (a := cdS_10_8) (luk_10_8 4) zg4
theorem lq_1085 : cd_L[1085]? = (some (some (.aload 0, 1086, 0, 0, 0, .null)) : Option (Option zE)) := zlch (a := cdS_10_8) (luk_10_8 5) zg5
theorem lq_1086 : cd_L[1086]? = (some (some (.iload 3, 1087, 3, 0, 0, .null)) : Option (Option zE)) := zlch (a := cdS_10_8) (luk_10_8 6) zg6
theorem lq_1087 : cd_L[1087]? = (some (some (.aconst_null, 1088, 0, 0, 0, .int 2)) : Option (Option zE)) := zlch (a := cdS_10_8) (luk_10_8 7) zg7
theorem lq_1088 : cd_L[1088]? = (some (some (.iadd, 1089, 0, 0, 0, .null)) : Option (Option zE)) := zlch (a := cdS_10_8) (luk_10_8 8) zg8
theorem lq_1089 : cd_L[1089]? = (some (some (.saload, 1090, 0, 0, 0, .null)) : Option (Option zE)) := zlch (a := cdS_10_8) (luk_10_8 9) zg9
theorem lq_1090 : cd_L[1090]? = (some (some (.aload 0, 1091, 0, 0, 0, .null)) : Option (Option zE)) := zlch (a := cdS_10_9) (luk_10_9 0) zg0
theorem lq_1091 : cd_L[1091]? = (some (some (.iload 3, 1092, 3, 0, 0, .null)) : Option (Option zE)) := zlch (a := cdS_10_9) (luk_10_9 1) zg1
theorem lq_1092 : cd_L[1092]? = (some (some (.aconst_null, 1093, 0, 0, 0, .int 3)) : Option (Option zE)) := zlch (a := cdS_10_9) (luk_10_9 2) zg2
theorem lq_1093 : cd_L[1093]? = (some (some (.iadd, 1094, 0, 0, 0, .null)) : Option (Option zE)) := zlch (a := cdS_10_9) (luk_10_9 3) zg3
theorem lq_1094 : cd_L[1094]? = (some (some (.saload, 1095, 0, 0, 0, .null)) : Option (Option zE)) := zlch (a := cdS_10_9) (luk_10_9 4) zg4
theorem lq_1095 : cd_L[1095]? = (some (some (.aload 0, 1096, 0, 0, 0, .null)) : Option (Option zE)) := zlch (a := cdS_10_9) (luk_10_9 5) zg5
theorem lq_1096 : cd_L[1096]? = (some (some (.iload 3, 1097, 3, 0, 0, .null)) : Option (Option zE)) := zlch (a := cdS_10_9) (luk_10_9 6) zg6
theorem lq_1097 : cd_L[1097]? = (some (some (.aconst_null, 1098, 0, 0, 0, .int 4)) : Option (Option zE)) := zlch (a := cdS_10_9) (luk_10_9 7) zg7
theorem lq_1098 : cd_L[1098]? = (some (some (.iadd, 1099, 0, 0, 0, .null)) : Option (Option zE)) := zlch (a := cdS_10_9) (luk_10_9 8) zg8
theorem lq_1099 : cd_L[1099]? = (some (some (.saload, 1100, 0, 0, 0, .null)) : Option (Option zE)) := zlch (a := cdS_10_9) (luk_10_9 9) zg9
theorem lq_1100 : cd_L[1100]? = (some (some (.aload 0, 1101, 0, 0, 0, .null)) : Option (Option zE)) := zlch (a := cdS_11_0) (luk_11_0 0) zg0
theorem lq_1101 : cd_L[1101]? = (some (some (.iload 3, 1102, 3, 0, 0, .null)) : Option (Option zE)) := zlch (a := cdS_11_0) (luk_11_0 1) zg1
theorem lq_1102 : cd_L[1102]? = (some (some (.aconst_null, 1103, 0, 0, 0, .int 5)) : Option (Option zE)) := zlch (a := cdS_11_0) (luk_11_0 2) zg2
theorem lq_1103 : cd_L[1103]? = (some (some (.iadd, 1104, 0, 0, 0, .null)) : Option (Option zE)) := zlch (a := cdS_11_0) (luk_11_0 3) zg3
theorem lq_1104 : cd_L[1104]? = (some (some (.saload, 1105, 0, 0, 0, .null)) : Option (Option zE)) := zlch (a := cdS_11_0) (luk_11_0 4) zg4
theorem lq_1105 : cd_L[1105]? = (some (some (.invokevirtual 0, 1108, 131, 5, 11, .null)) : Option (Option zE)) := zlch (a := cdS_11_0) (luk_11_0 5) zg5
theorem lq_1108 : cd_L[1108]? = (some (some (.pop, 1109, 0, 0, 0, .null)) : Option (Option zE)) := zlch (a := cdS_11_0) (luk_11_0 8) zg8
theorem lq_1109 : cd_L[1109]? = (some (some (.aload 2, 1110, 2, 0, 0, .null)) : Option (Option zE)) := zlch (a := cdS_11_0) (luk_11_0 9) zg9
theorem lq_1110 : cd_L[1110]? = (some (some (.aload 0, 1111, 0, 0, 0, .null)) : Option (Option zE)) := zlch (a := cdS_11_1) (luk_11_1 0) zg0
theorem lq_1111 : cd_L[1111]? = (some (some (.iload 3, 1112, 3, 0, 0, .null)) : Option (Option zE)) := zlch (a := cdS_11_1) (luk_11_1 1) zg1
theorem lq_1112 : cd_L[1112]? = (some (some (.aconst_null, 1113, 0, 0, 0, .int 1)) : Option (Option zE)) := zlch (a := cdS_11_1) (luk_11_1 2) zg2
theorem lq_1113 : cd_L[1113]? = (some (some (.iadd, 1114, 0, 0, 0, .null)) : Option (Option zE)) := zlch (a := cdS_11_1) (luk_11_1 3) zg3
theorem lq_1114 : cd_L[1114]? = (some (some (.saload, 1115, 0, 0, 0, .null)) : Option (Option zE)) := zlch (a := cdS_11_1) (luk_11_1 4) zg4
theorem lq_1115 : cd_L[1115]? = (some (some (.aload 0, 1116, 0, 0, 0, .null)) : Option (Option zE)) := zlch (a := cdS_11_1) (luk_11_1 5) zg5
theorem lq_1116 : cd_L[1116]? = (some (some (.iload 3, 1117, 3, 0, 0, .null)) : Option (Option zE)) := zlch (a := cdS_11_1) (luk_11_1 6) zg6
theorem lq_1117 : cd_L[1117]? = (some (some (.aconst_null, 1118, 0, 0, 0, .int 2)) : Option (Option zE)) := zlch (a := cdS_11_1) (luk_11_1 7) zg7
theorem lq_1118 : cd_L[1118]? = (some (some (.iadd, 1119, 0, 0, 0, .null)) : Option (Option zE)) := zlch (a := cdS_11_1) (luk_11_1 8) zg8
theorem lq_1119 : cd_L[1119]? = (some (some (.saload, 1120, 0, 0, 0, .null)) : Option (Option zE)) := zlch (a := cdS_11_1) (luk_11_1 9) zg9
theorem lq_1120 : cd_L[1120]? = (some (some (.aload 0, 1121, 0, 0, 0, .null)) : Option (Option zE)) := zlch (a := cdS_11_2) (luk_11_2 0) zg0
theorem lq_1121 : cd_L[1121]? = (some (some (.iload 3, 1122, 3, 0, 0, .null)) : Option (Option zE)) := zlch (a := cdS_11_2) (luk_11_2 1) zg1
theorem lq_1122 : cd_L[1122]? = (some (some (.aconst_null, 1123, 0, 0, 0, .int 3)) : Option (Option zE)) := zlch (a := cdS_11_2) (luk_11_2 2) zg2
theorem lq_1123 : cd_L[1123]? = (some (some (.iadd, 1124, 0, 0, 0, .null)) : Option (Option zE)) := zlch (a := cdS_11_2) (luk_11_2 3) zg3
theorem lq_1124 : cd_L[1124]? = (some (some (.saload, 1125, 0, 0, 0, .null)) : Option (Option zE)) := zlch (a := cdS_11_2) (luk_11_2 4) zg4
theorem lq_1125 : cd_L[1125]? = (some (some (.aload 0, 1126, 0, 0, 0, .null)) : Option (Option zE)) := zlch (a := cdS_11_2) (luk_11_2 5) zg5
theorem lq_1126 : cd_L[1126]? = (some (some (.iload 3, 1127, 3, 0, 0, .null)) : Option (Option zE)) := zlch (a := cdS_11_2) (luk_11_2 6) zg6
theorem lq_1127 : cd_L[1127]? = (some (some (.aconst_null, 1128, 0, 0, 0, .int 4)) : Option (Option zE)) := zlch (a := cdS_11_2) (luk_11_2 7) zg7
theorem lq_1128 : cd_L[1128]? = (some (some (.iadd, 1129, 0, 0, 0, .null)) : Option (Option zE)) := zlch (a := cdS_11_2) (luk_11_2 8) zg8
theorem lq_1129 : cd_L[1129]? = (some (some (.saload, 1130, 0, 0, 0, .null)) : Option (Option zE)) := zlch (a := cdS_11_2) (luk_11_2 9) zg9
theorem lq_1130 : cd_L[1130]? = (some (some (.aload 0, 1131, 0, 0, 0, .null)) : Option (Option zE)) := zlch (a := cdS_11_3) (luk_11_3 0) zg0
theorem lq_1131 : cd_L[1131]? = (some (some (.iload 3, 1132, 3, 0, 0, .null)) : Option (Option zE)) := zlch (a := cdS_11_3) (luk_11_3 1) zg1
theorem lq_1132 : cd_L[1132]? = (some (some (.aconst_null, 1133, 0, 0, 0, .int 5)) : Option (Option zE)) := zlch (a := cdS_11_3) (luk_11_3 2) zg2
theorem lq_1133 : cd_L[1133]? = (some (some (.iadd, 1134, 0, 0, 0, .null)) : Option (Option zE)) := zlch (a := cdS_11_3) (luk_11_3 3) zg3
theorem lq_1134 : cd_L[1134]? = (some (some (.saload, 1135, 0, 0, 0, .null)) : Option (Option zE)) := zlch (a := cdS_11_3) (luk_11_3 4) zg4
theorem lq_1135 : cd_L[1135]? = (some (some (.invokevirtual 0, 1138, 241, 5, 12, .null)) : Option (Option zE)) := zlch (a := cdS_11_3) (luk_11_3 5) zg5
theorem lq_1138 : cd_L[1138]? = (some (some (.pop, 1139, 0, 0, 0, .null)) : Option (Option zE)) := zlch (a := cdS_11_3) (luk_11_3 8) zg8
theorem lq_1139 : cd_L[1139]? = (some (some (.goto 0, 1142, 2138, 0, 0, .null)) : Option (Option zE)) := zlch (a := cdS_11_3) (luk_11_3 9) zg9
theorem lq_1142 : cd_L[1142]? = (some (some (.aload 1, 1143, 1, 0, 0, .null)) : Option (Option zE)) := zlch (a := cdS_11_4) (luk_11_4 2) zg2
theorem lq_1143 : cd_L[1143]? = (some (some (.aload 0, 1144, 0, 0, 0, .null)) : Option (Option zE)) := zlch (a := cdS_11_4) (luk_11_4 3) zg3
theorem lq_1144 : cd_L[1144]? = (some (some (.iload 3, 1145, 3, 0, 0, .null)) : Option (Option zE)) := zlch (a := cdS_11_4) (luk_11_4 4) zg4
theorem lq_1145 : cd_L[1145]? = (some (some (.aconst_null, 1146, 0, 0, 0, .int 1)) : Option (Option zE)) := zlch (a := cdS_11_4) (luk_11_4 5) zg5
theorem lq_1146 : cd_L[1146]? = (some (some (.iadd, 1147, 0, 0, 0, .null)) : Option (Option zE)) := zlch (a := cdS_11_4) (luk_11_4 6) zg6
theorem lq_1147 : cd_L[1147]? = (some (some (.saload, 1148, 0, 0, 0, .null)) : Option (Option zE)) := zlch (a := cdS_11_4) (luk_11_4 7) zg7
theorem lq_1148 : cd_L[1148]? = (some (some (.aload 0, 1149, 0, 0, 0, .null)) : Option (Option zE)) := zlch (a := cdS_11_4) (luk_11_4 8) zg8
theorem lq_1149 : cd_L[1149]? = (some (some (.iload 3, 1150, 3, 0, 0, .null)) : Option (Option zE)) := zlch (a := cdS_11_4) (luk_11_4 9) zg9
theorem lq_1150 : cd_L[1150]? = (some (some (.aconst_null, 1151, 0, 0, 0, .int 2)) : Option (Option zE)) := zlch (a := cdS_11_5) (luk_11_5 0) zg0
theorem lq_1151 : cd_L[1151]? = (some (some (.iadd, 1152, 0, 0, 0, .null)) : Option (Option zE)) := zlch (a := cdS_11_5) (luk_11_5 1) zg1
theorem lq_1152 : cd_L[1152]? = (some (some (.saload, 1153, 0, 0, 0, .null)) : Option (Option zE)) := zlch (a := cdS_11_5) (luk_11_5 2) zg2
theorem lq_1153 : cd_L[1153]? = (some (some (.aload 0, 1154, 0, 0, 0, .null)) : Option (Option zE)) := zlch (a := cdS_11_5) (luk_11_5 3) zg3
theorem lq_1154 : cd_L[1154]? = (some (some (.iload 3, 1155, 3, 0, 0, .null)) : Option (Option zE)) := zlch (a := cdS_11_5) (luk_11_5 4) zg4
theorem lq_1155 : cd_L[1155]? = (some (some (.aconst_null, 1156, 0, 0, 0, .int 3)) : Option (Option zE)) := zlch (a := cdS_11_5) (luk_11_5 5) zg5
theorem lq_1156 : cd_L[1156]? = (some (some (.iadd, 1157, 0, 0, 0, .null)) : Option (Option zE)) := zlch (a := cdS_11_5) (luk_11_5 6) zg6
theorem lq_1157 : cd_L[1157]? = (some (some (.saload, 1158, 0, 0, 0, .null)) : Option (Option zE)) := zlch (a := cdS_11_5) (luk_11_5 7) zg7
theorem lq_1158 : cd_L[1158]? = (some (some (.invokevirtual 0, 1161, 132, 3, 11, .null)) : Option (Option zE)) := zlch (a := cdS_11_5) (luk_11_5 8) zg8
theorem lq_1161 : cd_L[1161]? = (some (some (.pop, 1162, 0, 0, 0, .null)) : Option (Option zE)) := zlch (a := cdS_11_6) (luk_11_6 1) zg1
theorem lq_1162 : cd_L[1162]? = (some (some (.aload 2, 1163, 2, 0, 0, .null)) : Option (Option zE)) := zlch (a := cdS_11_6) (luk_11_6 2) zg2
theorem lq_1163 : cd_L[1163]? = (some (some (.aload 0, 1164, 0, 0, 0, .null)) : Option (Option zE)) := zlch (a := cdS_11_6) (luk_11_6 3) zg3
theorem lq_1164 : cd_L[1164]? = (some (some (.iload 3, 1165, 3, 0, 0, .null)) : Option (Option zE)) := zlch (a := cdS_11_6) (luk_11_6 4) zg4
theorem lq_1165 : cd_L[1165]? = (some (some (.aconst_null, 1166, 0, 0, 0, .int 1)) : Option (Option zE)) := zlch (a := cdS_11_6) (luk_11_6 5) zg5
theorem lq_1166 : cd_L[1166]? = (some (some (.iadd, 1167, 0, 0, 0, .null)) : Option (Option zE)) := zlch (a := cdS_11_6) (luk_11_6 6) zg6
theorem lq_1167 : cd_L[1167]? = (some (some (.saload, 1168, 0, 0, 0, .null)) : Option (Option zE)) := zlch (a := cdS_11_6) (luk_11_6 7) zg7
theorem lq_1168 : cd_L[1168]? = (some (some (.aload 0, 1169, 0, 0, 0, .null)) : Option (Option zE)) := zlch (a := cdS_11_6) (luk_11_6 8) zg8
theorem lq_1169 : cd_L[1169]? = (some (some (.iload 3, 1170, 3, 0, 0, .null)) : Option (Option zE)) := zlch (a := cdS_11_6) (luk_11_6 9) zg9
theorem lq_1170 : cd_L[1170]? = (some (some (.aconst_null, 1171, 0, 0, 0, .int 2)) : Option (Option zE)) := zlch (a := cdS_11_7) (luk_11_7 0) zg0
theorem lq_1171 : cd_L[1171]? = (some (some (.iadd, 1172, 0, 0, 0, .null)) : Option (Option zE)) := zlch (a := cdS_11_7) (luk_11_7 1) zg1
theorem lq_1172 : cd_L[1172]? = (some (some (.saload, 1173, 0, 0, 0, .null)) : Option (Option zE)) := zlch (a := cdS_11_7) (luk_11_7 2) zg2
theorem lq_1173 : cd_L[1173]? = (some (some (.aload 0, 1174, 0, 0, 0, .null)) : Option (Option zE)) := zlch (a := cdS_11_7) (luk_11_7 3) zg3
theorem lq_1174 : cd_L[1174]? = (some (some (.iload 3, 1175, 3, 0, 0, .null)) : Option (Option zE)) := zlch (a := cdS_11_7) (luk_11_7 4) zg4
theorem lq_1175 : cd_L[1175]? = (some (some (.aconst_null, 1176, 0, 0, 0, .int 3)) : Option (Option zE)) := zlch (a := cdS_11_7) (luk_11_7 5) zg5
theorem lq_1176 : cd_L[1176]? = (some (some (.iadd, 1177, 0, 0, 0, .null)) : Option (Option zE)) := zlch (a := cdS_11_7) (luk_11_7 6) zg6
theorem lq_1177 : cd_L[1177]? = (some (some (.saload, 1178, 0, 0, 0, .null)) : Option (Option zE)) := zlch (a := cdS_11_7) (luk_11_7 7) zg7
theorem lq_1178 : cd_L[1178]? = (some (some (.invokevirtual 0, 1181, 243, 3, 12, .null)) : Option (Option zE)) := zlch (a := cdS_11_7) (luk_11_7 8) zg8
theorem lq_1181 : cd_L[1181]? = (some (some (.pop, 1182, 0, 0, 0, .null)) : Option (Option zE)) := zlch (a := cdS_11_8) (luk_11_8 1) zg1
theorem lq_1182 : cd_L[1182]? = (some (some (.goto 0, 1185, 2138, 0, 0, .null)) : Option (Option zE)) := zlch (a := cdS_11_8) (luk_11_8 2) zg2
theorem lq_1185 : cd_L[1185]? = (some (some (.aload 1, 1186, 1, 0, 0, .null)) : Option (Option zE)) := zlch (a := cdS_11_8) (luk_11_8 5) zg5
theorem lq_1186 : cd_L[1186]? = (some (some (.aload 0, 1187, 0, 0, 0, .null)) : Option (Option zE)) := zlch (a := cdS_11_8) (luk_11_8 6) zg6
theorem lq_1187 : cd_L[1187]? = (some (some (.iload 3, 1188, 3, 0, 0, .null)) : Option (Option zE)) := zlch (a := cdS_11_8) (luk_11_8 7) zg7
theorem lq_1188 : cd_L[1188]? = (some (some (.aconst_null, 1189, 0, 0, 0, .int 1)) : Option (Option zE)) := zlch (a := cdS_11_8) (luk_11_8 8) zg8
theorem lq_1189 : cd_L[1189]? = (some (some (.iadd, 1190, 0, 0, 0, .null)) : Option (Option zE)) := zlch (a := cdS_11_8) (luk_11_8 9) zg9
theorem lq_1190 : cd_L[1190]? = (some (some (.saload, 1191, 0, 0, 0, .null)) : Option (Option zE)) := zlch (a := cdS_11_9) (luk_11_9 0) zg0
theorem lq_1191 : cd_L[1191]? = (some (some (.aload 0, 1192, 0, 0, 0, .null)) : Option (Option zE)) := zlch (a := cdS_11_9) (luk_11_9 1) zg1
theorem lq_1192 : cd_L[1192]? = (some (some (.iload 3, 1193, 3, 0, 0, .null)) : Option (Option zE)) := zlch (a := cdS_11_9) (luk_11_9 2) zg2
theorem lq_1193 : cd_L[1193]? = (some (some (.aconst_null, 1194, 0, 0, 0, .int 2)) : Option (Option zE)) := zlch (a := cdS_11_9) (luk_11_9 3) zg3
theorem lq_1194 : cd_L[1194]? = (some (some (.iadd, 1195, 0, 0, 0, .null)) : Option (Option zE)) := zlch (a := cdS_11_9) (luk_11_9 4) zg4
theorem lq_1195 : cd_L[1195]? = (some (some (.saload, 1196, 0, 0, 0, .null)) : Option (Option zE)) := zlch (a := cdS_11_9) (luk_11_9 5) zg5
theorem lq_1196 : cd_L[1196]? = (some (some (.aload 0, 1197, 0, 0, 0, .null)) : Option (Option zE)) := zlch (a := cdS_11_9) (luk_11_9 6) zg6
theorem lq_1197 : cd_L[1197]? = (some (some (.iload 3, 1198, 3, 0, 0, .null)) : Option (Option zE)) := zlch (a := cdS_11_9) (luk_11_9 7) zg7
theorem lq_1198 : cd_L[1198]? = (some (some (.aconst_null, 1199, 0, 0, 0, .int 3)) : Option (Option zE)) := zlch (a := cdS_11_9) (luk_11_9 8) zg8
theorem lq_1199 : cd_L[1199]? = (some (some (.iadd, 1200, 0, 0, 0, .null)) : Option (Option zE)) := zlch (a := cdS_11_9) (luk_11_9 9) zg9
theorem lq_1200 : cd_L[1200]? = (some (some (.saload, 1201, 0, 0, 0, .null)) : Option (Option zE)) := zlch (a := cdS_12_0) (luk_12_0 0) zg0
theorem lq_1201 : cd_L[1201]? = (some (some (.aload 0, 1202, 0, 0, 0, .null)) : Option (Option zE)) := zlch (a := cdS_12_0) (luk_12_0 1) zg1
theorem lq_1202 : cd_L[1202]? = (some (some (.iload 3, 1203, 3, 0, 0, .null)) : Option (Option zE)) := zlch (a := cdS_12_0) (luk_12_0 2) zg2
theorem lq_1203 : cd_L[1203]? = (some (some (.aconst_null, 1204, 0, 0, 0, .int 4)) : Option (Option zE)) := zlch (a := cdS_12_0) (luk_12_0 3) zg3
theorem lq_1204 : cd_L[1204]? = (some (some (.iadd, 1205, 0, 0, 0, .null)) : Option (Option zE)) := zlch (a := cdS_12_0) (luk_12_0 4) zg4
theorem lq_1205 : cd_L[1205]? = (some (some (.saload, 1206, 0, 0, 0, .null)) : Option (Option zE)) := zlch (a := cdS_12_0) (luk_12_0 5) zg5
theorem lq_1206 : cd_L[1206]? = (some (some (.aload 0, 1207, 0, 0, 0, .null)) : Option (Option zE)) := zlch (a := cdS_12_0) (luk_12_0 6) zg6
theorem lq_1207 : cd_L[1207]? = (some (some (.iload 3, 1208, 3, 0, 0, .null)) : Option (Option zE)) := zlch (a := cdS_12_0) (luk_12_0 7) zg7
theorem lq_1208 : cd_L[1208]? = (some (some (.aconst_null, 1209, 0, 0, 0, .int 5)) : Option (Option zE)) := zlch (a := cdS_12_0) (luk_12_0 8) zg8
theorem lq_1209 : cd_L[1209]? = (some (some (.iadd, 1210, 0, 0, 0, .null)) : Option (Option zE)) := zlch (a := cdS_12_0) (luk_12_0 9) zg9
theorem lq_1210 : cd_L[1210]? = (some (some (.saload, 1211, 0, 0, 0, .null)) : Option (Option zE)) := zlch (a := cdS_12_1) (luk_12_1 0) zg0
theorem lq_1211 : cd_L[1211]? = (some (some (.aload 0, 1212, 0, 0, 0, .null)) : Option (Option zE)) := zlch (a := cdS_12_1) (luk_12_1 1) zg1
theorem lq_1212 : cd_L[1212]? = (some (some (.iload 3, 1213, 3, 0, 0, .null)) : Option (Option zE)) := zlch (a := cdS_12_1) (luk_12_1 2) zg2
theorem lq_1213 : cd_L[1213]? = (some (some (.aconst_null, 1215, 0, 0, 0, .int 6)) : Option (Option zE)) := zlch (a := cdS_12_1) (luk_12_1 3) zg3
theorem lq_1215 : cd_L[1215]? = (some (some (.iadd, 1216, 0, 0, 0, .null)) : Option (Option zE)) := zlch (a := cdS_12_1) (luk_12_1 5) zg5
theorem lq_1216 : cd_L[1216]? = (some (some (.saload, 1217, 0, 0, 0, .null)) : Option (Option zE)) := zlch (a := cdS_12_1) (luk_12_1 6) zg6
theorem lq_1217 : cd_L[1217]? = (some (some (.ifCond .eq 0, 1220, 1224, 0, 0, .null)) : Option (Option zE)) := zlch (a := cdS_12_1) (luk_12_1 7) zg7
theorem lq_1220 : cd_L[1220]? = (some (some (.aconst_null, 1221, 0, 0, 0, .int 1)) : Option (Option zE)) := zlch (a := cdS_12_2) (luk_12_2 0) zg0
theorem lq_1221 : cd_L[1221]? = (some (some (.goto 0, 1224, 1225, 0, 0, .null)) : Option (Option zE)) := zlch (a := cdS_12_2) (luk_12_2 1) zg1
theorem lq_1224 : cd_L[1224]? = (some (some (.aconst_null, 1225, 0, 0, 0, .int 0)) : Option (Option zE)) := zlch (a := cdS_12_2) (luk_12_2 4) zg4
theorem lq_1225 : cd_L[1225]? = (some (some (.aload 0, 1226, 0, 0, 0, .null)) : Option (Option zE)) := zlch (a := cdS_12_2) (luk_12_2 5) zg5
theorem lq_1226 : cd_L[1226]? = (some (some (.iload 3, 1227, 3, 0, 0, .null)) : Option (Option zE)) := zlch (a := cdS_12_2) (luk_12_2 6) zg6
theorem lq_1227 : cd_L[1227]? = (some (some (.aconst_null, 1229, 0, 0, 0, .int 7)) : Option (Option zE)) := zlch (a := cdS_12_2) (luk_12_2 7) zg7
theorem lq_1229 : cd_L[1229]? = (some (some (.iadd, 1230, 0, 0, 0, .null)) : Option (Option zE)) := zlch (a := cdS_12_2) (luk_12_2 9) zg9
theorem lq_1230 : cd_L[1230]? = (some (some (.saload, 1231, 0, 0, 0, .null)) : Option (Option zE)) := zlch (a := cdS_12_3) (luk_12_3 0) zg0
theorem lq_1231 : cd_L[1231]? = (some (some (.ifCond .eq 0, 1234, 1238, 0, 0, .null)) : Option (Option zE)) := zlch (a := cdS_12_3) (luk_12_3 1) zg1
theorem lq_1234 : cd_L[1234]? = (some (some (.aconst_null, 1235, 0, 0, 0, .int 1)) : Option (Option zE)) := zlch (a := cdS_12_3) (luk_12_3 4) zg4
theorem lq_1235 : cd_L[1235]? = (some (some (.goto 0, 1238, 1239, 0, 0, .null)) : Option (Option zE)) := zlch (a := cdS_12_3) (luk_12_3 5) zg5
theorem lq_1238 : cd_L[1238]? = (some (some (.aconst_null, 1239, 0, 0, 0, .int 0)) : Option (Option zE)) := zlch (a := cdS_12_3) (luk_12_3 8) zg8
theorem lq_1239 : cd_L[1239]? = (some (some (.invokevirtual 0, 1242, 133, 7, 11, .null)) : Option (Option zE)) := zlch (a := cdS_12_3) (luk_12_3 9) zg9
theorem lq_1242 : cd_L[1242]? = (some (some (.pop, 1243, 0, 0, 0, .null)) : Option (Option zE)) := zlch (a := cdS_12_4) (luk_12_4 2) zg2
theorem lq_1243 : cd_L[1243]? = (some (some (.aload 2, 1244, 2, 0, 0, .null)) : Option (Option zE)) := zlch (a := cdS_12_4) (luk_12_4 3) zg3
theorem lq_1244 : cd_L[1244]? = (some (some (.aload 0, 1245, 0, 0, 0, .null)) : Option (Option zE)) := zlch (a := cdS_12_4) (luk_12_4 4) zg4
theorem lq_1245 : cd_L[1245]? = (some (some (.iload 3, 1246, 3, 0, 0, .null)) : Option (Option zE)) := zlch (a := cdS_12_4) (luk_12_4 5) zg5
theorem lq_1246 : cd_L[1246]? = (some (some (.aconst_null, 1247, 0, 0, 0, .int 1)) : Option (Option zE)) := zlch (a := cdS_12_4) (luk_12_4 6) zg6
theorem lq_1247 : cd_L[1247]? = (some (some (.iadd, 1248, 0, 0, 0, .null)) : Option (Option zE)) := zlch (a := cdS_12_4) (luk_12_4 7) zg7
theorem lq_1248 : cd_L[1248]? = (some (some (.saload, 1249, 0, 0, 0, .null)) : Option (Option zE)) := zlch (a := cdS_12_4) (luk_12_4 8) zg8
theorem lq_1249 : cd_L[1249]? = (some (some (.aload 0, 1250, 0, 0, 0, .null)) : Option (Option zE)) := zlch (a := cdS_12_4) (luk_12_4 9) zg9
theorem lq_1250 : cd_L[1250]? = (some (some (.iload 3, 1251, 3, 0, 0, .null)) : Option (Option zE)) := zlch (a := cdS_12_5) (luk_12_5 0) zg0
theorem lq_1251 : cd_L[1251]? = (some (some (.aconst_null, 1252, 0, 0, 0, .int 2)) : Option (Option zE)) := zlch (a := cdS_12_5) (luk_12_5 1) zg1
theorem lq_1252 : cd_L[1252]? = (some (some (.iadd, 1253, 0, 0, 0, .null)) : Option (Option zE)) := zlch (a := cdS_12_5) (luk_12_5 2) zg2
theorem lq_1253 : cd_L[1253]? = (some (some (.saload, 1254, 0, 0, 0, .null)) : Option (Option zE)) := zlch (a := cdS_12_5) (luk_12_5 3) zg3
theorem lq_1254 : cd_L[1254]? = (some (some (.aload 0, 1255, 0, 0, 0, .null)) : Option (Option zE)) := zlch (a := cdS_12_5) (luk_12_5 4) zg4
theorem lq_1255 : cd_L[1255]? = (some (some (.iload 3, 1256, 3, 0, 0, .null)) : Option (Option zE)) := zlch (a := cdS_12_5) (luk_12_5 5) zg5
theorem lq_1256 : cd_L[1256]? = (some (some (.aconst_null, 1257, 0, 0, 0, .int 3)) : Option (Option zE)) := zlch (a := cdS_12_5) (luk_12_5 6) zg6
theorem lq_1257 : cd_L[1257]? = (some (some (.iadd, 1258, 0, 0, 0, .null)) : Option (Option zE)) := zlch (a := cdS_12_5) (luk_12_5 7) zg7
theorem lq_1258 : cd_L[1258]? = (some (some (.saload, 1259, 0, 0, 0, .null)) : Option (Option zE)) := zlch (a := cdS_12_5) (luk_12_5 8) zg8
theorem lq_1259 : cd_L[1259]? = (some (some (.aload 0, 1260, 0, 0, 0, .null)) : Option (Option zE)) := zlch (a := cdS_12_5) (luk_12_5 9) zg9
theorem lq_1260 : cd_L[1260]? = (some (some (.iload 3, 1261, 3, 0, 0, .null)) : Option (Option zE)) := zlch (a := cdS_12_6) (luk_12_6 0) zg0
theorem lq_1261 : cd_L[1261]? = (some (some (.aconst_null, 1262, 0, 0, 0, .int 4)) : Option (Option zE)) := zlch (a := cdS_12_6) (luk_12_6 1) zg1
theorem lq_1262 : cd_L[1262]? = (some (some (.iadd, 1263, 0, 0, 0, .null)) : Option (Option zE)) := zlch (a := cdS_12_6) (luk_12_6 2) zg2
theorem lq_1263 : cd_L[1263]? = (some (some (.saload, 1264, 0, 0, 0, .null)) : Option (Option zE)) := zlch (a := cdS_12_6) (luk_12_6 3) zg3
theorem lq_1264 : cd_L[1264]? = (some (some (.aload 0, 1265, 0, 0, 0, .null)) : Option (Option zE)) := zlch (a := cdS_12_6) (luk_12_6 4) zg4
theorem lq_1265 : cd_L[1265]? = (some (some (.iload 3, 1266, 3, 0, 0, .null)) : Option (Option zE)) := zlch (a := cdS_12_6) (luk_12_6 5) zg5
theorem lq_1266 : cd_L[1266]? = (some (some (.aconst_null, 1267, 0, 0, 0, .int 5)) : Option (Option zE)) := zlch (a := cdS_12_6) (luk_12_6 6) zg6
theorem lq_1267 : cd_L[1267]? = (some (some (.iadd, 1268, 0, 0, 0, .null)) : Option (Option zE)) := zlch (a := cdS_12_6) (luk_12_6 7) zg7
theorem lq_1268 : cd_L[1268]? = (some (some (.saload, 1269, 0, 0, 0, .null)) : Option (Option zE)) := zlch (a := cdS_12_6) (luk_12_6 8) zg8
theorem lq_1269 : cd_L[1269]? = (some (some (.aload 0, 1270, 0, 0, 0, .null)) : Option (Option zE)) := zlch (a := cdS_12_6) (luk_12_6 9) zg9
theorem lq_1270 : cd_L[1270]? = (some (some (.iload 3, 1271, 3, 0, 0, .null)) : Option (Option zE)) := zlch (a := cdS_12_7) (luk_12_7 0) zg0
theorem lq_1271 : cd_L[1271]? = (some (some (.aconst_null, 1273, 0, 0, 0, .int 6)) : Option (Option zE)) := zlch (a := cdS_12_7) (luk_12_7 1) zg1
theorem lq_1273 : cd_L[1273]? = (some (some (.iadd, 1274, 0, 0, 0, .null)) : Option (Option zE)) := zlch (a := cdS_12_7) (luk_12_7 3) zg3
theorem lq_1274 : cd_L[1274]? = (some (some (.saload, 1275, 0, 0, 0, .null)) : Option (Option zE)) := zlch (a := cdS_12_7) (luk_12_7 4) zg4
theorem lq_1275 : cd_L[1275]? = (some (some (.ifCond .eq 0, 1278, 1282, 0, 0, .null)) : Option (Option zE)) := zlch (a := cdS_12_7) (luk_12_7 5) zg5
theorem lq_1278 : cd_L[1278]? = (some (some (.aconst_null, 1279, 0, 0, 0, .int 1)) : Option (Option zE)) := zlch (a := cdS_12_7) (luk_12_7 8) zg8
theorem lq_1279 : cd_L[1279]? = (some (some (.goto 0, 1282, 1283, 0, 0, .null)) : Option (Option zE)) := zlch (a := cdS_12_7) (luk_12_7 9) zg9
theorem lq_1282 : cd_L[1282]? = (some (some (.aconst_null, 1283, 0, 0, 0, .int 0)) : Option (Option zE)) := zlch (a := cdS_12_8) (luk_12_8 2) zg2
theorem lq_1283 : cd_L[1283]? = (some (some (.aload 0, 1284, 0, 0, 0, .null)) : Option (Option zE)) := zlch (a := cdS_12_8) (luk_12_8 3) zg3
theorem lq_1284 : cd_L[1284]? = (some (some (.iload 3, 1285, 3, 0, 0, .null)) : Option (Option zE)) := zlch (a := cdS_12_8) (luk_12_8 4) zg4
theorem lq_1285 : cd_L[1285]? = (some (some (.aconst_null, 1287, 0, 0, 0, .int 7)) : Option (Option zE)) := zlch (a := cdS_12_8) (luk_12_8 5) zg5
theorem lq_1287 : cd_L[1287]? = (some (some (.iadd, 1288, 0, 0, 0, .null)) : Option (Option zE)) := zlch (a := cdS_12_8) (luk_12_8 7) zg7
theorem lq_1288 : cd_L[1288]? = (some (some (.saload, 1289, 0, 0, 0, .null)) : Option (Option zE)) := zlch (a := cdS_12_8) (luk_12_8 8) zg8
theorem lq_1289 : cd_L[1289]? = (some (some (.ifCond .eq 0, 1292, 1296, 0, 0, .null)) : Option (Option zE)) := zlch (a := cdS_12_8) (luk_12_8 9) zg9
theorem lq_1292 : cd_L[1292]? = (some (some (.aconst_null, 1293, 0, 0, 0, .int 1)) : Option (Option zE)) := zlch (a := cdS_12_9) (luk_12_9 2) zg2
theorem lq_1293 : cd_L[1293]? = (some (some (.goto 0, 1296, 1297, 0, 0, .null)) : Option (Option zE)) := zlch (a := cdS_12_9) (luk_12_9 3) zg3
theorem lq_1296 : cd_L[1296]? = (some (some (.aconst_null, 1297, 0, 0, 0, .int 0)) : Option (Option zE)) := zlch (a := cdS_12_9) (luk_12_9 6) zg6
theorem lq_1297 : cd_L[1297]? = (some (some (.invokevirtual 0, 1300, 244, 7, 12, .null)) : Option (Option zE)) := zlch (a := cdS_12_9) (luk_12_9 7) zg7
theorem lq_1300 : cd_L[1300]? = (some (some (.pop, 1301, 0, 0, 0, .null)) : Option (Option zE)) := zlch (a := cdS_13_0) (luk_13_0 0) zg0
theorem lq_1301 : cd_L[1301]? = (some (some (.goto 0, 1304, 2138, 0, 0, .null)) : Option (Option zE)) := zlch (a := cdS_13_0) (luk_13_0 1) zg1
theorem lq_1304 : cd_L[1304]? = (some (some (.aload 1, 1305, 1, 0, 0, .null)) : Option (Option zE)) := zlch (a := cdS_13_0) (luk_13_0 4) zg4
theorem lq_1305 : cd_L[1305]? = (some (some (.aload 0, 1306, 0, 0, 0, .null)) : Option (Option zE)) := zlch (a := cdS_13_0) (luk_13_0 5) zg5
theorem lq_1306 : cd_L[1306]? = (some (some (.iload 3, 1307, 3, 0, 0, .null)) : Option (Option zE)) := zlch (a := cdS_13_0) (luk_13_0 6) zg6
theorem lq_1307 : cd_L[1307]? = (some (some (.aconst_null, 1308, 0, 0, 0, .int 1)) : Option (Option zE)) := zlch (a := cdS_13_0) (luk_13_0 7) zg7
theorem lq_1308 : cd_L[1308]? = (some (some (.iadd, 1309, 0, 0, 0, .null)) : Option (Option zE)) := zlch (a := cdS_13_0) (luk_13_0 8) zg8
theorem lq_1309 : cd_L[1309]? = (some (some (.saload, 1310, 0, 0, 0, .null)) : Option (Option zE)) := zlch (a := cdS_13_0) (luk_13_0 9) zg9
theorem lq_1310 : cd_L[1310]? = (some (some (.invokevirtual 0, 1313, 134, 1, 11, .null)) : Option (Option zE)) := zlch (a := cdS_13_1) (luk_13_1 0) zg0
theorem lq_1313 : cd_L[1313]? = (some (some (.pop, 1314, 0, 0, 0, .null)) : Option (Option zE)) := zlch (a := cdS_13_1) (luk_13_1 3) zg3
theorem lq_1314 : cd_L[1314]? = (some (some (.aload 2, 1315, 2, 0, 0, .null)) : Option (Option zE)) := zlch (a := cdS_13_1) (luk_13_1 4) zg4
theorem lq_1315 : cd_L[1315]? = (some (some (.aload 0, 1316, 0, 0, 0, .null)) : Option (Option zE)) := zlch (a := cdS_13_1) (luk_13_1 5) zg5
theorem lq_1316 : cd_L[1316]? = (some (some (.iload 3, 1317, 3, 0, 0, .null)) : Option (Option zE)) := zlch (a := cdS_13_1) (luk_13_1 6) zg6
theorem lq_1317 : cd_L[1317]? = (some (some (.aconst_null, 1318, 0, 0, 0, .int 1)) : Option (Option zE)) := zlch (a := cdS_13_1) (luk_13_1 7) zg7
theorem lq_1318 : cd_L[1318]? = (some (some (.iadd, 1319, 0, 0, 0, .null)) : Option (Option zE)) := zlch (a := cdS_13_1) (luk_13_1 8) zg8
theorem lq_1319 : cd_L[1319]? = (some (some (.saload, 1320, 0, 0, 0, .null)) : Option (Option zE)) := zlch (a := cdS_13_1) (luk_13_1 9) zg9
theorem lq_1320 : cd_L[1320]? = (some (some (.invokevirtual 0, 1323, 245, 1, 12, .null)) : Option (Option zE)) := zlch (a := cdS_13_2) (luk_13_2 0) zg0
theorem lq_1323 : cd_L[1323]? = (some (some (.pop, 1324, 0, 0, 0, .null)) : Option (Option zE)) := zlch (a := cdS_13_2) (luk_13_2 3) zg3
theorem lq_1324 : cd_L[1324]? = (some (some (.goto 0, 1327, 2138, 0, 0, .null)) : Option (Option zE)) := zlch (a := cdS_13_2) (luk_13_2 4) zg4
theorem lq_1327 : cd_L[1327]? = (some (some (.aload 1, 1328, 1, 0, 0, .null)) : Option (Option zE)) := zlch (a := cdS_13_2) (luk_13_2 7) zg7
theorem lq_1328 : cd_L[1328]? = (some (some (.aload 0, 1329, 0, 0, 0, .null)) : Option (Option zE)) := zlch (a := cdS_13_2) (luk_13_2 8) zg8
theorem lq_1329 : cd_L[1329]? = (some (some (.iload 3, 1330, 3, 0, 0, .null)) : Option (Option zE)) := zlch (a := cdS_13_2) (luk_13_2 9) zg9
theorem lq_1330 : cd_L[1330]? = (some (some (.aconst_null, 1331, 0, 0, 0, .int 1)) : Option (Option zE)) := zlch (a := cdS_13_3) (luk_13_3 0) zg0
theorem lq_1331 : cd_L[1331]? = (some (some (.iadd, 1332, 0, 0, 0, .null)) : Option (Option zE)) := zlch (a := cdS_13_3) (luk_13_3 1) zg1
theorem lq_1332 : cd_L[1332]? = (some (some (.saload, 1333, 0, 0, 0, .null)) : Option (Option zE)) := zlch (a := cdS_13_3) (luk_13_3 2) zg2
theorem lq_1333 : cd_L[1333]? = (some (some (.aload 0, 1334, 0, 0, 0, .null)) : Option (Option zE)) := zlch (a := cdS_13_3) (luk_13_3 3) zg3
theorem lq_1334 : cd_L[1334]? = (some (some (.iload 3, 1335, 3, 0, 0, .null)) : Option (Option zE)) := zlch (a := cdS_13_3) (luk_13_3 4) zg4
theorem lq_1335 : cd_L[1335]? = (some (some (.aconst_null, 1336, 0, 0, 0, .int 2)) : Option (Option zE)) := zlch (a := cdS_13_3) (luk_13_3 5) zg5
theorem lq_1336 : cd_L[1336]? = (some (some (.iadd, 1337, 0, 0, 0, .null)) : Option (Option zE)) := zlch (a := cdS_13_3) (luk_13_3 6) zg6
theorem lq_1337 : cd_L[1337]? = (some (some (.saload, 1338, 0, 0, 0, .null)) : Option (Option zE)) := zlch (a := cdS_13_3) (luk_13_3 7) zg7
theorem lq_1338 : cd_L[1338]? = (some (some (.aload 0, 1339, 0, 0, 0, .null)) : Option (Option zE)) := zlch (a := cdS_13_3) (luk_13_3 8) zg8
theorem lq_1339 : cd_L[1339]? = (some (some (.iload 3, 1340, 3, 0, 0, .null)) : Option (Option zE)) := zlch (a := cdS_13_3) (luk_13_3 9) zg9
theorem lq_1340 : cd_L[1340]? = (some (some (.aconst_null, 1341, 0, 0, 0, .int 3)) : Option (Option zE)) := zlch (a := cdS_13_4) (luk_13_4 0) zg0
theorem lq_1341 : cd_L[1341]? = (some (some (.iadd, 1342, 0, 0, 0, .null)) : Option (Option zE)) := zlch (a := cdS_13_4) (luk_13_4 1) zg1
theorem lq_1342 : cd_L[1342]? = (some (some (.saload, 1343, 0, 0, 0, .null)) : Option (Option zE)) := zlch (a := cdS_13_4) (luk_13_4 2) zg2
theorem lq_1343 : cd_L[1343]? = (some (some (.invokevirtual 0, 1346, 135, 3, 11, .null)) : Option (Option zE)) := zlch (a := cdS_13_4) (luk_13_4 3) zg3
theorem lq_1346 : cd_L[1346]? = (some (some (.drem, 1347, 0, 0, 0, .null)) : Option (Option zE)) := zlch (a := cdS_13_4) (luk_13_4 6) zg6
theorem lq_1347 : cd_L[1347]? = (some (some (.aload 2, 1348, 2, 0, 0, .null)) : Option (Option zE)) := zlch (a := cdS_13_4) (luk_13_4 7) zg7
theorem lq_1348 : cd_L[1348]? = (some (some (.aload 0, 1349, 0, 0, 0, .null)) : Option (Option zE)) := zlch (a := cdS_13_4) (luk_13_4 8) zg8
theorem lq_1349 : cd_L[1349]? = (some (some (.iload 3, 1350, 3, 0, 0, .null)) : Option (Option zE)) := zlch (a := cdS_13_4) (luk_13_4 9) zg9
theorem lq_1350 : cd_L[1350]? = (some (some (.aconst_null, 1351, 0, 0, 0, .int 1)) : Option (Option zE)) := zlch (a := cdS_13_5) (luk_13_5 0) zg0
theorem lq_1351 : cd_L[1351]? = (some (some (.iadd, 1352, 0, 0, 0, .null)) : Option (Option zE)) := zlch (a := cdS_13_5) (luk_13_5 1) zg1
theorem lq_1352 : cd_L[1352]? = (some (some (.saload, 1353, 0, 0, 0, .null)) : Option (Option zE)) := zlch (a := cdS_13_5) (luk_13_5 2) zg2
theorem lq_1353 : cd_L[1353]? = (some (some (.aload 0, 1354, 0, 0, 0, .null)) : Option (Option zE)) := zlch (a := cdS_13_5) (luk_13_5 3) zg3
theorem lq_1354 : cd_L[1354]? = (some (some (.iload 3, 1355, 3, 0, 0, .null)) : Option (Option zE)) := zlch (a := cdS_13_5) (luk_13_5 4) zg4
theorem lq_1355 : cd_L[1355]? = (some (some (.aconst_null, 1356, 0, 0, 0, .int 2)) : Option (Option zE)) := zlch (a := cdS_13_5) (luk_13_5 5) zg5
theorem lq_1356 : cd_L[1356]? = (some (some (.iadd, 1357, 0, 0, 0, .null)) : Option (Option zE)) := zlch (a := cdS_13_5) (luk_13_5 6) zg6
theorem lq_1357 : cd_L[1357]? = (some (some (.saload, 1358, 0, 0, 0, .null)) : Option (Option zE)) := zlch (a := cdS_13_5) (luk_13_5 7) zg7
theorem lq_1358 : cd_L[1358]? = (some (some (.aload 0, 1359, 0, 0, 0, .null)) : Option (Option zE)) := zlch (a := cdS_13_5) (luk_13_5 8) zg8
theorem lq_1359 : cd_L[1359]? = (some (some (.iload 3, 1360, 3, 0, 0, .null)) : Option (Option zE)) := zlch (a := cdS_13_5) (luk_13_5 9) zg9
theorem lq_1360 : cd_L[1360]? = (some (some (.aconst_null, 1361, 0, 0, 0, .int 3)) : Option (Option zE)) := zlch (a := cdS_13_6) (luk_13_6 0) zg0
theorem lq_1361 : cd_L[1361]? = (some (some (.iadd, 1362, 0, 0, 0, .null)) : Option (Option zE)) := zlch (a := cdS_13_6) (luk_13_6 1) zg1
theorem lq_1362 : cd_L[1362]? = (some (some (.saload, 1363, 0, 0, 0, .null)) : Option (Option zE)) := zlch (a := cdS_13_6) (luk_13_6 2) zg2
theorem lq_1363 : cd_L[1363]? = (some (some (.invokevirtual 0, 1366, 247, 3, 12, .null)) : Option (Option zE)) := zlch (a := cdS_13_6) (luk_13_6 3) zg3
theorem lq_1366 : cd_L[1366]? = (some (some (.drem, 1367, 0, 0, 0, .null)) : Option (Option zE)) := zlch (a := cdS_13_6) (luk_13_6 6) zg6
theorem lq_1367 : cd_L[1367]? = (some (some (.goto 0, 1370, 2138, 0, 0, .null)) : Option (Option zE)) := zlch (a := cdS_13_6) (luk_13_6 7) zg7
theorem lq_1370 : cd_L[1370]? = (some (some (.aload 1, 1371, 1, 0, 0, .null)) : Option (Option zE)) := zlch (a := cdS_13_7) (luk_13_7 0) zg0
theorem lq_1371 : cd_L[1371]? = (some (some (.aload 0, 1372, 0, 0, 0, .null)) : Option (Option zE)) := zlch (a := cdS_13_7) (luk_13_7 1) zg1
theorem lq_1372 : cd_L[1372]? = (some (some (.iload 3, 1373, 3, 0, 0, .null)) : Option (Option zE)) := zlch (a := cdS_13_7) (luk_13_7 2) zg2
theorem lq_1373 : cd_L[1373]? = (some (some (.aconst_null, 1374, 0, 0, 0, .int 1)) : Option (Option zE)) := zlch (a := cdS_13_7) (luk_13_7 3) zg3
theorem lq_1374 : cd_L[1374]? = (some (some (.iadd, 1375, 0, 0, 0, .null)) : Option (Option zE)) := zlch (a := cdS_13_7) (luk_13_7 4) zg4
theorem lq_1375 : cd_L[1375]? = (some (some (.saload, 1376, 0, 0, 0, .null)) : Option (Option zE)) := zlch (a := cdS_13_7) (luk_13_7 5) zg5
theorem lq_1376 : cd_L[1376]? = (some (some (.invokevirtual 0, 1379, 136, 1, 11, .null)) : Option (Option zE)) := zlch (a := cdS_13_7) (luk_13_7 6) zg6
theorem lq_1379 : cd_L[1379]? = (some (some (.pop, 1380, 0, 0, 0, .null)) : Option (Option zE)) := zlch (a := cdS_13_7) (luk_13_7 9) zg9
theorem lq_1380 : cd_L[1380]? = (some (some (.aload 2, 1381, 2, 0, 0, .null)) : Option (Option zE)) := zlch (a := cdS_13_8) (luk_13_8 0) zg0
theorem lq_1381 : cd_L[1381]? = (some (some (.aload 0, 1382, 0, 0, 0, .null)) : Option (Option zE)) := zlch (a := cdS_13_8) (luk_13_8 1) zg1
theorem lq_1382 : cd_L[1382]? = (some (some (.iload 3, 1383, 3, 0, 0, .null)) : Option (Option zE)) := zlch (a := cdS_13_8) (luk_13_8 2) zg2
theorem lq_1383 : cd_L[1383]? = (some (some (.aconst_null, 1384, 0, 0, 0, .int 1)) : Option (Option zE)) := zlch (a := cdS_13_8) (luk_13_8 3) zg3
theorem lq_1384 : cd_L[1384]? = (some (some (.iadd, 1385, 0, 0, 0, .null)) : Option (Option zE)) := zlch (a := cdS_13_8) (luk_13_8 4) zg4
theorem lq_1385 : cd_L[1385]? = (some (some (.saload, 1386, 0, 0, 0, .null)) : Option (Option zE)) := zlch (a := cdS_13_8) (luk_13_8 5) zg5
theorem lq_1386 : cd_L[1386]? = (some (some (.invokevirtual 0, 1389, 248, 1, 12, .null)) : Option (Option zE)) := zlch (a := cdS_13_8) (luk_13_8 6) zg6
theorem lq_1389 : cd_L[1389]? = (some (some (.pop, 1390, 0, 0, 0, .null)) : Option (Option zE)) := zlch (a := cdS_13_8) (luk_13_8 9) zg9
theorem lq_1390 : cd_L[1390]? = (some (some (.goto 0, 1393, 2138, 0, 0, .null)) : Option (Option zE)) := zlch (a := cdS_13_9) (luk_13_9 0) zg0
theorem lq_1393 : cd_L[1393]? = (some (some (.aload 1, 1394, 1, 0, 0, .null)) : Option (Option zE)) := zlch (a := cdS_13_9) (luk_13_9 3) zg3
theorem lq_1394 : cd_L[1394]? = (some (some (.aload 0, 1395, 0, 0, 0, .null)) : Option (Option zE)) := zlch (a := cdS_13_9) (luk_13_9 4) zg4
theorem lq_1395 : cd_L[1395]? = (some (some (.iload 3, 1396, 3, 0, 0, .null)) : Option (Option zE)) := zlch (a := cdS_13_9) (luk_13_9 5) zg5
theorem lq_1396 : cd_L[1396]? = (some (some (.aconst_null, 1397, 0, 0, 0, .int 1)) : Option (Option zE)) := zlch (a := cdS_13_9) (luk_13_9 6) zg6
theorem lq_1397 : cd_L[1397]? = (some (some (.iadd, 1398, 0, 0, 0, .null)) : Option (Option zE)) := zlch (a := cdS_13_9) (luk_13_9 7) zg7
theorem lq_1398 : cd_L[1398]? = (some (some (.saload, 1399, 0, 0, 0, .null)) : Option (Option zE)) := zlch (a := cdS_13_9) (luk_13_9 8) zg8
theorem lq_1399 : cd_L[1399]? = (some (some (.aload 0, 1400, 0, 0, 0, .null)) : Option (Option zE)) := zlch (a := cdS_13_9) (luk_13_9 9) zg9
theorem lq_1400 : cd_L[1400]? = (some (some (.iload 3, 1401, 3, 0, 0, .null)) : Option (Option zE)) := zlch (a := cdS_14_0) (luk_14_0 0) zg0
theorem lq_1401 : cd_L[1401]? = (some (some (.aconst_null, 1402, 0, 0, 0, .int 2)) : Option (Option zE)) := zlch (a := cdS_14_0) (luk_14_0 1) zg1
theorem lq_1402 : cd_L[1402]? = (some (some (.iadd, 1403, 0, 0, 0, .null)) : Option (Option zE)) := zlch (a := cdS_14_0) (luk_14_0 2) zg2
theorem lq_1403 : cd_L[1403]? = (some (some (.saload, 1404, 0, 0, 0, .null)) : Option (Option zE)) := zlch (a := cdS_14_0) (luk_14_0 3) zg3
theorem lq_1404 : cd_L[1404]? = (some (some (.ifCond .eq 0, 1407, 1411, 0, 0, .null)) : Option (Option zE)) := zlch (a := cdS_14_0) (luk_14_0 4) zg4
theorem lq_1407 : cd_L[1407]? = (some (some (.aconst_null, 1408, 0, 0, 0, .int 1)) : Option (Option zE)) := zlch (a := cdS_14_0) (luk_14_0 7) zg7
theorem lq_1408 : cd_L[1408]? = (some (some (.goto 0, 1411, 1412, 0, 0, .null)) : Option (Option zE)) := zlch (a := cdS_14_0) (luk_14_0 8) zg8
theorem lq_1411 : cd_L[1411]? = (some (some (.aconst_null, 1412, 0, 0, 0, .int 0)) : Option (Option zE)) := zlch (a := cdS_14_1) (luk_14_1 1) zg1
theorem lq_1412 : cd_L[1412]? = (some (some (.aload 0, 1413, 0, 0, 0, .null)) : Option (Option zE)) := zlch (a := cdS_14_1) (luk_14_1 2) zg2
theorem lq_1413 : cd_L[1413]? = (some (some (.iload 3, 1414, 3, 0, 0, .null)) : Option (Option zE)) := zlch (a := cdS_14_1) (luk_14_1 3) zg3
theorem lq_1414 : cd_L[1414]? = (some (some (.aconst_null, 1415, 0, 0, 0, .int 3)) : Option (Option zE)) := zlch (a := cdS_14_1) (luk_14_1 4) zg4
theorem lq_1415 : cd_L[1415]? = (some (some (.iadd, 1416, 0, 0, 0, .null)) : Option (Option zE)) := zlch (a := cdS_14_1) (luk_14_1 5) zg5
theorem lq_1416 : cd_L[1416]? = (some (some (.saload, 1417, 0, 0, 0, .null)) : Option (Option zE)) := zlch (a := cdS_14_1) (luk_14_1 6) zg6
theorem lq_1417 : cd_L[1417]? = (some (some (.aload 0, 1418, 0, 0, 0, .null)) : Option (Option zE)) := zlch (a := cdS_14_1) (luk_14_1 7) zg7
theorem lq_1418 : cd_L[1418]? = (some (some (.iload 3, 1419, 3, 0, 0, .null)) : Option (Option zE)) := zlch (a := cdS_14_1) (luk_14_1 8) zg8
theorem lq_1419 : cd_L[1419]? = (some (some (.aconst_null, 1420, 0, 0, 0, .int 4)) : Option (Option zE)) := zlch (a := cdS_14_1) (luk_14_1 9) zg9
theorem lq_1420 : cd_L[1420]? = (some (some (.iadd, 1421, 0, 0, 0, .null)) : Option (Option zE)) := zlch (a := cdS_14_2) (luk_14_2 0) zg0
theorem lq_1421 : cd_L[1421]? = (some (some (.saload, 1422, 0, 0, 0, .null)) : Option (Option zE)) := zlch (a := cdS_14_2) (luk_14_2 1) zg1
theorem lq_1422 : cd_L[1422]? = (some (some (.invokevirtual 0, 1425, 137, 4, 11, .null)) : Option (Option zE)) := zlch (a := cdS_14_2) (luk_14_2 2) zg2
theorem lq_1425 : cd_L[1425]? = (some (some (.pop, 1426, 0, 0, 0, .null)) : Option (Option zE)) := zlch (a := cdS_14_2) (luk_14_2 5) zg5
theorem lq_1426 : cd_L[1426]? = (some (some (.aload 2, 1427, 2, 0, 0, .null)) : Option (Option zE)) := zlch (a := cdS_14_2) (luk_14_2 6) zg6
theorem lq_1427 : cd_L[1427]? = (some (some (.aload 0, 1428, 0, 0, 0, .null)) : Option (Option zE)) := zlch (a := cdS_14_2) (luk_14_2 7) zg7
theorem lq_1428 : cd_L[1428]? = (some (some (.iload 3, 1429, 3, 0, 0, .null)) : Option (Option zE)) := zlch (a := cdS_14_2) (luk_14_2 8) zg8
theorem lq_1429 : cd_L[1429]? = (some (some (.aconst_null, 1430, 0, 0, 0, .int 1)) : Option (Option zE)) := zlch (a := cdS_14_2) (luk_14_2 9) zg9
theorem lq_1430 : cd_L[1430]? = (some (some (.iadd, 1431, 0, 0, 0, .null)) : Option (Option zE)) := zlch (a := cdS_14_3) (luk_14_3 0) zg0
theorem lq_1431 : cd_L[1431]? = (some (some (.saload, 1432, 0, 0, 0, .null)) : Option (Option zE)) := zlch (a := cdS_14_3) (luk_14_3 1) zg1
theorem lq_1432 : cd_L[1432]? = (some (some (.aload 0, 1433, 0, 0, 0, .null)) : Option (Option zE)) := zlch (a := cdS_14_3) (luk_14_3 2) zg2
theorem lq_1433 : cd_L[1433]? = (some (some (.iload 3, 1434, 3, 0, 0, .null)) : Option (Option zE)) := zlch (a := cdS_14_3) (luk_14_3 3) zg3
theorem lq_1434 : cd_L[1434]? = (some (some (.aconst_null, 1435, 0, 0, 0, .int 2)) : Option (Option zE)) := zlch (a := cdS_14_3) (luk_14_3 4) zg4
theorem lq_1435 : cd_L[1435]? = (some (some (.iadd, 1436, 0, 0, 0, .null)) : Option (Option zE)) := zlch (a := cdS_14_3) (luk_14_3 5) zg5
theorem lq_1436 : cd_L[1436]? = (some (some (.saload, 1437, 0, 0, 0, .null)) : Option (Option zE)) := zlch (a := cdS_14_3) (luk_14_3 6) zg6
theorem lq_1437 : cd_L[1437]? = (some (some (.ifCond .eq 0, 1440, 1444, 0, 0, .null)) : Option (Option zE)) := zlch (a := cdS_14_3) (luk_14_3 7) zg7
theorem lq_1440 : cd_L[1440]? = (some (some (.aconst_null, 1441, 0, 0, 0, .int 1)) : Option (Option zE)) := zlch (a := cdS_14_4) (luk_14_4 0) zg0
theorem lq_1441 : cd_L[1441]? = (some (some (.goto 0, 1444, 1445, 0, 0, .null)) : Option (Option zE)) := zlch (a := cdS_14_4) (luk_14_4 1) zg1
theorem lq_1444 : cd_L[1444]? = (some (some (.aconst_null, 1445, 0, 0, 0, .int 0)) : Option (Option zE)) := zlch (a := cdS_14_4) (luk_14_4 4) zg4
theorem lq_1445 : cd_L[1445]? = (some (some (.aload 0, 1446, 0, 0, 0, .null)) : Option (Option zE)) := zlch (a := cdS_14_4) (luk_14_4 5) zg5
theorem lq_1446 : cd_L[1446]? = (some (some (.iload 3, 1447, 3, 0, 0, .null)) : Option (Option zE)) := zlch (a := cdS_14_4) (luk_14_4 6) zg6
theorem lq_1447 : cd_L[1447]? = (some (some (.aconst_null, 1448, 0, 0, 0, .int 3)) : Option (Option zE)) := zlch (a := cdS_14_4) (luk_14_4 7) zg7
theorem lq_1448 : cd_L[1448]? = (some (some (.iadd, 1449, 0, 0, 0, .null)) : Option (Option zE)) := zlch (a := cdS_14_4) (luk_14_4 8) zg8
theorem lq_1449 : cd_L[1449]? = (some (some (.saload, 1450, 0, 0, 0, .null)) : Option (Option zE)) := zlch (a := cdS_14_4) (luk_14_4 9) zg9
theorem lq_1450 : cd_L[1450]? = (some (some (.aload 0, 1451, 0, 0, 0, .null)) : Option (Option zE)) := zlch (a := cdS_14_5) (luk_14_5 0) zg0
theorem lq_1451 : cd_L[1451]? = (some (some (.iload 3, 1452, 3, 0, 0, .null)) : Option (Option zE)) := zlch (a := cdS_14_5) (luk_14_5 1) zg1
theorem lq_1452 : cd_L[1452]? = (some (some (.aconst_null, 1453, 0, 0, 0, .int 4)) : Option (Option zE)) := zlch (a := cdS_14_5) (luk_14_5 2) zg2
theorem lq_1453 : cd_L[1453]? = (some (some (.iadd, 1454, 0, 0, 0, .null)) : Option (Option zE)) := zlch (a := cdS_14_5) (luk_14_5 3) zg3
theorem lq_1454 : cd_L[1454]? = (some (some (.saload, 1455, 0, 0, 0, .null)) : Option (Option zE)) := zlch (a := cdS_14_5) (luk_14_5 4) zg4
theorem lq_1455 : cd_L[1455]? = (some (some (.invokevirtual 0, 1458, 250, 4, 12, .null)) : Option (Option zE)) := zlch (a := cdS_14_5) (luk_14_5 5) zg5
theorem lq_1458 : cd_L[1458]? = (some (some (.pop, 1459, 0, 0, 0, .null)) : Option (Option zE)) := zlch (a := cdS_14_5) (luk_14_5 8) zg8
theorem lq_1459 : cd_L[1459]? = (some (some (.goto 0, 1462, 2138, 0, 0, .null)) : Option (Option zE)) := zlch (a := cdS_14_5) (luk_14_5 9) zg9
theorem lq_1462 : cd_L[1462]? = (some (some (.aload 1, 1463, 1, 0, 0, .null)) : Option (Option zE)) := zlch (a := cdS_14_6) (luk_14_6 2) zg2
theorem lq_1463 : cd_L[1463]? = (some (some (.aload 0, 1464, 0, 0, 0, .null)) : Option (Option zE)) := zlch (a := cdS_14_6) (luk_14_6 3) zg3
theorem lq_1464 : cd_L[1464]? = (some (some (.iload 3, 1465, 3, 0, 0, .null)) : Option (Option zE)) := zlch (a := cdS_14_6) (luk_14_6 4) zg4
theorem lq_1465 : cd_L[1465]? = (some (some (.aconst_null, 1466, 0, 0, 0, .int 1)) : Option (Option zE)) := zlch (a := cdS_14_6) (luk_14_6 5) zg5
theorem lq_1466 : cd_L[1466]? = (some (some (.iadd, 1467, 0, 0, 0, .null)) : Option (Option zE)) := zlch (a := cdS_14_6) (luk_14_6 6) zg6
theorem lq_1467 : cd_L[1467]? = (some (some (.saload, 1468, 0, 0, 0, .null)) : Option (Option zE)) := zlch (a := cdS_14_6) (luk_14_6 7) zg7
theorem lq_1468 : cd_L[1468]? = (some (some (.invokevirtual 0, 1471, 138, 1, 11, .null)) : Option (Option zE)) := zlch (a := cdS_14_6) (luk_14_6 8) zg8
theorem lq_1471 : cd_L[1471]? = (some (some (.drem, 1472, 0, 0, 0, .null)) : Option (Option zE)) := zlch (a := cdS_14_7) (luk_14_7 1) zg1
theorem lq_1472 : cd_L[1472]? = (some (some (.aload 2, 1473, 2, 0, 0, .null)) : Option (Option zE)) := zlch (a := cdS_14_7) (luk_14_7 2) zg2
theorem lq_1473 : cd_L[1473]? = (some (some (.aload 0, 1474, 0, 0, 0, .null)) : Option (Option zE)) := zlch (a := cdS_14_7) (luk_14_7 3) zg3
theorem lq_1474 : cd_L[1474]? = (some (some (.iload 3, 1475, 3, 0, 0, .null)) : Option (Option zE)) := zlch (a := cdS_14_7) (luk_14_7 4) zg4
theorem lq_1475 : cd_L[1475]? = (some (some (.aconst_null, 1476, 0, 0, 0, .int 1)) : Option (Option zE)) := zlch (a := cdS_14_7) (luk_14_7 5) zg5
theorem lq_1476 : cd_L[1476]? = (some (some (.iadd, 1477, 0, 0, 0, .null)) : Option (Option zE)) := zlch (a := cdS_14_7) (luk_14_7 6) zg6
theorem lq_1477 : cd_L[1477]? = (some (some (.saload, 1478, 0, 0, 0, .null)) : Option (Option zE)) := zlch (a := cdS_14_7) (luk_14_7 7) zg7
theorem lq_1478 : cd_L[1478]? = (some (some (.invokevirtual 0, 1481, 252, 1, 12, .null)) : Option (Option zE)) := zlch (a := cdS_14_7) (luk_14_7 8) zg8
theorem lq_1481 : cd_L[1481]? = (some (some (.drem, 1482, 0, 0, 0, .null)) : Option (Option zE)) := zlch (a := cdS_14_8) (luk_14_8 1) zg1
theorem lq_1482 : cd_L[1482]? = (some (some (.goto 0, 1485, 2138, 0, 0, .null)) : Option (Option zE)) := zlch (a := cdS_14_8) (luk_14_8 2) zg2
theorem lq_1485 : cd_L[1485]? = (some (some (.aload 1, 1486, 1, 0, 0, .null)) : Option (Option zE)) := zlch (a := cdS_14_8) (luk_14_8 5) zg5
theorem lq_1486 : cd_L[1486]? = (some (some (.aload 0, 1487, 0, 0, 0, .null)) : Option (Option zE)) := zlch (a := cdS_14_8) (luk_14_8 6) zg6
theorem lq_1487 : cd_L[1487]? = (some (some (.iload 3, 1488, 3, 0, 0, .null)) : Option (Option zE)) := zlch (a := cdS_14_8) (luk_14_8 7) zg7
theorem lq_1488 : cd_L[1488]? = (some (some (.aconst_null, 1489, 0, 0, 0, .int 1)) : Option (Option zE)) := zlch (a := cdS_14_8) (luk_14_8 8) zg8
theorem lq_1489 : cd_L[1489]? = (some (some (.iadd, 1490, 0, 0, 0, .null)) : Option (Option zE)) := zlch (a := cdS_14_8) (luk_14_8 9) zg9
theorem lq_1490 : cd_L[1490]? = (some (some (.saload, 1491, 0, 0, 0, .null)) : Option (Option zE)) := zlch (a := cdS_14_9) (luk_14_9 0) zg0
theorem lq_1491 : cd_L[1491]? = (some (some (.aload 0, 1492, 0, 0, 0, .null)) : Option (Option zE)) := zlch (a := cdS_14_9) (luk_14_9 1) zg1
theorem lq_1492 : cd_L[1492]? = (some (some (.iload 3, 1493, 3, 0, 0, .null)) : Option (Option zE)) := zlch (a := cdS_14_9) (luk_14_9 2) zg2
theorem lq_1493 : cd_L[1493]? = (some (some (.aconst_null, 1494, 0, 0, 0, .int 2)) : Option (Option zE)) := zlch (a := cdS_14_9) (luk_14_9 3) zg3
theorem lq_1494 : cd_L[1494]? = (some (some (.iadd, 1495, 0, 0, 0, .null)) : Option (Option zE)) := zlch (a := cdS_14_9) (luk_14_9 4) zg4
theorem lq_1495 : cd_L[1495]? = (some (some (.saload, 1496, 0, 0, 0, .null)) : Option (Option zE)) := zlch (a := cdS_14_9) (luk_14_9 5) zg5
theorem lq_1496 : cd_L[1496]? = (some (some (.aload 0, 1497, 0, 0, 0, .null)) : Option (Option zE)) := zlch (a := cdS_14_9) (luk_14_9 6) zg6
theorem lq_1497 : cd_L[1497]? = (some (some (.iload 3, 1498, 3, 0, 0, .null)) : Option (Option zE)) := zlch (a := cdS_14_9) (luk_14_9 7) zg7
theorem lq_1498 : cd_L[1498]? = (some (some (.aconst_null, 1499, 0, 0, 0, .int 3)) : Option (Option zE)) := zlch (a := cdS_14_9) (luk_14_9 8) zg8
theorem lq_1499 : cd_L[1499]? = (some (some (.iadd, 1500, 0, 0, 0, .null)) : Option (Option zE)) := zlch (a := cdS_14_9) (luk_14_9 9) zg9
theorem lq_1500 : cd_L[1500]? = (some (some (.saload, 1501, 0, 0, 0, .null)) : Option (Option zE)) := zlch (a := cdS_15_0) (luk_15_0 0) zg0
theorem lq_1501 : cd_L[1501]? = (some (some (.invokevirtual 0, 1504, 139, 3, 11, .null)) : Option (Option zE)) := zlch (a := cdS_15_0) (luk_15_0 1) zg1
theorem lq_1504 : cd_L[1504]? = (some (some (.drem, 1505, 0, 0, 0, .null)) : Option (Option zE)) := zlch (a := cdS_15_0) (luk_15_0 4) zg4
theorem lq_1505 : cd_L[1505]? = (some (some (.aload 2, 1506, 2, 0, 0, .null)) : Option (Option zE)) := zlch (a := cdS_15_0) (luk_15_0 5) zg5
theorem lq_1506 : cd_L[1506]? = (some (some (.aload 0, 1507, 0, 0, 0, .null)) : Option (Option zE)) := zlch (a := cdS_15_0) (luk_15_0 6) zg6
theorem lq_1507 : cd_L[1507]? = (some (some (.iload 3, 1508, 3, 0, 0, .null)) : Option (Option zE)) := zlch (a := cdS_15_0) (luk_15_0 7) zg7
theorem lq_1508 : cd_L[1508]? = (some (some (.aconst_null, 1509, 0, 0, 0, .int 1)) : Option (Option zE)) := zlch (a := cdS_15_0) (luk_15_0 8) zg8
theorem lq_1509 : cd_L[1509]? = (some (some (.iadd, 1510, 0, 0, 0, .null)) : Option (Option zE)) := zlch (a := cdS_15_0) (luk_15_0 9) zg9
theorem lq_1510 : cd_L[1510]? = (some (some (.saload, 1511, 0, 0, 0, .null)) : Option (Option zE)) := zlch (a := cdS_15_1) (luk_15_1 0) zg0
theorem lq_1511 : cd_L[1511]? = (some (some (.aload 0, 1512, 0, 0, 0, .null)) : Option (Option zE)) := zlch (a := cdS_15_1) (luk_15_1 1) zg1
theorem lq_1512 : cd_L[1512]? = (some (some (.iload 3, 1513, 3, 0, 0, .null)) : Option (Option zE)) := zlch (a := cdS_15_1) (luk_15_1 2) zg2
theorem lq_1513 : cd_L[1513]? = (some (some (.aconst_null, 1514, 0, 0, 0, .int 2)) : Option (Option zE)) := zlch (a := cdS_15_1) (luk_15_1 3) zg3
theorem lq_1514 : cd_L[1514]? = (some (some (.iadd, 1515, 0, 0, 0, .null)) : Option (Option zE)) := zlch (a := cdS_15_1) (luk_15_1 4) zg4
theorem lq_1515 : cd_L[1515]? = (some (some (.saload, 1516, 0, 0, 0, .null)) : Option (Option zE)) := zlch (a := cdS_15_1) (luk_15_1 5) zg5
theorem lq_1516 : cd_L[1516]? = (some (some (.aload 0, 1517, 0, 0, 0, .null)) : Option (Option zE)) := zlch (a := cdS_15_1) (luk_15_1 6) zg6
theorem lq_1517 : cd_L[1517]? = (some (some (.iload 3, 1518, 3, 0, 0, .null)) : Option (Option zE)) := zlch (a := cdS_15_1) (luk_15_1 7) zg7
theorem lq_1518 : cd_L[1518]? = (some (some (.aconst_null, 1519, 0, 0, 0, .int 3)) : Option (Option zE)) := zlch (a := cdS_15_1) (luk_15_1 8) zg8
theorem lq_1519 : cd_L[1519]? = (some (some (.iadd, 1520, 0, 0, 0, .null)) : Option (Option zE)) := zlch (a := cdS_15_1) (luk_15_1 9) zg9
theorem lq_1520 : cd_L[1520]? = (some (some (.saload, 1521, 0, 0, 0, .null)) : Option (Option zE)) := zlch (a := cdS_15_2) (luk_15_2 0) zg0
theorem lq_1521 : cd_L[1521]? = (some (some (.invokevirtual 0, 1524, 253, 3, 12, .null)) : Option (Option zE)) := zlch (a := cdS_15_2) (luk_15_2 1) zg1
theorem lq_1524 : cd_L[1524]? = (some (some (.drem, 1525, 0, 0, 0, .null)) : Option (Option zE)) := zlch (a := cdS_15_2) (luk_15_2 4) zg4
theorem lq_1525 : cd_L[1525]? = (some (some (.goto 0, 1528, 2138, 0, 0, .null)) : Option (Option zE)) := zlch (a := cdS_15_2) (luk_15_2 5) zg5
theorem lq_1528 : cd_L[1528]? = (some (some (.aload 1, 1529, 1, 0, 0, .null)) : Option (Option zE)) := zlch (a := cdS_15_2) (luk_15_2 8) zg8
theorem lq_1529 : cd_L[1529]? = (some (some (.aload 0, 1530, 0, 0, 0, .null)) : Option (Option zE)) := zlch (a := cdS_15_2) (luk_15_2 9) zg9
theorem lq_1530 : cd_L[1530]? = (some (some (.iload 3, 1531, 3, 0, 0, .null)) : Option (Option zE)) := zlch (a := cdS_15_3) (luk_15_3 0) zg0
theorem lq_1531 : cd_L[1531]? = (some (some (.aconst_null, 1532, 0, 0, 0, .int 1)) : Option (Option zE)) := zlch (a := cdS_15_3) (luk_15_3 1) zg1
theorem lq_1532 : cd_L[1532]? = (some (some (.iadd, 1533, 0, 0, 0, .null)) : Option (Option zE)) := zlch (a := cdS_15_3) (luk_15_3 2) zg2
theorem lq_1533 : cd_L[1533]? = (some (some (.saload, 1534, 0, 0, 0, .null)) : Option (Option zE)) := zlch (a := cdS_15_3) (luk_15_3 3) zg3
theorem lq_1534 : cd_L[1534]? = (some (some (.aload 0, 1535, 0, 0, 0, .null)) : Option (Option zE)) := zlch (a := cdS_15_3) (luk_15_3 4) zg4
theorem lq_1535 : cd_L[1535]? = (some (some (.iload 3, 1536, 3, 0, 0, .null)) : Option (Option zE)) := zlch (a := cdS_15_3) (luk_15_3 5) zg5
theorem lq_1536 : cd_L[1536]? = (some (some (.aconst_null, 1537, 0, 0, 0, .int 2)) : Option (Option zE)) := zlch (a := cdS_15_3) (luk_15_3 6) zg6
theorem lq_1537 : cd_L[1537]? = (some (some (.iadd, 1538, 0, 0, 0, .null)) : Option (Option zE)) := zlch (a := cdS_15_3) (luk_15_3 7) zg7
theorem lq_1538 : cd_L[1538]? = (some (some (.saload, 1539, 0, 0, 0, .null)) : Option (Option zE)) := zlch (a := cdS_15_3) (luk_15_3 8) zg8
theorem lq_1539 : cd_L[1539]? = (some (some (.aload 0, 1540, 0, 0, 0, .null)) : Option (Option zE)) := zlch (a := cdS_15_3) (luk_15_3 9) zg9
theorem lq_1540 : cd_L[1540]? = (some (some (.iload 3, 1541, 3, 0, 0, .null)) : Option (Option zE)) := zlch (a := cdS_15_4) (luk_15_4 0) zg0
theorem lq_1541 : cd_L[1541]? = (some (some (.aconst_null, 1542, 0, 0, 0, .int 3)) : Option (Option zE)) := zlch (a := cdS_15_4) (luk_15_4 1) zg1
theorem lq_1542 : cd_L[1542]? = (some (some (.iadd, 1543, 0, 0, 0, .null)) : Option (Option zE)) := zlch (a := cdS_15_4) (luk_15_4 2) zg2
theorem lq_1543 : cd_L[1543]? = (some (some (.saload, 1544, 0, 0, 0, .null)) : Option (Option zE)) := zlch (a := cdS_15_4) (luk_15_4 3) zg3
theorem lq_1544 : cd_L[1544]? = (some (some (.invokevirtual 0, 1547, 140, 3, 11, .null)) : Option (Option zE)) := zlch (a := cdS_15_4) (luk_15_4 4) zg4
theorem lq_1547 : cd_L[1547]? = (some (some (.drem, 1548, 0, 0, 0, .null)) : Option (Option zE)) := zlch (a := cdS_15_4) (luk_15_4 7) zg7
theorem lq_1548 : cd_L[1548]? = (some (some (.aload 2, 1549, 2, 0, 0, .null)) : Option (Option zE)) := zlch (a := cdS_15_4) (luk_15_4 8) zg8
theorem lq_1549 : cd_L[1549]? = (some (some (.aload 0, 1550, 0, 0, 0, .null)) : Option (Option zE)) := zlch (a := cdS_15_4) (luk_15_4 9) zg9
theorem lq_1550 : cd_L[1550]? = (some (some (.iload 3, 1551, 3, 0, 0, .null)) : Option (Option zE)) := zlch (a := cdS_15_5) (luk_15_5 0) zg0
theorem lq_1551 : cd_L[1551]? = (some (some (.aconst_null, 1552, 0, 0, 0, .int 1)) : Option (Option zE)) := zlch (a := cdS_15_5) (luk_15_5 1) zg1
theorem lq_1552 : cd_L[1552]? = (some (some (.iadd, 1553, 0, 0, 0, .null)) : Option (Option zE)) := zlch (a := cdS_15_5) (luk_15_5 2) zg2
theorem lq_1553 : cd_L[1553]? = (some (some (.saload, 1554, 0, 0, 0, .null)) : Option (Option zE)) := zlch (a := cdS_15_5) (luk_15_5 3) zg3
theorem lq_1554 : cd_L[1554]? = (some (some (.aload 0, 1555, 0, 0, 0, .null)) : Option (Option zE)) := zlch (a := cdS_15_5) (luk_15_5 4) zg4
theorem lq_1555 : cd_L[1555]? = (some (some (.iload 3, 1556, 3, 0, 0, .null)) : Option (Option zE)) := zlch (a := cdS_15_5) (luk_15_5 5) zg5
theorem lq_1556 : cd_L[1556]? = (some (some (.aconst_null, 1557, 0, 0, 0, .int 2)) : Option (Option zE)) := zlch (a := cdS_15_5) (luk_15_5 6) zg6
theorem lq_1557 : cd_L[1557]? = (some (some (.iadd, 1558, 0, 0, 0, .null)) : Option (Option zE)) := zlch (a := cdS_15_5) (luk_15_5 7) zg7
theorem lq_1558 : cd_L[1558]? = (some (some (.saload, 1559, 0, 0, 0, .null)) : Option (Option zE)) := zlch (a := cdS_15_5) (luk_15_5 8) zg8
theorem lq_1559 : cd_L[1559]? = (some (some (.aload 0, 1560, 0, 0, 0, .null)) : Option (Option zE)) := zlch (a := cdS_15_5) (luk_15_5 9) zg9
theorem lq_1560 : cd_L[1560]? = (some (some (.iload 3, 1561, 3, 0, 0, .null)) : Option (Option zE)) := zlch (a := cdS_15_6) (luk_15_6 0) zg0
theorem lq_1561 : cd_L[1561]? = (some (some (.aconst_null, 1562, 0, 0, 0, .int 3)) : Option (Option zE)) := zlch (a := cdS_15_6) (luk_15_6 1) zg1
theorem lq_1562 : cd_L[1562]? = (some (some (.iadd, 1563, 0, 0, 0, .null)) : Option (Option zE)) := zlch (a := cdS_15_6) (luk_15_6 2) zg2
theorem lq_1563 : cd_L[1563]? = (some (some (.saload, 1564, 0, 0, 0, .null)) : Option (Option zE)) := zlch (a := cdS_15_6) (luk_15_6 3) zg3
theorem lq_1564 : cd_L[1564]? = (some (some (.invokevirtual 0, 1567, 256, 3, 12, .null)) : Option (Option zE)) := zlch (a := cdS_15_6) (luk_15_6 4) zg4
theorem lq_1567 : cd_L[1567]? = (some (some (.drem, 1568, 0, 0, 0, .null)) : Option (Option zE)) := zlch (a := cdS_15_6) (luk_15_6 7) zg7
theorem lq_1568 : cd_L[1568]? = (some (some (.goto 0, 1571, 2138, 0, 0, .null)) : Option (Option zE)) := zlch (a := cdS_15_6) (luk_15_6 8) zg8
theorem lq_1571 : cd_L[1571]? = (some (some (.aload 1, 1572, 1, 0, 0, .null)) : Option (Option zE)) := zlch (a := cdS_15_7) (luk_15_7 1) zg1
theorem lq_1572 : cd_L[1572]? = (some (some (.aload 0, 1573, 0, 0, 0, .null)) : Option (Option zE)) := zlch (a := cdS_15_7) (luk_15_7 2) zg2
theorem lq_1573 : cd_L[1573]? = (some (some (.iload 3, 1574, 3, 0, 0, .null)) : Option (Option zE)) := zlch (a := cdS_15_7) (luk_15_7 3) zg3
theorem lq_1574 : cd_L[1574]? = (some (some (.aconst_null, 1575, 0, 0, 0, .int 1)) : Option (Option zE)) := zlch (a := cdS_15_7) (luk_15_7 4) zg4
theorem lq_1575 : cd_L[1575]? = (some (some (.iadd, 1576, 0, 0, 0, .null)) : Option (Option zE)) := zlch (a := cdS_15_7) (luk_15_7 5) zg5
theorem lq_1576 : cd_L[1576]? = (some (some (.saload, 1577, 0, 0, 0, .null)) : Option (Option zE)) := zlch (a := cdS_15_7) (luk_15_7 6) zg6
theorem lq_1577 : cd_L[1577]? = (some (some (.aload 0, 1578, 0, 0, 0, .null)) : Option (Option zE)) := zlch (a := cdS_15_7) (luk_15_7 7) zg7
theorem lq_1578 : cd_L[1578]? = (some (some (.iload 3, 1579, 3, 0, 0, .null)) : Option (Option zE)) := zlch (a := cdS_15_7) (luk_15_7 8) zg8
theorem lq_1579 : cd_L[1579]? = (some (some (.aconst_null, 1580, 0, 0, 0, .int 2)) : Option (Option zE)) := zlch (a := cdS_15_7) (luk_15_7 9) zg9
theorem lq_1580 : cd_L[1580]? = (some (some (.iadd, 1581, 0, 0, 0, .null)) : Option (Option zE)) := zlch (a := cdS_15_8) (luk_15_8 0) zg0
theorem lq_1581 : cd_L[1581]? = (some (some (.saload, 1582, 0, 0, 0, .null)) : Option (Option zE)) := zlch (a := cdS_15_8) (luk_15_8 1) zg1
theorem lq_1582 : cd_L[1582]? = (some (some (.aload 0, 1583, 0, 0, 0, .null)) : Option (Option zE)) := zlch (a := cdS_15_8) (luk_15_8 2) zg2
theorem lq_1583 : cd_L[1583]? = (some (some (.iload 3, 1584, 3, 0, 0, .null)) : Option (Option zE)) := zlch (a := cdS_15_8) (luk_15_8 3) zg3
theorem lq_1584 : cd_L[1584]? = (some (some (.aconst_null, 1585, 0, 0, 0, .int 3)) : Option (Option zE)) := zlch (a := cdS_15_8) (luk_15_8 4) zg4
theorem lq_1585 : cd_L[1585]? = (some (some (.iadd, 1586, 0, 0, 0, .null)) : Option (Option zE)) := zlch (a := cdS_15_8) (luk_15_8 5) zg5
theorem lq_1586 : cd_L[1586]? = (some (some (.saload, 1587, 0, 0, 0, .null)) : Option (Option zE)) := zlch (a := cdS_15_8) (luk_15_8 6) zg6
theorem lq_1587 : cd_L[1587]? = (some (some (.aload 0, 1588, 0, 0, 0, .null)) : Option (Option zE)) := zlch (a := cdS_15_8) (luk_15_8 7) zg7
theorem lq_1588 : cd_L[1588]? = (some (some (.iload 3, 1589, 3, 0, 0, .null)) : Option (Option zE)) := zlch (a := cdS_15_8) (luk_15_8 8) zg8
theorem lq_1589 : cd_L[1589]? = (some (some (.aconst_null, 1590, 0, 0, 0, .int 4)) : Option (Option zE)) := zlch (a := cdS_15_8) (luk_15_8 9) zg9
theorem lq_1590 : cd_L[1590]? = (some (some (.iadd, 1591, 0, 0, 0, .null)) : Option (Option zE)) := zlch (a := cdS_15_9) (luk_15_9 0) zg0
theorem lq_1591 : cd_L[1591]? = (some (some (.saload, 1592, 0, 0, 0, .null)) : Option (Option zE)) := zlch (a := cdS_15_9) (luk_15_9 1) zg1
theorem lq_1592 : cd_L[1592]? = (some (some (.invokevirtual 0, 1595, 141, 4, 11, .null)) : Option (Option zE)) := zlch (a := cdS_15_9) (luk_15_9 2) zg2
theorem lq_1595 : cd_L[1595]? = (some (some (.pop, 1596, 0, 0, 0, .null)) : Option (Option zE)) := zlch (a := cdS_15_9) (luk_15_9 5) zg5
theorem lq_1596 : cd_L[1596]? = (some (some (.aload 2, 1597, 2, 0, 0, .null)) : Option (Option zE)) := zlch (a := cdS_15_9) (luk_15_9 6) zg6
theorem lq_1597 : cd_L[1597]? = (some (some (.aload 0, 1598, 0, 0, 0, .null)) : Option (Option zE)) := zlch (a := cdS_15_9) (luk_15_9 7) zg7
theorem lq_1598 : cd_L[1598]? = (some (some (.iload 3, 1599, 3, 0, 0, .null)) : Option (Option zE)) := zlch (a := cdS_15_9) (luk_15_9 8) zg8
theorem lq_1599 : cd_L[1599]? = (some (some (.aconst_null, 1600, 0, 0, 0, .int 1)) : Option (Option zE)) := zlch (a := cdS_15_9) (luk_15_9 9) zg9
theorem lq_1600 : cd_L[1600]? = (some (some (.iadd, 1601, 0, 0, 0, .null)) : Option (Option zE)) := zlch (a := cdS_16_0) (luk_16_0 0) zg0
theorem lq_1601 : cd_L[1601]? = (some (some (.saload, 1602, 0, 0, 0, .null)) : Option (Option zE)) := zlch (a := cdS_16_0) (luk_16_0 1) zg1
theorem lq_1602 : cd_L[1602]? = (some (some (.aload 0, 1603, 0, 0, 0, .null)) : Option (Option zE)) := zlch (a := cdS_16_0) (luk_16_0 2) zg2
theorem lq_1603 : cd_L[1603]? = (some (some (.iload 3, 1604, 3, 0, 0, .null)) : Option (Option zE)) := zlch (a := cdS_16_0) (luk_16_0 3) zg3
theorem lq_1604 : cd_L[1604]? = (some (some (.aconst_null, 1605, 0, 0, 0, .int 2)) : Option (Option zE)) := zlch (a := cdS_16_0) (luk_16_0 4) zg4
theorem lq_1605 : cd_L[1605]? = (some (some (.iadd, 1606, 0, 0, 0, .null)) : Option (Option zE)) := zlch (a := cdS_16_0) (luk_16_0 5) zg5
theorem lq_1606 : cd_L[1606]? = (some (some (.saload, 1607, 0, 0, 0, .null)) : Option (Option zE)) := zlch (a := cdS_16_0) (luk_16_0 6) zg6
theorem lq_1607 : cd_L[1607]? = (some (some (.aload 0, 1608, 0, 0, 0, .null)) : Option (Option zE)) := zlch (a := cdS_16_0) (luk_16_0 7) zg7
theorem lq_1608 : cd_L[1608]? = (some (some (.iload 3, 1609, 3, 0, 0, .null)) : Option (Option zE)) := zlch (a := cdS_16_0) (luk_16_0 8) zg8
theorem lq_1609 : cd_L[1609]? = (some (some (.aconst_null, 1610, 0, 0, 0, .int 3)) : Option (Option zE)) := zlch (a := cdS_16_0) (luk_16_0 9) zg9
theorem lq_1610 : cd_L[1610]? = (some (some (.iadd, 1611, 0, 0, 0, .null)) : Option (Option zE)) := zlch (a := cdS_16_1) (luk_16_1 0) zg0
theorem lq_1611 : cd_L[1611]? = (some (some (.saload, 1612, 0, 0, 0, .null)) : Option (Option zE)) := zlch (a := cdS_16_1) (luk_16_1 1) zg1
theorem lq_1612 : cd_L[1612]? = (some (some (.aload 0, 1613, 0, 0, 0, .null)) : Option (Option zE)) := zlch (a := cdS_16_1) (luk_16_1 2) zg2
theorem lq_1613 : cd_L[1613]? = (some (some (.iload 3, 1614, 3, 0, 0, .null)) : Option (Option zE)) := zlch (a := cdS_16_1) (luk_16_1 3) zg3
theorem lq_1614 : cd_L[1614]? = (some (some (.aconst_null, 1615, 0, 0, 0, .int 4)) : Option (Option zE)) := zlch (a := cdS_16_1) (luk_16_1 4) zg4
theorem lq_1615 : cd_L[1615]? = (some (some (.iadd, 1616, 0, 0, 0, .null)) : Option (Option zE)) := zlch (a := cdS_16_1) (luk_16_1 5) zg5
theorem lq_1616 : cd_L[1616]? = (some (some (.saload, 1617, 0, 0, 0, .null)) : Option (Option zE)) := zlch (a := cdS_16_1) (luk_16_1 6) zg6
theorem lq_1617 : cd_L[1617]? = (some (some (.invokevirtual 0, 1620, 257, 4, 12, .null)) : Option (Option zE)) := zlch (a := cdS_16_1) (luk_16_1 7) zg7
theorem lq_1620 : cd_L[1620]? = (some (some (.pop, 1621, 0, 0, 0, .null)) : Option (Option zE)) := zlch (a := cdS_16_2) (luk_16_2 0) zg0
theorem lq_1621 : cd_L[1621]? = (some (some (.goto 0, 1624, 2138, 0, 0, .null)) : Option (Option zE)) := zlch (a := cdS_16_2) (luk_16_2 1) zg1
theorem lq_1624 : cd_L[1624]? = (some (some (.aload 1, 1625, 1, 0, 0, .null)) : Option (Option zE)) := zlch (a := cdS_16_2) (luk_16_2 4) zg4
theorem lq_1625 : cd_L[1625]? = (some (some (.aload 0, 1626, 0, 0, 0, .null)) : Option (Option zE)) := zlch (a := cdS_16_2) (luk_16_2 5) zg5
theorem lq_1626 : cd_L[1626]? = (some (some (.iload 3, 1627, 3, 0, 0, .null)) : Option (Option zE)) := zlch (a := cdS_16_2) (luk_16_2 6) zg6
theorem lq_1627 : cd_L[1627]? = (some (some (.aconst_null, 1628, 0, 0, 0, .int 1)) : Option (Option zE)) := zlch (a := cdS_16_2) (luk_16_2 7) zg7
theorem lq_1628 : cd_L[1628]? = (some (some (.iadd, 1629, 0, 0, 0, .null)) : Option (Option zE)) := zlch (a := cdS_16_2) (luk_16_2 8) zg8
theorem lq_1629 : cd_L[1629]? = (some (some (.saload, 1630, 0, 0, 0, .null)) : Option (Option zE)) := zlch (a := cdS_16_2) (luk_16_2 9) zg9
theorem lq_1630 : cd_L[1630]? = (some (some (.aload 0, 1631, 0, 0, 0, .null)) : Option (Option zE)) := zlch (a := cdS_16_3) (luk_16_3 0) zg0
theorem lq_1631 : cd_L[1631]? = (some (some (.iload 3, 1632, 3, 0, 0, .null)) : Option (Option zE)) := zlch (a := cdS_16_3) (luk_16_3 1) zg1
theorem lq_1632 : cd_L[1632]? = (some (some (.aconst_null, 1633, 0, 0, 0, .int 2)) : Option (Option zE)) := zlch (a := cdS_16_3) (luk_16_3 2) zg2
theorem lq_1633 : cd_L[1633]? = (some (some (.iadd, 1634, 0, 0, 0, .null)) : Option (Option zE)) := zlch (a := cdS_16_3) (luk_16_3 3) zg3
theorem lq_1634 : cd_L[1634]? = (some (some (.saload, 1635, 0, 0, 0, .null)) : Option (Option zE)) := zlch (a := cdS_16_3) (luk_16_3 4) zg4
theorem lq_1635 : cd_L[1635]? = (some (some (.invokevirtual 0, 1638, 142, 2, 11, .null)) : Option (Option zE)) := zlch (a := cdS_16_3) (luk_16_3 5) zg5
theorem lq_1638 : cd_L[1638]? = (some (some (.pop, 1639, 0, 0, 0, .null)) : Option (Option zE)) := zlch (a := cdS_16_3) (luk_16_3 8) zg8
theorem lq_1639 : cd_L[1639]? = (some (some (.aload 2, 1640, 2, 0, 0, .null)) : Option (Option zE)) := zlch (a := cdS_16_3) (luk_16_3 9) zg9
theorem lq_1640 : cd_L[1640]? = (some (some (.aload 0, 1641, 0, 0, 0, .null)) : Option (Option zE)) := zlch (a := cdS_16_4) (luk_16_4 0) zg0
theorem lq_1641 : cd_L[1641]? = (some (some (.iload 3, 1642, 3, 0, 0, .null)) : Option (Option zE)) := zlch (a := cdS_16_4) (luk_16_4 1) zg1
theorem lq_1642 : cd_L[1642]? = (some (some (.aconst_null, 1643, 0, 0, 0, .int 1)) : Option (Option zE)) := zlch (a := cdS_16_4) (luk_16_4 2) zg2
theorem lq_1643 : cd_L[1643]? = (some (some (.iadd, 1644, 0, 0, 0, .null)) : Option (Option zE)) := zlch (a := cdS_16_4) (luk_16_4 3) zg3
theorem lq_1644 : cd_L[1644]? = (some (some (.saload, 1645, 0, 0, 0, .null)) : Option (Option zE)) := zlch (a := cdS_16_4) (luk_16_4 4) zg4
theorem lq_1645 : cd_L[1645]? = (some (some (.aload 0, 1646, 0, 0, 0, .null)) : Option (Option zE)) := zlch (a := cdS_16_4) (luk_16_4 5) zg5
theorem lq_1646 : cd_L[1646]? = (some (some (.iload 3, 1647, 3, 0, 0, .null)) : Option (Option zE)) := zlch (a := cdS_16_4) (luk_16_4 6) zg6
theorem lq_1647 : cd_L[1647]? = (some (some (.aconst_null, 1648, 0, 0, 0, .int 2)) : Option (Option zE)) := zlch (a := cdS_16_4) (luk_16_4 7) zg7
theorem lq_1648 : cd_L[1648]? = (some (some (.iadd, 1649, 0, 0, 0, .null)) : Option (Option zE)) := zlch (a := cdS_16_4) (luk_16_4 8) zg8
theorem lq_1649 : cd_L[1649]? = (some (some (.saload, 1650, 0, 0, 0, .null)) : Option (Option zE)) := zlch (a := cdS_16_4) (luk_16_4 9) zg9
theorem lq_1650 : cd_L[1650]? = (some (some (.invokevirtual 0, 1653, 260, 2, 12, .null)) : Option (Option zE)) := zlch (a := cdS_16_5) (luk_16_5 0) zg0
theorem lq_1653 : cd_L[1653]? = (some (some (.pop, 1654, 0, 0, 0, .null)) : Option (Option zE)) := zlch (a := cdS_16_5) (luk_16_5 3) zg3
theorem lq_1654 : cd_L[1654]? = (some (some (.goto 0, 1657, 2138, 0, 0, .null)) : Option (Option zE)) := zlch (a := cdS_16_5) (luk_16_5 4) zg4
theorem lq_1657 : cd_L[1657]? = (some (some (.aload 1, 1658, 1, 0, 0, .null)) : Option (Option zE)) := zlch (a := cdS_16_5) (luk_16_5 7) zg7
theorem lq_1658 : cd_L[1658]? = (some (some (.aload 0, 1659, 0, 0, 0, .null)) : Option (Option zE)) := zlch (a := cdS_16_5) (luk_16_5 8) zg8
theorem lq_1659 : cd_L[1659]? = (some (some (.iload 3, 1660, 3, 0, 0, .null)) : Option (Option zE)) := zlch (a := cdS_16_5) (luk_16_5 9) zg9
theorem lq_1660 : cd_L[1660]? = (some (some (.aconst_null, 1661, 0, 0, 0, .int 1)) : Option (Option zE)) := zlch (a := cdS_16_6) (luk_16_6 0) zg0
theorem lq_1661 : cd_L[1661]? = (some (some (.iadd, 1662, 0, 0, 0, .null)) : Option (Option zE)) := zlch (a := cdS_16_6) (luk_16_6 1) zg1
theorem lq_1662 : cd_L[1662]? = (some (some (.saload, 1663, 0, 0, 0, .null)) : Option (Option zE)) := zlch (a := cdS_16_6) (luk_16_6 2) zg2
theorem lq_1663 : cd_L[1663]? = (some (some (.invokevirtual 0, 1666, 143, 1, 11, .null)) : Option (Option zE)) := zlch (a := cdS_16_6) (luk_16_6 3) zg3
theorem lq_1666 : cd_L[1666]? = (some (some (.pop, 1667, 0, 0, 0, .null)) : Option (Option zE)) := zlch (a := cdS_16_6) (luk_16_6 6) zg6
theorem lq_1667 : cd_L[1667]? = (some (some (.aload 2, 1668, 2, 0, 0, .null)) : Option (Option zE)) := zlch (a := cdS_16_6) (luk_16_6 7) zg7
theorem lq_1668 : cd_L[1668]? = (some (some (.aload 0, 1669, 0, 0, 0, .null)) : Option (Option zE)) := zlch (a := cdS_16_6) (luk_16_6 8) zg8
theorem lq_1669 : cd_L[1669]? = (some (some (.iload 3, 1670, 3, 0, 0, .null)) : Option (Option zE)) := zlch (a := cdS_16_6) (luk_16_6 9) zg9
theorem lq_1670 : cd_L[1670]? = (some (some (.aconst_null, 1671, 0, 0, 0, .int 1)) : Option (Option zE)) := zlch (a := cdS_16_7) (luk_16_7 0) zg0
theorem lq_1671 : cd_L[1671]? = (some (some (.iadd, 1672, 0, 0, 0, .null)) : Option (Option zE)) := zlch (a := cdS_16_7) (luk_16_7 1) zg1
theorem lq_1672 : cd_L[1672]? = (some (some (.saload, 1673, 0, 0, 0, .null)) : Option (Option zE)) := zlch (a := cdS_16_7) (luk_16_7 2) zg2
theorem lq_1673 : cd_L[1673]? = (some (some (.invokevirtual 0, 1676, 261, 1, 12, .null)) : Option (Option zE)) := zlch (a := cdS_16_7) (luk_16_7 3) zg3
theorem lq_1676 : cd_L[1676]? = (some (some (.pop, 1677, 0, 0, 0, .null)) : Option (Option zE)) := zlch (a := cdS_16_7) (luk_16_7 6) zg6
theorem lq_1677 : cd_L[1677]? = (some (some (.goto 0, 1680, 2138, 0, 0, .null)) : Option (Option zE)) := zlch (a := cdS_16_7) (luk_16_7 7) zg7
theorem lq_1680 : cd_L[1680]? = (some (some (.aload 1, 1681, 1, 0, 0, .null)) : Option (Option zE)) := zlch (a := cdS_16_8) (luk_16_8 0) zg0
theorem lq_1681 : cd_L[1681]? = (some (some (.aload 0, 1682, 0, 0, 0, .null)) : Option (Option zE)) := zlch (a := cdS_16_8) (luk_16_8 1) zg1
theorem lq_1682 : cd_L[1682]? = (some (some (.iload 3, 1683, 3, 0, 0, .null)) : Option (Option zE)) := zlch (a := cdS_16_8) (luk_16_8 2) zg2
theorem lq_1683 : cd_L[1683]? = (some (some (.aconst_null, 1684, 0, 0, 0, .int 1)) : Option (Option zE)) := zlch (a := cdS_16_8) (luk_16_8 3) zg3
theorem lq_1684 : cd_L[1684]? = (some (some (.iadd, 1685, 0, 0, 0, .null)) : Option (Option zE)) := zlch (a := cdS_16_8) (luk_16_8 4) zg4
theorem lq_1685 : cd_L[1685]? = (some (some (.saload, 1686, 0, 0, 0, .null)) : Option (Option zE)) := zlch (a := cdS_16_8) (luk_16_8 5) zg5
theorem lq_1686 : cd_L[1686]? = (some (some (.aload 0, 1687, 0, 0, 0, .null)) : Option (Option zE)) := zlch (a := cdS_16_8) (luk_16_8 6) zg6
theorem lq_1687 : cd_L[1687]? = (some (some (.iload 3, 1688, 3, 0, 0, .null)) : Option (Option zE)) := zlch (a := cdS_16_8) (luk_16_8 7) zg7
theorem lq_1688 : cd_L[1688]? = (some (some (.aconst_null, 1689, 0, 0, 0, .int 2)) : Option (Option zE)) := zlch (a := cdS_16_8) (luk_16_8 8) zg8
theorem lq_1689 : cd_L[1689]? = (some (some (.iadd, 1690, 0, 0, 0, .null)) : Option (Option zE)) := zlch (a := cdS_16_8) (luk_16_8 9) zg9
theorem lq_1690 : cd_L[1690]? = (some (some (.saload, 1691, 0, 0, 0, .null)) : Option (Option zE)) := zlch (a := cdS_16_9) (luk_16_9 0) zg0
theorem lq_1691 : cd_L[1691]? = (some (some (.invokevirtual 0, 1694, 144, 2, 11, .null)) : Option (Option zE)) := zlch (a := cdS_16_9) (luk_16_9 1) zg1
theorem lq_1694 : cd_L[1694]? = (some (some (.pop, 1695, 0, 0, 0, .null)) : Option (Option zE)) := zlch (a := cdS_16_9) (luk_16_9 4) zg4
theorem lq_1695 : cd_L[1695]? = (some (some (.aload 2, 1696, 2, 0, 0, .null)) : Option (Option zE)) := zlch (a := cdS_16_9) (luk_16_9 5) zg5
theorem lq_1696 : cd_L[1696]? = (some (some (.aload 0, 1697, 0, 0, 0, .null)) : Option (Option zE)) := zlch (a := cdS_16_9) (luk_16_9 6) zg6
theorem lq_1697 : cd_L[1697]? = (some (some (.iload 3, 1698, 3, 0, 0, .null)) : Option (Option zE)) := zlch (a := cdS_16_9) (luk_16_9 7) zg7
theorem lq_1698 : cd_L[1698]? = (some (some (.aconst_null, 1699, 0, 0, 0, .int 1)) : Option (Option zE)) := zlch (a := cdS_16_9) (luk_16_9 8) zg8
theorem lq_1699 : cd_L[1699]? = (some (some (.iadd, 1700, 0, 0, 0, .null)) : Option (Option zE)) := zlch (a := cdS_16_9) (luk_16_9 9) zg9
theorem lq_1700 : cd_L[1700]? = (some (some (.saload, 1701, 0, 0, 0, .null)) : Option (Option zE)) := zlch (a := cdS_17_0) (luk_17_0 0) zg0
theorem lq_1701 : cd_L[1701]? = (some (some (.aload 0, 1702, 0, 0, 0, .null)) : Option (Option zE)) := zlch (a := cdS_17_0) (luk_17_0 1) zg1
theorem lq_1702 : cd_L[1702]? = (some (some (.iload 3, 1703, 3, 0, 0, .null)) : Option (Option zE)) := zlch (a := cdS_17_0) (luk_17_0 2) zg2
theorem lq_1703 : cd_L[1703]? = (some (some (.aconst_null, 1704, 0, 0, 0, .int 2)) : Option (Option zE)) := zlch (a := cdS_17_0) (luk_17_0 3) zg3
theorem lq_1704 : cd_L[1704]? = (some (some (.iadd, 1705, 0, 0, 0, .null)) : Option (Option zE)) := zlch (a := cdS_17_0) (luk_17_0 4) zg4
theorem lq_1705 : cd_L[1705]? = (some (some (.saload, 1706, 0, 0, 0, .null)) : Option (Option zE)) := zlch (a := cdS_17_0) (luk_17_0 5) zg5
theorem lq_1706 : cd_L[1706]? = (some (some (.invokevirtual 0, 1709, 263, 2, 12, .null)) : Option (Option zE)) := zlch (a := cdS_17_0) (luk_17_0 6) zg6
theorem lq_1709 : cd_L[1709]? = (some (some (.pop, 1710, 0, 0, 0, .null)) : Option (Option zE)) := zlch (a := cdS_17_0) (luk_17_0 9) zg9
theorem lq_1710 : cd_L[1710]? = (some (some (.goto 0, 1713, 2138, 0, 0, .null)) : Option (Option zE)) := zlch (a := cdS_17_1) (luk_17_1 0) zg0
theorem lq_1713 : cd_L[1713]? = (some (some (.aload 1, 1714, 1, 0, 0, .null)) : Option (Option zE)) := zlch (a := cdS_17_1) (luk_17_1 3) zg3
theorem lq_1714 : cd_L[1714]? = (some (some (.aload 0, 1715, 0, 0, 0, .null)) : Option (Option zE)) := zlch (a := cdS_17_1) (luk_17_1 4) zg4
theorem lq_1715 : cd_L[1715]? = (some (some (.iload 3, 1716, 3, 0, 0, .null)) : Option (Option zE)) := zlch (a := cdS_17_1) (luk_17_1 5) zg5
theorem lq_1716 : cd_L[1716]? = (some (some (.aconst_null, 1717, 0, 0, 0, .int 1)) : Option (Option zE)) := zlch (a := cdS_17_1) (luk_17_1 6) zg6
theorem lq_1717 : cd_L[1717]? = (some (some (.iadd, 1718, 0, 0, 0, .null)) : Option (Option zE)) := zlch (a := cdS_17_1) (luk_17_1 7) zg7
theorem lq_1718 : cd_L[1718]? = (some (some (.saload, 1719, 0, 0, 0, .null)) : Option (Option zE)) := zlch (a := cdS_17_1) (luk_17_1 8) zg8
theorem lq_1719 : cd_L[1719]? = (some (some (.aload 0, 1720, 0, 0, 0, .null)) : Option (Option zE)) := zlch (a := cdS_17_1) (luk_17_1 9) zg9
theorem lq_1720 : cd_L[1720]? = (some (some (.iload 3, 1721, 3, 0, 0, .null)) : Option (Option zE)) := zlch (a := cdS_17_2) (luk_17_2 0) zg0
theorem lq_1721 : cd_L[1721]? = (some (some (.aconst_null, 1722, 0, 0, 0, .int 2)) : Option (Option zE)) := zlch (a := cdS_17_2) (luk_17_2 1) zg1
theorem lq_1722 : cd_L[1722]? = (some (some (.iadd, 1723, 0, 0, 0, .null)) : Option (Option zE)) := zlch (a := cdS_17_2) (luk_17_2 2) zg2
theorem lq_1723 : cd_L[1723]? = (some (some (.saload, 1724, 0, 0, 0, .null)) : Option (Option zE)) := zlch (a := cdS_17_2) (luk_17_2 3) zg3
theorem lq_1724 : cd_L[1724]? = (some (some (.invokevirtual 0, 1727, 145, 2, 11, .null)) : Option (Option zE)) := zlch (a := cdS_17_2) (luk_17_2 4) zg4
theorem lq_1727 : cd_L[1727]? = (some (some (.pop, 1728, 0, 0, 0, .null)) : Option (Option zE)) := zlch (a := cdS_17_2) (luk_17_2 7) zg7
theorem lq_1728 : cd_L[1728]? = (some (some (.aload 2, 1729, 2, 0, 0, .null)) : Option (Option zE)) := zlch (a := cdS_17_2) (luk_17_2 8) zg8
theorem lq_1729 : cd_L[1729]? = (some (some (.aload 0, 1730, 0, 0, 0, .null)) : Option (Option zE)) := zlch (a := cdS_17_2) (luk_17_2 9) zg9
theorem lq_1730 : cd_L[1730]? = (some (some (.iload 3, 1731, 3, 0, 0, .null)) : Option (Option zE)) := zlch (a := cdS_17_3) (luk_17_3 0) zg0
theorem lq_1731 : cd_L[1731]? = (some (some (.aconst_null, 1732, 0, 0, 0, .int 1)) : Option (Option zE)) := zlch (a := cdS_17_3) (luk_17_3 1) zg1
theorem lq_1732 : cd_L[1732]? = (some (some (.iadd, 1733, 0, 0, 0, .null)) : Option (Option zE)) := zlch (a := cdS_17_3) (luk_17_3 2) zg2
theorem lq_1733 : cd_L[1733]? = (some (some (.saload, 1734, 0, 0, 0, .null)) : Option (Option zE)) := zlch (a := cdS_17_3) (luk_17_3 3) zg3
theorem lq_1734 : cd_L[1734]? = (some (some (.aload 0, 1735, 0, 0, 0, .null)) : Option (Option zE)) := zlch (a := cdS_17_3) (luk_17_3 4) zg4
theorem lq_1735 : cd_L[1735]? = (some (some (.iload 3, 1736, 3, 0, 0, .null)) : Option (Option zE)) := zlch (a := cdS_17_3) (luk_17_3 5) zg5
theorem lq_1736 : cd_L[1736]? = (some (some (.aconst_null, 1737, 0, 0, 0, .int 2)) : Option (Option zE)) := zlch (a := cdS_17_3) (luk_17_3 6) zg6
theorem lq_1737 : cd_L[1737]? = (some (some (.iadd, 1738, 0, 0, 0, .null)) : Option (Option zE)) := zlch (a := cdS_17_3) (luk_17_3 7) zg7
theorem lq_1738 : cd_L[1738]? = (some (some (.saload, 1739, 0, 0, 0, .null)) : Option (Option zE)) := zlch (a := cdS_17_3) (luk_17_3 8) zg8
theorem lq_1739 : cd_L[1739]? = (some (some (.invokevirtual 0, 1742, 264, 2, 12, .null)) : Option (Option zE)) := zlch (a := cdS_17_3) (luk_17_3 9) zg9
theorem lq_1742 : cd_L[1742]? = (some (some (.pop, 1743, 0, 0, 0, .null)) : Option (Option zE)) := zlch (a := cdS_17_4) (luk_17_4 2) zg2
theorem lq_1743 : cd_L[1743]? = (some (some (.goto 0, 1746, 2138, 0, 0, .null)) : Option (Option zE)) := zlch (a := cdS_17_4) (luk_17_4 3) zg3
theorem lq_1746 : cd_L[1746]? = (some (some (.aload 1, 1747, 1, 0, 0, .null)) : Option (Option zE)) := zlch (a := cdS_17_4) (luk_17_4 6) zg6
theorem lq_1747 : cd_L[1747]? = (some (some (.aload 0, 1748, 0, 0, 0, .null)) : Option (Option zE)) := zlch (a := cdS_17_4) (luk_17_4 7) zg7
theorem lq_1748 : cd_L[1748]? = (some (some (.iload 3, 1749, 3, 0, 0, .null)) : Option (Option zE)) := zlch (a := cdS_17_4) (luk_17_4 8) zg8
theorem lq_1749 : cd_L[1749]? = (some (some (.aconst_null, 1750, 0, 0, 0, .int 1)) : Option (Option zE)) := zlch (a := cdS_17_4) (luk_17_4 9) zg9
theorem lq_1750 : cd_L[1750]? = (some (some (.iadd, 1751, 0, 0, 0, .null)) : Option (Option zE)) := zlch (a := cdS_17_5) (luk_17_5 0) zg0
theorem lq_1751 : cd_L[1751]? = (some (some (.saload, 1752, 0, 0, 0, .null)) : Option (Option zE)) := zlch (a := cdS_17_5) (luk_17_5 1) zg1
theorem lq_1752 : cd_L[1752]? = (some (some (.aload 0, 1753, 0, 0, 0, .null)) : Option (Option zE)) := zlch (a := cdS_17_5) (luk_17_5 2) zg2
theorem lq_1753 : cd_L[1753]? = (some (some (.iload 3, 1754, 3, 0, 0, .null)) : Option (Option zE)) := zlch (a := cdS_17_5) (luk_17_5 3) zg3
theorem lq_1754 : cd_L[1754]? = (some (some (.aconst_null, 1755, 0, 0, 0, .int 2)) : Option (Option zE)) := zlch (a := cdS_17_5) (luk_17_5 4) zg4
theorem lq_1755 : cd_L[1755]? = (some (some (.iadd, 1756, 0, 0, 0, .null)) : Option (Option zE)) := zlch (a := cdS_17_5) (luk_17_5 5) zg5
theorem lq_1756 : cd_L[1756]? = (some (some (.saload, 1757, 0, 0, 0, .null)) : Option (Option zE)) := zlch (a := cdS_17_5) (luk_17_5 6) zg6
theorem lq_1757 : cd_L[1757]? = (some (some (.aload 0, 1758, 0, 0, 0, .null)) : Option (Option zE)) := zlch (a := cdS_17_5) (luk_17_5 7) zg7
theorem lq_1758 : cd_L[1758]? = (some (some (.iload 3, 1759, 3, 0, 0, .null)) : Option (Option zE)) := zlch (a := cdS_17_5) (luk_17_5 8) zg8
theorem lq_1759 : cd_L[1759]? = (some (some (.aconst_null, 1760, 0, 0, 0, .int 3)) : Option (Option zE)) := zlch (a := cdS_17_5) (luk_17_5 9) zg9
theorem lq_1760 : cd_L[1760]? = (some (some (.iadd, 1761, 0, 0, 0, .null)) : Option (Option zE)) := zlch (a := cdS_17_6) (luk_17_6 0) zg0
theorem lq_1761 : cd_L[1761]? = (some (some (.saload, 1762, 0, 0, 0, .null)) : Option (Option zE)) := zlch (a := cdS_17_6) (luk_17_6 1) zg1
theorem lq_1762 : cd_L[1762]? = (some (some (.aload 0, 1763, 0, 0, 0, .null)) : Option (Option zE)) := zlch (a := cdS_17_6) (luk_17_6 2) zg2
theorem lq_1763 : cd_L[1763]? = (some (some (.iload 3, 1764, 3, 0, 0, .null)) : Option (Option zE)) := zlch (a := cdS_17_6) (luk_17_6 3) zg3
theorem lq_1764 : cd_L[1764]? = (some (some (.aconst_null, 1765, 0, 0, 0, .int 4)) : Option (Option zE)) := zlch (a := cdS_17_6) (luk_17_6 4) zg4
theorem lq_1765 : cd_L[1765]? = (some (some (.iadd, 1766, 0, 0, 0, .null)) : Option (Option zE)) := zlch (a := cdS_17_6) (luk_17_6 5) zg5
theorem lq_1766 : cd_L[1766]? = (some (some (.saload, 1767, 0, 0, 0, .null)) : Option (Option zE)) := zlch (a := cdS_17_6) (luk_17_6 6) zg6
theorem lq_1767 : cd_L[1767]? = (some (some (.invokevirtual 0, 1770, 146, 4, 11, .null)) : Option (Option zE)) := zlch (a := cdS_17_6) (luk_17_6 7) zg7
theorem lq_1770 : cd_L[1770]? = (some (some (.pop, 1771, 0, 0, 0, .null)) : Option (Option zE)) := zlch (a := cdS_17_7) (luk_17_7 0) zg0
theorem lq_1771 : cd_L[1771]? = (some (some (.aload 2, 1772, 2, 0, 0, .null)) : Option (Option zE)) := zlch (a := cdS_17_7) (luk_17_7 1) zg1
theorem lq_1772 : cd_L[1772]? = (some (some (.aload 0, 1773, 0, 0, 0, .null)) : Option (Option zE)) := zlch (a := cdS_17_7) (luk_17_7 2) zg2
theorem lq_1773 : cd_L[1773]? = (some (some (.iload 3, 1774, 3, 0, 0, .null)) : Option (Option zE)) := zlch (a := cdS_17_7) (luk_17_7 3) zg3
theorem lq_1774 : cd_L[1774]? = (some (some (.aconst_null, 1775, 0, 0, 0, .int 1)) : Option (Option zE)) := zlch (a := cdS_17_7) (luk_17_7 4) zg4
theorem lq_1775 : cd_L[1775]? = (some (some (.iadd, 1776, 0, 0, 0, .null)) : Option (Option zE)) := zlch (a := cdS_17_7) (luk_17_7 5) zg5
theorem lq_1776 : cd_L[1776]? = (some (some (.saload, 1777, 0, 0, 0, .null)) : Option (Option zE)) := zlch (a := cdS_17_7) (luk_17_7 6) zg6
theorem lq_1777 : cd_L[1777]? = (some (some (.aload 0, 1778, 0, 0, 0, .null)) : Option (Option zE)) := zlch (a := cdS_17_7) (luk_17_7 7) zg7
theorem lq_1778 : cd_L[1778]? = (some (some (.iload 3, 1779, 3, 0, 0, .null)) : Option (Option zE)) := zlch (a := cdS_17_7) (luk_17_7 8) zg8
theorem lq_1779 : cd_L[1779]? = (some (some (.aconst_null, 1780, 0, 0, 0, .int 2)) : Option (Option zE)) := zlch (a := cdS_17_7) (luk_17_7 9) zg9
theorem lq_1780 : cd_L[1780]? = (some (some (.iadd, 1781, 0, 0, 0, .null)) : Option (Option zE)) := zlch (a := cdS_17_8) (luk_17_8 0) zg0
theorem lq_1781 : cd_L[1781]? = (some (some (.saload, 1782, 0, 0, 0, .null)) : Option (Option zE)) := zlch (a := cdS_17_8) (luk_17_8 1) zg1
theorem lq_1782 : cd_L[1782]? = (some (some (.aload 0, 1783, 0, 0, 0, .null)) : Option (Option zE)) := zlch (a := cdS_17_8) (luk_17_8 2) zg2
theorem lq_1783 : cd_L[1783]? = (some (some (.iload 3, 1784, 3, 0, 0, .null)) : Option (Option zE)) := zlch (a := cdS_17_8) (luk_17_8 3) zg3
theorem lq_1784 : cd_L[1784]? = (some (some (.aconst_null, 1785, 0, 0, 0, .int 3)) : Option (Option zE)) := zlch (a := cdS_17_8) (luk_17_8 4) zg4
theorem lq_1785 : cd_L[1785]? = (some (some (.iadd, 1786, 0, 0, 0, .null)) : Option (Option zE)) := zlch (a := cdS_17_8) (luk_17_8 5) zg5
theorem lq_1786 : cd_L[1786]? = (some (some (.saload, 1787, 0, 0, 0, .null)) : Option (Option zE)) := zlch (a := cdS_17_8) (luk_17_8 6) zg6
theorem lq_1787 : cd_L[1787]? = (some (some (.aload 0, 1788, 0, 0, 0, .null)) : Option (Option zE)) := zlch (a := cdS_17_8) (luk_17_8 7) zg7
theorem lq_1788 : cd_L[1788]? = (some (some (.iload 3, 1789, 3, 0, 0, .null)) : Option (Option zE)) := zlch (a := cdS_17_8) (luk_17_8 8) zg8
theorem lq_1789 : cd_L[1789]? = (some (some (.aconst_null, 1790, 0, 0, 0, .int 4)) : Option (Option zE)) := zlch (a := cdS_17_8) (luk_17_8 9) zg9
theorem lq_1790 : cd_L[1790]? = (some (some (.iadd, 1791, 0, 0, 0, .null)) : Option (Option zE)) := zlch (a := cdS_17_9) (luk_17_9 0) zg0
theorem lq_1791 : cd_L[1791]? = (some (some (.saload, 1792, 0, 0, 0, .null)) : Option (Option zE)) := zlch (a := cdS_17_9) (luk_17_9 1) zg1
theorem lq_1792 : cd_L[1792]? = (some (some (.invokevirtual 0, 1795, 265, 4, 12, .null)) : Option (Option zE)) := zlch (a := cdS_17_9) (luk_17_9 2) zg2
theorem lq_1795 : cd_L[1795]? = (some (some (.pop, 1796, 0, 0, 0, .null)) : Option (Option zE)) := zlch (a := cdS_17_9) (luk_17_9 5) zg5
theorem lq_1796 : cd_L[1796]? = (some (some (.goto 0, 1799, 2138, 0, 0, .null)) : Option (Option zE)) := zlch (a := cdS_17_9) (luk_17_9 6) zg6
theorem lq_1799 : cd_L[1799]? = (some (some (.aload 1, 1800, 1, 0, 0, .null)) : Option (Option zE)) := zlch (a := cdS_17_9) (luk_17_9 9) zg9
theorem lq_1800 : cd_L[1800]? = (some (some (.aload 0, 1801, 0, 0, 0, .null)) : Option (Option zE)) := zlch (a := cdS_18_0) (luk_18_0 0) zg0
theorem lq_1801 : cd_L[1801]? = (some (some (.iload 3, 1802, 3, 0, 0, .null)) : Option (Option zE)) := zlch (a := cdS_18_0) (luk_18_0 1) zg1
theorem lq_1802 : cd_L[1802]? = (some (some (.aconst_null, 1803, 0, 0, 0, .int 1)) : Option (Option zE)) := zlch (a := cdS_18_0) (luk_18_0 2) zg2
theorem lq_1803 : cd_L[1803]? = (some (some (.iadd, 1804, 0, 0, 0, .null)) : Option (Option zE)) := zlch (a := cdS_18_0) (luk_18_0 3) zg3
theorem lq_1804 : cd_L[1804]? = (some (some (.saload, 1805, 0, 0, 0, .null)) : Option (Option zE)) := zlch (a := cdS_18_0) (luk_18_0 4) zg4
theorem lq_1805 : cd_L[1805]? = (some (some (.invokevirtual 0, 1808, 147, 1, 11, .null)) : Option (Option zE)) := zlch (a := cdS_18_0) (luk_18_0 5) zg5
theorem lq_1808 : cd_L[1808]? = (some (some (.pop, 1809, 0, 0, 0, .null)) : Option (Option zE)) := zlch (a := cdS_18_0) (luk_18_0 8) zg8
theorem lq_1809 : cd_L[1809]? = (some (some (.aload 2, 1810, 2, 0, 0, .null)) : Option (Option zE)) := zlch (a := cdS_18_0) (luk_18_0 9) zg9
theorem lq_1810 : cd_L[1810]? = (some (some (.aload 0, 1811, 0, 0, 0, .null)) : Option (Option zE)) := zlch (a := cdS_18_1) (luk_18_1 0) zg0
theorem lq_1811 : cd_L[1811]? = (some (some (.iload 3, 1812, 3, 0, 0, .null)) : Option (Option zE)) := zlch (a := cdS_18_1) (luk_18_1 1) zg1
theorem lq_1812 : cd_L[1812]? = (some (some (.aconst_null, 1813, 0, 0, 0, .int 1)) : Option (Option zE)) := zlch (a := cdS_18_1) (luk_18_1 2) zg2
theorem lq_1813 : cd_L[1813]? = (some (some (.iadd, 1814, 0, 0, 0, .null)) : Option (Option zE)) := zlch (a := cdS_18_1) (luk_18_1 3) zg3
theorem lq_1814 : cd_L[1814]? = (some (some (.saload, 1815, 0, 0, 0, .null)) : Option (Option zE)) := zlch (a := cdS_18_1) (luk_18_1 4) zg4
theorem lq_1815 : cd_L[1815]? = (some (some (.invokevirtual 0, 1818, 269, 1, 12, .null)) : Option (Option zE)) := zlch (a := cdS_18_1) (luk_18_1 5) zg5
theorem lq_1818 : cd_L[1818]? = (some (some (.pop, 1819, 0, 0, 0, .null)) : Option (Option zE)) := zlch (a := cdS_18_1) (luk_18_1 8) zg8
theorem lq_1819 : cd_L[1819]? = (some (some (.goto 0, 1822, 2138, 0, 0, .null)) : Option (Option zE)) := zlch (a := cdS_18_1) (luk_18_1 9) zg9
theorem lq_1822 : cd_L[1822]? = (some (some (.aload 1, 1823, 1, 0, 0, .null)) : Option (Option zE)) := zlch (a := cdS_18_2) (luk_18_2 2) zg2
theorem lq_1823 : cd_L[1823]? = (some (some (.aload 0, 1824, 0, 0, 0, .null)) : Option (Option zE)) := zlch (a := cdS_18_2) (luk_18_2 3) zg3
theorem lq_1824 : cd_L[1824]? = (some (some (.iload 3, 1825, 3, 0, 0, .null)) : Option (Option zE)) := zlch (a := cdS_18_2) (luk_18_2 4) zg4
theorem lq_1825 : cd_L[1825]? = (some (some (.aconst_null, 1826, 0, 0, 0, .int 1)) : Option (Option zE)) := zlch (a := cdS_18_2) (luk_18_2 5) zg5
theorem lq_1826 : cd_L[1826]? = (some (some (.iadd, 1827, 0, 0, 0, .null)) : Option (Option zE)) := zlch (a := cdS_18_2) (luk_18_2 6) zg6
theorem lq_1827 : cd_L[1827]? = (some (some (.saload, 1828, 0, 0, 0, .null)) : Option (Option zE)) := zlch (a := cdS_18_2) (luk_18_2 7) zg7
theorem lq_1828 : cd_L[1828]? = (some (some (.aload 0, 1829, 0, 0, 0, .null)) : Option (Option zE)) := zlch (a := cdS_18_2) (luk_18_2 8) zg8
theorem lq_1829 : cd_L[1829]? = (some (some (.iload 3, 1830, 3, 0, 0, .null)) : Option (Option zE)) := zlch (a := cdS_18_2) (luk_18_2 9) zg9
theorem lq_1830 : cd_L[1830]? = (some (some (.aconst_null, 1831, 0, 0, 0, .int 2)) : Option (Option zE)) := zlch (a := cdS_18_3) (luk_18_3 0) zg0
theorem lq_1831 : cd_L[1831]? = (some (some (.iadd, 1832, 0, 0, 0, .null)) : Option (Option zE)) := zlch (a := cdS_18_3) (luk_18_3 1) zg1
theorem lq_1832 : cd_L[1832]? = (some (some (.saload, 1833, 0, 0, 0, .null)) : Option (Option zE)) := zlch (a := cdS_18_3) (luk_18_3 2) zg2
theorem lq_1833 : cd_L[1833]? = (some (some (.invokevirtual 0, 1836, 148, 2, 11, .null)) : Option (Option zE)) := zlch (a := cdS_18_3) (luk_18_3 3) zg3
theorem lq_1836 : cd_L[1836]? = (some (some (.pop, 1837, 0, 0, 0, .null)) : Option (Option zE)) := zlch (a := cdS_18_3) (luk_18_3 6) zg6
theorem lq_1837 : cd_L[1837]? = (some (some (.aload 2, 1838, 2, 0, 0, .null)) : Option (Option zE)) := zlch (a := cdS_18_3) (luk_18_3 7) zg7
theorem lq_1838 : cd_L[1838]? = (some (some (.aload 0, 1839, 0, 0, 0, .null)) : Option (Option zE)) := zlch (a := cdS_18_3) (luk_18_3 8) zg8
theorem lq_1839 : cd_L[1839]? = (some (some (.iload 3, 1840, 3, 0, 0, .null)) : Option (Option zE)) := zlch (a := cdS_18_3) (luk_18_3 9) zg9
theorem lq_1840 : cd_L[1840]? = (some (some (.aconst_null, 1841, 0, 0, 0, .int 1)) : Option (Option zE)) := zlch (a := cdS_18_4) (luk_18_4 0) zg0
theorem lq_1841 : cd_L[1841]? = (some (some (.iadd, 1842, 0, 0, 0, .null)) : Option (Option zE)) := zlch (a := cdS_18_4) (luk_18_4 1) zg1
theorem lq_1842 : cd_L[1842]? = (some (some (.saload, 1843, 0, 0, 0, .null)) : Option (Option zE)) := zlch (a := cdS_18_4) (luk_18_4 2) zg2
theorem lq_1843 : cd_L[1843]? = (some (some (.aload 0, 1844, 0, 0, 0, .null)) : Option (Option zE)) := zlch (a := cdS_18_4) (luk_18_4 3) zg3
theorem lq_1844 : cd_L[1844]? = (some (some (.iload 3, 1845, 3, 0, 0, .null)) : Option (Option zE)) := zlch (a := cdS_18_4) (luk_18_4 4) zg4
theorem lq_1845 : cd_L[1845]? = (some (some (.aconst_null, 1846, 0, 0, 0, .int 2)) : Option (Option zE)) := zlch (a := cdS_18_4) (luk_18_4 5) zg5
theorem lq_1846 : cd_L[1846]? = (some (some (.iadd, 1847, 0, 0, 0, .null)) : Option (Option zE)) := zlch (a := cdS_18_4) (luk_18_4 6) zg6
theorem lq_1847 : cd_L[1847]? = (some (some (.saload, 1848, 0, 0, 0, .null)) : Option (Option zE)) := zlch (a := cdS_18_4) (luk_18_4 7) zg7
theorem lq_1848 : cd_L[1848]? = (some (some (.invokevirtual 0, 1851, 270, 2, 12, .null)) : Option (Option zE)) := zlch (a := cdS_18_4) (luk_18_4 8) zg8
theorem lq_1851 : cd_L[1851]? = (some (some (.pop, 1852, 0, 0, 0, .null)) : Option (Option zE)) := zlch (a := cdS_18_5) (luk_18_5 1) zg1
theorem lq_1852 : cd_L[1852]? = (some (some (.goto 0, 1855, 2138, 0, 0, .null)) : Option (Option zE)) := zlch (a := cdS_18_5) (luk_18_5 2) zg2
theorem lq_1855 : cd_L[1855]? = (some (some (.aload 1, 1856, 1, 0, 0, .null)) : Option (Option zE)) := zlch (a := cdS_18_5) (luk_18_5 5) zg5
theorem lq_1856 : cd_L[1856]? = (some (some (.aload 0, 1857, 0, 0, 0, .null)) : Option (Option zE)) := zlch (a := cdS_18_5) (luk_18_5 6) zg6
theorem lq_1857 : cd_L[1857]? = (some (some (.iload 3, 1858, 3, 0, 0, .null)) : Option (Option zE)) := zlch (a := cdS_18_5) (luk_18_5 7) zg7
theorem lq_1858 : cd_L[1858]? = (some (some (.aconst_null, 1859, 0, 0, 0, .int 1)) : Option (Option zE)) := zlch (a := cdS_18_5) (luk_18_5 8) zg8
theorem lq_1859 : cd_L[1859]? = (some (some (.iadd, 1860, 0, 0, 0, .null)) : Option (Option zE)) := zlch (a := cdS_18_5) (luk_18_5 9) zg9
theorem lq_1860 : cd_L[1860]? = (some (some (.saload, 1861, 0, 0, 0, .null)) : Option (Option zE)) := zlch (a := cdS_18_6) (luk_18_6 0) zg0
theorem lq_1861 : cd_L[1861]? = (some (some (.aload 0, 1862, 0, 0, 0, .null)) : Option (Option zE)) := zlch (a := cdS_18_6) (luk_18_6 1) zg1
theorem lq_1862 : cd_L[1862]? = (some (some (.iload 3, 1863, 3, 0, 0, .null)) : Option (Option zE)) := zlch (a := cdS_18_6) (luk_18_6 2) zg2
theorem lq_1863 : cd_L[1863]? = (some (some (.aconst_null, 1864, 0, 0, 0, .int 2)) : Option (Option zE)) := zlch (a := cdS_18_6) (luk_18_6 3) zg3
theorem lq_1864 : cd_L[1864]? = (some (some (.iadd, 1865, 0, 0, 0, .null)) : Option (Option zE)) := zlch (a := cdS_18_6) (luk_18_6 4) zg4
theorem lq_1865 : cd_L[1865]? = (some (some (.saload, 1866, 0, 0, 0, .null)) : Option (Option zE)) := zlch (a := cdS_18_6) (luk_18_6 5) zg5
theorem lq_1866 : cd_L[1866]? = (some (some (.invokevirtual 0, 1869, 149, 2, 11, .null)) : Option (Option zE)) := zlch (a := cdS_18_6) (luk_18_6 6) zg6
theorem lq_1869 : cd_L[1869]? = (some (some (.pop, 1870, 0, 0, 0, .null)) : Option (Option zE)) := zlch (a := cdS_18_6) (luk_18_6 9) zg9
theorem lq_1870 : cd_L[1870]? = (some (some (.aload 2, 1871, 2, 0, 0, .null)) : Option (Option zE)) := zlch (a := cdS_18_7) (luk_18_7 0) zg0
theorem lq_1871 : cd_L[1871]? = (some (some (.aload 0, 1872, 0, 0, 0, .null)) : Option (Option zE)) := zlch (a := cdS_18_7) (luk_18_7 1) zg1
theorem lq_1872 : cd_L[1872]? = (some (some (.iload 3, 1873, 3, 0, 0, .null)) : Option (Option zE)) := zlch (a := cdS_18_7) (luk_18_7 2) zg2
theorem lq_1873 : cd_L[1873]? = (some (some (.aconst_null, 1874, 0, 0, 0, .int 1)) : Option (Option zE)) := zlch (a := cdS_18_7) (luk_18_7 3) zg3
theorem lq_1874 : cd_L[1874]? = (some (some (.iadd, 1875, 0, 0, 0, .null)) : Option (Option zE)) := zlch (a := cdS_18_7) (luk_18_7 4) zg4
theorem lq_1875 : cd_L[1875]? = (some (some (.saload, 1876, 0, 0, 0, .null)) : Option (Option zE)) := zlch (a := cdS_18_7) (luk_18_7 5) zg5
theorem lq_1876 : cd_L[1876]? = (some (some (.aload 0, 1877, 0, 0, 0, .null)) : Option (Option zE)) := zlch (a := cdS_18_7) (luk_18_7 6) zg6
theorem lq_1877 : cd_L[1877]? = (some (some (.iload 3, 1878, 3, 0, 0, .null)) : Option (Option zE)) := zlch (a := cdS_18_7) (luk_18_7 7) zg7
theorem lq_1878 : cd_L[1878]? = (some (some (.aconst_null, 1879, 0, 0, 0, .int 2)) : Option (Option zE)) := zlch (a := cdS_18_7) (luk_18_7 8) zg8
theorem lq_1879 : cd_L[1879]? = (some (some (.iadd, 1880, 0, 0, 0, .null)) : Option (Option zE)) := zlch (a := cdS_18_7) (luk_18_7 9) zg9
theorem lq_1880 : cd_L[1880]? = (some (some (.saload, 1881, 0, 0, 0, .null)) : Option (Option zE)) := zlch (a := cdS_18_8) (luk_18_8 0) zg0
theorem lq_1881 : cd_L[1881]? = (some (some (.invokevirtual 0, 1884, 271, 2, 12, .null)) : Option (Option zE)) := zlch (a := cdS_18_8) (luk_18_8 1) zg1
theorem lq_1884 : cd_L[1884]? = (some (some (.pop, 1885, 0, 0, 0, .null)) : Option (Option zE)) := zlch (a := cdS_18_8) (luk_18_8 4) zg4
theorem lq_1885 : cd_L[1885]? = (some (some (.goto 0, 1888, 2138, 0, 0, .null)) : Option (Option zE)) := zlch (a := cdS_18_8) (luk_18_8 5) zg5
theorem lq_1888 : cd_L[1888]? = (some (some (.aload 1, 1889, 1, 0, 0, .null)) : Option (Option zE)) := zlch (a := cdS_18_8) (luk_18_8 8) zg8
theorem lq_1889 : cd_L[1889]? = (some (some (.aload 0, 1890, 0, 0, 0, .null)) : Option (Option zE)) := zlch (a := cdS_18_8) (luk_18_8 9) zg9
theorem lq_1890 : cd_L[1890]? = (some (some (.iload 3, 1891, 3, 0, 0, .null)) : Option (Option zE)) := zlch (a := cdS_18_9) (luk_18_9 0) zg0
theorem lq_1891 : cd_L[1891]? = (some (some (.aconst_null, 1892, 0, 0, 0, .int 1)) : Option (Option zE)) := zlch (a := cdS_18_9) (luk_18_9 1) zg1
theorem lq_1892 : cd_L[1892]? = (some (some (.iadd, 1893, 0, 0, 0, .null)) : Option (Option zE)) := zlch (a := cdS_18_9) (luk_18_9 2) zg2
theorem lq_1893 : cd_L[1893]? = (some (some (.saload, 1894, 0, 0, 0, .null)) : Option (Option zE)) := zlch (a := cdS_18_9) (luk_18_9 3) zg3
theorem lq_1894 : cd_L[1894]? = (some (some (.aload 0, 1895, 0, 0, 0, .null)) : Option (Option zE)) := zlch (a := cdS_18_9) (luk_18_9 4) zg4
theorem lq_1895 : cd_L[1895]? = (some (some (.iload 3, 1896, 3, 0, 0, .null)) : Option (Option zE)) := zlch (a := cdS_18_9) (luk_18_9 5) zg5
theorem lq_1896 : cd_L[1896]? = (some (some (.aconst_null, 1897, 0, 0, 0, .int 2)) : Option (Option zE)) := zlch (a := cdS_18_9) (luk_18_9 6) zg6
theorem lq_1897 : cd_L[1897]? = (some (some (.iadd, 1898, 0, 0, 0, .null)) : Option (Option zE)) := zlch (a := cdS_18_9) (luk_18_9 7) zg7
theorem lq_1898 : cd_L[1898]? = (some (some (.saload, 1899, 0, 0, 0, .null)) : Option (Option zE)) := zlch (a := cdS_18_9) (luk_18_9 8) zg8
theorem lq_1899 : cd_L[1899]? = (some (some (.invokevirtual 0, 1902, 150, 2, 11, .null)) : Option (Option zE)) := zlch (a := cdS_18_9) (luk_18_9 9) zg9
theorem lq_1902 : cd_L[1902]? = (some (some (.aload 2, 1903, 2, 0, 0, .null)) : Option (Option zE)) := zlch (a := cdS_19_0) (luk_19_0 2) zg2
theorem lq_1903 : cd_L[1903]? = (some (some (.aload 0, 1904, 0, 0, 0, .null)) : Option (Option zE)) := zlch (a := cdS_19_0) (luk_19_0 3) zg3
theorem lq_1904 : cd_L[1904]? = (some (some (.iload 3, 1905, 3, 0, 0, .null)) : Option (Option zE)) := zlch (a := cdS_19_0) (luk_19_0 4) zg4
theorem lq_1905 : cd_L[1905]? = (some (some (.aconst_null, 1906, 0, 0, 0, .int 1)) : Option (Option zE)) := zlch (a := cdS_19_0) (luk_19_0 5) zg5
theorem lq_1906 : cd_L[1906]? = (some (some (.iadd, 1907, 0, 0, 0, .null)) : Option (Option zE)) := zlch (a := cdS_19_0) (luk_19_0 6) zg6
theorem lq_1907 : cd_L[1907]? = (some (some (.saload, 1908, 0, 0, 0, .null)) : Option (Option zE)) := zlch (a := cdS_19_0) (luk_19_0 7) zg7
theorem lq_1908 : cd_L[1908]? = (some (some (.aload 0, 1909, 0, 0, 0, .null)) : Option (Option zE)) := zlch (a := cdS_19_0) (luk_19_0 8) zg8
theorem lq_1909 : cd_L[1909]? = (some (some (.iload 3, 1910, 3, 0, 0, .null)) : Option (Option zE)) := zlch (a := cdS_19_0) (luk_19_0 9) zg9
theorem lq_1910 : cd_L[1910]? = (some (some (.aconst_null, 1911, 0, 0, 0, .int 2)) : Option (Option zE)) := zlch (a := cdS_19_1) (luk_19_1 0) zg0
theorem lq_1911 : cd_L[1911]? = (some (some (.iadd, 1912, 0, 0, 0, .null)) : Option (Option zE)) := zlch (a := cdS_19_1) (luk_19_1 1) zg1
theorem lq_1912 : cd_L[1912]? = (some (some (.saload, 1913, 0, 0, 0, .null)) : Option (Option zE)) := zlch (a := cdS_19_1) (luk_19_1 2) zg2
theorem lq_1913 : cd_L[1913]? = (some (some (.invokevirtual 0, 1916, 272, 2, 12, .null)) : Option (Option zE)) := zlch (a := cdS_19_1) (luk_19_1 3) zg3
theorem lq_1916 : cd_L[1916]? = (some (some (.if_icmp .eq 0, 1919, 2138, 0, 0, .null)) : Option (Option zE)) := zlch (a := cdS_19_1) (luk_19_1 6) zg6
theorem lq_1921 : cd_L[1921]? = (some (some (.aload 1, 1922, 1, 0, 0, .null)) : Option (Option zE)) := zlch (a := cdS_19_2) (luk_19_2 1) zg1
theorem lq_1922 : cd_L[1922]? = (some (some (.aload 0, 1923, 0, 0, 0, .null)) : Option (Option zE)) := zlch (a := cdS_19_2) (luk_19_2 2) zg2
theorem lq_1923 : cd_L[1923]? = (some (some (.iload 3, 1924, 3, 0, 0, .null)) : Option (Option zE)) := zlch (a := cdS_19_2) (luk_19_2 3) zg3
theorem lq_1924 : cd_L[1924]? = (some (some (.aconst_null, 1925, 0, 0, 0, .int 1)) : Option (Option zE)) := zlch (a := cdS_19_2) (luk_19_2 4) zg4
theorem lq_1925 : cd_L[1925]? = (some (some (.iadd, 1926, 0, 0, 0, .null)) : Option (Option zE)) := zlch (a := cdS_19_2) (luk_19_2 5) zg5
theorem lq_1926 : cd_L[1926]? = (some (some (.saload, 1927, 0, 0, 0, .null)) : Option (Option zE)) := zlch (a := cdS_19_2) (luk_19_2 6) zg6
theorem lq_1927 : cd_L[1927]? = (some (some (.aload 0, 1928, 0, 0, 0, .null)) : Option (Option zE)) := zlch (a := cdS_19_2) (luk_19_2 7) zg7
theorem lq_1928 : cd_L[1928]? = (some (some (.iload 3, 1929, 3, 0, 0, .null)) : Option (Option zE)) := zlch (a := cdS_19_2) (luk_19_2 8) zg8
theorem lq_1929 : cd_L[1929]? = (some (some (.aconst_null, 1930, 0, 0, 0, .int 2)) : Option (Option zE)) := zlch (a := cdS_19_2) (luk_19_2 9) zg9
theorem lq_1930 : cd_L[1930]? = (some (some (.iadd, 1931, 0, 0, 0, .null)) : Option (Option zE)) := zlch (a := cdS_19_3) (luk_19_3 0) zg0
theorem lq_1931 : cd_L[1931]? = (some (some (.saload, 1932, 0, 0, 0, .null)) : Option (Option zE)) := zlch (a := cdS_19_3) (luk_19_3 1) zg1
theorem lq_1932 : cd_L[1932]? = (some (some (.ifCond .eq 0, 1935, 1939, 0, 0, .null)) : Option (Option zE)) := zlch (a := cdS_19_3) (luk_19_3 2) zg2
theorem lq_1935 : cd_L[1935]? = (some (some (.aconst_null, 1936, 0, 0, 0, .int 1)) : Option (Option zE)) := zlch (a := cdS_19_3) (luk_19_3 5) zg5
theorem lq_1936 : cd_L[1936]? = (some (some (.goto 0, 1939, 1940, 0, 0, .null)) : Option (Option zE)) := zlch (a := cdS_19_3) (luk_19_3 6) zg6
theorem lq_1939 : cd_L[1939]? = (some (some (.aconst_null, 1940, 0, 0, 0, .int 0)) : Option (Option zE)) := zlch (a := cdS_19_3) (luk_19_3 9) zg9
theorem lq_1940 : cd_L[1940]? = (some (some (.invokevirtual 0, 1943, 151, 2, 11, .null)) : Option (Option zE)) := zlch (a := cdS_19_4) (luk_19_4 0) zg0
theorem lq_1943 : cd_L[1943]? = (some (some (.pop, 1944, 0, 0, 0, .null)) : Option (Option zE)) := zlch (a := cdS_19_4) (luk_19_4 3) zg3
theorem lq_1944 : cd_L[1944]? = (some (some (.aload 2, 1945, 2, 0, 0, .null)) : Option (Option zE)) := zlch (a := cdS_19_4) (luk_19_4 4) zg4
theorem lq_1945 : cd_L[1945]? = (some (some (.aload 0, 1946, 0, 0, 0, .null)) : Option (Option zE)) := zlch (a := cdS_19_4) (luk_19_4 5) zg5
theorem lq_1946 : cd_L[1946]? = (some (some (.iload 3, 1947, 3, 0, 0, .null)) : Option (Option zE)) := zlch (a := cdS_19_4) (luk_19_4 6) zg6
theorem lq_1947 : cd_L[1947]? = (some (some (.aconst_null, 1948, 0, 0, 0, .int 1)) : Option (Option zE)) := zlch (a := cdS_19_4) (luk_19_4 7) zg7
theorem lq_1948 : cd_L[1948]? = (some (some (.iadd, 1949, 0, 0, 0, .null)) : Option (Option zE)) := zlch (a := cdS_19_4) (luk_19_4 8) zg8
theorem lq_1949 : cd_L[1949]? = (some (some (.saload, 1950, 0, 0, 0, .null)) : Option (Option zE)) := zlch (a := cdS_19_4) (luk_19_4 9) zg9
theorem lq_1950 : cd_L[1950]? = (some (some (.aload 0, 1951, 0, 0, 0, .null)) : Option (Option zE)) := zlch (a := cdS_19_5) (luk_19_5 0) zg0
theorem lq_1951 : cd_L[1951]? = (some (some (.iload 3, 1952, 3, 0, 0, .null)) : Option (Option zE)) := zlch (a := cdS_19_5) (luk_19_5 1) zg1
theorem lq_1952 : cd_L[1952]? = (some (some (.aconst_null, 1953, 0, 0, 0, .int 2)) : Option (Option zE)) := zlch (a := cdS_19_5) (luk_19_5 2) zg2
theorem lq_1953 : cd_L[1953]? = (some (some (.iadd, 1954, 0, 0, 0, .null)) : Option (Option zE)) := zlch (a := cdS_19_5) (luk_19_5 3) zg3
theorem lq_1954 : cd_L[1954]? = (some (some (.saload, 1955, 0, 0, 0, .null)) : Option (Option zE)) := zlch (a := cdS_19_5) (luk_19_5 4) zg4
theorem lq_1955 : cd_L[1955]? = (some (some (.ifCond .eq 0, 1958, 1962, 0, 0, .null)) : Option (Option zE)) := zlch (a := cdS_19_5) (luk_19_5 5) zg5
theorem lq_1958 : cd_L[1958]? = (some (some (.aconst_null, 1959, 0, 0, 0, .int 1)) : Option (Option zE)) := zlch (a := cdS_19_5) (luk_19_5 8) zg8
theorem lq_1959 : cd_L[1959]? = (some (some (.goto 0, 1962, 1963, 0, 0, .null)) : Option (Option zE)) := zlch (a := cdS_19_5) (luk_19_5 9) zg9
theorem lq_1962 : cd_L[1962]? = (some (some (.aconst_null, 1963, 0, 0, 0, .int 0)) : Option (Option zE)) := zlch (a := cdS_19_6) (luk_19_6 2) zg2
theorem lq_1963 : cd_L[1963]? = (some (some (.invokevirtual 0, 1966, 273, 2, 12, .null)) : Option (Option zE)) := zlch (a := cdS_19_6) (luk_19_6 3) zg3
theorem lq_1966 : cd_L[1966]? = (some (some (.pop, 1967, 0, 0, 0, .null)) : Option (Option zE)) := zlch (a := cdS_19_6) (luk_19_6 6) zg6
theorem lq_1967 : cd_L[1967]? = (some (some (.goto 0, 1970, 2138, 0, 0, .null)) : Option (Option zE)) := zlch (a := cdS_19_6) (luk_19_6 7) zg7
theorem lq_1970 : cd_L[1970]? = (some (some (.aload 1, 1971, 1, 0, 0, .null)) : Option (Option zE)) := zlch (a := cdS_19_7) (luk_19_7 0) zg0
theorem lq_1971 : cd_L[1971]? = (some (some (.aload 0, 1972, 0, 0, 0, .null)) : Option (Option zE)) := zlch (a := cdS_19_7) (luk_19_7 1) zg1
theorem lq_1972 : cd_L[1972]? = (some (some (.iload 3, 1973, 3, 0, 0, .null)) : Option (Option zE)) := zlch (a := cdS_19_7) (luk_19_7 2) zg2
theorem lq_1973 : cd_L[1973]? = (some (some (.aconst_null, 1974, 0, 0, 0, .int 1)) : Option (Option zE)) := zlch (a := cdS_19_7) (luk_19_7 3) zg3
theorem lq_1974 : cd_L[1974]? = (some (some (.iadd, 1975, 0, 0, 0, .null)) : Option (Option zE)) := zlch (a := cdS_19_7) (luk_19_7 4) zg4
theorem lq_1975 : cd_L[1975]? = (some (some (.saload, 1976, 0, 0, 0, .null)) : Option (Option zE)) := zlch (a := cdS_19_7) (luk_19_7 5) zg5
theorem lq_1976 : cd_L[1976]? = (some (some (.invokevirtual 0, 1979, 152, 1, 11, .null)) : Option (Option zE)) := zlch (a := cdS_19_7) (luk_19_7 6) zg6
theorem lq_1979 : cd_L[1979]? = (some (some (.drem, 1980, 0, 0, 0, .null)) : Option (Option zE)) := zlch (a := cdS_19_7) (luk_19_7 9) zg9
theorem lq_1980 : cd_L[1980]? = (some (some (.aload 2, 1981, 2, 0, 0, .null)) : Option (Option zE)) := zlch (a := cdS_19_8) (luk_19_8 0) zg0
theorem lq_1981 : cd_L[1981]? = (some (some (.aload 0, 1982, 0, 0, 0, .null)) : Option (Option zE)) := zlch (a := cdS_19_8) (luk_19_8 1) zg1
theorem lq_1982 : cd_L[1982]? = (some (some (.iload 3, 1983, 3, 0, 0, .null)) : Option (Option zE)) := zlch (a := cdS_19_8) (luk_19_8 2) zg2
theorem lq_1983 : cd_L[1983]? = (some (some (.aconst_null, 1984, 0, 0, 0, .int 1)) : Option (Option zE)) := zlch (a := cdS_19_8) (luk_19_8 3) zg3
theorem lq_1984 : cd_L[1984]? = (some (some (.iadd, 1985, 0, 0, 0, .null)) : Option (Option zE)) := zlch (a := cdS_19_8) (luk_19_8 4) zg4
theorem lq_1985 : cd_L[1985]? = (some (some (.saload, 1986, 0, 0, 0, .null)) : Option (Option zE)) := zlch (a := cdS_19_8) (luk_19_8 5) zg5
theorem lq_1986 : cd_L[1986]? = (some (some (.invokevirtual 0, 1989, 274, 1, 12, .null)) : Option (Option zE)) := zlch (a := cdS_19_8) (luk_19_8 6) zg6
theorem lq_1989 : cd_L[1989]? = (some (some (.drem, 1990, 0, 0, 0, .null)) : Option (Option zE)) := zlch (a := cdS_19_8) (luk_19_8 9) zg9
theorem lq_1990 : cd_L[1990]? = (some (some (.goto 0, 1993, 2138, 0, 0, .null)) : Option (Option zE)) := zlch (a := cdS_19_9) (luk_19_9 0) zg0
theorem lq_1993 : cd_L[1993]? = (some (some (.aload 1, 1994, 1, 0, 0, .null)) : Option (Option zE)) := zlch (a := cdS_19_9) (luk_19_9 3) zg3
theorem lq_1994 : cd_L[1994]? = (some (some (.aload 0, 1995, 0, 0, 0, .null)) : Option (Option zE)) := zlch (a := cdS_19_9) (luk_19_9 4) zg4
theorem lq_1995 : cd_L[1995]? = (some (some (.iload 3, 1996, 3, 0, 0, .null)) : Option (Option zE)) := zlch (a := cdS_19_9) (luk_19_9 5) zg5
theorem lq_1996 : cd_L[1996]? = (some (some (.aconst_null, 1997, 0, 0, 0, .int 1)) : Option (Option zE)) := zlch (a := cdS_19_9) (luk_19_9 6) zg6
theorem lq_1997 : cd_L[1997]? = (some (some (.iadd, 1998, 0, 0, 0, .null)) : Option (Option zE)) := zlch (a := cdS_19_9) (luk_19_9 7) zg7
theorem lq_1998 : cd_L[1998]? = (some (some (.saload, 1999, 0, 0, 0, .null)) : Option (Option zE)) := zlch (a := cdS_19_9) (luk_19_9 8) zg8
theorem lq_1999 : cd_L[1999]? = (some (some (.aload 0, 2000, 0, 0, 0, .null)) : Option (Option zE)) := zlch (a := cdS_19_9) (luk_19_9 9) zg9
theorem lq_2000 : cd_L[2000]? = (some (some (.iload 3, 2001, 3, 0, 0, .null)) : Option (Option zE)) := zlch (a := cdS_20_0) (luk_20_0 0) zg0
theorem lq_2001 : cd_L[2001]? = (some (some (.aconst_null, 2002, 0, 0, 0, .int 2)) : Option (Option zE)) := zlch (a := cdS_20_0) (luk_20_0 1) zg1
theorem lq_2002 : cd_L[2002]? = (some (some (.iadd, 2003, 0, 0, 0, .null)) : Option (Option zE)) := zlch (a := cdS_20_0) (luk_20_0 2) zg2
theorem lq_2003 : cd_L[2003]? = (some (some (.saload, 2004, 0, 0, 0, .null)) : Option (Option zE)) := zlch (a := cdS_20_0) (luk_20_0 3) zg3
theorem lq_2004 : cd_L[2004]? = (some (some (.invokevirtual 0, 2007, 153, 2, 11, .null)) : Option (Option zE)) := zlch (a := cdS_20_0) (luk_20_0 4) zg4
theorem lq_2007 : cd_L[2007]? = (some (some (.pop, 2008, 0, 0, 0, .null)) : Option (Option zE)) := zlch (a := cdS_20_0) (luk_20_0 7) zg7
theorem lq_2008 : cd_L[2008]? = (some (some (.aload 2, 2009, 2, 0, 0, .null)) : Option (Option zE)) := zlch (a := cdS_20_0) (luk_20_0 8) zg8
theorem lq_2009 : cd_L[2009]? = (some (some (.aload 0, 2010, 0, 0, 0, .null)) : Option (Option zE)) := zlch (a := cdS_20_0) (luk_20_0 9) zg9
theorem lq_2010 : cd_L[2010]? = (some (some (.iload 3, 2011, 3, 0, 0, .null)) : Option (Option zE)) := zlch (a := cdS_20_1) (luk_20_1 0) zg0
theorem lq_2011 : cd_L[2011]? = (some (some (.aconst_null, 2012, 0, 0, 0, .int 1)) : Option (Option zE)) := zlch (a := cdS_20_1) (luk_20_1 1) zg1
theorem lq_2012 : cd_L[2012]? = (some (some (.iadd, 2013, 0, 0, 0, .null)) : Option (Option zE)) := zlch (a := cdS_20_1) (luk_20_1 2) zg2
theorem lq_2013 : cd_L[2013]? = (some (some (.saload, 2014, 0, 0, 0, .null)) : Option (Option zE)) := zlch (a := cdS_20_1) (luk_20_1 3) zg3
theorem lq_2014 : cd_L[2014]? = (some (some (.aload 0, 2015, 0, 0, 0, .null)) : Option (Option zE)) := zlch (a := cdS_20_1) (luk_20_1 4) zg4
theorem lq_2015 : cd_L[2015]? = (some (some (.iload 3, 2016, 3, 0, 0, .null)) : Option (Option zE)) := zlch (a := cdS_20_1) (luk_20_1 5) zg5
theorem lq_2016 : cd_L[2016]? = (some (some (.aconst_null, 2017, 0, 0, 0, .int 2)) : Option (Option zE)) := zlch (a := cdS_20_1) (luk_20_1 6) zg6
theorem lq_2017 : cd_L[2017]? = (some (some (.iadd, 2018, 0, 0, 0, .null)) : Option (Option zE)) := zlch (a := cdS_20_1) (luk_20_1 7) zg7
theorem lq_2018 : cd_L[2018]? = (some (some (.saload, 2019, 0, 0, 0, .null)) : Option (Option zE)) := zlch (a := cdS_20_1) (luk_20_1 8) zg8
theorem lq_2019 : cd_L[2019]? = (some (some (.invokevirtual 0, 2022, 275, 2, 12, .null)) : Option (Option zE)) := zlch (a := cdS_20_1) (luk_20_1 9) zg9
theorem lq_2022 : cd_L[2022]? = (some (some (.pop, 2023, 0, 0, 0, .null)) : Option (Option zE)) := zlch (a := cdS_20_2) (luk_20_2 2) zg2
theorem lq_2023 : cd_L[2023]? = (some (some (.goto 0, 2026, 2138, 0, 0, .null)) : Option (Option zE)) := zlch (a := cdS_20_2) (luk_20_2 3) zg3
theorem lq_2026 : cd_L[2026]? = (some (some (.aload 1, 2027, 1, 0, 0, .null)) : Option (Option zE)) := zlch (a := cdS_20_2) (luk_20_2 6) zg6
theorem lq_2027 : cd_L[2027]? = (some (some (.aload 0, 2028, 0, 0, 0, .null)) : Option (Option zE)) := zlch (a := cdS_20_2) (luk_20_2 7) zg7
theorem lq_2028 : cd_L[2028]? = (some (some (.iload 3, 2029, 3, 0, 0, .null)) : Option (Option zE)) := zlch (a := cdS_20_2) (luk_20_2 8) zg8
theorem lq_2029 : cd_L[2029]? = (some (some (.aconst_null, 2030, 0, 0, 0, .int 1)) : Option (Option zE)) := zlch (a := cdS_20_2) (luk_20_2 9) zg9
theorem lq_2030 : cd_L[2030]? = (some (some (.iadd, 2031, 0, 0, 0, .null)) : Option (Option zE)) := zlch (a := cdS_20_3) (luk_20_3 0) zg0
theorem lq_2031 : cd_L[2031]? = (some (some (.saload, 2032, 0, 0, 0, .null)) : Option (Option zE)) := zlch (a := cdS_20_3) (luk_20_3 1) zg1
theorem lq_2032 : cd_L[2032]? = (some (some (.aload 0, 2033, 0, 0, 0, .null)) : Option (Option zE)) := zlch (a := cdS_20_3) (luk_20_3 2) zg2
theorem lq_2033 : cd_L[2033]? = (some (some (.iload 3, 2034, 3, 0, 0, .null)) : Option (Option zE)) := zlch (a := cdS_20_3) (luk_20_3 3) zg3
theorem lq_2034 : cd_L[2034]? = (some (some (.aconst_null, 2035, 0, 0, 0, .int 2)) : Option (Option zE)) := zlch (a := cdS_20_3) (luk_20_3 4) zg4
theorem lq_2035 : cd_L[2035]? = (some (some (.iadd, 2036, 0, 0, 0, .null)) : Option (Option zE)) := zlch (a := cdS_20_3) (luk_20_3 5) zg5
theorem lq_2036 : cd_L[2036]? = (some (some (.saload, 2037, 0, 0, 0, .null)) : Option (Option zE)) := zlch (a := cdS_20_3) (luk_20_3 6) zg6
theorem lq_2037 : cd_L[2037]? = (some (some (.aload 0, 2038, 0, 0, 0, .null)) : Option (Option zE)) := zlch (a := cdS_20_3) (luk_20_3 7) zg7
theorem lq_2038 : cd_L[2038]? = (some (some (.iload 3, 2039, 3, 0, 0, .null)) : Option (Option zE)) := zlch (a := cdS_20_3) (luk_20_3 8) zg8
theorem lq_2039 : cd_L[2039]? = (some (some (.aconst_null, 2040, 0, 0, 0, .int 3)) : Option (Option zE)) := zlch (a := cdS_20_3) (luk_20_3 9) zg9
theorem lq_2040 : cd_L[2040]? = (some (some (.iadd, 2041, 0, 0, 0, .null)) : Option (Option zE)) := zlch (a := cdS_20_4) (luk_20_4 0) zg0
theorem lq_2041 : cd_L[2041]? = (some (some (.saload, 2042, 0, 0, 0, .null)) : Option (Option zE)) := zlch (a := cdS_20_4) (luk_20_4 1) zg1
theorem lq_2042 : cd_L[2042]? = (some (some (.invokevirtual 0, 2045, 154, 3, 11, .null)) : Option (Option zE)) := zlch (a := cdS_20_4) (luk_20_4 2) zg2
theorem lq_2045 : cd_L[2045]? = (some (some (.pop, 2046, 0, 0, 0, .null)) : Option (Option zE)) := zlch (a := cdS_20_4) (luk_20_4 5) zg5
theorem lq_2046 : cd_L[2046]? = (some (some (.aload 2, 2047, 2, 0, 0, .null)) : Option (Option zE)) := zlch (a := cdS_20_4) (luk_20_4 6) zg6
theorem lq_2047 : cd_L[2047]? = (some (some (.aload 0, 2048, 0, 0, 0, .null)) : Option (Option zE)) := zlch (a := cdS_20_4) (luk_20_4 7) zg7
theorem lq_2048 : cd_L[2048]? = (some (some (.iload 3, 2049, 3, 0, 0, .null)) : Option (Option zE)) := zlch (a := cdS_20_4) (luk_20_4 8) zg8
theorem lq_2049 : cd_L[2049]? = (some (some (.aconst_null, 2050, 0, 0, 0, .int 1)) : Option (Option zE)) := zlch (a := cdS_20_4) (luk_20_4 9) zg9
theorem lq_2050 : cd_L[2050]? = (some (some (.iadd, 2051, 0, 0, 0, .null)) : Option (Option zE)) := zlch (a := cdS_20_5) (luk_20_5 0) zg0
theorem lq_2051 : cd_L[2051]? = (some (some (.saload, 2052, 0, 0, 0, .null)) : Option (Option zE)) := zlch (a := cdS_20_5) (luk_20_5 1) zg1
theorem lq_2052 : cd_L[2052]? = (some (some (.aload 0, 2053, 0, 0, 0, .null)) : Option (Option zE)) := zlch (a := cdS_20_5) (luk_20_5 2) zg2
theorem lq_2053 : cd_L[2053]? = (some (some (.iload 3, 2054, 3, 0, 0, .null)) : Option (Option zE)) := zlch (a := cdS_20_5) (luk_20_5 3) zg3
theorem lq_2054 : cd_L[2054]? = (some (some (.aconst_null, 2055, 0, 0, 0, .int 2)) : Option (Option zE)) := zlch (a := cdS_20_5) (luk_20_5 4) zg4
theorem lq_2055 : cd_L[2055]? = (some (some (.iadd, 2056, 0, 0, 0, .null)) : Option (Option zE)) := zlch (a := cdS_20_5) (luk_20_5 5) zg5
theorem lq_2056 : cd_L[2056]? = (some (some (.saload, 2057, 0, 0, 0, .null)) : Option (Option zE)) := zlch (a := cdS_20_5) (luk_20_5 6) zg6
theorem lq_2057 : cd_L[2057]? = (some (some (.aload 0, 2058, 0, 0, 0, .null)) : Option (Option zE)) := zlch (a := cdS_20_5) (luk_20_5 7) zg7
theorem lq_2058 : cd_L[2058]? = (some (some (.iload 3, 2059, 3, 0, 0, .null)) : Option (Option zE)) := zlch (a := cdS_20_5) (luk_20_5 8) zg8
theorem lq_2059 : cd_L[2059]? = (some (some (.aconst_null, 2060, 0, 0, 0, .int 3)) : Option (Option zE)) := zlch (a := cdS_20_5) (luk_20_5 9) zg9
theorem lq_2060 : cd_L[2060]? = (some (some (.iadd, 2061, 0, 0, 0, .null)) : Option (Option zE)) := zlch (a := cdS_20_6) (luk_20_6 0) zg0
theorem lq_2061 : cd_L[2061]? = (some (some (.saload, 2062, 0, 0, 0, .null)) : Option (Option zE)) := zlch (a := cdS_20_6) (luk_20_6 1) zg1
theorem lq_2062 : cd_L[2062]? = (some (some (.invokevirtual 0, 2065, 276, 3, 12, .null)) : Option (Option zE)) := zlch (a := cdS_20_6) (luk_20_6 2) zg2
theorem lq_2065 : cd_L[2065]? = (some (some (.pop, 2066, 0, 0, 0, .null)) : Option (Option zE)) := zlch (a := cdS_20_6) (luk_20_6 5) zg5
theorem lq_2066 : cd_L[2066]? = (some (some (.goto 0, 2069, 2138, 0, 0, .null)) : Option (Option zE)) := zlch (a := cdS_20_6) (luk_20_6 6) zg6
theorem lq_2069 : cd_L[2069]? = (some (some (.aload 1, 2070, 1, 0, 0, .null)) : Option (Option zE)) := zlch (a := cdS_20_6) (luk_20_6 9) zg9
theorem lq_2070 : cd_L[2070]? = (some (some (.aload 0, 2071, 0, 0, 0, .null)) : Option (Option zE)) := zlch (a := cdS_20_7) (luk_20_7 0) zg0
theorem lq_2071 : cd_L[2071]? = (some (some (.iload 3, 2072, 3, 0, 0, .null)) : Option (Option zE)) := zlch (a := cdS_20_7) (luk_20_7 1) zg1
theorem lq_2072 : cd_L[2072]? = (some (some (.aconst_null, 2073, 0, 0, 0, .int 1)) : Option (Option zE)) := zlch (a := cdS_20_7) (luk_20_7 2) zg2
theorem lq_2073 : cd_L[2073]? = (some (some (.iadd, 2074, 0, 0, 0, .null)) : Option (Option zE)) := zlch (a := cdS_20_7) (luk_20_7 3) zg3
theorem lq_2074 : cd_L[2074]? = (some (some (.saload, 2075, 0, 0, 0, .null)) : Option (Option zE)) := zlch (a := cdS_20_7) (luk_20_7 4) zg4
theorem lq_2075 : cd_L[2075]? = (some (some (.invokevirtual 0, 2078, 155, 1, 11, .null)) : Option (Option zE)) := zlch (a := cdS_20_7) (luk_20_7 5) zg5
theorem lq_2078 : cd_L[2078]? = (some (some (.pop, 2079, 0, 0, 0, .null)) : Option (Option zE)) := zlch (a := cdS_20_7) (luk_20_7 8) zg8
theorem lq_2079 : cd_L[2079]? = (some (some (.aload 2, 2080, 2, 0, 0, .null)) : Option (Option zE)) := zlch (a := cdS_20_7) (luk_20_7 9) zg9
theorem lq_2080 : cd_L[2080]? = (some (some (.aload 0, 2081, 0, 0, 0, .null)) : Option (Option zE)) := zlch (a := cdS_20_8) (luk_20_8 0) zg0
theorem lq_2081 : cd_L[2081]? = (some (some (.iload 3, 2082, 3, 0, 0, .null)) : Option (Option zE)) := zlch (a := cdS_20_8) (luk_20_8 1) zg1
theorem lq_2082 : cd_L[2082]? = (some (some (.aconst_null, 2083, 0, 0, 0, .int 1)) : Option (Option zE)) := zlch (a := cdS_20_8) (luk_20_8 2) zg2
theorem lq_2083 : cd_L[2083]? = (some (some (.iadd, 2084, 0, 0, 0, .null)) : Option (Option zE)) := zlch (a := cdS_20_8) (luk_20_8 3) zg3
theorem lq_2084 : cd_L[2084]? = (some (some (.saload, 2085, 0, 0, 0, .null)) : Option (Option zE)) := zlch (a := cdS_20_8) (luk_20_8 4) zg4
theorem lq_2085 : cd_L[2085]? = (some (some (.invokevirtual 0, 2088, 277, 1, 12, .null)) : Option (Option zE)) := zlch (a := cdS_20_8) (luk_20_8 5) zg5
theorem lq_2088 : cd_L[2088]? = (some (some (.pop, 2089, 0, 0, 0, .null)) : Option (Option zE)) := zlch (a := cdS_20_8) (luk_20_8 8) zg8
theorem lq_2089 : cd_L[2089]? = (some (some (.goto 0, 2092, 2138, 0, 0, .null)) : Option (Option zE)) := zlch (a := cdS_20_8) (luk_20_8 9) zg9
theorem lq_2092 : cd_L[2092]? = (some (some (.aload 1, 2093, 1, 0, 0, .null)) : Option (Option zE)) := zlch (a := cdS_20_9) (luk_20_9 2) zg2
theorem lq_2093 : cd_L[2093]? = (some (some (.aload 0, 2094, 0, 0, 0, .null)) : Option (Option zE)) := zlch (a := cdS_20_9) (luk_20_9 3) zg3
theorem lq_2094 : cd_L[2094]? = (some (some (.iload 3, 2095, 3, 0, 0, .null)) : Option (Option zE)) := zlch (a := cdS_20_9) (luk_20_9 4) zg4
theorem lq_2095 : cd_L[2095]? = (some (some (.aconst_null, 2096, 0, 0, 0, .int 1)) : Option (Option zE)) := zlch (a := cdS_20_9) (luk_20_9 5) zg5
theorem lq_2096 : cd_L[2096]? = (some (some (.iadd, 2097, 0, 0, 0, .null)) : Option (Option zE)) := zlch (a := cdS_20_9) (luk_20_9 6) zg6
theorem lq_2097 : cd_L[2097]? = (some (some (.saload, 2098, 0, 0, 0, .null)) : Option (Option zE)) := zlch (a := cdS_20_9) (luk_20_9 7) zg7
theorem lq_2098 : cd_L[2098]? = (some (some (.invokevirtual 0, 2101, 156, 1, 11, .null)) : Option (Option zE)) := zlch (a := cdS_20_9) (luk_20_9 8) zg8
theorem lq_2101 : cd_L[2101]? = (some (some (.pop, 2102, 0, 0, 0, .null)) : Option (Option zE)) := zlch (a := cdS_21_0) (luk_21_0 1) zg1
theorem lq_2102 : cd_L[2102]? = (some (some (.aload 2, 2103, 2, 0, 0, .null)) : Option (Option zE)) := zlch (a := cdS_21_0) (luk_21_0 2) zg2
theorem lq_2103 : cd_L[2103]? = (some (some (.aload 0, 2104, 0, 0, 0, .null)) : Option (Option zE)) := zlch (a := cdS_21_0) (luk_21_0 3) zg3
theorem lq_2104 : cd_L[2104]? = (some (some (.iload 3, 2105, 3, 0, 0, .null)) : Option (Option zE)) := zlch (a := cdS_21_0) (luk_21_0 4) zg4
theorem lq_2105 : cd_L[2105]? = (some (some (.aconst_null, 2106, 0, 0, 0, .int 1)) : Option (Option zE)) := zlch (a := cdS_21_0) (luk_21_0 5) zg5
theorem lq_2106 : cd_L[2106]? = (some (some (.iadd, 2107, 0, 0, 0, .null)) : Option (Option zE)) := zlch (a := cdS_21_0) (luk_21_0 6) zg6
theorem lq_2107 : cd_L[2107]? = (some (some (.saload, 2108, 0, 0, 0, .null)) : Option (Option zE)) := zlch (a := cdS_21_0) (luk_21_0 7) zg7
theorem lq_2108 : cd_L[2108]? = (some (some (.invokevirtual 0, 2111, 278, 1, 12, .null)) : Option (Option zE)) := zlch (a := cdS_21_0) (luk_21_0 8) zg8
theorem lq_2111 : cd_L[2111]? = (some (some (.pop, 2112, 0, 0, 0, .null)) : Option (Option zE)) := zlch (a := cdS_21_1) (luk_21_1 1) zg1
theorem lq_2112 : cd_L[2112]? = (some (some (.goto 0, 2115, 2138, 0, 0, .null)) : Option (Option zE)) := zlch (a := cdS_21_1) (luk_21_1 2) zg2
theorem lq_2115 : cd_L[2115]? = (some (some (.aload 1, 2116, 1, 0, 0, .null)) : Option (Option zE)) := zlch (a := cdS_21_1) (luk_21_1 5) zg5
theorem lq_2116 : cd_L[2116]? = (some (some (.aload 0, 2117, 0, 0, 0, .null)) : Option (Option zE)) := zlch (a := cdS_21_1) (luk_21_1 6) zg6
theorem lq_2117 : cd_L[2117]? = (some (some (.iload 3, 2118, 3, 0, 0, .null)) : Option (Option zE)) := zlch (a := cdS_21_1) (luk_21_1 7) zg7
theorem lq_2118 : cd_L[2118]? = (some (some (.aconst_null, 2119, 0, 0, 0, .int 1)) : Option (Option zE)) := zlch (a := cdS_21_1) (luk_21_1 8) zg8
theorem lq_2119 : cd_L[2119]? = (some (some (.iadd, 2120, 0, 0, 0, .null)) : Option (Option zE)) := zlch (a := cdS_21_1) (luk_21_1 9) zg9
theorem lq_2120 : cd_L[2120]? = (some (some (.saload, 2121, 0, 0, 0, .null)) : Option (Option zE)) := zlch (a := cdS_21_2) (luk_21_2 0) zg0
theorem lq_2121 : cd_L[2121]? = (some (some (.invokevirtual 0, 2124, 157, 1, 11, .null)) : Option (Option zE)) := zlch (a := cdS_21_2) (luk_21_2 1) zg1
theorem lq_2124 : cd_L[2124]? = (some (some (.pop, 2125, 0, 0, 0, .null)) : Option (Option zE)) := zlch (a := cdS_21_2) (luk_21_2 4) zg4
theorem lq_2125 : cd_L[2125]? = (some (some (.aload 2, 2126, 2, 0, 0, .null)) : Option (Option zE)) := zlch (a := cdS_21_2) (luk_21_2 5) zg5
theorem lq_2126 : cd_L[2126]? = (some (some (.aload 0, 2127, 0, 0, 0, .null)) : Option (Option zE)) := zlch (a := cdS_21_2) (luk_21_2 6) zg6
theorem lq_2127 : cd_L[2127]? = (some (some (.iload 3, 2128, 3, 0, 0, .null)) : Option (Option zE)) := zlch (a := cdS_21_2) (luk_21_2 7) zg7
theorem lq_2128 : cd_L[2128]? = (some (some (.aconst_null, 2129, 0, 0, 0, .int 1)) : Option (Option zE)) := zlch (a := cdS_21_2) (luk_21_2 8) zg8
theorem lq_2129 : cd_L[2129]? = (some (some (.iadd, 2130, 0, 0, 0, .null)) : Option (Option zE)) := zlch (a := cdS_21_2) (luk_21_2 9) zg9
theorem lq_2130 : cd_L[2130]? = (some (some (.saload, 2131, 0, 0, 0, .null)) : Option (Option zE)) := zlch (a := cdS_21_3) (luk_21_3 0) zg0
theorem lq_2131 : cd_L[2131]? = (some (some (.invokevirtual 0, 2134, 279, 1, 12, .null)) : Option (Option zE)) := zlch (a := cdS_21_3) (luk_21_3 1) zg1
theorem lq_2134 : cd_L[2134]? = (some (some (.pop, 2135, 0, 0, 0, .null)) : Option (Option zE)) := zlch (a := cdS_21_3) (luk_21_3 4) zg4
theorem lq_2135 : cd_L[2135]? = (some (some (.goto 0, 2138, 2138, 0, 0, .null)) : Option (Option zE)) := zlch (a := cdS_21_3) (luk_21_3 5) zg5
theorem lq_2138 : cd_L[2138]? = (some (some (.iinc 3 8, 2141, 3, 0, 0, .int 8)) : Option (Option zE)) := zlch (a := cdS_21_3) (luk_21_3 8) zg8
theorem lq_2141 : cd_L[2141]? = (some (some (.goto 0, 2144, 18, 0, 0, .null)) : Option (Option zE)) := zlch (a := cdS_21_4) (luk_21_4 1) zg1
theorem lq_2144 : cd_L[2144]? = (some (some (.aconst_null, 2145, 0, 0, 0, .int 1)) : Option (Option zE)) := zlch (a := cdS_21_4) (luk_21_4 4) zg4
theorem lq_2145 : cd_L[2145]? = (some (some (.ireturn, 2146, 0, 0, 0, .null)) : Option (Option zE)) := zlch (a := cdS_21_4) (luk_21_4 5) zg5
end
section
theorem law_out {G : zG} {L : zL} {h : zH} {c n : Nat} : zR zTt G cd_L 600000 7302250 (some .boolean) (zW zTt G 64) (fun w _ => w = some (.int 1)) 2144 L [] h c n := by
  refine r_push (zW_mono _ _ _) lq_2144 ?_
  exact r_iret (zW_mono _ _ _) lq_2145 rfl (by decide +kernel) rfl
theorem r_popl {tt : zT} {G : zG} {cd : zK} {bc bs : Nat} {rt : Option FieldType} {M : zM} {ret : zQ} {pc nx a b d : Nat} {L : zL} {s : List Value} {h : zH} {c n : Nat} {v w : Value} (hM : zmono M) (hc : cd[pc]? = some (some (.drem, nx, a, b, d, v))) (hw : w.category = 2) (k : zR tt G cd bc bs rt M ret nx L s h c n) : zR tt G cd bc bs rt M ret pc L (w :: s) h c n := zR.step hM (by unfold zstep; rw [hc]; exact Or.inl ⟨hw, k⟩)
theorem zsx {x : Int32} {N : Nat} (h0 : 0 ≤ x.toInt) (h1 : x.toInt + 8 ≤ N) (hN : N ≤ 4096) (k : Int32) (hk0 : 0 ≤ k.toInt) (hk : k.toInt < 8) : vp_in (x + k) N := by
  have e : (x + k).toInt = x.toInt + k.toInt := by
    rw [Int32.toInt_add]
    exact Int.bmod_eq_of_le (by show (-2147483648 : Int) ≤ _; omega) (by show _ < (2147483648 : Int); omega)
  exact (yvp_in (i := x + k) (by omega) (by omega)).1
theorem zsx0 {x : Int32} {N : Nat} (h0 : 0 ≤ x.toInt) (h1 : x.toInt + 8 ≤ N) : vp_in x N := (yvp_in (i := x) (by omega) (by omega)).1
set_option maxHeartbeats 1000000 in
theorem lawop_clock {G : zG} (hG : G.1 = zProg) (hN : G.2.2.1 ≤ 4096) {P : zH → Prop} {h : zH} {x : Int32} {q : Nat} (hx : x.toInt = 8 * q) (hq : 8 * q + 8 ≤ G.2.2.1) {c n : Nat} (hc : c ≤ 182 + 8 * q) (hn : n ≤ 43931 + 800 * q) (h0 : ∃ fs, h[0]? = some (.inr (11, fs))) (A : ∀ xs, zpB [zfI] xs → zW zTt G 64 110 (.ref 0 :: xs.map Value.int) h (fun w h2 => zTy 0 w ∧ (∃ fs, h2[111]? = some (.inr (12, fs))) ∧ zW zTt G 64 174 (.ref 111 :: xs.map Value.int) h2 (fun w2 h3 => zTy 0 w2 ∧ (false = true → w2 = w) ∧ P h3))) (K : ∀ h3 c n, P h3 → c ≤ 182 + 8 * (q + 1) → n ≤ 43931 + 800 * (q + 1) → zR zTt G cd_L 600000 7302250 (some .boolean) (zW zTt G 64) (fun w _ => w = some (.int 1)) 2138 [some (.retAddr 0), some (.ref 0), some (.ref 111), some (.int x)] [] h3 c n) : zR zTt G cd_L 600000 7302250 (some .boolean) (zW zTt G 64) (fun w _ => w = some (.int 1)) 240 [some (.retAddr 0), some (.ref 0), some (.ref 111), some (.int x)] [] h c n := by
  have hx0 : 0 ≤ x.toInt := by omega
  have hx8 : x.toInt + 8 ≤ G.2.2.1 := by omega
  obtain ⟨fs0, hx_0⟩ := h0
  refine r_aload (zW_mono _ _ _) lq_240 rfl ?_
  refine r_aloadS (zW_mono _ _ _) lq_241 rfl ?_
  refine r_iload (zW_mono _ _ _) lq_242 rfl ?_
  refine r_push (zW_mono _ _ _) lq_243 ?_
  refine r_iadd (zW_mono _ _ _) lq_244 ?_
  refine r_sld (zW_mono _ _ _) lq_245 (zsx hx0 hx8 hN 1 (by decide) (by decide)) ?_
  refine r_virt1 (m1 := 0) (m2 := 0) (zW_mono _ _ _) lq_246 hx_0 (Nat.le_of_ble_eq_true rfl) (by unfold zbud; rw [hG]; rfl) (by omega) (by omega) ?_
  refine zW_mono zTt G 64 _ _ _ _ _ ?_ (A [G.2.2.2 (x + 1).toNatClampNeg] ⟨zfI_ok _, trivial⟩)
  rintro w h2 ⟨⟨x9, rfl⟩, ⟨fs9, hr9⟩, k9⟩
  refine r_pop (zW_mono _ _ _) lq_249 rfl ?_
  refine r_aload (zW_mono _ _ _) lq_250 rfl ?_
  refine r_aloadS (zW_mono _ _ _) lq_251 rfl ?_
  refine r_iload (zW_mono _ _ _) lq_252 rfl ?_
  refine r_push (zW_mono _ _ _) lq_253 ?_
  refine r_iadd (zW_mono _ _ _) lq_254 ?_
  refine r_sld (zW_mono _ _ _) lq_255 (zsx hx0 hx8 hN 1 (by decide) (by decide)) ?_
  refine r_virt1 (m1 := 0) (m2 := 0) (zW_mono _ _ _) lq_256 hr9 (Nat.le_of_ble_eq_true rfl) (by unfold zbud; rw [hG]; rfl) (by omega) (by omega) ?_
  refine zW_mono zTt G 64 _ _ _ _ _ ?_ k9
  rintro w h3 ⟨⟨y9, rfl⟩, e9, p9⟩
  refine r_pop (zW_mono _ _ _) lq_259 rfl ?_
  refine r_goto (zW_mono _ _ _) lq_260 ?_
  exact K h3 _ _ p9 (by omega) (by omega)
set_option maxHeartbeats 1000000 in
theorem lawop_person {G : zG} (hG : G.1 = zProg) (hN : G.2.2.1 ≤ 4096) {P : zH → Prop} {h : zH} {x : Int32} {q : Nat} (hx : x.toInt = 8 * q) (hq : 8 * q + 8 ≤ G.2.2.1) {c n : Nat} (hc : c ≤ 182 + 8 * q) (hn : n ≤ 43931 + 800 * q) (h0 : ∃ fs, h[0]? = some (.inr (11, fs))) (A : ∀ xs, zpB [zfI] xs → zW zTt G 64 111 (.ref 0 :: xs.map Value.int) h (fun w h2 => zTy 0 w ∧ (∃ fs, h2[111]? = some (.inr (12, fs))) ∧ zW zTt G 64 179 (.ref 111 :: xs.map Value.int) h2 (fun w2 h3 => zTy 0 w2 ∧ (false = true → w2 = w) ∧ P h3))) (K : ∀ h3 c n, P h3 → c ≤ 182 + 8 * (q + 1) → n ≤ 43931 + 800 * (q + 1) → zR zTt G cd_L 600000 7302250 (some .boolean) (zW zTt G 64) (fun w _ => w = some (.int 1)) 2138 [some (.retAddr 0), some (.ref 0), some (.ref 111), some (.int x)] [] h3 c n) : zR zTt G cd_L 600000 7302250 (some .boolean) (zW zTt G 64) (fun w _ => w = some (.int 1)) 263 [some (.retAddr 0), some (.ref 0), some (.ref 111), some (.int x)] [] h c n := by
  have hx0 : 0 ≤ x.toInt := by omega
  have hx8 : x.toInt + 8 ≤ G.2.2.1 := by omega
  obtain ⟨fs0, hx_0⟩ := h0
  refine r_aload (zW_mono _ _ _) lq_263 rfl ?_
  refine r_aloadS (zW_mono _ _ _) lq_264 rfl ?_
  refine r_iload (zW_mono _ _ _) lq_265 rfl ?_
  refine r_push (zW_mono _ _ _) lq_266 ?_
  refine r_iadd (zW_mono _ _ _) lq_267 ?_
  refine r_sld (zW_mono _ _ _) lq_268 (zsx hx0 hx8 hN 1 (by decide) (by decide)) ?_
  refine r_virt1 (m1 := 0) (m2 := 0) (zW_mono _ _ _) lq_269 hx_0 (Nat.le_of_ble_eq_true rfl) (by unfold zbud; rw [hG]; rfl) (by omega) (by omega) ?_
  refine zW_mono zTt G 64 _ _ _ _ _ ?_ (A [G.2.2.2 (x + 1).toNatClampNeg] ⟨zfI_ok _, trivial⟩)
  rintro w h2 ⟨⟨x9, rfl⟩, ⟨fs9, hr9⟩, k9⟩
  refine r_pop (zW_mono _ _ _) lq_272 rfl ?_
  refine r_aload (zW_mono _ _ _) lq_273 rfl ?_
  refine r_aloadS (zW_mono _ _ _) lq_274 rfl ?_
  refine r_iload (zW_mono _ _ _) lq_275 rfl ?_
  refine r_push (zW_mono _ _ _) lq_276 ?_
  refine r_iadd (zW_mono _ _ _) lq_277 ?_
  refine r_sld (zW_mono _ _ _) lq_278 (zsx hx0 hx8 hN 1 (by decide) (by decide)) ?_
  refine r_virt1 (m1 := 0) (m2 := 0) (zW_mono _ _ _) lq_279 hr9 (Nat.le_of_ble_eq_true rfl) (by unfold zbud; rw [hG]; rfl) (by omega) (by omega) ?_
  refine zW_mono zTt G 64 _ _ _ _ _ ?_ k9
  rintro w h3 ⟨⟨y9, rfl⟩, e9, p9⟩
  refine r_pop (zW_mono _ _ _) lq_282 rfl ?_
  refine r_goto (zW_mono _ _ _) lq_283 ?_
  exact K h3 _ _ p9 (by omega) (by omega)
set_option maxHeartbeats 1000000 in
theorem lawop_factor {G : zG} (hG : G.1 = zProg) (hN : G.2.2.1 ≤ 4096) {P : zH → Prop} {h : zH} {x : Int32} {q : Nat} (hx : x.toInt = 8 * q) (hq : 8 * q + 8 ≤ G.2.2.1) {c n : Nat} (hc : c ≤ 182 + 8 * q) (hn : n ≤ 43931 + 800 * q) (h0 : ∃ fs, h[0]? = some (.inr (11, fs))) (A : ∀ xs, zpB [zfI, zfI] xs → zW zTt G 64 112 (.ref 0 :: xs.map Value.int) h (fun w h2 => zTy 0 w ∧ (∃ fs, h2[111]? = some (.inr (12, fs))) ∧ zW zTt G 64 180 (.ref 111 :: xs.map Value.int) h2 (fun w2 h3 => zTy 0 w2 ∧ (false = true → w2 = w) ∧ P h3))) (K : ∀ h3 c n, P h3 → c ≤ 182 + 8 * (q + 1) → n ≤ 43931 + 800 * (q + 1) → zR zTt G cd_L 600000 7302250 (some .boolean) (zW zTt G 64) (fun w _ => w = some (.int 1)) 2138 [some (.retAddr 0), some (.ref 0), some (.ref 111), some (.int x)] [] h3 c n) : zR zTt G cd_L 600000 7302250 (some .boolean) (zW zTt G 64) (fun w _ => w = some (.int 1)) 286 [some (.retAddr 0), some (.ref 0), some (.ref 111), some (.int x)] [] h c n := by
  have hx0 : 0 ≤ x.toInt := by omega
  have hx8 : x.toInt + 8 ≤ G.2.2.1 := by omega
  obtain ⟨fs0, hx_0⟩ := h0
  refine r_aload (zW_mono _ _ _) lq_286 rfl ?_
  refine r_aloadS (zW_mono _ _ _) lq_287 rfl ?_
  refine r_iload (zW_mono _ _ _) lq_288 rfl ?_
  refine r_push (zW_mono _ _ _) lq_289 ?_
  refine r_iadd (zW_mono _ _ _) lq_290 ?_
  refine r_sld (zW_mono _ _ _) lq_291 (zsx hx0 hx8 hN 1 (by decide) (by decide)) ?_
  refine r_aloadS (zW_mono _ _ _) lq_292 rfl ?_
  refine r_iload (zW_mono _ _ _) lq_293 rfl ?_
  refine r_push (zW_mono _ _ _) lq_294 ?_
  refine r_iadd (zW_mono _ _ _) lq_295 ?_
  refine r_sld (zW_mono _ _ _) lq_296 (zsx hx0 hx8 hN 2 (by decide) (by decide)) ?_
  refine r_virt2 (m1 := 0) (m2 := 0) (zW_mono _ _ _) lq_297 hx_0 (Nat.le_of_ble_eq_true rfl) (by unfold zbud; rw [hG]; rfl) (by omega) (by omega) ?_
  refine zW_mono zTt G 64 _ _ _ _ _ ?_ (A [G.2.2.2 (x + 1).toNatClampNeg, G.2.2.2 (x + 2).toNatClampNeg] ⟨zfI_ok _, zfI_ok _, trivial⟩)
  rintro w h2 ⟨⟨x9, rfl⟩, ⟨fs9, hr9⟩, k9⟩
  refine r_pop (zW_mono _ _ _) lq_300 rfl ?_
  refine r_aload (zW_mono _ _ _) lq_301 rfl ?_
  refine r_aloadS (zW_mono _ _ _) lq_302 rfl ?_
  refine r_iload (zW_mono _ _ _) lq_303 rfl ?_
  refine r_push (zW_mono _ _ _) lq_304 ?_
  refine r_iadd (zW_mono _ _ _) lq_305 ?_
  refine r_sld (zW_mono _ _ _) lq_306 (zsx hx0 hx8 hN 1 (by decide) (by decide)) ?_
  refine r_aloadS (zW_mono _ _ _) lq_307 rfl ?_
  refine r_iload (zW_mono _ _ _) lq_308 rfl ?_
  refine r_push (zW_mono _ _ _) lq_309 ?_
  refine r_iadd (zW_mono _ _ _) lq_310 ?_
  refine r_sld (zW_mono _ _ _) lq_311 (zsx hx0 hx8 hN 2 (by decide) (by decide)) ?_
  refine r_virt2 (m1 := 0) (m2 := 0) (zW_mono _ _ _) lq_312 hr9 (Nat.le_of_ble_eq_true rfl) (by unfold zbud; rw [hG]; rfl) (by omega) (by omega) ?_
  refine zW_mono zTt G 64 _ _ _ _ _ ?_ k9
  rintro w h3 ⟨⟨y9, rfl⟩, e9, p9⟩
  refine r_pop (zW_mono _ _ _) lq_315 rfl ?_
  refine r_goto (zW_mono _ _ _) lq_316 ?_
  exact K h3 _ _ p9 (by omega) (by omega)
set_option maxHeartbeats 1000000 in
theorem lawop_kind {G : zG} (hG : G.1 = zProg) (hN : G.2.2.1 ≤ 4096) {P : zH → Prop} {h : zH} {x : Int32} {q : Nat} (hx : x.toInt = 8 * q) (hq : 8 * q + 8 ≤ G.2.2.1) {c n : Nat} (hc : c ≤ 182 + 8 * q) (hn : n ≤ 43931 + 800 * q) (h0 : ∃ fs, h[0]? = some (.inr (11, fs))) (A : ∀ xs, zpB [zfI, zfI, zfI, zfI] xs → zW zTt G 64 113 (.ref 0 :: xs.map Value.int) h (fun w h2 => zTy 0 w ∧ (∃ fs, h2[111]? = some (.inr (12, fs))) ∧ zW zTt G 64 181 (.ref 111 :: xs.map Value.int) h2 (fun w2 h3 => zTy 0 w2 ∧ (false = true → w2 = w) ∧ P h3))) (K : ∀ h3 c n, P h3 → c ≤ 182 + 8 * (q + 1) → n ≤ 43931 + 800 * (q + 1) → zR zTt G cd_L 600000 7302250 (some .boolean) (zW zTt G 64) (fun w _ => w = some (.int 1)) 2138 [some (.retAddr 0), some (.ref 0), some (.ref 111), some (.int x)] [] h3 c n) : zR zTt G cd_L 600000 7302250 (some .boolean) (zW zTt G 64) (fun w _ => w = some (.int 1)) 319 [some (.retAddr 0), some (.ref 0), some (.ref 111), some (.int x)] [] h c n := by
  have hx0 : 0 ≤ x.toInt := by omega
  have hx8 : x.toInt + 8 ≤ G.2.2.1 := by omega
  obtain ⟨fs0, hx_0⟩ := h0
  refine r_aload (zW_mono _ _ _) lq_319 rfl ?_
  refine r_aloadS (zW_mono _ _ _) lq_320 rfl ?_
  refine r_iload (zW_mono _ _ _) lq_321 rfl ?_
  refine r_push (zW_mono _ _ _) lq_322 ?_
  refine r_iadd (zW_mono _ _ _) lq_323 ?_
  refine r_sld (zW_mono _ _ _) lq_324 (zsx hx0 hx8 hN 1 (by decide) (by decide)) ?_
  refine r_aloadS (zW_mono _ _ _) lq_325 rfl ?_
  refine r_iload (zW_mono _ _ _) lq_326 rfl ?_
  refine r_push (zW_mono _ _ _) lq_327 ?_
  refine r_iadd (zW_mono _ _ _) lq_328 ?_
  refine r_sld (zW_mono _ _ _) lq_329 (zsx hx0 hx8 hN 2 (by decide) (by decide)) ?_
  refine r_aloadS (zW_mono _ _ _) lq_330 rfl ?_
  refine r_iload (zW_mono _ _ _) lq_331 rfl ?_
  refine r_push (zW_mono _ _ _) lq_332 ?_
  refine r_iadd (zW_mono _ _ _) lq_333 ?_
  refine r_sld (zW_mono _ _ _) lq_334 (zsx hx0 hx8 hN 3 (by decide) (by decide)) ?_
  refine r_aloadS (zW_mono _ _ _) lq_335 rfl ?_
  refine r_iload (zW_mono _ _ _) lq_336 rfl ?_
  refine r_push (zW_mono _ _ _) lq_337 ?_
  refine r_iadd (zW_mono _ _ _) lq_338 ?_
  refine r_sld (zW_mono _ _ _) lq_339 (zsx hx0 hx8 hN 4 (by decide) (by decide)) ?_
  refine r_virt4 (m1 := 0) (m2 := 0) (zW_mono _ _ _) lq_340 hx_0 (Nat.le_of_ble_eq_true rfl) (by unfold zbud; rw [hG]; rfl) (by omega) (by omega) ?_
  refine zW_mono zTt G 64 _ _ _ _ _ ?_ (A [G.2.2.2 (x + 1).toNatClampNeg, G.2.2.2 (x + 2).toNatClampNeg, G.2.2.2 (x + 3).toNatClampNeg, G.2.2.2 (x + 4).toNatClampNeg] ⟨zfI_ok _, zfI_ok _, zfI_ok _, zfI_ok _, trivial⟩)
  rintro w h2 ⟨⟨x9, rfl⟩, ⟨fs9, hr9⟩, k9⟩
  refine r_pop (zW_mono _ _ _) lq_343 rfl ?_
  refine r_aload (zW_mono _ _ _) lq_344 rfl ?_
  refine r_aloadS (zW_mono _ _ _) lq_345 rfl ?_
  refine r_iload (zW_mono _ _ _) lq_346 rfl ?_
  refine r_push (zW_mono _ _ _) lq_347 ?_
  refine r_iadd (zW_mono _ _ _) lq_348 ?_
  refine r_sld (zW_mono _ _ _) lq_349 (zsx hx0 hx8 hN 1 (by decide) (by decide)) ?_
  refine r_aloadS (zW_mono _ _ _) lq_350 rfl ?_
  refine r_iload (zW_mono _ _ _) lq_351 rfl ?_
  refine r_push (zW_mono _ _ _) lq_352 ?_
  refine r_iadd (zW_mono _ _ _) lq_353 ?_
  refine r_sld (zW_mono _ _ _) lq_354 (zsx hx0 hx8 hN 2 (by decide) (by decide)) ?_
  refine r_aloadS (zW_mono _ _ _) lq_355 rfl ?_
  refine r_iload (zW_mono _ _ _) lq_356 rfl ?_
  refine r_push (zW_mono _ _ _) lq_357 ?_
  refine r_iadd (zW_mono _ _ _) lq_358 ?_
  refine r_sld (zW_mono _ _ _) lq_359 (zsx hx0 hx8 hN 3 (by decide) (by decide)) ?_
  refine r_aloadS (zW_mono _ _ _) lq_360 rfl ?_
  refine r_iload (zW_mono _ _ _) lq_361 rfl ?_
  refine r_push (zW_mono _ _ _) lq_362 ?_
  refine r_iadd (zW_mono _ _ _) lq_363 ?_
  refine r_sld (zW_mono _ _ _) lq_364 (zsx hx0 hx8 hN 4 (by decide) (by decide)) ?_
  refine r_virt4 (m1 := 0) (m2 := 0) (zW_mono _ _ _) lq_365 hr9 (Nat.le_of_ble_eq_true rfl) (by unfold zbud; rw [hG]; rfl) (by omega) (by omega) ?_
  refine zW_mono zTt G 64 _ _ _ _ _ ?_ k9
  rintro w h3 ⟨⟨y9, rfl⟩, e9, p9⟩
  refine r_pop (zW_mono _ _ _) lq_368 rfl ?_
  refine r_goto (zW_mono _ _ _) lq_369 ?_
  exact K h3 _ _ p9 (by omega) (by omega)
set_option maxHeartbeats 1000000 in
theorem lawop_part {G : zG} (hG : G.1 = zProg) (hN : G.2.2.1 ≤ 4096) {P : zH → Prop} {h : zH} {x : Int32} {q : Nat} (hx : x.toInt = 8 * q) (hq : 8 * q + 8 ≤ G.2.2.1) {c n : Nat} (hc : c ≤ 182 + 8 * q) (hn : n ≤ 43931 + 800 * q) (h0 : ∃ fs, h[0]? = some (.inr (11, fs))) (A : ∀ xs, zpB [zfI, zfI, zfI, zfI] xs → zW zTt G 64 114 (.ref 0 :: xs.map Value.int) h (fun w h2 => zTy 0 w ∧ (∃ fs, h2[111]? = some (.inr (12, fs))) ∧ zW zTt G 64 182 (.ref 111 :: xs.map Value.int) h2 (fun w2 h3 => zTy 0 w2 ∧ (false = true → w2 = w) ∧ P h3))) (K : ∀ h3 c n, P h3 → c ≤ 182 + 8 * (q + 1) → n ≤ 43931 + 800 * (q + 1) → zR zTt G cd_L 600000 7302250 (some .boolean) (zW zTt G 64) (fun w _ => w = some (.int 1)) 2138 [some (.retAddr 0), some (.ref 0), some (.ref 111), some (.int x)] [] h3 c n) : zR zTt G cd_L 600000 7302250 (some .boolean) (zW zTt G 64) (fun w _ => w = some (.int 1)) 372 [some (.retAddr 0), some (.ref 0), some (.ref 111), some (.int x)] [] h c n := by
  have hx0 : 0 ≤ x.toInt := by omega
  have hx8 : x.toInt + 8 ≤ G.2.2.1 := by omega
  obtain ⟨fs0, hx_0⟩ := h0
  refine r_aload (zW_mono _ _ _) lq_372 rfl ?_
  refine r_aloadS (zW_mono _ _ _) lq_373 rfl ?_
  refine r_iload (zW_mono _ _ _) lq_374 rfl ?_
  refine r_push (zW_mono _ _ _) lq_375 ?_
  refine r_iadd (zW_mono _ _ _) lq_376 ?_
  refine r_sld (zW_mono _ _ _) lq_377 (zsx hx0 hx8 hN 1 (by decide) (by decide)) ?_
  refine r_aloadS (zW_mono _ _ _) lq_378 rfl ?_
  refine r_iload (zW_mono _ _ _) lq_379 rfl ?_
  refine r_push (zW_mono _ _ _) lq_380 ?_
  refine r_iadd (zW_mono _ _ _) lq_381 ?_
  refine r_sld (zW_mono _ _ _) lq_382 (zsx hx0 hx8 hN 2 (by decide) (by decide)) ?_
  refine r_aloadS (zW_mono _ _ _) lq_383 rfl ?_
  refine r_iload (zW_mono _ _ _) lq_384 rfl ?_
  refine r_push (zW_mono _ _ _) lq_385 ?_
  refine r_iadd (zW_mono _ _ _) lq_386 ?_
  refine r_sld (zW_mono _ _ _) lq_387 (zsx hx0 hx8 hN 3 (by decide) (by decide)) ?_
  refine r_aloadS (zW_mono _ _ _) lq_388 rfl ?_
  refine r_iload (zW_mono _ _ _) lq_389 rfl ?_
  refine r_push (zW_mono _ _ _) lq_390 ?_
  refine r_iadd (zW_mono _ _ _) lq_391 ?_
  refine r_sld (zW_mono _ _ _) lq_392 (zsx hx0 hx8 hN 4 (by decide) (by decide)) ?_
  refine r_virt4 (m1 := 0) (m2 := 0) (zW_mono _ _ _) lq_393 hx_0 (Nat.le_of_ble_eq_true rfl) (by unfold zbud; rw [hG]; rfl) (by omega) (by omega) ?_
  refine zW_mono zTt G 64 _ _ _ _ _ ?_ (A [G.2.2.2 (x + 1).toNatClampNeg, G.2.2.2 (x + 2).toNatClampNeg, G.2.2.2 (x + 3).toNatClampNeg, G.2.2.2 (x + 4).toNatClampNeg] ⟨zfI_ok _, zfI_ok _, zfI_ok _, zfI_ok _, trivial⟩)
  rintro w h2 ⟨⟨x9, rfl⟩, ⟨fs9, hr9⟩, k9⟩
  refine r_pop (zW_mono _ _ _) lq_396 rfl ?_
  refine r_aload (zW_mono _ _ _) lq_397 rfl ?_
  refine r_aloadS (zW_mono _ _ _) lq_398 rfl ?_
  refine r_iload (zW_mono _ _ _) lq_399 rfl ?_
  refine r_push (zW_mono _ _ _) lq_400 ?_
  refine r_iadd (zW_mono _ _ _) lq_401 ?_
  refine r_sld (zW_mono _ _ _) lq_402 (zsx hx0 hx8 hN 1 (by decide) (by decide)) ?_
  refine r_aloadS (zW_mono _ _ _) lq_403 rfl ?_
  refine r_iload (zW_mono _ _ _) lq_404 rfl ?_
  refine r_push (zW_mono _ _ _) lq_405 ?_
  refine r_iadd (zW_mono _ _ _) lq_406 ?_
  refine r_sld (zW_mono _ _ _) lq_407 (zsx hx0 hx8 hN 2 (by decide) (by decide)) ?_
  refine r_aloadS (zW_mono _ _ _) lq_408 rfl ?_
  refine r_iload (zW_mono _ _ _) lq_409 rfl ?_
  refine r_push (zW_mono _ _ _) lq_410 ?_
  refine r_iadd (zW_mono _ _ _) lq_411 ?_
  refine r_sld (zW_mono _ _ _) lq_412 (zsx hx0 hx8 hN 3 (by decide) (by decide)) ?_
  refine r_aloadS (zW_mono _ _ _) lq_413 rfl ?_
  refine r_iload (zW_mono _ _ _) lq_414 rfl ?_
  refine r_push (zW_mono _ _ _) lq_415 ?_
  refine r_iadd (zW_mono _ _ _) lq_416 ?_
  refine r_sld (zW_mono _ _ _) lq_417 (zsx hx0 hx8 hN 4 (by decide) (by decide)) ?_
  refine r_virt4 (m1 := 0) (m2 := 0) (zW_mono _ _ _) lq_418 hr9 (Nat.le_of_ble_eq_true rfl) (by unfold zbud; rw [hG]; rfl) (by omega) (by omega) ?_
  refine zW_mono zTt G 64 _ _ _ _ _ ?_ k9
  rintro w h3 ⟨⟨y9, rfl⟩, e9, p9⟩
  refine r_pop (zW_mono _ _ _) lq_421 rfl ?_
  refine r_goto (zW_mono _ _ _) lq_422 ?_
  exact K h3 _ _ p9 (by omega) (by omega)
set_option maxHeartbeats 1000000 in
theorem lawop_fit {G : zG} (hG : G.1 = zProg) (hN : G.2.2.1 ≤ 4096) {P : zH → Prop} {h : zH} {x : Int32} {q : Nat} (hx : x.toInt = 8 * q) (hq : 8 * q + 8 ≤ G.2.2.1) {c n : Nat} (hc : c ≤ 182 + 8 * q) (hn : n ≤ 43931 + 800 * q) (h0 : ∃ fs, h[0]? = some (.inr (11, fs))) (A : ∀ xs, zpB [zfI, zfI, zfI] xs → zW zTt G 64 115 (.ref 0 :: xs.map Value.int) h (fun w h2 => zTy 0 w ∧ (∃ fs, h2[111]? = some (.inr (12, fs))) ∧ zW zTt G 64 183 (.ref 111 :: xs.map Value.int) h2 (fun w2 h3 => zTy 0 w2 ∧ (false = true → w2 = w) ∧ P h3))) (K : ∀ h3 c n, P h3 → c ≤ 182 + 8 * (q + 1) → n ≤ 43931 + 800 * (q + 1) → zR zTt G cd_L 600000 7302250 (some .boolean) (zW zTt G 64) (fun w _ => w = some (.int 1)) 2138 [some (.retAddr 0), some (.ref 0), some (.ref 111), some (.int x)] [] h3 c n) : zR zTt G cd_L 600000 7302250 (some .boolean) (zW zTt G 64) (fun w _ => w = some (.int 1)) 425 [some (.retAddr 0), some (.ref 0), some (.ref 111), some (.int x)] [] h c n := by
  have hx0 : 0 ≤ x.toInt := by omega
  have hx8 : x.toInt + 8 ≤ G.2.2.1 := by omega
  obtain ⟨fs0, hx_0⟩ := h0
  refine r_aload (zW_mono _ _ _) lq_425 rfl ?_
  refine r_aloadS (zW_mono _ _ _) lq_426 rfl ?_
  refine r_iload (zW_mono _ _ _) lq_427 rfl ?_
  refine r_push (zW_mono _ _ _) lq_428 ?_
  refine r_iadd (zW_mono _ _ _) lq_429 ?_
  refine r_sld (zW_mono _ _ _) lq_430 (zsx hx0 hx8 hN 1 (by decide) (by decide)) ?_
  refine r_aloadS (zW_mono _ _ _) lq_431 rfl ?_
  refine r_iload (zW_mono _ _ _) lq_432 rfl ?_
  refine r_push (zW_mono _ _ _) lq_433 ?_
  refine r_iadd (zW_mono _ _ _) lq_434 ?_
  refine r_sld (zW_mono _ _ _) lq_435 (zsx hx0 hx8 hN 2 (by decide) (by decide)) ?_
  refine r_aloadS (zW_mono _ _ _) lq_436 rfl ?_
  refine r_iload (zW_mono _ _ _) lq_437 rfl ?_
  refine r_push (zW_mono _ _ _) lq_438 ?_
  refine r_iadd (zW_mono _ _ _) lq_439 ?_
  refine r_sld (zW_mono _ _ _) lq_440 (zsx hx0 hx8 hN 3 (by decide) (by decide)) ?_
  refine r_virt3 (m1 := 0) (m2 := 0) (zW_mono _ _ _) lq_441 hx_0 (Nat.le_of_ble_eq_true rfl) (by unfold zbud; rw [hG]; rfl) (by omega) (by omega) ?_
  refine zW_mono zTt G 64 _ _ _ _ _ ?_ (A [G.2.2.2 (x + 1).toNatClampNeg, G.2.2.2 (x + 2).toNatClampNeg, G.2.2.2 (x + 3).toNatClampNeg] ⟨zfI_ok _, zfI_ok _, zfI_ok _, trivial⟩)
  rintro w h2 ⟨⟨x9, rfl⟩, ⟨fs9, hr9⟩, k9⟩
  refine r_pop (zW_mono _ _ _) lq_444 rfl ?_
  refine r_aload (zW_mono _ _ _) lq_445 rfl ?_
  refine r_aloadS (zW_mono _ _ _) lq_446 rfl ?_
  refine r_iload (zW_mono _ _ _) lq_447 rfl ?_
  refine r_push (zW_mono _ _ _) lq_448 ?_
  refine r_iadd (zW_mono _ _ _) lq_449 ?_
  refine r_sld (zW_mono _ _ _) lq_450 (zsx hx0 hx8 hN 1 (by decide) (by decide)) ?_
  refine r_aloadS (zW_mono _ _ _) lq_451 rfl ?_
  refine r_iload (zW_mono _ _ _) lq_452 rfl ?_
  refine r_push (zW_mono _ _ _) lq_453 ?_
  refine r_iadd (zW_mono _ _ _) lq_454 ?_
  refine r_sld (zW_mono _ _ _) lq_455 (zsx hx0 hx8 hN 2 (by decide) (by decide)) ?_
  refine r_aloadS (zW_mono _ _ _) lq_456 rfl ?_
  refine r_iload (zW_mono _ _ _) lq_457 rfl ?_
  refine r_push (zW_mono _ _ _) lq_458 ?_
  refine r_iadd (zW_mono _ _ _) lq_459 ?_
  refine r_sld (zW_mono _ _ _) lq_460 (zsx hx0 hx8 hN 3 (by decide) (by decide)) ?_
  refine r_virt3 (m1 := 0) (m2 := 0) (zW_mono _ _ _) lq_461 hr9 (Nat.le_of_ble_eq_true rfl) (by unfold zbud; rw [hG]; rfl) (by omega) (by omega) ?_
  refine zW_mono zTt G 64 _ _ _ _ _ ?_ k9
  rintro w h3 ⟨⟨y9, rfl⟩, e9, p9⟩
  refine r_pop (zW_mono _ _ _) lq_464 rfl ?_
  refine r_goto (zW_mono _ _ _) lq_465 ?_
  exact K h3 _ _ p9 (by omega) (by omega)
set_option maxHeartbeats 1000000 in
theorem lawop_car {G : zG} (hG : G.1 = zProg) (hN : G.2.2.1 ≤ 4096) {P : zH → Prop} {h : zH} {x : Int32} {q : Nat} (hx : x.toInt = 8 * q) (hq : 8 * q + 8 ≤ G.2.2.1) {c n : Nat} (hc : c ≤ 182 + 8 * q) (hn : n ≤ 43931 + 800 * q) (h0 : ∃ fs, h[0]? = some (.inr (11, fs))) (A : ∀ xs, zpB [zfI, zfI, zfI] xs → zW zTt G 64 116 (.ref 0 :: xs.map Value.int) h (fun w h2 => zTy 0 w ∧ (∃ fs, h2[111]? = some (.inr (12, fs))) ∧ zW zTt G 64 184 (.ref 111 :: xs.map Value.int) h2 (fun w2 h3 => zTy 0 w2 ∧ (false = true → w2 = w) ∧ P h3))) (K : ∀ h3 c n, P h3 → c ≤ 182 + 8 * (q + 1) → n ≤ 43931 + 800 * (q + 1) → zR zTt G cd_L 600000 7302250 (some .boolean) (zW zTt G 64) (fun w _ => w = some (.int 1)) 2138 [some (.retAddr 0), some (.ref 0), some (.ref 111), some (.int x)] [] h3 c n) : zR zTt G cd_L 600000 7302250 (some .boolean) (zW zTt G 64) (fun w _ => w = some (.int 1)) 468 [some (.retAddr 0), some (.ref 0), some (.ref 111), some (.int x)] [] h c n := by
  have hx0 : 0 ≤ x.toInt := by omega
  have hx8 : x.toInt + 8 ≤ G.2.2.1 := by omega
  obtain ⟨fs0, hx_0⟩ := h0
  refine r_aload (zW_mono _ _ _) lq_468 rfl ?_
  refine r_aloadS (zW_mono _ _ _) lq_469 rfl ?_
  refine r_iload (zW_mono _ _ _) lq_470 rfl ?_
  refine r_push (zW_mono _ _ _) lq_471 ?_
  refine r_iadd (zW_mono _ _ _) lq_472 ?_
  refine r_sld (zW_mono _ _ _) lq_473 (zsx hx0 hx8 hN 1 (by decide) (by decide)) ?_
  refine r_aloadS (zW_mono _ _ _) lq_474 rfl ?_
  refine r_iload (zW_mono _ _ _) lq_475 rfl ?_
  refine r_push (zW_mono _ _ _) lq_476 ?_
  refine r_iadd (zW_mono _ _ _) lq_477 ?_
  refine r_sld (zW_mono _ _ _) lq_478 (zsx hx0 hx8 hN 2 (by decide) (by decide)) ?_
  refine r_aloadS (zW_mono _ _ _) lq_479 rfl ?_
  refine r_iload (zW_mono _ _ _) lq_480 rfl ?_
  refine r_push (zW_mono _ _ _) lq_481 ?_
  refine r_iadd (zW_mono _ _ _) lq_482 ?_
  refine r_sld (zW_mono _ _ _) lq_483 (zsx hx0 hx8 hN 3 (by decide) (by decide)) ?_
  refine r_virt3 (m1 := 2) (m2 := 23) (zW_mono _ _ _) lq_484 hx_0 (Nat.le_of_ble_eq_true rfl) (by unfold zbud; rw [hG]; rfl) (by omega) (by omega) ?_
  refine zW_mono zTt G 64 _ _ _ _ _ ?_ (A [G.2.2.2 (x + 1).toNatClampNeg, G.2.2.2 (x + 2).toNatClampNeg, G.2.2.2 (x + 3).toNatClampNeg] ⟨zfI_ok _, zfI_ok _, zfI_ok _, trivial⟩)
  rintro w h2 ⟨⟨x9, rfl⟩, ⟨fs9, hr9⟩, k9⟩
  refine r_pop (zW_mono _ _ _) lq_487 rfl ?_
  refine r_aload (zW_mono _ _ _) lq_488 rfl ?_
  refine r_aloadS (zW_mono _ _ _) lq_489 rfl ?_
  refine r_iload (zW_mono _ _ _) lq_490 rfl ?_
  refine r_push (zW_mono _ _ _) lq_491 ?_
  refine r_iadd (zW_mono _ _ _) lq_492 ?_
  refine r_sld (zW_mono _ _ _) lq_493 (zsx hx0 hx8 hN 1 (by decide) (by decide)) ?_
  refine r_aloadS (zW_mono _ _ _) lq_494 rfl ?_
  refine r_iload (zW_mono _ _ _) lq_495 rfl ?_
  refine r_push (zW_mono _ _ _) lq_496 ?_
  refine r_iadd (zW_mono _ _ _) lq_497 ?_
  refine r_sld (zW_mono _ _ _) lq_498 (zsx hx0 hx8 hN 2 (by decide) (by decide)) ?_
  refine r_aloadS (zW_mono _ _ _) lq_499 rfl ?_
  refine r_iload (zW_mono _ _ _) lq_500 rfl ?_
  refine r_push (zW_mono _ _ _) lq_501 ?_
  refine r_iadd (zW_mono _ _ _) lq_502 ?_
  refine r_sld (zW_mono _ _ _) lq_503 (zsx hx0 hx8 hN 3 (by decide) (by decide)) ?_
  refine r_virt3 (m1 := 0) (m2 := 0) (zW_mono _ _ _) lq_504 hr9 (Nat.le_of_ble_eq_true rfl) (by unfold zbud; rw [hG]; rfl) (by omega) (by omega) ?_
  refine zW_mono zTt G 64 _ _ _ _ _ ?_ k9
  rintro w h3 ⟨⟨y9, rfl⟩, e9, p9⟩
  refine r_pop (zW_mono _ _ _) lq_507 rfl ?_
  refine r_goto (zW_mono _ _ _) lq_508 ?_
  exact K h3 _ _ p9 (by omega) (by omega)
set_option maxHeartbeats 1000000 in
theorem lawop_sell {G : zG} (hG : G.1 = zProg) (hN : G.2.2.1 ≤ 4096) {P : zH → Prop} {h : zH} {x : Int32} {q : Nat} (hx : x.toInt = 8 * q) (hq : 8 * q + 8 ≤ G.2.2.1) {c n : Nat} (hc : c ≤ 182 + 8 * q) (hn : n ≤ 43931 + 800 * q) (h0 : ∃ fs, h[0]? = some (.inr (11, fs))) (A : ∀ xs, zpB [zfI, zfI, zfI] xs → zW zTt G 64 117 (.ref 0 :: xs.map Value.int) h (fun w h2 => zTy 0 w ∧ (∃ fs, h2[111]? = some (.inr (12, fs))) ∧ zW zTt G 64 185 (.ref 111 :: xs.map Value.int) h2 (fun w2 h3 => zTy 0 w2 ∧ (false = true → w2 = w) ∧ P h3))) (K : ∀ h3 c n, P h3 → c ≤ 182 + 8 * (q + 1) → n ≤ 43931 + 800 * (q + 1) → zR zTt G cd_L 600000 7302250 (some .boolean) (zW zTt G 64) (fun w _ => w = some (.int 1)) 2138 [some (.retAddr 0), some (.ref 0), some (.ref 111), some (.int x)] [] h3 c n) : zR zTt G cd_L 600000 7302250 (some .boolean) (zW zTt G 64) (fun w _ => w = some (.int 1)) 511 [some (.retAddr 0), some (.ref 0), some (.ref 111), some (.int x)] [] h c n := by
  have hx0 : 0 ≤ x.toInt := by omega
  have hx8 : x.toInt + 8 ≤ G.2.2.1 := by omega
  obtain ⟨fs0, hx_0⟩ := h0
  refine r_aload (zW_mono _ _ _) lq_511 rfl ?_
  refine r_aloadS (zW_mono _ _ _) lq_512 rfl ?_
  refine r_iload (zW_mono _ _ _) lq_513 rfl ?_
  refine r_push (zW_mono _ _ _) lq_514 ?_
  refine r_iadd (zW_mono _ _ _) lq_515 ?_
  refine r_sld (zW_mono _ _ _) lq_516 (zsx hx0 hx8 hN 1 (by decide) (by decide)) ?_
  refine r_aloadS (zW_mono _ _ _) lq_517 rfl ?_
  refine r_iload (zW_mono _ _ _) lq_518 rfl ?_
  refine r_push (zW_mono _ _ _) lq_519 ?_
  refine r_iadd (zW_mono _ _ _) lq_520 ?_
  refine r_sld (zW_mono _ _ _) lq_521 (zsx hx0 hx8 hN 2 (by decide) (by decide)) ?_
  refine r_aloadS (zW_mono _ _ _) lq_522 rfl ?_
  refine r_iload (zW_mono _ _ _) lq_523 rfl ?_
  refine r_push (zW_mono _ _ _) lq_524 ?_
  refine r_iadd (zW_mono _ _ _) lq_525 ?_
  refine r_sld (zW_mono _ _ _) lq_526 (zsx hx0 hx8 hN 3 (by decide) (by decide)) ?_
  refine r_virt3 (m1 := 0) (m2 := 0) (zW_mono _ _ _) lq_527 hx_0 (Nat.le_of_ble_eq_true rfl) (by unfold zbud; rw [hG]; rfl) (by omega) (by omega) ?_
  refine zW_mono zTt G 64 _ _ _ _ _ ?_ (A [G.2.2.2 (x + 1).toNatClampNeg, G.2.2.2 (x + 2).toNatClampNeg, G.2.2.2 (x + 3).toNatClampNeg] ⟨zfI_ok _, zfI_ok _, zfI_ok _, trivial⟩)
  rintro w h2 ⟨⟨x9, rfl⟩, ⟨fs9, hr9⟩, k9⟩
  refine r_pop (zW_mono _ _ _) lq_530 rfl ?_
  refine r_aload (zW_mono _ _ _) lq_531 rfl ?_
  refine r_aloadS (zW_mono _ _ _) lq_532 rfl ?_
  refine r_iload (zW_mono _ _ _) lq_533 rfl ?_
  refine r_push (zW_mono _ _ _) lq_534 ?_
  refine r_iadd (zW_mono _ _ _) lq_535 ?_
  refine r_sld (zW_mono _ _ _) lq_536 (zsx hx0 hx8 hN 1 (by decide) (by decide)) ?_
  refine r_aloadS (zW_mono _ _ _) lq_537 rfl ?_
  refine r_iload (zW_mono _ _ _) lq_538 rfl ?_
  refine r_push (zW_mono _ _ _) lq_539 ?_
  refine r_iadd (zW_mono _ _ _) lq_540 ?_
  refine r_sld (zW_mono _ _ _) lq_541 (zsx hx0 hx8 hN 2 (by decide) (by decide)) ?_
  refine r_aloadS (zW_mono _ _ _) lq_542 rfl ?_
  refine r_iload (zW_mono _ _ _) lq_543 rfl ?_
  refine r_push (zW_mono _ _ _) lq_544 ?_
  refine r_iadd (zW_mono _ _ _) lq_545 ?_
  refine r_sld (zW_mono _ _ _) lq_546 (zsx hx0 hx8 hN 3 (by decide) (by decide)) ?_
  refine r_virt3 (m1 := 0) (m2 := 0) (zW_mono _ _ _) lq_547 hr9 (Nat.le_of_ble_eq_true rfl) (by unfold zbud; rw [hG]; rfl) (by omega) (by omega) ?_
  refine zW_mono zTt G 64 _ _ _ _ _ ?_ k9
  rintro w h3 ⟨⟨y9, rfl⟩, e9, p9⟩
  refine r_pop (zW_mono _ _ _) lq_550 rfl ?_
  refine r_goto (zW_mono _ _ _) lq_551 ?_
  exact K h3 _ _ p9 (by omega) (by omega)
set_option maxHeartbeats 1000000 in
theorem lawop_owner {G : zG} (hG : G.1 = zProg) (hN : G.2.2.1 ≤ 4096) {P : zH → Prop} {h : zH} {x : Int32} {q : Nat} (hx : x.toInt = 8 * q) (hq : 8 * q + 8 ≤ G.2.2.1) {c n : Nat} (hc : c ≤ 182 + 8 * q) (hn : n ≤ 43931 + 800 * q) (h0 : ∃ fs, h[0]? = some (.inr (11, fs))) (A : ∀ xs, zpB [zfI, zfI, zfI] xs → zW zTt G 64 118 (.ref 0 :: xs.map Value.int) h (fun w h2 => zTy 0 w ∧ (∃ fs, h2[111]? = some (.inr (12, fs))) ∧ zW zTt G 64 187 (.ref 111 :: xs.map Value.int) h2 (fun w2 h3 => zTy 0 w2 ∧ (false = true → w2 = w) ∧ P h3))) (K : ∀ h3 c n, P h3 → c ≤ 182 + 8 * (q + 1) → n ≤ 43931 + 800 * (q + 1) → zR zTt G cd_L 600000 7302250 (some .boolean) (zW zTt G 64) (fun w _ => w = some (.int 1)) 2138 [some (.retAddr 0), some (.ref 0), some (.ref 111), some (.int x)] [] h3 c n) : zR zTt G cd_L 600000 7302250 (some .boolean) (zW zTt G 64) (fun w _ => w = some (.int 1)) 554 [some (.retAddr 0), some (.ref 0), some (.ref 111), some (.int x)] [] h c n := by
  have hx0 : 0 ≤ x.toInt := by omega
  have hx8 : x.toInt + 8 ≤ G.2.2.1 := by omega
  obtain ⟨fs0, hx_0⟩ := h0
  refine r_aload (zW_mono _ _ _) lq_554 rfl ?_
  refine r_aloadS (zW_mono _ _ _) lq_555 rfl ?_
  refine r_iload (zW_mono _ _ _) lq_556 rfl ?_
  refine r_push (zW_mono _ _ _) lq_557 ?_
  refine r_iadd (zW_mono _ _ _) lq_558 ?_
  refine r_sld (zW_mono _ _ _) lq_559 (zsx hx0 hx8 hN 1 (by decide) (by decide)) ?_
  refine r_aloadS (zW_mono _ _ _) lq_560 rfl ?_
  refine r_iload (zW_mono _ _ _) lq_561 rfl ?_
  refine r_push (zW_mono _ _ _) lq_562 ?_
  refine r_iadd (zW_mono _ _ _) lq_563 ?_
  refine r_sld (zW_mono _ _ _) lq_564 (zsx hx0 hx8 hN 2 (by decide) (by decide)) ?_
  refine r_aloadS (zW_mono _ _ _) lq_565 rfl ?_
  refine r_iload (zW_mono _ _ _) lq_566 rfl ?_
  refine r_push (zW_mono _ _ _) lq_567 ?_
  refine r_iadd (zW_mono _ _ _) lq_568 ?_
  refine r_sld (zW_mono _ _ _) lq_569 (zsx hx0 hx8 hN 3 (by decide) (by decide)) ?_
  refine r_virt3 (m1 := 0) (m2 := 0) (zW_mono _ _ _) lq_570 hx_0 (Nat.le_of_ble_eq_true rfl) (by unfold zbud; rw [hG]; rfl) (by omega) (by omega) ?_
  refine zW_mono zTt G 64 _ _ _ _ _ ?_ (A [G.2.2.2 (x + 1).toNatClampNeg, G.2.2.2 (x + 2).toNatClampNeg, G.2.2.2 (x + 3).toNatClampNeg] ⟨zfI_ok _, zfI_ok _, zfI_ok _, trivial⟩)
  rintro w h2 ⟨⟨x9, rfl⟩, ⟨fs9, hr9⟩, k9⟩
  refine r_pop (zW_mono _ _ _) lq_573 rfl ?_
  refine r_aload (zW_mono _ _ _) lq_574 rfl ?_
  refine r_aloadS (zW_mono _ _ _) lq_575 rfl ?_
  refine r_iload (zW_mono _ _ _) lq_576 rfl ?_
  refine r_push (zW_mono _ _ _) lq_577 ?_
  refine r_iadd (zW_mono _ _ _) lq_578 ?_
  refine r_sld (zW_mono _ _ _) lq_579 (zsx hx0 hx8 hN 1 (by decide) (by decide)) ?_
  refine r_aloadS (zW_mono _ _ _) lq_580 rfl ?_
  refine r_iload (zW_mono _ _ _) lq_581 rfl ?_
  refine r_push (zW_mono _ _ _) lq_582 ?_
  refine r_iadd (zW_mono _ _ _) lq_583 ?_
  refine r_sld (zW_mono _ _ _) lq_584 (zsx hx0 hx8 hN 2 (by decide) (by decide)) ?_
  refine r_aloadS (zW_mono _ _ _) lq_585 rfl ?_
  refine r_iload (zW_mono _ _ _) lq_586 rfl ?_
  refine r_push (zW_mono _ _ _) lq_587 ?_
  refine r_iadd (zW_mono _ _ _) lq_588 ?_
  refine r_sld (zW_mono _ _ _) lq_589 (zsx hx0 hx8 hN 3 (by decide) (by decide)) ?_
  refine r_virt3 (m1 := 0) (m2 := 0) (zW_mono _ _ _) lq_590 hr9 (Nat.le_of_ble_eq_true rfl) (by unfold zbud; rw [hG]; rfl) (by omega) (by omega) ?_
  refine zW_mono zTt G 64 _ _ _ _ _ ?_ k9
  rintro w h3 ⟨⟨y9, rfl⟩, e9, p9⟩
  refine r_pop (zW_mono _ _ _) lq_593 rfl ?_
  refine r_goto (zW_mono _ _ _) lq_594 ?_
  exact K h3 _ _ p9 (by omega) (by omega)
set_option maxHeartbeats 1000000 in
theorem lawop_cars {G : zG} (hG : G.1 = zProg) (hN : G.2.2.1 ≤ 4096) {P : zH → Prop} {h : zH} {x : Int32} {q : Nat} (hx : x.toInt = 8 * q) (hq : 8 * q + 8 ≤ G.2.2.1) {c n : Nat} (hc : c ≤ 182 + 8 * q) (hn : n ≤ 43931 + 800 * q) (h0 : ∃ fs, h[0]? = some (.inr (11, fs))) (A : ∀ xs, zpB [zfI, zfI] xs → zW zTt G 64 119 (.ref 0 :: xs.map Value.int) h (fun w h2 => zTy 0 w ∧ (∃ fs, h2[111]? = some (.inr (12, fs))) ∧ zW zTt G 64 192 (.ref 111 :: xs.map Value.int) h2 (fun w2 h3 => zTy 0 w2 ∧ (false = true → w2 = w) ∧ P h3))) (K : ∀ h3 c n, P h3 → c ≤ 182 + 8 * (q + 1) → n ≤ 43931 + 800 * (q + 1) → zR zTt G cd_L 600000 7302250 (some .boolean) (zW zTt G 64) (fun w _ => w = some (.int 1)) 2138 [some (.retAddr 0), some (.ref 0), some (.ref 111), some (.int x)] [] h3 c n) : zR zTt G cd_L 600000 7302250 (some .boolean) (zW zTt G 64) (fun w _ => w = some (.int 1)) 597 [some (.retAddr 0), some (.ref 0), some (.ref 111), some (.int x)] [] h c n := by
  have hx0 : 0 ≤ x.toInt := by omega
  have hx8 : x.toInt + 8 ≤ G.2.2.1 := by omega
  obtain ⟨fs0, hx_0⟩ := h0
  refine r_aload (zW_mono _ _ _) lq_597 rfl ?_
  refine r_aloadS (zW_mono _ _ _) lq_598 rfl ?_
  refine r_iload (zW_mono _ _ _) lq_599 rfl ?_
  refine r_push (zW_mono _ _ _) lq_600 ?_
  refine r_iadd (zW_mono _ _ _) lq_601 ?_
  refine r_sld (zW_mono _ _ _) lq_602 (zsx hx0 hx8 hN 1 (by decide) (by decide)) ?_
  refine r_aloadS (zW_mono _ _ _) lq_603 rfl ?_
  refine r_iload (zW_mono _ _ _) lq_604 rfl ?_
  refine r_push (zW_mono _ _ _) lq_605 ?_
  refine r_iadd (zW_mono _ _ _) lq_606 ?_
  refine r_sld (zW_mono _ _ _) lq_607 (zsx hx0 hx8 hN 2 (by decide) (by decide)) ?_
  refine r_virt2 (m1 := 0) (m2 := 0) (zW_mono _ _ _) lq_608 hx_0 (Nat.le_of_ble_eq_true rfl) (by unfold zbud; rw [hG]; rfl) (by omega) (by omega) ?_
  refine zW_mono zTt G 64 _ _ _ _ _ ?_ (A [G.2.2.2 (x + 1).toNatClampNeg, G.2.2.2 (x + 2).toNatClampNeg] ⟨zfI_ok _, zfI_ok _, trivial⟩)
  rintro w h2 ⟨⟨x9, rfl⟩, ⟨fs9, hr9⟩, k9⟩
  refine r_pop (zW_mono _ _ _) lq_611 rfl ?_
  refine r_aload (zW_mono _ _ _) lq_612 rfl ?_
  refine r_aloadS (zW_mono _ _ _) lq_613 rfl ?_
  refine r_iload (zW_mono _ _ _) lq_614 rfl ?_
  refine r_push (zW_mono _ _ _) lq_615 ?_
  refine r_iadd (zW_mono _ _ _) lq_616 ?_
  refine r_sld (zW_mono _ _ _) lq_617 (zsx hx0 hx8 hN 1 (by decide) (by decide)) ?_
  refine r_aloadS (zW_mono _ _ _) lq_618 rfl ?_
  refine r_iload (zW_mono _ _ _) lq_619 rfl ?_
  refine r_push (zW_mono _ _ _) lq_620 ?_
  refine r_iadd (zW_mono _ _ _) lq_621 ?_
  refine r_sld (zW_mono _ _ _) lq_622 (zsx hx0 hx8 hN 2 (by decide) (by decide)) ?_
  refine r_virt2 (m1 := 0) (m2 := 0) (zW_mono _ _ _) lq_623 hr9 (Nat.le_of_ble_eq_true rfl) (by unfold zbud; rw [hG]; rfl) (by omega) (by omega) ?_
  refine zW_mono zTt G 64 _ _ _ _ _ ?_ k9
  rintro w h3 ⟨⟨y9, rfl⟩, e9, p9⟩
  refine r_pop (zW_mono _ _ _) lq_626 rfl ?_
  refine r_goto (zW_mono _ _ _) lq_627 ?_
  exact K h3 _ _ p9 (by omega) (by omega)
set_option maxHeartbeats 1000000 in
theorem lawop_force {G : zG} (hG : G.1 = zProg) (hN : G.2.2.1 ≤ 4096) {P : zH → Prop} {h : zH} {x : Int32} {q : Nat} (hx : x.toInt = 8 * q) (hq : 8 * q + 8 ≤ G.2.2.1) {c n : Nat} (hc : c ≤ 182 + 8 * q) (hn : n ≤ 43931 + 800 * q) (h0 : ∃ fs, h[0]? = some (.inr (11, fs))) (A : ∀ xs, zpB [zfI, zfI] xs → zW zTt G 64 120 (.ref 0 :: xs.map Value.int) h (fun w h2 => zTy 0 w ∧ (∃ fs, h2[111]? = some (.inr (12, fs))) ∧ zW zTt G 64 193 (.ref 111 :: xs.map Value.int) h2 (fun w2 h3 => zTy 0 w2 ∧ (false = true → w2 = w) ∧ P h3))) (K : ∀ h3 c n, P h3 → c ≤ 182 + 8 * (q + 1) → n ≤ 43931 + 800 * (q + 1) → zR zTt G cd_L 600000 7302250 (some .boolean) (zW zTt G 64) (fun w _ => w = some (.int 1)) 2138 [some (.retAddr 0), some (.ref 0), some (.ref 111), some (.int x)] [] h3 c n) : zR zTt G cd_L 600000 7302250 (some .boolean) (zW zTt G 64) (fun w _ => w = some (.int 1)) 630 [some (.retAddr 0), some (.ref 0), some (.ref 111), some (.int x)] [] h c n := by
  have hx0 : 0 ≤ x.toInt := by omega
  have hx8 : x.toInt + 8 ≤ G.2.2.1 := by omega
  obtain ⟨fs0, hx_0⟩ := h0
  refine r_aload (zW_mono _ _ _) lq_630 rfl ?_
  refine r_aloadS (zW_mono _ _ _) lq_631 rfl ?_
  refine r_iload (zW_mono _ _ _) lq_632 rfl ?_
  refine r_push (zW_mono _ _ _) lq_633 ?_
  refine r_iadd (zW_mono _ _ _) lq_634 ?_
  refine r_sld (zW_mono _ _ _) lq_635 (zsx hx0 hx8 hN 1 (by decide) (by decide)) ?_
  refine r_aloadS (zW_mono _ _ _) lq_636 rfl ?_
  refine r_iload (zW_mono _ _ _) lq_637 rfl ?_
  refine r_push (zW_mono _ _ _) lq_638 ?_
  refine r_iadd (zW_mono _ _ _) lq_639 ?_
  refine r_sld (zW_mono _ _ _) lq_640 (zsx hx0 hx8 hN 2 (by decide) (by decide)) ?_
  refine r_virt2 (m1 := 0) (m2 := 0) (zW_mono _ _ _) lq_641 hx_0 (Nat.le_of_ble_eq_true rfl) (by unfold zbud; rw [hG]; rfl) (by omega) (by omega) ?_
  refine zW_mono zTt G 64 _ _ _ _ _ ?_ (A [G.2.2.2 (x + 1).toNatClampNeg, G.2.2.2 (x + 2).toNatClampNeg] ⟨zfI_ok _, zfI_ok _, trivial⟩)
  rintro w h2 ⟨⟨x9, rfl⟩, ⟨fs9, hr9⟩, k9⟩
  refine r_pop (zW_mono _ _ _) lq_644 rfl ?_
  refine r_aload (zW_mono _ _ _) lq_645 rfl ?_
  refine r_aloadS (zW_mono _ _ _) lq_646 rfl ?_
  refine r_iload (zW_mono _ _ _) lq_647 rfl ?_
  refine r_push (zW_mono _ _ _) lq_648 ?_
  refine r_iadd (zW_mono _ _ _) lq_649 ?_
  refine r_sld (zW_mono _ _ _) lq_650 (zsx hx0 hx8 hN 1 (by decide) (by decide)) ?_
  refine r_aloadS (zW_mono _ _ _) lq_651 rfl ?_
  refine r_iload (zW_mono _ _ _) lq_652 rfl ?_
  refine r_push (zW_mono _ _ _) lq_653 ?_
  refine r_iadd (zW_mono _ _ _) lq_654 ?_
  refine r_sld (zW_mono _ _ _) lq_655 (zsx hx0 hx8 hN 2 (by decide) (by decide)) ?_
  refine r_virt2 (m1 := 0) (m2 := 0) (zW_mono _ _ _) lq_656 hr9 (Nat.le_of_ble_eq_true rfl) (by unfold zbud; rw [hG]; rfl) (by omega) (by omega) ?_
  refine zW_mono zTt G 64 _ _ _ _ _ ?_ k9
  rintro w h3 ⟨⟨y9, rfl⟩, e9, p9⟩
  refine r_pop (zW_mono _ _ _) lq_659 rfl ?_
  refine r_goto (zW_mono _ _ _) lq_660 ?_
  exact K h3 _ _ p9 (by omega) (by omega)
set_option maxHeartbeats 1000000 in
theorem lawop_burns {G : zG} (hG : G.1 = zProg) (hN : G.2.2.1 ≤ 4096) {P : zH → Prop} {h : zH} {x : Int32} {q : Nat} (hx : x.toInt = 8 * q) (hq : 8 * q + 8 ≤ G.2.2.1) {c n : Nat} (hc : c ≤ 182 + 8 * q) (hn : n ≤ 43931 + 800 * q) (h0 : ∃ fs, h[0]? = some (.inr (11, fs))) (A : ∀ xs, zpB [zfI, zfI, zfI, zfI, zfI] xs → zW zTt G 64 121 (.ref 0 :: xs.map Value.int) h (fun w h2 => zTy 0 w ∧ (∃ fs, h2[111]? = some (.inr (12, fs))) ∧ zW zTt G 64 195 (.ref 111 :: xs.map Value.int) h2 (fun w2 h3 => zTy 0 w2 ∧ (false = true → w2 = w) ∧ P h3))) (K : ∀ h3 c n, P h3 → c ≤ 182 + 8 * (q + 1) → n ≤ 43931 + 800 * (q + 1) → zR zTt G cd_L 600000 7302250 (some .boolean) (zW zTt G 64) (fun w _ => w = some (.int 1)) 2138 [some (.retAddr 0), some (.ref 0), some (.ref 111), some (.int x)] [] h3 c n) : zR zTt G cd_L 600000 7302250 (some .boolean) (zW zTt G 64) (fun w _ => w = some (.int 1)) 663 [some (.retAddr 0), some (.ref 0), some (.ref 111), some (.int x)] [] h c n := by
  have hx0 : 0 ≤ x.toInt := by omega
  have hx8 : x.toInt + 8 ≤ G.2.2.1 := by omega
  obtain ⟨fs0, hx_0⟩ := h0
  refine r_aload (zW_mono _ _ _) lq_663 rfl ?_
  refine r_aloadS (zW_mono _ _ _) lq_664 rfl ?_
  refine r_iload (zW_mono _ _ _) lq_665 rfl ?_
  refine r_push (zW_mono _ _ _) lq_666 ?_
  refine r_iadd (zW_mono _ _ _) lq_667 ?_
  refine r_sld (zW_mono _ _ _) lq_668 (zsx hx0 hx8 hN 1 (by decide) (by decide)) ?_
  refine r_aloadS (zW_mono _ _ _) lq_669 rfl ?_
  refine r_iload (zW_mono _ _ _) lq_670 rfl ?_
  refine r_push (zW_mono _ _ _) lq_671 ?_
  refine r_iadd (zW_mono _ _ _) lq_672 ?_
  refine r_sld (zW_mono _ _ _) lq_673 (zsx hx0 hx8 hN 2 (by decide) (by decide)) ?_
  refine r_aloadS (zW_mono _ _ _) lq_674 rfl ?_
  refine r_iload (zW_mono _ _ _) lq_675 rfl ?_
  refine r_push (zW_mono _ _ _) lq_676 ?_
  refine r_iadd (zW_mono _ _ _) lq_677 ?_
  refine r_sld (zW_mono _ _ _) lq_678 (zsx hx0 hx8 hN 3 (by decide) (by decide)) ?_
  refine r_aloadS (zW_mono _ _ _) lq_679 rfl ?_
  refine r_iload (zW_mono _ _ _) lq_680 rfl ?_
  refine r_push (zW_mono _ _ _) lq_681 ?_
  refine r_iadd (zW_mono _ _ _) lq_682 ?_
  refine r_sld (zW_mono _ _ _) lq_683 (zsx hx0 hx8 hN 4 (by decide) (by decide)) ?_
  refine r_aloadS (zW_mono _ _ _) lq_684 rfl ?_
  refine r_iload (zW_mono _ _ _) lq_685 rfl ?_
  refine r_push (zW_mono _ _ _) lq_686 ?_
  refine r_iadd (zW_mono _ _ _) lq_687 ?_
  refine r_sld (zW_mono _ _ _) lq_688 (zsx hx0 hx8 hN 5 (by decide) (by decide)) ?_
  refine r_virt5 (m1 := 0) (m2 := 0) (zW_mono _ _ _) lq_689 hx_0 (Nat.le_of_ble_eq_true rfl) (by unfold zbud; rw [hG]; rfl) (by omega) (by omega) ?_
  refine zW_mono zTt G 64 _ _ _ _ _ ?_ (A [G.2.2.2 (x + 1).toNatClampNeg, G.2.2.2 (x + 2).toNatClampNeg, G.2.2.2 (x + 3).toNatClampNeg, G.2.2.2 (x + 4).toNatClampNeg, G.2.2.2 (x + 5).toNatClampNeg] ⟨zfI_ok _, zfI_ok _, zfI_ok _, zfI_ok _, zfI_ok _, trivial⟩)
  rintro w h2 ⟨⟨x9, rfl⟩, ⟨fs9, hr9⟩, k9⟩
  refine r_pop (zW_mono _ _ _) lq_692 rfl ?_
  refine r_aload (zW_mono _ _ _) lq_693 rfl ?_
  refine r_aloadS (zW_mono _ _ _) lq_694 rfl ?_
  refine r_iload (zW_mono _ _ _) lq_695 rfl ?_
  refine r_push (zW_mono _ _ _) lq_696 ?_
  refine r_iadd (zW_mono _ _ _) lq_697 ?_
  refine r_sld (zW_mono _ _ _) lq_698 (zsx hx0 hx8 hN 1 (by decide) (by decide)) ?_
  refine r_aloadS (zW_mono _ _ _) lq_699 rfl ?_
  refine r_iload (zW_mono _ _ _) lq_700 rfl ?_
  refine r_push (zW_mono _ _ _) lq_701 ?_
  refine r_iadd (zW_mono _ _ _) lq_702 ?_
  refine r_sld (zW_mono _ _ _) lq_703 (zsx hx0 hx8 hN 2 (by decide) (by decide)) ?_
  refine r_aloadS (zW_mono _ _ _) lq_704 rfl ?_
  refine r_iload (zW_mono _ _ _) lq_705 rfl ?_
  refine r_push (zW_mono _ _ _) lq_706 ?_
  refine r_iadd (zW_mono _ _ _) lq_707 ?_
  refine r_sld (zW_mono _ _ _) lq_708 (zsx hx0 hx8 hN 3 (by decide) (by decide)) ?_
  refine r_aloadS (zW_mono _ _ _) lq_709 rfl ?_
  refine r_iload (zW_mono _ _ _) lq_710 rfl ?_
  refine r_push (zW_mono _ _ _) lq_711 ?_
  refine r_iadd (zW_mono _ _ _) lq_712 ?_
  refine r_sld (zW_mono _ _ _) lq_713 (zsx hx0 hx8 hN 4 (by decide) (by decide)) ?_
  refine r_aloadS (zW_mono _ _ _) lq_714 rfl ?_
  refine r_iload (zW_mono _ _ _) lq_715 rfl ?_
  refine r_push (zW_mono _ _ _) lq_716 ?_
  refine r_iadd (zW_mono _ _ _) lq_717 ?_
  refine r_sld (zW_mono _ _ _) lq_718 (zsx hx0 hx8 hN 5 (by decide) (by decide)) ?_
  refine r_virt5 (m1 := 0) (m2 := 0) (zW_mono _ _ _) lq_719 hr9 (Nat.le_of_ble_eq_true rfl) (by unfold zbud; rw [hG]; rfl) (by omega) (by omega) ?_
  refine zW_mono zTt G 64 _ _ _ _ _ ?_ k9
  rintro w h3 ⟨⟨y9, rfl⟩, e9, p9⟩
  refine r_pop (zW_mono _ _ _) lq_722 rfl ?_
  refine r_goto (zW_mono _ _ _) lq_723 ?_
  exact K h3 _ _ p9 (by omega) (by omega)
set_option maxHeartbeats 1000000 in
theorem lawop_feed {G : zG} (hG : G.1 = zProg) (hN : G.2.2.1 ≤ 4096) {P : zH → Prop} {h : zH} {x : Int32} {q : Nat} (hx : x.toInt = 8 * q) (hq : 8 * q + 8 ≤ G.2.2.1) {c n : Nat} (hc : c ≤ 182 + 8 * q) (hn : n ≤ 43931 + 800 * q) (h0 : ∃ fs, h[0]? = some (.inr (11, fs))) (A : ∀ xs, zpB [zfI, zfI, zfI, zfI, zfI] xs → zW zTt G 64 122 (.ref 0 :: xs.map Value.int) h (fun w h2 => zTy 0 w ∧ (∃ fs, h2[111]? = some (.inr (12, fs))) ∧ zW zTt G 64 196 (.ref 111 :: xs.map Value.int) h2 (fun w2 h3 => zTy 0 w2 ∧ (false = true → w2 = w) ∧ P h3))) (K : ∀ h3 c n, P h3 → c ≤ 182 + 8 * (q + 1) → n ≤ 43931 + 800 * (q + 1) → zR zTt G cd_L 600000 7302250 (some .boolean) (zW zTt G 64) (fun w _ => w = some (.int 1)) 2138 [some (.retAddr 0), some (.ref 0), some (.ref 111), some (.int x)] [] h3 c n) : zR zTt G cd_L 600000 7302250 (some .boolean) (zW zTt G 64) (fun w _ => w = some (.int 1)) 726 [some (.retAddr 0), some (.ref 0), some (.ref 111), some (.int x)] [] h c n := by
  have hx0 : 0 ≤ x.toInt := by omega
  have hx8 : x.toInt + 8 ≤ G.2.2.1 := by omega
  obtain ⟨fs0, hx_0⟩ := h0
  refine r_aload (zW_mono _ _ _) lq_726 rfl ?_
  refine r_aloadS (zW_mono _ _ _) lq_727 rfl ?_
  refine r_iload (zW_mono _ _ _) lq_728 rfl ?_
  refine r_push (zW_mono _ _ _) lq_729 ?_
  refine r_iadd (zW_mono _ _ _) lq_730 ?_
  refine r_sld (zW_mono _ _ _) lq_731 (zsx hx0 hx8 hN 1 (by decide) (by decide)) ?_
  refine r_aloadS (zW_mono _ _ _) lq_732 rfl ?_
  refine r_iload (zW_mono _ _ _) lq_733 rfl ?_
  refine r_push (zW_mono _ _ _) lq_734 ?_
  refine r_iadd (zW_mono _ _ _) lq_735 ?_
  refine r_sld (zW_mono _ _ _) lq_736 (zsx hx0 hx8 hN 2 (by decide) (by decide)) ?_
  refine r_aloadS (zW_mono _ _ _) lq_737 rfl ?_
  refine r_iload (zW_mono _ _ _) lq_738 rfl ?_
  refine r_push (zW_mono _ _ _) lq_739 ?_
  refine r_iadd (zW_mono _ _ _) lq_740 ?_
  refine r_sld (zW_mono _ _ _) lq_741 (zsx hx0 hx8 hN 3 (by decide) (by decide)) ?_
  refine r_aloadS (zW_mono _ _ _) lq_742 rfl ?_
  refine r_iload (zW_mono _ _ _) lq_743 rfl ?_
  refine r_push (zW_mono _ _ _) lq_744 ?_
  refine r_iadd (zW_mono _ _ _) lq_745 ?_
  refine r_sld (zW_mono _ _ _) lq_746 (zsx hx0 hx8 hN 4 (by decide) (by decide)) ?_
  refine r_aloadS (zW_mono _ _ _) lq_747 rfl ?_
  refine r_iload (zW_mono _ _ _) lq_748 rfl ?_
  refine r_push (zW_mono _ _ _) lq_749 ?_
  refine r_iadd (zW_mono _ _ _) lq_750 ?_
  refine r_sld (zW_mono _ _ _) lq_751 (zsx hx0 hx8 hN 5 (by decide) (by decide)) ?_
  refine r_virt5 (m1 := 0) (m2 := 0) (zW_mono _ _ _) lq_752 hx_0 (Nat.le_of_ble_eq_true rfl) (by unfold zbud; rw [hG]; rfl) (by omega) (by omega) ?_
  refine zW_mono zTt G 64 _ _ _ _ _ ?_ (A [G.2.2.2 (x + 1).toNatClampNeg, G.2.2.2 (x + 2).toNatClampNeg, G.2.2.2 (x + 3).toNatClampNeg, G.2.2.2 (x + 4).toNatClampNeg, G.2.2.2 (x + 5).toNatClampNeg] ⟨zfI_ok _, zfI_ok _, zfI_ok _, zfI_ok _, zfI_ok _, trivial⟩)
  rintro w h2 ⟨⟨x9, rfl⟩, ⟨fs9, hr9⟩, k9⟩
  refine r_pop (zW_mono _ _ _) lq_755 rfl ?_
  refine r_aload (zW_mono _ _ _) lq_756 rfl ?_
  refine r_aloadS (zW_mono _ _ _) lq_757 rfl ?_
  refine r_iload (zW_mono _ _ _) lq_758 rfl ?_
  refine r_push (zW_mono _ _ _) lq_759 ?_
  refine r_iadd (zW_mono _ _ _) lq_760 ?_
  refine r_sld (zW_mono _ _ _) lq_761 (zsx hx0 hx8 hN 1 (by decide) (by decide)) ?_
  refine r_aloadS (zW_mono _ _ _) lq_762 rfl ?_
  refine r_iload (zW_mono _ _ _) lq_763 rfl ?_
  refine r_push (zW_mono _ _ _) lq_764 ?_
  refine r_iadd (zW_mono _ _ _) lq_765 ?_
  refine r_sld (zW_mono _ _ _) lq_766 (zsx hx0 hx8 hN 2 (by decide) (by decide)) ?_
  refine r_aloadS (zW_mono _ _ _) lq_767 rfl ?_
  refine r_iload (zW_mono _ _ _) lq_768 rfl ?_
  refine r_push (zW_mono _ _ _) lq_769 ?_
  refine r_iadd (zW_mono _ _ _) lq_770 ?_
  refine r_sld (zW_mono _ _ _) lq_771 (zsx hx0 hx8 hN 3 (by decide) (by decide)) ?_
  refine r_aloadS (zW_mono _ _ _) lq_772 rfl ?_
  refine r_iload (zW_mono _ _ _) lq_773 rfl ?_
  refine r_push (zW_mono _ _ _) lq_774 ?_
  refine r_iadd (zW_mono _ _ _) lq_775 ?_
  refine r_sld (zW_mono _ _ _) lq_776 (zsx hx0 hx8 hN 4 (by decide) (by decide)) ?_
  refine r_aloadS (zW_mono _ _ _) lq_777 rfl ?_
  refine r_iload (zW_mono _ _ _) lq_778 rfl ?_
  refine r_push (zW_mono _ _ _) lq_779 ?_
  refine r_iadd (zW_mono _ _ _) lq_780 ?_
  refine r_sld (zW_mono _ _ _) lq_781 (zsx hx0 hx8 hN 5 (by decide) (by decide)) ?_
  refine r_virt5 (m1 := 0) (m2 := 0) (zW_mono _ _ _) lq_782 hr9 (Nat.le_of_ble_eq_true rfl) (by unfold zbud; rw [hG]; rfl) (by omega) (by omega) ?_
  refine zW_mono zTt G 64 _ _ _ _ _ ?_ k9
  rintro w h3 ⟨⟨y9, rfl⟩, e9, p9⟩
  refine r_pop (zW_mono _ _ _) lq_785 rfl ?_
  refine r_goto (zW_mono _ _ _) lq_786 ?_
  exact K h3 _ _ p9 (by omega) (by omega)
set_option maxHeartbeats 1000000 in
theorem lawop_end {G : zG} (hG : G.1 = zProg) (hN : G.2.2.1 ≤ 4096) {P : zH → Prop} {h : zH} {x : Int32} {q : Nat} (hx : x.toInt = 8 * q) (hq : 8 * q + 8 ≤ G.2.2.1) {c n : Nat} (hc : c ≤ 182 + 8 * q) (hn : n ≤ 43931 + 800 * q) (h0 : ∃ fs, h[0]? = some (.inr (11, fs))) (A : ∀ xs, zpB [zfI] xs → zW zTt G 64 123 (.ref 0 :: xs.map Value.int) h (fun w h2 => zTy 0 w ∧ (∃ fs, h2[111]? = some (.inr (12, fs))) ∧ zW zTt G 64 198 (.ref 111 :: xs.map Value.int) h2 (fun w2 h3 => zTy 0 w2 ∧ (false = true → w2 = w) ∧ P h3))) (K : ∀ h3 c n, P h3 → c ≤ 182 + 8 * (q + 1) → n ≤ 43931 + 800 * (q + 1) → zR zTt G cd_L 600000 7302250 (some .boolean) (zW zTt G 64) (fun w _ => w = some (.int 1)) 2138 [some (.retAddr 0), some (.ref 0), some (.ref 111), some (.int x)] [] h3 c n) : zR zTt G cd_L 600000 7302250 (some .boolean) (zW zTt G 64) (fun w _ => w = some (.int 1)) 789 [some (.retAddr 0), some (.ref 0), some (.ref 111), some (.int x)] [] h c n := by
  have hx0 : 0 ≤ x.toInt := by omega
  have hx8 : x.toInt + 8 ≤ G.2.2.1 := by omega
  obtain ⟨fs0, hx_0⟩ := h0
  refine r_aload (zW_mono _ _ _) lq_789 rfl ?_
  refine r_aloadS (zW_mono _ _ _) lq_790 rfl ?_
  refine r_iload (zW_mono _ _ _) lq_791 rfl ?_
  refine r_push (zW_mono _ _ _) lq_792 ?_
  refine r_iadd (zW_mono _ _ _) lq_793 ?_
  refine r_sld (zW_mono _ _ _) lq_794 (zsx hx0 hx8 hN 1 (by decide) (by decide)) ?_
  refine r_virt1 (m1 := 0) (m2 := 0) (zW_mono _ _ _) lq_795 hx_0 (Nat.le_of_ble_eq_true rfl) (by unfold zbud; rw [hG]; rfl) (by omega) (by omega) ?_
  refine zW_mono zTt G 64 _ _ _ _ _ ?_ (A [G.2.2.2 (x + 1).toNatClampNeg] ⟨zfI_ok _, trivial⟩)
  rintro w h2 ⟨⟨x9, rfl⟩, ⟨fs9, hr9⟩, k9⟩
  refine r_pop (zW_mono _ _ _) lq_798 rfl ?_
  refine r_aload (zW_mono _ _ _) lq_799 rfl ?_
  refine r_aloadS (zW_mono _ _ _) lq_800 rfl ?_
  refine r_iload (zW_mono _ _ _) lq_801 rfl ?_
  refine r_push (zW_mono _ _ _) lq_802 ?_
  refine r_iadd (zW_mono _ _ _) lq_803 ?_
  refine r_sld (zW_mono _ _ _) lq_804 (zsx hx0 hx8 hN 1 (by decide) (by decide)) ?_
  refine r_virt1 (m1 := 0) (m2 := 0) (zW_mono _ _ _) lq_805 hr9 (Nat.le_of_ble_eq_true rfl) (by unfold zbud; rw [hG]; rfl) (by omega) (by omega) ?_
  refine zW_mono zTt G 64 _ _ _ _ _ ?_ k9
  rintro w h3 ⟨⟨y9, rfl⟩, e9, p9⟩
  refine r_pop (zW_mono _ _ _) lq_808 rfl ?_
  refine r_goto (zW_mono _ _ _) lq_809 ?_
  exact K h3 _ _ p9 (by omega) (by omega)
set_option maxHeartbeats 1000000 in
theorem lawop_rule {G : zG} (hG : G.1 = zProg) (hN : G.2.2.1 ≤ 4096) {P : zH → Prop} {h : zH} {x : Int32} {q : Nat} (hx : x.toInt = 8 * q) (hq : 8 * q + 8 ≤ G.2.2.1) {c n : Nat} (hc : c ≤ 182 + 8 * q) (hn : n ≤ 43931 + 800 * q) (h0 : ∃ fs, h[0]? = some (.inr (11, fs))) (A : ∀ xs, zpB [zfI] xs → zW zTt G 64 124 (.ref 0 :: xs.map Value.int) h (fun w h2 => zTy 0 w ∧ (∃ fs, h2[111]? = some (.inr (12, fs))) ∧ zW zTt G 64 225 (.ref 111 :: xs.map Value.int) h2 (fun w2 h3 => zTy 0 w2 ∧ (false = true → w2 = w) ∧ P h3))) (K : ∀ h3 c n, P h3 → c ≤ 182 + 8 * (q + 1) → n ≤ 43931 + 800 * (q + 1) → zR zTt G cd_L 600000 7302250 (some .boolean) (zW zTt G 64) (fun w _ => w = some (.int 1)) 2138 [some (.retAddr 0), some (.ref 0), some (.ref 111), some (.int x)] [] h3 c n) : zR zTt G cd_L 600000 7302250 (some .boolean) (zW zTt G 64) (fun w _ => w = some (.int 1)) 812 [some (.retAddr 0), some (.ref 0), some (.ref 111), some (.int x)] [] h c n := by
  have hx0 : 0 ≤ x.toInt := by omega
  have hx8 : x.toInt + 8 ≤ G.2.2.1 := by omega
  obtain ⟨fs0, hx_0⟩ := h0
  refine r_aload (zW_mono _ _ _) lq_812 rfl ?_
  refine r_aloadS (zW_mono _ _ _) lq_813 rfl ?_
  refine r_iload (zW_mono _ _ _) lq_814 rfl ?_
  refine r_push (zW_mono _ _ _) lq_815 ?_
  refine r_iadd (zW_mono _ _ _) lq_816 ?_
  refine r_sld (zW_mono _ _ _) lq_817 (zsx hx0 hx8 hN 1 (by decide) (by decide)) ?_
  refine r_virt1 (m1 := 2) (m2 := 800) (zW_mono _ _ _) lq_818 hx_0 (Nat.le_of_ble_eq_true rfl) (by unfold zbud; rw [hG]; rfl) (by omega) (by omega) ?_
  refine zW_mono zTt G 64 _ _ _ _ _ ?_ (A [G.2.2.2 (x + 1).toNatClampNeg] ⟨zfI_ok _, trivial⟩)
  rintro w h2 ⟨⟨x9, rfl⟩, ⟨fs9, hr9⟩, k9⟩
  refine r_pop (zW_mono _ _ _) lq_821 rfl ?_
  refine r_aload (zW_mono _ _ _) lq_822 rfl ?_
  refine r_aloadS (zW_mono _ _ _) lq_823 rfl ?_
  refine r_iload (zW_mono _ _ _) lq_824 rfl ?_
  refine r_push (zW_mono _ _ _) lq_825 ?_
  refine r_iadd (zW_mono _ _ _) lq_826 ?_
  refine r_sld (zW_mono _ _ _) lq_827 (zsx hx0 hx8 hN 1 (by decide) (by decide)) ?_
  refine r_virt1 (m1 := 0) (m2 := 0) (zW_mono _ _ _) lq_828 hr9 (Nat.le_of_ble_eq_true rfl) (by unfold zbud; rw [hG]; rfl) (by omega) (by omega) ?_
  refine zW_mono zTt G 64 _ _ _ _ _ ?_ k9
  rintro w h3 ⟨⟨y9, rfl⟩, e9, p9⟩
  refine r_pop (zW_mono _ _ _) lq_831 rfl ?_
  refine r_goto (zW_mono _ _ _) lq_832 ?_
  exact K h3 _ _ p9 (by omega) (by omega)
set_option maxHeartbeats 1000000 in
theorem lawop_inForce {G : zG} (hG : G.1 = zProg) (hN : G.2.2.1 ≤ 4096) {P : zH → Prop} {h : zH} {x : Int32} {q : Nat} (hx : x.toInt = 8 * q) (hq : 8 * q + 8 ≤ G.2.2.1) {c n : Nat} (hc : c ≤ 182 + 8 * q) (hn : n ≤ 43931 + 800 * q) (h0 : ∃ fs, h[0]? = some (.inr (11, fs))) (A : ∀ xs, zpB [zfI] xs → zW zTt G 64 125 (.ref 0 :: xs.map Value.int) h (fun w h2 => zTy 0 w ∧ (∃ fs, h2[111]? = some (.inr (12, fs))) ∧ zW zTt G 64 227 (.ref 111 :: xs.map Value.int) h2 (fun w2 h3 => zTy 0 w2 ∧ (false = true → w2 = w) ∧ P h3))) (K : ∀ h3 c n, P h3 → c ≤ 182 + 8 * (q + 1) → n ≤ 43931 + 800 * (q + 1) → zR zTt G cd_L 600000 7302250 (some .boolean) (zW zTt G 64) (fun w _ => w = some (.int 1)) 2138 [some (.retAddr 0), some (.ref 0), some (.ref 111), some (.int x)] [] h3 c n) : zR zTt G cd_L 600000 7302250 (some .boolean) (zW zTt G 64) (fun w _ => w = some (.int 1)) 835 [some (.retAddr 0), some (.ref 0), some (.ref 111), some (.int x)] [] h c n := by
  have hx0 : 0 ≤ x.toInt := by omega
  have hx8 : x.toInt + 8 ≤ G.2.2.1 := by omega
  obtain ⟨fs0, hx_0⟩ := h0
  refine r_aload (zW_mono _ _ _) lq_835 rfl ?_
  refine r_aloadS (zW_mono _ _ _) lq_836 rfl ?_
  refine r_iload (zW_mono _ _ _) lq_837 rfl ?_
  refine r_push (zW_mono _ _ _) lq_838 ?_
  refine r_iadd (zW_mono _ _ _) lq_839 ?_
  refine r_sld (zW_mono _ _ _) lq_840 (zsx hx0 hx8 hN 1 (by decide) (by decide)) ?_
  refine r_virt1 (m1 := 0) (m2 := 0) (zW_mono _ _ _) lq_841 hx_0 (Nat.le_of_ble_eq_true rfl) (by unfold zbud; rw [hG]; rfl) (by omega) (by omega) ?_
  refine zW_mono zTt G 64 _ _ _ _ _ ?_ (A [G.2.2.2 (x + 1).toNatClampNeg] ⟨zfI_ok _, trivial⟩)
  rintro w h2 ⟨⟨x9, rfl⟩, ⟨fs9, hr9⟩, k9⟩
  refine r_pop (zW_mono _ _ _) lq_844 rfl ?_
  refine r_aload (zW_mono _ _ _) lq_845 rfl ?_
  refine r_aloadS (zW_mono _ _ _) lq_846 rfl ?_
  refine r_iload (zW_mono _ _ _) lq_847 rfl ?_
  refine r_push (zW_mono _ _ _) lq_848 ?_
  refine r_iadd (zW_mono _ _ _) lq_849 ?_
  refine r_sld (zW_mono _ _ _) lq_850 (zsx hx0 hx8 hN 1 (by decide) (by decide)) ?_
  refine r_virt1 (m1 := 0) (m2 := 0) (zW_mono _ _ _) lq_851 hr9 (Nat.le_of_ble_eq_true rfl) (by unfold zbud; rw [hG]; rfl) (by omega) (by omega) ?_
  refine zW_mono zTt G 64 _ _ _ _ _ ?_ k9
  rintro w h3 ⟨⟨y9, rfl⟩, e9, p9⟩
  refine r_pop (zW_mono _ _ _) lq_854 rfl ?_
  refine r_goto (zW_mono _ _ _) lq_855 ?_
  exact K h3 _ _ p9 (by omega) (by omega)
set_option maxHeartbeats 1000000 in
theorem lawop_must {G : zG} (hG : G.1 = zProg) (hN : G.2.2.1 ≤ 4096) {P : zH → Prop} {h : zH} {x : Int32} {q : Nat} (hx : x.toInt = 8 * q) (hq : 8 * q + 8 ≤ G.2.2.1) {c n : Nat} (hc : c ≤ 182 + 8 * q) (hn : n ≤ 43931 + 800 * q) (h0 : ∃ fs, h[0]? = some (.inr (11, fs))) (A : ∀ xs, zpB [zfI, zfI, zfI] xs → zW zTt G 64 126 (.ref 0 :: xs.map Value.int) h (fun w h2 => zTy 0 w ∧ (∃ fs, h2[111]? = some (.inr (12, fs))) ∧ zW zTt G 64 235 (.ref 111 :: xs.map Value.int) h2 (fun w2 h3 => zTy 0 w2 ∧ (false = true → w2 = w) ∧ P h3))) (K : ∀ h3 c n, P h3 → c ≤ 182 + 8 * (q + 1) → n ≤ 43931 + 800 * (q + 1) → zR zTt G cd_L 600000 7302250 (some .boolean) (zW zTt G 64) (fun w _ => w = some (.int 1)) 2138 [some (.retAddr 0), some (.ref 0), some (.ref 111), some (.int x)] [] h3 c n) : zR zTt G cd_L 600000 7302250 (some .boolean) (zW zTt G 64) (fun w _ => w = some (.int 1)) 858 [some (.retAddr 0), some (.ref 0), some (.ref 111), some (.int x)] [] h c n := by
  have hx0 : 0 ≤ x.toInt := by omega
  have hx8 : x.toInt + 8 ≤ G.2.2.1 := by omega
  obtain ⟨fs0, hx_0⟩ := h0
  refine r_aload (zW_mono _ _ _) lq_858 rfl ?_
  refine r_aloadS (zW_mono _ _ _) lq_859 rfl ?_
  refine r_iload (zW_mono _ _ _) lq_860 rfl ?_
  refine r_push (zW_mono _ _ _) lq_861 ?_
  refine r_iadd (zW_mono _ _ _) lq_862 ?_
  refine r_sld (zW_mono _ _ _) lq_863 (zsx hx0 hx8 hN 1 (by decide) (by decide)) ?_
  refine r_aloadS (zW_mono _ _ _) lq_864 rfl ?_
  refine r_iload (zW_mono _ _ _) lq_865 rfl ?_
  refine r_push (zW_mono _ _ _) lq_866 ?_
  refine r_iadd (zW_mono _ _ _) lq_867 ?_
  refine r_sld (zW_mono _ _ _) lq_868 (zsx hx0 hx8 hN 2 (by decide) (by decide)) ?_
  refine r_aloadS (zW_mono _ _ _) lq_869 rfl ?_
  refine r_iload (zW_mono _ _ _) lq_870 rfl ?_
  refine r_push (zW_mono _ _ _) lq_871 ?_
  refine r_iadd (zW_mono _ _ _) lq_872 ?_
  refine r_sld (zW_mono _ _ _) lq_873 (zsx hx0 hx8 hN 3 (by decide) (by decide)) ?_
  refine r_virt3 (m1 := 0) (m2 := 0) (zW_mono _ _ _) lq_874 hx_0 (Nat.le_of_ble_eq_true rfl) (by unfold zbud; rw [hG]; rfl) (by omega) (by omega) ?_
  refine zW_mono zTt G 64 _ _ _ _ _ ?_ (A [G.2.2.2 (x + 1).toNatClampNeg, G.2.2.2 (x + 2).toNatClampNeg, G.2.2.2 (x + 3).toNatClampNeg] ⟨zfI_ok _, zfI_ok _, zfI_ok _, trivial⟩)
  rintro w h2 ⟨⟨x9, rfl⟩, ⟨fs9, hr9⟩, k9⟩
  refine r_pop (zW_mono _ _ _) lq_877 rfl ?_
  refine r_aload (zW_mono _ _ _) lq_878 rfl ?_
  refine r_aloadS (zW_mono _ _ _) lq_879 rfl ?_
  refine r_iload (zW_mono _ _ _) lq_880 rfl ?_
  refine r_push (zW_mono _ _ _) lq_881 ?_
  refine r_iadd (zW_mono _ _ _) lq_882 ?_
  refine r_sld (zW_mono _ _ _) lq_883 (zsx hx0 hx8 hN 1 (by decide) (by decide)) ?_
  refine r_aloadS (zW_mono _ _ _) lq_884 rfl ?_
  refine r_iload (zW_mono _ _ _) lq_885 rfl ?_
  refine r_push (zW_mono _ _ _) lq_886 ?_
  refine r_iadd (zW_mono _ _ _) lq_887 ?_
  refine r_sld (zW_mono _ _ _) lq_888 (zsx hx0 hx8 hN 2 (by decide) (by decide)) ?_
  refine r_aloadS (zW_mono _ _ _) lq_889 rfl ?_
  refine r_iload (zW_mono _ _ _) lq_890 rfl ?_
  refine r_push (zW_mono _ _ _) lq_891 ?_
  refine r_iadd (zW_mono _ _ _) lq_892 ?_
  refine r_sld (zW_mono _ _ _) lq_893 (zsx hx0 hx8 hN 3 (by decide) (by decide)) ?_
  refine r_virt3 (m1 := 0) (m2 := 0) (zW_mono _ _ _) lq_894 hr9 (Nat.le_of_ble_eq_true rfl) (by unfold zbud; rw [hG]; rfl) (by omega) (by omega) ?_
  refine zW_mono zTt G 64 _ _ _ _ _ ?_ k9
  rintro w h3 ⟨⟨y9, rfl⟩, e9, p9⟩
  refine r_pop (zW_mono _ _ _) lq_897 rfl ?_
  refine r_goto (zW_mono _ _ _) lq_898 ?_
  exact K h3 _ _ p9 (by omega) (by omega)
set_option maxHeartbeats 1000000 in
theorem lawop_fails {G : zG} (hG : G.1 = zProg) (hN : G.2.2.1 ≤ 4096) {P : zH → Prop} {h : zH} {x : Int32} {q : Nat} (hx : x.toInt = 8 * q) (hq : 8 * q + 8 ≤ G.2.2.1) {c n : Nat} (hc : c ≤ 182 + 8 * q) (hn : n ≤ 43931 + 800 * q) (h0 : ∃ fs, h[0]? = some (.inr (11, fs))) (A : ∀ xs, zpB [zfI, zfI, zfI] xs → zW zTt G 64 127 (.ref 0 :: xs.map Value.int) h (fun w h2 => zTy 0 w ∧ (∃ fs, h2[111]? = some (.inr (12, fs))) ∧ zW zTt G 64 236 (.ref 111 :: xs.map Value.int) h2 (fun w2 h3 => zTy 0 w2 ∧ (false = true → w2 = w) ∧ P h3))) (K : ∀ h3 c n, P h3 → c ≤ 182 + 8 * (q + 1) → n ≤ 43931 + 800 * (q + 1) → zR zTt G cd_L 600000 7302250 (some .boolean) (zW zTt G 64) (fun w _ => w = some (.int 1)) 2138 [some (.retAddr 0), some (.ref 0), some (.ref 111), some (.int x)] [] h3 c n) : zR zTt G cd_L 600000 7302250 (some .boolean) (zW zTt G 64) (fun w _ => w = some (.int 1)) 901 [some (.retAddr 0), some (.ref 0), some (.ref 111), some (.int x)] [] h c n := by
  have hx0 : 0 ≤ x.toInt := by omega
  have hx8 : x.toInt + 8 ≤ G.2.2.1 := by omega
  obtain ⟨fs0, hx_0⟩ := h0
  refine r_aload (zW_mono _ _ _) lq_901 rfl ?_
  refine r_aloadS (zW_mono _ _ _) lq_902 rfl ?_
  refine r_iload (zW_mono _ _ _) lq_903 rfl ?_
  refine r_push (zW_mono _ _ _) lq_904 ?_
  refine r_iadd (zW_mono _ _ _) lq_905 ?_
  refine r_sld (zW_mono _ _ _) lq_906 (zsx hx0 hx8 hN 1 (by decide) (by decide)) ?_
  refine r_aloadS (zW_mono _ _ _) lq_907 rfl ?_
  refine r_iload (zW_mono _ _ _) lq_908 rfl ?_
  refine r_push (zW_mono _ _ _) lq_909 ?_
  refine r_iadd (zW_mono _ _ _) lq_910 ?_
  refine r_sld (zW_mono _ _ _) lq_911 (zsx hx0 hx8 hN 2 (by decide) (by decide)) ?_
  refine r_aloadS (zW_mono _ _ _) lq_912 rfl ?_
  refine r_iload (zW_mono _ _ _) lq_913 rfl ?_
  refine r_push (zW_mono _ _ _) lq_914 ?_
  refine r_iadd (zW_mono _ _ _) lq_915 ?_
  refine r_sld (zW_mono _ _ _) lq_916 (zsx hx0 hx8 hN 3 (by decide) (by decide)) ?_
  refine r_virt3 (m1 := 0) (m2 := 0) (zW_mono _ _ _) lq_917 hx_0 (Nat.le_of_ble_eq_true rfl) (by unfold zbud; rw [hG]; rfl) (by omega) (by omega) ?_
  refine zW_mono zTt G 64 _ _ _ _ _ ?_ (A [G.2.2.2 (x + 1).toNatClampNeg, G.2.2.2 (x + 2).toNatClampNeg, G.2.2.2 (x + 3).toNatClampNeg] ⟨zfI_ok _, zfI_ok _, zfI_ok _, trivial⟩)
  rintro w h2 ⟨⟨x9, rfl⟩, ⟨fs9, hr9⟩, k9⟩
  refine r_pop (zW_mono _ _ _) lq_920 rfl ?_
  refine r_aload (zW_mono _ _ _) lq_921 rfl ?_
  refine r_aloadS (zW_mono _ _ _) lq_922 rfl ?_
  refine r_iload (zW_mono _ _ _) lq_923 rfl ?_
  refine r_push (zW_mono _ _ _) lq_924 ?_
  refine r_iadd (zW_mono _ _ _) lq_925 ?_
  refine r_sld (zW_mono _ _ _) lq_926 (zsx hx0 hx8 hN 1 (by decide) (by decide)) ?_
  refine r_aloadS (zW_mono _ _ _) lq_927 rfl ?_
  refine r_iload (zW_mono _ _ _) lq_928 rfl ?_
  refine r_push (zW_mono _ _ _) lq_929 ?_
  refine r_iadd (zW_mono _ _ _) lq_930 ?_
  refine r_sld (zW_mono _ _ _) lq_931 (zsx hx0 hx8 hN 2 (by decide) (by decide)) ?_
  refine r_aloadS (zW_mono _ _ _) lq_932 rfl ?_
  refine r_iload (zW_mono _ _ _) lq_933 rfl ?_
  refine r_push (zW_mono _ _ _) lq_934 ?_
  refine r_iadd (zW_mono _ _ _) lq_935 ?_
  refine r_sld (zW_mono _ _ _) lq_936 (zsx hx0 hx8 hN 3 (by decide) (by decide)) ?_
  refine r_virt3 (m1 := 0) (m2 := 0) (zW_mono _ _ _) lq_937 hr9 (Nat.le_of_ble_eq_true rfl) (by unfold zbud; rw [hG]; rfl) (by omega) (by omega) ?_
  refine zW_mono zTt G 64 _ _ _ _ _ ?_ k9
  rintro w h3 ⟨⟨y9, rfl⟩, e9, p9⟩
  refine r_pop (zW_mono _ _ _) lq_940 rfl ?_
  refine r_goto (zW_mono _ _ _) lq_941 ?_
  exact K h3 _ _ p9 (by omega) (by omega)
set_option maxHeartbeats 1000000 in
theorem lawop_owed {G : zG} (hG : G.1 = zProg) (hN : G.2.2.1 ≤ 4096) {P : zH → Prop} {h : zH} {x : Int32} {q : Nat} (hx : x.toInt = 8 * q) (hq : 8 * q + 8 ≤ G.2.2.1) {c n : Nat} (hc : c ≤ 182 + 8 * q) (hn : n ≤ 43931 + 800 * q) (h0 : ∃ fs, h[0]? = some (.inr (11, fs))) (A : ∀ xs, zpB [zfI, zfI] xs → zW zTt G 64 128 (.ref 0 :: xs.map Value.int) h (fun w h2 => zTy 0 w ∧ (∃ fs, h2[111]? = some (.inr (12, fs))) ∧ zW zTt G 64 237 (.ref 111 :: xs.map Value.int) h2 (fun w2 h3 => zTy 0 w2 ∧ (false = true → w2 = w) ∧ P h3))) (K : ∀ h3 c n, P h3 → c ≤ 182 + 8 * (q + 1) → n ≤ 43931 + 800 * (q + 1) → zR zTt G cd_L 600000 7302250 (some .boolean) (zW zTt G 64) (fun w _ => w = some (.int 1)) 2138 [some (.retAddr 0), some (.ref 0), some (.ref 111), some (.int x)] [] h3 c n) : zR zTt G cd_L 600000 7302250 (some .boolean) (zW zTt G 64) (fun w _ => w = some (.int 1)) 944 [some (.retAddr 0), some (.ref 0), some (.ref 111), some (.int x)] [] h c n := by
  have hx0 : 0 ≤ x.toInt := by omega
  have hx8 : x.toInt + 8 ≤ G.2.2.1 := by omega
  obtain ⟨fs0, hx_0⟩ := h0
  refine r_aload (zW_mono _ _ _) lq_944 rfl ?_
  refine r_aloadS (zW_mono _ _ _) lq_945 rfl ?_
  refine r_iload (zW_mono _ _ _) lq_946 rfl ?_
  refine r_push (zW_mono _ _ _) lq_947 ?_
  refine r_iadd (zW_mono _ _ _) lq_948 ?_
  refine r_sld (zW_mono _ _ _) lq_949 (zsx hx0 hx8 hN 1 (by decide) (by decide)) ?_
  refine r_aloadS (zW_mono _ _ _) lq_950 rfl ?_
  refine r_iload (zW_mono _ _ _) lq_951 rfl ?_
  refine r_push (zW_mono _ _ _) lq_952 ?_
  refine r_iadd (zW_mono _ _ _) lq_953 ?_
  refine r_sld (zW_mono _ _ _) lq_954 (zsx hx0 hx8 hN 2 (by decide) (by decide)) ?_
  refine r_virt2 (m1 := 0) (m2 := 0) (zW_mono _ _ _) lq_955 hx_0 (Nat.le_of_ble_eq_true rfl) (by unfold zbud; rw [hG]; rfl) (by omega) (by omega) ?_
  refine zW_mono zTt G 64 _ _ _ _ _ ?_ (A [G.2.2.2 (x + 1).toNatClampNeg, G.2.2.2 (x + 2).toNatClampNeg] ⟨zfI_ok _, zfI_ok _, trivial⟩)
  rintro w h2 ⟨⟨x9, rfl⟩, ⟨fs9, hr9⟩, k9⟩
  refine r_pop (zW_mono _ _ _) lq_958 rfl ?_
  refine r_aload (zW_mono _ _ _) lq_959 rfl ?_
  refine r_aloadS (zW_mono _ _ _) lq_960 rfl ?_
  refine r_iload (zW_mono _ _ _) lq_961 rfl ?_
  refine r_push (zW_mono _ _ _) lq_962 ?_
  refine r_iadd (zW_mono _ _ _) lq_963 ?_
  refine r_sld (zW_mono _ _ _) lq_964 (zsx hx0 hx8 hN 1 (by decide) (by decide)) ?_
  refine r_aloadS (zW_mono _ _ _) lq_965 rfl ?_
  refine r_iload (zW_mono _ _ _) lq_966 rfl ?_
  refine r_push (zW_mono _ _ _) lq_967 ?_
  refine r_iadd (zW_mono _ _ _) lq_968 ?_
  refine r_sld (zW_mono _ _ _) lq_969 (zsx hx0 hx8 hN 2 (by decide) (by decide)) ?_
  refine r_virt2 (m1 := 0) (m2 := 0) (zW_mono _ _ _) lq_970 hr9 (Nat.le_of_ble_eq_true rfl) (by unfold zbud; rw [hG]; rfl) (by omega) (by omega) ?_
  refine zW_mono zTt G 64 _ _ _ _ _ ?_ k9
  rintro w h3 ⟨⟨y9, rfl⟩, e9, p9⟩
  refine r_pop (zW_mono _ _ _) lq_973 rfl ?_
  refine r_goto (zW_mono _ _ _) lq_974 ?_
  exact K h3 _ _ p9 (by omega) (by omega)
set_option maxHeartbeats 1000000 in
theorem lawop_test {G : zG} (hG : G.1 = zProg) (hN : G.2.2.1 ≤ 4096) {P : zH → Prop} {h : zH} {x : Int32} {q : Nat} (hx : x.toInt = 8 * q) (hq : 8 * q + 8 ≤ G.2.2.1) {c n : Nat} (hc : c ≤ 182 + 8 * q) (hn : n ≤ 43931 + 800 * q) (h0 : ∃ fs, h[0]? = some (.inr (11, fs))) (A : ∀ xs, zpB [zfI, zfI, zfI, zbI] xs → zW zTt G 64 129 (.ref 0 :: xs.map Value.int) h (fun w h2 => zTy 0 w ∧ (∃ fs, h2[111]? = some (.inr (12, fs))) ∧ zW zTt G 64 238 (.ref 111 :: xs.map Value.int) h2 (fun w2 h3 => zTy 0 w2 ∧ (false = true → w2 = w) ∧ P h3))) (K : ∀ h3 c n, P h3 → c ≤ 182 + 8 * (q + 1) → n ≤ 43931 + 800 * (q + 1) → zR zTt G cd_L 600000 7302250 (some .boolean) (zW zTt G 64) (fun w _ => w = some (.int 1)) 2138 [some (.retAddr 0), some (.ref 0), some (.ref 111), some (.int x)] [] h3 c n) : zR zTt G cd_L 600000 7302250 (some .boolean) (zW zTt G 64) (fun w _ => w = some (.int 1)) 977 [some (.retAddr 0), some (.ref 0), some (.ref 111), some (.int x)] [] h c n := by
  have hx0 : 0 ≤ x.toInt := by omega
  have hx8 : x.toInt + 8 ≤ G.2.2.1 := by omega
  obtain ⟨fs0, hx_0⟩ := h0
  refine r_aload (zW_mono _ _ _) lq_977 rfl ?_
  refine r_aloadS (zW_mono _ _ _) lq_978 rfl ?_
  refine r_iload (zW_mono _ _ _) lq_979 rfl ?_
  refine r_push (zW_mono _ _ _) lq_980 ?_
  refine r_iadd (zW_mono _ _ _) lq_981 ?_
  refine r_sld (zW_mono _ _ _) lq_982 (zsx hx0 hx8 hN 1 (by decide) (by decide)) ?_
  refine r_aloadS (zW_mono _ _ _) lq_983 rfl ?_
  refine r_iload (zW_mono _ _ _) lq_984 rfl ?_
  refine r_push (zW_mono _ _ _) lq_985 ?_
  refine r_iadd (zW_mono _ _ _) lq_986 ?_
  refine r_sld (zW_mono _ _ _) lq_987 (zsx hx0 hx8 hN 2 (by decide) (by decide)) ?_
  refine r_aloadS (zW_mono _ _ _) lq_988 rfl ?_
  refine r_iload (zW_mono _ _ _) lq_989 rfl ?_
  refine r_push (zW_mono _ _ _) lq_990 ?_
  refine r_iadd (zW_mono _ _ _) lq_991 ?_
  refine r_sld (zW_mono _ _ _) lq_992 (zsx hx0 hx8 hN 3 (by decide) (by decide)) ?_
  refine r_aloadS (zW_mono _ _ _) lq_993 rfl ?_
  refine r_iload (zW_mono _ _ _) lq_994 rfl ?_
  refine r_push (zW_mono _ _ _) lq_995 ?_
  refine r_iadd (zW_mono _ _ _) lq_996 ?_
  refine r_sld (zW_mono _ _ _) lq_997 (zsx hx0 hx8 hN 4 (by decide) (by decide)) ?_
  refine r_if_eq (zW_mono _ _ _) lq_998 (fun q4 => ?_) (fun q4 => ?_)
  · refine r_push (zW_mono _ _ _) lq_1005 ?_
    refine r_virt4 (m1 := 0) (m2 := 0) (zW_mono _ _ _) lq_1006 hx_0 (Nat.le_of_ble_eq_true rfl) (by unfold zbud; rw [hG]; rfl) (by omega) (by omega) ?_
    refine zW_mono zTt G 64 _ _ _ _ _ ?_ (A [G.2.2.2 (x + 1).toNatClampNeg, G.2.2.2 (x + 2).toNatClampNeg, G.2.2.2 (x + 3).toNatClampNeg, 0] ⟨zfI_ok _, zfI_ok _, zfI_ok _, ⟨by decide, by decide⟩, trivial⟩)
    rintro w h2 ⟨⟨x9, rfl⟩, ⟨fs9, hr9⟩, k9⟩
    refine r_pop (zW_mono _ _ _) lq_1009 rfl ?_
    refine r_aload (zW_mono _ _ _) lq_1010 rfl ?_
    refine r_aloadS (zW_mono _ _ _) lq_1011 rfl ?_
    refine r_iload (zW_mono _ _ _) lq_1012 rfl ?_
    refine r_push (zW_mono _ _ _) lq_1013 ?_
    refine r_iadd (zW_mono _ _ _) lq_1014 ?_
    refine r_sld (zW_mono _ _ _) lq_1015 (zsx hx0 hx8 hN 1 (by decide) (by decide)) ?_
    refine r_aloadS (zW_mono _ _ _) lq_1016 rfl ?_
    refine r_iload (zW_mono _ _ _) lq_1017 rfl ?_
    refine r_push (zW_mono _ _ _) lq_1018 ?_
    refine r_iadd (zW_mono _ _ _) lq_1019 ?_
    refine r_sld (zW_mono _ _ _) lq_1020 (zsx hx0 hx8 hN 2 (by decide) (by decide)) ?_
    refine r_aloadS (zW_mono _ _ _) lq_1021 rfl ?_
    refine r_iload (zW_mono _ _ _) lq_1022 rfl ?_
    refine r_push (zW_mono _ _ _) lq_1023 ?_
    refine r_iadd (zW_mono _ _ _) lq_1024 ?_
    refine r_sld (zW_mono _ _ _) lq_1025 (zsx hx0 hx8 hN 3 (by decide) (by decide)) ?_
    refine r_aloadS (zW_mono _ _ _) lq_1026 rfl ?_
    refine r_iload (zW_mono _ _ _) lq_1027 rfl ?_
    refine r_push (zW_mono _ _ _) lq_1028 ?_
    refine r_iadd (zW_mono _ _ _) lq_1029 ?_
    refine r_sld (zW_mono _ _ _) lq_1030 (zsx hx0 hx8 hN 4 (by decide) (by decide)) ?_
    refine r_if_eq (zW_mono _ _ _) lq_1031 (fun _ => ?_) (fun q => absurd q4 q)
    refine r_push (zW_mono _ _ _) lq_1038 ?_
    refine r_virt4 (m1 := 0) (m2 := 0) (zW_mono _ _ _) lq_1039 hr9 (Nat.le_of_ble_eq_true rfl) (by unfold zbud; rw [hG]; rfl) (by omega) (by omega) ?_
    refine zW_mono zTt G 64 _ _ _ _ _ ?_ k9
    rintro w h3 ⟨⟨y9, rfl⟩, e9, p9⟩
    refine r_pop (zW_mono _ _ _) lq_1042 rfl ?_
    refine r_goto (zW_mono _ _ _) lq_1043 ?_
    exact K h3 _ _ p9 (by omega) (by omega)
  · refine r_push (zW_mono _ _ _) lq_1001 ?_
    refine r_goto (zW_mono _ _ _) lq_1002 ?_
    refine r_virt4 (m1 := 0) (m2 := 0) (zW_mono _ _ _) lq_1006 hx_0 (Nat.le_of_ble_eq_true rfl) (by unfold zbud; rw [hG]; rfl) (by omega) (by omega) ?_
    refine zW_mono zTt G 64 _ _ _ _ _ ?_ (A [G.2.2.2 (x + 1).toNatClampNeg, G.2.2.2 (x + 2).toNatClampNeg, G.2.2.2 (x + 3).toNatClampNeg, 1] ⟨zfI_ok _, zfI_ok _, zfI_ok _, ⟨by decide, by decide⟩, trivial⟩)
    rintro w h2 ⟨⟨x9, rfl⟩, ⟨fs9, hr9⟩, k9⟩
    refine r_pop (zW_mono _ _ _) lq_1009 rfl ?_
    refine r_aload (zW_mono _ _ _) lq_1010 rfl ?_
    refine r_aloadS (zW_mono _ _ _) lq_1011 rfl ?_
    refine r_iload (zW_mono _ _ _) lq_1012 rfl ?_
    refine r_push (zW_mono _ _ _) lq_1013 ?_
    refine r_iadd (zW_mono _ _ _) lq_1014 ?_
    refine r_sld (zW_mono _ _ _) lq_1015 (zsx hx0 hx8 hN 1 (by decide) (by decide)) ?_
    refine r_aloadS (zW_mono _ _ _) lq_1016 rfl ?_
    refine r_iload (zW_mono _ _ _) lq_1017 rfl ?_
    refine r_push (zW_mono _ _ _) lq_1018 ?_
    refine r_iadd (zW_mono _ _ _) lq_1019 ?_
    refine r_sld (zW_mono _ _ _) lq_1020 (zsx hx0 hx8 hN 2 (by decide) (by decide)) ?_
    refine r_aloadS (zW_mono _ _ _) lq_1021 rfl ?_
    refine r_iload (zW_mono _ _ _) lq_1022 rfl ?_
    refine r_push (zW_mono _ _ _) lq_1023 ?_
    refine r_iadd (zW_mono _ _ _) lq_1024 ?_
    refine r_sld (zW_mono _ _ _) lq_1025 (zsx hx0 hx8 hN 3 (by decide) (by decide)) ?_
    refine r_aloadS (zW_mono _ _ _) lq_1026 rfl ?_
    refine r_iload (zW_mono _ _ _) lq_1027 rfl ?_
    refine r_push (zW_mono _ _ _) lq_1028 ?_
    refine r_iadd (zW_mono _ _ _) lq_1029 ?_
    refine r_sld (zW_mono _ _ _) lq_1030 (zsx hx0 hx8 hN 4 (by decide) (by decide)) ?_
    refine r_if_eq (zW_mono _ _ _) lq_1031 (fun q => absurd q q4) (fun _ => ?_)
    refine r_push (zW_mono _ _ _) lq_1034 ?_
    refine r_goto (zW_mono _ _ _) lq_1035 ?_
    refine r_virt4 (m1 := 0) (m2 := 0) (zW_mono _ _ _) lq_1039 hr9 (Nat.le_of_ble_eq_true rfl) (by unfold zbud; rw [hG]; rfl) (by omega) (by omega) ?_
    refine zW_mono zTt G 64 _ _ _ _ _ ?_ k9
    rintro w h3 ⟨⟨y9, rfl⟩, e9, p9⟩
    refine r_pop (zW_mono _ _ _) lq_1042 rfl ?_
    refine r_goto (zW_mono _ _ _) lq_1043 ?_
    exact K h3 _ _ p9 (by omega) (by omega)
set_option maxHeartbeats 1000000 in
theorem lawop_reads {G : zG} (hG : G.1 = zProg) (hN : G.2.2.1 ≤ 4096) {P : zH → Prop} {h : zH} {x : Int32} {q : Nat} (hx : x.toInt = 8 * q) (hq : 8 * q + 8 ≤ G.2.2.1) {c n : Nat} (hc : c ≤ 182 + 8 * q) (hn : n ≤ 43931 + 800 * q) (h0 : ∃ fs, h[0]? = some (.inr (11, fs))) (A : ∀ xs, zpB [zfI, zfI] xs → zW zTt G 64 130 (.ref 0 :: xs.map Value.int) h (fun w h2 => zTy 0 w ∧ (∃ fs, h2[111]? = some (.inr (12, fs))) ∧ zW zTt G 64 239 (.ref 111 :: xs.map Value.int) h2 (fun w2 h3 => zTy 0 w2 ∧ (false = true → w2 = w) ∧ P h3))) (K : ∀ h3 c n, P h3 → c ≤ 182 + 8 * (q + 1) → n ≤ 43931 + 800 * (q + 1) → zR zTt G cd_L 600000 7302250 (some .boolean) (zW zTt G 64) (fun w _ => w = some (.int 1)) 2138 [some (.retAddr 0), some (.ref 0), some (.ref 111), some (.int x)] [] h3 c n) : zR zTt G cd_L 600000 7302250 (some .boolean) (zW zTt G 64) (fun w _ => w = some (.int 1)) 1046 [some (.retAddr 0), some (.ref 0), some (.ref 111), some (.int x)] [] h c n := by
  have hx0 : 0 ≤ x.toInt := by omega
  have hx8 : x.toInt + 8 ≤ G.2.2.1 := by omega
  obtain ⟨fs0, hx_0⟩ := h0
  refine r_aload (zW_mono _ _ _) lq_1046 rfl ?_
  refine r_aloadS (zW_mono _ _ _) lq_1047 rfl ?_
  refine r_iload (zW_mono _ _ _) lq_1048 rfl ?_
  refine r_push (zW_mono _ _ _) lq_1049 ?_
  refine r_iadd (zW_mono _ _ _) lq_1050 ?_
  refine r_sld (zW_mono _ _ _) lq_1051 (zsx hx0 hx8 hN 1 (by decide) (by decide)) ?_
  refine r_aloadS (zW_mono _ _ _) lq_1052 rfl ?_
  refine r_iload (zW_mono _ _ _) lq_1053 rfl ?_
  refine r_push (zW_mono _ _ _) lq_1054 ?_
  refine r_iadd (zW_mono _ _ _) lq_1055 ?_
  refine r_sld (zW_mono _ _ _) lq_1056 (zsx hx0 hx8 hN 2 (by decide) (by decide)) ?_
  refine r_virt2 (m1 := 0) (m2 := 0) (zW_mono _ _ _) lq_1057 hx_0 (Nat.le_of_ble_eq_true rfl) (by unfold zbud; rw [hG]; rfl) (by omega) (by omega) ?_
  refine zW_mono zTt G 64 _ _ _ _ _ ?_ (A [G.2.2.2 (x + 1).toNatClampNeg, G.2.2.2 (x + 2).toNatClampNeg] ⟨zfI_ok _, zfI_ok _, trivial⟩)
  rintro w h2 ⟨⟨x9, rfl⟩, ⟨fs9, hr9⟩, k9⟩
  refine r_pop (zW_mono _ _ _) lq_1060 rfl ?_
  refine r_aload (zW_mono _ _ _) lq_1061 rfl ?_
  refine r_aloadS (zW_mono _ _ _) lq_1062 rfl ?_
  refine r_iload (zW_mono _ _ _) lq_1063 rfl ?_
  refine r_push (zW_mono _ _ _) lq_1064 ?_
  refine r_iadd (zW_mono _ _ _) lq_1065 ?_
  refine r_sld (zW_mono _ _ _) lq_1066 (zsx hx0 hx8 hN 1 (by decide) (by decide)) ?_
  refine r_aloadS (zW_mono _ _ _) lq_1067 rfl ?_
  refine r_iload (zW_mono _ _ _) lq_1068 rfl ?_
  refine r_push (zW_mono _ _ _) lq_1069 ?_
  refine r_iadd (zW_mono _ _ _) lq_1070 ?_
  refine r_sld (zW_mono _ _ _) lq_1071 (zsx hx0 hx8 hN 2 (by decide) (by decide)) ?_
  refine r_virt2 (m1 := 0) (m2 := 0) (zW_mono _ _ _) lq_1072 hr9 (Nat.le_of_ble_eq_true rfl) (by unfold zbud; rw [hG]; rfl) (by omega) (by omega) ?_
  refine zW_mono zTt G 64 _ _ _ _ _ ?_ k9
  rintro w h3 ⟨⟨y9, rfl⟩, e9, p9⟩
  refine r_pop (zW_mono _ _ _) lq_1075 rfl ?_
  refine r_goto (zW_mono _ _ _) lq_1076 ?_
  exact K h3 _ _ p9 (by omega) (by omega)
set_option maxHeartbeats 1000000 in
theorem lawop_knew {G : zG} (hG : G.1 = zProg) (hN : G.2.2.1 ≤ 4096) {P : zH → Prop} {h : zH} {x : Int32} {q : Nat} (hx : x.toInt = 8 * q) (hq : 8 * q + 8 ≤ G.2.2.1) {c n : Nat} (hc : c ≤ 182 + 8 * q) (hn : n ≤ 43931 + 800 * q) (h0 : ∃ fs, h[0]? = some (.inr (11, fs))) (A : ∀ xs, zpB [zfI, zfI, zfI, zfI, zfI] xs → zW zTt G 64 131 (.ref 0 :: xs.map Value.int) h (fun w h2 => zTy 0 w ∧ (∃ fs, h2[111]? = some (.inr (12, fs))) ∧ zW zTt G 64 241 (.ref 111 :: xs.map Value.int) h2 (fun w2 h3 => zTy 0 w2 ∧ (false = true → w2 = w) ∧ P h3))) (K : ∀ h3 c n, P h3 → c ≤ 182 + 8 * (q + 1) → n ≤ 43931 + 800 * (q + 1) → zR zTt G cd_L 600000 7302250 (some .boolean) (zW zTt G 64) (fun w _ => w = some (.int 1)) 2138 [some (.retAddr 0), some (.ref 0), some (.ref 111), some (.int x)] [] h3 c n) : zR zTt G cd_L 600000 7302250 (some .boolean) (zW zTt G 64) (fun w _ => w = some (.int 1)) 1079 [some (.retAddr 0), some (.ref 0), some (.ref 111), some (.int x)] [] h c n := by
  have hx0 : 0 ≤ x.toInt := by omega
  have hx8 : x.toInt + 8 ≤ G.2.2.1 := by omega
  obtain ⟨fs0, hx_0⟩ := h0
  refine r_aload (zW_mono _ _ _) lq_1079 rfl ?_
  refine r_aloadS (zW_mono _ _ _) lq_1080 rfl ?_
  refine r_iload (zW_mono _ _ _) lq_1081 rfl ?_
  refine r_push (zW_mono _ _ _) lq_1082 ?_
  refine r_iadd (zW_mono _ _ _) lq_1083 ?_
  refine r_sld (zW_mono _ _ _) lq_1084 (zsx hx0 hx8 hN 1 (by decide) (by decide)) ?_
  refine r_aloadS (zW_mono _ _ _) lq_1085 rfl ?_
  refine r_iload (zW_mono _ _ _) lq_1086 rfl ?_
  refine r_push (zW_mono _ _ _) lq_1087 ?_
  refine r_iadd (zW_mono _ _ _) lq_1088 ?_
  refine r_sld (zW_mono _ _ _) lq_1089 (zsx hx0 hx8 hN 2 (by decide) (by decide)) ?_
  refine r_aloadS (zW_mono _ _ _) lq_1090 rfl ?_
  refine r_iload (zW_mono _ _ _) lq_1091 rfl ?_
  refine r_push (zW_mono _ _ _) lq_1092 ?_
  refine r_iadd (zW_mono _ _ _) lq_1093 ?_
  refine r_sld (zW_mono _ _ _) lq_1094 (zsx hx0 hx8 hN 3 (by decide) (by decide)) ?_
  refine r_aloadS (zW_mono _ _ _) lq_1095 rfl ?_
  refine r_iload (zW_mono _ _ _) lq_1096 rfl ?_
  refine r_push (zW_mono _ _ _) lq_1097 ?_
  refine r_iadd (zW_mono _ _ _) lq_1098 ?_
  refine r_sld (zW_mono _ _ _) lq_1099 (zsx hx0 hx8 hN 4 (by decide) (by decide)) ?_
  refine r_aloadS (zW_mono _ _ _) lq_1100 rfl ?_
  refine r_iload (zW_mono _ _ _) lq_1101 rfl ?_
  refine r_push (zW_mono _ _ _) lq_1102 ?_
  refine r_iadd (zW_mono _ _ _) lq_1103 ?_
  refine r_sld (zW_mono _ _ _) lq_1104 (zsx hx0 hx8 hN 5 (by decide) (by decide)) ?_
  refine r_virt5 (m1 := 0) (m2 := 0) (zW_mono _ _ _) lq_1105 hx_0 (Nat.le_of_ble_eq_true rfl) (by unfold zbud; rw [hG]; rfl) (by omega) (by omega) ?_
  refine zW_mono zTt G 64 _ _ _ _ _ ?_ (A [G.2.2.2 (x + 1).toNatClampNeg, G.2.2.2 (x + 2).toNatClampNeg, G.2.2.2 (x + 3).toNatClampNeg, G.2.2.2 (x + 4).toNatClampNeg, G.2.2.2 (x + 5).toNatClampNeg] ⟨zfI_ok _, zfI_ok _, zfI_ok _, zfI_ok _, zfI_ok _, trivial⟩)
  rintro w h2 ⟨⟨x9, rfl⟩, ⟨fs9, hr9⟩, k9⟩
  refine r_pop (zW_mono _ _ _) lq_1108 rfl ?_
  refine r_aload (zW_mono _ _ _) lq_1109 rfl ?_
  refine r_aloadS (zW_mono _ _ _) lq_1110 rfl ?_
  refine r_iload (zW_mono _ _ _) lq_1111 rfl ?_
  refine r_push (zW_mono _ _ _) lq_1112 ?_
  refine r_iadd (zW_mono _ _ _) lq_1113 ?_
  refine r_sld (zW_mono _ _ _) lq_1114 (zsx hx0 hx8 hN 1 (by decide) (by decide)) ?_
  refine r_aloadS (zW_mono _ _ _) lq_1115 rfl ?_
  refine r_iload (zW_mono _ _ _) lq_1116 rfl ?_
  refine r_push (zW_mono _ _ _) lq_1117 ?_
  refine r_iadd (zW_mono _ _ _) lq_1118 ?_
  refine r_sld (zW_mono _ _ _) lq_1119 (zsx hx0 hx8 hN 2 (by decide) (by decide)) ?_
  refine r_aloadS (zW_mono _ _ _) lq_1120 rfl ?_
  refine r_iload (zW_mono _ _ _) lq_1121 rfl ?_
  refine r_push (zW_mono _ _ _) lq_1122 ?_
  refine r_iadd (zW_mono _ _ _) lq_1123 ?_
  refine r_sld (zW_mono _ _ _) lq_1124 (zsx hx0 hx8 hN 3 (by decide) (by decide)) ?_
  refine r_aloadS (zW_mono _ _ _) lq_1125 rfl ?_
  refine r_iload (zW_mono _ _ _) lq_1126 rfl ?_
  refine r_push (zW_mono _ _ _) lq_1127 ?_
  refine r_iadd (zW_mono _ _ _) lq_1128 ?_
  refine r_sld (zW_mono _ _ _) lq_1129 (zsx hx0 hx8 hN 4 (by decide) (by decide)) ?_
  refine r_aloadS (zW_mono _ _ _) lq_1130 rfl ?_
  refine r_iload (zW_mono _ _ _) lq_1131 rfl ?_
  refine r_push (zW_mono _ _ _) lq_1132 ?_
  refine r_iadd (zW_mono _ _ _) lq_1133 ?_
  refine r_sld (zW_mono _ _ _) lq_1134 (zsx hx0 hx8 hN 5 (by decide) (by decide)) ?_
  refine r_virt5 (m1 := 0) (m2 := 0) (zW_mono _ _ _) lq_1135 hr9 (Nat.le_of_ble_eq_true rfl) (by unfold zbud; rw [hG]; rfl) (by omega) (by omega) ?_
  refine zW_mono zTt G 64 _ _ _ _ _ ?_ k9
  rintro w h3 ⟨⟨y9, rfl⟩, e9, p9⟩
  refine r_pop (zW_mono _ _ _) lq_1138 rfl ?_
  refine r_goto (zW_mono _ _ _) lq_1139 ?_
  exact K h3 _ _ p9 (by omega) (by omega)
set_option maxHeartbeats 1000000 in
theorem lawop_knewFails {G : zG} (hG : G.1 = zProg) (hN : G.2.2.1 ≤ 4096) {P : zH → Prop} {h : zH} {x : Int32} {q : Nat} (hx : x.toInt = 8 * q) (hq : 8 * q + 8 ≤ G.2.2.1) {c n : Nat} (hc : c ≤ 182 + 8 * q) (hn : n ≤ 43931 + 800 * q) (h0 : ∃ fs, h[0]? = some (.inr (11, fs))) (A : ∀ xs, zpB [zfI, zfI, zfI] xs → zW zTt G 64 132 (.ref 0 :: xs.map Value.int) h (fun w h2 => zTy 0 w ∧ (∃ fs, h2[111]? = some (.inr (12, fs))) ∧ zW zTt G 64 243 (.ref 111 :: xs.map Value.int) h2 (fun w2 h3 => zTy 0 w2 ∧ (false = true → w2 = w) ∧ P h3))) (K : ∀ h3 c n, P h3 → c ≤ 182 + 8 * (q + 1) → n ≤ 43931 + 800 * (q + 1) → zR zTt G cd_L 600000 7302250 (some .boolean) (zW zTt G 64) (fun w _ => w = some (.int 1)) 2138 [some (.retAddr 0), some (.ref 0), some (.ref 111), some (.int x)] [] h3 c n) : zR zTt G cd_L 600000 7302250 (some .boolean) (zW zTt G 64) (fun w _ => w = some (.int 1)) 1142 [some (.retAddr 0), some (.ref 0), some (.ref 111), some (.int x)] [] h c n := by
  have hx0 : 0 ≤ x.toInt := by omega
  have hx8 : x.toInt + 8 ≤ G.2.2.1 := by omega
  obtain ⟨fs0, hx_0⟩ := h0
  refine r_aload (zW_mono _ _ _) lq_1142 rfl ?_
  refine r_aloadS (zW_mono _ _ _) lq_1143 rfl ?_
  refine r_iload (zW_mono _ _ _) lq_1144 rfl ?_
  refine r_push (zW_mono _ _ _) lq_1145 ?_
  refine r_iadd (zW_mono _ _ _) lq_1146 ?_
  refine r_sld (zW_mono _ _ _) lq_1147 (zsx hx0 hx8 hN 1 (by decide) (by decide)) ?_
  refine r_aloadS (zW_mono _ _ _) lq_1148 rfl ?_
  refine r_iload (zW_mono _ _ _) lq_1149 rfl ?_
  refine r_push (zW_mono _ _ _) lq_1150 ?_
  refine r_iadd (zW_mono _ _ _) lq_1151 ?_
  refine r_sld (zW_mono _ _ _) lq_1152 (zsx hx0 hx8 hN 2 (by decide) (by decide)) ?_
  refine r_aloadS (zW_mono _ _ _) lq_1153 rfl ?_
  refine r_iload (zW_mono _ _ _) lq_1154 rfl ?_
  refine r_push (zW_mono _ _ _) lq_1155 ?_
  refine r_iadd (zW_mono _ _ _) lq_1156 ?_
  refine r_sld (zW_mono _ _ _) lq_1157 (zsx hx0 hx8 hN 3 (by decide) (by decide)) ?_
  refine r_virt3 (m1 := 0) (m2 := 0) (zW_mono _ _ _) lq_1158 hx_0 (Nat.le_of_ble_eq_true rfl) (by unfold zbud; rw [hG]; rfl) (by omega) (by omega) ?_
  refine zW_mono zTt G 64 _ _ _ _ _ ?_ (A [G.2.2.2 (x + 1).toNatClampNeg, G.2.2.2 (x + 2).toNatClampNeg, G.2.2.2 (x + 3).toNatClampNeg] ⟨zfI_ok _, zfI_ok _, zfI_ok _, trivial⟩)
  rintro w h2 ⟨⟨x9, rfl⟩, ⟨fs9, hr9⟩, k9⟩
  refine r_pop (zW_mono _ _ _) lq_1161 rfl ?_
  refine r_aload (zW_mono _ _ _) lq_1162 rfl ?_
  refine r_aloadS (zW_mono _ _ _) lq_1163 rfl ?_
  refine r_iload (zW_mono _ _ _) lq_1164 rfl ?_
  refine r_push (zW_mono _ _ _) lq_1165 ?_
  refine r_iadd (zW_mono _ _ _) lq_1166 ?_
  refine r_sld (zW_mono _ _ _) lq_1167 (zsx hx0 hx8 hN 1 (by decide) (by decide)) ?_
  refine r_aloadS (zW_mono _ _ _) lq_1168 rfl ?_
  refine r_iload (zW_mono _ _ _) lq_1169 rfl ?_
  refine r_push (zW_mono _ _ _) lq_1170 ?_
  refine r_iadd (zW_mono _ _ _) lq_1171 ?_
  refine r_sld (zW_mono _ _ _) lq_1172 (zsx hx0 hx8 hN 2 (by decide) (by decide)) ?_
  refine r_aloadS (zW_mono _ _ _) lq_1173 rfl ?_
  refine r_iload (zW_mono _ _ _) lq_1174 rfl ?_
  refine r_push (zW_mono _ _ _) lq_1175 ?_
  refine r_iadd (zW_mono _ _ _) lq_1176 ?_
  refine r_sld (zW_mono _ _ _) lq_1177 (zsx hx0 hx8 hN 3 (by decide) (by decide)) ?_
  refine r_virt3 (m1 := 0) (m2 := 0) (zW_mono _ _ _) lq_1178 hr9 (Nat.le_of_ble_eq_true rfl) (by unfold zbud; rw [hG]; rfl) (by omega) (by omega) ?_
  refine zW_mono zTt G 64 _ _ _ _ _ ?_ k9
  rintro w h3 ⟨⟨y9, rfl⟩, e9, p9⟩
  refine r_pop (zW_mono _ _ _) lq_1181 rfl ?_
  refine r_goto (zW_mono _ _ _) lq_1182 ?_
  exact K h3 _ _ p9 (by omega) (by omega)
set_option maxHeartbeats 1000000 in
theorem lawop_crash {G : zG} (hG : G.1 = zProg) (hN : G.2.2.1 ≤ 4096) {P : zH → Prop} {h : zH} {x : Int32} {q : Nat} (hx : x.toInt = 8 * q) (hq : 8 * q + 8 ≤ G.2.2.1) {c n : Nat} (hc : c ≤ 182 + 8 * q) (hn : n ≤ 43931 + 800 * q) (h0 : ∃ fs, h[0]? = some (.inr (11, fs))) (A : ∀ xs, zpB [zfI, zfI, zfI, zfI, zfI, zbI, zbI] xs → zW zTt G 64 133 (.ref 0 :: xs.map Value.int) h (fun w h2 => zTy 0 w ∧ (∃ fs, h2[111]? = some (.inr (12, fs))) ∧ zW zTt G 64 244 (.ref 111 :: xs.map Value.int) h2 (fun w2 h3 => zTy 0 w2 ∧ (false = true → w2 = w) ∧ P h3))) (K : ∀ h3 c n, P h3 → c ≤ 182 + 8 * (q + 1) → n ≤ 43931 + 800 * (q + 1) → zR zTt G cd_L 600000 7302250 (some .boolean) (zW zTt G 64) (fun w _ => w = some (.int 1)) 2138 [some (.retAddr 0), some (.ref 0), some (.ref 111), some (.int x)] [] h3 c n) : zR zTt G cd_L 600000 7302250 (some .boolean) (zW zTt G 64) (fun w _ => w = some (.int 1)) 1185 [some (.retAddr 0), some (.ref 0), some (.ref 111), some (.int x)] [] h c n := by
  have hx0 : 0 ≤ x.toInt := by omega
  have hx8 : x.toInt + 8 ≤ G.2.2.1 := by omega
  obtain ⟨fs0, hx_0⟩ := h0
  refine r_aload (zW_mono _ _ _) lq_1185 rfl ?_
  refine r_aloadS (zW_mono _ _ _) lq_1186 rfl ?_
  refine r_iload (zW_mono _ _ _) lq_1187 rfl ?_
  refine r_push (zW_mono _ _ _) lq_1188 ?_
  refine r_iadd (zW_mono _ _ _) lq_1189 ?_
  refine r_sld (zW_mono _ _ _) lq_1190 (zsx hx0 hx8 hN 1 (by decide) (by decide)) ?_
  refine r_aloadS (zW_mono _ _ _) lq_1191 rfl ?_
  refine r_iload (zW_mono _ _ _) lq_1192 rfl ?_
  refine r_push (zW_mono _ _ _) lq_1193 ?_
  refine r_iadd (zW_mono _ _ _) lq_1194 ?_
  refine r_sld (zW_mono _ _ _) lq_1195 (zsx hx0 hx8 hN 2 (by decide) (by decide)) ?_
  refine r_aloadS (zW_mono _ _ _) lq_1196 rfl ?_
  refine r_iload (zW_mono _ _ _) lq_1197 rfl ?_
  refine r_push (zW_mono _ _ _) lq_1198 ?_
  refine r_iadd (zW_mono _ _ _) lq_1199 ?_
  refine r_sld (zW_mono _ _ _) lq_1200 (zsx hx0 hx8 hN 3 (by decide) (by decide)) ?_
  refine r_aloadS (zW_mono _ _ _) lq_1201 rfl ?_
  refine r_iload (zW_mono _ _ _) lq_1202 rfl ?_
  refine r_push (zW_mono _ _ _) lq_1203 ?_
  refine r_iadd (zW_mono _ _ _) lq_1204 ?_
  refine r_sld (zW_mono _ _ _) lq_1205 (zsx hx0 hx8 hN 4 (by decide) (by decide)) ?_
  refine r_aloadS (zW_mono _ _ _) lq_1206 rfl ?_
  refine r_iload (zW_mono _ _ _) lq_1207 rfl ?_
  refine r_push (zW_mono _ _ _) lq_1208 ?_
  refine r_iadd (zW_mono _ _ _) lq_1209 ?_
  refine r_sld (zW_mono _ _ _) lq_1210 (zsx hx0 hx8 hN 5 (by decide) (by decide)) ?_
  refine r_aloadS (zW_mono _ _ _) lq_1211 rfl ?_
  refine r_iload (zW_mono _ _ _) lq_1212 rfl ?_
  refine r_push (zW_mono _ _ _) lq_1213 ?_
  refine r_iadd (zW_mono _ _ _) lq_1215 ?_
  refine r_sld (zW_mono _ _ _) lq_1216 (zsx hx0 hx8 hN 6 (by decide) (by decide)) ?_
  refine r_if_eq (zW_mono _ _ _) lq_1217 (fun q6 => ?_) (fun q6 => ?_)
  · refine r_push (zW_mono _ _ _) lq_1224 ?_
    refine r_aloadS (zW_mono _ _ _) lq_1225 rfl ?_
    refine r_iload (zW_mono _ _ _) lq_1226 rfl ?_
    refine r_push (zW_mono _ _ _) lq_1227 ?_
    refine r_iadd (zW_mono _ _ _) lq_1229 ?_
    refine r_sld (zW_mono _ _ _) lq_1230 (zsx hx0 hx8 hN 7 (by decide) (by decide)) ?_
    refine r_if_eq (zW_mono _ _ _) lq_1231 (fun q7 => ?_) (fun q7 => ?_)
    · refine r_push (zW_mono _ _ _) lq_1238 ?_
      refine r_virt7 (m1 := 0) (m2 := 0) (zW_mono _ _ _) lq_1239 hx_0 (Nat.le_of_ble_eq_true rfl) (by unfold zbud; rw [hG]; rfl) (by omega) (by omega) ?_
      refine zW_mono zTt G 64 _ _ _ _ _ ?_ (A [G.2.2.2 (x + 1).toNatClampNeg, G.2.2.2 (x + 2).toNatClampNeg, G.2.2.2 (x + 3).toNatClampNeg, G.2.2.2 (x + 4).toNatClampNeg, G.2.2.2 (x + 5).toNatClampNeg, 0, 0] ⟨zfI_ok _, zfI_ok _, zfI_ok _, zfI_ok _, zfI_ok _, ⟨by decide, by decide⟩, ⟨by decide, by decide⟩, trivial⟩)
      rintro w h2 ⟨⟨x9, rfl⟩, ⟨fs9, hr9⟩, k9⟩
      refine r_pop (zW_mono _ _ _) lq_1242 rfl ?_
      refine r_aload (zW_mono _ _ _) lq_1243 rfl ?_
      refine r_aloadS (zW_mono _ _ _) lq_1244 rfl ?_
      refine r_iload (zW_mono _ _ _) lq_1245 rfl ?_
      refine r_push (zW_mono _ _ _) lq_1246 ?_
      refine r_iadd (zW_mono _ _ _) lq_1247 ?_
      refine r_sld (zW_mono _ _ _) lq_1248 (zsx hx0 hx8 hN 1 (by decide) (by decide)) ?_
      refine r_aloadS (zW_mono _ _ _) lq_1249 rfl ?_
      refine r_iload (zW_mono _ _ _) lq_1250 rfl ?_
      refine r_push (zW_mono _ _ _) lq_1251 ?_
      refine r_iadd (zW_mono _ _ _) lq_1252 ?_
      refine r_sld (zW_mono _ _ _) lq_1253 (zsx hx0 hx8 hN 2 (by decide) (by decide)) ?_
      refine r_aloadS (zW_mono _ _ _) lq_1254 rfl ?_
      refine r_iload (zW_mono _ _ _) lq_1255 rfl ?_
      refine r_push (zW_mono _ _ _) lq_1256 ?_
      refine r_iadd (zW_mono _ _ _) lq_1257 ?_
      refine r_sld (zW_mono _ _ _) lq_1258 (zsx hx0 hx8 hN 3 (by decide) (by decide)) ?_
      refine r_aloadS (zW_mono _ _ _) lq_1259 rfl ?_
      refine r_iload (zW_mono _ _ _) lq_1260 rfl ?_
      refine r_push (zW_mono _ _ _) lq_1261 ?_
      refine r_iadd (zW_mono _ _ _) lq_1262 ?_
      refine r_sld (zW_mono _ _ _) lq_1263 (zsx hx0 hx8 hN 4 (by decide) (by decide)) ?_
      refine r_aloadS (zW_mono _ _ _) lq_1264 rfl ?_
      refine r_iload (zW_mono _ _ _) lq_1265 rfl ?_
      refine r_push (zW_mono _ _ _) lq_1266 ?_
      refine r_iadd (zW_mono _ _ _) lq_1267 ?_
      refine r_sld (zW_mono _ _ _) lq_1268 (zsx hx0 hx8 hN 5 (by decide) (by decide)) ?_
      refine r_aloadS (zW_mono _ _ _) lq_1269 rfl ?_
      refine r_iload (zW_mono _ _ _) lq_1270 rfl ?_
      refine r_push (zW_mono _ _ _) lq_1271 ?_
      refine r_iadd (zW_mono _ _ _) lq_1273 ?_
      refine r_sld (zW_mono _ _ _) lq_1274 (zsx hx0 hx8 hN 6 (by decide) (by decide)) ?_
      refine r_if_eq (zW_mono _ _ _) lq_1275 (fun _ => ?_) (fun q => absurd q6 q)
      refine r_push (zW_mono _ _ _) lq_1282 ?_
      refine r_aloadS (zW_mono _ _ _) lq_1283 rfl ?_
      refine r_iload (zW_mono _ _ _) lq_1284 rfl ?_
      refine r_push (zW_mono _ _ _) lq_1285 ?_
      refine r_iadd (zW_mono _ _ _) lq_1287 ?_
      refine r_sld (zW_mono _ _ _) lq_1288 (zsx hx0 hx8 hN 7 (by decide) (by decide)) ?_
      refine r_if_eq (zW_mono _ _ _) lq_1289 (fun _ => ?_) (fun q => absurd q7 q)
      refine r_push (zW_mono _ _ _) lq_1296 ?_
      refine r_virt7 (m1 := 0) (m2 := 0) (zW_mono _ _ _) lq_1297 hr9 (Nat.le_of_ble_eq_true rfl) (by unfold zbud; rw [hG]; rfl) (by omega) (by omega) ?_
      refine zW_mono zTt G 64 _ _ _ _ _ ?_ k9
      rintro w h3 ⟨⟨y9, rfl⟩, e9, p9⟩
      refine r_pop (zW_mono _ _ _) lq_1300 rfl ?_
      refine r_goto (zW_mono _ _ _) lq_1301 ?_
      exact K h3 _ _ p9 (by omega) (by omega)
    · refine r_push (zW_mono _ _ _) lq_1234 ?_
      refine r_goto (zW_mono _ _ _) lq_1235 ?_
      refine r_virt7 (m1 := 0) (m2 := 0) (zW_mono _ _ _) lq_1239 hx_0 (Nat.le_of_ble_eq_true rfl) (by unfold zbud; rw [hG]; rfl) (by omega) (by omega) ?_
      refine zW_mono zTt G 64 _ _ _ _ _ ?_ (A [G.2.2.2 (x + 1).toNatClampNeg, G.2.2.2 (x + 2).toNatClampNeg, G.2.2.2 (x + 3).toNatClampNeg, G.2.2.2 (x + 4).toNatClampNeg, G.2.2.2 (x + 5).toNatClampNeg, 0, 1] ⟨zfI_ok _, zfI_ok _, zfI_ok _, zfI_ok _, zfI_ok _, ⟨by decide, by decide⟩, ⟨by decide, by decide⟩, trivial⟩)
      rintro w h2 ⟨⟨x9, rfl⟩, ⟨fs9, hr9⟩, k9⟩
      refine r_pop (zW_mono _ _ _) lq_1242 rfl ?_
      refine r_aload (zW_mono _ _ _) lq_1243 rfl ?_
      refine r_aloadS (zW_mono _ _ _) lq_1244 rfl ?_
      refine r_iload (zW_mono _ _ _) lq_1245 rfl ?_
      refine r_push (zW_mono _ _ _) lq_1246 ?_
      refine r_iadd (zW_mono _ _ _) lq_1247 ?_
      refine r_sld (zW_mono _ _ _) lq_1248 (zsx hx0 hx8 hN 1 (by decide) (by decide)) ?_
      refine r_aloadS (zW_mono _ _ _) lq_1249 rfl ?_
      refine r_iload (zW_mono _ _ _) lq_1250 rfl ?_
      refine r_push (zW_mono _ _ _) lq_1251 ?_
      refine r_iadd (zW_mono _ _ _) lq_1252 ?_
      refine r_sld (zW_mono _ _ _) lq_1253 (zsx hx0 hx8 hN 2 (by decide) (by decide)) ?_
      refine r_aloadS (zW_mono _ _ _) lq_1254 rfl ?_
      refine r_iload (zW_mono _ _ _) lq_1255 rfl ?_
      refine r_push (zW_mono _ _ _) lq_1256 ?_
      refine r_iadd (zW_mono _ _ _) lq_1257 ?_
      refine r_sld (zW_mono _ _ _) lq_1258 (zsx hx0 hx8 hN 3 (by decide) (by decide)) ?_
      refine r_aloadS (zW_mono _ _ _) lq_1259 rfl ?_
      refine r_iload (zW_mono _ _ _) lq_1260 rfl ?_
      refine r_push (zW_mono _ _ _) lq_1261 ?_
      refine r_iadd (zW_mono _ _ _) lq_1262 ?_
      refine r_sld (zW_mono _ _ _) lq_1263 (zsx hx0 hx8 hN 4 (by decide) (by decide)) ?_
      refine r_aloadS (zW_mono _ _ _) lq_1264 rfl ?_
      refine r_iload (zW_mono _ _ _) lq_1265 rfl ?_
      refine r_push (zW_mono _ _ _) lq_1266 ?_
      refine r_iadd (zW_mono _ _ _) lq_1267 ?_
      refine r_sld (zW_mono _ _ _) lq_1268 (zsx hx0 hx8 hN 5 (by decide) (by decide)) ?_
      refine r_aloadS (zW_mono _ _ _) lq_1269 rfl ?_
      refine r_iload (zW_mono _ _ _) lq_1270 rfl ?_
      refine r_push (zW_mono _ _ _) lq_1271 ?_
      refine r_iadd (zW_mono _ _ _) lq_1273 ?_
      refine r_sld (zW_mono _ _ _) lq_1274 (zsx hx0 hx8 hN 6 (by decide) (by decide)) ?_
      refine r_if_eq (zW_mono _ _ _) lq_1275 (fun _ => ?_) (fun q => absurd q6 q)
      refine r_push (zW_mono _ _ _) lq_1282 ?_
      refine r_aloadS (zW_mono _ _ _) lq_1283 rfl ?_
      refine r_iload (zW_mono _ _ _) lq_1284 rfl ?_
      refine r_push (zW_mono _ _ _) lq_1285 ?_
      refine r_iadd (zW_mono _ _ _) lq_1287 ?_
      refine r_sld (zW_mono _ _ _) lq_1288 (zsx hx0 hx8 hN 7 (by decide) (by decide)) ?_
      refine r_if_eq (zW_mono _ _ _) lq_1289 (fun q => absurd q q7) (fun _ => ?_)
      refine r_push (zW_mono _ _ _) lq_1292 ?_
      refine r_goto (zW_mono _ _ _) lq_1293 ?_
      refine r_virt7 (m1 := 0) (m2 := 0) (zW_mono _ _ _) lq_1297 hr9 (Nat.le_of_ble_eq_true rfl) (by unfold zbud; rw [hG]; rfl) (by omega) (by omega) ?_
      refine zW_mono zTt G 64 _ _ _ _ _ ?_ k9
      rintro w h3 ⟨⟨y9, rfl⟩, e9, p9⟩
      refine r_pop (zW_mono _ _ _) lq_1300 rfl ?_
      refine r_goto (zW_mono _ _ _) lq_1301 ?_
      exact K h3 _ _ p9 (by omega) (by omega)
  · refine r_push (zW_mono _ _ _) lq_1220 ?_
    refine r_goto (zW_mono _ _ _) lq_1221 ?_
    refine r_aloadS (zW_mono _ _ _) lq_1225 rfl ?_
    refine r_iload (zW_mono _ _ _) lq_1226 rfl ?_
    refine r_push (zW_mono _ _ _) lq_1227 ?_
    refine r_iadd (zW_mono _ _ _) lq_1229 ?_
    refine r_sld (zW_mono _ _ _) lq_1230 (zsx hx0 hx8 hN 7 (by decide) (by decide)) ?_
    refine r_if_eq (zW_mono _ _ _) lq_1231 (fun q7 => ?_) (fun q7 => ?_)
    · refine r_push (zW_mono _ _ _) lq_1238 ?_
      refine r_virt7 (m1 := 0) (m2 := 0) (zW_mono _ _ _) lq_1239 hx_0 (Nat.le_of_ble_eq_true rfl) (by unfold zbud; rw [hG]; rfl) (by omega) (by omega) ?_
      refine zW_mono zTt G 64 _ _ _ _ _ ?_ (A [G.2.2.2 (x + 1).toNatClampNeg, G.2.2.2 (x + 2).toNatClampNeg, G.2.2.2 (x + 3).toNatClampNeg, G.2.2.2 (x + 4).toNatClampNeg, G.2.2.2 (x + 5).toNatClampNeg, 1, 0] ⟨zfI_ok _, zfI_ok _, zfI_ok _, zfI_ok _, zfI_ok _, ⟨by decide, by decide⟩, ⟨by decide, by decide⟩, trivial⟩)
      rintro w h2 ⟨⟨x9, rfl⟩, ⟨fs9, hr9⟩, k9⟩
      refine r_pop (zW_mono _ _ _) lq_1242 rfl ?_
      refine r_aload (zW_mono _ _ _) lq_1243 rfl ?_
      refine r_aloadS (zW_mono _ _ _) lq_1244 rfl ?_
      refine r_iload (zW_mono _ _ _) lq_1245 rfl ?_
      refine r_push (zW_mono _ _ _) lq_1246 ?_
      refine r_iadd (zW_mono _ _ _) lq_1247 ?_
      refine r_sld (zW_mono _ _ _) lq_1248 (zsx hx0 hx8 hN 1 (by decide) (by decide)) ?_
      refine r_aloadS (zW_mono _ _ _) lq_1249 rfl ?_
      refine r_iload (zW_mono _ _ _) lq_1250 rfl ?_
      refine r_push (zW_mono _ _ _) lq_1251 ?_
      refine r_iadd (zW_mono _ _ _) lq_1252 ?_
      refine r_sld (zW_mono _ _ _) lq_1253 (zsx hx0 hx8 hN 2 (by decide) (by decide)) ?_
      refine r_aloadS (zW_mono _ _ _) lq_1254 rfl ?_
      refine r_iload (zW_mono _ _ _) lq_1255 rfl ?_
      refine r_push (zW_mono _ _ _) lq_1256 ?_
      refine r_iadd (zW_mono _ _ _) lq_1257 ?_
      refine r_sld (zW_mono _ _ _) lq_1258 (zsx hx0 hx8 hN 3 (by decide) (by decide)) ?_
      refine r_aloadS (zW_mono _ _ _) lq_1259 rfl ?_
      refine r_iload (zW_mono _ _ _) lq_1260 rfl ?_
      refine r_push (zW_mono _ _ _) lq_1261 ?_
      refine r_iadd (zW_mono _ _ _) lq_1262 ?_
      refine r_sld (zW_mono _ _ _) lq_1263 (zsx hx0 hx8 hN 4 (by decide) (by decide)) ?_
      refine r_aloadS (zW_mono _ _ _) lq_1264 rfl ?_
      refine r_iload (zW_mono _ _ _) lq_1265 rfl ?_
      refine r_push (zW_mono _ _ _) lq_1266 ?_
      refine r_iadd (zW_mono _ _ _) lq_1267 ?_
      refine r_sld (zW_mono _ _ _) lq_1268 (zsx hx0 hx8 hN 5 (by decide) (by decide)) ?_
      refine r_aloadS (zW_mono _ _ _) lq_1269 rfl ?_
      refine r_iload (zW_mono _ _ _) lq_1270 rfl ?_
      refine r_push (zW_mono _ _ _) lq_1271 ?_
      refine r_iadd (zW_mono _ _ _) lq_1273 ?_
      refine r_sld (zW_mono _ _ _) lq_1274 (zsx hx0 hx8 hN 6 (by decide) (by decide)) ?_
      refine r_if_eq (zW_mono _ _ _) lq_1275 (fun q => absurd q q6) (fun _ => ?_)
      refine r_push (zW_mono _ _ _) lq_1278 ?_
      refine r_goto (zW_mono _ _ _) lq_1279 ?_
      refine r_aloadS (zW_mono _ _ _) lq_1283 rfl ?_
      refine r_iload (zW_mono _ _ _) lq_1284 rfl ?_
      refine r_push (zW_mono _ _ _) lq_1285 ?_
      refine r_iadd (zW_mono _ _ _) lq_1287 ?_
      refine r_sld (zW_mono _ _ _) lq_1288 (zsx hx0 hx8 hN 7 (by decide) (by decide)) ?_
      refine r_if_eq (zW_mono _ _ _) lq_1289 (fun _ => ?_) (fun q => absurd q7 q)
      refine r_push (zW_mono _ _ _) lq_1296 ?_
      refine r_virt7 (m1 := 0) (m2 := 0) (zW_mono _ _ _) lq_1297 hr9 (Nat.le_of_ble_eq_true rfl) (by unfold zbud; rw [hG]; rfl) (by omega) (by omega) ?_
      refine zW_mono zTt G 64 _ _ _ _ _ ?_ k9
      rintro w h3 ⟨⟨y9, rfl⟩, e9, p9⟩
      refine r_pop (zW_mono _ _ _) lq_1300 rfl ?_
      refine r_goto (zW_mono _ _ _) lq_1301 ?_
      exact K h3 _ _ p9 (by omega) (by omega)
    · refine r_push (zW_mono _ _ _) lq_1234 ?_
      refine r_goto (zW_mono _ _ _) lq_1235 ?_
      refine r_virt7 (m1 := 0) (m2 := 0) (zW_mono _ _ _) lq_1239 hx_0 (Nat.le_of_ble_eq_true rfl) (by unfold zbud; rw [hG]; rfl) (by omega) (by omega) ?_
      refine zW_mono zTt G 64 _ _ _ _ _ ?_ (A [G.2.2.2 (x + 1).toNatClampNeg, G.2.2.2 (x + 2).toNatClampNeg, G.2.2.2 (x + 3).toNatClampNeg, G.2.2.2 (x + 4).toNatClampNeg, G.2.2.2 (x + 5).toNatClampNeg, 1, 1] ⟨zfI_ok _, zfI_ok _, zfI_ok _, zfI_ok _, zfI_ok _, ⟨by decide, by decide⟩, ⟨by decide, by decide⟩, trivial⟩)
      rintro w h2 ⟨⟨x9, rfl⟩, ⟨fs9, hr9⟩, k9⟩
      refine r_pop (zW_mono _ _ _) lq_1242 rfl ?_
      refine r_aload (zW_mono _ _ _) lq_1243 rfl ?_
      refine r_aloadS (zW_mono _ _ _) lq_1244 rfl ?_
      refine r_iload (zW_mono _ _ _) lq_1245 rfl ?_
      refine r_push (zW_mono _ _ _) lq_1246 ?_
      refine r_iadd (zW_mono _ _ _) lq_1247 ?_
      refine r_sld (zW_mono _ _ _) lq_1248 (zsx hx0 hx8 hN 1 (by decide) (by decide)) ?_
      refine r_aloadS (zW_mono _ _ _) lq_1249 rfl ?_
      refine r_iload (zW_mono _ _ _) lq_1250 rfl ?_
      refine r_push (zW_mono _ _ _) lq_1251 ?_
      refine r_iadd (zW_mono _ _ _) lq_1252 ?_
      refine r_sld (zW_mono _ _ _) lq_1253 (zsx hx0 hx8 hN 2 (by decide) (by decide)) ?_
      refine r_aloadS (zW_mono _ _ _) lq_1254 rfl ?_
      refine r_iload (zW_mono _ _ _) lq_1255 rfl ?_
      refine r_push (zW_mono _ _ _) lq_1256 ?_
      refine r_iadd (zW_mono _ _ _) lq_1257 ?_
      refine r_sld (zW_mono _ _ _) lq_1258 (zsx hx0 hx8 hN 3 (by decide) (by decide)) ?_
      refine r_aloadS (zW_mono _ _ _) lq_1259 rfl ?_
      refine r_iload (zW_mono _ _ _) lq_1260 rfl ?_
      refine r_push (zW_mono _ _ _) lq_1261 ?_
      refine r_iadd (zW_mono _ _ _) lq_1262 ?_
      refine r_sld (zW_mono _ _ _) lq_1263 (zsx hx0 hx8 hN 4 (by decide) (by decide)) ?_
      refine r_aloadS (zW_mono _ _ _) lq_1264 rfl ?_
      refine r_iload (zW_mono _ _ _) lq_1265 rfl ?_
      refine r_push (zW_mono _ _ _) lq_1266 ?_
      refine r_iadd (zW_mono _ _ _) lq_1267 ?_
      refine r_sld (zW_mono _ _ _) lq_1268 (zsx hx0 hx8 hN 5 (by decide) (by decide)) ?_
      refine r_aloadS (zW_mono _ _ _) lq_1269 rfl ?_
      refine r_iload (zW_mono _ _ _) lq_1270 rfl ?_
      refine r_push (zW_mono _ _ _) lq_1271 ?_
      refine r_iadd (zW_mono _ _ _) lq_1273 ?_
      refine r_sld (zW_mono _ _ _) lq_1274 (zsx hx0 hx8 hN 6 (by decide) (by decide)) ?_
      refine r_if_eq (zW_mono _ _ _) lq_1275 (fun q => absurd q q6) (fun _ => ?_)
      refine r_push (zW_mono _ _ _) lq_1278 ?_
      refine r_goto (zW_mono _ _ _) lq_1279 ?_
      refine r_aloadS (zW_mono _ _ _) lq_1283 rfl ?_
      refine r_iload (zW_mono _ _ _) lq_1284 rfl ?_
      refine r_push (zW_mono _ _ _) lq_1285 ?_
      refine r_iadd (zW_mono _ _ _) lq_1287 ?_
      refine r_sld (zW_mono _ _ _) lq_1288 (zsx hx0 hx8 hN 7 (by decide) (by decide)) ?_
      refine r_if_eq (zW_mono _ _ _) lq_1289 (fun q => absurd q q7) (fun _ => ?_)
      refine r_push (zW_mono _ _ _) lq_1292 ?_
      refine r_goto (zW_mono _ _ _) lq_1293 ?_
      refine r_virt7 (m1 := 0) (m2 := 0) (zW_mono _ _ _) lq_1297 hr9 (Nat.le_of_ble_eq_true rfl) (by unfold zbud; rw [hG]; rfl) (by omega) (by omega) ?_
      refine zW_mono zTt G 64 _ _ _ _ _ ?_ k9
      rintro w h3 ⟨⟨y9, rfl⟩, e9, p9⟩
      refine r_pop (zW_mono _ _ _) lq_1300 rfl ?_
      refine r_goto (zW_mono _ _ _) lq_1301 ?_
      exact K h3 _ _ p9 (by omega) (by omega)
set_option maxHeartbeats 1000000 in
theorem lawop_odd {G : zG} (hG : G.1 = zProg) (hN : G.2.2.1 ≤ 4096) {P : zH → Prop} {h : zH} {x : Int32} {q : Nat} (hx : x.toInt = 8 * q) (hq : 8 * q + 8 ≤ G.2.2.1) {c n : Nat} (hc : c ≤ 182 + 8 * q) (hn : n ≤ 43931 + 800 * q) (h0 : ∃ fs, h[0]? = some (.inr (11, fs))) (A : ∀ xs, zpB [zfI] xs → zW zTt G 64 134 (.ref 0 :: xs.map Value.int) h (fun w h2 => zTy 0 w ∧ (∃ fs, h2[111]? = some (.inr (12, fs))) ∧ zW zTt G 64 245 (.ref 111 :: xs.map Value.int) h2 (fun w2 h3 => zTy 0 w2 ∧ (false = true → w2 = w) ∧ P h3))) (K : ∀ h3 c n, P h3 → c ≤ 182 + 8 * (q + 1) → n ≤ 43931 + 800 * (q + 1) → zR zTt G cd_L 600000 7302250 (some .boolean) (zW zTt G 64) (fun w _ => w = some (.int 1)) 2138 [some (.retAddr 0), some (.ref 0), some (.ref 111), some (.int x)] [] h3 c n) : zR zTt G cd_L 600000 7302250 (some .boolean) (zW zTt G 64) (fun w _ => w = some (.int 1)) 1304 [some (.retAddr 0), some (.ref 0), some (.ref 111), some (.int x)] [] h c n := by
  have hx0 : 0 ≤ x.toInt := by omega
  have hx8 : x.toInt + 8 ≤ G.2.2.1 := by omega
  obtain ⟨fs0, hx_0⟩ := h0
  refine r_aload (zW_mono _ _ _) lq_1304 rfl ?_
  refine r_aloadS (zW_mono _ _ _) lq_1305 rfl ?_
  refine r_iload (zW_mono _ _ _) lq_1306 rfl ?_
  refine r_push (zW_mono _ _ _) lq_1307 ?_
  refine r_iadd (zW_mono _ _ _) lq_1308 ?_
  refine r_sld (zW_mono _ _ _) lq_1309 (zsx hx0 hx8 hN 1 (by decide) (by decide)) ?_
  refine r_virt1 (m1 := 0) (m2 := 0) (zW_mono _ _ _) lq_1310 hx_0 (Nat.le_of_ble_eq_true rfl) (by unfold zbud; rw [hG]; rfl) (by omega) (by omega) ?_
  refine zW_mono zTt G 64 _ _ _ _ _ ?_ (A [G.2.2.2 (x + 1).toNatClampNeg] ⟨zfI_ok _, trivial⟩)
  rintro w h2 ⟨⟨x9, rfl⟩, ⟨fs9, hr9⟩, k9⟩
  refine r_pop (zW_mono _ _ _) lq_1313 rfl ?_
  refine r_aload (zW_mono _ _ _) lq_1314 rfl ?_
  refine r_aloadS (zW_mono _ _ _) lq_1315 rfl ?_
  refine r_iload (zW_mono _ _ _) lq_1316 rfl ?_
  refine r_push (zW_mono _ _ _) lq_1317 ?_
  refine r_iadd (zW_mono _ _ _) lq_1318 ?_
  refine r_sld (zW_mono _ _ _) lq_1319 (zsx hx0 hx8 hN 1 (by decide) (by decide)) ?_
  refine r_virt1 (m1 := 0) (m2 := 0) (zW_mono _ _ _) lq_1320 hr9 (Nat.le_of_ble_eq_true rfl) (by unfold zbud; rw [hG]; rfl) (by omega) (by omega) ?_
  refine zW_mono zTt G 64 _ _ _ _ _ ?_ k9
  rintro w h3 ⟨⟨y9, rfl⟩, e9, p9⟩
  refine r_pop (zW_mono _ _ _) lq_1323 rfl ?_
  refine r_goto (zW_mono _ _ _) lq_1324 ?_
  exact K h3 _ _ p9 (by omega) (by omega)
set_option maxHeartbeats 1000000 in
theorem lawop_expected {G : zG} (hG : G.1 = zProg) (hN : G.2.2.1 ≤ 4096) {P : zH → Prop} {h : zH} {x : Int32} {q : Nat} (hx : x.toInt = 8 * q) (hq : 8 * q + 8 ≤ G.2.2.1) {c n : Nat} (hc : c ≤ 182 + 8 * q) (hn : n ≤ 43931 + 800 * q) (h0 : ∃ fs, h[0]? = some (.inr (11, fs))) (A : ∀ xs, zpB [zfI, zfI, zfI] xs → zW zTt G 64 135 (.ref 0 :: xs.map Value.int) h (fun w h2 => zTy 1 w ∧ (∃ fs, h2[111]? = some (.inr (12, fs))) ∧ zW zTt G 64 247 (.ref 111 :: xs.map Value.int) h2 (fun w2 h3 => zTy 1 w2 ∧ (false = true → w2 = w) ∧ P h3))) (K : ∀ h3 c n, P h3 → c ≤ 182 + 8 * (q + 1) → n ≤ 43931 + 800 * (q + 1) → zR zTt G cd_L 600000 7302250 (some .boolean) (zW zTt G 64) (fun w _ => w = some (.int 1)) 2138 [some (.retAddr 0), some (.ref 0), some (.ref 111), some (.int x)] [] h3 c n) : zR zTt G cd_L 600000 7302250 (some .boolean) (zW zTt G 64) (fun w _ => w = some (.int 1)) 1327 [some (.retAddr 0), some (.ref 0), some (.ref 111), some (.int x)] [] h c n := by
  have hx0 : 0 ≤ x.toInt := by omega
  have hx8 : x.toInt + 8 ≤ G.2.2.1 := by omega
  obtain ⟨fs0, hx_0⟩ := h0
  refine r_aload (zW_mono _ _ _) lq_1327 rfl ?_
  refine r_aloadS (zW_mono _ _ _) lq_1328 rfl ?_
  refine r_iload (zW_mono _ _ _) lq_1329 rfl ?_
  refine r_push (zW_mono _ _ _) lq_1330 ?_
  refine r_iadd (zW_mono _ _ _) lq_1331 ?_
  refine r_sld (zW_mono _ _ _) lq_1332 (zsx hx0 hx8 hN 1 (by decide) (by decide)) ?_
  refine r_aloadS (zW_mono _ _ _) lq_1333 rfl ?_
  refine r_iload (zW_mono _ _ _) lq_1334 rfl ?_
  refine r_push (zW_mono _ _ _) lq_1335 ?_
  refine r_iadd (zW_mono _ _ _) lq_1336 ?_
  refine r_sld (zW_mono _ _ _) lq_1337 (zsx hx0 hx8 hN 2 (by decide) (by decide)) ?_
  refine r_aloadS (zW_mono _ _ _) lq_1338 rfl ?_
  refine r_iload (zW_mono _ _ _) lq_1339 rfl ?_
  refine r_push (zW_mono _ _ _) lq_1340 ?_
  refine r_iadd (zW_mono _ _ _) lq_1341 ?_
  refine r_sld (zW_mono _ _ _) lq_1342 (zsx hx0 hx8 hN 3 (by decide) (by decide)) ?_
  refine r_virt3 (m1 := 0) (m2 := 0) (zW_mono _ _ _) lq_1343 hx_0 (Nat.le_of_ble_eq_true rfl) (by unfold zbud; rw [hG]; rfl) (by omega) (by omega) ?_
  refine zW_mono zTt G 64 _ _ _ _ _ ?_ (A [G.2.2.2 (x + 1).toNatClampNeg, G.2.2.2 (x + 2).toNatClampNeg, G.2.2.2 (x + 3).toNatClampNeg] ⟨zfI_ok _, zfI_ok _, zfI_ok _, trivial⟩)
  rintro w h2 ⟨⟨x9, rfl⟩, ⟨fs9, hr9⟩, k9⟩
  refine r_popl (zW_mono _ _ _) lq_1346 rfl ?_
  refine r_aload (zW_mono _ _ _) lq_1347 rfl ?_
  refine r_aloadS (zW_mono _ _ _) lq_1348 rfl ?_
  refine r_iload (zW_mono _ _ _) lq_1349 rfl ?_
  refine r_push (zW_mono _ _ _) lq_1350 ?_
  refine r_iadd (zW_mono _ _ _) lq_1351 ?_
  refine r_sld (zW_mono _ _ _) lq_1352 (zsx hx0 hx8 hN 1 (by decide) (by decide)) ?_
  refine r_aloadS (zW_mono _ _ _) lq_1353 rfl ?_
  refine r_iload (zW_mono _ _ _) lq_1354 rfl ?_
  refine r_push (zW_mono _ _ _) lq_1355 ?_
  refine r_iadd (zW_mono _ _ _) lq_1356 ?_
  refine r_sld (zW_mono _ _ _) lq_1357 (zsx hx0 hx8 hN 2 (by decide) (by decide)) ?_
  refine r_aloadS (zW_mono _ _ _) lq_1358 rfl ?_
  refine r_iload (zW_mono _ _ _) lq_1359 rfl ?_
  refine r_push (zW_mono _ _ _) lq_1360 ?_
  refine r_iadd (zW_mono _ _ _) lq_1361 ?_
  refine r_sld (zW_mono _ _ _) lq_1362 (zsx hx0 hx8 hN 3 (by decide) (by decide)) ?_
  refine r_virt3 (m1 := 0) (m2 := 0) (zW_mono _ _ _) lq_1363 hr9 (Nat.le_of_ble_eq_true rfl) (by unfold zbud; rw [hG]; rfl) (by omega) (by omega) ?_
  refine zW_mono zTt G 64 _ _ _ _ _ ?_ k9
  rintro w h3 ⟨⟨y9, rfl⟩, e9, p9⟩
  refine r_popl (zW_mono _ _ _) lq_1366 rfl ?_
  refine r_goto (zW_mono _ _ _) lq_1367 ?_
  exact K h3 _ _ p9 (by omega) (by omega)
set_option maxHeartbeats 1000000 in
theorem lawop_memo {G : zG} (hG : G.1 = zProg) (hN : G.2.2.1 ≤ 4096) {P : zH → Prop} {h : zH} {x : Int32} {q : Nat} (hx : x.toInt = 8 * q) (hq : 8 * q + 8 ≤ G.2.2.1) {c n : Nat} (hc : c ≤ 182 + 8 * q) (hn : n ≤ 43931 + 800 * q) (h0 : ∃ fs, h[0]? = some (.inr (11, fs))) (A : ∀ xs, zpB [zfI] xs → zW zTt G 64 136 (.ref 0 :: xs.map Value.int) h (fun w h2 => zTy 0 w ∧ (∃ fs, h2[111]? = some (.inr (12, fs))) ∧ zW zTt G 64 248 (.ref 111 :: xs.map Value.int) h2 (fun w2 h3 => zTy 0 w2 ∧ (false = true → w2 = w) ∧ P h3))) (K : ∀ h3 c n, P h3 → c ≤ 182 + 8 * (q + 1) → n ≤ 43931 + 800 * (q + 1) → zR zTt G cd_L 600000 7302250 (some .boolean) (zW zTt G 64) (fun w _ => w = some (.int 1)) 2138 [some (.retAddr 0), some (.ref 0), some (.ref 111), some (.int x)] [] h3 c n) : zR zTt G cd_L 600000 7302250 (some .boolean) (zW zTt G 64) (fun w _ => w = some (.int 1)) 1370 [some (.retAddr 0), some (.ref 0), some (.ref 111), some (.int x)] [] h c n := by
  have hx0 : 0 ≤ x.toInt := by omega
  have hx8 : x.toInt + 8 ≤ G.2.2.1 := by omega
  obtain ⟨fs0, hx_0⟩ := h0
  refine r_aload (zW_mono _ _ _) lq_1370 rfl ?_
  refine r_aloadS (zW_mono _ _ _) lq_1371 rfl ?_
  refine r_iload (zW_mono _ _ _) lq_1372 rfl ?_
  refine r_push (zW_mono _ _ _) lq_1373 ?_
  refine r_iadd (zW_mono _ _ _) lq_1374 ?_
  refine r_sld (zW_mono _ _ _) lq_1375 (zsx hx0 hx8 hN 1 (by decide) (by decide)) ?_
  refine r_virt1 (m1 := 0) (m2 := 0) (zW_mono _ _ _) lq_1376 hx_0 (Nat.le_of_ble_eq_true rfl) (by unfold zbud; rw [hG]; rfl) (by omega) (by omega) ?_
  refine zW_mono zTt G 64 _ _ _ _ _ ?_ (A [G.2.2.2 (x + 1).toNatClampNeg] ⟨zfI_ok _, trivial⟩)
  rintro w h2 ⟨⟨x9, rfl⟩, ⟨fs9, hr9⟩, k9⟩
  refine r_pop (zW_mono _ _ _) lq_1379 rfl ?_
  refine r_aload (zW_mono _ _ _) lq_1380 rfl ?_
  refine r_aloadS (zW_mono _ _ _) lq_1381 rfl ?_
  refine r_iload (zW_mono _ _ _) lq_1382 rfl ?_
  refine r_push (zW_mono _ _ _) lq_1383 ?_
  refine r_iadd (zW_mono _ _ _) lq_1384 ?_
  refine r_sld (zW_mono _ _ _) lq_1385 (zsx hx0 hx8 hN 1 (by decide) (by decide)) ?_
  refine r_virt1 (m1 := 0) (m2 := 0) (zW_mono _ _ _) lq_1386 hr9 (Nat.le_of_ble_eq_true rfl) (by unfold zbud; rw [hG]; rfl) (by omega) (by omega) ?_
  refine zW_mono zTt G 64 _ _ _ _ _ ?_ k9
  rintro w h3 ⟨⟨y9, rfl⟩, e9, p9⟩
  refine r_pop (zW_mono _ _ _) lq_1389 rfl ?_
  refine r_goto (zW_mono _ _ _) lq_1390 ?_
  exact K h3 _ _ p9 (by omega) (by omega)
set_option maxHeartbeats 1000000 in
theorem lawop_row {G : zG} (hG : G.1 = zProg) (hN : G.2.2.1 ≤ 4096) {P : zH → Prop} {h : zH} {x : Int32} {q : Nat} (hx : x.toInt = 8 * q) (hq : 8 * q + 8 ≤ G.2.2.1) {c n : Nat} (hc : c ≤ 182 + 8 * q) (hn : n ≤ 43931 + 800 * q) (h0 : ∃ fs, h[0]? = some (.inr (11, fs))) (A : ∀ xs, zpB [zfI, zbI, zfI, zfI] xs → zW zTt G 64 137 (.ref 0 :: xs.map Value.int) h (fun w h2 => zTy 0 w ∧ (∃ fs, h2[111]? = some (.inr (12, fs))) ∧ zW zTt G 64 250 (.ref 111 :: xs.map Value.int) h2 (fun w2 h3 => zTy 0 w2 ∧ (false = true → w2 = w) ∧ P h3))) (K : ∀ h3 c n, P h3 → c ≤ 182 + 8 * (q + 1) → n ≤ 43931 + 800 * (q + 1) → zR zTt G cd_L 600000 7302250 (some .boolean) (zW zTt G 64) (fun w _ => w = some (.int 1)) 2138 [some (.retAddr 0), some (.ref 0), some (.ref 111), some (.int x)] [] h3 c n) : zR zTt G cd_L 600000 7302250 (some .boolean) (zW zTt G 64) (fun w _ => w = some (.int 1)) 1393 [some (.retAddr 0), some (.ref 0), some (.ref 111), some (.int x)] [] h c n := by
  have hx0 : 0 ≤ x.toInt := by omega
  have hx8 : x.toInt + 8 ≤ G.2.2.1 := by omega
  obtain ⟨fs0, hx_0⟩ := h0
  refine r_aload (zW_mono _ _ _) lq_1393 rfl ?_
  refine r_aloadS (zW_mono _ _ _) lq_1394 rfl ?_
  refine r_iload (zW_mono _ _ _) lq_1395 rfl ?_
  refine r_push (zW_mono _ _ _) lq_1396 ?_
  refine r_iadd (zW_mono _ _ _) lq_1397 ?_
  refine r_sld (zW_mono _ _ _) lq_1398 (zsx hx0 hx8 hN 1 (by decide) (by decide)) ?_
  refine r_aloadS (zW_mono _ _ _) lq_1399 rfl ?_
  refine r_iload (zW_mono _ _ _) lq_1400 rfl ?_
  refine r_push (zW_mono _ _ _) lq_1401 ?_
  refine r_iadd (zW_mono _ _ _) lq_1402 ?_
  refine r_sld (zW_mono _ _ _) lq_1403 (zsx hx0 hx8 hN 2 (by decide) (by decide)) ?_
  refine r_if_eq (zW_mono _ _ _) lq_1404 (fun q2 => ?_) (fun q2 => ?_)
  · refine r_push (zW_mono _ _ _) lq_1411 ?_
    refine r_aloadS (zW_mono _ _ _) lq_1412 rfl ?_
    refine r_iload (zW_mono _ _ _) lq_1413 rfl ?_
    refine r_push (zW_mono _ _ _) lq_1414 ?_
    refine r_iadd (zW_mono _ _ _) lq_1415 ?_
    refine r_sld (zW_mono _ _ _) lq_1416 (zsx hx0 hx8 hN 3 (by decide) (by decide)) ?_
    refine r_aloadS (zW_mono _ _ _) lq_1417 rfl ?_
    refine r_iload (zW_mono _ _ _) lq_1418 rfl ?_
    refine r_push (zW_mono _ _ _) lq_1419 ?_
    refine r_iadd (zW_mono _ _ _) lq_1420 ?_
    refine r_sld (zW_mono _ _ _) lq_1421 (zsx hx0 hx8 hN 4 (by decide) (by decide)) ?_
    refine r_virt4 (m1 := 0) (m2 := 0) (zW_mono _ _ _) lq_1422 hx_0 (Nat.le_of_ble_eq_true rfl) (by unfold zbud; rw [hG]; rfl) (by omega) (by omega) ?_
    refine zW_mono zTt G 64 _ _ _ _ _ ?_ (A [G.2.2.2 (x + 1).toNatClampNeg, 0, G.2.2.2 (x + 3).toNatClampNeg, G.2.2.2 (x + 4).toNatClampNeg] ⟨zfI_ok _, ⟨by decide, by decide⟩, zfI_ok _, zfI_ok _, trivial⟩)
    rintro w h2 ⟨⟨x9, rfl⟩, ⟨fs9, hr9⟩, k9⟩
    refine r_pop (zW_mono _ _ _) lq_1425 rfl ?_
    refine r_aload (zW_mono _ _ _) lq_1426 rfl ?_
    refine r_aloadS (zW_mono _ _ _) lq_1427 rfl ?_
    refine r_iload (zW_mono _ _ _) lq_1428 rfl ?_
    refine r_push (zW_mono _ _ _) lq_1429 ?_
    refine r_iadd (zW_mono _ _ _) lq_1430 ?_
    refine r_sld (zW_mono _ _ _) lq_1431 (zsx hx0 hx8 hN 1 (by decide) (by decide)) ?_
    refine r_aloadS (zW_mono _ _ _) lq_1432 rfl ?_
    refine r_iload (zW_mono _ _ _) lq_1433 rfl ?_
    refine r_push (zW_mono _ _ _) lq_1434 ?_
    refine r_iadd (zW_mono _ _ _) lq_1435 ?_
    refine r_sld (zW_mono _ _ _) lq_1436 (zsx hx0 hx8 hN 2 (by decide) (by decide)) ?_
    refine r_if_eq (zW_mono _ _ _) lq_1437 (fun _ => ?_) (fun q => absurd q2 q)
    refine r_push (zW_mono _ _ _) lq_1444 ?_
    refine r_aloadS (zW_mono _ _ _) lq_1445 rfl ?_
    refine r_iload (zW_mono _ _ _) lq_1446 rfl ?_
    refine r_push (zW_mono _ _ _) lq_1447 ?_
    refine r_iadd (zW_mono _ _ _) lq_1448 ?_
    refine r_sld (zW_mono _ _ _) lq_1449 (zsx hx0 hx8 hN 3 (by decide) (by decide)) ?_
    refine r_aloadS (zW_mono _ _ _) lq_1450 rfl ?_
    refine r_iload (zW_mono _ _ _) lq_1451 rfl ?_
    refine r_push (zW_mono _ _ _) lq_1452 ?_
    refine r_iadd (zW_mono _ _ _) lq_1453 ?_
    refine r_sld (zW_mono _ _ _) lq_1454 (zsx hx0 hx8 hN 4 (by decide) (by decide)) ?_
    refine r_virt4 (m1 := 0) (m2 := 0) (zW_mono _ _ _) lq_1455 hr9 (Nat.le_of_ble_eq_true rfl) (by unfold zbud; rw [hG]; rfl) (by omega) (by omega) ?_
    refine zW_mono zTt G 64 _ _ _ _ _ ?_ k9
    rintro w h3 ⟨⟨y9, rfl⟩, e9, p9⟩
    refine r_pop (zW_mono _ _ _) lq_1458 rfl ?_
    refine r_goto (zW_mono _ _ _) lq_1459 ?_
    exact K h3 _ _ p9 (by omega) (by omega)
  · refine r_push (zW_mono _ _ _) lq_1407 ?_
    refine r_goto (zW_mono _ _ _) lq_1408 ?_
    refine r_aloadS (zW_mono _ _ _) lq_1412 rfl ?_
    refine r_iload (zW_mono _ _ _) lq_1413 rfl ?_
    refine r_push (zW_mono _ _ _) lq_1414 ?_
    refine r_iadd (zW_mono _ _ _) lq_1415 ?_
    refine r_sld (zW_mono _ _ _) lq_1416 (zsx hx0 hx8 hN 3 (by decide) (by decide)) ?_
    refine r_aloadS (zW_mono _ _ _) lq_1417 rfl ?_
    refine r_iload (zW_mono _ _ _) lq_1418 rfl ?_
    refine r_push (zW_mono _ _ _) lq_1419 ?_
    refine r_iadd (zW_mono _ _ _) lq_1420 ?_
    refine r_sld (zW_mono _ _ _) lq_1421 (zsx hx0 hx8 hN 4 (by decide) (by decide)) ?_
    refine r_virt4 (m1 := 0) (m2 := 0) (zW_mono _ _ _) lq_1422 hx_0 (Nat.le_of_ble_eq_true rfl) (by unfold zbud; rw [hG]; rfl) (by omega) (by omega) ?_
    refine zW_mono zTt G 64 _ _ _ _ _ ?_ (A [G.2.2.2 (x + 1).toNatClampNeg, 1, G.2.2.2 (x + 3).toNatClampNeg, G.2.2.2 (x + 4).toNatClampNeg] ⟨zfI_ok _, ⟨by decide, by decide⟩, zfI_ok _, zfI_ok _, trivial⟩)
    rintro w h2 ⟨⟨x9, rfl⟩, ⟨fs9, hr9⟩, k9⟩
    refine r_pop (zW_mono _ _ _) lq_1425 rfl ?_
    refine r_aload (zW_mono _ _ _) lq_1426 rfl ?_
    refine r_aloadS (zW_mono _ _ _) lq_1427 rfl ?_
    refine r_iload (zW_mono _ _ _) lq_1428 rfl ?_
    refine r_push (zW_mono _ _ _) lq_1429 ?_
    refine r_iadd (zW_mono _ _ _) lq_1430 ?_
    refine r_sld (zW_mono _ _ _) lq_1431 (zsx hx0 hx8 hN 1 (by decide) (by decide)) ?_
    refine r_aloadS (zW_mono _ _ _) lq_1432 rfl ?_
    refine r_iload (zW_mono _ _ _) lq_1433 rfl ?_
    refine r_push (zW_mono _ _ _) lq_1434 ?_
    refine r_iadd (zW_mono _ _ _) lq_1435 ?_
    refine r_sld (zW_mono _ _ _) lq_1436 (zsx hx0 hx8 hN 2 (by decide) (by decide)) ?_
    refine r_if_eq (zW_mono _ _ _) lq_1437 (fun q => absurd q q2) (fun _ => ?_)
    refine r_push (zW_mono _ _ _) lq_1440 ?_
    refine r_goto (zW_mono _ _ _) lq_1441 ?_
    refine r_aloadS (zW_mono _ _ _) lq_1445 rfl ?_
    refine r_iload (zW_mono _ _ _) lq_1446 rfl ?_
    refine r_push (zW_mono _ _ _) lq_1447 ?_
    refine r_iadd (zW_mono _ _ _) lq_1448 ?_
    refine r_sld (zW_mono _ _ _) lq_1449 (zsx hx0 hx8 hN 3 (by decide) (by decide)) ?_
    refine r_aloadS (zW_mono _ _ _) lq_1450 rfl ?_
    refine r_iload (zW_mono _ _ _) lq_1451 rfl ?_
    refine r_push (zW_mono _ _ _) lq_1452 ?_
    refine r_iadd (zW_mono _ _ _) lq_1453 ?_
    refine r_sld (zW_mono _ _ _) lq_1454 (zsx hx0 hx8 hN 4 (by decide) (by decide)) ?_
    refine r_virt4 (m1 := 0) (m2 := 0) (zW_mono _ _ _) lq_1455 hr9 (Nat.le_of_ble_eq_true rfl) (by unfold zbud; rw [hG]; rfl) (by omega) (by omega) ?_
    refine zW_mono zTt G 64 _ _ _ _ _ ?_ k9
    rintro w h3 ⟨⟨y9, rfl⟩, e9, p9⟩
    refine r_pop (zW_mono _ _ _) lq_1458 rfl ?_
    refine r_goto (zW_mono _ _ _) lq_1459 ?_
    exact K h3 _ _ p9 (by omega) (by omega)
set_option maxHeartbeats 1000000 in
theorem lawop_memoSum {G : zG} (hG : G.1 = zProg) (hN : G.2.2.1 ≤ 4096) {P : zH → Prop} {h : zH} {x : Int32} {q : Nat} (hx : x.toInt = 8 * q) (hq : 8 * q + 8 ≤ G.2.2.1) {c n : Nat} (hc : c ≤ 182 + 8 * q) (hn : n ≤ 43931 + 800 * q) (h0 : ∃ fs, h[0]? = some (.inr (11, fs))) (A : ∀ xs, zpB [zfI] xs → zW zTt G 64 138 (.ref 0 :: xs.map Value.int) h (fun w h2 => zTy 1 w ∧ (∃ fs, h2[111]? = some (.inr (12, fs))) ∧ zW zTt G 64 252 (.ref 111 :: xs.map Value.int) h2 (fun w2 h3 => zTy 1 w2 ∧ (false = true → w2 = w) ∧ P h3))) (K : ∀ h3 c n, P h3 → c ≤ 182 + 8 * (q + 1) → n ≤ 43931 + 800 * (q + 1) → zR zTt G cd_L 600000 7302250 (some .boolean) (zW zTt G 64) (fun w _ => w = some (.int 1)) 2138 [some (.retAddr 0), some (.ref 0), some (.ref 111), some (.int x)] [] h3 c n) : zR zTt G cd_L 600000 7302250 (some .boolean) (zW zTt G 64) (fun w _ => w = some (.int 1)) 1462 [some (.retAddr 0), some (.ref 0), some (.ref 111), some (.int x)] [] h c n := by
  have hx0 : 0 ≤ x.toInt := by omega
  have hx8 : x.toInt + 8 ≤ G.2.2.1 := by omega
  obtain ⟨fs0, hx_0⟩ := h0
  refine r_aload (zW_mono _ _ _) lq_1462 rfl ?_
  refine r_aloadS (zW_mono _ _ _) lq_1463 rfl ?_
  refine r_iload (zW_mono _ _ _) lq_1464 rfl ?_
  refine r_push (zW_mono _ _ _) lq_1465 ?_
  refine r_iadd (zW_mono _ _ _) lq_1466 ?_
  refine r_sld (zW_mono _ _ _) lq_1467 (zsx hx0 hx8 hN 1 (by decide) (by decide)) ?_
  refine r_virt1 (m1 := 0) (m2 := 0) (zW_mono _ _ _) lq_1468 hx_0 (Nat.le_of_ble_eq_true rfl) (by unfold zbud; rw [hG]; rfl) (by omega) (by omega) ?_
  refine zW_mono zTt G 64 _ _ _ _ _ ?_ (A [G.2.2.2 (x + 1).toNatClampNeg] ⟨zfI_ok _, trivial⟩)
  rintro w h2 ⟨⟨x9, rfl⟩, ⟨fs9, hr9⟩, k9⟩
  refine r_popl (zW_mono _ _ _) lq_1471 rfl ?_
  refine r_aload (zW_mono _ _ _) lq_1472 rfl ?_
  refine r_aloadS (zW_mono _ _ _) lq_1473 rfl ?_
  refine r_iload (zW_mono _ _ _) lq_1474 rfl ?_
  refine r_push (zW_mono _ _ _) lq_1475 ?_
  refine r_iadd (zW_mono _ _ _) lq_1476 ?_
  refine r_sld (zW_mono _ _ _) lq_1477 (zsx hx0 hx8 hN 1 (by decide) (by decide)) ?_
  refine r_virt1 (m1 := 0) (m2 := 0) (zW_mono _ _ _) lq_1478 hr9 (Nat.le_of_ble_eq_true rfl) (by unfold zbud; rw [hG]; rfl) (by omega) (by omega) ?_
  refine zW_mono zTt G 64 _ _ _ _ _ ?_ k9
  rintro w h3 ⟨⟨y9, rfl⟩, e9, p9⟩
  refine r_popl (zW_mono _ _ _) lq_1481 rfl ?_
  refine r_goto (zW_mono _ _ _) lq_1482 ?_
  exact K h3 _ _ p9 (by omega) (by omega)
set_option maxHeartbeats 1000000 in
theorem lawop_turnsAt {G : zG} (hG : G.1 = zProg) (hN : G.2.2.1 ≤ 4096) {P : zH → Prop} {h : zH} {x : Int32} {q : Nat} (hx : x.toInt = 8 * q) (hq : 8 * q + 8 ≤ G.2.2.1) {c n : Nat} (hc : c ≤ 182 + 8 * q) (hn : n ≤ 43931 + 800 * q) (h0 : ∃ fs, h[0]? = some (.inr (11, fs))) (A : ∀ xs, zpB [zfI, zfI, zfI] xs → zW zTt G 64 139 (.ref 0 :: xs.map Value.int) h (fun w h2 => zTy 1 w ∧ (∃ fs, h2[111]? = some (.inr (12, fs))) ∧ zW zTt G 64 253 (.ref 111 :: xs.map Value.int) h2 (fun w2 h3 => zTy 1 w2 ∧ (false = true → w2 = w) ∧ P h3))) (K : ∀ h3 c n, P h3 → c ≤ 182 + 8 * (q + 1) → n ≤ 43931 + 800 * (q + 1) → zR zTt G cd_L 600000 7302250 (some .boolean) (zW zTt G 64) (fun w _ => w = some (.int 1)) 2138 [some (.retAddr 0), some (.ref 0), some (.ref 111), some (.int x)] [] h3 c n) : zR zTt G cd_L 600000 7302250 (some .boolean) (zW zTt G 64) (fun w _ => w = some (.int 1)) 1485 [some (.retAddr 0), some (.ref 0), some (.ref 111), some (.int x)] [] h c n := by
  have hx0 : 0 ≤ x.toInt := by omega
  have hx8 : x.toInt + 8 ≤ G.2.2.1 := by omega
  obtain ⟨fs0, hx_0⟩ := h0
  refine r_aload (zW_mono _ _ _) lq_1485 rfl ?_
  refine r_aloadS (zW_mono _ _ _) lq_1486 rfl ?_
  refine r_iload (zW_mono _ _ _) lq_1487 rfl ?_
  refine r_push (zW_mono _ _ _) lq_1488 ?_
  refine r_iadd (zW_mono _ _ _) lq_1489 ?_
  refine r_sld (zW_mono _ _ _) lq_1490 (zsx hx0 hx8 hN 1 (by decide) (by decide)) ?_
  refine r_aloadS (zW_mono _ _ _) lq_1491 rfl ?_
  refine r_iload (zW_mono _ _ _) lq_1492 rfl ?_
  refine r_push (zW_mono _ _ _) lq_1493 ?_
  refine r_iadd (zW_mono _ _ _) lq_1494 ?_
  refine r_sld (zW_mono _ _ _) lq_1495 (zsx hx0 hx8 hN 2 (by decide) (by decide)) ?_
  refine r_aloadS (zW_mono _ _ _) lq_1496 rfl ?_
  refine r_iload (zW_mono _ _ _) lq_1497 rfl ?_
  refine r_push (zW_mono _ _ _) lq_1498 ?_
  refine r_iadd (zW_mono _ _ _) lq_1499 ?_
  refine r_sld (zW_mono _ _ _) lq_1500 (zsx hx0 hx8 hN 3 (by decide) (by decide)) ?_
  refine r_virt3 (m1 := 0) (m2 := 0) (zW_mono _ _ _) lq_1501 hx_0 (Nat.le_of_ble_eq_true rfl) (by unfold zbud; rw [hG]; rfl) (by omega) (by omega) ?_
  refine zW_mono zTt G 64 _ _ _ _ _ ?_ (A [G.2.2.2 (x + 1).toNatClampNeg, G.2.2.2 (x + 2).toNatClampNeg, G.2.2.2 (x + 3).toNatClampNeg] ⟨zfI_ok _, zfI_ok _, zfI_ok _, trivial⟩)
  rintro w h2 ⟨⟨x9, rfl⟩, ⟨fs9, hr9⟩, k9⟩
  refine r_popl (zW_mono _ _ _) lq_1504 rfl ?_
  refine r_aload (zW_mono _ _ _) lq_1505 rfl ?_
  refine r_aloadS (zW_mono _ _ _) lq_1506 rfl ?_
  refine r_iload (zW_mono _ _ _) lq_1507 rfl ?_
  refine r_push (zW_mono _ _ _) lq_1508 ?_
  refine r_iadd (zW_mono _ _ _) lq_1509 ?_
  refine r_sld (zW_mono _ _ _) lq_1510 (zsx hx0 hx8 hN 1 (by decide) (by decide)) ?_
  refine r_aloadS (zW_mono _ _ _) lq_1511 rfl ?_
  refine r_iload (zW_mono _ _ _) lq_1512 rfl ?_
  refine r_push (zW_mono _ _ _) lq_1513 ?_
  refine r_iadd (zW_mono _ _ _) lq_1514 ?_
  refine r_sld (zW_mono _ _ _) lq_1515 (zsx hx0 hx8 hN 2 (by decide) (by decide)) ?_
  refine r_aloadS (zW_mono _ _ _) lq_1516 rfl ?_
  refine r_iload (zW_mono _ _ _) lq_1517 rfl ?_
  refine r_push (zW_mono _ _ _) lq_1518 ?_
  refine r_iadd (zW_mono _ _ _) lq_1519 ?_
  refine r_sld (zW_mono _ _ _) lq_1520 (zsx hx0 hx8 hN 3 (by decide) (by decide)) ?_
  refine r_virt3 (m1 := 0) (m2 := 0) (zW_mono _ _ _) lq_1521 hr9 (Nat.le_of_ble_eq_true rfl) (by unfold zbud; rw [hG]; rfl) (by omega) (by omega) ?_
  refine zW_mono zTt G 64 _ _ _ _ _ ?_ k9
  rintro w h3 ⟨⟨y9, rfl⟩, e9, p9⟩
  refine r_popl (zW_mono _ _ _) lq_1524 rfl ?_
  refine r_goto (zW_mono _ _ _) lq_1525 ?_
  exact K h3 _ _ p9 (by omega) (by omega)
set_option maxHeartbeats 1000000 in
theorem lawop_beside {G : zG} (hG : G.1 = zProg) (hN : G.2.2.1 ≤ 4096) {P : zH → Prop} {h : zH} {x : Int32} {q : Nat} (hx : x.toInt = 8 * q) (hq : 8 * q + 8 ≤ G.2.2.1) {c n : Nat} (hc : c ≤ 182 + 8 * q) (hn : n ≤ 43931 + 800 * q) (h0 : ∃ fs, h[0]? = some (.inr (11, fs))) (A : ∀ xs, zpB [zfI, zfI, zfI] xs → zW zTt G 64 140 (.ref 0 :: xs.map Value.int) h (fun w h2 => zTy 1 w ∧ (∃ fs, h2[111]? = some (.inr (12, fs))) ∧ zW zTt G 64 256 (.ref 111 :: xs.map Value.int) h2 (fun w2 h3 => zTy 1 w2 ∧ (false = true → w2 = w) ∧ P h3))) (K : ∀ h3 c n, P h3 → c ≤ 182 + 8 * (q + 1) → n ≤ 43931 + 800 * (q + 1) → zR zTt G cd_L 600000 7302250 (some .boolean) (zW zTt G 64) (fun w _ => w = some (.int 1)) 2138 [some (.retAddr 0), some (.ref 0), some (.ref 111), some (.int x)] [] h3 c n) : zR zTt G cd_L 600000 7302250 (some .boolean) (zW zTt G 64) (fun w _ => w = some (.int 1)) 1528 [some (.retAddr 0), some (.ref 0), some (.ref 111), some (.int x)] [] h c n := by
  have hx0 : 0 ≤ x.toInt := by omega
  have hx8 : x.toInt + 8 ≤ G.2.2.1 := by omega
  obtain ⟨fs0, hx_0⟩ := h0
  refine r_aload (zW_mono _ _ _) lq_1528 rfl ?_
  refine r_aloadS (zW_mono _ _ _) lq_1529 rfl ?_
  refine r_iload (zW_mono _ _ _) lq_1530 rfl ?_
  refine r_push (zW_mono _ _ _) lq_1531 ?_
  refine r_iadd (zW_mono _ _ _) lq_1532 ?_
  refine r_sld (zW_mono _ _ _) lq_1533 (zsx hx0 hx8 hN 1 (by decide) (by decide)) ?_
  refine r_aloadS (zW_mono _ _ _) lq_1534 rfl ?_
  refine r_iload (zW_mono _ _ _) lq_1535 rfl ?_
  refine r_push (zW_mono _ _ _) lq_1536 ?_
  refine r_iadd (zW_mono _ _ _) lq_1537 ?_
  refine r_sld (zW_mono _ _ _) lq_1538 (zsx hx0 hx8 hN 2 (by decide) (by decide)) ?_
  refine r_aloadS (zW_mono _ _ _) lq_1539 rfl ?_
  refine r_iload (zW_mono _ _ _) lq_1540 rfl ?_
  refine r_push (zW_mono _ _ _) lq_1541 ?_
  refine r_iadd (zW_mono _ _ _) lq_1542 ?_
  refine r_sld (zW_mono _ _ _) lq_1543 (zsx hx0 hx8 hN 3 (by decide) (by decide)) ?_
  refine r_virt3 (m1 := 0) (m2 := 0) (zW_mono _ _ _) lq_1544 hx_0 (Nat.le_of_ble_eq_true rfl) (by unfold zbud; rw [hG]; rfl) (by omega) (by omega) ?_
  refine zW_mono zTt G 64 _ _ _ _ _ ?_ (A [G.2.2.2 (x + 1).toNatClampNeg, G.2.2.2 (x + 2).toNatClampNeg, G.2.2.2 (x + 3).toNatClampNeg] ⟨zfI_ok _, zfI_ok _, zfI_ok _, trivial⟩)
  rintro w h2 ⟨⟨x9, rfl⟩, ⟨fs9, hr9⟩, k9⟩
  refine r_popl (zW_mono _ _ _) lq_1547 rfl ?_
  refine r_aload (zW_mono _ _ _) lq_1548 rfl ?_
  refine r_aloadS (zW_mono _ _ _) lq_1549 rfl ?_
  refine r_iload (zW_mono _ _ _) lq_1550 rfl ?_
  refine r_push (zW_mono _ _ _) lq_1551 ?_
  refine r_iadd (zW_mono _ _ _) lq_1552 ?_
  refine r_sld (zW_mono _ _ _) lq_1553 (zsx hx0 hx8 hN 1 (by decide) (by decide)) ?_
  refine r_aloadS (zW_mono _ _ _) lq_1554 rfl ?_
  refine r_iload (zW_mono _ _ _) lq_1555 rfl ?_
  refine r_push (zW_mono _ _ _) lq_1556 ?_
  refine r_iadd (zW_mono _ _ _) lq_1557 ?_
  refine r_sld (zW_mono _ _ _) lq_1558 (zsx hx0 hx8 hN 2 (by decide) (by decide)) ?_
  refine r_aloadS (zW_mono _ _ _) lq_1559 rfl ?_
  refine r_iload (zW_mono _ _ _) lq_1560 rfl ?_
  refine r_push (zW_mono _ _ _) lq_1561 ?_
  refine r_iadd (zW_mono _ _ _) lq_1562 ?_
  refine r_sld (zW_mono _ _ _) lq_1563 (zsx hx0 hx8 hN 3 (by decide) (by decide)) ?_
  refine r_virt3 (m1 := 0) (m2 := 0) (zW_mono _ _ _) lq_1564 hr9 (Nat.le_of_ble_eq_true rfl) (by unfold zbud; rw [hG]; rfl) (by omega) (by omega) ?_
  refine zW_mono zTt G 64 _ _ _ _ _ ?_ k9
  rintro w h3 ⟨⟨y9, rfl⟩, e9, p9⟩
  refine r_popl (zW_mono _ _ _) lq_1567 rfl ?_
  refine r_goto (zW_mono _ _ _) lq_1568 ?_
  exact K h3 _ _ p9 (by omega) (by omega)
set_option maxHeartbeats 1000000 in
theorem lawop_step {G : zG} (hG : G.1 = zProg) (hN : G.2.2.1 ≤ 4096) {P : zH → Prop} {h : zH} {x : Int32} {q : Nat} (hx : x.toInt = 8 * q) (hq : 8 * q + 8 ≤ G.2.2.1) {c n : Nat} (hc : c ≤ 182 + 8 * q) (hn : n ≤ 43931 + 800 * q) (h0 : ∃ fs, h[0]? = some (.inr (11, fs))) (A : ∀ xs, zpB [zfI, zfI, zfI, zfI] xs → zW zTt G 64 141 (.ref 0 :: xs.map Value.int) h (fun w h2 => zTy 0 w ∧ (∃ fs, h2[111]? = some (.inr (12, fs))) ∧ zW zTt G 64 257 (.ref 111 :: xs.map Value.int) h2 (fun w2 h3 => zTy 0 w2 ∧ (false = true → w2 = w) ∧ P h3))) (K : ∀ h3 c n, P h3 → c ≤ 182 + 8 * (q + 1) → n ≤ 43931 + 800 * (q + 1) → zR zTt G cd_L 600000 7302250 (some .boolean) (zW zTt G 64) (fun w _ => w = some (.int 1)) 2138 [some (.retAddr 0), some (.ref 0), some (.ref 111), some (.int x)] [] h3 c n) : zR zTt G cd_L 600000 7302250 (some .boolean) (zW zTt G 64) (fun w _ => w = some (.int 1)) 1571 [some (.retAddr 0), some (.ref 0), some (.ref 111), some (.int x)] [] h c n := by
  have hx0 : 0 ≤ x.toInt := by omega
  have hx8 : x.toInt + 8 ≤ G.2.2.1 := by omega
  obtain ⟨fs0, hx_0⟩ := h0
  refine r_aload (zW_mono _ _ _) lq_1571 rfl ?_
  refine r_aloadS (zW_mono _ _ _) lq_1572 rfl ?_
  refine r_iload (zW_mono _ _ _) lq_1573 rfl ?_
  refine r_push (zW_mono _ _ _) lq_1574 ?_
  refine r_iadd (zW_mono _ _ _) lq_1575 ?_
  refine r_sld (zW_mono _ _ _) lq_1576 (zsx hx0 hx8 hN 1 (by decide) (by decide)) ?_
  refine r_aloadS (zW_mono _ _ _) lq_1577 rfl ?_
  refine r_iload (zW_mono _ _ _) lq_1578 rfl ?_
  refine r_push (zW_mono _ _ _) lq_1579 ?_
  refine r_iadd (zW_mono _ _ _) lq_1580 ?_
  refine r_sld (zW_mono _ _ _) lq_1581 (zsx hx0 hx8 hN 2 (by decide) (by decide)) ?_
  refine r_aloadS (zW_mono _ _ _) lq_1582 rfl ?_
  refine r_iload (zW_mono _ _ _) lq_1583 rfl ?_
  refine r_push (zW_mono _ _ _) lq_1584 ?_
  refine r_iadd (zW_mono _ _ _) lq_1585 ?_
  refine r_sld (zW_mono _ _ _) lq_1586 (zsx hx0 hx8 hN 3 (by decide) (by decide)) ?_
  refine r_aloadS (zW_mono _ _ _) lq_1587 rfl ?_
  refine r_iload (zW_mono _ _ _) lq_1588 rfl ?_
  refine r_push (zW_mono _ _ _) lq_1589 ?_
  refine r_iadd (zW_mono _ _ _) lq_1590 ?_
  refine r_sld (zW_mono _ _ _) lq_1591 (zsx hx0 hx8 hN 4 (by decide) (by decide)) ?_
  refine r_virt4 (m1 := 0) (m2 := 0) (zW_mono _ _ _) lq_1592 hx_0 (Nat.le_of_ble_eq_true rfl) (by unfold zbud; rw [hG]; rfl) (by omega) (by omega) ?_
  refine zW_mono zTt G 64 _ _ _ _ _ ?_ (A [G.2.2.2 (x + 1).toNatClampNeg, G.2.2.2 (x + 2).toNatClampNeg, G.2.2.2 (x + 3).toNatClampNeg, G.2.2.2 (x + 4).toNatClampNeg] ⟨zfI_ok _, zfI_ok _, zfI_ok _, zfI_ok _, trivial⟩)
  rintro w h2 ⟨⟨x9, rfl⟩, ⟨fs9, hr9⟩, k9⟩
  refine r_pop (zW_mono _ _ _) lq_1595 rfl ?_
  refine r_aload (zW_mono _ _ _) lq_1596 rfl ?_
  refine r_aloadS (zW_mono _ _ _) lq_1597 rfl ?_
  refine r_iload (zW_mono _ _ _) lq_1598 rfl ?_
  refine r_push (zW_mono _ _ _) lq_1599 ?_
  refine r_iadd (zW_mono _ _ _) lq_1600 ?_
  refine r_sld (zW_mono _ _ _) lq_1601 (zsx hx0 hx8 hN 1 (by decide) (by decide)) ?_
  refine r_aloadS (zW_mono _ _ _) lq_1602 rfl ?_
  refine r_iload (zW_mono _ _ _) lq_1603 rfl ?_
  refine r_push (zW_mono _ _ _) lq_1604 ?_
  refine r_iadd (zW_mono _ _ _) lq_1605 ?_
  refine r_sld (zW_mono _ _ _) lq_1606 (zsx hx0 hx8 hN 2 (by decide) (by decide)) ?_
  refine r_aloadS (zW_mono _ _ _) lq_1607 rfl ?_
  refine r_iload (zW_mono _ _ _) lq_1608 rfl ?_
  refine r_push (zW_mono _ _ _) lq_1609 ?_
  refine r_iadd (zW_mono _ _ _) lq_1610 ?_
  refine r_sld (zW_mono _ _ _) lq_1611 (zsx hx0 hx8 hN 3 (by decide) (by decide)) ?_
  refine r_aloadS (zW_mono _ _ _) lq_1612 rfl ?_
  refine r_iload (zW_mono _ _ _) lq_1613 rfl ?_
  refine r_push (zW_mono _ _ _) lq_1614 ?_
  refine r_iadd (zW_mono _ _ _) lq_1615 ?_
  refine r_sld (zW_mono _ _ _) lq_1616 (zsx hx0 hx8 hN 4 (by decide) (by decide)) ?_
  refine r_virt4 (m1 := 0) (m2 := 0) (zW_mono _ _ _) lq_1617 hr9 (Nat.le_of_ble_eq_true rfl) (by unfold zbud; rw [hG]; rfl) (by omega) (by omega) ?_
  refine zW_mono zTt G 64 _ _ _ _ _ ?_ k9
  rintro w h3 ⟨⟨y9, rfl⟩, e9, p9⟩
  refine r_pop (zW_mono _ _ _) lq_1620 rfl ?_
  refine r_goto (zW_mono _ _ _) lq_1621 ?_
  exact K h3 _ _ p9 (by omega) (by omega)
set_option maxHeartbeats 1000000 in
theorem lawop_steps {G : zG} (hG : G.1 = zProg) (hN : G.2.2.1 ≤ 4096) {P : zH → Prop} {h : zH} {x : Int32} {q : Nat} (hx : x.toInt = 8 * q) (hq : 8 * q + 8 ≤ G.2.2.1) {c n : Nat} (hc : c ≤ 182 + 8 * q) (hn : n ≤ 43931 + 800 * q) (h0 : ∃ fs, h[0]? = some (.inr (11, fs))) (A : ∀ xs, zpB [zfI, zfI] xs → zW zTt G 64 142 (.ref 0 :: xs.map Value.int) h (fun w h2 => zTy 0 w ∧ (∃ fs, h2[111]? = some (.inr (12, fs))) ∧ zW zTt G 64 260 (.ref 111 :: xs.map Value.int) h2 (fun w2 h3 => zTy 0 w2 ∧ (false = true → w2 = w) ∧ P h3))) (K : ∀ h3 c n, P h3 → c ≤ 182 + 8 * (q + 1) → n ≤ 43931 + 800 * (q + 1) → zR zTt G cd_L 600000 7302250 (some .boolean) (zW zTt G 64) (fun w _ => w = some (.int 1)) 2138 [some (.retAddr 0), some (.ref 0), some (.ref 111), some (.int x)] [] h3 c n) : zR zTt G cd_L 600000 7302250 (some .boolean) (zW zTt G 64) (fun w _ => w = some (.int 1)) 1624 [some (.retAddr 0), some (.ref 0), some (.ref 111), some (.int x)] [] h c n := by
  have hx0 : 0 ≤ x.toInt := by omega
  have hx8 : x.toInt + 8 ≤ G.2.2.1 := by omega
  obtain ⟨fs0, hx_0⟩ := h0
  refine r_aload (zW_mono _ _ _) lq_1624 rfl ?_
  refine r_aloadS (zW_mono _ _ _) lq_1625 rfl ?_
  refine r_iload (zW_mono _ _ _) lq_1626 rfl ?_
  refine r_push (zW_mono _ _ _) lq_1627 ?_
  refine r_iadd (zW_mono _ _ _) lq_1628 ?_
  refine r_sld (zW_mono _ _ _) lq_1629 (zsx hx0 hx8 hN 1 (by decide) (by decide)) ?_
  refine r_aloadS (zW_mono _ _ _) lq_1630 rfl ?_
  refine r_iload (zW_mono _ _ _) lq_1631 rfl ?_
  refine r_push (zW_mono _ _ _) lq_1632 ?_
  refine r_iadd (zW_mono _ _ _) lq_1633 ?_
  refine r_sld (zW_mono _ _ _) lq_1634 (zsx hx0 hx8 hN 2 (by decide) (by decide)) ?_
  refine r_virt2 (m1 := 0) (m2 := 0) (zW_mono _ _ _) lq_1635 hx_0 (Nat.le_of_ble_eq_true rfl) (by unfold zbud; rw [hG]; rfl) (by omega) (by omega) ?_
  refine zW_mono zTt G 64 _ _ _ _ _ ?_ (A [G.2.2.2 (x + 1).toNatClampNeg, G.2.2.2 (x + 2).toNatClampNeg] ⟨zfI_ok _, zfI_ok _, trivial⟩)
  rintro w h2 ⟨⟨x9, rfl⟩, ⟨fs9, hr9⟩, k9⟩
  refine r_pop (zW_mono _ _ _) lq_1638 rfl ?_
  refine r_aload (zW_mono _ _ _) lq_1639 rfl ?_
  refine r_aloadS (zW_mono _ _ _) lq_1640 rfl ?_
  refine r_iload (zW_mono _ _ _) lq_1641 rfl ?_
  refine r_push (zW_mono _ _ _) lq_1642 ?_
  refine r_iadd (zW_mono _ _ _) lq_1643 ?_
  refine r_sld (zW_mono _ _ _) lq_1644 (zsx hx0 hx8 hN 1 (by decide) (by decide)) ?_
  refine r_aloadS (zW_mono _ _ _) lq_1645 rfl ?_
  refine r_iload (zW_mono _ _ _) lq_1646 rfl ?_
  refine r_push (zW_mono _ _ _) lq_1647 ?_
  refine r_iadd (zW_mono _ _ _) lq_1648 ?_
  refine r_sld (zW_mono _ _ _) lq_1649 (zsx hx0 hx8 hN 2 (by decide) (by decide)) ?_
  refine r_virt2 (m1 := 0) (m2 := 0) (zW_mono _ _ _) lq_1650 hr9 (Nat.le_of_ble_eq_true rfl) (by unfold zbud; rw [hG]; rfl) (by omega) (by omega) ?_
  refine zW_mono zTt G 64 _ _ _ _ _ ?_ k9
  rintro w h3 ⟨⟨y9, rfl⟩, e9, p9⟩
  refine r_pop (zW_mono _ _ _) lq_1653 rfl ?_
  refine r_goto (zW_mono _ _ _) lq_1654 ?_
  exact K h3 _ _ p9 (by omega) (by omega)
set_option maxHeartbeats 1000000 in
theorem lawop_putOff {G : zG} (hG : G.1 = zProg) (hN : G.2.2.1 ≤ 4096) {P : zH → Prop} {h : zH} {x : Int32} {q : Nat} (hx : x.toInt = 8 * q) (hq : 8 * q + 8 ≤ G.2.2.1) {c n : Nat} (hc : c ≤ 182 + 8 * q) (hn : n ≤ 43931 + 800 * q) (h0 : ∃ fs, h[0]? = some (.inr (11, fs))) (A : ∀ xs, zpB [zfI] xs → zW zTt G 64 143 (.ref 0 :: xs.map Value.int) h (fun w h2 => zTy 0 w ∧ (∃ fs, h2[111]? = some (.inr (12, fs))) ∧ zW zTt G 64 261 (.ref 111 :: xs.map Value.int) h2 (fun w2 h3 => zTy 0 w2 ∧ (false = true → w2 = w) ∧ P h3))) (K : ∀ h3 c n, P h3 → c ≤ 182 + 8 * (q + 1) → n ≤ 43931 + 800 * (q + 1) → zR zTt G cd_L 600000 7302250 (some .boolean) (zW zTt G 64) (fun w _ => w = some (.int 1)) 2138 [some (.retAddr 0), some (.ref 0), some (.ref 111), some (.int x)] [] h3 c n) : zR zTt G cd_L 600000 7302250 (some .boolean) (zW zTt G 64) (fun w _ => w = some (.int 1)) 1657 [some (.retAddr 0), some (.ref 0), some (.ref 111), some (.int x)] [] h c n := by
  have hx0 : 0 ≤ x.toInt := by omega
  have hx8 : x.toInt + 8 ≤ G.2.2.1 := by omega
  obtain ⟨fs0, hx_0⟩ := h0
  refine r_aload (zW_mono _ _ _) lq_1657 rfl ?_
  refine r_aloadS (zW_mono _ _ _) lq_1658 rfl ?_
  refine r_iload (zW_mono _ _ _) lq_1659 rfl ?_
  refine r_push (zW_mono _ _ _) lq_1660 ?_
  refine r_iadd (zW_mono _ _ _) lq_1661 ?_
  refine r_sld (zW_mono _ _ _) lq_1662 (zsx hx0 hx8 hN 1 (by decide) (by decide)) ?_
  refine r_virt1 (m1 := 0) (m2 := 0) (zW_mono _ _ _) lq_1663 hx_0 (Nat.le_of_ble_eq_true rfl) (by unfold zbud; rw [hG]; rfl) (by omega) (by omega) ?_
  refine zW_mono zTt G 64 _ _ _ _ _ ?_ (A [G.2.2.2 (x + 1).toNatClampNeg] ⟨zfI_ok _, trivial⟩)
  rintro w h2 ⟨⟨x9, rfl⟩, ⟨fs9, hr9⟩, k9⟩
  refine r_pop (zW_mono _ _ _) lq_1666 rfl ?_
  refine r_aload (zW_mono _ _ _) lq_1667 rfl ?_
  refine r_aloadS (zW_mono _ _ _) lq_1668 rfl ?_
  refine r_iload (zW_mono _ _ _) lq_1669 rfl ?_
  refine r_push (zW_mono _ _ _) lq_1670 ?_
  refine r_iadd (zW_mono _ _ _) lq_1671 ?_
  refine r_sld (zW_mono _ _ _) lq_1672 (zsx hx0 hx8 hN 1 (by decide) (by decide)) ?_
  refine r_virt1 (m1 := 0) (m2 := 0) (zW_mono _ _ _) lq_1673 hr9 (Nat.le_of_ble_eq_true rfl) (by unfold zbud; rw [hG]; rfl) (by omega) (by omega) ?_
  refine zW_mono zTt G 64 _ _ _ _ _ ?_ k9
  rintro w h3 ⟨⟨y9, rfl⟩, e9, p9⟩
  refine r_pop (zW_mono _ _ _) lq_1676 rfl ?_
  refine r_goto (zW_mono _ _ _) lq_1677 ?_
  exact K h3 _ _ p9 (by omega) (by omega)
set_option maxHeartbeats 1000000 in
theorem lawop_change {G : zG} (hG : G.1 = zProg) (hN : G.2.2.1 ≤ 4096) {P : zH → Prop} {h : zH} {x : Int32} {q : Nat} (hx : x.toInt = 8 * q) (hq : 8 * q + 8 ≤ G.2.2.1) {c n : Nat} (hc : c ≤ 182 + 8 * q) (hn : n ≤ 43931 + 800 * q) (h0 : ∃ fs, h[0]? = some (.inr (11, fs))) (A : ∀ xs, zpB [zfI, zfI] xs → zW zTt G 64 144 (.ref 0 :: xs.map Value.int) h (fun w h2 => zTy 0 w ∧ (∃ fs, h2[111]? = some (.inr (12, fs))) ∧ zW zTt G 64 263 (.ref 111 :: xs.map Value.int) h2 (fun w2 h3 => zTy 0 w2 ∧ (false = true → w2 = w) ∧ P h3))) (K : ∀ h3 c n, P h3 → c ≤ 182 + 8 * (q + 1) → n ≤ 43931 + 800 * (q + 1) → zR zTt G cd_L 600000 7302250 (some .boolean) (zW zTt G 64) (fun w _ => w = some (.int 1)) 2138 [some (.retAddr 0), some (.ref 0), some (.ref 111), some (.int x)] [] h3 c n) : zR zTt G cd_L 600000 7302250 (some .boolean) (zW zTt G 64) (fun w _ => w = some (.int 1)) 1680 [some (.retAddr 0), some (.ref 0), some (.ref 111), some (.int x)] [] h c n := by
  have hx0 : 0 ≤ x.toInt := by omega
  have hx8 : x.toInt + 8 ≤ G.2.2.1 := by omega
  obtain ⟨fs0, hx_0⟩ := h0
  refine r_aload (zW_mono _ _ _) lq_1680 rfl ?_
  refine r_aloadS (zW_mono _ _ _) lq_1681 rfl ?_
  refine r_iload (zW_mono _ _ _) lq_1682 rfl ?_
  refine r_push (zW_mono _ _ _) lq_1683 ?_
  refine r_iadd (zW_mono _ _ _) lq_1684 ?_
  refine r_sld (zW_mono _ _ _) lq_1685 (zsx hx0 hx8 hN 1 (by decide) (by decide)) ?_
  refine r_aloadS (zW_mono _ _ _) lq_1686 rfl ?_
  refine r_iload (zW_mono _ _ _) lq_1687 rfl ?_
  refine r_push (zW_mono _ _ _) lq_1688 ?_
  refine r_iadd (zW_mono _ _ _) lq_1689 ?_
  refine r_sld (zW_mono _ _ _) lq_1690 (zsx hx0 hx8 hN 2 (by decide) (by decide)) ?_
  refine r_virt2 (m1 := 0) (m2 := 0) (zW_mono _ _ _) lq_1691 hx_0 (Nat.le_of_ble_eq_true rfl) (by unfold zbud; rw [hG]; rfl) (by omega) (by omega) ?_
  refine zW_mono zTt G 64 _ _ _ _ _ ?_ (A [G.2.2.2 (x + 1).toNatClampNeg, G.2.2.2 (x + 2).toNatClampNeg] ⟨zfI_ok _, zfI_ok _, trivial⟩)
  rintro w h2 ⟨⟨x9, rfl⟩, ⟨fs9, hr9⟩, k9⟩
  refine r_pop (zW_mono _ _ _) lq_1694 rfl ?_
  refine r_aload (zW_mono _ _ _) lq_1695 rfl ?_
  refine r_aloadS (zW_mono _ _ _) lq_1696 rfl ?_
  refine r_iload (zW_mono _ _ _) lq_1697 rfl ?_
  refine r_push (zW_mono _ _ _) lq_1698 ?_
  refine r_iadd (zW_mono _ _ _) lq_1699 ?_
  refine r_sld (zW_mono _ _ _) lq_1700 (zsx hx0 hx8 hN 1 (by decide) (by decide)) ?_
  refine r_aloadS (zW_mono _ _ _) lq_1701 rfl ?_
  refine r_iload (zW_mono _ _ _) lq_1702 rfl ?_
  refine r_push (zW_mono _ _ _) lq_1703 ?_
  refine r_iadd (zW_mono _ _ _) lq_1704 ?_
  refine r_sld (zW_mono _ _ _) lq_1705 (zsx hx0 hx8 hN 2 (by decide) (by decide)) ?_
  refine r_virt2 (m1 := 0) (m2 := 0) (zW_mono _ _ _) lq_1706 hr9 (Nat.le_of_ble_eq_true rfl) (by unfold zbud; rw [hG]; rfl) (by omega) (by omega) ?_
  refine zW_mono zTt G 64 _ _ _ _ _ ?_ k9
  rintro w h3 ⟨⟨y9, rfl⟩, e9, p9⟩
  refine r_pop (zW_mono _ _ _) lq_1709 rfl ?_
  refine r_goto (zW_mono _ _ _) lq_1710 ?_
  exact K h3 _ _ p9 (by omega) (by omega)
set_option maxHeartbeats 1000000 in
theorem lawop_cheap {G : zG} (hG : G.1 = zProg) (hN : G.2.2.1 ≤ 4096) {P : zH → Prop} {h : zH} {x : Int32} {q : Nat} (hx : x.toInt = 8 * q) (hq : 8 * q + 8 ≤ G.2.2.1) {c n : Nat} (hc : c ≤ 182 + 8 * q) (hn : n ≤ 43931 + 800 * q) (h0 : ∃ fs, h[0]? = some (.inr (11, fs))) (A : ∀ xs, zpB [zfI, zfI] xs → zW zTt G 64 145 (.ref 0 :: xs.map Value.int) h (fun w h2 => zTy 0 w ∧ (∃ fs, h2[111]? = some (.inr (12, fs))) ∧ zW zTt G 64 264 (.ref 111 :: xs.map Value.int) h2 (fun w2 h3 => zTy 0 w2 ∧ (false = true → w2 = w) ∧ P h3))) (K : ∀ h3 c n, P h3 → c ≤ 182 + 8 * (q + 1) → n ≤ 43931 + 800 * (q + 1) → zR zTt G cd_L 600000 7302250 (some .boolean) (zW zTt G 64) (fun w _ => w = some (.int 1)) 2138 [some (.retAddr 0), some (.ref 0), some (.ref 111), some (.int x)] [] h3 c n) : zR zTt G cd_L 600000 7302250 (some .boolean) (zW zTt G 64) (fun w _ => w = some (.int 1)) 1713 [some (.retAddr 0), some (.ref 0), some (.ref 111), some (.int x)] [] h c n := by
  have hx0 : 0 ≤ x.toInt := by omega
  have hx8 : x.toInt + 8 ≤ G.2.2.1 := by omega
  obtain ⟨fs0, hx_0⟩ := h0
  refine r_aload (zW_mono _ _ _) lq_1713 rfl ?_
  refine r_aloadS (zW_mono _ _ _) lq_1714 rfl ?_
  refine r_iload (zW_mono _ _ _) lq_1715 rfl ?_
  refine r_push (zW_mono _ _ _) lq_1716 ?_
  refine r_iadd (zW_mono _ _ _) lq_1717 ?_
  refine r_sld (zW_mono _ _ _) lq_1718 (zsx hx0 hx8 hN 1 (by decide) (by decide)) ?_
  refine r_aloadS (zW_mono _ _ _) lq_1719 rfl ?_
  refine r_iload (zW_mono _ _ _) lq_1720 rfl ?_
  refine r_push (zW_mono _ _ _) lq_1721 ?_
  refine r_iadd (zW_mono _ _ _) lq_1722 ?_
  refine r_sld (zW_mono _ _ _) lq_1723 (zsx hx0 hx8 hN 2 (by decide) (by decide)) ?_
  refine r_virt2 (m1 := 0) (m2 := 0) (zW_mono _ _ _) lq_1724 hx_0 (Nat.le_of_ble_eq_true rfl) (by unfold zbud; rw [hG]; rfl) (by omega) (by omega) ?_
  refine zW_mono zTt G 64 _ _ _ _ _ ?_ (A [G.2.2.2 (x + 1).toNatClampNeg, G.2.2.2 (x + 2).toNatClampNeg] ⟨zfI_ok _, zfI_ok _, trivial⟩)
  rintro w h2 ⟨⟨x9, rfl⟩, ⟨fs9, hr9⟩, k9⟩
  refine r_pop (zW_mono _ _ _) lq_1727 rfl ?_
  refine r_aload (zW_mono _ _ _) lq_1728 rfl ?_
  refine r_aloadS (zW_mono _ _ _) lq_1729 rfl ?_
  refine r_iload (zW_mono _ _ _) lq_1730 rfl ?_
  refine r_push (zW_mono _ _ _) lq_1731 ?_
  refine r_iadd (zW_mono _ _ _) lq_1732 ?_
  refine r_sld (zW_mono _ _ _) lq_1733 (zsx hx0 hx8 hN 1 (by decide) (by decide)) ?_
  refine r_aloadS (zW_mono _ _ _) lq_1734 rfl ?_
  refine r_iload (zW_mono _ _ _) lq_1735 rfl ?_
  refine r_push (zW_mono _ _ _) lq_1736 ?_
  refine r_iadd (zW_mono _ _ _) lq_1737 ?_
  refine r_sld (zW_mono _ _ _) lq_1738 (zsx hx0 hx8 hN 2 (by decide) (by decide)) ?_
  refine r_virt2 (m1 := 0) (m2 := 0) (zW_mono _ _ _) lq_1739 hr9 (Nat.le_of_ble_eq_true rfl) (by unfold zbud; rw [hG]; rfl) (by omega) (by omega) ?_
  refine zW_mono zTt G 64 _ _ _ _ _ ?_ k9
  rintro w h3 ⟨⟨y9, rfl⟩, e9, p9⟩
  refine r_pop (zW_mono _ _ _) lq_1742 rfl ?_
  refine r_goto (zW_mono _ _ _) lq_1743 ?_
  exact K h3 _ _ p9 (by omega) (by omega)
set_option maxHeartbeats 1000000 in
theorem lawop_call {G : zG} (hG : G.1 = zProg) (hN : G.2.2.1 ≤ 4096) {P : zH → Prop} {h : zH} {x : Int32} {q : Nat} (hx : x.toInt = 8 * q) (hq : 8 * q + 8 ≤ G.2.2.1) {c n : Nat} (hc : c ≤ 182 + 8 * q) (hn : n ≤ 43931 + 800 * q) (h0 : ∃ fs, h[0]? = some (.inr (11, fs))) (A : ∀ xs, zpB [zfI, zfI, zfI, zfI] xs → zW zTt G 64 146 (.ref 0 :: xs.map Value.int) h (fun w h2 => zTy 0 w ∧ (∃ fs, h2[111]? = some (.inr (12, fs))) ∧ zW zTt G 64 265 (.ref 111 :: xs.map Value.int) h2 (fun w2 h3 => zTy 0 w2 ∧ (false = true → w2 = w) ∧ P h3))) (K : ∀ h3 c n, P h3 → c ≤ 182 + 8 * (q + 1) → n ≤ 43931 + 800 * (q + 1) → zR zTt G cd_L 600000 7302250 (some .boolean) (zW zTt G 64) (fun w _ => w = some (.int 1)) 2138 [some (.retAddr 0), some (.ref 0), some (.ref 111), some (.int x)] [] h3 c n) : zR zTt G cd_L 600000 7302250 (some .boolean) (zW zTt G 64) (fun w _ => w = some (.int 1)) 1746 [some (.retAddr 0), some (.ref 0), some (.ref 111), some (.int x)] [] h c n := by
  have hx0 : 0 ≤ x.toInt := by omega
  have hx8 : x.toInt + 8 ≤ G.2.2.1 := by omega
  obtain ⟨fs0, hx_0⟩ := h0
  refine r_aload (zW_mono _ _ _) lq_1746 rfl ?_
  refine r_aloadS (zW_mono _ _ _) lq_1747 rfl ?_
  refine r_iload (zW_mono _ _ _) lq_1748 rfl ?_
  refine r_push (zW_mono _ _ _) lq_1749 ?_
  refine r_iadd (zW_mono _ _ _) lq_1750 ?_
  refine r_sld (zW_mono _ _ _) lq_1751 (zsx hx0 hx8 hN 1 (by decide) (by decide)) ?_
  refine r_aloadS (zW_mono _ _ _) lq_1752 rfl ?_
  refine r_iload (zW_mono _ _ _) lq_1753 rfl ?_
  refine r_push (zW_mono _ _ _) lq_1754 ?_
  refine r_iadd (zW_mono _ _ _) lq_1755 ?_
  refine r_sld (zW_mono _ _ _) lq_1756 (zsx hx0 hx8 hN 2 (by decide) (by decide)) ?_
  refine r_aloadS (zW_mono _ _ _) lq_1757 rfl ?_
  refine r_iload (zW_mono _ _ _) lq_1758 rfl ?_
  refine r_push (zW_mono _ _ _) lq_1759 ?_
  refine r_iadd (zW_mono _ _ _) lq_1760 ?_
  refine r_sld (zW_mono _ _ _) lq_1761 (zsx hx0 hx8 hN 3 (by decide) (by decide)) ?_
  refine r_aloadS (zW_mono _ _ _) lq_1762 rfl ?_
  refine r_iload (zW_mono _ _ _) lq_1763 rfl ?_
  refine r_push (zW_mono _ _ _) lq_1764 ?_
  refine r_iadd (zW_mono _ _ _) lq_1765 ?_
  refine r_sld (zW_mono _ _ _) lq_1766 (zsx hx0 hx8 hN 4 (by decide) (by decide)) ?_
  refine r_virt4 (m1 := 0) (m2 := 0) (zW_mono _ _ _) lq_1767 hx_0 (Nat.le_of_ble_eq_true rfl) (by unfold zbud; rw [hG]; rfl) (by omega) (by omega) ?_
  refine zW_mono zTt G 64 _ _ _ _ _ ?_ (A [G.2.2.2 (x + 1).toNatClampNeg, G.2.2.2 (x + 2).toNatClampNeg, G.2.2.2 (x + 3).toNatClampNeg, G.2.2.2 (x + 4).toNatClampNeg] ⟨zfI_ok _, zfI_ok _, zfI_ok _, zfI_ok _, trivial⟩)
  rintro w h2 ⟨⟨x9, rfl⟩, ⟨fs9, hr9⟩, k9⟩
  refine r_pop (zW_mono _ _ _) lq_1770 rfl ?_
  refine r_aload (zW_mono _ _ _) lq_1771 rfl ?_
  refine r_aloadS (zW_mono _ _ _) lq_1772 rfl ?_
  refine r_iload (zW_mono _ _ _) lq_1773 rfl ?_
  refine r_push (zW_mono _ _ _) lq_1774 ?_
  refine r_iadd (zW_mono _ _ _) lq_1775 ?_
  refine r_sld (zW_mono _ _ _) lq_1776 (zsx hx0 hx8 hN 1 (by decide) (by decide)) ?_
  refine r_aloadS (zW_mono _ _ _) lq_1777 rfl ?_
  refine r_iload (zW_mono _ _ _) lq_1778 rfl ?_
  refine r_push (zW_mono _ _ _) lq_1779 ?_
  refine r_iadd (zW_mono _ _ _) lq_1780 ?_
  refine r_sld (zW_mono _ _ _) lq_1781 (zsx hx0 hx8 hN 2 (by decide) (by decide)) ?_
  refine r_aloadS (zW_mono _ _ _) lq_1782 rfl ?_
  refine r_iload (zW_mono _ _ _) lq_1783 rfl ?_
  refine r_push (zW_mono _ _ _) lq_1784 ?_
  refine r_iadd (zW_mono _ _ _) lq_1785 ?_
  refine r_sld (zW_mono _ _ _) lq_1786 (zsx hx0 hx8 hN 3 (by decide) (by decide)) ?_
  refine r_aloadS (zW_mono _ _ _) lq_1787 rfl ?_
  refine r_iload (zW_mono _ _ _) lq_1788 rfl ?_
  refine r_push (zW_mono _ _ _) lq_1789 ?_
  refine r_iadd (zW_mono _ _ _) lq_1790 ?_
  refine r_sld (zW_mono _ _ _) lq_1791 (zsx hx0 hx8 hN 4 (by decide) (by decide)) ?_
  refine r_virt4 (m1 := 0) (m2 := 0) (zW_mono _ _ _) lq_1792 hr9 (Nat.le_of_ble_eq_true rfl) (by unfold zbud; rw [hG]; rfl) (by omega) (by omega) ?_
  refine zW_mono zTt G 64 _ _ _ _ _ ?_ k9
  rintro w h3 ⟨⟨y9, rfl⟩, e9, p9⟩
  refine r_pop (zW_mono _ _ _) lq_1795 rfl ?_
  refine r_goto (zW_mono _ _ _) lq_1796 ?_
  exact K h3 _ _ p9 (by omega) (by omega)
set_option maxHeartbeats 1000000 in
theorem lawop_letters {G : zG} (hG : G.1 = zProg) (hN : G.2.2.1 ≤ 4096) {P : zH → Prop} {h : zH} {x : Int32} {q : Nat} (hx : x.toInt = 8 * q) (hq : 8 * q + 8 ≤ G.2.2.1) {c n : Nat} (hc : c ≤ 182 + 8 * q) (hn : n ≤ 43931 + 800 * q) (h0 : ∃ fs, h[0]? = some (.inr (11, fs))) (A : ∀ xs, zpB [zfI] xs → zW zTt G 64 147 (.ref 0 :: xs.map Value.int) h (fun w h2 => zTy 0 w ∧ (∃ fs, h2[111]? = some (.inr (12, fs))) ∧ zW zTt G 64 269 (.ref 111 :: xs.map Value.int) h2 (fun w2 h3 => zTy 0 w2 ∧ (false = true → w2 = w) ∧ P h3))) (K : ∀ h3 c n, P h3 → c ≤ 182 + 8 * (q + 1) → n ≤ 43931 + 800 * (q + 1) → zR zTt G cd_L 600000 7302250 (some .boolean) (zW zTt G 64) (fun w _ => w = some (.int 1)) 2138 [some (.retAddr 0), some (.ref 0), some (.ref 111), some (.int x)] [] h3 c n) : zR zTt G cd_L 600000 7302250 (some .boolean) (zW zTt G 64) (fun w _ => w = some (.int 1)) 1799 [some (.retAddr 0), some (.ref 0), some (.ref 111), some (.int x)] [] h c n := by
  have hx0 : 0 ≤ x.toInt := by omega
  have hx8 : x.toInt + 8 ≤ G.2.2.1 := by omega
  obtain ⟨fs0, hx_0⟩ := h0
  refine r_aload (zW_mono _ _ _) lq_1799 rfl ?_
  refine r_aloadS (zW_mono _ _ _) lq_1800 rfl ?_
  refine r_iload (zW_mono _ _ _) lq_1801 rfl ?_
  refine r_push (zW_mono _ _ _) lq_1802 ?_
  refine r_iadd (zW_mono _ _ _) lq_1803 ?_
  refine r_sld (zW_mono _ _ _) lq_1804 (zsx hx0 hx8 hN 1 (by decide) (by decide)) ?_
  refine r_virt1 (m1 := 0) (m2 := 0) (zW_mono _ _ _) lq_1805 hx_0 (Nat.le_of_ble_eq_true rfl) (by unfold zbud; rw [hG]; rfl) (by omega) (by omega) ?_
  refine zW_mono zTt G 64 _ _ _ _ _ ?_ (A [G.2.2.2 (x + 1).toNatClampNeg] ⟨zfI_ok _, trivial⟩)
  rintro w h2 ⟨⟨x9, rfl⟩, ⟨fs9, hr9⟩, k9⟩
  refine r_pop (zW_mono _ _ _) lq_1808 rfl ?_
  refine r_aload (zW_mono _ _ _) lq_1809 rfl ?_
  refine r_aloadS (zW_mono _ _ _) lq_1810 rfl ?_
  refine r_iload (zW_mono _ _ _) lq_1811 rfl ?_
  refine r_push (zW_mono _ _ _) lq_1812 ?_
  refine r_iadd (zW_mono _ _ _) lq_1813 ?_
  refine r_sld (zW_mono _ _ _) lq_1814 (zsx hx0 hx8 hN 1 (by decide) (by decide)) ?_
  refine r_virt1 (m1 := 0) (m2 := 0) (zW_mono _ _ _) lq_1815 hr9 (Nat.le_of_ble_eq_true rfl) (by unfold zbud; rw [hG]; rfl) (by omega) (by omega) ?_
  refine zW_mono zTt G 64 _ _ _ _ _ ?_ k9
  rintro w h3 ⟨⟨y9, rfl⟩, e9, p9⟩
  refine r_pop (zW_mono _ _ _) lq_1818 rfl ?_
  refine r_goto (zW_mono _ _ _) lq_1819 ?_
  exact K h3 _ _ p9 (by omega) (by omega)
set_option maxHeartbeats 1000000 in
theorem lawop_reached {G : zG} (hG : G.1 = zProg) (hN : G.2.2.1 ≤ 4096) {P : zH → Prop} {h : zH} {x : Int32} {q : Nat} (hx : x.toInt = 8 * q) (hq : 8 * q + 8 ≤ G.2.2.1) {c n : Nat} (hc : c ≤ 182 + 8 * q) (hn : n ≤ 43931 + 800 * q) (h0 : ∃ fs, h[0]? = some (.inr (11, fs))) (A : ∀ xs, zpB [zfI, zfI] xs → zW zTt G 64 148 (.ref 0 :: xs.map Value.int) h (fun w h2 => zTy 0 w ∧ (∃ fs, h2[111]? = some (.inr (12, fs))) ∧ zW zTt G 64 270 (.ref 111 :: xs.map Value.int) h2 (fun w2 h3 => zTy 0 w2 ∧ (false = true → w2 = w) ∧ P h3))) (K : ∀ h3 c n, P h3 → c ≤ 182 + 8 * (q + 1) → n ≤ 43931 + 800 * (q + 1) → zR zTt G cd_L 600000 7302250 (some .boolean) (zW zTt G 64) (fun w _ => w = some (.int 1)) 2138 [some (.retAddr 0), some (.ref 0), some (.ref 111), some (.int x)] [] h3 c n) : zR zTt G cd_L 600000 7302250 (some .boolean) (zW zTt G 64) (fun w _ => w = some (.int 1)) 1822 [some (.retAddr 0), some (.ref 0), some (.ref 111), some (.int x)] [] h c n := by
  have hx0 : 0 ≤ x.toInt := by omega
  have hx8 : x.toInt + 8 ≤ G.2.2.1 := by omega
  obtain ⟨fs0, hx_0⟩ := h0
  refine r_aload (zW_mono _ _ _) lq_1822 rfl ?_
  refine r_aloadS (zW_mono _ _ _) lq_1823 rfl ?_
  refine r_iload (zW_mono _ _ _) lq_1824 rfl ?_
  refine r_push (zW_mono _ _ _) lq_1825 ?_
  refine r_iadd (zW_mono _ _ _) lq_1826 ?_
  refine r_sld (zW_mono _ _ _) lq_1827 (zsx hx0 hx8 hN 1 (by decide) (by decide)) ?_
  refine r_aloadS (zW_mono _ _ _) lq_1828 rfl ?_
  refine r_iload (zW_mono _ _ _) lq_1829 rfl ?_
  refine r_push (zW_mono _ _ _) lq_1830 ?_
  refine r_iadd (zW_mono _ _ _) lq_1831 ?_
  refine r_sld (zW_mono _ _ _) lq_1832 (zsx hx0 hx8 hN 2 (by decide) (by decide)) ?_
  refine r_virt2 (m1 := 0) (m2 := 0) (zW_mono _ _ _) lq_1833 hx_0 (Nat.le_of_ble_eq_true rfl) (by unfold zbud; rw [hG]; rfl) (by omega) (by omega) ?_
  refine zW_mono zTt G 64 _ _ _ _ _ ?_ (A [G.2.2.2 (x + 1).toNatClampNeg, G.2.2.2 (x + 2).toNatClampNeg] ⟨zfI_ok _, zfI_ok _, trivial⟩)
  rintro w h2 ⟨⟨x9, rfl⟩, ⟨fs9, hr9⟩, k9⟩
  refine r_pop (zW_mono _ _ _) lq_1836 rfl ?_
  refine r_aload (zW_mono _ _ _) lq_1837 rfl ?_
  refine r_aloadS (zW_mono _ _ _) lq_1838 rfl ?_
  refine r_iload (zW_mono _ _ _) lq_1839 rfl ?_
  refine r_push (zW_mono _ _ _) lq_1840 ?_
  refine r_iadd (zW_mono _ _ _) lq_1841 ?_
  refine r_sld (zW_mono _ _ _) lq_1842 (zsx hx0 hx8 hN 1 (by decide) (by decide)) ?_
  refine r_aloadS (zW_mono _ _ _) lq_1843 rfl ?_
  refine r_iload (zW_mono _ _ _) lq_1844 rfl ?_
  refine r_push (zW_mono _ _ _) lq_1845 ?_
  refine r_iadd (zW_mono _ _ _) lq_1846 ?_
  refine r_sld (zW_mono _ _ _) lq_1847 (zsx hx0 hx8 hN 2 (by decide) (by decide)) ?_
  refine r_virt2 (m1 := 0) (m2 := 0) (zW_mono _ _ _) lq_1848 hr9 (Nat.le_of_ble_eq_true rfl) (by unfold zbud; rw [hG]; rfl) (by omega) (by omega) ?_
  refine zW_mono zTt G 64 _ _ _ _ _ ?_ k9
  rintro w h3 ⟨⟨y9, rfl⟩, e9, p9⟩
  refine r_pop (zW_mono _ _ _) lq_1851 rfl ?_
  refine r_goto (zW_mono _ _ _) lq_1852 ?_
  exact K h3 _ _ p9 (by omega) (by omega)
set_option maxHeartbeats 1000000 in
theorem lawop_mend {G : zG} (hG : G.1 = zProg) (hN : G.2.2.1 ≤ 4096) {P : zH → Prop} {h : zH} {x : Int32} {q : Nat} (hx : x.toInt = 8 * q) (hq : 8 * q + 8 ≤ G.2.2.1) {c n : Nat} (hc : c ≤ 182 + 8 * q) (hn : n ≤ 43931 + 800 * q) (h0 : ∃ fs, h[0]? = some (.inr (11, fs))) (A : ∀ xs, zpB [zfI, zfI] xs → zW zTt G 64 149 (.ref 0 :: xs.map Value.int) h (fun w h2 => zTy 0 w ∧ (∃ fs, h2[111]? = some (.inr (12, fs))) ∧ zW zTt G 64 271 (.ref 111 :: xs.map Value.int) h2 (fun w2 h3 => zTy 0 w2 ∧ (false = true → w2 = w) ∧ P h3))) (K : ∀ h3 c n, P h3 → c ≤ 182 + 8 * (q + 1) → n ≤ 43931 + 800 * (q + 1) → zR zTt G cd_L 600000 7302250 (some .boolean) (zW zTt G 64) (fun w _ => w = some (.int 1)) 2138 [some (.retAddr 0), some (.ref 0), some (.ref 111), some (.int x)] [] h3 c n) : zR zTt G cd_L 600000 7302250 (some .boolean) (zW zTt G 64) (fun w _ => w = some (.int 1)) 1855 [some (.retAddr 0), some (.ref 0), some (.ref 111), some (.int x)] [] h c n := by
  have hx0 : 0 ≤ x.toInt := by omega
  have hx8 : x.toInt + 8 ≤ G.2.2.1 := by omega
  obtain ⟨fs0, hx_0⟩ := h0
  refine r_aload (zW_mono _ _ _) lq_1855 rfl ?_
  refine r_aloadS (zW_mono _ _ _) lq_1856 rfl ?_
  refine r_iload (zW_mono _ _ _) lq_1857 rfl ?_
  refine r_push (zW_mono _ _ _) lq_1858 ?_
  refine r_iadd (zW_mono _ _ _) lq_1859 ?_
  refine r_sld (zW_mono _ _ _) lq_1860 (zsx hx0 hx8 hN 1 (by decide) (by decide)) ?_
  refine r_aloadS (zW_mono _ _ _) lq_1861 rfl ?_
  refine r_iload (zW_mono _ _ _) lq_1862 rfl ?_
  refine r_push (zW_mono _ _ _) lq_1863 ?_
  refine r_iadd (zW_mono _ _ _) lq_1864 ?_
  refine r_sld (zW_mono _ _ _) lq_1865 (zsx hx0 hx8 hN 2 (by decide) (by decide)) ?_
  refine r_virt2 (m1 := 0) (m2 := 0) (zW_mono _ _ _) lq_1866 hx_0 (Nat.le_of_ble_eq_true rfl) (by unfold zbud; rw [hG]; rfl) (by omega) (by omega) ?_
  refine zW_mono zTt G 64 _ _ _ _ _ ?_ (A [G.2.2.2 (x + 1).toNatClampNeg, G.2.2.2 (x + 2).toNatClampNeg] ⟨zfI_ok _, zfI_ok _, trivial⟩)
  rintro w h2 ⟨⟨x9, rfl⟩, ⟨fs9, hr9⟩, k9⟩
  refine r_pop (zW_mono _ _ _) lq_1869 rfl ?_
  refine r_aload (zW_mono _ _ _) lq_1870 rfl ?_
  refine r_aloadS (zW_mono _ _ _) lq_1871 rfl ?_
  refine r_iload (zW_mono _ _ _) lq_1872 rfl ?_
  refine r_push (zW_mono _ _ _) lq_1873 ?_
  refine r_iadd (zW_mono _ _ _) lq_1874 ?_
  refine r_sld (zW_mono _ _ _) lq_1875 (zsx hx0 hx8 hN 1 (by decide) (by decide)) ?_
  refine r_aloadS (zW_mono _ _ _) lq_1876 rfl ?_
  refine r_iload (zW_mono _ _ _) lq_1877 rfl ?_
  refine r_push (zW_mono _ _ _) lq_1878 ?_
  refine r_iadd (zW_mono _ _ _) lq_1879 ?_
  refine r_sld (zW_mono _ _ _) lq_1880 (zsx hx0 hx8 hN 2 (by decide) (by decide)) ?_
  refine r_virt2 (m1 := 0) (m2 := 0) (zW_mono _ _ _) lq_1881 hr9 (Nat.le_of_ble_eq_true rfl) (by unfold zbud; rw [hG]; rfl) (by omega) (by omega) ?_
  refine zW_mono zTt G 64 _ _ _ _ _ ?_ k9
  rintro w h3 ⟨⟨y9, rfl⟩, e9, p9⟩
  refine r_pop (zW_mono _ _ _) lq_1884 rfl ?_
  refine r_goto (zW_mono _ _ _) lq_1885 ?_
  exact K h3 _ _ p9 (by omega) (by omega)
set_option maxHeartbeats 1000000 in
theorem lawop_left {G : zG} (hG : G.1 = zProg) (hN : G.2.2.1 ≤ 4096) {P : zH → Prop} {h : zH} {x : Int32} {q : Nat} (hx : x.toInt = 8 * q) (hq : 8 * q + 8 ≤ G.2.2.1) {c n : Nat} (hc : c ≤ 182 + 8 * q) (hn : n ≤ 43931 + 800 * q) (h0 : ∃ fs, h[0]? = some (.inr (11, fs))) (A : ∀ xs, zpB [zfI, zfI] xs → zW zTt G 64 150 (.ref 0 :: xs.map Value.int) h (fun w h2 => zTy 0 w ∧ (∃ fs, h2[111]? = some (.inr (12, fs))) ∧ zW zTt G 64 272 (.ref 111 :: xs.map Value.int) h2 (fun w2 h3 => zTy 0 w2 ∧ (true = true → w2 = w) ∧ P h3))) (K : ∀ h3 c n, P h3 → c ≤ 182 + 8 * (q + 1) → n ≤ 43931 + 800 * (q + 1) → zR zTt G cd_L 600000 7302250 (some .boolean) (zW zTt G 64) (fun w _ => w = some (.int 1)) 2138 [some (.retAddr 0), some (.ref 0), some (.ref 111), some (.int x)] [] h3 c n) : zR zTt G cd_L 600000 7302250 (some .boolean) (zW zTt G 64) (fun w _ => w = some (.int 1)) 1888 [some (.retAddr 0), some (.ref 0), some (.ref 111), some (.int x)] [] h c n := by
  have hx0 : 0 ≤ x.toInt := by omega
  have hx8 : x.toInt + 8 ≤ G.2.2.1 := by omega
  obtain ⟨fs0, hx_0⟩ := h0
  refine r_aload (zW_mono _ _ _) lq_1888 rfl ?_
  refine r_aloadS (zW_mono _ _ _) lq_1889 rfl ?_
  refine r_iload (zW_mono _ _ _) lq_1890 rfl ?_
  refine r_push (zW_mono _ _ _) lq_1891 ?_
  refine r_iadd (zW_mono _ _ _) lq_1892 ?_
  refine r_sld (zW_mono _ _ _) lq_1893 (zsx hx0 hx8 hN 1 (by decide) (by decide)) ?_
  refine r_aloadS (zW_mono _ _ _) lq_1894 rfl ?_
  refine r_iload (zW_mono _ _ _) lq_1895 rfl ?_
  refine r_push (zW_mono _ _ _) lq_1896 ?_
  refine r_iadd (zW_mono _ _ _) lq_1897 ?_
  refine r_sld (zW_mono _ _ _) lq_1898 (zsx hx0 hx8 hN 2 (by decide) (by decide)) ?_
  refine r_virt2 (m1 := 0) (m2 := 0) (zW_mono _ _ _) lq_1899 hx_0 (Nat.le_of_ble_eq_true rfl) (by unfold zbud; rw [hG]; rfl) (by omega) (by omega) ?_
  refine zW_mono zTt G 64 _ _ _ _ _ ?_ (A [G.2.2.2 (x + 1).toNatClampNeg, G.2.2.2 (x + 2).toNatClampNeg] ⟨zfI_ok _, zfI_ok _, trivial⟩)
  rintro w h2 ⟨⟨x9, rfl⟩, ⟨fs9, hr9⟩, k9⟩
  refine r_aload (zW_mono _ _ _) lq_1902 rfl ?_
  refine r_aloadS (zW_mono _ _ _) lq_1903 rfl ?_
  refine r_iload (zW_mono _ _ _) lq_1904 rfl ?_
  refine r_push (zW_mono _ _ _) lq_1905 ?_
  refine r_iadd (zW_mono _ _ _) lq_1906 ?_
  refine r_sld (zW_mono _ _ _) lq_1907 (zsx hx0 hx8 hN 1 (by decide) (by decide)) ?_
  refine r_aloadS (zW_mono _ _ _) lq_1908 rfl ?_
  refine r_iload (zW_mono _ _ _) lq_1909 rfl ?_
  refine r_push (zW_mono _ _ _) lq_1910 ?_
  refine r_iadd (zW_mono _ _ _) lq_1911 ?_
  refine r_sld (zW_mono _ _ _) lq_1912 (zsx hx0 hx8 hN 2 (by decide) (by decide)) ?_
  refine r_virt2 (m1 := 0) (m2 := 0) (zW_mono _ _ _) lq_1913 hr9 (Nat.le_of_ble_eq_true rfl) (by unfold zbud; rw [hG]; rfl) (by omega) (by omega) ?_
  refine zW_mono zTt G 64 _ _ _ _ _ ?_ k9
  rintro w h3 ⟨⟨y9, rfl⟩, e9, p9⟩
  cases e9 rfl
  refine r_icmp_eq (zW_mono _ _ _) lq_1916 (fun _ => ?_) (fun q => absurd rfl q)
  exact K h3 _ _ p9 (by omega) (by omega)
set_option maxHeartbeats 1000000 in
theorem lawop_moves {G : zG} (hG : G.1 = zProg) (hN : G.2.2.1 ≤ 4096) {P : zH → Prop} {h : zH} {x : Int32} {q : Nat} (hx : x.toInt = 8 * q) (hq : 8 * q + 8 ≤ G.2.2.1) {c n : Nat} (hc : c ≤ 182 + 8 * q) (hn : n ≤ 43931 + 800 * q) (h0 : ∃ fs, h[0]? = some (.inr (11, fs))) (A : ∀ xs, zpB [zfI, zbI] xs → zW zTt G 64 151 (.ref 0 :: xs.map Value.int) h (fun w h2 => zTy 0 w ∧ (∃ fs, h2[111]? = some (.inr (12, fs))) ∧ zW zTt G 64 273 (.ref 111 :: xs.map Value.int) h2 (fun w2 h3 => zTy 0 w2 ∧ (false = true → w2 = w) ∧ P h3))) (K : ∀ h3 c n, P h3 → c ≤ 182 + 8 * (q + 1) → n ≤ 43931 + 800 * (q + 1) → zR zTt G cd_L 600000 7302250 (some .boolean) (zW zTt G 64) (fun w _ => w = some (.int 1)) 2138 [some (.retAddr 0), some (.ref 0), some (.ref 111), some (.int x)] [] h3 c n) : zR zTt G cd_L 600000 7302250 (some .boolean) (zW zTt G 64) (fun w _ => w = some (.int 1)) 1921 [some (.retAddr 0), some (.ref 0), some (.ref 111), some (.int x)] [] h c n := by
  have hx0 : 0 ≤ x.toInt := by omega
  have hx8 : x.toInt + 8 ≤ G.2.2.1 := by omega
  obtain ⟨fs0, hx_0⟩ := h0
  refine r_aload (zW_mono _ _ _) lq_1921 rfl ?_
  refine r_aloadS (zW_mono _ _ _) lq_1922 rfl ?_
  refine r_iload (zW_mono _ _ _) lq_1923 rfl ?_
  refine r_push (zW_mono _ _ _) lq_1924 ?_
  refine r_iadd (zW_mono _ _ _) lq_1925 ?_
  refine r_sld (zW_mono _ _ _) lq_1926 (zsx hx0 hx8 hN 1 (by decide) (by decide)) ?_
  refine r_aloadS (zW_mono _ _ _) lq_1927 rfl ?_
  refine r_iload (zW_mono _ _ _) lq_1928 rfl ?_
  refine r_push (zW_mono _ _ _) lq_1929 ?_
  refine r_iadd (zW_mono _ _ _) lq_1930 ?_
  refine r_sld (zW_mono _ _ _) lq_1931 (zsx hx0 hx8 hN 2 (by decide) (by decide)) ?_
  refine r_if_eq (zW_mono _ _ _) lq_1932 (fun q2 => ?_) (fun q2 => ?_)
  · refine r_push (zW_mono _ _ _) lq_1939 ?_
    refine r_virt2 (m1 := 0) (m2 := 0) (zW_mono _ _ _) lq_1940 hx_0 (Nat.le_of_ble_eq_true rfl) (by unfold zbud; rw [hG]; rfl) (by omega) (by omega) ?_
    refine zW_mono zTt G 64 _ _ _ _ _ ?_ (A [G.2.2.2 (x + 1).toNatClampNeg, 0] ⟨zfI_ok _, ⟨by decide, by decide⟩, trivial⟩)
    rintro w h2 ⟨⟨x9, rfl⟩, ⟨fs9, hr9⟩, k9⟩
    refine r_pop (zW_mono _ _ _) lq_1943 rfl ?_
    refine r_aload (zW_mono _ _ _) lq_1944 rfl ?_
    refine r_aloadS (zW_mono _ _ _) lq_1945 rfl ?_
    refine r_iload (zW_mono _ _ _) lq_1946 rfl ?_
    refine r_push (zW_mono _ _ _) lq_1947 ?_
    refine r_iadd (zW_mono _ _ _) lq_1948 ?_
    refine r_sld (zW_mono _ _ _) lq_1949 (zsx hx0 hx8 hN 1 (by decide) (by decide)) ?_
    refine r_aloadS (zW_mono _ _ _) lq_1950 rfl ?_
    refine r_iload (zW_mono _ _ _) lq_1951 rfl ?_
    refine r_push (zW_mono _ _ _) lq_1952 ?_
    refine r_iadd (zW_mono _ _ _) lq_1953 ?_
    refine r_sld (zW_mono _ _ _) lq_1954 (zsx hx0 hx8 hN 2 (by decide) (by decide)) ?_
    refine r_if_eq (zW_mono _ _ _) lq_1955 (fun _ => ?_) (fun q => absurd q2 q)
    refine r_push (zW_mono _ _ _) lq_1962 ?_
    refine r_virt2 (m1 := 0) (m2 := 0) (zW_mono _ _ _) lq_1963 hr9 (Nat.le_of_ble_eq_true rfl) (by unfold zbud; rw [hG]; rfl) (by omega) (by omega) ?_
    refine zW_mono zTt G 64 _ _ _ _ _ ?_ k9
    rintro w h3 ⟨⟨y9, rfl⟩, e9, p9⟩
    refine r_pop (zW_mono _ _ _) lq_1966 rfl ?_
    refine r_goto (zW_mono _ _ _) lq_1967 ?_
    exact K h3 _ _ p9 (by omega) (by omega)
  · refine r_push (zW_mono _ _ _) lq_1935 ?_
    refine r_goto (zW_mono _ _ _) lq_1936 ?_
    refine r_virt2 (m1 := 0) (m2 := 0) (zW_mono _ _ _) lq_1940 hx_0 (Nat.le_of_ble_eq_true rfl) (by unfold zbud; rw [hG]; rfl) (by omega) (by omega) ?_
    refine zW_mono zTt G 64 _ _ _ _ _ ?_ (A [G.2.2.2 (x + 1).toNatClampNeg, 1] ⟨zfI_ok _, ⟨by decide, by decide⟩, trivial⟩)
    rintro w h2 ⟨⟨x9, rfl⟩, ⟨fs9, hr9⟩, k9⟩
    refine r_pop (zW_mono _ _ _) lq_1943 rfl ?_
    refine r_aload (zW_mono _ _ _) lq_1944 rfl ?_
    refine r_aloadS (zW_mono _ _ _) lq_1945 rfl ?_
    refine r_iload (zW_mono _ _ _) lq_1946 rfl ?_
    refine r_push (zW_mono _ _ _) lq_1947 ?_
    refine r_iadd (zW_mono _ _ _) lq_1948 ?_
    refine r_sld (zW_mono _ _ _) lq_1949 (zsx hx0 hx8 hN 1 (by decide) (by decide)) ?_
    refine r_aloadS (zW_mono _ _ _) lq_1950 rfl ?_
    refine r_iload (zW_mono _ _ _) lq_1951 rfl ?_
    refine r_push (zW_mono _ _ _) lq_1952 ?_
    refine r_iadd (zW_mono _ _ _) lq_1953 ?_
    refine r_sld (zW_mono _ _ _) lq_1954 (zsx hx0 hx8 hN 2 (by decide) (by decide)) ?_
    refine r_if_eq (zW_mono _ _ _) lq_1955 (fun q => absurd q q2) (fun _ => ?_)
    refine r_push (zW_mono _ _ _) lq_1958 ?_
    refine r_goto (zW_mono _ _ _) lq_1959 ?_
    refine r_virt2 (m1 := 0) (m2 := 0) (zW_mono _ _ _) lq_1963 hr9 (Nat.le_of_ble_eq_true rfl) (by unfold zbud; rw [hG]; rfl) (by omega) (by omega) ?_
    refine zW_mono zTt G 64 _ _ _ _ _ ?_ k9
    rintro w h3 ⟨⟨y9, rfl⟩, e9, p9⟩
    refine r_pop (zW_mono _ _ _) lq_1966 rfl ?_
    refine r_goto (zW_mono _ _ _) lq_1967 ?_
    exact K h3 _ _ p9 (by omega) (by omega)
set_option maxHeartbeats 1000000 in
theorem lawop_jury {G : zG} (hG : G.1 = zProg) (hN : G.2.2.1 ≤ 4096) {P : zH → Prop} {h : zH} {x : Int32} {q : Nat} (hx : x.toInt = 8 * q) (hq : 8 * q + 8 ≤ G.2.2.1) {c n : Nat} (hc : c ≤ 182 + 8 * q) (hn : n ≤ 43931 + 800 * q) (h0 : ∃ fs, h[0]? = some (.inr (11, fs))) (A : ∀ xs, zpB [zfI] xs → zW zTt G 64 152 (.ref 0 :: xs.map Value.int) h (fun w h2 => zTy 1 w ∧ (∃ fs, h2[111]? = some (.inr (12, fs))) ∧ zW zTt G 64 274 (.ref 111 :: xs.map Value.int) h2 (fun w2 h3 => zTy 1 w2 ∧ (false = true → w2 = w) ∧ P h3))) (K : ∀ h3 c n, P h3 → c ≤ 182 + 8 * (q + 1) → n ≤ 43931 + 800 * (q + 1) → zR zTt G cd_L 600000 7302250 (some .boolean) (zW zTt G 64) (fun w _ => w = some (.int 1)) 2138 [some (.retAddr 0), some (.ref 0), some (.ref 111), some (.int x)] [] h3 c n) : zR zTt G cd_L 600000 7302250 (some .boolean) (zW zTt G 64) (fun w _ => w = some (.int 1)) 1970 [some (.retAddr 0), some (.ref 0), some (.ref 111), some (.int x)] [] h c n := by
  have hx0 : 0 ≤ x.toInt := by omega
  have hx8 : x.toInt + 8 ≤ G.2.2.1 := by omega
  obtain ⟨fs0, hx_0⟩ := h0
  refine r_aload (zW_mono _ _ _) lq_1970 rfl ?_
  refine r_aloadS (zW_mono _ _ _) lq_1971 rfl ?_
  refine r_iload (zW_mono _ _ _) lq_1972 rfl ?_
  refine r_push (zW_mono _ _ _) lq_1973 ?_
  refine r_iadd (zW_mono _ _ _) lq_1974 ?_
  refine r_sld (zW_mono _ _ _) lq_1975 (zsx hx0 hx8 hN 1 (by decide) (by decide)) ?_
  refine r_virt1 (m1 := 0) (m2 := 0) (zW_mono _ _ _) lq_1976 hx_0 (Nat.le_of_ble_eq_true rfl) (by unfold zbud; rw [hG]; rfl) (by omega) (by omega) ?_
  refine zW_mono zTt G 64 _ _ _ _ _ ?_ (A [G.2.2.2 (x + 1).toNatClampNeg] ⟨zfI_ok _, trivial⟩)
  rintro w h2 ⟨⟨x9, rfl⟩, ⟨fs9, hr9⟩, k9⟩
  refine r_popl (zW_mono _ _ _) lq_1979 rfl ?_
  refine r_aload (zW_mono _ _ _) lq_1980 rfl ?_
  refine r_aloadS (zW_mono _ _ _) lq_1981 rfl ?_
  refine r_iload (zW_mono _ _ _) lq_1982 rfl ?_
  refine r_push (zW_mono _ _ _) lq_1983 ?_
  refine r_iadd (zW_mono _ _ _) lq_1984 ?_
  refine r_sld (zW_mono _ _ _) lq_1985 (zsx hx0 hx8 hN 1 (by decide) (by decide)) ?_
  refine r_virt1 (m1 := 0) (m2 := 0) (zW_mono _ _ _) lq_1986 hr9 (Nat.le_of_ble_eq_true rfl) (by unfold zbud; rw [hG]; rfl) (by omega) (by omega) ?_
  refine zW_mono zTt G 64 _ _ _ _ _ ?_ k9
  rintro w h3 ⟨⟨y9, rfl⟩, e9, p9⟩
  refine r_popl (zW_mono _ _ _) lq_1989 rfl ?_
  refine r_goto (zW_mono _ _ _) lq_1990 ?_
  exact K h3 _ _ p9 (by omega) (by omega)
set_option maxHeartbeats 1000000 in
theorem lawop_saver {G : zG} (hG : G.1 = zProg) (hN : G.2.2.1 ≤ 4096) {P : zH → Prop} {h : zH} {x : Int32} {q : Nat} (hx : x.toInt = 8 * q) (hq : 8 * q + 8 ≤ G.2.2.1) {c n : Nat} (hc : c ≤ 182 + 8 * q) (hn : n ≤ 43931 + 800 * q) (h0 : ∃ fs, h[0]? = some (.inr (11, fs))) (A : ∀ xs, zpB [zfI, zfI] xs → zW zTt G 64 153 (.ref 0 :: xs.map Value.int) h (fun w h2 => zTy 0 w ∧ (∃ fs, h2[111]? = some (.inr (12, fs))) ∧ zW zTt G 64 275 (.ref 111 :: xs.map Value.int) h2 (fun w2 h3 => zTy 0 w2 ∧ (false = true → w2 = w) ∧ P h3))) (K : ∀ h3 c n, P h3 → c ≤ 182 + 8 * (q + 1) → n ≤ 43931 + 800 * (q + 1) → zR zTt G cd_L 600000 7302250 (some .boolean) (zW zTt G 64) (fun w _ => w = some (.int 1)) 2138 [some (.retAddr 0), some (.ref 0), some (.ref 111), some (.int x)] [] h3 c n) : zR zTt G cd_L 600000 7302250 (some .boolean) (zW zTt G 64) (fun w _ => w = some (.int 1)) 1993 [some (.retAddr 0), some (.ref 0), some (.ref 111), some (.int x)] [] h c n := by
  have hx0 : 0 ≤ x.toInt := by omega
  have hx8 : x.toInt + 8 ≤ G.2.2.1 := by omega
  obtain ⟨fs0, hx_0⟩ := h0
  refine r_aload (zW_mono _ _ _) lq_1993 rfl ?_
  refine r_aloadS (zW_mono _ _ _) lq_1994 rfl ?_
  refine r_iload (zW_mono _ _ _) lq_1995 rfl ?_
  refine r_push (zW_mono _ _ _) lq_1996 ?_
  refine r_iadd (zW_mono _ _ _) lq_1997 ?_
  refine r_sld (zW_mono _ _ _) lq_1998 (zsx hx0 hx8 hN 1 (by decide) (by decide)) ?_
  refine r_aloadS (zW_mono _ _ _) lq_1999 rfl ?_
  refine r_iload (zW_mono _ _ _) lq_2000 rfl ?_
  refine r_push (zW_mono _ _ _) lq_2001 ?_
  refine r_iadd (zW_mono _ _ _) lq_2002 ?_
  refine r_sld (zW_mono _ _ _) lq_2003 (zsx hx0 hx8 hN 2 (by decide) (by decide)) ?_
  refine r_virt2 (m1 := 0) (m2 := 0) (zW_mono _ _ _) lq_2004 hx_0 (Nat.le_of_ble_eq_true rfl) (by unfold zbud; rw [hG]; rfl) (by omega) (by omega) ?_
  refine zW_mono zTt G 64 _ _ _ _ _ ?_ (A [G.2.2.2 (x + 1).toNatClampNeg, G.2.2.2 (x + 2).toNatClampNeg] ⟨zfI_ok _, zfI_ok _, trivial⟩)
  rintro w h2 ⟨⟨x9, rfl⟩, ⟨fs9, hr9⟩, k9⟩
  refine r_pop (zW_mono _ _ _) lq_2007 rfl ?_
  refine r_aload (zW_mono _ _ _) lq_2008 rfl ?_
  refine r_aloadS (zW_mono _ _ _) lq_2009 rfl ?_
  refine r_iload (zW_mono _ _ _) lq_2010 rfl ?_
  refine r_push (zW_mono _ _ _) lq_2011 ?_
  refine r_iadd (zW_mono _ _ _) lq_2012 ?_
  refine r_sld (zW_mono _ _ _) lq_2013 (zsx hx0 hx8 hN 1 (by decide) (by decide)) ?_
  refine r_aloadS (zW_mono _ _ _) lq_2014 rfl ?_
  refine r_iload (zW_mono _ _ _) lq_2015 rfl ?_
  refine r_push (zW_mono _ _ _) lq_2016 ?_
  refine r_iadd (zW_mono _ _ _) lq_2017 ?_
  refine r_sld (zW_mono _ _ _) lq_2018 (zsx hx0 hx8 hN 2 (by decide) (by decide)) ?_
  refine r_virt2 (m1 := 0) (m2 := 0) (zW_mono _ _ _) lq_2019 hr9 (Nat.le_of_ble_eq_true rfl) (by unfold zbud; rw [hG]; rfl) (by omega) (by omega) ?_
  refine zW_mono zTt G 64 _ _ _ _ _ ?_ k9
  rintro w h3 ⟨⟨y9, rfl⟩, e9, p9⟩
  refine r_pop (zW_mono _ _ _) lq_2022 rfl ?_
  refine r_goto (zW_mono _ _ _) lq_2023 ?_
  exact K h3 _ _ p9 (by omega) (by omega)
set_option maxHeartbeats 1000000 in
theorem lawop_overlap {G : zG} (hG : G.1 = zProg) (hN : G.2.2.1 ≤ 4096) {P : zH → Prop} {h : zH} {x : Int32} {q : Nat} (hx : x.toInt = 8 * q) (hq : 8 * q + 8 ≤ G.2.2.1) {c n : Nat} (hc : c ≤ 182 + 8 * q) (hn : n ≤ 43931 + 800 * q) (h0 : ∃ fs, h[0]? = some (.inr (11, fs))) (A : ∀ xs, zpB [zfI, zfI, zfI] xs → zW zTt G 64 154 (.ref 0 :: xs.map Value.int) h (fun w h2 => zTy 0 w ∧ (∃ fs, h2[111]? = some (.inr (12, fs))) ∧ zW zTt G 64 276 (.ref 111 :: xs.map Value.int) h2 (fun w2 h3 => zTy 0 w2 ∧ (false = true → w2 = w) ∧ P h3))) (K : ∀ h3 c n, P h3 → c ≤ 182 + 8 * (q + 1) → n ≤ 43931 + 800 * (q + 1) → zR zTt G cd_L 600000 7302250 (some .boolean) (zW zTt G 64) (fun w _ => w = some (.int 1)) 2138 [some (.retAddr 0), some (.ref 0), some (.ref 111), some (.int x)] [] h3 c n) : zR zTt G cd_L 600000 7302250 (some .boolean) (zW zTt G 64) (fun w _ => w = some (.int 1)) 2026 [some (.retAddr 0), some (.ref 0), some (.ref 111), some (.int x)] [] h c n := by
  have hx0 : 0 ≤ x.toInt := by omega
  have hx8 : x.toInt + 8 ≤ G.2.2.1 := by omega
  obtain ⟨fs0, hx_0⟩ := h0
  refine r_aload (zW_mono _ _ _) lq_2026 rfl ?_
  refine r_aloadS (zW_mono _ _ _) lq_2027 rfl ?_
  refine r_iload (zW_mono _ _ _) lq_2028 rfl ?_
  refine r_push (zW_mono _ _ _) lq_2029 ?_
  refine r_iadd (zW_mono _ _ _) lq_2030 ?_
  refine r_sld (zW_mono _ _ _) lq_2031 (zsx hx0 hx8 hN 1 (by decide) (by decide)) ?_
  refine r_aloadS (zW_mono _ _ _) lq_2032 rfl ?_
  refine r_iload (zW_mono _ _ _) lq_2033 rfl ?_
  refine r_push (zW_mono _ _ _) lq_2034 ?_
  refine r_iadd (zW_mono _ _ _) lq_2035 ?_
  refine r_sld (zW_mono _ _ _) lq_2036 (zsx hx0 hx8 hN 2 (by decide) (by decide)) ?_
  refine r_aloadS (zW_mono _ _ _) lq_2037 rfl ?_
  refine r_iload (zW_mono _ _ _) lq_2038 rfl ?_
  refine r_push (zW_mono _ _ _) lq_2039 ?_
  refine r_iadd (zW_mono _ _ _) lq_2040 ?_
  refine r_sld (zW_mono _ _ _) lq_2041 (zsx hx0 hx8 hN 3 (by decide) (by decide)) ?_
  refine r_virt3 (m1 := 0) (m2 := 0) (zW_mono _ _ _) lq_2042 hx_0 (Nat.le_of_ble_eq_true rfl) (by unfold zbud; rw [hG]; rfl) (by omega) (by omega) ?_
  refine zW_mono zTt G 64 _ _ _ _ _ ?_ (A [G.2.2.2 (x + 1).toNatClampNeg, G.2.2.2 (x + 2).toNatClampNeg, G.2.2.2 (x + 3).toNatClampNeg] ⟨zfI_ok _, zfI_ok _, zfI_ok _, trivial⟩)
  rintro w h2 ⟨⟨x9, rfl⟩, ⟨fs9, hr9⟩, k9⟩
  refine r_pop (zW_mono _ _ _) lq_2045 rfl ?_
  refine r_aload (zW_mono _ _ _) lq_2046 rfl ?_
  refine r_aloadS (zW_mono _ _ _) lq_2047 rfl ?_
  refine r_iload (zW_mono _ _ _) lq_2048 rfl ?_
  refine r_push (zW_mono _ _ _) lq_2049 ?_
  refine r_iadd (zW_mono _ _ _) lq_2050 ?_
  refine r_sld (zW_mono _ _ _) lq_2051 (zsx hx0 hx8 hN 1 (by decide) (by decide)) ?_
  refine r_aloadS (zW_mono _ _ _) lq_2052 rfl ?_
  refine r_iload (zW_mono _ _ _) lq_2053 rfl ?_
  refine r_push (zW_mono _ _ _) lq_2054 ?_
  refine r_iadd (zW_mono _ _ _) lq_2055 ?_
  refine r_sld (zW_mono _ _ _) lq_2056 (zsx hx0 hx8 hN 2 (by decide) (by decide)) ?_
  refine r_aloadS (zW_mono _ _ _) lq_2057 rfl ?_
  refine r_iload (zW_mono _ _ _) lq_2058 rfl ?_
  refine r_push (zW_mono _ _ _) lq_2059 ?_
  refine r_iadd (zW_mono _ _ _) lq_2060 ?_
  refine r_sld (zW_mono _ _ _) lq_2061 (zsx hx0 hx8 hN 3 (by decide) (by decide)) ?_
  refine r_virt3 (m1 := 0) (m2 := 0) (zW_mono _ _ _) lq_2062 hr9 (Nat.le_of_ble_eq_true rfl) (by unfold zbud; rw [hG]; rfl) (by omega) (by omega) ?_
  refine zW_mono zTt G 64 _ _ _ _ _ ?_ k9
  rintro w h3 ⟨⟨y9, rfl⟩, e9, p9⟩
  refine r_pop (zW_mono _ _ _) lq_2065 rfl ?_
  refine r_goto (zW_mono _ _ _) lq_2066 ?_
  exact K h3 _ _ p9 (by omega) (by omega)
set_option maxHeartbeats 1000000 in
theorem lawop_best {G : zG} (hG : G.1 = zProg) (hN : G.2.2.1 ≤ 4096) {P : zH → Prop} {h : zH} {x : Int32} {q : Nat} (hx : x.toInt = 8 * q) (hq : 8 * q + 8 ≤ G.2.2.1) {c n : Nat} (hc : c ≤ 182 + 8 * q) (hn : n ≤ 43931 + 800 * q) (h0 : ∃ fs, h[0]? = some (.inr (11, fs))) (A : ∀ xs, zpB [zfI] xs → zW zTt G 64 155 (.ref 0 :: xs.map Value.int) h (fun w h2 => zTy 0 w ∧ (∃ fs, h2[111]? = some (.inr (12, fs))) ∧ zW zTt G 64 277 (.ref 111 :: xs.map Value.int) h2 (fun w2 h3 => zTy 0 w2 ∧ (false = true → w2 = w) ∧ P h3))) (K : ∀ h3 c n, P h3 → c ≤ 182 + 8 * (q + 1) → n ≤ 43931 + 800 * (q + 1) → zR zTt G cd_L 600000 7302250 (some .boolean) (zW zTt G 64) (fun w _ => w = some (.int 1)) 2138 [some (.retAddr 0), some (.ref 0), some (.ref 111), some (.int x)] [] h3 c n) : zR zTt G cd_L 600000 7302250 (some .boolean) (zW zTt G 64) (fun w _ => w = some (.int 1)) 2069 [some (.retAddr 0), some (.ref 0), some (.ref 111), some (.int x)] [] h c n := by
  have hx0 : 0 ≤ x.toInt := by omega
  have hx8 : x.toInt + 8 ≤ G.2.2.1 := by omega
  obtain ⟨fs0, hx_0⟩ := h0
  refine r_aload (zW_mono _ _ _) lq_2069 rfl ?_
  refine r_aloadS (zW_mono _ _ _) lq_2070 rfl ?_
  refine r_iload (zW_mono _ _ _) lq_2071 rfl ?_
  refine r_push (zW_mono _ _ _) lq_2072 ?_
  refine r_iadd (zW_mono _ _ _) lq_2073 ?_
  refine r_sld (zW_mono _ _ _) lq_2074 (zsx hx0 hx8 hN 1 (by decide) (by decide)) ?_
  refine r_virt1 (m1 := 0) (m2 := 0) (zW_mono _ _ _) lq_2075 hx_0 (Nat.le_of_ble_eq_true rfl) (by unfold zbud; rw [hG]; rfl) (by omega) (by omega) ?_
  refine zW_mono zTt G 64 _ _ _ _ _ ?_ (A [G.2.2.2 (x + 1).toNatClampNeg] ⟨zfI_ok _, trivial⟩)
  rintro w h2 ⟨⟨x9, rfl⟩, ⟨fs9, hr9⟩, k9⟩
  refine r_pop (zW_mono _ _ _) lq_2078 rfl ?_
  refine r_aload (zW_mono _ _ _) lq_2079 rfl ?_
  refine r_aloadS (zW_mono _ _ _) lq_2080 rfl ?_
  refine r_iload (zW_mono _ _ _) lq_2081 rfl ?_
  refine r_push (zW_mono _ _ _) lq_2082 ?_
  refine r_iadd (zW_mono _ _ _) lq_2083 ?_
  refine r_sld (zW_mono _ _ _) lq_2084 (zsx hx0 hx8 hN 1 (by decide) (by decide)) ?_
  refine r_virt1 (m1 := 0) (m2 := 0) (zW_mono _ _ _) lq_2085 hr9 (Nat.le_of_ble_eq_true rfl) (by unfold zbud; rw [hG]; rfl) (by omega) (by omega) ?_
  refine zW_mono zTt G 64 _ _ _ _ _ ?_ k9
  rintro w h3 ⟨⟨y9, rfl⟩, e9, p9⟩
  refine r_pop (zW_mono _ _ _) lq_2088 rfl ?_
  refine r_goto (zW_mono _ _ _) lq_2089 ?_
  exact K h3 _ _ p9 (by omega) (by omega)
set_option maxHeartbeats 1000000 in
theorem lawop_bests {G : zG} (hG : G.1 = zProg) (hN : G.2.2.1 ≤ 4096) {P : zH → Prop} {h : zH} {x : Int32} {q : Nat} (hx : x.toInt = 8 * q) (hq : 8 * q + 8 ≤ G.2.2.1) {c n : Nat} (hc : c ≤ 182 + 8 * q) (hn : n ≤ 43931 + 800 * q) (h0 : ∃ fs, h[0]? = some (.inr (11, fs))) (A : ∀ xs, zpB [zfI] xs → zW zTt G 64 156 (.ref 0 :: xs.map Value.int) h (fun w h2 => zTy 0 w ∧ (∃ fs, h2[111]? = some (.inr (12, fs))) ∧ zW zTt G 64 278 (.ref 111 :: xs.map Value.int) h2 (fun w2 h3 => zTy 0 w2 ∧ (false = true → w2 = w) ∧ P h3))) (K : ∀ h3 c n, P h3 → c ≤ 182 + 8 * (q + 1) → n ≤ 43931 + 800 * (q + 1) → zR zTt G cd_L 600000 7302250 (some .boolean) (zW zTt G 64) (fun w _ => w = some (.int 1)) 2138 [some (.retAddr 0), some (.ref 0), some (.ref 111), some (.int x)] [] h3 c n) : zR zTt G cd_L 600000 7302250 (some .boolean) (zW zTt G 64) (fun w _ => w = some (.int 1)) 2092 [some (.retAddr 0), some (.ref 0), some (.ref 111), some (.int x)] [] h c n := by
  have hx0 : 0 ≤ x.toInt := by omega
  have hx8 : x.toInt + 8 ≤ G.2.2.1 := by omega
  obtain ⟨fs0, hx_0⟩ := h0
  refine r_aload (zW_mono _ _ _) lq_2092 rfl ?_
  refine r_aloadS (zW_mono _ _ _) lq_2093 rfl ?_
  refine r_iload (zW_mono _ _ _) lq_2094 rfl ?_
  refine r_push (zW_mono _ _ _) lq_2095 ?_
  refine r_iadd (zW_mono _ _ _) lq_2096 ?_
  refine r_sld (zW_mono _ _ _) lq_2097 (zsx hx0 hx8 hN 1 (by decide) (by decide)) ?_
  refine r_virt1 (m1 := 0) (m2 := 0) (zW_mono _ _ _) lq_2098 hx_0 (Nat.le_of_ble_eq_true rfl) (by unfold zbud; rw [hG]; rfl) (by omega) (by omega) ?_
  refine zW_mono zTt G 64 _ _ _ _ _ ?_ (A [G.2.2.2 (x + 1).toNatClampNeg] ⟨zfI_ok _, trivial⟩)
  rintro w h2 ⟨⟨x9, rfl⟩, ⟨fs9, hr9⟩, k9⟩
  refine r_pop (zW_mono _ _ _) lq_2101 rfl ?_
  refine r_aload (zW_mono _ _ _) lq_2102 rfl ?_
  refine r_aloadS (zW_mono _ _ _) lq_2103 rfl ?_
  refine r_iload (zW_mono _ _ _) lq_2104 rfl ?_
  refine r_push (zW_mono _ _ _) lq_2105 ?_
  refine r_iadd (zW_mono _ _ _) lq_2106 ?_
  refine r_sld (zW_mono _ _ _) lq_2107 (zsx hx0 hx8 hN 1 (by decide) (by decide)) ?_
  refine r_virt1 (m1 := 0) (m2 := 0) (zW_mono _ _ _) lq_2108 hr9 (Nat.le_of_ble_eq_true rfl) (by unfold zbud; rw [hG]; rfl) (by omega) (by omega) ?_
  refine zW_mono zTt G 64 _ _ _ _ _ ?_ k9
  rintro w h3 ⟨⟨y9, rfl⟩, e9, p9⟩
  refine r_pop (zW_mono _ _ _) lq_2111 rfl ?_
  refine r_goto (zW_mono _ _ _) lq_2112 ?_
  exact K h3 _ _ p9 (by omega) (by omega)
set_option maxHeartbeats 1000000 in
theorem lawop_count {G : zG} (hG : G.1 = zProg) (hN : G.2.2.1 ≤ 4096) {P : zH → Prop} {h : zH} {x : Int32} {q : Nat} (hx : x.toInt = 8 * q) (hq : 8 * q + 8 ≤ G.2.2.1) {c n : Nat} (hc : c ≤ 182 + 8 * q) (hn : n ≤ 43931 + 800 * q) (h0 : ∃ fs, h[0]? = some (.inr (11, fs))) (A : ∀ xs, zpB [zfI] xs → zW zTt G 64 157 (.ref 0 :: xs.map Value.int) h (fun w h2 => zTy 0 w ∧ (∃ fs, h2[111]? = some (.inr (12, fs))) ∧ zW zTt G 64 279 (.ref 111 :: xs.map Value.int) h2 (fun w2 h3 => zTy 0 w2 ∧ (false = true → w2 = w) ∧ P h3))) (K : ∀ h3 c n, P h3 → c ≤ 182 + 8 * (q + 1) → n ≤ 43931 + 800 * (q + 1) → zR zTt G cd_L 600000 7302250 (some .boolean) (zW zTt G 64) (fun w _ => w = some (.int 1)) 2138 [some (.retAddr 0), some (.ref 0), some (.ref 111), some (.int x)] [] h3 c n) : zR zTt G cd_L 600000 7302250 (some .boolean) (zW zTt G 64) (fun w _ => w = some (.int 1)) 2115 [some (.retAddr 0), some (.ref 0), some (.ref 111), some (.int x)] [] h c n := by
  have hx0 : 0 ≤ x.toInt := by omega
  have hx8 : x.toInt + 8 ≤ G.2.2.1 := by omega
  obtain ⟨fs0, hx_0⟩ := h0
  refine r_aload (zW_mono _ _ _) lq_2115 rfl ?_
  refine r_aloadS (zW_mono _ _ _) lq_2116 rfl ?_
  refine r_iload (zW_mono _ _ _) lq_2117 rfl ?_
  refine r_push (zW_mono _ _ _) lq_2118 ?_
  refine r_iadd (zW_mono _ _ _) lq_2119 ?_
  refine r_sld (zW_mono _ _ _) lq_2120 (zsx hx0 hx8 hN 1 (by decide) (by decide)) ?_
  refine r_virt1 (m1 := 0) (m2 := 0) (zW_mono _ _ _) lq_2121 hx_0 (Nat.le_of_ble_eq_true rfl) (by unfold zbud; rw [hG]; rfl) (by omega) (by omega) ?_
  refine zW_mono zTt G 64 _ _ _ _ _ ?_ (A [G.2.2.2 (x + 1).toNatClampNeg] ⟨zfI_ok _, trivial⟩)
  rintro w h2 ⟨⟨x9, rfl⟩, ⟨fs9, hr9⟩, k9⟩
  refine r_pop (zW_mono _ _ _) lq_2124 rfl ?_
  refine r_aload (zW_mono _ _ _) lq_2125 rfl ?_
  refine r_aloadS (zW_mono _ _ _) lq_2126 rfl ?_
  refine r_iload (zW_mono _ _ _) lq_2127 rfl ?_
  refine r_push (zW_mono _ _ _) lq_2128 ?_
  refine r_iadd (zW_mono _ _ _) lq_2129 ?_
  refine r_sld (zW_mono _ _ _) lq_2130 (zsx hx0 hx8 hN 1 (by decide) (by decide)) ?_
  refine r_virt1 (m1 := 0) (m2 := 0) (zW_mono _ _ _) lq_2131 hr9 (Nat.le_of_ble_eq_true rfl) (by unfold zbud; rw [hG]; rfl) (by omega) (by omega) ?_
  refine zW_mono zTt G 64 _ _ _ _ _ ?_ k9
  rintro w h3 ⟨⟨y9, rfl⟩, e9, p9⟩
  refine r_pop (zW_mono _ _ _) lq_2134 rfl ?_
  refine r_goto (zW_mono _ _ _) lq_2135 ?_
  exact K h3 _ _ p9 (by omega) (by omega)
theorem zand63 (x : Int32) : 0 ≤ (x &&& 63).toInt ∧ (x &&& 63).toInt ≤ 63 := by
  obtain ⟨j, hj, e⟩ := pk_andE x (m := 63) 6 (by decide)
  rw [e, nI_toInt (by omega)]
  omega
set_option maxHeartbeats 8000000 in
theorem law_loop {G : zG} (hG : G.1 = zProg) (hN : G.2.2.1 ≤ 4096) {R : zH → Prop} (a0 : zAr G R 110 174 0 [zfI] false) (a1 : zAr G R 111 179 0 [zfI] false) (a2 : zAr G R 112 180 0 [zfI, zfI] false) (a3 : zAr G R 113 181 0 [zfI, zfI, zfI, zfI] false) (a4 : zAr G R 114 182 0 [zfI, zfI, zfI, zfI] false) (a5 : zAr G R 115 183 0 [zfI, zfI, zfI] false) (a6 : zAr G R 116 184 0 [zfI, zfI, zfI] false) (a7 : zAr G R 117 185 0 [zfI, zfI, zfI] false) (a8 : zAr G R 118 187 0 [zfI, zfI, zfI] false) (a9 : zAr G R 119 192 0 [zfI, zfI] false) (a10 : zAr G R 120 193 0 [zfI, zfI] false) (a11 : zAr G R 121 195 0 [zfI, zfI, zfI, zfI, zfI] false) (a12 : zAr G R 122 196 0 [zfI, zfI, zfI, zfI, zfI] false) (a13 : zAr G R 123 198 0 [zfI] false) (a14 : zAr G R 124 225 0 [zfI] false) (a15 : zAr G R 125 227 0 [zfI] false) (a16 : zAr G R 126 235 0 [zfI, zfI, zfI] false) (a17 : zAr G R 127 236 0 [zfI, zfI, zfI] false) (a18 : zAr G R 128 237 0 [zfI, zfI] false) (a19 : zAr G R 129 238 0 [zfI, zfI, zfI, zbI] false) (a20 : zAr G R 130 239 0 [zfI, zfI] false) (a21 : zAr G R 131 241 0 [zfI, zfI, zfI, zfI, zfI] false) (a22 : zAr G R 132 243 0 [zfI, zfI, zfI] false) (a23 : zAr G R 133 244 0 [zfI, zfI, zfI, zfI, zfI, zbI, zbI] false) (a24 : zAr G R 134 245 0 [zfI] false) (a25 : zAr G R 135 247 1 [zfI, zfI, zfI] false) (a26 : zAr G R 136 248 0 [zfI] false) (a27 : zAr G R 137 250 0 [zfI, zbI, zfI, zfI] false) (a28 : zAr G R 138 252 1 [zfI] false) (a29 : zAr G R 139 253 1 [zfI, zfI, zfI] false) (a30 : zAr G R 140 256 1 [zfI, zfI, zfI] false) (a31 : zAr G R 141 257 0 [zfI, zfI, zfI, zfI] false) (a32 : zAr G R 142 260 0 [zfI, zfI] false) (a33 : zAr G R 143 261 0 [zfI] false) (a34 : zAr G R 144 263 0 [zfI, zfI] false) (a35 : zAr G R 145 264 0 [zfI, zfI] false) (a36 : zAr G R 146 265 0 [zfI, zfI, zfI, zfI] false) (a37 : zAr G R 147 269 0 [zfI] false) (a38 : zAr G R 148 270 0 [zfI, zfI] false) (a39 : zAr G R 149 271 0 [zfI, zfI] false) (a40 : zAr G R 150 272 0 [zfI, zfI] true) (a41 : zAr G R 151 273 0 [zfI, zbI] false) (a42 : zAr G R 152 274 1 [zfI] false) (a43 : zAr G R 153 275 0 [zfI, zfI] false) (a44 : zAr G R 154 276 0 [zfI, zfI, zfI] false) (a45 : zAr G R 155 277 0 [zfI] false) (a46 : zAr G R 156 278 0 [zfI] false) (a47 : zAr G R 157 279 0 [zfI] false) : ∀ (m q : Nat) (x : Int32) (h : zH) (c n : Nat), x.toInt = 8 * q → G.2.2.1 < 8 * q + 8 * m + 8 → q ≤ 512 → zIv G.2.2.2 R h → c ≤ 182 + 8 * q → n ≤ 43931 + 800 * q → zR zTt G cd_L 600000 7302250 (some .boolean) (zW zTt G 64) (fun w _ => w = some (.int 1)) 18 [some (.retAddr 0), some (.ref 0), some (.ref 111), some (.int x)] [] h c n := by
  intro m
  induction m with
  | zero =>
    intro q x h c n hx hm hq hI hc hn
    refine r_iload (zW_mono _ _ _) lq_18 rfl ?_
    refine r_aloadS (zW_mono _ _ _) lq_19 rfl ?_
    refine r_slen (zW_mono _ _ _) lq_20 ?_
    refine r_push (zW_mono _ _ _) lq_21 ?_
    refine r_isub (zW_mono _ _ _) lq_23 ?_
    have e8 : (Int32.ofNat G.2.2.1 - 8).toInt = (G.2.2.1 : Int) - 8 := by rw [Int32.toInt_sub, yofN (by omega)]; exact Int.bmod_eq_of_le (by show (-2147483648 : Int) ≤ (G.2.2.1 : Int) - 8; omega) (by show (G.2.2.1 : Int) - 8 < (2147483648 : Int); omega)
    exact r_ic_gt (zW_mono _ _ _) lq_24 hx e8 (fun _ => law_out) (fun z => absurd z (by omega))
  | succ m ih =>
    intro q x h c n hx hm hq hI hc hn
    refine r_iload (zW_mono _ _ _) lq_18 rfl ?_
    refine r_aloadS (zW_mono _ _ _) lq_19 rfl ?_
    refine r_slen (zW_mono _ _ _) lq_20 ?_
    refine r_push (zW_mono _ _ _) lq_21 ?_
    refine r_isub (zW_mono _ _ _) lq_23 ?_
    have e8 : (Int32.ofNat G.2.2.1 - 8).toInt = (G.2.2.1 : Int) - 8 := by rw [Int32.toInt_sub, yofN (by omega)]; exact Int.bmod_eq_of_le (by show (-2147483648 : Int) ≤ (G.2.2.1 : Int) - 8; omega) (by show (G.2.2.1 : Int) - 8 < (2147483648 : Int); omega)
    refine r_ic_gt (zW_mono _ _ _) lq_24 hx e8 (fun _ => law_out) (fun z => ?_)
    have hq8 : 8 * q + 8 ≤ G.2.2.1 := by omega
    have hx0 : 0 ≤ x.toInt := by omega
    have hx8 : x.toInt + 8 ≤ G.2.2.1 := by omega
    have K : ∀ h3 c n, zIv G.2.2.2 R h3 → c ≤ 182 + 8 * (q + 1) → n ≤ 43931 + 800 * (q + 1) → zR zTt G cd_L 600000 7302250 (some .boolean) (zW zTt G 64) (fun w _ => w = some (.int 1)) 2138 [some (.retAddr 0), some (.ref 0), some (.ref 111), some (.int x)] [] h3 c n := by
      intro h3 c n p hc hn
      refine r_iinc (zW_mono _ _ _) lq_2138 rfl (Nat.le_of_ble_eq_true rfl) ?_
      refine r_goto (zW_mono _ _ _) lq_2141 ?_
      have e : (x + 8).toInt = 8 * ((q + 1 : Nat) : Int) := by
        rw [Int32.toInt_add]
        refine (Int.bmod_eq_of_le (by show (-2147483648 : Int) ≤ x.toInt + 8; omega) (by show x.toInt + 8 < (2147483648 : Int); omega)).trans ?_
        show x.toInt + 8 = _
        omega
      exact ih (q + 1) (x + 8) h3 c n e (by omega) (by omega) p (by omega) (by omega)
    have h0 : ∃ fs, h[0]? = some (.inr (11, fs)) := by obtain ⟨⟨τ, hB⟩, -⟩ := hI; exact zBs_0 hB
    refine r_aloadS (zW_mono _ _ _) lq_27 rfl ?_
    refine r_iload (zW_mono _ _ _) lq_28 rfl ?_
    refine r_sld (zW_mono _ _ _) lq_29 (zsx0 hx0 hx8) ?_
    refine r_push (zW_mono _ _ _) lq_30 ?_
    refine r_iand (zW_mono _ _ _) lq_32 ?_
    obtain ⟨b1, b2⟩ := zand63 (G.2.2.2 x.toNatClampNeg)
    generalize G.2.2.2 x.toNatClampNeg &&& 63 = y at b1 b2 ⊢
    have kd := K h c n hI (by omega) (by omega)
    refine r_table (zW_mono _ _ _) lq_33 (fun _ => kd) (fun q1 q2 => ?_)
    rcases (by omega : y.toInt = 0 ∨ y.toInt = 1 ∨ y.toInt = 2 ∨ y.toInt = 3 ∨ y.toInt = 4 ∨ y.toInt = 5 ∨ y.toInt = 6 ∨ y.toInt = 7 ∨ y.toInt = 8 ∨ y.toInt = 9 ∨ y.toInt = 10 ∨ y.toInt = 11 ∨ y.toInt = 12 ∨ y.toInt = 13 ∨ y.toInt = 14 ∨ y.toInt = 15 ∨ y.toInt = 16 ∨ y.toInt = 17 ∨ y.toInt = 18 ∨ y.toInt = 19 ∨ y.toInt = 20 ∨ y.toInt = 21 ∨ y.toInt = 22 ∨ y.toInt = 23 ∨ y.toInt = 24 ∨ y.toInt = 25 ∨ y.toInt = 26 ∨ y.toInt = 27 ∨ y.toInt = 28 ∨ y.toInt = 29 ∨ y.toInt = 30 ∨ y.toInt = 31 ∨ y.toInt = 32 ∨ y.toInt = 33 ∨ y.toInt = 34 ∨ y.toInt = 35 ∨ y.toInt = 36 ∨ y.toInt = 37 ∨ y.toInt = 38 ∨ y.toInt = 39 ∨ y.toInt = 40 ∨ y.toInt = 41 ∨ y.toInt = 42 ∨ y.toInt = 43 ∨ y.toInt = 44 ∨ y.toInt = 45 ∨ y.toInt = 46 ∨ y.toInt = 47) with z | z | z | z | z | z | z | z | z | z | z | z | z | z | z | z | z | z | z | z | z | z | z | z | z | z | z | z | z | z | z | z | z | z | z | z | z | z | z | z | z | z | z | z | z | z | z | z
    · exact ⟨240, by rw [z]; rfl, lawop_clock hG hN hx hq8 hc hn h0 (fun xs hb => a0 xs h hb hI) K⟩
    · exact ⟨263, by rw [z]; rfl, lawop_person hG hN hx hq8 hc hn h0 (fun xs hb => a1 xs h hb hI) K⟩
    · exact ⟨286, by rw [z]; rfl, lawop_factor hG hN hx hq8 hc hn h0 (fun xs hb => a2 xs h hb hI) K⟩
    · exact ⟨319, by rw [z]; rfl, lawop_kind hG hN hx hq8 hc hn h0 (fun xs hb => a3 xs h hb hI) K⟩
    · exact ⟨372, by rw [z]; rfl, lawop_part hG hN hx hq8 hc hn h0 (fun xs hb => a4 xs h hb hI) K⟩
    · exact ⟨425, by rw [z]; rfl, lawop_fit hG hN hx hq8 hc hn h0 (fun xs hb => a5 xs h hb hI) K⟩
    · exact ⟨468, by rw [z]; rfl, lawop_car hG hN hx hq8 hc hn h0 (fun xs hb => a6 xs h hb hI) K⟩
    · exact ⟨511, by rw [z]; rfl, lawop_sell hG hN hx hq8 hc hn h0 (fun xs hb => a7 xs h hb hI) K⟩
    · exact ⟨554, by rw [z]; rfl, lawop_owner hG hN hx hq8 hc hn h0 (fun xs hb => a8 xs h hb hI) K⟩
    · exact ⟨597, by rw [z]; rfl, lawop_cars hG hN hx hq8 hc hn h0 (fun xs hb => a9 xs h hb hI) K⟩
    · exact ⟨630, by rw [z]; rfl, lawop_force hG hN hx hq8 hc hn h0 (fun xs hb => a10 xs h hb hI) K⟩
    · exact ⟨663, by rw [z]; rfl, lawop_burns hG hN hx hq8 hc hn h0 (fun xs hb => a11 xs h hb hI) K⟩
    · exact ⟨726, by rw [z]; rfl, lawop_feed hG hN hx hq8 hc hn h0 (fun xs hb => a12 xs h hb hI) K⟩
    · exact ⟨789, by rw [z]; rfl, lawop_end hG hN hx hq8 hc hn h0 (fun xs hb => a13 xs h hb hI) K⟩
    · exact ⟨812, by rw [z]; rfl, lawop_rule hG hN hx hq8 hc hn h0 (fun xs hb => a14 xs h hb hI) K⟩
    · exact ⟨835, by rw [z]; rfl, lawop_inForce hG hN hx hq8 hc hn h0 (fun xs hb => a15 xs h hb hI) K⟩
    · exact ⟨858, by rw [z]; rfl, lawop_must hG hN hx hq8 hc hn h0 (fun xs hb => a16 xs h hb hI) K⟩
    · exact ⟨901, by rw [z]; rfl, lawop_fails hG hN hx hq8 hc hn h0 (fun xs hb => a17 xs h hb hI) K⟩
    · exact ⟨944, by rw [z]; rfl, lawop_owed hG hN hx hq8 hc hn h0 (fun xs hb => a18 xs h hb hI) K⟩
    · exact ⟨977, by rw [z]; rfl, lawop_test hG hN hx hq8 hc hn h0 (fun xs hb => a19 xs h hb hI) K⟩
    · exact ⟨1046, by rw [z]; rfl, lawop_reads hG hN hx hq8 hc hn h0 (fun xs hb => a20 xs h hb hI) K⟩
    · exact ⟨1079, by rw [z]; rfl, lawop_knew hG hN hx hq8 hc hn h0 (fun xs hb => a21 xs h hb hI) K⟩
    · exact ⟨1142, by rw [z]; rfl, lawop_knewFails hG hN hx hq8 hc hn h0 (fun xs hb => a22 xs h hb hI) K⟩
    · exact ⟨1185, by rw [z]; rfl, lawop_crash hG hN hx hq8 hc hn h0 (fun xs hb => a23 xs h hb hI) K⟩
    · exact ⟨1304, by rw [z]; rfl, lawop_odd hG hN hx hq8 hc hn h0 (fun xs hb => a24 xs h hb hI) K⟩
    · exact ⟨1327, by rw [z]; rfl, lawop_expected hG hN hx hq8 hc hn h0 (fun xs hb => a25 xs h hb hI) K⟩
    · exact ⟨1370, by rw [z]; rfl, lawop_memo hG hN hx hq8 hc hn h0 (fun xs hb => a26 xs h hb hI) K⟩
    · exact ⟨1393, by rw [z]; rfl, lawop_row hG hN hx hq8 hc hn h0 (fun xs hb => a27 xs h hb hI) K⟩
    · exact ⟨1462, by rw [z]; rfl, lawop_memoSum hG hN hx hq8 hc hn h0 (fun xs hb => a28 xs h hb hI) K⟩
    · exact ⟨1485, by rw [z]; rfl, lawop_turnsAt hG hN hx hq8 hc hn h0 (fun xs hb => a29 xs h hb hI) K⟩
    · exact ⟨1528, by rw [z]; rfl, lawop_beside hG hN hx hq8 hc hn h0 (fun xs hb => a30 xs h hb hI) K⟩
    · exact ⟨1571, by rw [z]; rfl, lawop_step hG hN hx hq8 hc hn h0 (fun xs hb => a31 xs h hb hI) K⟩
    · exact ⟨1624, by rw [z]; rfl, lawop_steps hG hN hx hq8 hc hn h0 (fun xs hb => a32 xs h hb hI) K⟩
    · exact ⟨1657, by rw [z]; rfl, lawop_putOff hG hN hx hq8 hc hn h0 (fun xs hb => a33 xs h hb hI) K⟩
    · exact ⟨1680, by rw [z]; rfl, lawop_change hG hN hx hq8 hc hn h0 (fun xs hb => a34 xs h hb hI) K⟩
    · exact ⟨1713, by rw [z]; rfl, lawop_cheap hG hN hx hq8 hc hn h0 (fun xs hb => a35 xs h hb hI) K⟩
    · exact ⟨1746, by rw [z]; rfl, lawop_call hG hN hx hq8 hc hn h0 (fun xs hb => a36 xs h hb hI) K⟩
    · exact ⟨1799, by rw [z]; rfl, lawop_letters hG hN hx hq8 hc hn h0 (fun xs hb => a37 xs h hb hI) K⟩
    · exact ⟨1822, by rw [z]; rfl, lawop_reached hG hN hx hq8 hc hn h0 (fun xs hb => a38 xs h hb hI) K⟩
    · exact ⟨1855, by rw [z]; rfl, lawop_mend hG hN hx hq8 hc hn h0 (fun xs hb => a39 xs h hb hI) K⟩
    · exact ⟨1888, by rw [z]; rfl, lawop_left hG hN hx hq8 hc hn h0 (fun xs hb => a40 xs h hb hI) K⟩
    · exact ⟨1921, by rw [z]; rfl, lawop_moves hG hN hx hq8 hc hn h0 (fun xs hb => a41 xs h hb hI) K⟩
    · exact ⟨1970, by rw [z]; rfl, lawop_jury hG hN hx hq8 hc hn h0 (fun xs hb => a42 xs h hb hI) K⟩
    · exact ⟨1993, by rw [z]; rfl, lawop_saver hG hN hx hq8 hc hn h0 (fun xs hb => a43 xs h hb hI) K⟩
    · exact ⟨2026, by rw [z]; rfl, lawop_overlap hG hN hx hq8 hc hn h0 (fun xs hb => a44 xs h hb hI) K⟩
    · exact ⟨2069, by rw [z]; rfl, lawop_best hG hN hx hq8 hc hn h0 (fun xs hb => a45 xs h hb hI) K⟩
    · exact ⟨2092, by rw [z]; rfl, lawop_bests hG hN hx hq8 hc hn h0 (fun xs hb => a46 xs h hb hI) K⟩
    · exact ⟨2115, by rw [z]; rfl, lawop_count hG hN hx hq8 hc hn h0 (fun xs hb => a47 xs h hb hI) K⟩
theorem zin_dm {G : zG} (hG : G.1 = zProg) (hT : G.2.1 = ztx) {d j : Nat} {as : List Value} {X : dH} {Y : zH} {w : Option Value} {h2 : dH} {Q : zQ} (hX : dmet zTt zG0 20000 d j as X = some (w, h2)) (e : Y = dzH X) (k : Q w (dzH h2)) : zW zTt G d j as Y Q := by
  subst e
  exact dmet_ok (G := zG0) (G2 := G) hG hT d j as X w h2 hX Q k
set_option maxHeartbeats 4000000 in
theorem law_first {G : zG} (hG : G.1 = zProg) (hT : G.2.1 = ztx) (k : zR zTt G cd_L 600000 7302250 (some .boolean) (zW zTt G 64) (fun w _ => w = some (.int 1)) 18 [some (.retAddr 0), some (.ref 0), some (.ref 111), some (.int 0)] [] (dzH dH0) 182 43931) : zR zTt G cd_L 600000 7302250 (some .boolean) (zW zTt G 64) (fun w _ => w = some (.int 1)) 0 (zentry [.retAddr 0] 4) [] [] 0 0 := by
  refine r_new (fs := zcls zTt 11) (zW_mono _ _ _) lq_0 rfl (Nat.le_of_ble_eq_true rfl) (Nat.le_of_ble_eq_true rfl) ?_
  refine r_dup (zW_mono _ _ _) lq_3 rfl ?_
  refine r_spec0 (m1 := 110) (m2 := 10850) (zW_mono _ _ _) lq_4 (Nat.le_of_ble_eq_true rfl) (by unfold zbud; rw [hG]; rfl) (Nat.le_of_ble_eq_true rfl) (Nat.le_of_ble_eq_true rfl) ?_
  refine dmet_ok (G := zG0) (G2 := G) hG hT 64 109 [.ref 0] [.inr (11, zcls zTt 11)] none (dH0.take 111) fr_x _ ?_
  refine r_astore (zW_mono _ _ _) lq_7 (Nat.le_of_ble_eq_true rfl) ?_
  refine r_new (fs := zcls zTt 12) (zW_mono _ _ _) lq_8 rfl (Nat.le_of_ble_eq_true rfl) (Nat.le_of_ble_eq_true rfl) ?_
  have hl : (dzH (dH0.take 111)).length = 111 := by rw [dzH_len]; rfl
  rw [hl]
  refine r_dup (zW_mono _ _ _) lq_11 rfl ?_
  refine r_spec0 (m1 := 70) (m2 := 32970) (zW_mono _ _ _) lq_12 (Nat.le_of_ble_eq_true rfl) (by unfold zbud; rw [hG]; rfl) (Nat.le_of_ble_eq_true rfl) (Nat.le_of_ble_eq_true rfl) ?_
  refine zin_dm hG hT fr_m (by rw [dzH_app]; rfl) ?_
  refine r_astore (zW_mono _ _ _) lq_15 (Nat.le_of_ble_eq_true rfl) ?_
  refine r_push (zW_mono _ _ _) lq_16 ?_
  refine r_istore (zW_mono _ _ _) lq_17 (Nat.le_of_ble_eq_true rfl) ?_
  exact k
end
