theorem ckT_22 : zall zTabs zCl zNm zKm true false R_lawz code 2146 cdT_22 ppT_22 = true := rfl
theorem ckL_21 : zall zTabs zCl zNm zKm true false R_lawz code 2100 cdL_21 ppL_21 = true := by decide +kernel
theorem ckT_21 : zall zTabs zCl zNm zKm true false R_lawz code 2100 cdT_21 ppT_21 = true := zall_app cdL_21 ppL_21 2100 _ _ rfl ckL_21 ckT_22
theorem ckL_20 : zall zTabs zCl zNm zKm true false R_lawz code 2000 cdL_20 ppL_20 = true := by decide +kernel
theorem ckT_20 : zall zTabs zCl zNm zKm true false R_lawz code 2000 cdT_20 ppT_20 = true := zall_app cdL_20 ppL_20 2000 _ _ rfl ckL_20 ckT_21
theorem ckL_19 : zall zTabs zCl zNm zKm true false R_lawz code 1900 cdL_19 ppL_19 = true := by decide +kernel
theorem ckT_19 : zall zTabs zCl zNm zKm true false R_lawz code 1900 cdT_19 ppT_19 = true := zall_app cdL_19 ppL_19 1900 _ _ rfl ckL_19 ckT_20
theorem ckL_18 : zall zTabs zCl zNm zKm true false R_lawz code 1800 cdL_18 ppL_18 = true := by decide +kernel
theorem ckT_18 : zall zTabs zCl zNm zKm true false R_lawz code 1800 cdT_18 ppT_18 = true := zall_app cdL_18 ppL_18 1800 _ _ rfl ckL_18 ckT_19
theorem ckL_17 : zall zTabs zCl zNm zKm true false R_lawz code 1700 cdL_17 ppL_17 = true := by decide +kernel
theorem ckT_17 : zall zTabs zCl zNm zKm true false R_lawz code 1700 cdT_17 ppT_17 = true := zall_app cdL_17 ppL_17 1700 _ _ rfl ckL_17 ckT_18
theorem ckL_16 : zall zTabs zCl zNm zKm true false R_lawz code 1600 cdL_16 ppL_16 = true := by decide +kernel
theorem ckT_16 : zall zTabs zCl zNm zKm true false R_lawz code 1600 cdT_16 ppT_16 = true := zall_app cdL_16 ppL_16 1600 _ _ rfl ckL_16 ckT_17
theorem ckL_15 : zall zTabs zCl zNm zKm true false R_lawz code 1500 cdL_15 ppL_15 = true := by decide +kernel
theorem ckT_15 : zall zTabs zCl zNm zKm true false R_lawz code 1500 cdT_15 ppT_15 = true := zall_app cdL_15 ppL_15 1500 _ _ rfl ckL_15 ckT_16
theorem ckL_14 : zall zTabs zCl zNm zKm true false R_lawz code 1400 cdL_14 ppL_14 = true := by decide +kernel
theorem ckT_14 : zall zTabs zCl zNm zKm true false R_lawz code 1400 cdT_14 ppT_14 = true := zall_app cdL_14 ppL_14 1400 _ _ rfl ckL_14 ckT_15
theorem ckL_13 : zall zTabs zCl zNm zKm true false R_lawz code 1300 cdL_13 ppL_13 = true := by decide +kernel
theorem ckT_13 : zall zTabs zCl zNm zKm true false R_lawz code 1300 cdT_13 ppT_13 = true := zall_app cdL_13 ppL_13 1300 _ _ rfl ckL_13 ckT_14
theorem ckL_12 : zall zTabs zCl zNm zKm true false R_lawz code 1200 cdL_12 ppL_12 = true := by decide +kernel
theorem ckT_12 : zall zTabs zCl zNm zKm true false R_lawz code 1200 cdT_12 ppT_12 = true := zall_app cdL_12 ppL_12 1200 _ _ rfl ckL_12 ckT_13
theorem ckL_11 : zall zTabs zCl zNm zKm true false R_lawz code 1100 cdL_11 ppL_11 = true := by decide +kernel
theorem ckT_11 : zall zTabs zCl zNm zKm true false R_lawz code 1100 cdT_11 ppT_11 = true := zall_app cdL_11 ppL_11 1100 _ _ rfl ckL_11 ckT_12
theorem ckL_10 : zall zTabs zCl zNm zKm true false R_lawz code 1000 cdL_10 ppL_10 = true := by decide +kernel
theorem ckT_10 : zall zTabs zCl zNm zKm true false R_lawz code 1000 cdT_10 ppT_10 = true := zall_app cdL_10 ppL_10 1000 _ _ rfl ckL_10 ckT_11
theorem ckL_9 : zall zTabs zCl zNm zKm true false R_lawz code 900 cdL_9 ppL_9 = true := by decide +kernel
theorem ckT_9 : zall zTabs zCl zNm zKm true false R_lawz code 900 cdT_9 ppT_9 = true := zall_app cdL_9 ppL_9 900 _ _ rfl ckL_9 ckT_10
theorem ckL_8 : zall zTabs zCl zNm zKm true false R_lawz code 800 cdL_8 ppL_8 = true := by decide +kernel
theorem ckT_8 : zall zTabs zCl zNm zKm true false R_lawz code 800 cdT_8 ppT_8 = true := zall_app cdL_8 ppL_8 800 _ _ rfl ckL_8 ckT_9
theorem ckL_7 : zall zTabs zCl zNm zKm true false R_lawz code 700 cdL_7 ppL_7 = true := by decide +kernel
theorem ckT_7 : zall zTabs zCl zNm zKm true false R_lawz code 700 cdT_7 ppT_7 = true := zall_app cdL_7 ppL_7 700 _ _ rfl ckL_7 ckT_8
theorem ckL_6 : zall zTabs zCl zNm zKm true false R_lawz code 600 cdL_6 ppL_6 = true := by decide +kernel
theorem ckT_6 : zall zTabs zCl zNm zKm true false R_lawz code 600 cdT_6 ppT_6 = true := zall_app cdL_6 ppL_6 600 _ _ rfl ckL_6 ckT_7
theorem ckL_5 : zall zTabs zCl zNm zKm true false R_lawz code 500 cdL_5 ppL_5 = true := by decide +kernel
theorem ckT_5 : zall zTabs zCl zNm zKm true false R_lawz code 500 cdT_5 ppT_5 = true := zall_app cdL_5 ppL_5 500 _ _ rfl ckL_5 ckT_6
theorem ckL_4 : zall zTabs zCl zNm zKm true false R_lawz code 400 cdL_4 ppL_4 = true := by decide +kernel
theorem ckT_4 : zall zTabs zCl zNm zKm true false R_lawz code 400 cdT_4 ppT_4 = true := zall_app cdL_4 ppL_4 400 _ _ rfl ckL_4 ckT_5
theorem ckL_3 : zall zTabs zCl zNm zKm true false R_lawz code 300 cdL_3 ppL_3 = true := by decide +kernel
theorem ckT_3 : zall zTabs zCl zNm zKm true false R_lawz code 300 cdT_3 ppT_3 = true := zall_app cdL_3 ppL_3 300 _ _ rfl ckL_3 ckT_4
theorem ckL_2 : zall zTabs zCl zNm zKm true false R_lawz code 200 cdL_2 ppL_2 = true := by decide +kernel
theorem ckT_2 : zall zTabs zCl zNm zKm true false R_lawz code 200 cdT_2 ppT_2 = true := zall_app cdL_2 ppL_2 200 _ _ rfl ckL_2 ckT_3
theorem ckL_1 : zall zTabs zCl zNm zKm true false R_lawz code 100 cdL_1 ppL_1 = true := by decide +kernel
theorem ckT_1 : zall zTabs zCl zNm zKm true false R_lawz code 100 cdT_1 ppT_1 = true := zall_app cdL_1 ppL_1 100 _ _ rfl ckL_1 ckT_2
theorem ckL_0 : zall zTabs zCl zNm zKm true false R_lawz code 0 cdL_0 ppL_0 = true := by decide +kernel
theorem ckT_0 : zall zTabs zCl zNm zKm true false R_lawz code 0 cdT_0 ppT_0 = true := zall_app cdL_0 ppL_0 0 _ _ rfl ckL_0 ckT_1
theorem ck_L : zCok zTabs zCl zNm zKm true false R_lawz code cd_L := zCok_of pp_L ckT_0
