theorem iX0 : ∀ w ∈ u_ws RX0 TX0 11, w ∈ zTs := zwall_ok _ [3064, 3066, 3068, 3070, 3072, 3074, 3076, 3078, 3080, 3082, 3084] (by decide +kernel)
theorem iX1 : ∀ w ∈ u_ws RX1 TX1 13, w ∈ zTs := zwall_ok _ [2009, 2011, 2013, 2015, 2017, 2019, 2021, 2023, 2025, 2027, 2029, 2031, 2033] (by decide +kernel)
theorem iX2 : ∀ w ∈ u_ws RX2 TX2 10, w ∈ zTs := zwall_ok _ [1091, 1093, 1095, 1097, 1099, 1101, 1103, 1105, 1107, 1109] (by decide +kernel)
theorem iX3 : ∀ w ∈ u_ws RX3 TX3 8, w ∈ zTs := zwall_ok _ [1051, 1053, 1055, 1057, 1059, 1061, 1063, 1065] (by decide +kernel)
theorem iX4 : ∀ w ∈ u_ws RX4 TX4 5, w ∈ zTs := zwall_ok _ [2048, 2050, 2052, 2054, 2056] (by decide +kernel)
theorem iX5 : ∀ w ∈ u_ws RX5 TX5 8, w ∈ zTs := zwall_ok _ [2076, 2078, 2080, 2082, 2084, 2086, 2088, 2090] (by decide +kernel)
theorem iX6 : ∀ w ∈ u_ws RX6 TX6 5, w ∈ zTs := zwall_ok _ [2106, 2108, 2110, 2112, 2114] (by decide +kernel)
theorem iX7 : ∀ w ∈ u_ws RX7 TX7 6, w ∈ zTs := zwall_ok _ [1171, 1173, 1175, 1177, 1179, 1181] (by decide +kernel)
theorem iX8 : ∀ w ∈ u_ws RX8 TX8 10, w ∈ zTs := zwall_ok _ [1134, 1136, 1138, 1140, 1142, 1144, 1146, 1148, 1150, 1152] (by decide +kernel)
theorem iX9 : ∀ w ∈ u_ws RX9 TX9 6, w ∈ zTs := zwall_ok _ [2132, 2134, 2136, 2138, 2140, 2142] (by decide +kernel)
theorem iX10 : ∀ w ∈ u_ws RX10 TX10 10, w ∈ zTs := zwall_ok _ [1202, 1204, 1206, 1208, 1210, 1212, 1214, 1216, 1218, 1220] (by decide +kernel)
theorem iX11 : ∀ w ∈ u_ws RX11 TX11 15, w ∈ zTs := zwall_ok _ [2160, 2162, 2164, 2166, 2168, 2170, 2172, 2174, 2176, 2178, 2180, 2182, 2184, 2186, 2188] (by decide +kernel)
theorem iX12 : ∀ w ∈ u_ws RX12 TX12 96, w ∈ zTs := zwall_ok _ [6143, 6145, 6147, 6149, 6151, 6153, 6155, 6157, 6159, 6161, 6163, 6165, 6167, 6169, 6171, 6173, 6175, 6177, 6179, 6181, 6183, 6185, 6187, 6189, 6191, 6193, 6195, 6197, 6199, 6201, 6203, 6205, 6207, 6209, 6211, 6213, 6215, 6217, 6219, 6221, 6223, 6225, 6227, 6229, 6231, 6233, 6235, 6237, 6239, 7001, 7003, 7005, 7007, 7009, 7011, 7013, 7015, 7017, 7019, 7021, 7023, 7025, 7027, 7029, 7031, 7033, 7035, 7037, 7039, 7041, 7043, 7045, 7047, 7049, 7051, 7053, 7055, 7057, 7059, 7061, 7063, 7065, 7067, 7069, 7071, 7073, 7075, 7077, 7079, 7081, 7083, 7085, 7087, 7089, 7091, 7093] (by decide +kernel)
theorem zTT_G : zTT zTt zCl zTs := by
  intro k q hq
  match k, hq with
  | 0, hq => cases hq; exact ⟨tyX0, _, rfl, tyX0_ok, nmX0, iX0⟩
  | 1, hq => cases hq; exact ⟨tyX1, _, rfl, tyX1_ok, nmX1, iX1⟩
  | 2, hq => cases hq; exact ⟨tyX2, _, rfl, tyX2_ok, nmX2, iX2⟩
  | 3, hq => cases hq; exact ⟨tyX3, _, rfl, tyX3_ok, nmX3, iX3⟩
  | 4, hq => cases hq; exact ⟨tyX4, _, rfl, tyX4_ok, nmX4, iX4⟩
  | 5, hq => cases hq; exact ⟨tyX5, _, rfl, tyX5_ok, nmX5, iX5⟩
  | 6, hq => cases hq; exact ⟨tyX6, _, rfl, tyX6_ok, nmX6, iX6⟩
  | 7, hq => cases hq; exact ⟨tyX7, _, rfl, tyX7_ok, nmX7, iX7⟩
  | 8, hq => cases hq; exact ⟨tyX8, _, rfl, tyX8_ok, nmX8, iX8⟩
  | 9, hq => cases hq; exact ⟨tyX9, _, rfl, tyX9_ok, nmX9, iX9⟩
  | 10, hq => cases hq; exact ⟨tyX10, _, rfl, tyX10_ok, nmX10, iX10⟩
  | 11, hq => cases hq; exact ⟨tyX11, _, rfl, tyX11_ok, nmX11, iX11⟩
  | 12, hq => cases hq; exact ⟨tyX12, _, rfl, tyX12_ok, nmX12, iX12⟩
  | k + 13, hq => simp [zCl] at hq
def R_lawz : String := "TankBehindLaw"
theorem zall_app {tb : List (List Jvm.Cond)} {cl : List vw_C} {nm : List (MethodName × ByteArray × Nat)} {km : List Nat} {law ini : Bool} {own : String} {bytes : ByteArray} : ∀ (a : zK) (pa : List (List Nat)) (k : Nat) (b : zK) (pb : List (List Nat)), a.length = pa.length → zall tb cl nm km law ini own bytes k a pa = true → zall tb cl nm km law ini own bytes (k + a.length) b pb = true → zall tb cl nm km law ini own bytes k (a ++ b) (pa ++ pb) = true
  | [], [], k, b, pb, _, _, h2 => h2
  | [], _ :: _, _, _, _, hl, _, _ => by cases hl
  | _ :: _, [], _, _, _, hl, _, _ => by cases hl
  | none :: r, p :: ps, k, b, pb, hl, h1, h2 => by
    have h3 := zall_app r ps (k + 1) b pb (Nat.succ.inj hl) h1 (by rw [show k + 1 + r.length = k + (none :: r : zK).length by simp only [List.length_cons]; omega]; exact h2)
    exact h3
  | some e :: r, p :: ps, k, b, pb, hl, h1, h2 => by
    unfold zall at h1
    rw [Bool.and_eq_true] at h1
    have h3 := zall_app r ps (k + 1) b pb (Nat.succ.inj hl) h1.2 (by rw [show k + 1 + r.length = k + (some e :: r : zK).length by simp only [List.length_cons]; omega]; exact h2)
    show zall tb cl nm km law ini own bytes k (some e :: (r ++ b)) (p :: (ps ++ pb)) = true
    unfold zall
    rw [Bool.and_eq_true]
    exact ⟨h1.1, h3⟩
