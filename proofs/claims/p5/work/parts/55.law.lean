def kt_law : yCt := (([], [], [], [], [], [], []), [(1, 14), (2, 6), (2, 7), (3, 0), (4, 0), (6, 0), (7, 0), (9, 0), (11, 0), (12, 2), (12, 4), (12, 9), (13, 0), (14, 0), (15, 0), (16, 0), (17, 0), (18, 0), (19, 0), (20, 1), (20, 2), (20, 3), (20, 5), (20, 7), (20, 8), (20, 9), (21, 0), (22, 0), (23, 0), (24, 3), (25, 0), (26, 0), (27, 0), (28, 0), (29, 0), (30, 5), (30, 9), (31, 0), (32, 0), (33, 0), (34, 0), (35, 0), (36, 0), (37, 0), (38, 0), (39, 8), (40, 0), (41, 0), (42, 0), (43, 0), (44, 0), (45, 0), (46, 0), (47, 0), (48, 0), (49, 0), (50, 0), (51, 0), (52, 0), (53, 0), (54, 0), (55, 0), (56, 0), (57, 7), (58, 0), (59, 0), (60, 0), (61, 0), (62, 0), (63, 0), (65, 4), (66, 0), (67, 0), (68, 0), (69, 0), (70, 3), (70, 4), (70, 5), (71, 0), (72, 0), (74, 0), (75, 0), (78, 0), (79, 1), (79, 2), (79, 3), (79, 4), (79, 5), (79, 6), (79, 27), (79, 28), (79, 29), (79, 30), (79, 31), (79, 32), (79, 33), (79, 34), (79, 46), (79, 47), (79, 50), (79, 51), (79, 59), (79, 71), (79, 76), (79, 83), (79, 90), (79, 91), (79, 92), (80, 0), (81, 0), (82, 0), (83, 0), (84, 0), (85, 0), (86, 0), (87, 0), (88, 0), (89, 0), (90, 0), (91, 0), (92, 0), (93, 0), (94, 0), (95, 0), (96, 0), (97, 0), (98, 0), (99, 0), (100, 0), (101, 0), (102, 0), (103, 0), (104, 0), (105, 0), (106, 0), (107, 0), (108, 0), (109, 0), (110, 0), (111, 0), (112, 0), (113, 0), (114, 0), (115, 0), (116, 0), (117, 0), (118, 0), (119, 0), (120, 0), (121, 0), (122, 0), (123, 0), (124, 0), (125, 0), (126, 0), (127, 0), (128, 0), (129, 0), (130, 0), (131, 0), (132, 0), (133, 0), (134, 0), (135, 0), (136, 0), (137, 0), (138, 0), (139, 0), (140, 0), (141, 0), (142, 0), (143, 0), (144, 0), (145, 0), (146, 0), (147, 0), (148, 0), (149, 0), (150, 4), (150, 5), (150, 6), (150, 7), (150, 8), (150, 9), (151, 0)], (.ofNat 44, []), [([], [], [], [], [(0, (.ofNat 1, []))], [], [])])
def kp_law : yM := ([(6, 3, 0), (0, 3, 0), (1, 1, 6)], [(0, .ofNat 0, .ofNat 4096, 0), (1, .ofNat 0, .ofNat 4096, 0), (2, .ofNat 0, .ofNat 8, 0)], [(.ofNat 8, [(0, .negSucc 0), (1, .ofNat 1)])], [some (3, (.ofNat 0, [])), some (2, (.ofNat 0, [])), some (2, (.ofNat 111, [])), some (0, (.ofNat 0, [(1, .ofNat 1)]))], [], [(1, 6, (0, (.ofNat 0, [(2, .ofNat 1)]))), (111, 3, (0, (.ofNat 0, [(2, .ofNat 1)])))], [((3, (.ofNat 0, [])), (.ofNat 0, [(0, .ofNat 1)])), ((100008, (.ofNat 0, [])), (.ofNat 0, []))])
def kq_law (pc : Nat) : yCu := (pc, kp_law, (.ofNat 8193, [(1, .negSucc 1)]), (.ofNat 182, [(1, .ofNat 1)]), (.ofNat 43931, [(1, .ofNat 100)]))
def kh_law : yCu := (18, ([(6, 3, 0), (0, 3, 0), (1, 1, 6)], [(0, .ofNat 0, .ofNat 4096, 0), (1, .ofNat 0, .ofNat 4096, 0), (2, .ofNat 0, .ofNat 8, 0)], [], [some (3, (.ofNat 0, [])), some (2, (.ofNat 0, [])), some (2, (.ofNat 111, [])), some (0, (.ofNat 0, [(1, .ofNat 1)]))], [], [(1, 6, (0, (.ofNat 0, [(2, .ofNat 1)]))), (111, 3, (0, (.ofNat 0, [(2, .ofNat 1)])))], [((3, (.ofNat 0, [])), (.ofNat 0, [(0, .ofNat 1)])), ((100008, (.ofNat 0, [])), (.ofNat 0, []))]), (.ofNat 8194, [(1, .negSucc 1)]), (.ofNat 182, [(1, .ofNat 1)]), (.ofNat 43931, [(1, .ofNat 100)]))
def kg_0 : List yCu := [kq_law 240, kq_law 263, kq_law 286, kq_law 319]
def kg_1 : List yCu := [kq_law 372, kq_law 425, kq_law 468, kq_law 511]
def kg_2 : List yCu := [kq_law 554, kq_law 597, kq_law 630, kq_law 663]
def kg_3 : List yCu := [kq_law 726, kq_law 789, kq_law 812, kq_law 835]
def kg_4 : List yCu := [kq_law 858, kq_law 901, kq_law 944, kq_law 977]
def kg_5 : List yCu := [kq_law 1046, kq_law 1079, kq_law 1142, kq_law 1185]
def kg_6 : List yCu := [kq_law 1304, kq_law 1327, kq_law 1370, kq_law 1393]
def kg_7 : List yCu := [kq_law 1462, kq_law 1485, kq_law 1528, kq_law 1571]
def kg_8 : List yCu := [kq_law 1624, kq_law 1657, kq_law 1680, kq_law 1713]
def kg_9 : List yCu := [kq_law 1746, kq_law 1799, kq_law 1822, kq_law 1855]
def kg_10 : List yCu := [kq_law 1888, kq_law 1921, kq_law 1970, kq_law 1993]
def kg_11 : List yCu := [kq_law 2026, kq_law 2069, kq_law 2092, kq_law 2115]
def ku_law : List yCu := [kh_law] ++ (kg_0 ++ (kg_1 ++ (kg_2 ++ (kg_3 ++ (kg_4 ++ (kg_5 ++ (kg_6 ++ (kg_7 ++ (kg_8 ++ (kg_9 ++ (kg_10 ++ (kg_11))))))))))))
theorem kk_h : ycks zTt zProg zTG zTTy zTX zGd zXf zCT 4000 (cd_L, 4, some .boolean, 600000, 7302250) kt_law ku_law [kh_law] = true := by decide +kernel
theorem kk_g0 : ycks zTt zProg zTG zTTy zTX zGd zXf zCT 4000 (cd_L, 4, some .boolean, 600000, 7302250) kt_law ku_law kg_0 = true := by decide +kernel
theorem kk_g1 : ycks zTt zProg zTG zTTy zTX zGd zXf zCT 4000 (cd_L, 4, some .boolean, 600000, 7302250) kt_law ku_law kg_1 = true := by decide +kernel
theorem kk_g2 : ycks zTt zProg zTG zTTy zTX zGd zXf zCT 4000 (cd_L, 4, some .boolean, 600000, 7302250) kt_law ku_law kg_2 = true := by decide +kernel
theorem kk_g3 : ycks zTt zProg zTG zTTy zTX zGd zXf zCT 4000 (cd_L, 4, some .boolean, 600000, 7302250) kt_law ku_law kg_3 = true := by decide +kernel
theorem kk_g4 : ycks zTt zProg zTG zTTy zTX zGd zXf zCT 4000 (cd_L, 4, some .boolean, 600000, 7302250) kt_law ku_law kg_4 = true := by decide +kernel
theorem kk_g5 : ycks zTt zProg zTG zTTy zTX zGd zXf zCT 4000 (cd_L, 4, some .boolean, 600000, 7302250) kt_law ku_law kg_5 = true := by decide +kernel
theorem kk_g6 : ycks zTt zProg zTG zTTy zTX zGd zXf zCT 4000 (cd_L, 4, some .boolean, 600000, 7302250) kt_law ku_law kg_6 = true := by decide +kernel
theorem kk_g7 : ycks zTt zProg zTG zTTy zTX zGd zXf zCT 4000 (cd_L, 4, some .boolean, 600000, 7302250) kt_law ku_law kg_7 = true := by decide +kernel
theorem kk_g8 : ycks zTt zProg zTG zTTy zTX zGd zXf zCT 4000 (cd_L, 4, some .boolean, 600000, 7302250) kt_law ku_law kg_8 = true := by decide +kernel
theorem kk_g9 : ycks zTt zProg zTG zTTy zTX zGd zXf zCT 4000 (cd_L, 4, some .boolean, 600000, 7302250) kt_law ku_law kg_9 = true := by decide +kernel
theorem kk_g10 : ycks zTt zProg zTG zTTy zTX zGd zXf zCT 4000 (cd_L, 4, some .boolean, 600000, 7302250) kt_law ku_law kg_10 = true := by decide +kernel
theorem kk_g11 : ycks zTt zProg zTG zTTy zTX zGd zXf zCT 4000 (cd_L, 4, some .boolean, 600000, 7302250) kt_law ku_law kg_11 = true := by decide +kernel
theorem ycks_app {tt : zT} {P : List zI} {TG : List Nat} {TT : List yC} {TX : List Nat} {Gd : yGS} {Xf : Nat → Nat → Bool} {CT : List (List yCt)} {F : Nat} {info : zI} {ct : yCt} {cuts : List yCu} : ∀ {a b : List yCu}, ycks tt P TG TT TX Gd Xf CT F info ct cuts a = true → ycks tt P TG TT TX Gd Xf CT F info ct cuts b = true → ycks tt P TG TT TX Gd Xf CT F info ct cuts (a ++ b) = true
  | [], b, _, h => h
  | (pc, M, r, c, n) :: a, b, h, g => by
    unfold ycks at h
    rw [Bool.and_eq_true] at h
    show ycks tt P TG TT TX Gd Xf CT F info ct cuts ((pc, M, r, c, n) :: (a ++ b)) = true
    unfold ycks
    rw [Bool.and_eq_true]
    exact ⟨h.1, ycks_app h.2 g⟩
theorem kk_law : ycks zTt zProg zTG zTTy zTX zGd zXf zCT 4000 (cd_L, 4, some .boolean, 600000, 7302250) kt_law ku_law ku_law = true := ycks_app kk_h (ycks_app kk_g0 (ycks_app kk_g1 (ycks_app kk_g2 (ycks_app kk_g3 (ycks_app kk_g4 (ycks_app kk_g5 (ycks_app kk_g6 (ycks_app kk_g7 (ycks_app kk_g8 (ycks_app kk_g9 (ycks_app kk_g10 kk_g11)))))))))))
