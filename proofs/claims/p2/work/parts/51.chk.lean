def ku_1_0 : List yCu := [(4, ([(0, 2, 0), (0, 3, 0)], [(0, .ofNat 0, .ofNat 10000000, 150), (1, .ofNat 0, .ofNat 599, 0), (2, .negSucc 2147483647, .ofNat 2147483647, 0), (3, .ofNat 0, .ofNat 12, 0)], [], [some (2, (.ofNat 0, [(0, .ofNat 1)])), some (0, (.ofNat 0, [(1, .ofNat 1)])), some (0, (.ofNat 0, [(2, .ofNat 1)])), some (0, (.ofNat 0, [(3, .ofNat 1)]))], [], [], []), (.ofNat 12, [(3, .negSucc 0)]), (.ofNat 0, []), (.ofNat 0, []))]
theorem kk_1_0 : ychk zTt zProg zTG zTTy zTX zGd zXf zCT 4000 1 kt_1_0 ku_1_0 = true := by decide +kernel
def ku_169_0 : List yCu := [(2, ([(0, 1, 0)], [(0, .ofNat 107, .ofNat 109, 75), (1, .ofNat 1, .ofNat 600, 0)], [], [some (2, (.ofNat 0, [(0, .ofNat 1)])), some (0, (.ofNat 0, [(1, .ofNat 1)]))], [], [], []), (.ofNat 600, [(1, .negSucc 0)]), (.ofNat 0, []), (.ofNat 0, []))]
theorem kk_169_0 : ychk zTt zProg zTG zTTy zTX zGd zXf zCT 4000 169 kt_169_0 ku_169_0 = true := by decide +kernel
def ku_281_1 : List yCu := [(5, ([(0, 2, 0)], [(0, .ofNat 107, .ofNat 109, 75), (1, .ofNat 0, .ofNat 600, 0)], [], [some (2, (.ofNat 0, [(0, .ofNat 1)])), some (0, (.ofNat 0, [])), some (0, (.ofNat 0, [(1, .ofNat 1)])), some (0, (.ofNat 600, []))], [], [], []), (.ofNat 600, [(1, .negSucc 0)]), (.ofNat 0, []), (.ofNat 0, []))]
theorem kk_281_1 : ychk zTt zProg zTG zTTy zTX zGd zXf zCT 4000 281 kt_281_1 ku_281_1 = true := by decide +kernel
def ku_10_0 : List yCu := [(13, ([(0, 4, 0)], [(0, .ofNat 0, .ofNat 7, 0), (1, .ofNat 0, .ofNat 200, 0)], [], [some (2, (.ofNat 63, [])), some (0, (.ofNat 0, [(0, .ofNat 1)])), some (2, (.ofNat 108, [])), some (2, (.ofNat 109, [])), some (0, (.ofNat 0, [(1, .ofNat 1)]))], [], [], []), (.ofNat 200, [(1, .negSucc 0)]), (.ofNat 0, []), (.ofNat 0, []))]
theorem kk_10_0 : ychk zTt zProg zTG zTTy zTX zGd zXf zCT 4000 10 kt_10_0 ku_10_0 = true := by decide +kernel
def ku_281_0 : List yCu := [(5, ([(0, 2, 0)], [(0, .ofNat 0, .ofNat 9, 0)], [], [some (2, (.ofNat 72, [])), some (0, (.ofNat 0, [])), some (0, (.ofNat 0, [(0, .ofNat 1)])), some (0, (.ofNat 9, []))], [], [], []), (.ofNat 9, [(0, .negSucc 0)]), (.ofNat 0, []), (.ofNat 0, []))]
theorem kk_281_0 : ychk zTt zProg zTG zTTy zTX zGd zXf zCT 4000 281 kt_281_0 ku_281_0 = true := by decide +kernel
def ku_281_3 : List yCu := [(5, ([(0, 2, 0)], [(0, .ofNat 0, .ofNat 9, 0)], [], [some (2, (.ofNat 73, [])), some (0, (.ofNat 0, [])), some (0, (.ofNat 0, [(0, .ofNat 1)])), some (0, (.ofNat 9, []))], [], [], []), (.ofNat 9, [(0, .negSucc 0)]), (.ofNat 0, []), (.ofNat 0, []))]
theorem kk_281_3 : ychk zTt zProg zTG zTTy zTX zGd zXf zCT 4000 281 kt_281_3 ku_281_3 = true := by decide +kernel
def ku_281_4 : List yCu := [(5, ([(0, 2, 0)], [(0, .ofNat 0, .ofNat 9, 0)], [], [some (2, (.ofNat 74, [])), some (0, (.ofNat 0, [])), some (0, (.ofNat 0, [(0, .ofNat 1)])), some (0, (.ofNat 9, []))], [], [], []), (.ofNat 9, [(0, .negSucc 0)]), (.ofNat 0, []), (.ofNat 0, []))]
theorem kk_281_4 : ychk zTt zProg zTG zTTy zTX zGd zXf zCT 4000 281 kt_281_4 ku_281_4 = true := by decide +kernel
def ku_281_6 : List yCu := [(5, ([(0, 2, 0)], [(0, .ofNat 0, .ofNat 9, 0)], [], [some (2, (.ofNat 75, [])), some (0, (.ofNat 0, [])), some (0, (.ofNat 0, [(0, .ofNat 1)])), some (0, (.ofNat 9, []))], [], [], []), (.ofNat 9, [(0, .negSucc 0)]), (.ofNat 0, []), (.ofNat 0, []))]
theorem kk_281_6 : ychk zTt zProg zTG zTTy zTX zGd zXf zCT 4000 281 kt_281_6 ku_281_6 = true := by decide +kernel
def ku_12_0 : List yCu := [(34, ([(0, 3, 0)], [(0, .ofNat 0, .ofNat 7, 0), (1, .ofNat 0, .ofNat 599, 0), (2, .ofNat 0, .ofNat 200, 0)], [], [some (2, (.ofNat 63, [])), some (0, (.ofNat 0, [(0, .ofNat 1)])), some (0, (.ofNat 0, [(1, .ofNat 1)])), some (0, (.ofNat 0, [(2, .ofNat 1)])), none, none, none, none], [], [(63, 9, (2, (.ofNat 72, []))), (63, 10, (2, (.ofNat 73, []))), (63, 11, (2, (.ofNat 74, []))), (63, 12, (2, (.ofNat 75, [])))], []), (.ofNat 200, [(2, .negSucc 0)]), (.ofNat 0, []), (.ofNat 0, []))]
theorem kk_12_0 : ychk zTt zProg zTG zTTy zTX zGd zXf zCT 4000 12 kt_12_0 ku_12_0 = true := by decide +kernel
def ku_13_0 : List yCu := [(9, ([(0, 4, 0), (0, 6, 0), (0, 8, 0)], [(0, .negSucc 9223372036854775807, .ofNat 9223372036854775807, 0), (1, .negSucc 9223372036854775807, .ofNat 9223372036854775807, 0), (2, .negSucc 9223372036854775807, .ofNat 9223372036854775807, 0), (3, .negSucc 9223372036854775807, .ofNat 9223372036854775807, 0), (4, .ofNat 0, .ofNat 200, 0)], [], [some (1, (.ofNat 0, [(0, .ofNat 1)])), none, some (1, (.ofNat 0, [(1, .ofNat 1)])), none, some (1, (.ofNat 0, [(2, .ofNat 1)])), none, some (1, (.ofNat 0, [(3, .ofNat 1)])), none, some (0, (.ofNat 0, [(4, .ofNat 1)])), none, none], [], [], []), (.ofNat 200, [(4, .negSucc 0)]), (.ofNat 0, []), (.ofNat 0, []))]
theorem kk_13_0 : ychk zTt zProg zTG zTTy zTX zGd zXf zCT 4000 13 kt_13_0 ku_13_0 = true := by decide +kernel
def ku_11_0 : List yCu := [(21, ([(0, 4, 0), (0, 6, 0), (0, 8, 0), (0, 10, 0), (0, 12, 0)], [(0, .ofNat 0, .ofNat 7, 0), (1, .ofNat 0, .ofNat 599, 0), (2, .ofNat 0, .ofNat 3, 0), (3, .negSucc 9223372036854775807, .ofNat 9223372036854775807, 0), (4, .negSucc 9223372036854775807, .ofNat 9223372036854775807, 0), (5, .negSucc 9223372036854775807, .ofNat 9223372036854775807, 0), (6, .negSucc 9223372036854775807, .ofNat 9223372036854775807, 0), (7, .ofNat 0, .ofNat 9, 0)], [], [some (2, (.ofNat 63, [])), some (0, (.ofNat 0, [(0, .ofNat 1)])), some (0, (.ofNat 0, [(1, .ofNat 1)])), some (0, (.ofNat 0, [(2, .ofNat 1)])), some (1, (.ofNat 0, [(3, .ofNat 1)])), none, some (1, (.ofNat 0, [(4, .ofNat 1)])), none, some (1, (.ofNat 0, [(5, .ofNat 1)])), none, some (1, (.ofNat 0, [(6, .ofNat 1)])), none, some (0, (.ofNat 0, [(7, .ofNat 1)])), none, none, none, none], [], [], []), (.ofNat 9, [(7, .negSucc 0)]), (.ofNat 0, []), (.ofNat 0, []))]
theorem kk_11_0 : ychk zTt zProg zTG zTTy zTX zGd zXf zCT 4000 11 kt_11_0 ku_11_0 = true := by decide +kernel
def ku_18_0 : List yCu := [(5, ([(0, 2, 0), (0, 4, 0)], [(0, .ofNat 0, .ofNat 3, 0), (1, .negSucc 9223372036854775807, .ofNat 9223372036854775807, 0), (2, .ofNat 0, .ofNat 60, 0)], [], [some (2, (.ofNat 36, [])), some (0, (.ofNat 0, [(0, .ofNat 1)])), some (1, (.ofNat 0, [(1, .ofNat 1)])), none, some (0, (.ofNat 0, [(2, .ofNat 1)]))], [], [], []), (.ofNat 60, [(2, .negSucc 0)]), (.ofNat 0, []), (.ofNat 0, []))]
theorem kk_18_0 : ychk zTt zProg zTG zTTy zTX zGd zXf zCT 4000 18 kt_18_0 ku_18_0 = true := by decide +kernel
def ku_22_0 : List yCu := [(8, ([(0, 4, 0), (1, 36, 9)], [(0, .ofNat 0, .ofNat 299, 0), (1, .ofNat 0, .ofNat 599, 0), (2, .ofNat 0, .ofNat 599, 0), (3, .negSucc 0, .ofNat 399, 0), (4, .ofNat 0, .ofNat 400, 0)], [], [some (2, (.ofNat 36, [])), some (0, (.ofNat 0, [(0, .ofNat 1)])), some (0, (.ofNat 0, [(1, .ofNat 1)])), some (0, (.ofNat 0, [(2, .ofNat 1)])), some (0, (.ofNat 0, [(3, .ofNat 1)]))], [], [(36, 9, (0, (.ofNat 0, [(4, .ofNat 1)])))], []), (.ofNat 1, [(3, .ofNat 1)]), (.ofNat 0, []), (.ofNat 0, []))]
theorem kk_22_0 : ychk zTt zProg zTG zTTy zTX zGd zXf zCT 4000 22 kt_22_0 ku_22_0 = true := by decide +kernel
def ku_23_0 : List yCu := [(7, ([(0, 3, 0)], [(0, .ofNat 0, .ofNat 7, 0), (1, .ofNat 0, .ofNat 300, 0)], [], [some (2, (.ofNat 36, [])), some (0, (.ofNat 0, [(0, .ofNat 1)])), some (2, (.ofNat 107, [])), some (0, (.ofNat 0, [(1, .ofNat 1)])), none], [], [], []), (.ofNat 300, [(1, .negSucc 0)]), (.ofNat 0, []), (.ofNat 0, []))]
theorem kk_23_0 : ychk zTt zProg zTG zTTy zTX zGd zXf zCT 4000 23 kt_23_0 ku_23_0 = true := by decide +kernel
def ku_32_0 : List yCu := [(5, ([(0, 3, 0), (0, 4, 0)], [(0, .ofNat 0, .ofNat 7, 0), (1, .ofNat 0, .ofNat 599, 0), (2, .negSucc 2147483647, .ofNat 2147483647, 0), (3, .ofNat 0, .ofNat 12, 0)], [], [some (2, (.ofNat 1, [])), some (0, (.ofNat 0, [(0, .ofNat 1)])), some (0, (.ofNat 0, [(1, .ofNat 1)])), some (0, (.ofNat 0, [(2, .ofNat 1)])), some (0, (.ofNat 0, [(3, .ofNat 1)]))], [], [], []), (.ofNat 12, [(3, .negSucc 0)]), (.ofNat 0, []), (.ofNat 0, []))]
theorem kk_32_0 : ychk zTt zProg zTG zTTy zTX zGd zXf zCT 4000 32 kt_32_0 ku_32_0 = true := by decide +kernel
def ku_34_0 : List yCu := [(13, ([(0, 5, 0), (0, 6, 0)], [(0, .ofNat 0, .ofNat 7, 0), (1, .negSucc 2147483647, .ofNat 2147483647, 0), (2, .ofNat 0, .ofNat 2, 0), (3, .ofNat 0, .ofNat 200, 0), (4, .negSucc 2147483647, .ofNat 2147483647, 0), (5, .ofNat 0, .ofNat 12, 0)], [], [some (2, (.ofNat 1, [])), some (0, (.ofNat 0, [(0, .ofNat 1)])), some (0, (.ofNat 0, [(1, .ofNat 1)])), some (0, (.ofNat 0, [(2, .ofNat 1)])), some (0, (.ofNat 0, [(3, .ofNat 1)])), some (0, (.ofNat 0, [(4, .ofNat 1)])), some (0, (.ofNat 0, [(5, .ofNat 1)]))], [], [(1, 2, (2, (.ofNat 4, [])))], []), (.ofNat 12, [(5, .negSucc 0)]), (.ofNat 0, []), (.ofNat 0, []))]
theorem kk_34_0 : ychk zTt zProg zTG zTTy zTX zGd zXf zCT 4000 34 kt_34_0 ku_34_0 = true := by decide +kernel
def ku_35_0 : List yCu := [(6, ([(0, 5, 0), (0, 6, 0)], [(0, .ofNat 0, .ofNat 7, 0), (1, .negSucc 2147483647, .ofNat 2147483647, 0), (2, .ofNat 0, .ofNat 2, 0), (3, .ofNat 0, .ofNat 200, 0), (4, .negSucc 0, .ofNat 9999, 0), (5, .ofNat 0, .ofNat 12, 0)], [], [some (2, (.ofNat 1, [])), some (0, (.ofNat 0, [(0, .ofNat 1)])), some (0, (.ofNat 0, [(1, .ofNat 1)])), some (0, (.ofNat 0, [(2, .ofNat 1)])), some (0, (.ofNat 0, [(3, .ofNat 1)])), some (0, (.ofNat 0, [(4, .ofNat 1)])), some (0, (.ofNat 0, [(5, .ofNat 1)])), none], [], [], []), (.ofNat 12, [(5, .negSucc 0)]), (.ofNat 0, []), (.ofNat 0, []))]
theorem kk_35_0 : ychk zTt zProg zTG zTTy zTX zGd zXf zCT 4000 35 kt_35_0 ku_35_0 = true := by decide +kernel
def ku_42_0 : List yCu := [(6, ([(0, 4, 0), (0, 6, 0)], [(0, .ofNat 0, .ofNat 19, 0), (1, .ofNat 0, .ofNat 19, 0), (2, .ofNat 0, .ofNat 63, 0), (3, .negSucc 9223372036854775807, .ofNat 9223372036854775807, 0), (4, .ofNat 0, .ofNat 6, 0)], [], [some (2, (.ofNat 76, [])), some (0, (.ofNat 0, [(0, .ofNat 1)])), some (0, (.ofNat 0, [(1, .ofNat 1)])), some (0, (.ofNat 0, [(2, .ofNat 1)])), some (1, (.ofNat 0, [(3, .ofNat 1)])), none, some (0, (.ofNat 0, [(4, .ofNat 1)])), none, none, none, none], [], [], []), (.ofNat 6, [(4, .negSucc 0)]), (.ofNat 0, []), (.ofNat 0, []))]
theorem kk_42_0 : ychk zTt zProg zTG zTTy zTX zGd zXf zCT 4000 42 kt_42_0 ku_42_0 = true := by decide +kernel
def ku_48_0 : List yCu := [(5, ([(0, 3, 0), (0, 4, 0)], [(0, .ofNat 0, .ofNat 23, 0), (1, .ofNat 87, .ofNat 88, 63), (2, .ofNat 0, .ofNat 2147483647, 0), (3, .ofNat 0, .ofNat 24, 0)], [], [some (2, (.ofNat 81, [])), some (0, (.ofNat 0, [(0, .ofNat 1)])), some (2, (.ofNat 0, [(1, .ofNat 1)])), some (0, (.ofNat 0, [(2, .ofNat 1)])), some (0, (.ofNat 0, [(3, .ofNat 1)]))], [], [], []), (.ofNat 24, [(3, .negSucc 0)]), (.ofNat 0, []), (.ofNat 0, []))]
theorem kk_48_0 : ychk zTt zProg zTG zTTy zTX zGd zXf zCT 4000 48 kt_48_0 ku_48_0 = true := by decide +kernel
def ku_50_0 : List yCu := [(2, ([(0, 2, 0)], [(0, .ofNat 0, .ofNat 3, 0), (1, .ofNat 0, .ofNat 24, 0)], [], [some (2, (.ofNat 81, [])), some (0, (.ofNat 0, [(0, .ofNat 1)])), some (0, (.ofNat 0, [(1, .ofNat 1)]))], [], [], []), (.ofNat 24, [(1, .negSucc 0)]), (.ofNat 0, []), (.ofNat 0, []))]
theorem kk_50_0 : ychk zTt zProg zTG zTTy zTX zGd zXf zCT 4000 50 kt_50_0 ku_50_0 = true := by decide +kernel
def ku_281_2 : List yCu := [(5, ([(0, 2, 0)], [(0, .ofNat 0, .ofNat 24, 0)], [], [some (2, (.ofNat 88, [])), some (0, (.negSucc 0, [])), some (0, (.ofNat 0, [(0, .ofNat 1)])), some (0, (.ofNat 24, []))], [], [], []), (.ofNat 24, [(0, .negSucc 0)]), (.ofNat 0, []), (.ofNat 0, []))]
theorem kk_281_2 : ychk zTt zProg zTG zTTy zTX zGd zXf zCT 4000 281 kt_281_2 ku_281_2 = true := by decide +kernel
def ku_51_0 : List yCu := [(33, ([(0, 2, 0), (0, 4, 0), (1, 81, 7)], [(0, .ofNat 0, .ofNat 23, 0), (1, .negSucc 0, .ofNat 23, 0), (2, .negSucc 0, .ofNat 23, 0), (3, .ofNat 0, .ofNat 24, 0)], [], [some (2, (.ofNat 81, [])), some (0, (.ofNat 0, [(0, .ofNat 1)])), some (0, (.ofNat 0, [(1, .ofNat 1)])), some (2, (.ofNat 88, [])), some (0, (.ofNat 0, [(2, .ofNat 1)])), none, none], [], [(81, 6, (2, (.ofNat 88, []))), (81, 7, (0, (.ofNat 0, [(3, .ofNat 1)])))], []), (.ofNat 51, [(2, .ofNat 26)]), (.ofNat 0, []), (.ofNat 0, [])), (56, ([(0, 2, 0), (0, 4, 0), (0, 5, 0), (0, 6, 0), (1, 81, 7)], [(0, .ofNat 0, .ofNat 22, 0), (1, .negSucc 0, .ofNat 23, 0), (2, .ofNat 1, .ofNat 23, 0), (3, .negSucc 2147483647, .ofNat 2147483647, 0), (4, .ofNat 0, .ofNat 24, 0), (5, .ofNat 0, .ofNat 24, 0)], [(.ofNat 1, [(0, .ofNat 1), (2, .negSucc 0)])], [some (2, (.ofNat 81, [])), some (0, (.ofNat 0, [(0, .ofNat 1)])), some (0, (.ofNat 0, [(1, .ofNat 1)])), some (2, (.ofNat 88, [])), some (0, (.ofNat 0, [(2, .ofNat 1)])), some (0, (.ofNat 0, [(3, .ofNat 1)])), some (0, (.ofNat 0, [(4, .ofNat 1)]))], [], [(81, 0, (2, (.ofNat 82, []))), (81, 6, (2, (.ofNat 88, []))), (81, 7, (0, (.ofNat 0, [(5, .ofNat 1)])))], []), (.ofNat 50, [(2, .ofNat 26), (4, .negSucc 0)]), (.ofNat 0, []), (.ofNat 0, []))]
theorem kk_51_0 : ychk zTt zProg zTG zTTy zTX zGd zXf zCT 4000 51 kt_51_0 ku_51_0 = true := by decide +kernel
def ku_53_0 : List yCu := [(4, ([(0, 3, 0)], [(0, .ofNat 0, .ofNat 23, 0), (1, .ofNat 0, .ofNat 2147483647, 0), (2, .negSucc 0, .ofNat 599, 0)], [], [some (2, (.ofNat 81, [])), some (0, (.ofNat 0, [(0, .ofNat 1)])), some (0, (.ofNat 0, [(1, .ofNat 1)])), some (0, (.ofNat 0, [(2, .ofNat 1)]))], [], [], []), (.ofNat 1, [(2, .ofNat 1)]), (.ofNat 0, []), (.ofNat 0, []))]
theorem kk_53_0 : ychk zTt zProg zTG zTTy zTX zGd zXf zCT 4000 53 kt_53_0 ku_53_0 = true := by decide +kernel
def ku_59_0 : List yCu := [(5, ([(0, 3, 0), (0, 4, 0)], [(0, .ofNat 0, .ofNat 19, 0), (1, .negSucc 2147483647, .ofNat 2147483647, 0), (2, .ofNat 0, .ofNat 300, 0)], [], [some (2, (.ofNat 89, [])), some (0, (.ofNat 0, [(0, .ofNat 1)])), some (2, (.ofNat 36, [])), some (0, (.ofNat 0, [(1, .ofNat 1)])), some (0, (.ofNat 0, [(2, .ofNat 1)])), none], [], [], []), (.ofNat 300, [(2, .negSucc 0)]), (.ofNat 0, []), (.ofNat 0, []))]
theorem kk_59_0 : ychk zTt zProg zTG zTTy zTX zGd zXf zCT 4000 59 kt_59_0 ku_59_0 = true := by decide +kernel
def ku_60_0 : List yCu := [(5, ([(0, 3, 0), (0, 4, 0)], [(0, .ofNat 0, .ofNat 19, 0), (1, .negSucc 2147483647, .ofNat 2147483647, 0), (2, .ofNat 0, .ofNat 300, 0)], [], [some (2, (.ofNat 89, [])), some (0, (.ofNat 0, [(0, .ofNat 1)])), some (2, (.ofNat 36, [])), some (0, (.ofNat 0, [(1, .ofNat 1)])), some (0, (.ofNat 0, [(2, .ofNat 1)]))], [], [], []), (.ofNat 300, [(2, .negSucc 0)]), (.ofNat 0, []), (.ofNat 0, []))]
theorem kk_60_0 : ychk zTt zProg zTG zTTy zTX zGd zXf zCT 4000 60 kt_60_0 ku_60_0 = true := by decide +kernel
def ku_61_0 : List yCu := [(6, ([(0, 4, 0), (0, 5, 0)], [(0, .ofNat 0, .ofNat 19, 0), (1, .negSucc 2147483647, .ofNat 2147483647, 0), (2, .negSucc 2147483647, .ofNat 2147483647, 0), (3, .ofNat 0, .ofNat 300, 0)], [], [some (2, (.ofNat 89, [])), some (0, (.ofNat 0, [(0, .ofNat 1)])), some (0, (.ofNat 0, [(1, .ofNat 1)])), some (2, (.ofNat 36, [])), some (0, (.ofNat 0, [(2, .ofNat 1)])), some (0, (.ofNat 0, [(3, .ofNat 1)]))], [], [], []), (.ofNat 300, [(3, .negSucc 0)]), (.ofNat 0, []), (.ofNat 0, []))]
theorem kk_61_0 : ychk zTt zProg zTG zTTy zTX zGd zXf zCT 4000 61 kt_61_0 ku_61_0 = true := by decide +kernel
def ku_65_0 : List yCu := [(4, ([(0, 2, 0), (0, 3, 0)], [(0, .ofNat 0, .ofNat 599, 0), (1, .negSucc 0, .ofNat 9, 0), (2, .ofNat 0, .ofNat 10, 0)], [], [some (2, (.ofNat 48, [])), some (0, (.ofNat 0, [(0, .ofNat 1)])), some (0, (.ofNat 0, [(1, .ofNat 1)])), some (0, (.ofNat 0, [(2, .ofNat 1)]))], [], [], []), (.ofNat 10, [(2, .negSucc 0)]), (.ofNat 0, []), (.ofNat 0, []))]
theorem kk_65_0 : ychk zTt zProg zTG zTTy zTX zGd zXf zCT 4000 65 kt_65_0 ku_65_0 = true := by decide +kernel
def ku_68_0 : List yCu := [(6, ([(0, 4, 0), (0, 5, 0)], [(0, .ofNat 0, .ofNat 10000000, 152), (1, .ofNat 0, .ofNat 400, 0), (2, .ofNat 0, .ofNat 400, 0), (3, .ofNat 0, .ofNat 80, 0), (4, .ofNat 0, .ofNat 400, 0)], [], [some (2, (.ofNat 48, [])), some (2, (.ofNat 0, [(0, .ofNat 1)])), some (0, (.ofNat 0, [(1, .ofNat 1)])), some (0, (.ofNat 0, [(2, .ofNat 1)])), some (0, (.ofNat 0, [(3, .ofNat 1)])), some (0, (.ofNat 0, [(4, .ofNat 1)])), none], [], [], []), (.ofNat 400, [(4, .negSucc 0)]), (.ofNat 0, []), (.ofNat 0, []))]
theorem kk_68_0 : ychk zTt zProg zTG zTTy zTX zGd zXf zCT 4000 68 kt_68_0 ku_68_0 = true := by decide +kernel
def ku_66_0 : List yCu := [(24, ([(0, 3, 0), (0, 4, 0), (1, 48, 3)], [(0, .ofNat 0, .ofNat 9, 0), (1, .ofNat 0, .ofNat 15, 0), (2, .ofNat 0, .ofNat 10000000, 153), (3, .ofNat 0, .ofNat 60, 0), (4, .ofNat 1, .ofNat 10, 0)], [(.ofNat 1, [(0, .ofNat 1), (4, .negSucc 0)])], [some (2, (.ofNat 48, [])), some (0, (.ofNat 0, [(0, .ofNat 1)])), some (0, (.ofNat 0, [(1, .ofNat 1)])), some (2, (.ofNat 0, [(2, .ofNat 1)])), some (0, (.ofNat 0, [(3, .ofNat 1)])), none], [], [(48, 2, (2, (.ofNat 51, []))), (48, 3, (0, (.ofNat 0, [(4, .ofNat 1)])))], [((55, (.ofNat 0, [(0, .ofNat 1)])), (.ofNat 0, [(2, .ofNat 1)]))]), (.ofNat 60, [(3, .negSucc 0)]), (.ofNat 0, []), (.ofNat 0, []))]
theorem kk_66_0 : ychk zTt zProg zTG zTTy zTX zGd zXf zCT 4000 66 kt_66_0 ku_66_0 = true := by decide +kernel
def ku_73_0 : List yCu := [(3, ([(0, 2, 0)], [(0, .negSucc 2147483647, .ofNat 2147483647, 0), (1, .negSucc 2147483647, .ofNat 24, 0)], [], [some (2, (.ofNat 44, [])), some (0, (.ofNat 0, [(0, .ofNat 1)])), some (0, (.ofNat 0, [(1, .ofNat 1)]))], [], [], []), (.ofNat 2147483648, [(1, .ofNat 1)]), (.ofNat 0, []), (.ofNat 0, []))]
theorem kk_73_0 : ychk zTt zProg zTG zTTy zTX zGd zXf zCT 4000 73 kt_73_0 ku_73_0 = true := by decide +kernel
def ku_90_0 : List yCu := [(0, ([(1, 44, 1), (1, 44, 2)], [(0, .ofNat 1, .ofNat 400, 0), (1, .ofNat 1, .ofNat 400, 0)], [(.ofNat 0, [(0, .negSucc 0), (1, .ofNat 1)])], [some (2, (.ofNat 44, []))], [], [(44, 0, (2, (.ofNat 45, []))), (44, 1, (0, (.ofNat 0, [(0, .ofNat 1)]))), (44, 2, (0, (.ofNat 0, [(1, .ofNat 1)])))], []), (.ofNat 400, [(1, .negSucc 0)]), (.ofNat 0, []), (.ofNat 0, []))]
theorem kk_90_0 : ychk zTt zProg zTG zTTy zTX zGd zXf zCT 4000 90 kt_90_0 ku_90_0 = true := by decide +kernel
def ku_89_0 : List yCu := [(13, ([(0, 2, 0), (0, 3, 0), (0, 4, 0), (1, 44, 1), (1, 44, 2)], [(0, .ofNat 2, .ofNat 99999, 0), (1, .negSucc 0, .ofNat 255, 0), (2, .ofNat 0, .ofNat 400, 0), (3, .ofNat 0, .ofNat 100000, 0), (4, .ofNat 0, .ofNat 400, 0), (5, .ofNat 0, .ofNat 400, 0)], [], [some (2, (.ofNat 44, [])), some (0, (.ofNat 0, [(0, .ofNat 1)])), some (0, (.ofNat 0, [(1, .ofNat 1)])), some (0, (.ofNat 0, [(2, .ofNat 1)])), some (0, (.ofNat 0, [(3, .ofNat 1)]))], [], [(44, 1, (0, (.ofNat 0, [(4, .ofNat 1)]))), (44, 2, (0, (.ofNat 0, [(5, .ofNat 1)])))], []), (.ofNat 400, [(2, .negSucc 0)]), (.ofNat 0, []), (.ofNat 0, []))]
theorem kk_89_0 : ychk zTt zProg zTG zTTy zTX zGd zXf zCT 4000 89 kt_89_0 ku_89_0 = true := by decide +kernel
def ku_91_0 : List yCu := [(13, ([(1, 44, 1), (1, 44, 2), (1, 44, 3)], [(0, .ofNat 0, .ofNat 400, 0), (1, .ofNat 0, .ofNat 400, 0), (2, .ofNat 0, .ofNat 400, 0)], [], [some (2, (.ofNat 44, [])), none, none, none, none, none], [], [(44, 1, (0, (.ofNat 0, [(0, .ofNat 1)]))), (44, 2, (0, (.ofNat 0, [(1, .ofNat 1)]))), (44, 3, (0, (.ofNat 0, [(2, .ofNat 1)])))], []), (.ofNat 521, [(2, .negSucc 0)]), (.ofNat 0, []), (.ofNat 0, [])), (77, ([(0, 1, 0), (0, 2, 0), (0, 3, 0), (0, 4, 0), (1, 44, 1), (1, 44, 2), (1, 44, 3)], [(0, .ofNat 0, .ofNat 120, 0), (1, .ofNat 0, .ofNat 513, 0), (2, .ofNat 0, .ofNat 1, 0), (3, .ofNat 0, .ofNat 120, 0), (4, .ofNat 0, .ofNat 400, 0), (5, .ofNat 0, .ofNat 400, 0), (6, .ofNat 0, .ofNat 400, 0)], [(.negSucc 399, [(1, .ofNat 1), (3, .negSucc 0)]), (.ofNat 0, [(0, .ofNat 1), (3, .negSucc 0)])], [some (2, (.ofNat 44, [])), some (0, (.ofNat 0, [(0, .ofNat 1)])), some (0, (.ofNat 0, [(1, .ofNat 1)])), some (0, (.ofNat 0, [(2, .ofNat 1)])), some (0, (.ofNat 0, [(3, .ofNat 1)])), none], [], [(44, 1, (0, (.ofNat 0, [(4, .ofNat 1)]))), (44, 2, (0, (.ofNat 0, [(5, .ofNat 1)]))), (44, 3, (0, (.ofNat 0, [(6, .ofNat 1)])))], []), (.ofNat 120, [(3, .negSucc 0)]), (.ofNat 0, []), (.ofNat 0, []))]
theorem kk_91_0 : ychk zTt zProg zTG zTTy zTX zGd zXf zCT 4000 91 kt_91_0 ku_91_0 = true := by decide +kernel
def ku_85_0 : List yCu := []
theorem kk_85_0 : ychk zTt zProg zTG zTTy zTX zGd zXf zCT 4000 85 kt_85_0 ku_85_0 = true := by decide +kernel
def ku_84_0 : List yCu := [(12, ([(0, 2, 0)], [(0, .ofNat 0, .ofNat 10, 0), (1, .ofNat 0, .ofNat 400, 0)], [], [some (2, (.ofNat 44, [])), some (0, (.ofNat 0, [(0, .ofNat 1)])), some (0, (.ofNat 0, [(1, .ofNat 1)]))], [], [], []), (.ofNat 400, [(1, .negSucc 0)]), (.ofNat 0, []), (.ofNat 0, []))]
theorem kk_84_0 : ychk zTt zProg zTG zTTy zTX zGd zXf zCT 4000 84 kt_84_0 ku_84_0 = true := by decide +kernel
def ku_83_0 : List yCu := [(12, ([(0, 2, 0)], [(0, .ofNat 0, .ofNat 10, 0), (1, .ofNat 0, .ofNat 400, 0)], [], [some (2, (.ofNat 44, [])), some (0, (.ofNat 0, [(0, .ofNat 1)])), some (0, (.ofNat 0, [(1, .ofNat 1)])), none], [], [], []), (.ofNat 400, [(1, .negSucc 0)]), (.ofNat 0, []), (.ofNat 0, []))]
theorem kk_83_0 : ychk zTt zProg zTG zTTy zTX zGd zXf zCT 4000 83 kt_83_0 ku_83_0 = true := by decide +kernel
def ku_81_0 : List yCu := []
theorem kk_81_0 : ychk zTt zProg zTG zTTy zTX zGd zXf zCT 4000 81 kt_81_0 ku_81_0 = true := by decide +kernel
def ku_80_0 : List yCu := []
theorem kk_80_0 : ychk zTt zProg zTG zTTy zTX zGd zXf zCT 4000 80 kt_80_0 ku_80_0 = true := by decide +kernel
def ku_79_0 : List yCu := [(12, ([(0, 2, 0)], [(0, .ofNat 0, .ofNat 10, 0), (1, .ofNat 0, .ofNat 400, 0)], [], [some (2, (.ofNat 44, [])), some (0, (.ofNat 0, [(0, .ofNat 1)])), some (0, (.ofNat 0, [(1, .ofNat 1)]))], [], [], []), (.ofNat 400, [(1, .negSucc 0)]), (.ofNat 0, []), (.ofNat 0, []))]
theorem kk_79_0 : ychk zTt zProg zTG zTTy zTX zGd zXf zCT 4000 79 kt_79_0 ku_79_0 = true := by decide +kernel
def ku_78_0 : List yCu := [(12, ([(0, 2, 0)], [(0, .ofNat 0, .ofNat 10, 0), (1, .ofNat 0, .ofNat 400, 0)], [], [some (2, (.ofNat 44, [])), some (0, (.ofNat 0, [(0, .ofNat 1)])), some (0, (.ofNat 0, [(1, .ofNat 1)]))], [], [], []), (.ofNat 400, [(1, .negSucc 0)]), (.ofNat 0, []), (.ofNat 0, []))]
theorem kk_78_0 : ychk zTt zProg zTG zTTy zTX zGd zXf zCT 4000 78 kt_78_0 ku_78_0 = true := by decide +kernel
def ku_75_0 : List yCu := [(27, ([(0, 1, 0), (1, 44, 2), (1, 44, 7)], [(0, .ofNat 0, .ofNat 20, 0), (1, .ofNat 0, .ofNat 400, 0), (2, .ofNat 0, .ofNat 12, 0)], [], [some (2, (.ofNat 44, [])), some (0, (.ofNat 0, [(0, .ofNat 1)]))], [], [(44, 2, (0, (.ofNat 0, [(1, .ofNat 1)]))), (44, 7, (0, (.ofNat 0, [(2, .ofNat 1)])))], []), (.ofNat 20, [(0, .negSucc 0)]), (.ofNat 0, []), (.ofNat 0, []))]
theorem kk_75_0 : ychk zTt zProg zTG zTTy zTX zGd zXf zCT 4000 75 kt_75_0 ku_75_0 = true := by decide +kernel
def ku_99_0 : List yCu := [(4, ([(0, 2, 0), (0, 3, 0)], [(0, .ofNat 1, .ofNat 2147483646, 0), (1, .negSucc 2147483647, .ofNat 2147483647, 0), (2, .ofNat 0, .ofNat 9, 0)], [], [some (2, (.ofNat 94, [])), some (0, (.ofNat 0, [(0, .ofNat 1)])), some (0, (.ofNat 0, [(1, .ofNat 1)])), some (0, (.ofNat 0, [(2, .ofNat 1)]))], [], [], []), (.ofNat 9, [(2, .negSucc 0)]), (.ofNat 0, []), (.ofNat 0, []))]
theorem kk_99_0 : ychk zTt zProg zTG zTTy zTX zGd zXf zCT 4000 99 kt_99_0 ku_99_0 = true := by decide +kernel
def ku_100_0 : List yCu := [(4, ([(0, 2, 0), (0, 3, 0)], [(0, .ofNat 1, .ofNat 2147483646, 0), (1, .negSucc 2147483647, .ofNat 2147483647, 0), (2, .ofNat 0, .ofNat 9, 0)], [], [some (2, (.ofNat 94, [])), some (0, (.ofNat 0, [(0, .ofNat 1)])), some (0, (.ofNat 0, [(1, .ofNat 1)])), some (0, (.ofNat 0, [(2, .ofNat 1)])), none], [], [], []), (.ofNat 99, [(2, .negSucc 9)]), (.ofNat 0, []), (.ofNat 0, [])), (33, ([(0, 2, 0), (0, 3, 0), (0, 4, 0), (1, 94, 3)], [(0, .ofNat 1, .ofNat 2147483646, 0), (1, .negSucc 2147483647, .ofNat 2147483647, 0), (2, .ofNat 0, .ofNat 8, 0), (3, .ofNat 0, .ofNat 8, 0), (4, .ofNat 1, .ofNat 9, 0)], [(.ofNat 1, [(2, .ofNat 1), (4, .negSucc 0)])], [some (2, (.ofNat 94, [])), some (0, (.ofNat 0, [(0, .ofNat 1)])), some (0, (.ofNat 0, [(1, .ofNat 1)])), some (0, (.ofNat 0, [(2, .ofNat 1)])), some (0, (.ofNat 0, [(3, .ofNat 1)]))], [], [(94, 1, (2, (.ofNat 96, []))), (94, 3, (0, (.ofNat 0, [(4, .ofNat 1)])))], []), (.ofNat 98, [(2, .negSucc 9), (3, .negSucc 0)]), (.ofNat 0, []), (.ofNat 0, []))]
theorem kk_100_0 : ychk zTt zProg zTG zTTy zTX zGd zXf zCT 4000 100 kt_100_0 ku_100_0 = true := by decide +kernel
def ku_98_0 : List yCu := [(14, ([(0, 2, 0), (0, 3, 0), (1, 94, 4), (1, 94, 5)], [(0, .ofNat 0, .ofNat 999999, 0), (1, .ofNat 0, .ofNat 2147483647, 0), (2, .ofNat 1, .ofNat 2147483647, 0), (3, .ofNat 0, .ofNat 2147483646, 0), (4, .negSucc 2147483647, .ofNat 999999, 0)], [], [some (2, (.ofNat 94, [])), some (0, (.ofNat 0, [(0, .ofNat 1)])), some (0, (.ofNat 0, [(1, .ofNat 1)])), some (0, (.ofNat 0, [(2, .ofNat 1)])), none, none], [], [(94, 4, (0, (.ofNat 0, [(3, .ofNat 1)]))), (94, 5, (0, (.ofNat 0, [(4, .ofNat 1)])))], []), (.ofNat 2147483647, [(2, .negSucc 0)]), (.ofNat 0, []), (.ofNat 0, []))]
theorem kk_98_0 : ychk zTt zProg zTG zTTy zTX zGd zXf zCT 4000 98 kt_98_0 ku_98_0 = true := by decide +kernel
def ku_106_0 : List yCu := [(6, ([(0, 5, 0), (0, 6, 0)], [(0, .ofNat 0, .ofNat 59, 0), (1, .ofNat 0, .ofNat 7, 0), (2, .ofNat 0, .ofNat 2, 0), (3, .ofNat 0, .ofNat 599, 0), (4, .negSucc 0, .ofNat 200, 0), (5, .ofNat 0, .ofNat 600, 0)], [], [some (2, (.ofNat 54, [])), some (0, (.ofNat 0, [(0, .ofNat 1)])), some (0, (.ofNat 0, [(1, .ofNat 1)])), some (0, (.ofNat 0, [(2, .ofNat 1)])), some (0, (.ofNat 0, [(3, .ofNat 1)])), some (0, (.ofNat 0, [(4, .ofNat 1)])), some (0, (.ofNat 0, [(5, .ofNat 1)])), none], [], [], []), (.ofNat 600, [(5, .negSucc 0)]), (.ofNat 0, []), (.ofNat 0, []))]
theorem kk_106_0 : ychk zTt zProg zTG zTTy zTX zGd zXf zCT 4000 106 kt_106_0 ku_106_0 = true := by decide +kernel
def ku_107_0 : List yCu := [(6, ([(0, 5, 0), (0, 6, 0)], [(0, .ofNat 0, .ofNat 59, 0), (1, .ofNat 0, .ofNat 7, 0), (2, .ofNat 0, .ofNat 2, 0), (3, .ofNat 0, .ofNat 599, 0), (4, .negSucc 0, .ofNat 200, 0), (5, .ofNat 0, .ofNat 600, 0)], [], [some (2, (.ofNat 54, [])), some (0, (.ofNat 0, [(0, .ofNat 1)])), some (0, (.ofNat 0, [(1, .ofNat 1)])), some (0, (.ofNat 0, [(2, .ofNat 1)])), some (0, (.ofNat 0, [(3, .ofNat 1)])), some (0, (.ofNat 0, [(4, .ofNat 1)])), some (0, (.ofNat 0, [(5, .ofNat 1)])), none], [], [], []), (.ofNat 600, [(5, .negSucc 0)]), (.ofNat 0, []), (.ofNat 0, []))]
theorem kk_107_0 : ychk zTt zProg zTG zTTy zTX zGd zXf zCT 4000 107 kt_107_0 ku_107_0 = true := by decide +kernel
def ku_281_5 : List yCu := [(5, ([(0, 2, 0)], [(0, .ofNat 0, .ofNat 600, 0)], [], [some (2, (.ofNat 110, [])), some (0, (.ofNat 201, [])), some (0, (.ofNat 0, [(0, .ofNat 1)])), some (0, (.ofNat 600, []))], [], [], []), (.ofNat 600, [(0, .negSucc 0)]), (.ofNat 0, []), (.ofNat 0, []))]
theorem kk_281_5 : ychk zTt zProg zTG zTTy zTX zGd zXf zCT 4000 281 kt_281_5 ku_281_5 = true := by decide +kernel
def ku_108_0 : List yCu := [(11, ([(0, 6, 0)], [(0, .negSucc 9223372036854775807, .ofNat 9223372036854775807, 0), (1, .ofNat 0, .ofNat 7, 0), (2, .ofNat 0, .ofNat 2, 0), (3, .ofNat 0, .ofNat 600, 0)], [], [some (2, (.ofNat 54, [])), some (1, (.ofNat 0, [(0, .ofNat 1)])), none, some (0, (.ofNat 0, [(1, .ofNat 1)])), some (0, (.ofNat 0, [(2, .ofNat 1)])), some (2, (.ofNat 110, [])), some (0, (.ofNat 0, [(3, .ofNat 1)])), none, none], [], [], []), (.ofNat 1200, [(3, .negSucc 0)]), (.ofNat 0, []), (.ofNat 0, [])), (105, ([(0, 6, 0), (1, 54, 9)], [(0, .negSucc 9223372036854775807, .ofNat 9223372036854775807, 0), (1, .ofNat 0, .ofNat 7, 0), (2, .ofNat 0, .ofNat 2, 0), (3, .ofNat 1, .ofNat 600, 0), (4, .ofNat 0, .ofNat 600, 0)], [], [some (2, (.ofNat 54, [])), some (1, (.ofNat 0, [(0, .ofNat 1)])), none, some (0, (.ofNat 0, [(1, .ofNat 1)])), some (0, (.ofNat 0, [(2, .ofNat 1)])), some (2, (.ofNat 110, [])), some (0, (.ofNat 0, [(3, .ofNat 1)])), none, none], [], [(54, 9, (0, (.ofNat 0, [(4, .ofNat 1)])))], []), (.ofNat 600, [(3, .negSucc 0)]), (.ofNat 0, []), (.ofNat 0, []))]
theorem kk_108_0 : ychk zTt zProg zTG zTTy zTX zGd zXf zCT 4000 108 kt_108_0 ku_108_0 = true := by decide +kernel
def ku_110_0 : List yCu := []
theorem kk_110_0 : ychk zTt zProg zTG zTTy zTX zGd zXf zCT 4000 110 kt_110_0 ku_110_0 = true := by decide +kernel
def ku_111_0 : List yCu := []
theorem kk_111_0 : ychk zTt zProg zTG zTTy zTX zGd zXf zCT 4000 111 kt_111_0 ku_111_0 = true := by decide +kernel
def ku_112_0 : List yCu := []
theorem kk_112_0 : ychk zTt zProg zTG zTTy zTX zGd zXf zCT 4000 112 kt_112_0 ku_112_0 = true := by decide +kernel
def ku_113_0 : List yCu := []
theorem kk_113_0 : ychk zTt zProg zTG zTTy zTX zGd zXf zCT 4000 113 kt_113_0 ku_113_0 = true := by decide +kernel
def ku_114_0 : List yCu := []
theorem kk_114_0 : ychk zTt zProg zTG zTTy zTX zGd zXf zCT 4000 114 kt_114_0 ku_114_0 = true := by decide +kernel
def ku_115_0 : List yCu := []
theorem kk_115_0 : ychk zTt zProg zTG zTTy zTX zGd zXf zCT 4000 115 kt_115_0 ku_115_0 = true := by decide +kernel
def ku_116_0 : List yCu := []
theorem kk_116_0 : ychk zTt zProg zTG zTTy zTX zGd zXf zCT 4000 116 kt_116_0 ku_116_0 = true := by decide +kernel
def ku_117_0 : List yCu := []
theorem kk_117_0 : ychk zTt zProg zTG zTTy zTX zGd zXf zCT 4000 117 kt_117_0 ku_117_0 = true := by decide +kernel
def ku_118_0 : List yCu := []
theorem kk_118_0 : ychk zTt zProg zTG zTTy zTX zGd zXf zCT 4000 118 kt_118_0 ku_118_0 = true := by decide +kernel
def ku_119_0 : List yCu := []
theorem kk_119_0 : ychk zTt zProg zTG zTTy zTX zGd zXf zCT 4000 119 kt_119_0 ku_119_0 = true := by decide +kernel
def ku_120_0 : List yCu := []
theorem kk_120_0 : ychk zTt zProg zTG zTTy zTX zGd zXf zCT 4000 120 kt_120_0 ku_120_0 = true := by decide +kernel
def ku_121_0 : List yCu := []
theorem kk_121_0 : ychk zTt zProg zTG zTTy zTX zGd zXf zCT 4000 121 kt_121_0 ku_121_0 = true := by decide +kernel
def ku_122_0 : List yCu := []
theorem kk_122_0 : ychk zTt zProg zTG zTTy zTX zGd zXf zCT 4000 122 kt_122_0 ku_122_0 = true := by decide +kernel
def ku_123_0 : List yCu := []
theorem kk_123_0 : ychk zTt zProg zTG zTTy zTX zGd zXf zCT 4000 123 kt_123_0 ku_123_0 = true := by decide +kernel
def ku_124_0 : List yCu := []
theorem kk_124_0 : ychk zTt zProg zTG zTTy zTX zGd zXf zCT 4000 124 kt_124_0 ku_124_0 = true := by decide +kernel
def ku_125_0 : List yCu := []
theorem kk_125_0 : ychk zTt zProg zTG zTTy zTX zGd zXf zCT 4000 125 kt_125_0 ku_125_0 = true := by decide +kernel
def ku_280_0 : List yCu := [(6, ([(0, 3, 0)], [(0, .ofNat 0, .ofNat 12, 0)], [], [some (2, (.ofNat 52, [])), some (1, (.ofNat 0, [])), none, some (0, (.ofNat 0, [(0, .ofNat 1)])), some (0, (.ofNat 12, []))], [], [], []), (.ofNat 12, [(0, .negSucc 0)]), (.ofNat 0, []), (.ofNat 0, []))]
theorem kk_280_0 : ychk zTt zProg zTG zTTy zTX zGd zXf zCT 4000 280 kt_280_0 ku_280_0 = true := by decide +kernel
def ku_126_0 : List yCu := []
theorem kk_126_0 : ychk zTt zProg zTG zTTy zTX zGd zXf zCT 4000 126 kt_126_0 ku_126_0 = true := by decide +kernel
def ku_127_0 : List yCu := []
theorem kk_127_0 : ychk zTt zProg zTG zTTy zTX zGd zXf zCT 4000 127 kt_127_0 ku_127_0 = true := by decide +kernel
def ku_128_0 : List yCu := []
theorem kk_128_0 : ychk zTt zProg zTG zTTy zTX zGd zXf zCT 4000 128 kt_128_0 ku_128_0 = true := by decide +kernel
def ku_129_0 : List yCu := []
theorem kk_129_0 : ychk zTt zProg zTG zTTy zTX zGd zXf zCT 4000 129 kt_129_0 ku_129_0 = true := by decide +kernel
def ku_130_0 : List yCu := []
theorem kk_130_0 : ychk zTt zProg zTG zTTy zTX zGd zXf zCT 4000 130 kt_130_0 ku_130_0 = true := by decide +kernel
def ku_131_0 : List yCu := []
theorem kk_131_0 : ychk zTt zProg zTG zTTy zTX zGd zXf zCT 4000 131 kt_131_0 ku_131_0 = true := by decide +kernel
def ku_168_0 : List yCu := [(18, ([(0, 5, 0)], [(0, .negSucc 9223372036854775807, .ofNat 9223372036854775807, 0), (1, .ofNat 0, .ofNat 7, 0), (2, .ofNat 0, .ofNat 2, 0), (3, .ofNat 0, .ofNat 600, 0)], [], [some (2, (.ofNat 0, [])), some (1, (.ofNat 0, [(0, .ofNat 1)])), none, some (0, (.ofNat 0, [(1, .ofNat 1)])), some (0, (.ofNat 0, [(2, .ofNat 1)])), some (0, (.ofNat 0, [(3, .ofNat 1)]))], [], [(0, 4, (2, (.ofNat 54, []))), (0, 13, (2, (.ofNat 110, [])))], []), (.ofNat 600, [(3, .negSucc 0)]), (.ofNat 0, []), (.ofNat 0, []))]
theorem kk_168_0 : ychk zTt zProg zTG zTTy zTX zGd zXf zCT 4000 168 kt_168_0 ku_168_0 = true := by decide +kernel
def ku_132_0 : List yCu := []
theorem kk_132_0 : ychk zTt zProg zTG zTTy zTX zGd zXf zCT 4000 132 kt_132_0 ku_132_0 = true := by decide +kernel
def ku_133_0 : List yCu := []
theorem kk_133_0 : ychk zTt zProg zTG zTTy zTX zGd zXf zCT 4000 133 kt_133_0 ku_133_0 = true := by decide +kernel
def ku_134_0 : List yCu := []
theorem kk_134_0 : ychk zTt zProg zTG zTTy zTX zGd zXf zCT 4000 134 kt_134_0 ku_134_0 = true := by decide +kernel
def ku_135_0 : List yCu := []
theorem kk_135_0 : ychk zTt zProg zTG zTTy zTX zGd zXf zCT 4000 135 kt_135_0 ku_135_0 = true := by decide +kernel
def ku_136_0 : List yCu := []
theorem kk_136_0 : ychk zTt zProg zTG zTTy zTX zGd zXf zCT 4000 136 kt_136_0 ku_136_0 = true := by decide +kernel
def ku_137_0 : List yCu := []
theorem kk_137_0 : ychk zTt zProg zTG zTTy zTX zGd zXf zCT 4000 137 kt_137_0 ku_137_0 = true := by decide +kernel
def ku_138_0 : List yCu := []
theorem kk_138_0 : ychk zTt zProg zTG zTTy zTX zGd zXf zCT 4000 138 kt_138_0 ku_138_0 = true := by decide +kernel
def ku_139_0 : List yCu := []
theorem kk_139_0 : ychk zTt zProg zTG zTTy zTX zGd zXf zCT 4000 139 kt_139_0 ku_139_0 = true := by decide +kernel
def ku_140_0 : List yCu := []
theorem kk_140_0 : ychk zTt zProg zTG zTTy zTX zGd zXf zCT 4000 140 kt_140_0 ku_140_0 = true := by decide +kernel
def ku_141_0 : List yCu := []
theorem kk_141_0 : ychk zTt zProg zTG zTTy zTX zGd zXf zCT 4000 141 kt_141_0 ku_141_0 = true := by decide +kernel
def ku_142_0 : List yCu := []
theorem kk_142_0 : ychk zTt zProg zTG zTTy zTX zGd zXf zCT 4000 142 kt_142_0 ku_142_0 = true := by decide +kernel
def ku_143_0 : List yCu := []
theorem kk_143_0 : ychk zTt zProg zTG zTTy zTX zGd zXf zCT 4000 143 kt_143_0 ku_143_0 = true := by decide +kernel
def ku_144_0 : List yCu := []
theorem kk_144_0 : ychk zTt zProg zTG zTTy zTX zGd zXf zCT 4000 144 kt_144_0 ku_144_0 = true := by decide +kernel
def ku_145_0 : List yCu := []
theorem kk_145_0 : ychk zTt zProg zTG zTTy zTX zGd zXf zCT 4000 145 kt_145_0 ku_145_0 = true := by decide +kernel
def ku_146_0 : List yCu := []
theorem kk_146_0 : ychk zTt zProg zTG zTTy zTX zGd zXf zCT 4000 146 kt_146_0 ku_146_0 = true := by decide +kernel
def ku_147_0 : List yCu := []
theorem kk_147_0 : ychk zTt zProg zTG zTTy zTX zGd zXf zCT 4000 147 kt_147_0 ku_147_0 = true := by decide +kernel
def ku_148_0 : List yCu := []
theorem kk_148_0 : ychk zTt zProg zTG zTTy zTX zGd zXf zCT 4000 148 kt_148_0 ku_148_0 = true := by decide +kernel
def ku_149_0 : List yCu := []
theorem kk_149_0 : ychk zTt zProg zTG zTTy zTX zGd zXf zCT 4000 149 kt_149_0 ku_149_0 = true := by decide +kernel
def ku_150_0 : List yCu := []
theorem kk_150_0 : ychk zTt zProg zTG zTTy zTX zGd zXf zCT 4000 150 kt_150_0 ku_150_0 = true := by decide +kernel
def ku_151_0 : List yCu := []
theorem kk_151_0 : ychk zTt zProg zTG zTTy zTX zGd zXf zCT 4000 151 kt_151_0 ku_151_0 = true := by decide +kernel
def ku_152_0 : List yCu := []
theorem kk_152_0 : ychk zTt zProg zTG zTTy zTX zGd zXf zCT 4000 152 kt_152_0 ku_152_0 = true := by decide +kernel
def ku_153_0 : List yCu := []
theorem kk_153_0 : ychk zTt zProg zTG zTTy zTX zGd zXf zCT 4000 153 kt_153_0 ku_153_0 = true := by decide +kernel
def ku_154_0 : List yCu := []
theorem kk_154_0 : ychk zTt zProg zTG zTTy zTX zGd zXf zCT 4000 154 kt_154_0 ku_154_0 = true := by decide +kernel
def ku_155_0 : List yCu := []
theorem kk_155_0 : ychk zTt zProg zTG zTTy zTX zGd zXf zCT 4000 155 kt_155_0 ku_155_0 = true := by decide +kernel
def ku_156_0 : List yCu := []
theorem kk_156_0 : ychk zTt zProg zTG zTTy zTX zGd zXf zCT 4000 156 kt_156_0 ku_156_0 = true := by decide +kernel
def ku_157_0 : List yCu := []
theorem kk_157_0 : ychk zTt zProg zTG zTTy zTX zGd zXf zCT 4000 157 kt_157_0 ku_157_0 = true := by decide +kernel
def ku_174_0 : List yCu := []
theorem kk_174_0 : ychk zTt zProg zTG zTTy zTX zGd zXf zCT 4000 174 kt_174_0 ku_174_0 = true := by decide +kernel
def ku_179_0 : List yCu := []
theorem kk_179_0 : ychk zTt zProg zTG zTTy zTX zGd zXf zCT 4000 179 kt_179_0 ku_179_0 = true := by decide +kernel
def ku_180_0 : List yCu := []
theorem kk_180_0 : ychk zTt zProg zTG zTTy zTX zGd zXf zCT 4000 180 kt_180_0 ku_180_0 = true := by decide +kernel
def ku_181_0 : List yCu := []
theorem kk_181_0 : ychk zTt zProg zTG zTTy zTX zGd zXf zCT 4000 181 kt_181_0 ku_181_0 = true := by decide +kernel
def ku_182_0 : List yCu := []
theorem kk_182_0 : ychk zTt zProg zTG zTTy zTX zGd zXf zCT 4000 182 kt_182_0 ku_182_0 = true := by decide +kernel
def ku_183_0 : List yCu := []
theorem kk_183_0 : ychk zTt zProg zTG zTTy zTX zGd zXf zCT 4000 183 kt_183_0 ku_183_0 = true := by decide +kernel
def ku_184_0 : List yCu := []
theorem kk_184_0 : ychk zTt zProg zTG zTTy zTX zGd zXf zCT 4000 184 kt_184_0 ku_184_0 = true := by decide +kernel
def ku_185_0 : List yCu := []
theorem kk_185_0 : ychk zTt zProg zTG zTTy zTX zGd zXf zCT 4000 185 kt_185_0 ku_185_0 = true := by decide +kernel
def ku_186_0 : List yCu := [(11, ([(0, 4, 0), (0, 5, 0)], [(0, .ofNat 0, .ofNat 299, 0), (1, .ofNat 0, .ofNat 599, 0), (2, .ofNat 0, .ofNat 599, 0), (3, .ofNat 0, .ofNat 59, 0), (4, .ofNat 0, .ofNat 400, 0)], [], [some (2, (.ofNat 111, [])), some (0, (.ofNat 0, [(0, .ofNat 1)])), some (0, (.ofNat 0, [(1, .ofNat 1)])), some (0, (.ofNat 0, [(2, .ofNat 1)])), some (0, (.ofNat 0, [(3, .ofNat 1)])), some (0, (.ofNat 0, [(4, .ofNat 1)]))], [], [(111, 19, (2, (.ofNat 124, [])))], []), (.ofNat 400, [(4, .negSucc 0)]), (.ofNat 0, []), (.ofNat 0, []))]
theorem kk_186_0 : ychk zTt zProg zTG zTTy zTX zGd zXf zCT 4000 186 kt_186_0 ku_186_0 = true := by decide +kernel
def ku_187_0 : List yCu := []
theorem kk_187_0 : ychk zTt zProg zTG zTTy zTX zGd zXf zCT 4000 187 kt_187_0 ku_187_0 = true := by decide +kernel
def ku_188_0 : List yCu := [(5, ([(0, 3, 0), (0, 4, 0)], [(0, .ofNat 0, .ofNat 7, 0), (1, .ofNat 0, .ofNat 599, 0), (2, .negSucc 2147483647, .ofNat 2147483647, 0), (3, .ofNat 0, .ofNat 12, 0)], [], [some (2, (.ofNat 111, [])), some (0, (.ofNat 0, [(0, .ofNat 1)])), some (0, (.ofNat 0, [(1, .ofNat 1)])), some (0, (.ofNat 0, [(2, .ofNat 1)])), some (0, (.ofNat 0, [(3, .ofNat 1)]))], [], [], []), (.ofNat 12, [(3, .negSucc 0)]), (.ofNat 0, []), (.ofNat 0, []))]
theorem kk_188_0 : ychk zTt zProg zTG zTTy zTX zGd zXf zCT 4000 188 kt_188_0 ku_188_0 = true := by decide +kernel
def ku_189_0 : List yCu := [(20, ([(0, 3, 0), (0, 4, 0)], [(0, .ofNat 0, .ofNat 299, 0), (1, .ofNat 0, .ofNat 599, 0), (2, .negSucc 2147483647, .ofNat 2147483647, 0), (3, .ofNat 0, .ofNat 20, 0)], [], [some (2, (.ofNat 111, [])), some (0, (.ofNat 0, [(0, .ofNat 1)])), some (0, (.ofNat 0, [(1, .ofNat 1)])), some (0, (.ofNat 0, [(2, .ofNat 1)])), some (0, (.ofNat 0, [(3, .ofNat 1)]))], [], [(111, 16, (2, (.ofNat 121, []))), (111, 17, (2, (.ofNat 122, [])))], []), (.ofNat 20, [(3, .negSucc 0)]), (.ofNat 0, []), (.ofNat 0, []))]
theorem kk_189_0 : ychk zTt zProg zTG zTTy zTX zGd zXf zCT 4000 189 kt_189_0 ku_189_0 = true := by decide +kernel
def ku_191_0 : List yCu := [(15, ([(0, 5, 0), (0, 6, 0)], [(0, .ofNat 0, .ofNat 7, 0), (1, .negSucc 2147483647, .ofNat 2147483647, 0), (2, .ofNat 0, .ofNat 2, 0), (3, .ofNat 0, .ofNat 200, 0), (4, .negSucc 2147483647, .ofNat 2147483647, 0), (5, .ofNat 0, .ofNat 12, 0)], [], [some (2, (.ofNat 111, [])), some (0, (.ofNat 0, [(0, .ofNat 1)])), some (0, (.ofNat 0, [(1, .ofNat 1)])), some (0, (.ofNat 0, [(2, .ofNat 1)])), some (0, (.ofNat 0, [(3, .ofNat 1)])), some (0, (.ofNat 0, [(4, .ofNat 1)])), some (0, (.ofNat 0, [(5, .ofNat 1)]))], [], [(111, 10, (2, (.ofNat 115, [])))], []), (.ofNat 12, [(5, .negSucc 0)]), (.ofNat 0, []), (.ofNat 0, []))]
theorem kk_191_0 : ychk zTt zProg zTG zTTy zTX zGd zXf zCT 4000 191 kt_191_0 ku_191_0 = true := by decide +kernel
def ku_192_0 : List yCu := []
theorem kk_192_0 : ychk zTt zProg zTG zTTy zTX zGd zXf zCT 4000 192 kt_192_0 ku_192_0 = true := by decide +kernel
def ku_193_0 : List yCu := []
theorem kk_193_0 : ychk zTt zProg zTG zTTy zTX zGd zXf zCT 4000 193 kt_193_0 ku_193_0 = true := by decide +kernel
def ku_195_0 : List yCu := []
theorem kk_195_0 : ychk zTt zProg zTG zTTy zTX zGd zXf zCT 4000 195 kt_195_0 ku_195_0 = true := by decide +kernel
def ku_196_0 : List yCu := []
theorem kk_196_0 : ychk zTt zProg zTG zTTy zTX zGd zXf zCT 4000 196 kt_196_0 ku_196_0 = true := by decide +kernel
def ku_198_0 : List yCu := []
theorem kk_198_0 : ychk zTt zProg zTG zTTy zTX zGd zXf zCT 4000 198 kt_198_0 ku_198_0 = true := by decide +kernel
def ku_226_0 : List yCu := [(4, ([(0, 2, 0), (0, 3, 0)], [(0, .ofNat 0, .ofNat 599, 0), (1, .negSucc 0, .ofNat 9, 0), (2, .ofNat 0, .ofNat 10, 0)], [], [some (2, (.ofNat 111, [])), some (0, (.ofNat 0, [(0, .ofNat 1)])), some (0, (.ofNat 0, [(1, .ofNat 1)])), some (0, (.ofNat 0, [(2, .ofNat 1)]))], [], [], []), (.ofNat 10, [(2, .negSucc 0)]), (.ofNat 0, []), (.ofNat 0, []))]
theorem kk_226_0 : ychk zTt zProg zTG zTTy zTX zGd zXf zCT 4000 226 kt_226_0 ku_226_0 = true := by decide +kernel
def ku_227_0 : List yCu := []
theorem kk_227_0 : ychk zTt zProg zTG zTTy zTX zGd zXf zCT 4000 227 kt_227_0 ku_227_0 = true := by decide +kernel
def ku_238_0 : List yCu := []
theorem kk_238_0 : ychk zTt zProg zTG zTTy zTX zGd zXf zCT 4000 238 kt_238_0 ku_238_0 = true := by decide +kernel
def ku_239_0 : List yCu := [(5, ([(0, 3, 0), (0, 4, 0)], [(0, .negSucc 2147483647, .ofNat 2147483647, 0), (1, .negSucc 2147483647, .ofNat 2147483647, 0), (2, .ofNat 0, .ofNat 1, 0), (3, .ofNat 0, .ofNat 600, 0)], [], [some (2, (.ofNat 111, [])), some (0, (.ofNat 0, [(0, .ofNat 1)])), some (0, (.ofNat 0, [(1, .ofNat 1)])), some (0, (.ofNat 0, [(2, .ofNat 1)])), some (0, (.ofNat 0, [(3, .ofNat 1)]))], [], [], []), (.ofNat 600, [(3, .negSucc 0)]), (.ofNat 0, []), (.ofNat 0, []))]
theorem kk_239_0 : ychk zTt zProg zTG zTTy zTX zGd zXf zCT 4000 239 kt_239_0 ku_239_0 = true := by decide +kernel
def ku_240_0 : List yCu := [(6, ([(0, 6, 0), (0, 7, 0)], [(0, .ofNat 0, .ofNat 59, 0), (1, .ofNat 0, .ofNat 7, 0), (2, .ofNat 0, .ofNat 2, 0), (3, .ofNat 0, .ofNat 599, 0), (4, .ofNat 0, .ofNat 1, 0), (5, .negSucc 0, .ofNat 200, 0), (6, .ofNat 0, .ofNat 600, 0)], [], [some (2, (.ofNat 111, [])), some (0, (.ofNat 0, [(0, .ofNat 1)])), some (0, (.ofNat 0, [(1, .ofNat 1)])), some (0, (.ofNat 0, [(2, .ofNat 1)])), some (0, (.ofNat 0, [(3, .ofNat 1)])), some (0, (.ofNat 0, [(4, .ofNat 1)])), some (0, (.ofNat 0, [(5, .ofNat 1)])), some (0, (.ofNat 0, [(6, .ofNat 1)])), none, none], [], [], []), (.ofNat 600, [(6, .negSucc 0)]), (.ofNat 0, []), (.ofNat 0, []))]
theorem kk_240_0 : ychk zTt zProg zTG zTTy zTX zGd zXf zCT 4000 240 kt_240_0 ku_240_0 = true := by decide +kernel
def ku_241_0 : List yCu := []
theorem kk_241_0 : ychk zTt zProg zTG zTTy zTX zGd zXf zCT 4000 241 kt_241_0 ku_241_0 = true := by decide +kernel
def ku_244_0 : List yCu := []
theorem kk_244_0 : ychk zTt zProg zTG zTTy zTX zGd zXf zCT 4000 244 kt_244_0 ku_244_0 = true := by decide +kernel
def ku_245_0 : List yCu := []
theorem kk_245_0 : ychk zTt zProg zTG zTTy zTX zGd zXf zCT 4000 245 kt_245_0 ku_245_0 = true := by decide +kernel
def ku_248_0 : List yCu := []
theorem kk_248_0 : ychk zTt zProg zTG zTTy zTX zGd zXf zCT 4000 248 kt_248_0 ku_248_0 = true := by decide +kernel
def ku_250_0 : List yCu := []
theorem kk_250_0 : ychk zTt zProg zTG zTTy zTX zGd zXf zCT 4000 250 kt_250_0 ku_250_0 = true := by decide +kernel
def ku_251_0 : List yCu := [(6, ([(0, 4, 0), (0, 6, 0)], [(0, .ofNat 0, .ofNat 19, 0), (1, .ofNat 0, .ofNat 19, 0), (2, .ofNat 0, .ofNat 63, 0), (3, .negSucc 9223372036854775807, .ofNat 9223372036854775807, 0), (4, .ofNat 0, .ofNat 6, 0)], [], [some (2, (.ofNat 111, [])), some (0, (.ofNat 0, [(0, .ofNat 1)])), some (0, (.ofNat 0, [(1, .ofNat 1)])), some (0, (.ofNat 0, [(2, .ofNat 1)])), some (1, (.ofNat 0, [(3, .ofNat 1)])), none, some (0, (.ofNat 0, [(4, .ofNat 1)])), none, none, none, none], [], [], []), (.ofNat 6, [(4, .negSucc 0)]), (.ofNat 0, []), (.ofNat 0, []))]
theorem kk_251_0 : ychk zTt zProg zTG zTTy zTX zGd zXf zCT 4000 251 kt_251_0 ku_251_0 = true := by decide +kernel
def ku_252_0 : List yCu := []
theorem kk_252_0 : ychk zTt zProg zTG zTTy zTX zGd zXf zCT 4000 252 kt_252_0 ku_252_0 = true := by decide +kernel
def ku_253_0 : List yCu := []
theorem kk_253_0 : ychk zTt zProg zTG zTTy zTX zGd zXf zCT 4000 253 kt_253_0 ku_253_0 = true := by decide +kernel
def ku_256_0 : List yCu := []
theorem kk_256_0 : ychk zTt zProg zTG zTTy zTX zGd zXf zCT 4000 256 kt_256_0 ku_256_0 = true := by decide +kernel
def ku_257_0 : List yCu := []
theorem kk_257_0 : ychk zTt zProg zTG zTTy zTX zGd zXf zCT 4000 257 kt_257_0 ku_257_0 = true := by decide +kernel
def ku_258_0 : List yCu := [(4, ([(0, 2, 0), (0, 3, 0)], [(0, .negSucc 1, .ofNat 3, 0), (1, .negSucc 2147483647, .ofNat 2147483647, 0), (2, .ofNat 0, .ofNat 24, 0)], [], [some (2, (.ofNat 111, [])), some (0, (.ofNat 0, [(0, .ofNat 1)])), some (0, (.ofNat 0, [(1, .ofNat 1)])), some (0, (.ofNat 0, [(2, .ofNat 1)])), none, none], [], [], []), (.ofNat 649, [(2, .negSucc 25)]), (.ofNat 0, []), (.ofNat 0, [])), (22, ([(0, 2, 0), (0, 3, 0), (0, 4, 0), (1, 111, 76)], [(0, .negSucc 1, .ofNat 3, 0), (1, .negSucc 2147483647, .ofNat 2147483647, 0), (2, .ofNat 0, .ofNat 23, 0), (3, .ofNat 0, .ofNat 24, 0), (4, .ofNat 1, .ofNat 24, 0)], [(.ofNat 1, [(2, .ofNat 1), (4, .negSucc 0)])], [some (2, (.ofNat 111, [])), some (0, (.ofNat 0, [(0, .ofNat 1)])), some (0, (.ofNat 0, [(1, .ofNat 1)])), some (0, (.ofNat 0, [(2, .ofNat 1)])), some (0, (.ofNat 0, [(3, .ofNat 1)])), none], [], [(111, 76, (0, (.ofNat 0, [(4, .ofNat 1)]))), (111, 81, (2, (.ofNat 171, [])))], []), (.ofNat 648, [(2, .negSucc 25), (3, .negSucc 0)]), (.ofNat 0, []), (.ofNat 0, []))]
theorem kk_258_0 : ychk zTt zProg zTG zTTy zTX zGd zXf zCT 4000 258 kt_258_0 ku_258_0 = true := by decide +kernel
def ku_259_0 : List yCu := [(14, ([(0, 2, 0), (0, 3, 0), (1, 111, 76)], [(0, .ofNat 0, .ofNat 23, 0), (1, .negSucc 2147483647, .ofNat 2147483647, 0), (2, .negSucc 0, .ofNat 23, 0), (3, .ofNat 0, .ofNat 24, 0)], [], [some (2, (.ofNat 111, [])), some (0, (.ofNat 0, [(0, .ofNat 1)])), some (0, (.ofNat 0, [(1, .ofNat 1)])), some (0, (.ofNat 0, [(2, .ofNat 1)])), none, none], [], [(111, 76, (0, (.ofNat 0, [(3, .ofNat 1)])))], []), (.ofNat 49, [(2, .ofNat 25)]), (.ofNat 0, []), (.ofNat 0, [])), (44, ([(0, 2, 0), (0, 3, 0), (0, 4, 0), (1, 111, 76)], [(0, .ofNat 0, .ofNat 23, 0), (1, .negSucc 2147483647, .ofNat 2147483647, 0), (2, .ofNat 0, .ofNat 23, 0), (3, .ofNat 1, .ofNat 24, 0), (4, .ofNat 0, .ofNat 24, 0)], [], [some (2, (.ofNat 111, [])), some (0, (.ofNat 0, [(0, .ofNat 1)])), some (0, (.ofNat 0, [(1, .ofNat 1)])), some (0, (.ofNat 0, [(2, .ofNat 1)])), some (0, (.ofNat 0, [(3, .ofNat 1)])), none], [], [(111, 76, (0, (.ofNat 0, [(4, .ofNat 1)]))), (111, 82, (2, (.ofNat 172, [])))], []), (.ofNat 49, [(2, .ofNat 25), (3, .negSucc 0)]), (.ofNat 0, []), (.ofNat 0, []))]
theorem kk_259_0 : ychk zTt zProg zTG zTTy zTX zGd zXf zCT 4000 259 kt_259_0 ku_259_0 = true := by decide +kernel
def ku_260_0 : List yCu := []
theorem kk_260_0 : ychk zTt zProg zTG zTTy zTX zGd zXf zCT 4000 260 kt_260_0 ku_260_0 = true := by decide +kernel
def ku_261_0 : List yCu := []
theorem kk_261_0 : ychk zTt zProg zTG zTTy zTX zGd zXf zCT 4000 261 kt_261_0 ku_261_0 = true := by decide +kernel
def ku_263_0 : List yCu := []
theorem kk_263_0 : ychk zTt zProg zTG zTTy zTX zGd zXf zCT 4000 263 kt_263_0 ku_263_0 = true := by decide +kernel
def ku_264_0 : List yCu := [(35, ([(0, 3, 0), (0, 4, 0), (1, 111, 76)], [(0, .ofNat 0, .ofNat 23, 0), (1, .ofNat 0, .ofNat 2147483647, 0), (2, .negSucc 2147483647, .ofNat 2147483647, 0), (3, .negSucc 0, .ofNat 599, 0), (4, .ofNat 1, .ofNat 24, 0)], [(.ofNat 1, [(0, .ofNat 1), (4, .negSucc 0)])], [some (2, (.ofNat 111, [])), some (0, (.ofNat 0, [(0, .ofNat 1)])), some (0, (.ofNat 0, [(1, .ofNat 1)])), some (0, (.ofNat 0, [(2, .ofNat 1)])), some (0, (.ofNat 0, [(3, .ofNat 1)]))], [], [(111, 76, (0, (.ofNat 0, [(4, .ofNat 1)])))], []), (.ofNat 1, [(3, .ofNat 1)]), (.ofNat 0, []), (.ofNat 0, []))]
theorem kk_264_0 : ychk zTt zProg zTG zTTy zTX zGd zXf zCT 4000 264 kt_264_0 ku_264_0 = true := by decide +kernel
def ku_265_0 : List yCu := []
theorem kk_265_0 : ychk zTt zProg zTG zTTy zTX zGd zXf zCT 4000 265 kt_265_0 ku_265_0 = true := by decide +kernel
def ku_269_0 : List yCu := [(14, ([(0, 2, 0), (0, 3, 0), (1, 111, 83)], [(0, .ofNat 0, .ofNat 19, 0), (1, .negSucc 2147483647, .ofNat 2147483647, 0), (2, .ofNat 0, .ofNat 300, 0), (3, .ofNat 1, .ofNat 20, 0)], [(.ofNat 1, [(0, .ofNat 1), (3, .negSucc 0)])], [some (2, (.ofNat 111, [])), some (0, (.ofNat 0, [(0, .ofNat 1)])), some (0, (.ofNat 0, [(1, .ofNat 1)])), some (0, (.ofNat 0, [(2, .ofNat 1)]))], [], [(111, 83, (0, (.ofNat 0, [(3, .ofNat 1)])))], []), (.ofNat 300, [(2, .negSucc 0)]), (.ofNat 0, []), (.ofNat 0, []))]
theorem kk_269_0 : ychk zTt zProg zTG zTTy zTX zGd zXf zCT 4000 269 kt_269_0 ku_269_0 = true := by decide +kernel
def ku_270_0 : List yCu := []
theorem kk_270_0 : ychk zTt zProg zTG zTTy zTX zGd zXf zCT 4000 270 kt_270_0 ku_270_0 = true := by decide +kernel
def ku_271_0 : List yCu := []
theorem kk_271_0 : ychk zTt zProg zTG zTTy zTX zGd zXf zCT 4000 271 kt_271_0 ku_271_0 = true := by decide +kernel
def ku_272_0 : List yCu := [(15, ([(0, 3, 0), (0, 4, 0), (1, 111, 83)], [(0, .ofNat 0, .ofNat 19, 0), (1, .negSucc 2147483647, .ofNat 2147483647, 0), (2, .negSucc 2147483647, .ofNat 2147483647, 0), (3, .ofNat 0, .ofNat 300, 0), (4, .ofNat 1, .ofNat 20, 0)], [(.ofNat 1, [(0, .ofNat 1), (4, .negSucc 0)])], [some (2, (.ofNat 111, [])), some (0, (.ofNat 0, [(0, .ofNat 1)])), some (0, (.ofNat 0, [(1, .ofNat 1)])), some (0, (.ofNat 0, [(2, .ofNat 1)])), some (0, (.ofNat 0, [(3, .ofNat 1)]))], [], [(111, 83, (0, (.ofNat 0, [(4, .ofNat 1)])))], []), (.ofNat 300, [(3, .negSucc 0)]), (.ofNat 0, []), (.ofNat 0, []))]
theorem kk_272_0 : ychk zTt zProg zTG zTTy zTX zGd zXf zCT 4000 272 kt_272_0 ku_272_0 = true := by decide +kernel
def ku_273_0 : List yCu := []
theorem kk_273_0 : ychk zTt zProg zTG zTTy zTX zGd zXf zCT 4000 273 kt_273_0 ku_273_0 = true := by decide +kernel
def ku_275_0 : List yCu := []
theorem kk_275_0 : ychk zTt zProg zTG zTTy zTX zGd zXf zCT 4000 275 kt_275_0 ku_275_0 = true := by decide +kernel
def ku_276_0 : List yCu := []
theorem kk_276_0 : ychk zTt zProg zTG zTTy zTX zGd zXf zCT 4000 276 kt_276_0 ku_276_0 = true := by decide +kernel
def ku_277_0 : List yCu := [(28, ([(0, 2, 0), (0, 3, 0), (1, 111, 91), (1, 111, 92)], [(0, .ofNat 0, .ofNat 999999, 0), (1, .ofNat 0, .ofNat 2147483647, 0), (2, .ofNat 1, .ofNat 2147483647, 0), (3, .ofNat 0, .ofNat 2147483646, 0), (4, .negSucc 2147483647, .ofNat 1000000, 0)], [], [some (2, (.ofNat 111, [])), some (0, (.ofNat 0, [(0, .ofNat 1)])), some (0, (.ofNat 0, [(1, .ofNat 1)])), some (0, (.ofNat 0, [(2, .ofNat 1)])), none, none, none, none], [], [(111, 91, (0, (.ofNat 0, [(3, .ofNat 1)]))), (111, 92, (0, (.ofNat 0, [(4, .ofNat 1)])))], []), (.ofNat 216895848447, [(2, .negSucc 100)]), (.ofNat 0, []), (.ofNat 0, [])), (47, ([(0, 2, 0), (0, 3, 0), (0, 4, 0), (0, 5, 0), (0, 6, 0), (1, 111, 90), (1, 111, 91), (1, 111, 92)], [(0, .ofNat 0, .ofNat 999999, 0), (1, .ofNat 0, .ofNat 2147483647, 0), (2, .ofNat 1, .ofNat 2147483646, 0), (3, .negSucc 2147483647, .ofNat 2147483647, 0), (4, .negSucc 2147483647, .ofNat 2147483647, 0), (5, .ofNat 0, .ofNat 9, 0), (6, .ofNat 0, .ofNat 9, 0), (7, .ofNat 0, .ofNat 2147483646, 0), (8, .negSucc 2147483647, .ofNat 1000000, 0)], [], [some (2, (.ofNat 111, [])), some (0, (.ofNat 0, [(0, .ofNat 1)])), some (0, (.ofNat 0, [(1, .ofNat 1)])), some (0, (.ofNat 0, [(2, .ofNat 1)])), some (0, (.ofNat 0, [(3, .ofNat 1)])), some (0, (.ofNat 0, [(4, .ofNat 1)])), some (0, (.ofNat 0, [(5, .ofNat 1)])), none], [], [(111, 90, (0, (.ofNat 0, [(6, .ofNat 1)]))), (111, 91, (0, (.ofNat 0, [(7, .ofNat 1)]))), (111, 92, (0, (.ofNat 0, [(8, .ofNat 1)])))], []), (.ofNat 216895848446, [(2, .negSucc 100), (5, .negSucc 9)]), (.ofNat 0, []), (.ofNat 0, [])), (93, ([(0, 2, 0), (0, 3, 0), (0, 4, 0), (0, 5, 0), (0, 6, 0), (0, 7, 0), (1, 111, 90), (1, 111, 91), (1, 111, 92)], [(0, .ofNat 0, .ofNat 999999, 0), (1, .ofNat 0, .ofNat 2147483647, 0), (2, .ofNat 1, .ofNat 2147483646, 0), (3, .negSucc 2147483647, .ofNat 2147483647, 0), (4, .negSucc 2147483647, .ofNat 2147483647, 0), (5, .ofNat 0, .ofNat 8, 0), (6, .ofNat 0, .ofNat 8, 0), (7, .ofNat 1, .ofNat 9, 0), (8, .ofNat 0, .ofNat 2147483646, 0), (9, .negSucc 2147483647, .ofNat 1000000, 0)], [(.ofNat 1, [(5, .ofNat 1), (7, .negSucc 0)])], [some (2, (.ofNat 111, [])), some (0, (.ofNat 0, [(0, .ofNat 1)])), some (0, (.ofNat 0, [(1, .ofNat 1)])), some (0, (.ofNat 0, [(2, .ofNat 1)])), some (0, (.ofNat 0, [(3, .ofNat 1)])), some (0, (.ofNat 0, [(4, .ofNat 1)])), some (0, (.ofNat 0, [(5, .ofNat 1)])), some (0, (.ofNat 0, [(6, .ofNat 1)]))], [], [(111, 90, (0, (.ofNat 0, [(7, .ofNat 1)]))), (111, 91, (0, (.ofNat 0, [(8, .ofNat 1)]))), (111, 92, (0, (.ofNat 0, [(9, .ofNat 1)]))), (111, 93, (2, (.ofNat 179, []))), (111, 94, (2, (.ofNat 180, [])))], []), (.ofNat 216895848445, [(2, .negSucc 100), (5, .negSucc 9), (6, .negSucc 0)]), (.ofNat 0, []), (.ofNat 0, []))]
theorem kk_277_0 : ychk zTt zProg zTG zTTy zTX zGd zXf zCT 4000 277 kt_277_0 ku_277_0 = true := by decide +kernel
def ku_278_0 : List yCu := []
theorem kk_278_0 : ychk zTt zProg zTG zTTy zTX zGd zXf zCT 4000 278 kt_278_0 ku_278_0 = true := by decide +kernel
def ku_279_0 : List yCu := []
theorem kk_279_0 : ychk zTt zProg zTG zTTy zTX zGd zXf zCT 4000 279 kt_279_0 ku_279_0 = true := by decide +kernel
