/-! all contracts hold -/
noncomputable def zXt (G : zG) : yTx := (fun k => if k = 0 then (List.range G.2.2.1).map G.2.2.2 else ztx k, zgp G.2.2.2)
noncomputable def yQ (P : Nat → yCt → Prop) : Nat → List (List yCt) → Prop
  | _, [] => True
  | k, cts :: r => (∀ ct ∈ cts, P k ct) ∧ yQ P (k + 1) r
theorem yQ_at {P : Nat → yCt → Prop} : ∀ {l : List (List yCt)} {k j : Nat} {cts : List yCt} {ct : yCt}, yQ P k l → l[j]? = some cts → ct ∈ cts → P (k + j) ct
  | [], _, _, _, _, _, h, _ => by cases h
  | a :: r, k, 0, cts, ct, q, h, hc => by cases h; exact q.1 ct hc
  | a :: r, k, j + 1, cts, ct, q, h, hc => by
    have := yQ_at (j := j) q.2 h hc
    rw [show k + 1 + j = k + (j + 1) by omega] at this
    exact this
section ALL
variable {G : zG}
noncomputable def zPP (G : zG) (j : Nat) (ct : yCt) : Prop := yVl zTt G (zXt G) zTG zTTy zKI j ct 0 ∧ ∀ n : Nat, (∀ j cts ct, zCT[j]? = some cts → ct ∈ cts → yVl zTt G (zXt G) zTG zTTy zKI j ct n) → yVl zTt G (zXt G) zTG zTTy zKI j ct (n + 1 : Nat)
theorem zPh {j : Nat} {ct : yCt} (h : ∀ n : Nat, yVl zTt G (zXt G) zTG zTTy zKI j ct n) : zPP G j ct := ⟨h 0, fun n _ => h (n + 1)⟩
theorem zGxT_ok : zGxT zTG zTTy := ⟨rfl, rfl, rfl, rfl, rfl, rfl, rfl, rfl, fun t h => by rcases h with rfl | rfl | rfl | rfl | rfl | rfl | rfl <;> exact ⟨_, rfl⟩⟩
theorem zGd_ok : yGdo (zXt G) zTG zTTy zKI zGd := zGdo_ok zGxT_ok zKI_gd
theorem zTX_ok : ∀ k l, zTX[k]? = some l → 1 ≤ k → ((zXt G).1 k).length = l ∧ 1 ≤ l ∧ l ≤ 200 := by
  intro k l h hk
  have ha : (List.range zTX.length).all (fun k => Nat.beq k 0 || (decide (zTX[k]? = some (ztx k).length) && (decide (1 ≤ (ztx k).length) && decide ((ztx k).length ≤ 200)))) = true := by decide +kernel
  have hl : k < zTX.length := by
    rcases Nat.lt_or_ge k zTX.length with z | z
    · exact z
    · rw [List.getElem?_eq_none z] at h; cases h
  have := List.all_eq_true.mp ha k (List.mem_range.mpr hl)
  rw [Bool.or_eq_true] at this
  rcases this with e | e
  · have := Nat.eq_of_beq_eq_true e
    omega
  · rw [Bool.and_eq_true, Bool.and_eq_true, decide_eq_true_eq, decide_eq_true_eq, decide_eq_true_eq] at e
    rw [h] at e
    have e0 := e.1
    cases e0
    have ek : (zXt G).1 k = ztx k := if_neg (by omega)
    rw [ek]
    exact ⟨rfl, e.2⟩
theorem zTX_b : ∀ k x, 1 ≤ k → x ∈ (zXt G).1 k → 0 ≤ x.toInt ∧ x.toInt ≤ 255 := by
  intro k x hk hx
  have ek : (zXt G).1 k = ztx k := if_neg (by omega)
  rw [ek] at hx
  have ha : (List.range 22).all (fun k => (ztx k).all (fun x => decide (0 ≤ x.toInt) && decide (x.toInt ≤ 255))) = true := by decide +kernel
  rcases Nat.lt_or_ge k 22 with z | z
  · have := List.all_eq_true.mp (List.all_eq_true.mp ha k (List.mem_range.mpr z)) x hx
    rw [Bool.and_eq_true, decide_eq_true_eq, decide_eq_true_eq] at this
    exact this
  · obtain ⟨j, rfl⟩ : ∃ j, k = j + 22 := ⟨k - 22, by omega⟩
    have e : ztx (j + 22) = [] := rfl
    rw [e] at hx
    cases hx
theorem zX_1 : ((zXt G).1 0).length = G.2.2.1 := by
  show ((List.range G.2.2.1).map G.2.2.2).length = _
  rw [List.length_map, List.length_range]
theorem zX_2 (hT : G.2.1 = ztx) : ∀ k, 1 ≤ k → (zXt G).1 k = G.2.1 k := fun k hk => by
  rw [hT]
  exact if_neg (by omega)
theorem zX_3 (hN : G.2.2.1 ≤ 4096) : G.2.2.1 < 2 ^ 31 ∧ ∀ (h : zH) (x v : Int), (zXt G).2 6 h x v ↔ v = (G.2.2.2 x.toNat).toInt := ⟨by omega, fun _ _ _ => Iff.rfl⟩
theorem zPk (hG : G.1 = zProg) (hT : G.2.1 = ztx) (hN : G.2.2.1 ≤ 4096) {F j : Nat} {ct : yCt} {cuts : List yCu} (q : ychk zTt zProg zTG zTTy zTX zGd zXf zCT F j ct cuts = true) : zPP G j ct := ⟨ychk_base q, fun n h => ychk_ok hG zKI_is zTX_ok zGd_ok zTX_b zX_1 (zX_2 hT) (zX_3 hN) q n h⟩
noncomputable def zCd_0 : List (List yCt) := [[], [kt_1_0], [], [], [], [], [], [], [], [], [kt_10_0], [kt_11_0], [kt_12_0], [kt_13_0], [], [], [], [], [kt_18_0], [], [kt_20_0], [], [kt_22_0], [kt_23_0], [], [], [], [], [], [], [], [], [kt_32_0], [], [kt_34_0], [kt_35_0], [], [], [], []]
noncomputable def zCd_1 : List (List yCt) := [[], [], [kt_42_0], [], [], [], [], [], [kt_48_0], [], [kt_50_0], [kt_51_0], [], [kt_53_0], [], [], [], [], [], [kt_59_0], [kt_60_0], [kt_61_0], [], [], [kt_64_0], [kt_65_0], [kt_66_0], [], [kt_68_0], [], [], [], [], [kt_73_0], [], [kt_75_0], [], [], [kt_78_0], [kt_79_0]]
noncomputable def zCd_2 : List (List yCt) := [[kt_80_0], [kt_81_0], [], [kt_83_0], [kt_84_0], [kt_85_0], [], [], [], [kt_89_0], [kt_90_0], [kt_91_0], [], [], [], [], [], [], [kt_98_0], [kt_99_0], [kt_100_0], [], [], [], [], [], [kt_106_0], [kt_107_0], [kt_108_0], [], [kt_110_0], [kt_111_0], [kt_112_0], [kt_113_0], [kt_114_0], [kt_115_0], [kt_116_0], [kt_117_0], [kt_118_0], [kt_119_0]]
noncomputable def zCd_3 : List (List yCt) := [[kt_120_0], [kt_121_0], [kt_122_0], [kt_123_0], [kt_124_0], [kt_125_0], [kt_126_0], [kt_127_0], [kt_128_0], [kt_129_0], [kt_130_0], [kt_131_0], [kt_132_0], [kt_133_0], [kt_134_0], [kt_135_0], [kt_136_0], [kt_137_0], [kt_138_0], [kt_139_0], [kt_140_0], [kt_141_0], [kt_142_0], [kt_143_0], [kt_144_0], [kt_145_0], [kt_146_0], [kt_147_0], [kt_148_0], [kt_149_0], [kt_150_0], [kt_151_0], [kt_152_0], [kt_153_0], [kt_154_0], [kt_155_0], [kt_156_0], [kt_157_0], [], []]
noncomputable def zCd_4 : List (List yCt) := [[], [], [], [], [], [], [], [], [kt_168_0], [kt_169_0], [], [], [], [], [kt_174_0], [], [], [], [], [kt_179_0], [kt_180_0], [kt_181_0], [kt_182_0], [kt_183_0], [kt_184_0], [kt_185_0], [kt_186_0], [kt_187_0], [kt_188_0], [kt_189_0], [], [kt_191_0], [kt_192_0], [kt_193_0], [], [kt_195_0], [kt_196_0], [], [kt_198_0], []]
noncomputable def zCd_5 : List (List yCt) := [[], [], [], [kt_203_0, kt_203_1, kt_203_2, kt_203_3, kt_203_4, kt_203_5], [], [kt_205_0, kt_205_1, kt_205_2, kt_205_3, kt_205_4, kt_205_5, kt_205_6, kt_205_7, kt_205_8, kt_205_9, kt_205_10, kt_205_11, kt_205_12, kt_205_13, kt_205_14, kt_205_15, kt_205_16, kt_205_17, kt_205_18, kt_205_19], [], [], [], [], [], [kt_211_0, kt_211_1], [kt_212_0], [kt_213_0], [kt_214_0, kt_214_1], [kt_215_0], [kt_216_0], [kt_217_0], [], [kt_219_0], [kt_220_0, kt_220_1], [kt_221_0], [kt_222_0], [kt_223_0], [kt_224_0], [kt_225_0], [kt_226_0], [kt_227_0], [kt_228_0], [], [], [kt_231_0], [kt_232_0], [], [], [kt_235_0], [kt_236_0], [kt_237_0], [kt_238_0], [kt_239_0]]
noncomputable def zCd_6 : List (List yCt) := [[kt_240_0], [kt_241_0], [kt_242_0], [kt_243_0], [kt_244_0], [kt_245_0], [], [kt_247_0], [kt_248_0], [], [kt_250_0], [kt_251_0], [kt_252_0], [kt_253_0], [], [], [kt_256_0], [kt_257_0], [kt_258_0], [kt_259_0], [kt_260_0], [kt_261_0], [], [kt_263_0], [kt_264_0], [kt_265_0], [], [], [], [kt_269_0], [kt_270_0], [kt_271_0], [kt_272_0], [kt_273_0], [kt_274_0], [kt_275_0], [kt_276_0], [kt_277_0], [kt_278_0], [kt_279_0]]
noncomputable def zCd_7 : List (List yCt) := [[], [kt_281_0], [kt_282_0, kt_282_1, kt_282_2, kt_282_3, kt_282_4, kt_282_5, kt_282_6], []]
theorem yQ_app {P : Nat → yCt → Prop} : ∀ {a b : List (List yCt)} {k : Nat}, yQ P k a → yQ P (k + a.length) b → yQ P k (a ++ b)
  | [], b, k, _, h => h
  | x :: a, b, k, h, g => ⟨h.1, yQ_app h.2 (by rw [List.length_cons] at g; rw [show k + 1 + a.length = k + (a.length + 1) by omega]; exact g)⟩
set_option maxRecDepth 100000 in
theorem zQ_0 (hG : G.1 = zProg) (hT : G.2.1 = ztx) (hN : G.2.2.1 ≤ 4096) : yQ (zPP G) 0 zCd_0 := ⟨
  List.forall_mem_nil _,
  List.forall_mem_cons.mpr ⟨(zPk hG hT hN kk_1_0), List.forall_mem_nil _⟩,
  List.forall_mem_nil _,
  List.forall_mem_nil _,
  List.forall_mem_nil _,
  List.forall_mem_nil _,
  List.forall_mem_nil _,
  List.forall_mem_nil _,
  List.forall_mem_nil _,
  List.forall_mem_nil _,
  List.forall_mem_cons.mpr ⟨(zPk hG hT hN kk_10_0), List.forall_mem_nil _⟩,
  List.forall_mem_cons.mpr ⟨(zPk hG hT hN kk_11_0), List.forall_mem_nil _⟩,
  List.forall_mem_cons.mpr ⟨(zPk hG hT hN kk_12_0), List.forall_mem_nil _⟩,
  List.forall_mem_cons.mpr ⟨(zPk hG hT hN kk_13_0), List.forall_mem_nil _⟩,
  List.forall_mem_nil _,
  List.forall_mem_nil _,
  List.forall_mem_nil _,
  List.forall_mem_nil _,
  List.forall_mem_cons.mpr ⟨(zPk hG hT hN kk_18_0), List.forall_mem_nil _⟩,
  List.forall_mem_nil _,
  List.forall_mem_cons.mpr ⟨(zPh (zcar_ok hG)), List.forall_mem_nil _⟩,
  List.forall_mem_nil _,
  List.forall_mem_cons.mpr ⟨(zPk hG hT hN kk_22_0), List.forall_mem_nil _⟩,
  List.forall_mem_cons.mpr ⟨(zPk hG hT hN kk_23_0), List.forall_mem_nil _⟩,
  List.forall_mem_nil _,
  List.forall_mem_nil _,
  List.forall_mem_nil _,
  List.forall_mem_nil _,
  List.forall_mem_nil _,
  List.forall_mem_nil _,
  List.forall_mem_nil _,
  List.forall_mem_nil _,
  List.forall_mem_cons.mpr ⟨(zPk hG hT hN kk_32_0), List.forall_mem_nil _⟩,
  List.forall_mem_nil _,
  List.forall_mem_cons.mpr ⟨(zPk hG hT hN kk_34_0), List.forall_mem_nil _⟩,
  List.forall_mem_cons.mpr ⟨(zPk hG hT hN kk_35_0), List.forall_mem_nil _⟩,
  List.forall_mem_nil _,
  List.forall_mem_nil _,
  List.forall_mem_nil _,
  List.forall_mem_nil _,
  trivial⟩
set_option maxRecDepth 100000 in
theorem zQ_1 (hG : G.1 = zProg) (hT : G.2.1 = ztx) (hN : G.2.2.1 ≤ 4096) : yQ (zPP G) 40 zCd_1 := ⟨
  List.forall_mem_nil _,
  List.forall_mem_nil _,
  List.forall_mem_cons.mpr ⟨(zPk hG hT hN kk_42_0), List.forall_mem_nil _⟩,
  List.forall_mem_nil _,
  List.forall_mem_nil _,
  List.forall_mem_nil _,
  List.forall_mem_nil _,
  List.forall_mem_nil _,
  List.forall_mem_cons.mpr ⟨(zPk hG hT hN kk_48_0), List.forall_mem_nil _⟩,
  List.forall_mem_nil _,
  List.forall_mem_cons.mpr ⟨(zPk hG hT hN kk_50_0), List.forall_mem_nil _⟩,
  List.forall_mem_cons.mpr ⟨(zPk hG hT hN kk_51_0), List.forall_mem_nil _⟩,
  List.forall_mem_nil _,
  List.forall_mem_cons.mpr ⟨(zPk hG hT hN kk_53_0), List.forall_mem_nil _⟩,
  List.forall_mem_nil _,
  List.forall_mem_nil _,
  List.forall_mem_nil _,
  List.forall_mem_nil _,
  List.forall_mem_nil _,
  List.forall_mem_cons.mpr ⟨(zPk hG hT hN kk_59_0), List.forall_mem_nil _⟩,
  List.forall_mem_cons.mpr ⟨(zPk hG hT hN kk_60_0), List.forall_mem_nil _⟩,
  List.forall_mem_cons.mpr ⟨(zPk hG hT hN kk_61_0), List.forall_mem_nil _⟩,
  List.forall_mem_nil _,
  List.forall_mem_nil _,
  List.forall_mem_cons.mpr ⟨(zPh (zrule_ok hG)), List.forall_mem_nil _⟩,
  List.forall_mem_cons.mpr ⟨(zPk hG hT hN kk_65_0), List.forall_mem_nil _⟩,
  List.forall_mem_cons.mpr ⟨(zPk hG hT hN kk_66_0), List.forall_mem_nil _⟩,
  List.forall_mem_nil _,
  List.forall_mem_cons.mpr ⟨(zPk hG hT hN kk_68_0), List.forall_mem_nil _⟩,
  List.forall_mem_nil _,
  List.forall_mem_nil _,
  List.forall_mem_nil _,
  List.forall_mem_nil _,
  List.forall_mem_cons.mpr ⟨(zPk hG hT hN kk_73_0), List.forall_mem_nil _⟩,
  List.forall_mem_nil _,
  List.forall_mem_cons.mpr ⟨(zPk hG hT hN kk_75_0), List.forall_mem_nil _⟩,
  List.forall_mem_nil _,
  List.forall_mem_nil _,
  List.forall_mem_cons.mpr ⟨(zPk hG hT hN kk_78_0), List.forall_mem_nil _⟩,
  List.forall_mem_cons.mpr ⟨(zPk hG hT hN kk_79_0), List.forall_mem_nil _⟩,
  trivial⟩
set_option maxRecDepth 100000 in
theorem zQ_2 (hG : G.1 = zProg) (hT : G.2.1 = ztx) (hN : G.2.2.1 ≤ 4096) : yQ (zPP G) 80 zCd_2 := ⟨
  List.forall_mem_cons.mpr ⟨(zPk hG hT hN kk_80_0), List.forall_mem_nil _⟩,
  List.forall_mem_cons.mpr ⟨(zPk hG hT hN kk_81_0), List.forall_mem_nil _⟩,
  List.forall_mem_nil _,
  List.forall_mem_cons.mpr ⟨(zPk hG hT hN kk_83_0), List.forall_mem_nil _⟩,
  List.forall_mem_cons.mpr ⟨(zPk hG hT hN kk_84_0), List.forall_mem_nil _⟩,
  List.forall_mem_cons.mpr ⟨(zPk hG hT hN kk_85_0), List.forall_mem_nil _⟩,
  List.forall_mem_nil _,
  List.forall_mem_nil _,
  List.forall_mem_nil _,
  List.forall_mem_cons.mpr ⟨(zPk hG hT hN kk_89_0), List.forall_mem_nil _⟩,
  List.forall_mem_cons.mpr ⟨(zPk hG hT hN kk_90_0), List.forall_mem_nil _⟩,
  List.forall_mem_cons.mpr ⟨(zPk hG hT hN kk_91_0), List.forall_mem_nil _⟩,
  List.forall_mem_nil _,
  List.forall_mem_nil _,
  List.forall_mem_nil _,
  List.forall_mem_nil _,
  List.forall_mem_nil _,
  List.forall_mem_nil _,
  List.forall_mem_cons.mpr ⟨(zPk hG hT hN kk_98_0), List.forall_mem_nil _⟩,
  List.forall_mem_cons.mpr ⟨(zPk hG hT hN kk_99_0), List.forall_mem_nil _⟩,
  List.forall_mem_cons.mpr ⟨(zPk hG hT hN kk_100_0), List.forall_mem_nil _⟩,
  List.forall_mem_nil _,
  List.forall_mem_nil _,
  List.forall_mem_nil _,
  List.forall_mem_nil _,
  List.forall_mem_nil _,
  List.forall_mem_cons.mpr ⟨(zPk hG hT hN kk_106_0), List.forall_mem_nil _⟩,
  List.forall_mem_cons.mpr ⟨(zPk hG hT hN kk_107_0), List.forall_mem_nil _⟩,
  List.forall_mem_cons.mpr ⟨(zPk hG hT hN kk_108_0), List.forall_mem_nil _⟩,
  List.forall_mem_nil _,
  List.forall_mem_cons.mpr ⟨(zPk hG hT hN kk_110_0), List.forall_mem_nil _⟩,
  List.forall_mem_cons.mpr ⟨(zPk hG hT hN kk_111_0), List.forall_mem_nil _⟩,
  List.forall_mem_cons.mpr ⟨(zPk hG hT hN kk_112_0), List.forall_mem_nil _⟩,
  List.forall_mem_cons.mpr ⟨(zPk hG hT hN kk_113_0), List.forall_mem_nil _⟩,
  List.forall_mem_cons.mpr ⟨(zPk hG hT hN kk_114_0), List.forall_mem_nil _⟩,
  List.forall_mem_cons.mpr ⟨(zPk hG hT hN kk_115_0), List.forall_mem_nil _⟩,
  List.forall_mem_cons.mpr ⟨(zPk hG hT hN kk_116_0), List.forall_mem_nil _⟩,
  List.forall_mem_cons.mpr ⟨(zPk hG hT hN kk_117_0), List.forall_mem_nil _⟩,
  List.forall_mem_cons.mpr ⟨(zPk hG hT hN kk_118_0), List.forall_mem_nil _⟩,
  List.forall_mem_cons.mpr ⟨(zPk hG hT hN kk_119_0), List.forall_mem_nil _⟩,
  trivial⟩
set_option maxRecDepth 100000 in
theorem zQ_3 (hG : G.1 = zProg) (hT : G.2.1 = ztx) (hN : G.2.2.1 ≤ 4096) : yQ (zPP G) 120 zCd_3 := ⟨
  List.forall_mem_cons.mpr ⟨(zPk hG hT hN kk_120_0), List.forall_mem_nil _⟩,
  List.forall_mem_cons.mpr ⟨(zPk hG hT hN kk_121_0), List.forall_mem_nil _⟩,
  List.forall_mem_cons.mpr ⟨(zPk hG hT hN kk_122_0), List.forall_mem_nil _⟩,
  List.forall_mem_cons.mpr ⟨(zPk hG hT hN kk_123_0), List.forall_mem_nil _⟩,
  List.forall_mem_cons.mpr ⟨(zPk hG hT hN kk_124_0), List.forall_mem_nil _⟩,
  List.forall_mem_cons.mpr ⟨(zPk hG hT hN kk_125_0), List.forall_mem_nil _⟩,
  List.forall_mem_cons.mpr ⟨(zPk hG hT hN kk_126_0), List.forall_mem_nil _⟩,
  List.forall_mem_cons.mpr ⟨(zPk hG hT hN kk_127_0), List.forall_mem_nil _⟩,
  List.forall_mem_cons.mpr ⟨(zPk hG hT hN kk_128_0), List.forall_mem_nil _⟩,
  List.forall_mem_cons.mpr ⟨(zPk hG hT hN kk_129_0), List.forall_mem_nil _⟩,
  List.forall_mem_cons.mpr ⟨(zPk hG hT hN kk_130_0), List.forall_mem_nil _⟩,
  List.forall_mem_cons.mpr ⟨(zPk hG hT hN kk_131_0), List.forall_mem_nil _⟩,
  List.forall_mem_cons.mpr ⟨(zPk hG hT hN kk_132_0), List.forall_mem_nil _⟩,
  List.forall_mem_cons.mpr ⟨(zPk hG hT hN kk_133_0), List.forall_mem_nil _⟩,
  List.forall_mem_cons.mpr ⟨(zPk hG hT hN kk_134_0), List.forall_mem_nil _⟩,
  List.forall_mem_cons.mpr ⟨(zPk hG hT hN kk_135_0), List.forall_mem_nil _⟩,
  List.forall_mem_cons.mpr ⟨(zPk hG hT hN kk_136_0), List.forall_mem_nil _⟩,
  List.forall_mem_cons.mpr ⟨(zPk hG hT hN kk_137_0), List.forall_mem_nil _⟩,
  List.forall_mem_cons.mpr ⟨(zPk hG hT hN kk_138_0), List.forall_mem_nil _⟩,
  List.forall_mem_cons.mpr ⟨(zPk hG hT hN kk_139_0), List.forall_mem_nil _⟩,
  List.forall_mem_cons.mpr ⟨(zPk hG hT hN kk_140_0), List.forall_mem_nil _⟩,
  List.forall_mem_cons.mpr ⟨(zPk hG hT hN kk_141_0), List.forall_mem_nil _⟩,
  List.forall_mem_cons.mpr ⟨(zPk hG hT hN kk_142_0), List.forall_mem_nil _⟩,
  List.forall_mem_cons.mpr ⟨(zPk hG hT hN kk_143_0), List.forall_mem_nil _⟩,
  List.forall_mem_cons.mpr ⟨(zPk hG hT hN kk_144_0), List.forall_mem_nil _⟩,
  List.forall_mem_cons.mpr ⟨(zPk hG hT hN kk_145_0), List.forall_mem_nil _⟩,
  List.forall_mem_cons.mpr ⟨(zPk hG hT hN kk_146_0), List.forall_mem_nil _⟩,
  List.forall_mem_cons.mpr ⟨(zPk hG hT hN kk_147_0), List.forall_mem_nil _⟩,
  List.forall_mem_cons.mpr ⟨(zPk hG hT hN kk_148_0), List.forall_mem_nil _⟩,
  List.forall_mem_cons.mpr ⟨(zPk hG hT hN kk_149_0), List.forall_mem_nil _⟩,
  List.forall_mem_cons.mpr ⟨(zPk hG hT hN kk_150_0), List.forall_mem_nil _⟩,
  List.forall_mem_cons.mpr ⟨(zPk hG hT hN kk_151_0), List.forall_mem_nil _⟩,
  List.forall_mem_cons.mpr ⟨(zPk hG hT hN kk_152_0), List.forall_mem_nil _⟩,
  List.forall_mem_cons.mpr ⟨(zPk hG hT hN kk_153_0), List.forall_mem_nil _⟩,
  List.forall_mem_cons.mpr ⟨(zPk hG hT hN kk_154_0), List.forall_mem_nil _⟩,
  List.forall_mem_cons.mpr ⟨(zPk hG hT hN kk_155_0), List.forall_mem_nil _⟩,
  List.forall_mem_cons.mpr ⟨(zPk hG hT hN kk_156_0), List.forall_mem_nil _⟩,
  List.forall_mem_cons.mpr ⟨(zPk hG hT hN kk_157_0), List.forall_mem_nil _⟩,
  List.forall_mem_nil _,
  List.forall_mem_nil _,
  trivial⟩
set_option maxRecDepth 100000 in
theorem zQ_4 (hG : G.1 = zProg) (hT : G.2.1 = ztx) (hN : G.2.2.1 ≤ 4096) : yQ (zPP G) 160 zCd_4 := ⟨
  List.forall_mem_nil _,
  List.forall_mem_nil _,
  List.forall_mem_nil _,
  List.forall_mem_nil _,
  List.forall_mem_nil _,
  List.forall_mem_nil _,
  List.forall_mem_nil _,
  List.forall_mem_nil _,
  List.forall_mem_cons.mpr ⟨(zPk hG hT hN kk_168_0), List.forall_mem_nil _⟩,
  List.forall_mem_cons.mpr ⟨(zPk hG hT hN kk_169_0), List.forall_mem_nil _⟩,
  List.forall_mem_nil _,
  List.forall_mem_nil _,
  List.forall_mem_nil _,
  List.forall_mem_nil _,
  List.forall_mem_cons.mpr ⟨(zPk hG hT hN kk_174_0), List.forall_mem_nil _⟩,
  List.forall_mem_nil _,
  List.forall_mem_nil _,
  List.forall_mem_nil _,
  List.forall_mem_nil _,
  List.forall_mem_cons.mpr ⟨(zPk hG hT hN kk_179_0), List.forall_mem_nil _⟩,
  List.forall_mem_cons.mpr ⟨(zPk hG hT hN kk_180_0), List.forall_mem_nil _⟩,
  List.forall_mem_cons.mpr ⟨(zPk hG hT hN kk_181_0), List.forall_mem_nil _⟩,
  List.forall_mem_cons.mpr ⟨(zPk hG hT hN kk_182_0), List.forall_mem_nil _⟩,
  List.forall_mem_cons.mpr ⟨(zPk hG hT hN kk_183_0), List.forall_mem_nil _⟩,
  List.forall_mem_cons.mpr ⟨(zPk hG hT hN kk_184_0), List.forall_mem_nil _⟩,
  List.forall_mem_cons.mpr ⟨(zPk hG hT hN kk_185_0), List.forall_mem_nil _⟩,
  List.forall_mem_cons.mpr ⟨(zPk hG hT hN kk_186_0), List.forall_mem_nil _⟩,
  List.forall_mem_cons.mpr ⟨(zPk hG hT hN kk_187_0), List.forall_mem_nil _⟩,
  List.forall_mem_cons.mpr ⟨(zPk hG hT hN kk_188_0), List.forall_mem_nil _⟩,
  List.forall_mem_cons.mpr ⟨(zPk hG hT hN kk_189_0), List.forall_mem_nil _⟩,
  List.forall_mem_nil _,
  List.forall_mem_cons.mpr ⟨(zPk hG hT hN kk_191_0), List.forall_mem_nil _⟩,
  List.forall_mem_cons.mpr ⟨(zPk hG hT hN kk_192_0), List.forall_mem_nil _⟩,
  List.forall_mem_cons.mpr ⟨(zPk hG hT hN kk_193_0), List.forall_mem_nil _⟩,
  List.forall_mem_nil _,
  List.forall_mem_cons.mpr ⟨(zPk hG hT hN kk_195_0), List.forall_mem_nil _⟩,
  List.forall_mem_cons.mpr ⟨(zPk hG hT hN kk_196_0), List.forall_mem_nil _⟩,
  List.forall_mem_nil _,
  List.forall_mem_cons.mpr ⟨(zPk hG hT hN kk_198_0), List.forall_mem_nil _⟩,
  List.forall_mem_nil _,
  trivial⟩
set_option maxRecDepth 100000 in
theorem zQ_5 (hG : G.1 = zProg) (hT : G.2.1 = ztx) (hN : G.2.2.1 ≤ 4096) : yQ (zPP G) 200 zCd_5 := ⟨
  List.forall_mem_nil _,
  List.forall_mem_nil _,
  List.forall_mem_nil _,
  List.forall_mem_cons.mpr ⟨(zPk hG hT hN kk_203_0), List.forall_mem_cons.mpr ⟨(zPk hG hT hN kk_203_1), List.forall_mem_cons.mpr ⟨(zPk hG hT hN kk_203_2), List.forall_mem_cons.mpr ⟨(zPk hG hT hN kk_203_3), List.forall_mem_cons.mpr ⟨(zPk hG hT hN kk_203_4), List.forall_mem_cons.mpr ⟨(zPk hG hT hN kk_203_5), List.forall_mem_nil _⟩⟩⟩⟩⟩⟩,
  List.forall_mem_nil _,
  List.forall_mem_cons.mpr ⟨(zPk hG hT hN kk_205_0), List.forall_mem_cons.mpr ⟨(zPk hG hT hN kk_205_1), List.forall_mem_cons.mpr ⟨(zPk hG hT hN kk_205_2), List.forall_mem_cons.mpr ⟨(zPk hG hT hN kk_205_3), List.forall_mem_cons.mpr ⟨(zPk hG hT hN kk_205_4), List.forall_mem_cons.mpr ⟨(zPk hG hT hN kk_205_5), List.forall_mem_cons.mpr ⟨(zPk hG hT hN kk_205_6), List.forall_mem_cons.mpr ⟨(zPk hG hT hN kk_205_7), List.forall_mem_cons.mpr ⟨(zPk hG hT hN kk_205_8), List.forall_mem_cons.mpr ⟨(zPk hG hT hN kk_205_9), List.forall_mem_cons.mpr ⟨(zPk hG hT hN kk_205_10), List.forall_mem_cons.mpr ⟨(zPk hG hT hN kk_205_11), List.forall_mem_cons.mpr ⟨(zPk hG hT hN kk_205_12), List.forall_mem_cons.mpr ⟨(zPk hG hT hN kk_205_13), List.forall_mem_cons.mpr ⟨(zPk hG hT hN kk_205_14), List.forall_mem_cons.mpr ⟨(zPk hG hT hN kk_205_15), List.forall_mem_cons.mpr ⟨(zPk hG hT hN kk_205_16), List.forall_mem_cons.mpr ⟨(zPk hG hT hN kk_205_17), List.forall_mem_cons.mpr ⟨(zPk hG hT hN kk_205_18), List.forall_mem_cons.mpr ⟨(zPk hG hT hN kk_205_19), List.forall_mem_nil _⟩⟩⟩⟩⟩⟩⟩⟩⟩⟩⟩⟩⟩⟩⟩⟩⟩⟩⟩⟩,
  List.forall_mem_nil _,
  List.forall_mem_nil _,
  List.forall_mem_nil _,
  List.forall_mem_nil _,
  List.forall_mem_nil _,
  List.forall_mem_cons.mpr ⟨(zPk hG hT hN kk_211_0), List.forall_mem_cons.mpr ⟨(zPk hG hT hN kk_211_1), List.forall_mem_nil _⟩⟩,
  List.forall_mem_cons.mpr ⟨(zPk hG hT hN kk_212_0), List.forall_mem_nil _⟩,
  List.forall_mem_cons.mpr ⟨(zPk hG hT hN kk_213_0), List.forall_mem_nil _⟩,
  List.forall_mem_cons.mpr ⟨(zPk hG hT hN kk_214_0), List.forall_mem_cons.mpr ⟨(zPk hG hT hN kk_214_1), List.forall_mem_nil _⟩⟩,
  List.forall_mem_cons.mpr ⟨(zPk hG hT hN kk_215_0), List.forall_mem_nil _⟩,
  List.forall_mem_cons.mpr ⟨(zPk hG hT hN kk_216_0), List.forall_mem_nil _⟩,
  List.forall_mem_cons.mpr ⟨(zPk hG hT hN kk_217_0), List.forall_mem_nil _⟩,
  List.forall_mem_nil _,
  List.forall_mem_cons.mpr ⟨(zPk hG hT hN kk_219_0), List.forall_mem_nil _⟩,
  List.forall_mem_cons.mpr ⟨(zPk hG hT hN kk_220_0), List.forall_mem_cons.mpr ⟨(zPk hG hT hN kk_220_1), List.forall_mem_nil _⟩⟩,
  List.forall_mem_cons.mpr ⟨(zPk hG hT hN kk_221_0), List.forall_mem_nil _⟩,
  List.forall_mem_cons.mpr ⟨(zPk hG hT hN kk_222_0), List.forall_mem_nil _⟩,
  List.forall_mem_cons.mpr ⟨(zPk hG hT hN kk_223_0), List.forall_mem_nil _⟩,
  List.forall_mem_cons.mpr ⟨(zPk hG hT hN kk_224_0), List.forall_mem_nil _⟩,
  List.forall_mem_cons.mpr ⟨(zPk hG hT hN kk_225_0), List.forall_mem_nil _⟩,
  List.forall_mem_cons.mpr ⟨(zPk hG hT hN kk_226_0), List.forall_mem_nil _⟩,
  List.forall_mem_cons.mpr ⟨(zPk hG hT hN kk_227_0), List.forall_mem_nil _⟩,
  List.forall_mem_cons.mpr ⟨(zPk hG hT hN kk_228_0), List.forall_mem_nil _⟩,
  List.forall_mem_nil _,
  List.forall_mem_nil _,
  List.forall_mem_cons.mpr ⟨(zPk hG hT hN kk_231_0), List.forall_mem_nil _⟩,
  List.forall_mem_cons.mpr ⟨(zPk hG hT hN kk_232_0), List.forall_mem_nil _⟩,
  List.forall_mem_nil _,
  List.forall_mem_nil _,
  List.forall_mem_cons.mpr ⟨(zPk hG hT hN kk_235_0), List.forall_mem_nil _⟩,
  List.forall_mem_cons.mpr ⟨(zPk hG hT hN kk_236_0), List.forall_mem_nil _⟩,
  List.forall_mem_cons.mpr ⟨(zPk hG hT hN kk_237_0), List.forall_mem_nil _⟩,
  List.forall_mem_cons.mpr ⟨(zPk hG hT hN kk_238_0), List.forall_mem_nil _⟩,
  List.forall_mem_cons.mpr ⟨(zPk hG hT hN kk_239_0), List.forall_mem_nil _⟩,
  trivial⟩
set_option maxRecDepth 100000 in
theorem zQ_6 (hG : G.1 = zProg) (hT : G.2.1 = ztx) (hN : G.2.2.1 ≤ 4096) : yQ (zPP G) 240 zCd_6 := ⟨
  List.forall_mem_cons.mpr ⟨(zPk hG hT hN kk_240_0), List.forall_mem_nil _⟩,
  List.forall_mem_cons.mpr ⟨(zPk hG hT hN kk_241_0), List.forall_mem_nil _⟩,
  List.forall_mem_cons.mpr ⟨(zPk hG hT hN kk_242_0), List.forall_mem_nil _⟩,
  List.forall_mem_cons.mpr ⟨(zPk hG hT hN kk_243_0), List.forall_mem_nil _⟩,
  List.forall_mem_cons.mpr ⟨(zPk hG hT hN kk_244_0), List.forall_mem_nil _⟩,
  List.forall_mem_cons.mpr ⟨(zPk hG hT hN kk_245_0), List.forall_mem_nil _⟩,
  List.forall_mem_nil _,
  List.forall_mem_cons.mpr ⟨(zPh (zexp_ok hG)), List.forall_mem_nil _⟩,
  List.forall_mem_cons.mpr ⟨(zPk hG hT hN kk_248_0), List.forall_mem_nil _⟩,
  List.forall_mem_nil _,
  List.forall_mem_cons.mpr ⟨(zPk hG hT hN kk_250_0), List.forall_mem_nil _⟩,
  List.forall_mem_cons.mpr ⟨(zPk hG hT hN kk_251_0), List.forall_mem_nil _⟩,
  List.forall_mem_cons.mpr ⟨(zPk hG hT hN kk_252_0), List.forall_mem_nil _⟩,
  List.forall_mem_cons.mpr ⟨(zPk hG hT hN kk_253_0), List.forall_mem_nil _⟩,
  List.forall_mem_nil _,
  List.forall_mem_nil _,
  List.forall_mem_cons.mpr ⟨(zPk hG hT hN kk_256_0), List.forall_mem_nil _⟩,
  List.forall_mem_cons.mpr ⟨(zPk hG hT hN kk_257_0), List.forall_mem_nil _⟩,
  List.forall_mem_cons.mpr ⟨(zPk hG hT hN kk_258_0), List.forall_mem_nil _⟩,
  List.forall_mem_cons.mpr ⟨(zPk hG hT hN kk_259_0), List.forall_mem_nil _⟩,
  List.forall_mem_cons.mpr ⟨(zPk hG hT hN kk_260_0), List.forall_mem_nil _⟩,
  List.forall_mem_cons.mpr ⟨(zPk hG hT hN kk_261_0), List.forall_mem_nil _⟩,
  List.forall_mem_nil _,
  List.forall_mem_cons.mpr ⟨(zPk hG hT hN kk_263_0), List.forall_mem_nil _⟩,
  List.forall_mem_cons.mpr ⟨(zPk hG hT hN kk_264_0), List.forall_mem_nil _⟩,
  List.forall_mem_cons.mpr ⟨(zPk hG hT hN kk_265_0), List.forall_mem_nil _⟩,
  List.forall_mem_nil _,
  List.forall_mem_nil _,
  List.forall_mem_nil _,
  List.forall_mem_cons.mpr ⟨(zPk hG hT hN kk_269_0), List.forall_mem_nil _⟩,
  List.forall_mem_cons.mpr ⟨(zPk hG hT hN kk_270_0), List.forall_mem_nil _⟩,
  List.forall_mem_cons.mpr ⟨(zPk hG hT hN kk_271_0), List.forall_mem_nil _⟩,
  List.forall_mem_cons.mpr ⟨(zPk hG hT hN kk_272_0), List.forall_mem_nil _⟩,
  List.forall_mem_cons.mpr ⟨(zPk hG hT hN kk_273_0), List.forall_mem_nil _⟩,
  List.forall_mem_cons.mpr ⟨(zPk hG hT hN kk_274_0), List.forall_mem_nil _⟩,
  List.forall_mem_cons.mpr ⟨(zPk hG hT hN kk_275_0), List.forall_mem_nil _⟩,
  List.forall_mem_cons.mpr ⟨(zPk hG hT hN kk_276_0), List.forall_mem_nil _⟩,
  List.forall_mem_cons.mpr ⟨(zPk hG hT hN kk_277_0), List.forall_mem_nil _⟩,
  List.forall_mem_cons.mpr ⟨(zPk hG hT hN kk_278_0), List.forall_mem_nil _⟩,
  List.forall_mem_cons.mpr ⟨(zPk hG hT hN kk_279_0), List.forall_mem_nil _⟩,
  trivial⟩
set_option maxRecDepth 100000 in
theorem zQ_7 (hG : G.1 = zProg) (hT : G.2.1 = ztx) (hN : G.2.2.1 ≤ 4096) : yQ (zPP G) 280 zCd_7 := ⟨
  List.forall_mem_nil _,
  List.forall_mem_cons.mpr ⟨(zPk hG hT hN kk_281_0), List.forall_mem_nil _⟩,
  List.forall_mem_cons.mpr ⟨(zPk hG hT hN kk_282_0), List.forall_mem_cons.mpr ⟨(zPk hG hT hN kk_282_1), List.forall_mem_cons.mpr ⟨(zPk hG hT hN kk_282_2), List.forall_mem_cons.mpr ⟨(zPk hG hT hN kk_282_3), List.forall_mem_cons.mpr ⟨(zPk hG hT hN kk_282_4), List.forall_mem_cons.mpr ⟨(zPk hG hT hN kk_282_5), List.forall_mem_cons.mpr ⟨(zPk hG hT hN kk_282_6), List.forall_mem_nil _⟩⟩⟩⟩⟩⟩⟩,
  List.forall_mem_nil _,
  trivial⟩
set_option maxRecDepth 100000 in
theorem zCT_cat : zCT = (zCd_0 ++ (zCd_1 ++ (zCd_2 ++ (zCd_3 ++ (zCd_4 ++ (zCd_5 ++ (zCd_6 ++ zCd_7))))))) := rfl
theorem zQ_all (hG : G.1 = zProg) (hT : G.2.1 = ztx) (hN : G.2.2.1 ≤ 4096) : yQ (zPP G) 0 zCT := by
  rw [zCT_cat]
  exact (yQ_app (zQ_0 hG hT hN) (yQ_app (zQ_1 hG hT hN) (yQ_app (zQ_2 hG hT hN) (yQ_app (zQ_3 hG hT hN) (yQ_app (zQ_4 hG hT hN) (yQ_app (zQ_5 hG hT hN) (yQ_app (zQ_6 hG hT hN) (zQ_7 hG hT hN))))))))
theorem zAll (hG : G.1 = zProg) (hT : G.2.1 = ztx) (hN : G.2.2.1 ≤ 4096) (n : Nat) : ∀ j cts ct, zCT[j]? = some cts → ct ∈ cts → yVl zTt G (zXt G) zTG zTTy zKI j ct n := by
  have h : ∀ j cts ct, zCT[j]? = some cts → ct ∈ cts → zPP G j ct := fun j cts ct h1 h2 => by
    have := yQ_at (zQ_all hG hT hN) h1 h2
    rw [Nat.zero_add] at this
    exact this
  exact yAll (fun j cts ct h1 h2 => (h j cts ct h1 h2).1) (fun j cts ct h1 h2 => (h j cts ct h1 h2).2) n
end ALL
