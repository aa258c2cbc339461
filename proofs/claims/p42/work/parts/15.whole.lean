set_option maxRecDepth 20000 in
theorem zP_280 : zPL (zNm.drop 280) (zProg.drop 280) (zKm.drop 280) := ⟨⟨mk_280, wk_280, ck_280⟩, ⟨mk_281, wk_281, ck_281⟩, ⟨mk_282, wk_282, ck_282⟩, ⟨mk_283, wk_283, ck_283⟩, trivial⟩
set_option maxRecDepth 20000 in
theorem zP_260 : zPL (zNm.drop 260) (zProg.drop 260) (zKm.drop 260) := ⟨⟨mk_260, wk_260, ck_260⟩, ⟨mk_261, wk_261, ck_261⟩, ⟨mk_262, wk_262, ck_262⟩, ⟨mk_263, wk_263, ck_263⟩, ⟨mk_264, wk_264, ck_264⟩, ⟨mk_265, wk_265, ck_265⟩, ⟨mk_266, wk_266, ck_266⟩, ⟨mk_267, wk_267, ck_267⟩, ⟨mk_268, wk_268, ck_268⟩, ⟨mk_269, wk_269, ck_269⟩, ⟨mk_270, wk_270, ck_270⟩, ⟨mk_271, wk_271, ck_271⟩, ⟨mk_272, wk_272, ck_272⟩, ⟨mk_273, wk_273, ck_273⟩, ⟨mk_274, wk_274, ck_274⟩, ⟨mk_275, wk_275, ck_275⟩, ⟨mk_276, wk_276, ck_276⟩, ⟨mk_277, wk_277, ck_277⟩, ⟨mk_278, wk_278, ck_278⟩, ⟨mk_279, wk_279, ck_279⟩, zP_280⟩
set_option maxRecDepth 20000 in
theorem zP_240 : zPL (zNm.drop 240) (zProg.drop 240) (zKm.drop 240) := ⟨⟨mk_240, wk_240, ck_240⟩, ⟨mk_241, wk_241, ck_241⟩, ⟨mk_242, wk_242, ck_242⟩, ⟨mk_243, wk_243, ck_243⟩, ⟨mk_244, wk_244, ck_244⟩, ⟨mk_245, wk_245, ck_245⟩, ⟨mk_246, wk_246, ck_246⟩, ⟨mk_247, wk_247, ck_247⟩, ⟨mk_248, wk_248, ck_248⟩, ⟨mk_249, wk_249, ck_249⟩, ⟨mk_250, wk_250, ck_250⟩, ⟨mk_251, wk_251, ck_251⟩, ⟨mk_252, wk_252, ck_252⟩, ⟨mk_253, wk_253, ck_253⟩, ⟨mk_254, wk_254, ck_254⟩, ⟨mk_255, wk_255, ck_255⟩, ⟨mk_256, wk_256, ck_256⟩, ⟨mk_257, wk_257, ck_257⟩, ⟨mk_258, wk_258, ck_258⟩, ⟨mk_259, wk_259, ck_259⟩, zP_260⟩
set_option maxRecDepth 20000 in
theorem zP_220 : zPL (zNm.drop 220) (zProg.drop 220) (zKm.drop 220) := ⟨⟨mk_220, wk_220, ck_220⟩, ⟨mk_221, wk_221, ck_221⟩, ⟨mk_222, wk_222, ck_222⟩, ⟨mk_223, wk_223, ck_223⟩, ⟨mk_224, wk_224, ck_224⟩, ⟨mk_225, wk_225, ck_225⟩, ⟨mk_226, wk_226, ck_226⟩, ⟨mk_227, wk_227, ck_227⟩, ⟨mk_228, wk_228, ck_228⟩, ⟨mk_229, wk_229, ck_229⟩, ⟨mk_230, wk_230, ck_230⟩, ⟨mk_231, wk_231, ck_231⟩, ⟨mk_232, wk_232, ck_232⟩, ⟨mk_233, wk_233, ck_233⟩, ⟨mk_234, wk_234, ck_234⟩, ⟨mk_235, wk_235, ck_235⟩, ⟨mk_236, wk_236, ck_236⟩, ⟨mk_237, wk_237, ck_237⟩, ⟨mk_238, wk_238, ck_238⟩, ⟨mk_239, wk_239, ck_239⟩, zP_240⟩
set_option maxRecDepth 20000 in
theorem zP_200 : zPL (zNm.drop 200) (zProg.drop 200) (zKm.drop 200) := ⟨⟨mk_200, wk_200, ck_200⟩, ⟨mk_201, wk_201, ck_201⟩, ⟨mk_202, wk_202, ck_202⟩, ⟨mk_203, wk_203, ck_203⟩, ⟨mk_204, wk_204, ck_204⟩, ⟨mk_205, wk_205, ck_205⟩, ⟨mk_206, wk_206, ck_206⟩, ⟨mk_207, wk_207, ck_207⟩, ⟨mk_208, wk_208, ck_208⟩, ⟨mk_209, wk_209, ck_209⟩, ⟨mk_210, wk_210, ck_210⟩, ⟨mk_211, wk_211, ck_211⟩, ⟨mk_212, wk_212, ck_212⟩, ⟨mk_213, wk_213, ck_213⟩, ⟨mk_214, wk_214, ck_214⟩, ⟨mk_215, wk_215, ck_215⟩, ⟨mk_216, wk_216, ck_216⟩, ⟨mk_217, wk_217, ck_217⟩, ⟨mk_218, wk_218, ck_218⟩, ⟨mk_219, wk_219, ck_219⟩, zP_220⟩
set_option maxRecDepth 20000 in
theorem zP_180 : zPL (zNm.drop 180) (zProg.drop 180) (zKm.drop 180) := ⟨⟨mk_180, wk_180, ck_180⟩, ⟨mk_181, wk_181, ck_181⟩, ⟨mk_182, wk_182, ck_182⟩, ⟨mk_183, wk_183, ck_183⟩, ⟨mk_184, wk_184, ck_184⟩, ⟨mk_185, wk_185, ck_185⟩, ⟨mk_186, wk_186, ck_186⟩, ⟨mk_187, wk_187, ck_187⟩, ⟨mk_188, wk_188, ck_188⟩, ⟨mk_189, wk_189, ck_189⟩, ⟨mk_190, wk_190, ck_190⟩, ⟨mk_191, wk_191, ck_191⟩, ⟨mk_192, wk_192, ck_192⟩, ⟨mk_193, wk_193, ck_193⟩, ⟨mk_194, wk_194, ck_194⟩, ⟨mk_195, wk_195, ck_195⟩, ⟨mk_196, wk_196, ck_196⟩, ⟨mk_197, wk_197, ck_197⟩, ⟨mk_198, wk_198, ck_198⟩, ⟨mk_199, wk_199, ck_199⟩, zP_200⟩
set_option maxRecDepth 20000 in
theorem zP_160 : zPL (zNm.drop 160) (zProg.drop 160) (zKm.drop 160) := ⟨⟨mk_160, wk_160, ck_160⟩, ⟨mk_161, wk_161, ck_161⟩, ⟨mk_162, wk_162, ck_162⟩, ⟨mk_163, wk_163, ck_163⟩, ⟨mk_164, wk_164, ck_164⟩, ⟨mk_165, wk_165, ck_165⟩, ⟨mk_166, wk_166, ck_166⟩, ⟨mk_167, wk_167, ck_167⟩, ⟨mk_168, wk_168, ck_168⟩, ⟨mk_169, wk_169, ck_169⟩, ⟨mk_170, wk_170, ck_170⟩, ⟨mk_171, wk_171, ck_171⟩, ⟨mk_172, wk_172, ck_172⟩, ⟨mk_173, wk_173, ck_173⟩, ⟨mk_174, wk_174, ck_174⟩, ⟨mk_175, wk_175, ck_175⟩, ⟨mk_176, wk_176, ck_176⟩, ⟨mk_177, wk_177, ck_177⟩, ⟨mk_178, wk_178, ck_178⟩, ⟨mk_179, wk_179, ck_179⟩, zP_180⟩
set_option maxRecDepth 20000 in
theorem zP_140 : zPL (zNm.drop 140) (zProg.drop 140) (zKm.drop 140) := ⟨⟨mk_140, wk_140, ck_140⟩, ⟨mk_141, wk_141, ck_141⟩, ⟨mk_142, wk_142, ck_142⟩, ⟨mk_143, wk_143, ck_143⟩, ⟨mk_144, wk_144, ck_144⟩, ⟨mk_145, wk_145, ck_145⟩, ⟨mk_146, wk_146, ck_146⟩, ⟨mk_147, wk_147, ck_147⟩, ⟨mk_148, wk_148, ck_148⟩, ⟨mk_149, wk_149, ck_149⟩, ⟨mk_150, wk_150, ck_150⟩, ⟨mk_151, wk_151, ck_151⟩, ⟨mk_152, wk_152, ck_152⟩, ⟨mk_153, wk_153, ck_153⟩, ⟨mk_154, wk_154, ck_154⟩, ⟨mk_155, wk_155, ck_155⟩, ⟨mk_156, wk_156, ck_156⟩, ⟨mk_157, wk_157, ck_157⟩, ⟨mk_158, wk_158, ck_158⟩, ⟨mk_159, wk_159, ck_159⟩, zP_160⟩
set_option maxRecDepth 20000 in
theorem zP_120 : zPL (zNm.drop 120) (zProg.drop 120) (zKm.drop 120) := ⟨⟨mk_120, wk_120, ck_120⟩, ⟨mk_121, wk_121, ck_121⟩, ⟨mk_122, wk_122, ck_122⟩, ⟨mk_123, wk_123, ck_123⟩, ⟨mk_124, wk_124, ck_124⟩, ⟨mk_125, wk_125, ck_125⟩, ⟨mk_126, wk_126, ck_126⟩, ⟨mk_127, wk_127, ck_127⟩, ⟨mk_128, wk_128, ck_128⟩, ⟨mk_129, wk_129, ck_129⟩, ⟨mk_130, wk_130, ck_130⟩, ⟨mk_131, wk_131, ck_131⟩, ⟨mk_132, wk_132, ck_132⟩, ⟨mk_133, wk_133, ck_133⟩, ⟨mk_134, wk_134, ck_134⟩, ⟨mk_135, wk_135, ck_135⟩, ⟨mk_136, wk_136, ck_136⟩, ⟨mk_137, wk_137, ck_137⟩, ⟨mk_138, wk_138, ck_138⟩, ⟨mk_139, wk_139, ck_139⟩, zP_140⟩
set_option maxRecDepth 20000 in
theorem zP_100 : zPL (zNm.drop 100) (zProg.drop 100) (zKm.drop 100) := ⟨⟨mk_100, wk_100, ck_100⟩, ⟨mk_101, wk_101, ck_101⟩, ⟨mk_102, wk_102, ck_102⟩, ⟨mk_103, wk_103, ck_103⟩, ⟨mk_104, wk_104, ck_104⟩, ⟨mk_105, wk_105, ck_105⟩, ⟨mk_106, wk_106, ck_106⟩, ⟨mk_107, wk_107, ck_107⟩, ⟨mk_108, wk_108, ck_108⟩, ⟨mk_109, wk_109, ck_109⟩, ⟨mk_110, wk_110, ck_110⟩, ⟨mk_111, wk_111, ck_111⟩, ⟨mk_112, wk_112, ck_112⟩, ⟨mk_113, wk_113, ck_113⟩, ⟨mk_114, wk_114, ck_114⟩, ⟨mk_115, wk_115, ck_115⟩, ⟨mk_116, wk_116, ck_116⟩, ⟨mk_117, wk_117, ck_117⟩, ⟨mk_118, wk_118, ck_118⟩, ⟨mk_119, wk_119, ck_119⟩, zP_120⟩
set_option maxRecDepth 20000 in
theorem zP_80 : zPL (zNm.drop 80) (zProg.drop 80) (zKm.drop 80) := ⟨⟨mk_80, wk_80, ck_80⟩, ⟨mk_81, wk_81, ck_81⟩, ⟨mk_82, wk_82, ck_82⟩, ⟨mk_83, wk_83, ck_83⟩, ⟨mk_84, wk_84, ck_84⟩, ⟨mk_85, wk_85, ck_85⟩, ⟨mk_86, wk_86, ck_86⟩, ⟨mk_87, wk_87, ck_87⟩, ⟨mk_88, wk_88, ck_88⟩, ⟨mk_89, wk_89, ck_89⟩, ⟨mk_90, wk_90, ck_90⟩, ⟨mk_91, wk_91, ck_91⟩, ⟨mk_92, wk_92, ck_92⟩, ⟨mk_93, wk_93, ck_93⟩, ⟨mk_94, wk_94, ck_94⟩, ⟨mk_95, wk_95, ck_95⟩, ⟨mk_96, wk_96, ck_96⟩, ⟨mk_97, wk_97, ck_97⟩, ⟨mk_98, wk_98, ck_98⟩, ⟨mk_99, wk_99, ck_99⟩, zP_100⟩
set_option maxRecDepth 20000 in
theorem zP_60 : zPL (zNm.drop 60) (zProg.drop 60) (zKm.drop 60) := ⟨⟨mk_60, wk_60, ck_60⟩, ⟨mk_61, wk_61, ck_61⟩, ⟨mk_62, wk_62, ck_62⟩, ⟨mk_63, wk_63, ck_63⟩, ⟨mk_64, wk_64, ck_64⟩, ⟨mk_65, wk_65, ck_65⟩, ⟨mk_66, wk_66, ck_66⟩, ⟨mk_67, wk_67, ck_67⟩, ⟨mk_68, wk_68, ck_68⟩, ⟨mk_69, wk_69, ck_69⟩, ⟨mk_70, wk_70, ck_70⟩, ⟨mk_71, wk_71, ck_71⟩, ⟨mk_72, wk_72, ck_72⟩, ⟨mk_73, wk_73, ck_73⟩, ⟨mk_74, wk_74, ck_74⟩, ⟨mk_75, wk_75, ck_75⟩, ⟨mk_76, wk_76, ck_76⟩, ⟨mk_77, wk_77, ck_77⟩, ⟨mk_78, wk_78, ck_78⟩, ⟨mk_79, wk_79, ck_79⟩, zP_80⟩
set_option maxRecDepth 20000 in
theorem zP_40 : zPL (zNm.drop 40) (zProg.drop 40) (zKm.drop 40) := ⟨⟨mk_40, wk_40, ck_40⟩, ⟨mk_41, wk_41, ck_41⟩, ⟨mk_42, wk_42, ck_42⟩, ⟨mk_43, wk_43, ck_43⟩, ⟨mk_44, wk_44, ck_44⟩, ⟨mk_45, wk_45, ck_45⟩, ⟨mk_46, wk_46, ck_46⟩, ⟨mk_47, wk_47, ck_47⟩, ⟨mk_48, wk_48, ck_48⟩, ⟨mk_49, wk_49, ck_49⟩, ⟨mk_50, wk_50, ck_50⟩, ⟨mk_51, wk_51, ck_51⟩, ⟨mk_52, wk_52, ck_52⟩, ⟨mk_53, wk_53, ck_53⟩, ⟨mk_54, wk_54, ck_54⟩, ⟨mk_55, wk_55, ck_55⟩, ⟨mk_56, wk_56, ck_56⟩, ⟨mk_57, wk_57, ck_57⟩, ⟨mk_58, wk_58, ck_58⟩, ⟨mk_59, wk_59, ck_59⟩, zP_60⟩
set_option maxRecDepth 20000 in
theorem zP_20 : zPL (zNm.drop 20) (zProg.drop 20) (zKm.drop 20) := ⟨⟨mk_20, wk_20, ck_20⟩, ⟨mk_21, wk_21, ck_21⟩, ⟨mk_22, wk_22, ck_22⟩, ⟨mk_23, wk_23, ck_23⟩, ⟨mk_24, wk_24, ck_24⟩, ⟨mk_25, wk_25, ck_25⟩, ⟨mk_26, wk_26, ck_26⟩, ⟨mk_27, wk_27, ck_27⟩, ⟨mk_28, wk_28, ck_28⟩, ⟨mk_29, wk_29, ck_29⟩, ⟨mk_30, wk_30, ck_30⟩, ⟨mk_31, wk_31, ck_31⟩, ⟨mk_32, wk_32, ck_32⟩, ⟨mk_33, wk_33, ck_33⟩, ⟨mk_34, wk_34, ck_34⟩, ⟨mk_35, wk_35, ck_35⟩, ⟨mk_36, wk_36, ck_36⟩, ⟨mk_37, wk_37, ck_37⟩, ⟨mk_38, wk_38, ck_38⟩, ⟨mk_39, wk_39, ck_39⟩, zP_40⟩
set_option maxRecDepth 20000 in
theorem zP_0 : zPL (zNm.drop 0) (zProg.drop 0) (zKm.drop 0) := ⟨⟨mk_0, wk_0, ck_0⟩, ⟨mk_1, wk_1, ck_1⟩, ⟨mk_2, wk_2, ck_2⟩, ⟨mk_3, wk_3, ck_3⟩, ⟨mk_4, wk_4, ck_4⟩, ⟨mk_5, wk_5, ck_5⟩, ⟨mk_6, wk_6, ck_6⟩, ⟨mk_7, wk_7, ck_7⟩, ⟨mk_8, wk_8, ck_8⟩, ⟨mk_9, wk_9, ck_9⟩, ⟨mk_10, wk_10, ck_10⟩, ⟨mk_11, wk_11, ck_11⟩, ⟨mk_12, wk_12, ck_12⟩, ⟨mk_13, wk_13, ck_13⟩, ⟨mk_14, wk_14, ck_14⟩, ⟨mk_15, wk_15, ck_15⟩, ⟨mk_16, wk_16, ck_16⟩, ⟨mk_17, wk_17, ck_17⟩, ⟨mk_18, wk_18, ck_18⟩, ⟨mk_19, wk_19, ck_19⟩, zP_20⟩
theorem zPok_G {tx : Nat → List Int32} {N : Nat} {xs : Nat → Int32} : zPok zTabs zCl zNm zKm (zProg, tx, N, xs) := fun j y bytes np hj cd nL rt mc ms hi => by
  obtain ⟨i, ps, h1, h2, h3, h4⟩ := zPL_at zNm zProg zKm zP_0 j _ hj
  have hi' : zProg[j]? = some (cd, nL, rt, mc, ms) := hi
  rw [h1] at hi'
  cases hi'
  unfold zmok1 at h2
  simp only [Bool.and_eq_true, decide_eq_true_eq] at h2
  exact ⟨h2.2.1, h4⟩
theorem zMok_G {tx : Nat → List Int32} {N : Nat} {xs : Nat → Int32} : zMok zTs zNm zKm (zProg, tx, N, xs) := fun j y bytes np hj => by
  obtain ⟨⟨cd, nL, rt, mc, ms⟩, ps, h1, h2, h3, h4⟩ := zPL_at zNm zProg zKm zP_0 j _ hj
  unfold zmok1 at h2
  simp only [Bool.and_eq_true, decide_eq_true_eq] at h2
  obtain ⟨a1, a2, a3, a5, a6⟩ := h2
  refine ⟨cd, nL, rt, mc, ms, h1, a1, zin_mem a3, List.mem_filter.mpr ⟨h3, rfl⟩, a5, fun e => ?_, fun e => ?_, fun e => ?_⟩
  · rw [e] at a6
    exact zin_mem a6
  · rw [e] at a6
    simp only [Bool.and_eq_true] at a6
    exact ⟨zin_mem a6.1, zin_mem a6.2⟩
  · rw [e] at a6
    simp only [Bool.and_eq_true, decide_eq_true_eq] at a6
    exact ⟨zin_mem a6.1, a6.2⟩
theorem zGood : GoodIn zTs zTs := fun w hw => ⟨hw, good_of_word (List.mem_filter.mp hw).2⟩
noncomputable def zwall : List Jvm.Cond → List Nat → Bool
  | w :: r, p :: ps => zin zTabs p w && zwall r ps
  | [], _ => true
  | _ :: _, [] => false
theorem zwall_ok : ∀ (ws : List Jvm.Cond) (ps : List Nat), zwall ws ps = true → ∀ w ∈ ws, w ∈ zTs
  | [], _, _, w, h => absurd h List.not_mem_nil
  | w0 :: r, p :: ps, h, w, hw => by
    unfold zwall at h
    rw [Bool.and_eq_true] at h
    rcases List.mem_cons.mp hw with rfl | hw
    · exact zin_mem h.1
    · exact zwall_ok r ps h.2 w hw
theorem iX0 : ∀ w ∈ u_ws RX0 TX0 11, w ∈ zTs := zwall_ok _ [3064, 3066, 3068, 3070, 3072, 3074, 3076, 3078, 3080, 3082, 3084] (by decide +kernel)
theorem iX1 : ∀ w ∈ u_ws RX1 TX1 13, w ∈ zTs := zwall_ok _ [2009, 2011, 2013, 2015, 2017, 2019, 2021, 2023, 2025, 2027, 2029, 2031, 2033] (by decide +kernel)
theorem iX2 : ∀ w ∈ u_ws RX2 TX2 10, w ∈ zTs := zwall_ok _ [1091, 1093, 1095, 1097, 1099, 1101, 1103, 1105, 1107, 1109] (by decide +kernel)
theorem iX3 : ∀ w ∈ u_ws RX3 TX3 8, w ∈ zTs := zwall_ok _ [1051, 1053, 1055, 1057, 1059, 1061, 1063, 1065] (by decide +kernel)
theorem iX4 : ∀ w ∈ u_ws RX4 TX4 5, w ∈ zTs := zwall_ok _ [2048, 2050, 2052, 2054, 2056] (by decide +kernel)
theorem iX5 : ∀ w ∈ u_ws RX5 TX5 8, w ∈ zTs := zwall_ok _ [2076, 2078, 2080, 2082, 2084, 2086, 2088, 2090] (by decide +kernel)
theorem iX6 : ∀ w ∈ u_ws RX6 TX6 5, w ∈ zTs := zwall_ok _ [2106, 2108, 2110, 2112, 2114] (by decide +kernel)
theorem iX7 : ∀ w ∈ u_ws RX7 TX7 6, w ∈ zTs := zwall_ok _ [1171, 1173, 1175, 1177, 1179, 1181] (by decide +kernel)
theorem iX8 : ∀ w ∈ u_ws RX8 TX8 10, w ∈ zTs := zwall_ok _ [1134, 1136, 1138, 1140, 1142, 1144, 1146, 1148, 1150, 1152] (by decide +kernel)
theorem iX9 : ∀ w ∈ u_ws RX9 TX9 6, w ∈ zTs := zwall_ok _ [2132, 2134, 2136, 2138, 2140, 2142] (by decide +kernel)
theorem iX10 : ∀ w ∈ u_ws RX10 TX10 10, w ∈ zTs := zwall_ok _ [1202, 1204, 1206, 1208, 1210, 1212, 1214, 1216, 1218, 1220] (by decide +kernel)
theorem iX11 : ∀ w ∈ u_ws RX11 TX11 15, w ∈ zTs := zwall_ok _ [2160, 2162, 2164, 2166, 2168, 2170, 2172, 2174, 2176, 2178, 2180, 2182, 2184, 2186, 2188] (by decide +kernel)
theorem iX12 : ∀ w ∈ u_ws RX12 TX12 96, w ∈ zTs := zwall_ok _ [6143, 6145, 6147, 6149, 6151, 6153, 6155, 6157, 6159, 6161, 6163, 6165, 6167, 6169, 6171, 6173, 6175, 6177, 6179, 6181, 6183, 6185, 6187, 6189, 6191, 6193, 6195, 6197, 6199, 6201, 6203, 6205, 6207, 6209, 6211, 6213, 6215, 6217, 6219, 6221, 6223, 6225, 6227, 6229, 6231, 6233, 6235, 6237, 6239, 7001, 7003, 7005, 7007, 7009, 7011, 7013, 7015, 7017, 7019, 7021, 7023, 7025, 7027, 7029, 7031, 7033, 7035, 7037, 7039, 7041, 7043, 7045, 7047, 7049, 7051, 7053, 7055, 7057, 7059, 7061, 7063, 7065, 7067, 7069, 7071, 7073, 7075, 7077, 7079, 7081, 7083, 7085, 7087, 7089, 7091, 7093] (by decide +kernel)
theorem zTT_G : zTT zTt zCl zTs := by
  intro k q hq
  match k, hq with
  | 0, hq => cases hq; exact ⟨tyX0, _, rfl, tyX0_ok, nmX0, iX0⟩
  | 1, hq => cases hq; exact ⟨tyX1, _, rfl, tyX1_ok, nmX1, iX1⟩
  | 2, hq => cases hq; exact ⟨tyX2, _, rfl, tyX2_ok, nmX2, iX2⟩
  | 3, hq => cases hq; exact ⟨tyX3, _, rfl, tyX3_ok, nmX3, iX3⟩
  | 4, hq => cases hq; exact ⟨tyX4, _, rfl, tyX4_ok, nmX4, iX4⟩
  | 5, hq => cases hq; exact ⟨tyX5, _, rfl, tyX5_ok, nmX5, iX5⟩
  | 6, hq => cases hq; exact ⟨tyX6, _, rfl, tyX6_ok, nmX6, iX6⟩
  | 7, hq => cases hq; exact ⟨tyX7, _, rfl, tyX7_ok, nmX7, iX7⟩
  | 8, hq => cases hq; exact ⟨tyX8, _, rfl, tyX8_ok, nmX8, iX8⟩
  | 9, hq => cases hq; exact ⟨tyX9, _, rfl, tyX9_ok, nmX9, iX9⟩
  | 10, hq => cases hq; exact ⟨tyX10, _, rfl, tyX10_ok, nmX10, iX10⟩
  | 11, hq => cases hq; exact ⟨tyX11, _, rfl, tyX11_ok, nmX11, iX11⟩
  | 12, hq => cases hq; exact ⟨tyX12, _, rfl, tyX12_ok, nmX12, iX12⟩
  | k + 13, hq => simp [zCl] at hq
noncomputable def R_lawz : String := "TankBehindLaw"
theorem zall_app {tb : List (List Jvm.Cond)} {cl : List vw_C} {nm : List (MethodName × ByteArray × Nat)} {km : List Nat} {law ini : Bool} {own : String} {bytes : ByteArray} : ∀ (a : zK) (pa : List (List Nat)) (k : Nat) (b : zK) (pb : List (List Nat)), a.length = pa.length → zall tb cl nm km law ini own bytes k a pa = true → zall tb cl nm km law ini own bytes (k + a.length) b pb = true → zall tb cl nm km law ini own bytes k (a ++ b) (pa ++ pb) = true
  | [], [], k, b, pb, _, _, h2 => h2
  | [], _ :: _, _, _, _, hl, _, _ => by cases hl
  | _ :: _, [], _, _, _, hl, _, _ => by cases hl
  | none :: r, p :: ps, k, b, pb, hl, h1, h2 => by
    have h3 := zall_app r ps (k + 1) b pb (Nat.succ.inj hl) h1 (by rw [show k + 1 + r.length = k + (none :: r : zK).length by simp only [List.length_cons]; omega]; exact h2)
    exact h3
  | some e :: r, p :: ps, k, b, pb, hl, h1, h2 => by
    unfold zall at h1
    rw [Bool.and_eq_true] at h1
    have h3 := zall_app r ps (k + 1) b pb (Nat.succ.inj hl) h1.2 (by rw [show k + 1 + r.length = k + (some e :: r : zK).length by simp only [List.length_cons]; omega]; exact h2)
    show zall tb cl nm km law ini own bytes k (some e :: (r ++ b)) (p :: (ps ++ pb)) = true
    unfold zall
    rw [Bool.and_eq_true]
    exact ⟨h1.1, h3⟩
theorem ckT_22 : zall zTabs zCl zNm zKm true false R_lawz code 2146 cdT_22 ppT_22 = true := rfl
theorem ckL_21 : zall zTabs zCl zNm zKm true false R_lawz code 2100 cdL_21 ppL_21 = true := zal2_ok cdL_21 ppL_21 2100 (code.data.toList.drop 2100) rfl (by decide +kernel)
theorem ckT_21 : zall zTabs zCl zNm zKm true false R_lawz code 2100 cdT_21 ppT_21 = true := zall_app cdL_21 ppL_21 2100 _ _ rfl ckL_21 ckT_22
theorem ckL_20 : zall zTabs zCl zNm zKm true false R_lawz code 2000 cdL_20 ppL_20 = true := zal2_ok cdL_20 ppL_20 2000 (code.data.toList.drop 2000) rfl (by decide +kernel)
theorem ckT_20 : zall zTabs zCl zNm zKm true false R_lawz code 2000 cdT_20 ppT_20 = true := zall_app cdL_20 ppL_20 2000 _ _ rfl ckL_20 ckT_21
theorem ckL_19 : zall zTabs zCl zNm zKm true false R_lawz code 1900 cdL_19 ppL_19 = true := zal2_ok cdL_19 ppL_19 1900 (code.data.toList.drop 1900) rfl (by decide +kernel)
theorem ckT_19 : zall zTabs zCl zNm zKm true false R_lawz code 1900 cdT_19 ppT_19 = true := zall_app cdL_19 ppL_19 1900 _ _ rfl ckL_19 ckT_20
theorem ckL_18 : zall zTabs zCl zNm zKm true false R_lawz code 1800 cdL_18 ppL_18 = true := zal2_ok cdL_18 ppL_18 1800 (code.data.toList.drop 1800) rfl (by decide +kernel)
theorem ckT_18 : zall zTabs zCl zNm zKm true false R_lawz code 1800 cdT_18 ppT_18 = true := zall_app cdL_18 ppL_18 1800 _ _ rfl ckL_18 ckT_19
theorem ckL_17 : zall zTabs zCl zNm zKm true false R_lawz code 1700 cdL_17 ppL_17 = true := zal2_ok cdL_17 ppL_17 1700 (code.data.toList.drop 1700) rfl (by decide +kernel)
theorem ckT_17 : zall zTabs zCl zNm zKm true false R_lawz code 1700 cdT_17 ppT_17 = true := zall_app cdL_17 ppL_17 1700 _ _ rfl ckL_17 ckT_18
theorem ckL_16 : zall zTabs zCl zNm zKm true false R_lawz code 1600 cdL_16 ppL_16 = true := zal2_ok cdL_16 ppL_16 1600 (code.data.toList.drop 1600) rfl (by decide +kernel)
theorem ckT_16 : zall zTabs zCl zNm zKm true false R_lawz code 1600 cdT_16 ppT_16 = true := zall_app cdL_16 ppL_16 1600 _ _ rfl ckL_16 ckT_17
theorem ckL_15 : zall zTabs zCl zNm zKm true false R_lawz code 1500 cdL_15 ppL_15 = true := zal2_ok cdL_15 ppL_15 1500 (code.data.toList.drop 1500) rfl (by decide +kernel)
theorem ckT_15 : zall zTabs zCl zNm zKm true false R_lawz code 1500 cdT_15 ppT_15 = true := zall_app cdL_15 ppL_15 1500 _ _ rfl ckL_15 ckT_16
theorem ckL_14 : zall zTabs zCl zNm zKm true false R_lawz code 1400 cdL_14 ppL_14 = true := zal2_ok cdL_14 ppL_14 1400 (code.data.toList.drop 1400) rfl (by decide +kernel)
theorem ckT_14 : zall zTabs zCl zNm zKm true false R_lawz code 1400 cdT_14 ppT_14 = true := zall_app cdL_14 ppL_14 1400 _ _ rfl ckL_14 ckT_15
theorem ckL_13 : zall zTabs zCl zNm zKm true false R_lawz code 1300 cdL_13 ppL_13 = true := zal2_ok cdL_13 ppL_13 1300 (code.data.toList.drop 1300) rfl (by decide +kernel)
theorem ckT_13 : zall zTabs zCl zNm zKm true false R_lawz code 1300 cdT_13 ppT_13 = true := zall_app cdL_13 ppL_13 1300 _ _ rfl ckL_13 ckT_14
theorem ckL_12 : zall zTabs zCl zNm zKm true false R_lawz code 1200 cdL_12 ppL_12 = true := zal2_ok cdL_12 ppL_12 1200 (code.data.toList.drop 1200) rfl (by decide +kernel)
theorem ckT_12 : zall zTabs zCl zNm zKm true false R_lawz code 1200 cdT_12 ppT_12 = true := zall_app cdL_12 ppL_12 1200 _ _ rfl ckL_12 ckT_13
theorem ckL_11 : zall zTabs zCl zNm zKm true false R_lawz code 1100 cdL_11 ppL_11 = true := zal2_ok cdL_11 ppL_11 1100 (code.data.toList.drop 1100) rfl (by decide +kernel)
theorem ckT_11 : zall zTabs zCl zNm zKm true false R_lawz code 1100 cdT_11 ppT_11 = true := zall_app cdL_11 ppL_11 1100 _ _ rfl ckL_11 ckT_12
theorem ckL_10 : zall zTabs zCl zNm zKm true false R_lawz code 1000 cdL_10 ppL_10 = true := zal2_ok cdL_10 ppL_10 1000 (code.data.toList.drop 1000) rfl (by decide +kernel)
theorem ckT_10 : zall zTabs zCl zNm zKm true false R_lawz code 1000 cdT_10 ppT_10 = true := zall_app cdL_10 ppL_10 1000 _ _ rfl ckL_10 ckT_11
theorem ckL_9 : zall zTabs zCl zNm zKm true false R_lawz code 900 cdL_9 ppL_9 = true := zal2_ok cdL_9 ppL_9 900 (code.data.toList.drop 900) rfl (by decide +kernel)
theorem ckT_9 : zall zTabs zCl zNm zKm true false R_lawz code 900 cdT_9 ppT_9 = true := zall_app cdL_9 ppL_9 900 _ _ rfl ckL_9 ckT_10
theorem ckL_8 : zall zTabs zCl zNm zKm true false R_lawz code 800 cdL_8 ppL_8 = true := zal2_ok cdL_8 ppL_8 800 (code.data.toList.drop 800) rfl (by decide +kernel)
theorem ckT_8 : zall zTabs zCl zNm zKm true false R_lawz code 800 cdT_8 ppT_8 = true := zall_app cdL_8 ppL_8 800 _ _ rfl ckL_8 ckT_9
theorem ckL_7 : zall zTabs zCl zNm zKm true false R_lawz code 700 cdL_7 ppL_7 = true := zal2_ok cdL_7 ppL_7 700 (code.data.toList.drop 700) rfl (by decide +kernel)
theorem ckT_7 : zall zTabs zCl zNm zKm true false R_lawz code 700 cdT_7 ppT_7 = true := zall_app cdL_7 ppL_7 700 _ _ rfl ckL_7 ckT_8
theorem ckL_6 : zall zTabs zCl zNm zKm true false R_lawz code 600 cdL_6 ppL_6 = true := zal2_ok cdL_6 ppL_6 600 (code.data.toList.drop 600) rfl (by decide +kernel)
theorem ckT_6 : zall zTabs zCl zNm zKm true false R_lawz code 600 cdT_6 ppT_6 = true := zall_app cdL_6 ppL_6 600 _ _ rfl ckL_6 ckT_7
theorem ckL_5 : zall zTabs zCl zNm zKm true false R_lawz code 500 cdL_5 ppL_5 = true := zal2_ok cdL_5 ppL_5 500 (code.data.toList.drop 500) rfl (by decide +kernel)
theorem ckT_5 : zall zTabs zCl zNm zKm true false R_lawz code 500 cdT_5 ppT_5 = true := zall_app cdL_5 ppL_5 500 _ _ rfl ckL_5 ckT_6
theorem ckL_4 : zall zTabs zCl zNm zKm true false R_lawz code 400 cdL_4 ppL_4 = true := zal2_ok cdL_4 ppL_4 400 (code.data.toList.drop 400) rfl (by decide +kernel)
theorem ckT_4 : zall zTabs zCl zNm zKm true false R_lawz code 400 cdT_4 ppT_4 = true := zall_app cdL_4 ppL_4 400 _ _ rfl ckL_4 ckT_5
theorem ckL_3 : zall zTabs zCl zNm zKm true false R_lawz code 300 cdL_3 ppL_3 = true := zal2_ok cdL_3 ppL_3 300 (code.data.toList.drop 300) rfl (by decide +kernel)
theorem ckT_3 : zall zTabs zCl zNm zKm true false R_lawz code 300 cdT_3 ppT_3 = true := zall_app cdL_3 ppL_3 300 _ _ rfl ckL_3 ckT_4
theorem ckL_2 : zall zTabs zCl zNm zKm true false R_lawz code 200 cdL_2 ppL_2 = true := zal2_ok cdL_2 ppL_2 200 (code.data.toList.drop 200) rfl (by decide +kernel)
theorem ckT_2 : zall zTabs zCl zNm zKm true false R_lawz code 200 cdT_2 ppT_2 = true := zall_app cdL_2 ppL_2 200 _ _ rfl ckL_2 ckT_3
theorem ckL_1 : zall zTabs zCl zNm zKm true false R_lawz code 100 cdL_1 ppL_1 = true := zal2_ok cdL_1 ppL_1 100 (code.data.toList.drop 100) rfl (by decide +kernel)
theorem ckT_1 : zall zTabs zCl zNm zKm true false R_lawz code 100 cdT_1 ppT_1 = true := zall_app cdL_1 ppL_1 100 _ _ rfl ckL_1 ckT_2
theorem ckL_0 : zall zTabs zCl zNm zKm true false R_lawz code 0 cdL_0 ppL_0 = true := zal2_ok cdL_0 ppL_0 0 (code.data.toList.drop 0) rfl (by decide +kernel)
theorem ckT_0 : zall zTabs zCl zNm zKm true false R_lawz code 0 cdT_0 ppT_0 = true := zall_app cdL_0 ppL_0 0 _ _ rfl ckL_0 ckT_1
theorem ck_L : zCok zTabs zCl zNm zKm true false R_lawz code cd_L := zCok_of pp_L ckT_0
