/-! of every method's head; all together -/
theorem xi_lp_at {b n i : Nat} (h : (List.range n).all (fun k => xi_ckr xi_lwq (b + k)) = true) (h1 : b ≤ i) (h2 : i < b + n) : xi_ckr xi_lwq i = true := by
  have h3 := List.all_eq_true.mp h (i - b) (List.mem_range.mpr (by omega))
  rw [show b + (i - b) = i by omega] at h3
  exact h3
theorem xi_lw_len : xc_257.length = 1133 := by decide +kernel
theorem xi_c_law : [(xm_257, 4, 1, xc_257)].all xi_cka = true := by
  rw [List.all_cons, List.all_nil, Bool.and_true]
  unfold xi_cka
  refine List.all_eq_true.mpr (fun i hi => ?_)
  have hi : i < xc_257.length := List.mem_range.mp hi
  rw [xi_lw_len] at hi
  show xi_ckr xi_lwq i = true
  by_cases h0 : i < 48
  · exact xi_lp_at xi_lp_0 (by omega) (by omega)
  by_cases h1 : i < 96
  · exact xi_lp_at xi_lp_1 (by omega) (by omega)
  by_cases h2 : i < 144
  · exact xi_lp_at xi_lp_2 (by omega) (by omega)
  by_cases h3 : i < 192
  · exact xi_lp_at xi_lp_3 (by omega) (by omega)
  by_cases h4 : i < 240
  · exact xi_lp_at xi_lp_4 (by omega) (by omega)
  by_cases h5 : i < 288
  · exact xi_lp_at xi_lp_5 (by omega) (by omega)
  by_cases h6 : i < 336
  · exact xi_lp_at xi_lp_6 (by omega) (by omega)
  by_cases h7 : i < 384
  · exact xi_lp_at xi_lp_7 (by omega) (by omega)
  by_cases h8 : i < 432
  · exact xi_lp_at xi_lp_8 (by omega) (by omega)
  by_cases h9 : i < 480
  · exact xi_lp_at xi_lp_9 (by omega) (by omega)
  by_cases h10 : i < 528
  · exact xi_lp_at xi_lp_10 (by omega) (by omega)
  by_cases h11 : i < 576
  · exact xi_lp_at xi_lp_11 (by omega) (by omega)
  by_cases h12 : i < 624
  · exact xi_lp_at xi_lp_12 (by omega) (by omega)
  by_cases h13 : i < 672
  · exact xi_lp_at xi_lp_13 (by omega) (by omega)
  by_cases h14 : i < 720
  · exact xi_lp_at xi_lp_14 (by omega) (by omega)
  by_cases h15 : i < 768
  · exact xi_lp_at xi_lp_15 (by omega) (by omega)
  by_cases h16 : i < 816
  · exact xi_lp_at xi_lp_16 (by omega) (by omega)
  by_cases h17 : i < 864
  · exact xi_lp_at xi_lp_17 (by omega) (by omega)
  by_cases h18 : i < 912
  · exact xi_lp_at xi_lp_18 (by omega) (by omega)
  by_cases h19 : i < 960
  · exact xi_lp_at xi_lp_19 (by omega) (by omega)
  by_cases h20 : i < 1008
  · exact xi_lp_at xi_lp_20 (by omega) (by omega)
  by_cases h21 : i < 1056
  · exact xi_lp_at xi_lp_21 (by omega) (by omega)
  by_cases h22 : i < 1104
  · exact xi_lp_at xi_lp_22 (by omega) (by omega)
  by_cases h23 : i < 1133
  · exact xi_lp_at xi_lp_23 (by omega) (by omega)
  · omega
set_option maxRecDepth 100000 in
theorem xi_hh_0 : (List.range 64).all (fun k => match xi_tab[0 + k]? with
  | some q => decide (0 + k = 28) || decide (0 + k = 108) || xi_ckh (0 + k) q
  | none => false) = true := by decide +kernel
set_option maxRecDepth 100000 in
theorem xi_hh_1 : (List.range 64).all (fun k => match xi_tab[64 + k]? with
  | some q => decide (64 + k = 28) || decide (64 + k = 108) || xi_ckh (64 + k) q
  | none => false) = true := by decide +kernel
set_option maxRecDepth 100000 in
theorem xi_hh_2 : (List.range 64).all (fun k => match xi_tab[128 + k]? with
  | some q => decide (128 + k = 28) || decide (128 + k = 108) || xi_ckh (128 + k) q
  | none => false) = true := by decide +kernel
set_option maxRecDepth 100000 in
theorem xi_hh_3 : (List.range 64).all (fun k => match xi_tab[192 + k]? with
  | some q => decide (192 + k = 28) || decide (192 + k = 108) || xi_ckh (192 + k) q
  | none => false) = true := by decide +kernel
set_option maxRecDepth 100000 in
theorem xi_hh_4 : (List.range 1).all (fun k => match xi_tab[256 + k]? with
  | some q => decide (256 + k = 28) || decide (256 + k = 108) || xi_ckh (256 + k) q
  | none => false) = true := by decide +kernel
theorem xi_all2 {a b : List (xi_M × Nat × Nat × List xi_E)} (h1 : a.all xi_cka = true) (h2 : b.all xi_cka = true) : (a ++ b).all xi_cka = true := by rw [List.all_append, h1, h2]; rfl
set_option maxRecDepth 100000 in
set_option maxHeartbeats 4000000 in
theorem xi_tab_eq : xi_tab = [(xm_0, 2, 1, xc_0), (xm_1, 1, 1, xc_1), (xm_2, 1, 1, xc_2), (xm_3, 1, 1, xc_3), (xm_4, 2, 2, xc_4), (xm_5, 2, 2, xc_5), (xm_6, 2, 2, xc_6), (xm_7, 1, 1, xc_7)] ++ ([(xm_8, 4, 2, xc_8), (xm_9, 3, 3, xc_9), (xm_10, 1, 1, xc_10), (xm_11, 2, 2, xc_11), (xm_12, 3, 3, xc_12), (xm_13, 5, 4, xc_13), (xm_14, 4, 3, xc_14), (xm_15, 2, 2, xc_15), (xm_16, 4, 3, xc_16), (xm_17, 3, 2, xc_17), (xm_18, 6, 6, xc_18), (xm_19, 3, 3, xc_19)] ++ ([(xm_20, 7, 2, xc_20), (xm_21, 3, 3, xc_21), (xm_22, 1, 1, xc_22), (xm_23, 4, 2, xc_23), (xm_24, 6, 4, xc_24), (xm_25, 2, 2, xc_25), (xm_26, 3, 2, xc_26)] ++ ([(xm_27, 7, 3, xc_27), (xm_28, 2, 2, xc_28), (xm_29, 4, 3, xc_29), (xm_30, 7, 4, xc_30), (xm_31, 2, 1, xc_31)] ++ ([(xm_32, 5, 1, xc_32), (xm_33, 4, 4, xc_33), (xm_34, 5, 4, xc_34), (xm_35, 3, 3, xc_35), (xm_36, 2, 2, xc_36), (xm_37, 2, 2, xc_37), (xm_38, 2, 2, xc_38), (xm_39, 5, 3, xc_39), (xm_40, 4, 2, xc_40), (xm_41, 2, 1, xc_41)] ++ ([(xm_42, 2, 2, xc_42), (xm_43, 3, 3, xc_43), (xm_44, 3, 3, xc_44), (xm_45, 2, 2, xc_45), (xm_46, 4, 3, xc_46), (xm_47, 3, 3, xc_47), (xm_48, 2, 2, xc_48), (xm_49, 3, 3, xc_49), (xm_50, 4, 3, xc_50), (xm_51, 4, 2, xc_51), (xm_52, 4, 2, xc_52), (xm_53, 3, 2, xc_53)] ++ ([(xm_54, 3, 2, xc_54), (xm_55, 3, 3, xc_55), (xm_56, 3, 3, xc_56), (xm_57, 2, 2, xc_57), (xm_58, 2, 2, xc_58), (xm_59, 1, 1, xc_59), (xm_60, 2, 2, xc_60), (xm_61, 1, 1, xc_61), (xm_62, 1, 1, xc_62), (xm_63, 5, 4, xc_63), (xm_64, 1, 1, xc_64)] ++ ([(xm_65, 3, 2, xc_65), (xm_66, 3, 3, xc_66), (xm_67, 2, 2, xc_67), (xm_68, 2, 2, xc_68), (xm_69, 2, 2, xc_69), (xm_70, 1, 1, xc_70), (xm_71, 1, 1, xc_71), (xm_72, 1, 1, xc_72), (xm_73, 2, 2, xc_73), (xm_74, 4, 2, xc_74), (xm_75, 1, 1, xc_75)] ++ ([(xm_76, 2, 1, xc_76), (xm_77, 3, 2, xc_77), (xm_78, 2, 1, xc_78), (xm_79, 6, 4, xc_79), (xm_80, 7, 3, xc_80)] ++ ([(xm_81, 5, 3, xc_81), (xm_82, 2, 2, xc_82), (xm_83, 4, 4, xc_83), (xm_84, 4, 2, xc_84), (xm_85, 4, 3, xc_85), (xm_86, 2, 2, xc_86), (xm_87, 1, 1, xc_87), (xm_88, 2, 2, xc_88), (xm_89, 2, 2, xc_89)] ++ ([(xm_90, 3, 2, xc_90), (xm_91, 4, 2, xc_91), (xm_92, 3, 3, xc_92), (xm_93, 3, 3, xc_93), (xm_94, 3, 3, xc_94), (xm_95, 3, 3, xc_95)] ++ ([(xm_96, 3, 1, xc_96), (xm_97, 4, 4, xc_97), (xm_98, 4, 4, xc_98), (xm_99, 3, 2, xc_99), (xm_100, 3, 3, xc_100), (xm_101, 4, 3, xc_101), (xm_102, 3, 3, xc_102)] ++ ([(xm_103, 2, 2, xc_103), (xm_104, 7, 3, xc_104), (xm_105, 7, 3, xc_105), (xm_106, 3, 3, xc_106), (xm_107, 3, 3, xc_107), (xm_108, 2, 2, xc_108), (xm_109, 4, 2, xc_109), (xm_110, 4, 3, xc_110)] ++ ([(xm_111, 6, 4, xc_111), (xm_112, 5, 2, xc_112), (xm_113, 4, 3, xc_113), (xm_114, 3, 2, xc_114), (xm_115, 5, 3, xc_115), (xm_116, 4, 4, xc_116)] ++ ([(xm_117, 4, 4, xc_117), (xm_118, 3, 2, xc_118), (xm_119, 1, 1, xc_119), (xm_120, 3, 1, xc_120), (xm_121, 5, 2, xc_121), (xm_122, 2, 2, xc_122), (xm_123, 5, 2, xc_123), (xm_124, 4, 3, xc_124)] ++ ([(xm_125, 4, 4, xc_125), (xm_126, 8, 4, xc_126), (xm_127, 9, 4, xc_127), (xm_128, 5, 2, xc_128), (xm_129, 3, 3, xc_129), (xm_130, 7, 3, xc_130), (xm_131, 11, 2, xc_131), (xm_132, 3, 3, xc_132)] ++ ([(xm_133, 8, 4, xc_133), (xm_134, 4, 3, xc_134), (xm_135, 3, 3, xc_135), (xm_136, 7, 3, xc_136), (xm_137, 6, 4, xc_137), (xm_138, 4, 3, xc_138)] ++ ([(xm_139, 7, 3, xc_139), (xm_140, 4, 2, xc_140), (xm_141, 1, 1, xc_141), (xm_142, 1, 1, xc_142), (xm_143, 1, 1, xc_143), (xm_144, 2, 2, xc_144), (xm_145, 3, 1, xc_145), (xm_146, 3, 1, xc_146), (xm_147, 1, 1, xc_147), (xm_148, 2, 2, xc_148)] ++ ([(xm_149, 4, 1, xc_149), (xm_150, 7, 2, xc_150), (xm_151, 7, 2, xc_151)] ++ ([(xm_152, 7, 2, xc_152), (xm_153, 2, 1, xc_153), (xm_154, 4, 3, xc_154), (xm_155, 1, 1, xc_155), (xm_156, 3, 3, xc_156), (xm_157, 2, 2, xc_157), (xm_158, 4, 4, xc_158), (xm_159, 4, 3, xc_159)] ++ ([(xm_160, 2, 2, xc_160), (xm_161, 3, 3, xc_161), (xm_162, 3, 3, xc_162), (xm_163, 5, 4, xc_163), (xm_164, 3, 2, xc_164), (xm_165, 7, 6, xc_165), (xm_166, 6, 2, xc_166), (xm_167, 4, 3, xc_167), (xm_168, 1, 1, xc_168)] ++ ([(xm_169, 6, 4, xc_169), (xm_170, 2, 2, xc_170), (xm_171, 3, 2, xc_171), (xm_172, 2, 2, xc_172), (xm_173, 2, 2, xc_173), (xm_174, 2, 2, xc_174)] ++ ([(xm_175, 6, 2, xc_175), (xm_176, 1, 1, xc_176), (xm_177, 4, 2, xc_177), (xm_178, 3, 3, xc_178), (xm_179, 2, 2, xc_179), (xm_180, 3, 3, xc_180)] ++ ([(xm_181, 2, 2, xc_181), (xm_182, 3, 3, xc_182), (xm_183, 3, 3, xc_183), (xm_184, 2, 2, xc_184), (xm_185, 3, 3, xc_185), (xm_186, 5, 3, xc_186), (xm_187, 3, 3, xc_187), (xm_188, 5, 3, xc_188), (xm_189, 3, 2, xc_189), (xm_190, 3, 2, xc_190), (xm_191, 3, 3, xc_191)] ++ ([(xm_192, 5, 3, xc_192), (xm_193, 8, 4, xc_193), (xm_194, 2, 2, xc_194), (xm_195, 3, 1, xc_195), (xm_196, 2, 2, xc_196), (xm_197, 3, 3, xc_197), (xm_198, 5, 3, xc_198)] ++ ([(xm_199, 1, 1, xc_199), (xm_200, 1, 1, xc_200), (xm_201, 2, 2, xc_201), (xm_202, 1, 1, xc_202), (xm_203, 3, 1, xc_203), (xm_204, 1, 1, xc_204), (xm_205, 2, 1, xc_205), (xm_206, 3, 2, xc_206), (xm_207, 4, 3, xc_207), (xm_208, 4, 2, xc_208)] ++ ([(xm_209, 4, 1, xc_209), (xm_210, 2, 1, xc_210), (xm_211, 4, 2, xc_211), (xm_212, 4, 2, xc_212)] ++ ([(xm_213, 5, 2, xc_213), (xm_214, 3, 3, xc_214), (xm_215, 3, 3, xc_215), (xm_216, 3, 3, xc_216), (xm_217, 5, 4, xc_217), (xm_218, 3, 3, xc_218), (xm_219, 6, 3, xc_219)] ++ ([(xm_220, 4, 3, xc_220), (xm_221, 2, 2, xc_221), (xm_222, 8, 3, xc_222), (xm_223, 6, 2, xc_223), (xm_224, 4, 3, xc_224), (xm_225, 2, 2, xc_225), (xm_226, 6, 3, xc_226), (xm_227, 2, 2, xc_227)] ++ ([(xm_228, 7, 4, xc_228), (xm_229, 4, 2, xc_229), (xm_230, 8, 3, xc_230)] ++ ([(xm_231, 4, 4, xc_231), (xm_232, 3, 2, xc_232), (xm_233, 1, 1, xc_233), (xm_234, 2, 1, xc_234), (xm_235, 6, 2, xc_235), (xm_236, 2, 2, xc_236), (xm_237, 8, 2, xc_237)] ++ ([(xm_238, 4, 4, xc_238), (xm_239, 8, 4, xc_239), (xm_240, 5, 2, xc_240), (xm_241, 12, 4, xc_241), (xm_242, 6, 3, xc_242), (xm_243, 10, 4, xc_243), (xm_244, 3, 3, xc_244)] ++ ([(xm_245, 8, 4, xc_245), (xm_246, 8, 3, xc_246), (xm_247, 1, 1, xc_247), (xm_248, 1, 1, xc_248), (xm_249, 1, 1, xc_249), (xm_250, 2, 2, xc_250), (xm_251, 4, 2, xc_251), (xm_252, 1, 1, xc_252)] ++ ([(xm_253, 2, 2, xc_253), (xm_254, 3, 1, xc_254), (xm_255, 2, 2, xc_255), (xm_256, 3, 1, xc_256)] ++ ([(xm_257, 4, 1, xc_257)])))))))))))))))))))))))))))))))))) := by rfl
theorem xi_c_all : xi_tab.all xi_cka = true := by
  rw [xi_tab_eq]
  exact xi_all2 xi_c_0 (xi_all2 xi_c_1 (xi_all2 xi_c_2 (xi_all2 xi_c_3 (xi_all2 xi_c_4 (xi_all2 xi_c_5 (xi_all2 xi_c_6 (xi_all2 xi_c_7 (xi_all2 xi_c_8 (xi_all2 xi_c_9 (xi_all2 xi_c_10 (xi_all2 xi_c_11 (xi_all2 xi_c_12 (xi_all2 xi_c_13 (xi_all2 xi_c_14 (xi_all2 xi_c_15 (xi_all2 xi_c_16 (xi_all2 xi_c_17 (xi_all2 xi_c_18 (xi_all2 xi_c_19 (xi_all2 xi_c_20 (xi_all2 xi_c_21 (xi_all2 xi_c_22 (xi_all2 xi_c_23 (xi_all2 xi_c_24 (xi_all2 xi_c_25 (xi_all2 xi_c_26 (xi_all2 xi_c_27 (xi_all2 xi_c_28 (xi_all2 xi_c_29 (xi_all2 xi_c_30 (xi_all2 xi_c_31 (xi_all2 xi_c_32 (xi_all2 xi_c_33 (xi_c_law))))))))))))))))))))))))))))))))))
theorem xi_hh_at {b n μ : Nat} {q : xi_M × Nat × Nat × List xi_E} (h : (List.range n).all (fun k => match xi_tab[b + k]? with
  | some q => decide (b + k = 28) || decide (b + k = 108) || xi_ckh (b + k) q
  | none => false) = true) (h1 : b ≤ μ) (h2 : μ < b + n) (hn1 : ¬ μ = 28) (hn2 : ¬ μ = 108) (hq : xi_tab[μ]? = some q) : xi_ckh μ q = true := by
  have h3 := List.all_eq_true.mp h (μ - b) (List.mem_range.mpr (by omega))
  rw [show b + (μ - b) = μ by omega, hq] at h3
  simp only [Bool.or_eq_true, decide_eq_true_eq] at h3
  rcases h3 with (h3 | h3) | h3
  · exact absurd h3 hn1
  · exact absurd h3 hn2
  · exact h3
theorem xi_ok : xi_OK := by
  intro μ q hq
  refine ⟨List.all_eq_true.mp xi_c_all q (List.mem_of_getElem? hq), fun hμ => ?_⟩

  by_cases h0 : μ < 64
  · exact xi_hh_at xi_hh_0 (by omega) (by omega) hμ.2.1 hμ.2.2 hq
  by_cases h1 : μ < 128
  · exact xi_hh_at xi_hh_1 (by omega) (by omega) hμ.2.1 hμ.2.2 hq
  by_cases h2 : μ < 192
  · exact xi_hh_at xi_hh_2 (by omega) (by omega) hμ.2.1 hμ.2.2 hq
  by_cases h3 : μ < 256
  · exact xi_hh_at xi_hh_3 (by omega) (by omega) hμ.2.1 hμ.2.2 hq
  by_cases h4 : μ < 257
  · exact xi_hh_at xi_hh_4 (by omega) (by omega) hμ.2.1 hμ.2.2 hq
  · omega
