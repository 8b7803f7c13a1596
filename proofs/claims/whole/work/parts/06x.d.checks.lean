/-! the tables are the code that the Statement holds: by a program (kernel) -/
set_option maxRecDepth 100000 in
theorem xi_c_24 : [(xm_192, 5, 3, xc_192), (xm_193, 8, 4, xc_193), (xm_194, 2, 2, xc_194), (xm_195, 3, 1, xc_195), (xm_196, 2, 2, xc_196), (xm_197, 3, 3, xc_197), (xm_198, 5, 3, xc_198)].all xi_cka = true := by decide +kernel
set_option maxRecDepth 100000 in
theorem xi_c_25 : [(xm_199, 1, 1, xc_199), (xm_200, 1, 1, xc_200), (xm_201, 2, 2, xc_201), (xm_202, 1, 1, xc_202), (xm_203, 3, 1, xc_203), (xm_204, 1, 1, xc_204), (xm_205, 2, 1, xc_205), (xm_206, 3, 2, xc_206), (xm_207, 4, 3, xc_207), (xm_208, 4, 2, xc_208)].all xi_cka = true := by decide +kernel
set_option maxRecDepth 100000 in
theorem xi_c_26 : [(xm_209, 4, 1, xc_209), (xm_210, 2, 1, xc_210), (xm_211, 4, 2, xc_211), (xm_212, 4, 2, xc_212)].all xi_cka = true := by decide +kernel
set_option maxRecDepth 100000 in
theorem xi_c_27 : [(xm_213, 5, 2, xc_213), (xm_214, 3, 3, xc_214), (xm_215, 3, 3, xc_215), (xm_216, 3, 3, xc_216), (xm_217, 5, 4, xc_217), (xm_218, 3, 3, xc_218), (xm_219, 6, 3, xc_219)].all xi_cka = true := by decide +kernel
set_option maxRecDepth 100000 in
theorem xi_c_28 : [(xm_220, 4, 3, xc_220), (xm_221, 2, 2, xc_221), (xm_222, 8, 3, xc_222), (xm_223, 6, 2, xc_223), (xm_224, 4, 3, xc_224), (xm_225, 2, 2, xc_225), (xm_226, 6, 3, xc_226), (xm_227, 2, 2, xc_227)].all xi_cka = true := by decide +kernel
set_option maxRecDepth 100000 in
theorem xi_c_29 : [(xm_228, 7, 4, xc_228), (xm_229, 4, 2, xc_229), (xm_230, 8, 3, xc_230)].all xi_cka = true := by decide +kernel
set_option maxRecDepth 100000 in
theorem xi_c_30 : [(xm_231, 4, 4, xc_231), (xm_232, 3, 2, xc_232), (xm_233, 1, 1, xc_233), (xm_234, 2, 1, xc_234), (xm_235, 6, 2, xc_235), (xm_236, 2, 2, xc_236), (xm_237, 8, 2, xc_237)].all xi_cka = true := by decide +kernel
set_option maxRecDepth 100000 in
theorem xi_c_31 : [(xm_238, 4, 4, xc_238), (xm_239, 8, 4, xc_239), (xm_240, 5, 2, xc_240), (xm_241, 12, 4, xc_241), (xm_242, 6, 3, xc_242), (xm_243, 10, 4, xc_243), (xm_244, 3, 3, xc_244)].all xi_cka = true := by decide +kernel
