/-! the tables are the code that the Statement holds: by a program (kernel) -/
set_option maxRecDepth 100000 in
theorem xi_c_32 : [(xm_245, 8, 4, xc_245), (xm_246, 8, 3, xc_246), (xm_247, 1, 1, xc_247), (xm_248, 1, 1, xc_248), (xm_249, 1, 1, xc_249), (xm_250, 2, 2, xc_250), (xm_251, 4, 2, xc_251), (xm_252, 1, 1, xc_252)].all xi_cka = true := by decide +kernel
set_option maxRecDepth 100000 in
theorem xi_c_33 : [(xm_253, 2, 2, xc_253), (xm_254, 3, 1, xc_254), (xm_255, 2, 2, xc_255), (xm_256, 3, 1, xc_256)].all xi_cka = true := by decide +kernel
