/-! the tables are the code that the Statement holds: by a program (kernel) -/
set_option maxRecDepth 100000 in
theorem xi_c_16 : [(xm_133, 8, 4, xc_133), (xm_134, 4, 3, xc_134), (xm_135, 3, 3, xc_135), (xm_136, 7, 3, xc_136), (xm_137, 6, 4, xc_137), (xm_138, 4, 3, xc_138)].all xi_cka = true := by decide +kernel
set_option maxRecDepth 100000 in
theorem xi_c_17 : [(xm_139, 7, 3, xc_139), (xm_140, 4, 2, xc_140), (xm_141, 1, 1, xc_141), (xm_142, 1, 1, xc_142), (xm_143, 1, 1, xc_143), (xm_144, 2, 2, xc_144), (xm_145, 3, 1, xc_145), (xm_146, 3, 1, xc_146), (xm_147, 1, 1, xc_147), (xm_148, 2, 2, xc_148)].all xi_cka = true := by decide +kernel
set_option maxRecDepth 100000 in
theorem xi_c_18 : [(xm_149, 4, 1, xc_149), (xm_150, 7, 2, xc_150), (xm_151, 7, 2, xc_151)].all xi_cka = true := by decide +kernel
set_option maxRecDepth 100000 in
theorem xi_c_19 : [(xm_152, 7, 2, xc_152), (xm_153, 2, 1, xc_153), (xm_154, 4, 3, xc_154), (xm_155, 1, 1, xc_155), (xm_156, 3, 3, xc_156), (xm_157, 2, 2, xc_157), (xm_158, 4, 4, xc_158), (xm_159, 4, 3, xc_159)].all xi_cka = true := by decide +kernel
set_option maxRecDepth 100000 in
theorem xi_c_20 : [(xm_160, 2, 2, xc_160), (xm_161, 3, 3, xc_161), (xm_162, 3, 3, xc_162), (xm_163, 5, 4, xc_163), (xm_164, 3, 2, xc_164), (xm_165, 7, 6, xc_165), (xm_166, 6, 2, xc_166), (xm_167, 4, 3, xc_167), (xm_168, 1, 1, xc_168)].all xi_cka = true := by decide +kernel
set_option maxRecDepth 100000 in
theorem xi_c_21 : [(xm_169, 6, 4, xc_169), (xm_170, 2, 2, xc_170), (xm_171, 3, 2, xc_171), (xm_172, 2, 2, xc_172), (xm_173, 2, 2, xc_173), (xm_174, 2, 2, xc_174)].all xi_cka = true := by decide +kernel
set_option maxRecDepth 100000 in
theorem xi_c_22 : [(xm_175, 6, 2, xc_175), (xm_176, 1, 1, xc_176), (xm_177, 4, 2, xc_177), (xm_178, 3, 3, xc_178), (xm_179, 2, 2, xc_179), (xm_180, 3, 3, xc_180)].all xi_cka = true := by decide +kernel
set_option maxRecDepth 100000 in
theorem xi_c_23 : [(xm_181, 2, 2, xc_181), (xm_182, 3, 3, xc_182), (xm_183, 3, 3, xc_183), (xm_184, 2, 2, xc_184), (xm_185, 3, 3, xc_185), (xm_186, 5, 3, xc_186), (xm_187, 3, 3, xc_187), (xm_188, 5, 3, xc_188), (xm_189, 3, 2, xc_189), (xm_190, 3, 2, xc_190), (xm_191, 3, 3, xc_191)].all xi_cka = true := by decide +kernel
