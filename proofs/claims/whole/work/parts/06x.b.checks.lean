/-! the tables are the code that the Statement holds: by a program (kernel) -/
set_option maxRecDepth 100000 in
theorem xi_c_8 : [(xm_76, 2, 1, xc_76), (xm_77, 3, 2, xc_77), (xm_78, 2, 1, xc_78), (xm_79, 6, 4, xc_79), (xm_80, 7, 3, xc_80)].all xi_cka = true := by decide +kernel
set_option maxRecDepth 100000 in
theorem xi_c_9 : [(xm_81, 5, 3, xc_81), (xm_82, 2, 2, xc_82), (xm_83, 4, 4, xc_83), (xm_84, 4, 2, xc_84), (xm_85, 4, 3, xc_85), (xm_86, 2, 2, xc_86), (xm_87, 1, 1, xc_87), (xm_88, 2, 2, xc_88), (xm_89, 2, 2, xc_89)].all xi_cka = true := by decide +kernel
set_option maxRecDepth 100000 in
theorem xi_c_10 : [(xm_90, 3, 2, xc_90), (xm_91, 4, 2, xc_91), (xm_92, 3, 3, xc_92), (xm_93, 3, 3, xc_93), (xm_94, 3, 3, xc_94), (xm_95, 3, 3, xc_95)].all xi_cka = true := by decide +kernel
set_option maxRecDepth 100000 in
theorem xi_c_11 : [(xm_96, 3, 1, xc_96), (xm_97, 4, 4, xc_97), (xm_98, 4, 4, xc_98), (xm_99, 3, 2, xc_99), (xm_100, 3, 3, xc_100), (xm_101, 4, 3, xc_101), (xm_102, 3, 3, xc_102)].all xi_cka = true := by decide +kernel
set_option maxRecDepth 100000 in
theorem xi_c_12 : [(xm_103, 2, 2, xc_103), (xm_104, 7, 3, xc_104), (xm_105, 7, 3, xc_105), (xm_106, 3, 3, xc_106), (xm_107, 3, 3, xc_107), (xm_108, 2, 2, xc_108), (xm_109, 4, 2, xc_109), (xm_110, 4, 3, xc_110)].all xi_cka = true := by decide +kernel
set_option maxRecDepth 100000 in
theorem xi_c_13 : [(xm_111, 6, 4, xc_111), (xm_112, 5, 2, xc_112), (xm_113, 4, 3, xc_113), (xm_114, 3, 2, xc_114), (xm_115, 5, 3, xc_115), (xm_116, 4, 4, xc_116)].all xi_cka = true := by decide +kernel
set_option maxRecDepth 100000 in
theorem xi_c_14 : [(xm_117, 4, 4, xc_117), (xm_118, 3, 2, xc_118), (xm_119, 1, 1, xc_119), (xm_120, 3, 1, xc_120), (xm_121, 5, 2, xc_121), (xm_122, 2, 2, xc_122), (xm_123, 5, 2, xc_123), (xm_124, 4, 3, xc_124)].all xi_cka = true := by decide +kernel
set_option maxRecDepth 100000 in
theorem xi_c_15 : [(xm_125, 4, 4, xc_125), (xm_126, 8, 4, xc_126), (xm_127, 9, 4, xc_127), (xm_128, 5, 2, xc_128), (xm_129, 3, 3, xc_129), (xm_130, 7, 3, xc_130), (xm_131, 11, 2, xc_131), (xm_132, 3, 3, xc_132)].all xi_cka = true := by decide +kernel
