/-! the tables are the code that the Statement holds: by a program (kernel) -/
set_option maxRecDepth 100000 in
theorem xi_c_0 : [(xm_0, 2, 1, xc_0), (xm_1, 1, 1, xc_1), (xm_2, 1, 1, xc_2), (xm_3, 1, 1, xc_3), (xm_4, 2, 2, xc_4), (xm_5, 2, 2, xc_5), (xm_6, 2, 2, xc_6), (xm_7, 1, 1, xc_7)].all xi_cka = true := by decide +kernel
set_option maxRecDepth 100000 in
theorem xi_c_1 : [(xm_8, 4, 2, xc_8), (xm_9, 3, 3, xc_9), (xm_10, 1, 1, xc_10), (xm_11, 2, 2, xc_11), (xm_12, 3, 3, xc_12), (xm_13, 5, 4, xc_13), (xm_14, 4, 3, xc_14), (xm_15, 2, 2, xc_15), (xm_16, 4, 3, xc_16), (xm_17, 3, 2, xc_17), (xm_18, 6, 6, xc_18), (xm_19, 3, 3, xc_19)].all xi_cka = true := by decide +kernel
set_option maxRecDepth 100000 in
theorem xi_c_2 : [(xm_20, 7, 2, xc_20), (xm_21, 3, 3, xc_21), (xm_22, 1, 1, xc_22), (xm_23, 4, 2, xc_23), (xm_24, 6, 4, xc_24), (xm_25, 2, 2, xc_25), (xm_26, 3, 2, xc_26)].all xi_cka = true := by decide +kernel
set_option maxRecDepth 100000 in
theorem xi_c_3 : [(xm_27, 7, 3, xc_27), (xm_28, 2, 2, xc_28), (xm_29, 4, 3, xc_29), (xm_30, 7, 4, xc_30), (xm_31, 2, 1, xc_31)].all xi_cka = true := by decide +kernel
set_option maxRecDepth 100000 in
theorem xi_c_4 : [(xm_32, 5, 1, xc_32), (xm_33, 4, 4, xc_33), (xm_34, 5, 4, xc_34), (xm_35, 3, 3, xc_35), (xm_36, 2, 2, xc_36), (xm_37, 2, 2, xc_37), (xm_38, 2, 2, xc_38), (xm_39, 5, 3, xc_39), (xm_40, 4, 2, xc_40), (xm_41, 2, 1, xc_41)].all xi_cka = true := by decide +kernel
set_option maxRecDepth 100000 in
theorem xi_c_5 : [(xm_42, 2, 2, xc_42), (xm_43, 3, 3, xc_43), (xm_44, 3, 3, xc_44), (xm_45, 2, 2, xc_45), (xm_46, 4, 3, xc_46), (xm_47, 3, 3, xc_47), (xm_48, 2, 2, xc_48), (xm_49, 3, 3, xc_49), (xm_50, 4, 3, xc_50), (xm_51, 4, 2, xc_51), (xm_52, 4, 2, xc_52), (xm_53, 3, 2, xc_53)].all xi_cka = true := by decide +kernel
set_option maxRecDepth 100000 in
theorem xi_c_6 : [(xm_54, 3, 2, xc_54), (xm_55, 3, 3, xc_55), (xm_56, 3, 3, xc_56), (xm_57, 2, 2, xc_57), (xm_58, 2, 2, xc_58), (xm_59, 1, 1, xc_59), (xm_60, 2, 2, xc_60), (xm_61, 1, 1, xc_61), (xm_62, 1, 1, xc_62), (xm_63, 5, 4, xc_63), (xm_64, 1, 1, xc_64)].all xi_cka = true := by decide +kernel
set_option maxRecDepth 100000 in
theorem xi_c_7 : [(xm_65, 3, 2, xc_65), (xm_66, 3, 3, xc_66), (xm_67, 2, 2, xc_67), (xm_68, 2, 2, xc_68), (xm_69, 2, 2, xc_69), (xm_70, 1, 1, xc_70), (xm_71, 1, 1, xc_71), (xm_72, 1, 1, xc_72), (xm_73, 2, 2, xc_73), (xm_74, 4, 2, xc_74), (xm_75, 1, 1, xc_75)].all xi_cka = true := by decide +kernel
