/-! the law's own code, by pieces -/
set_option maxRecDepth 100000 in
theorem xi_lp_12 : (List.range 48).all (fun k => xi_ckr xi_lwq (576 + k)) = true := by decide +kernel
set_option maxRecDepth 100000 in
theorem xi_lp_13 : (List.range 48).all (fun k => xi_ckr xi_lwq (624 + k)) = true := by decide +kernel
set_option maxRecDepth 100000 in
theorem xi_lp_14 : (List.range 48).all (fun k => xi_ckr xi_lwq (672 + k)) = true := by decide +kernel
set_option maxRecDepth 100000 in
theorem xi_lp_15 : (List.range 48).all (fun k => xi_ckr xi_lwq (720 + k)) = true := by decide +kernel
set_option maxRecDepth 100000 in
theorem xi_lp_16 : (List.range 48).all (fun k => xi_ckr xi_lwq (768 + k)) = true := by decide +kernel
set_option maxRecDepth 100000 in
theorem xi_lp_17 : (List.range 48).all (fun k => xi_ckr xi_lwq (816 + k)) = true := by decide +kernel
