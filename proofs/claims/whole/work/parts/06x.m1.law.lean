/-! the law's own code, by pieces -/
set_option maxRecDepth 100000 in
theorem xi_lp_6 : (List.range 48).all (fun k => xi_ckr xi_lwq (288 + k)) = true := by decide +kernel
set_option maxRecDepth 100000 in
theorem xi_lp_7 : (List.range 48).all (fun k => xi_ckr xi_lwq (336 + k)) = true := by decide +kernel
set_option maxRecDepth 100000 in
theorem xi_lp_8 : (List.range 48).all (fun k => xi_ckr xi_lwq (384 + k)) = true := by decide +kernel
set_option maxRecDepth 100000 in
theorem xi_lp_9 : (List.range 48).all (fun k => xi_ckr xi_lwq (432 + k)) = true := by decide +kernel
set_option maxRecDepth 100000 in
theorem xi_lp_10 : (List.range 48).all (fun k => xi_ckr xi_lwq (480 + k)) = true := by decide +kernel
set_option maxRecDepth 100000 in
theorem xi_lp_11 : (List.range 48).all (fun k => xi_ckr xi_lwq (528 + k)) = true := by decide +kernel
