/-! the law's own code, by pieces -/
set_option maxRecDepth 100000 in
theorem xi_lp_18 : (List.range 48).all (fun k => xi_ckr xi_lwq (864 + k)) = true := by decide +kernel
set_option maxRecDepth 100000 in
theorem xi_lp_19 : (List.range 48).all (fun k => xi_ckr xi_lwq (912 + k)) = true := by decide +kernel
set_option maxRecDepth 100000 in
theorem xi_lp_20 : (List.range 48).all (fun k => xi_ckr xi_lwq (960 + k)) = true := by decide +kernel
set_option maxRecDepth 100000 in
theorem xi_lp_21 : (List.range 48).all (fun k => xi_ckr xi_lwq (1008 + k)) = true := by decide +kernel
set_option maxRecDepth 100000 in
theorem xi_lp_22 : (List.range 48).all (fun k => xi_ckr xi_lwq (1056 + k)) = true := by decide +kernel
set_option maxRecDepth 100000 in
theorem xi_lp_23 : (List.range 29).all (fun k => xi_ckr xi_lwq (1104 + k)) = true := by decide +kernel
