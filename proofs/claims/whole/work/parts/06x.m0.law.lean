/-! the law's own code, by pieces -/
def xi_lwq : xi_M × Nat × Nat × List xi_E := (xm_257, 4, 1, xc_257)
def xi_ckr (q : xi_M × Nat × Nat × List xi_E) (i : Nat) : Bool := match q.2.2.2[i]? with
  | some e => xi_ck q.1.1 (decide (q.1.2.2.2.2.2.1 = 2)) q.1.2.2.2.1 q.1.2.2.2.2.1 (xi_pcs q.1.2.2.2.2.2.2) (xi_wsf q.1.2.2.2.2.2.2) i e
  | none => false
set_option maxRecDepth 100000 in
theorem xi_lp_0 : (List.range 48).all (fun k => xi_ckr xi_lwq (0 + k)) = true := by decide +kernel
set_option maxRecDepth 100000 in
theorem xi_lp_1 : (List.range 48).all (fun k => xi_ckr xi_lwq (48 + k)) = true := by decide +kernel
set_option maxRecDepth 100000 in
theorem xi_lp_2 : (List.range 48).all (fun k => xi_ckr xi_lwq (96 + k)) = true := by decide +kernel
set_option maxRecDepth 100000 in
theorem xi_lp_3 : (List.range 48).all (fun k => xi_ckr xi_lwq (144 + k)) = true := by decide +kernel
set_option maxRecDepth 100000 in
theorem xi_lp_4 : (List.range 48).all (fun k => xi_ckr xi_lwq (192 + k)) = true := by decide +kernel
set_option maxRecDepth 100000 in
theorem xi_lp_5 : (List.range 48).all (fun k => xi_ckr xi_lwq (240 + k)) = true := by decide +kernel
