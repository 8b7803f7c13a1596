/-! calls: settings, what is told -/
section CALLS1
variable {scr : xi_X} {d : Nat} {I : Nat → Nat → Int32} {J : Nat → Nat → Int64} {t dr : Nat} {G : Nat → Nat} {T : TN} {v : Nat} {bk : Bool} {pre : List Nat} {ss : List SGT}
theorem k_may (H : INV I J t dr G T v bk pre ss) {x h : Int32} : xr scr (d + 20) xc_55 0 [some (.ref 0), some (.int x), some (.int h)] [] (wS, I, J, wP t dr G) (AN scr (d + 20) xc_191 [some (.ref 58), some (.int x), some (.int h)]) := by
  have ht := H.1.1
  have hT := H.1.2.2.2.1
  have hM := H.1.2.2.2.2.1
  have hn := TR_n hT.1
  have hh5 := TR_h hT.1
  by_cases hx : rng x (tN T) = true
  · obtain ⟨x, hx1, rfl⟩ := rng_of hx (by omega)
    by_cases hu : rng h (tH T) = true
    · obtain ⟨u, hu1, rfl⟩ := rng_of hu (by omega)
      simp (disch := first | assumption | omega | decide | exact vp_in_nI (by omega) (by omega) | exact and1_bN _ | (simp only [pk_mul, nI_add, pred_s]; exact vp_in_nI (by omega) (by omega))) only [xs_55_0, xs_55_4, xs_55_5, xs_55_9, xs_55_10, xs_55_12, xs_55_17, c_isOne ht hT.1, c_isHour ht hT.1, c_takersOf ht hT hx1 hu1, Option.toList_some, Option.toList_none, List.cons_append, List.nil_append, List.append_nil, nI_add, pk_mul, nI_ltI, nI_eq, z_eq, z_lt, z_gt, z_bN, bN_z, bN_p, bN_i1, nI_clamp, rng_nI, ↓reduceIte, if_true, if_false, not_true_eq_false, not_false_eq_true, true_and, and_true, and_self, false_and, and_false, hx1, hu1]
      refine AN_i ?_
      simp (disch := first | assumption | omega | decide | exact vp_in_nI (by omega) (by omega) | exact and1_bN _ | (simp only [pk_mul, nI_add, pred_s]; exact vp_in_nI (by omega) (by omega))) only [xs_191_0, xs_191_3, xs_191_4, xs_191_7, xs_191_8, xs_191_12, xs_191_13, xs_191_14, m_isOne hM, m_isHour hM, m_mays hM hx1 hu1, Option.toList_some, Option.toList_none, List.cons_append, List.nil_append, List.append_nil, nI_add, pk_mul, nI_ltI, nI_eq, z_eq, z_lt, z_gt, z_bN, bN_z, bN_p, bN_i1, nI_clamp, rng_nI, ↓reduceIte, if_true, if_false, not_true_eq_false, not_false_eq_true, true_and, and_true, and_self, false_and, and_false, hx1, hu1]
      first | exact PST_i H | exact ⟨trivial, PST_i H⟩ | exact ⟨rfl, PST_i H⟩
    · simp (disch := first | assumption | omega | decide | exact vp_in_nI (by omega) (by omega) | exact and1_bN _ | (simp only [pk_mul, nI_add, pred_s]; exact vp_in_nI (by omega) (by omega))) only [xs_55_0, xs_55_4, xs_55_5, xs_55_9, xs_55_10, xs_55_12, xs_55_17, c_isOne ht hT.1, c_isHour ht hT.1, Option.toList_some, Option.toList_none, List.cons_append, List.nil_append, List.append_nil, nI_add, pk_mul, nI_ltI, nI_eq, z_eq, z_lt, z_gt, z_bN, bN_z, bN_p, bN_i1, nI_clamp, rng_nI, ↓reduceIte, if_true, if_false, not_true_eq_false, not_false_eq_true, true_and, and_true, and_self, false_and, and_false, hx1, hu]
      refine AN_i ?_
      simp (disch := first | assumption | omega | decide | exact vp_in_nI (by omega) (by omega) | exact and1_bN _ | (simp only [pk_mul, nI_add, pred_s]; exact vp_in_nI (by omega) (by omega))) only [xs_191_0, xs_191_3, xs_191_4, xs_191_7, xs_191_8, xs_191_12, xs_191_13, xs_191_14, m_isOne hM, m_isHour hM, Option.toList_some, Option.toList_none, List.cons_append, List.nil_append, List.append_nil, nI_add, pk_mul, nI_ltI, nI_eq, z_eq, z_lt, z_gt, z_bN, bN_z, bN_p, bN_i1, nI_clamp, rng_nI, ↓reduceIte, if_true, if_false, not_true_eq_false, not_false_eq_true, true_and, and_true, and_self, false_and, and_false, hx1, hu]
      first | exact PST_i H | exact ⟨trivial, PST_i H⟩ | exact ⟨rfl, PST_i H⟩
  · simp (disch := first | assumption | omega | decide | exact vp_in_nI (by omega) (by omega) | exact and1_bN _ | (simp only [pk_mul, nI_add, pred_s]; exact vp_in_nI (by omega) (by omega))) only [xs_55_0, xs_55_4, xs_55_5, xs_55_9, xs_55_10, xs_55_12, xs_55_17, c_isOne ht hT.1, Option.toList_some, Option.toList_none, List.cons_append, List.nil_append, List.append_nil, nI_add, pk_mul, nI_ltI, nI_eq, z_eq, z_lt, z_gt, z_bN, bN_z, bN_p, bN_i1, nI_clamp, rng_nI, ↓reduceIte, if_true, if_false, not_true_eq_false, not_false_eq_true, true_and, and_true, and_self, false_and, and_false, hx]
    refine AN_i ?_
    simp (disch := first | assumption | omega | decide | exact vp_in_nI (by omega) (by omega) | exact and1_bN _ | (simp only [pk_mul, nI_add, pred_s]; exact vp_in_nI (by omega) (by omega))) only [xs_191_0, xs_191_3, xs_191_4, xs_191_7, xs_191_8, xs_191_12, xs_191_13, xs_191_14, m_isOne hM, Option.toList_some, Option.toList_none, List.cons_append, List.nil_append, List.append_nil, nI_add, pk_mul, nI_ltI, nI_eq, z_eq, z_lt, z_gt, z_bN, bN_z, bN_p, bN_i1, nI_clamp, rng_nI, ↓reduceIte, if_true, if_false, not_true_eq_false, not_false_eq_true, true_and, and_true, and_self, false_and, and_false, hx]
    first | exact PST_i H | exact ⟨trivial, PST_i H⟩ | exact ⟨rfl, PST_i H⟩
theorem k_asked (H : INV I J t dr G T v bk pre ss) : xr scr (d + 20) xc_141 0 [some (.ref 0)] [] (wS, I, J, wP t dr G) (AN scr (d + 20) xc_247 [some (.ref 58)]) := by
  simp (disch := first | assumption | omega | decide | exact vp_in_nI (by omega) (by omega) | exact and1_bN _ | (simp only [pk_mul, nI_add, pred_s]; exact vp_in_nI (by omega) (by omega))) only [xs_141_0]
  refine AN_i ?_
  simp (disch := first | assumption | omega | decide | exact vp_in_nI (by omega) (by omega) | exact and1_bN _ | (simp only [pk_mul, nI_add, pred_s]; exact vp_in_nI (by omega) (by omega))) only [xs_247_0]
  exact ⟨by rw [H.2.2.2.2.2.2.2.1.1], PST_i H⟩
theorem k_upper (H : INV I J t dr G T v bk pre ss) : xr scr (d + 20) xc_142 0 [some (.ref 0)] [] (wS, I, J, wP t dr G) (AN scr (d + 20) xc_248 [some (.ref 58)]) := by
  simp (disch := first | assumption | omega | decide | exact vp_in_nI (by omega) (by omega) | exact and1_bN _ | (simp only [pk_mul, nI_add, pred_s]; exact vp_in_nI (by omega) (by omega))) only [xs_142_0]
  refine AN_l ?_
  simp (disch := first | assumption | omega | decide | exact vp_in_nI (by omega) (by omega) | exact and1_bN _ | (simp only [pk_mul, nI_add, pred_s]; exact vp_in_nI (by omega) (by omega))) only [xs_248_0]
  exact ⟨by rw [H.2.2.2.2.2.2.2.1.2.1], PST_i H⟩
theorem k_lower (H : INV I J t dr G T v bk pre ss) : xr scr (d + 20) xc_143 0 [some (.ref 0)] [] (wS, I, J, wP t dr G) (AN scr (d + 20) xc_249 [some (.ref 58)]) := by
  simp (disch := first | assumption | omega | decide | exact vp_in_nI (by omega) (by omega) | exact and1_bN _ | (simp only [pk_mul, nI_add, pred_s]; exact vp_in_nI (by omega) (by omega))) only [xs_143_0]
  refine AN_l ?_
  simp (disch := first | assumption | omega | decide | exact vp_in_nI (by omega) (by omega) | exact and1_bN _ | (simp only [pk_mul, nI_add, pred_s]; exact vp_in_nI (by omega) (by omega))) only [xs_249_0]
  exact ⟨by rw [H.2.2.2.2.2.2.2.1.2.2], PST_i H⟩
theorem k_finding (H : INV I J t dr G T v bk pre ss) : xr scr (d + 20) xc_147 0 [some (.ref 0)] [] (wS, I, J, wP t dr G) (AN scr (d + 20) xc_252 [some (.ref 58)]) := by
  simp (disch := first | assumption | omega | decide | exact vp_in_nI (by omega) (by omega) | exact and1_bN _ | (simp only [pk_mul, nI_add, pred_s]; exact vp_in_nI (by omega) (by omega))) only [xs_147_0]
  refine AN_i ?_
  simp (disch := first | assumption | omega | decide | exact vp_in_nI (by omega) (by omega) | exact and1_bN _ | (simp only [pk_mul, nI_add, pred_s]; exact vp_in_nI (by omega) (by omega))) only [xs_252_0]
  exact ⟨by rw [H.2.2.2.2.2.2.2.2.1], PST_i H⟩
theorem k_findings (H : INV I J t dr G T v bk pre ss) {f : Int32} : xr scr (d + 20) xc_148 0 [some (.ref 0), some (.int f)] [] (wS, I, J, wP t dr G) (AN scr (d + 20) xc_253 [some (.ref 58), some (.int f)]) := by
  simp (disch := first | assumption | omega | decide | exact vp_in_nI (by omega) (by omega) | exact and1_bN _ | (simp only [pk_mul, nI_add, pred_s]; exact vp_in_nI (by omega) (by omega))) only [xs_148_0, xs_148_3, xs_148_6]
  by_cases h1 : f < nI 1
  · simp (disch := first | assumption | omega | decide | exact vp_in_nI (by omega) (by omega) | exact and1_bN _ | (simp only [pk_mul, nI_add, pred_s]; exact vp_in_nI (by omega) (by omega))) only [h1, ↓reduceIte]
    refine AN_i ?_
    simp (disch := first | assumption | omega | decide | exact vp_in_nI (by omega) (by omega) | exact and1_bN _ | (simp only [pk_mul, nI_add, pred_s]; exact vp_in_nI (by omega) (by omega))) only [xs_253_0, xs_253_4, xs_253_5, xs_253_10, xs_253_11, m_in, Option.toList_some, Option.toList_none, List.cons_append, List.nil_append, List.append_nil, h1, not_true_eq_false, not_false_eq_true, false_and, z_bN, ↓reduceIte]
    first | exact PST_i H | exact ⟨trivial, PST_i H⟩ | exact ⟨rfl, PST_i H⟩
  · by_cases h2 : nI 5 < f
    · simp (disch := first | assumption | omega | decide | exact vp_in_nI (by omega) (by omega) | exact and1_bN _ | (simp only [pk_mul, nI_add, pred_s]; exact vp_in_nI (by omega) (by omega))) only [h1, h2, ↓reduceIte]
      refine AN_i ?_
      simp (disch := first | assumption | omega | decide | exact vp_in_nI (by omega) (by omega) | exact and1_bN _ | (simp only [pk_mul, nI_add, pred_s]; exact vp_in_nI (by omega) (by omega))) only [xs_253_0, xs_253_4, xs_253_5, xs_253_10, xs_253_11, m_in, Option.toList_some, Option.toList_none, List.cons_append, List.nil_append, List.append_nil, h1, h2, not_true_eq_false, not_false_eq_true, and_false, z_bN, ↓reduceIte]
      first | exact PST_i H | exact ⟨trivial, PST_i H⟩ | exact ⟨rfl, PST_i H⟩
    · have h3 : rng f 6 = true := (rng_m0 (n := 5) (by decide)).mp ⟨fun e => h1 (Int32.lt_iff_toInt_lt.mpr (by have := Int32.lt_iff_toInt_lt.mp e; have e0 : (nI 0).toInt = 0 := by decide
                                                                                                               have e1 : (nI 1).toInt = 1 := by decide
                                                                                                               omega)), h2⟩
      obtain ⟨f, hf, rfl⟩ := rng_of h3 (by decide)
      simp (disch := first | assumption | omega | decide | exact vp_in_nI (by omega) (by omega) | exact and1_bN _ | (simp only [pk_mul, nI_add, pred_s]; exact vp_in_nI (by omega) (by omega))) only [h1, h2, ↓reduceIte, xs_148_8, nI_add, pk_mul, nI_ltI, nI_eq, z_eq, z_lt, z_gt, z_bN, bN_z, bN_p, bN_i1, nI_clamp, rng_nI, ↓reduceIte, if_true, if_false, not_true_eq_false, not_false_eq_true, true_and, and_true, and_self, false_and, and_false]
      refine AN_i ?_
      simp (disch := first | assumption | omega | decide | exact vp_in_nI (by omega) (by omega) | exact and1_bN _ | (simp only [pk_mul, nI_add, pred_s]; exact vp_in_nI (by omega) (by omega))) only [xs_253_0, xs_253_4, xs_253_5, xs_253_10, xs_253_11, m_in, Option.toList_some, Option.toList_none, List.cons_append, List.nil_append, List.append_nil, h1, h2, nI_add, pk_mul, nI_ltI, nI_eq, z_eq, z_lt, z_gt, z_bN, bN_z, bN_p, bN_i1, nI_clamp, rng_nI, ↓reduceIte, if_true, if_false, not_true_eq_false, not_false_eq_true, true_and, and_true, and_self, false_and, and_false]
      exact ⟨by rw [H.2.2.2.2.2.2.2.2.2 f hf], PST_i H⟩
end CALLS1
