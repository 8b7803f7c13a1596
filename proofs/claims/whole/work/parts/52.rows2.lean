/-! calls: at, lay, mean, copy -/
section ROWS2
variable {scr : xi_X} {d : Nat} {Q : Option Value → xi_S → Prop} {I I2 : Nat → Nat → Int32} {J J2 : Nat → Nat → Int64} {t dr : Nat} {G G2 : Nat → Nat} {T : TN} {v v2 : Nat} {bk bk2 : Bool} {pre pre2 : List Nat} {ss ss2 : List SGT}
theorem n1z : ¬ (-1 : Int32) = 0 := by decide
theorem n3z : ¬ (-3 : Int32) = 0 := by decide
theorem n3l : (-3 : Int32) < 0 := by decide
theorem n0l : ¬ nI 0 < 0 := by decide
theorem n1l : ¬ nI 1 < 0 := by decide
theorem two5 : 2 ≤ 5 := by decide
theorem one2 : 1 ≤ 2 := by decide
theorem c_refPl_bad {x i : Int32} (hx : ¬ rng x 6 = true) : xr scr (d + 2) xc_14 0 [some (.ref 0), some (.int x), some (.int i), none] [] (wS, I, J, wP t dr G) Q = Q (some (.int (-1))) (wS, I, J, wP t dr G) := by
  simp (disch := first | assumption | omega | decide | exact vp_in_nI (by omega) (by omega) | exact and1_bN _ | (simp only [pk_mul, nI_add, pred_s]; exact vp_in_nI (by omega) (by omega))) only [xs_14_0, c_refRow_bad hx, Option.toList_some, Option.toList_none, List.cons_append, List.nil_append, List.append_nil, xs_14_3, n1z, ↓reduceIte, xs_14_6]
theorem c_refPl_miss {r : Nat} {i : Int32} (hr : r < 6) (h8 : I 8 r = -1) : xr scr (d + 2) xc_14 0 [some (.ref 0), some (.int (nI r)), some (.int i), none] [] (wS, I, J, wP t dr G) Q = Q (some (.int (-3))) (wS, fnd I 1, J, wP t dr G) := by
  simp (disch := first | assumption | omega | decide | exact vp_in_nI (by omega) (by omega) | exact and1_bN _ | (simp only [pk_mul, nI_add, pred_s]; exact vp_in_nI (by omega) (by omega))) only [xs_14_0, c_refRow_miss hr h8, Option.toList_some, Option.toList_none, List.cons_append, List.nil_append, List.append_nil, xs_14_3, n3z, ↓reduceIte, xs_14_6]
theorem c_refPl_far {r s : Nat} {i : Int32} (hr : r < 6) (hs : s ≤ 40) (h8 : I 8 r = nI s) (hi : ¬ rng i s = true) : xr scr (d + 2) xc_14 0 [some (.ref 0), some (.int (nI r)), some (.int i), none] [] (wS, I, J, wP t dr G) Q = Q (some (.int (-3))) (wS, fnd I 2, J, wP t dr G) := by
  have hcl : (nI r).toNatClampNeg = r := nI_clamp (by omega)
  have last : xr scr (d + 2) xc_14 16 [some (.ref 0), some (.int (nI r)), some (.int i), some (.int (nI 0))] [] (wS, I, J, wP t dr G) Q = Q (some (.int (-3))) (wS, fnd I 2, J, wP t dr G) := by
    simp (disch := first | assumption | omega | decide | exact vp_in_nI (by omega) (by omega) | exact and1_bN _ | (simp only [pk_mul, nI_add, pred_s]; exact vp_in_nI (by omega) (by omega))) only [xs_14_16, c_found one2 two5, Option.toList_some, Option.toList_none, List.cons_append, List.nil_append, List.append_nil, xs_14_19, xs_14_21]
  simp (disch := first | assumption | omega | decide | exact vp_in_nI (by omega) (by omega) | exact and1_bN _ | (simp only [pk_mul, nI_add, pred_s]; exact vp_in_nI (by omega) (by omega))) only [xs_14_0, c_refRow_ok hr hs h8, Option.toList_some, Option.toList_none, List.cons_append, List.nil_append, List.append_nil, xs_14_3, nI_0, ↓reduceIte]
  rw [nI_0] at last
  rw [xs_14_8]
  by_cases h0 : i < 0
  · rw [if_pos h0, last]
  · rw [if_neg h0, xs_14_10 (vp_in_nI hr (by omega)), hcl, h8, if_neg (fun e => hi (rng_iff.mpr ⟨h0, e⟩)), last]
theorem c_refPl_ok {r s i : Nat} (hr : r < 6) (hs : s ≤ 40) (h8 : I 8 r = nI s) (hi : i < s) : xr scr (d + 2) xc_14 0 [some (.ref 0), some (.int (nI r)), some (.int (nI i)), none] [] (wS, I, J, wP t dr G) Q = Q (some (.int (nI 0))) (wS, I, J, wP t dr G) := by
  have hcl : (nI r).toNatClampNeg = r := nI_clamp (by omega)
  simp (disch := first | assumption | omega | decide | exact vp_in_nI (by omega) (by omega) | exact and1_bN _ | (simp only [pk_mul, nI_add, pred_s]; exact vp_in_nI (by omega) (by omega))) only [xs_14_0, c_refRow_ok hr hs h8, Option.toList_some, Option.toList_none, List.cons_append, List.nil_append, List.append_nil, xs_14_3, nI_0, ↓reduceIte]
  rw [xs_14_8, if_neg (nI_pos (by omega)), xs_14_10 (vp_in_nI hr (by omega)), hcl, h8, if_pos ((nI_ltI (by omega) (by omega)).mpr hi)]
  simp (disch := first | assumption | omega | decide | exact vp_in_nI (by omega) (by omega) | exact and1_bN _ | (simp only [pk_mul, nI_add, pred_s]; exact vp_in_nI (by omega) (by omega))) only [xs_14_20, xs_14_21, nI_0]
theorem m_at_bad {x i : Int32} (hx : ¬ rng x 6 = true) : xr scr (d + 3) xc_159 0 [some (.ref 58), some (.int x), some (.int i), none] [] (wS, I, J, wP t dr G) Q = Q (some (.int (-1))) (wS, I, J, wP t dr G) := by
  simp (disch := first | assumption | omega | decide | exact vp_in_nI (by omega) (by omega) | exact and1_bN _ | (simp only [pk_mul, nI_add, pred_s]; exact vp_in_nI (by omega) (by omega))) only [xs_159_0, m_askRow_bad hx, Option.toList_some, Option.toList_none, List.cons_append, List.nil_append, List.append_nil, xs_159_3, m1lt, ↓reduceIte, xs_159_6]
theorem m_at_miss {r : Nat} {i : Int32} (hr : r < 6) (h8 : I 60 r = -9) : xr scr (d + 3) xc_159 0 [some (.ref 58), some (.int (nI r)), some (.int i), none] [] (wS, I, J, wP t dr G) Q = Q (some (.int (-3))) (wS, mmt I 1, J, wP t dr G) := by
  simp (disch := first | assumption | omega | decide | exact vp_in_nI (by omega) (by omega) | exact and1_bN _ | (simp only [pk_mul, nI_add, pred_s]; exact vp_in_nI (by omega) (by omega))) only [xs_159_0, m_askRow_miss hr h8, Option.toList_some, Option.toList_none, List.cons_append, List.nil_append, List.append_nil, xs_159_3, n3l, ↓reduceIte, xs_159_6]
theorem m_at_far {r s : Nat} {i : Int32} (hr : r < 6) (hs : s ≤ 40) (h8 : I 60 r = nI s) (hi : ¬ rng i s = true) : xr scr (d + 3) xc_159 0 [some (.ref 58), some (.int (nI r)), some (.int i), none] [] (wS, I, J, wP t dr G) Q = Q (some (.int (-3))) (wS, mmt I 2, J, wP t dr G) := by
  have hcl : (nI r).toNatClampNeg = r := nI_clamp (by omega)
  simp (disch := first | assumption | omega | decide | exact vp_in_nI (by omega) (by omega) | exact and1_bN _ | (simp only [pk_mul, nI_add, pred_s]; exact vp_in_nI (by omega) (by omega))) only [xs_159_0, m_askRow_ok hr hs h8, Option.toList_some, Option.toList_none, List.cons_append, List.nil_append, List.append_nil, xs_159_3, n0l, ↓reduceIte]
  rw [xs_159_8 (vp_in_nI hr (by omega)), hcl, h8, m_in, bN_c (rng_m (n := s) (x := i) (by omega))]
  simp (disch := first | assumption | omega | decide | exact vp_in_nI (by omega) (by omega) | exact and1_bN _ | (simp only [pk_mul, nI_add, pred_s]; exact vp_in_nI (by omega) (by omega))) only [Option.toList_some, Option.toList_none, List.cons_append, List.nil_append, List.append_nil, xs_159_17, Bool.false_eq_true, nI_add, pk_mul, nI_ltI, nI_eq, z_eq, z_lt, z_gt, z_bN, bN_z, bN_p, bN_i1, nI_clamp, rng_nI, ↓reduceIte, if_true, if_false, not_true_eq_false, not_false_eq_true, true_and, and_true, and_self, false_and, and_false, hi, xs_159_26, m_meet two5, xs_159_29]
theorem m_at_ok {r s i : Nat} (hr : r < 6) (hs : s ≤ 40) (h8 : I 60 r = nI s) (hi : i < s) : xr scr (d + 3) xc_159 0 [some (.ref 58), some (.int (nI r)), some (.int (nI i)), none] [] (wS, I, J, wP t dr G) Q = Q (some (.int (nI 1))) (wS, xi_up I 58 2 (I 61 (40 * r + i)), J, wP t dr G) := by
  have hcl : (nI r).toNatClampNeg = r := nI_clamp (by omega)
  have hi40 : i < 40 := by omega
  simp (disch := first | assumption | omega | decide | exact vp_in_nI (by omega) (by omega) | exact and1_bN _ | (simp only [pk_mul, nI_add, pred_s]; exact vp_in_nI (by omega) (by omega))) only [xs_159_0, m_askRow_ok hr hs h8, Option.toList_some, Option.toList_none, List.cons_append, List.nil_append, List.append_nil, xs_159_3, n0l, ↓reduceIte]
  rw [xs_159_8 (vp_in_nI hr (by omega)), hcl, h8, m_in, bN_c (rng_m (n := s) (x := nI i) (by omega))]
  simp (disch := first | assumption | omega | decide | exact vp_in_nI (by omega) (by omega) | exact and1_bN _ | (simp only [pk_mul, nI_add, pred_s]; exact vp_in_nI (by omega) (by omega))) only [Option.toList_some, Option.toList_none, List.cons_append, List.nil_append, List.append_nil, xs_159_17, Bool.false_eq_true, nI_add, pk_mul, nI_ltI, nI_eq, z_eq, z_lt, z_gt, z_bN, bN_z, bN_p, bN_i1, nI_clamp, rng_nI, ↓reduceIte, if_true, if_false, not_true_eq_false, not_false_eq_true, true_and, and_true, and_self, false_and, and_false, hi, xs_159_18, m_rowAt hr hi40, xs_159_23, m_say, xs_159_25, xs_159_29]
theorem k_at (H : INV I J t dr G T v bk pre ss) {x i : Int32} : xr scr (d + 20) xc_16 0 [some (.ref 0), some (.int x), some (.int i), none] [] (wS, I, J, wP t dr G) (AN scr (d + 20) xc_159 [some (.ref 58), some (.int x), some (.int i), none]) := by
  by_cases hx : rng x 6 = true
  · obtain ⟨r, hr, rfl⟩ := rng_of hx (by decide)
    have hcl : (nI r).toNatClampNeg = r := nI_clamp (by omega)
    rcases H.2.1.1 r hr with ⟨s, hs, h8, h60⟩ | ⟨h8, h60⟩
    · by_cases hi : rng i s = true
      · obtain ⟨i, hi1, rfl⟩ := rng_of hi (by omega)
        have hcli : (nI i).toNatClampNeg = i := nI_clamp (by omega)
        simp (disch := first | assumption | omega | decide | exact vp_in_nI (by omega) (by omega) | exact and1_bN _ | (simp only [pk_mul, nI_add, pred_s]; exact vp_in_nI (by omega) (by omega))) only [xs_16_0, c_refPl_ok hr hs h8 hi1, Option.toList_some, Option.toList_none, List.cons_append, List.nil_append, List.append_nil, xs_16_4, nI_0, ↓reduceIte]
        rw [xs_16_9 (vp_in_nI hr (by omega)) (vp_in_nI (by omega) (by omega)), hcl, hcli]
        refine AN_i ?_
        have e60 : xi_up I 0 14 (I (2 + r) i) 60 r = nI s := by rw [xu_nc (by decide), h60]
        rw [m_at_ok (d := d + 17) hr hs e60 hi1, xu_nc (by decide), ← H.2.1.2 r hr i (by omega)]
        exact ⟨rfl, PST_i (sey_inv H)⟩
      · simp (disch := first | assumption | omega | decide | exact vp_in_nI (by omega) (by omega) | exact and1_bN _ | (simp only [pk_mul, nI_add, pred_s]; exact vp_in_nI (by omega) (by omega))) only [xs_16_0, c_refPl_far hr hs h8 hi, Option.toList_some, Option.toList_none, List.cons_append, List.nil_append, List.append_nil, xs_16_4, n3z, ↓reduceIte, xs_16_7]
        refine AN_i ?_
        have e60 : fnd I 2 60 r = nI s := by rw [fnd_fr (by decide) (by decide), h60]
        rw [m_at_far (d := d + 17) hr hs e60 hi]
        exact ⟨rfl, PST_i (fnd_inv (by decide) H)⟩
    · simp (disch := first | assumption | omega | decide | exact vp_in_nI (by omega) (by omega) | exact and1_bN _ | (simp only [pk_mul, nI_add, pred_s]; exact vp_in_nI (by omega) (by omega))) only [xs_16_0, c_refPl_miss hr h8, Option.toList_some, Option.toList_none, List.cons_append, List.nil_append, List.append_nil, xs_16_4, n3z, ↓reduceIte, xs_16_7]
      refine AN_i ?_
      have e60 : fnd I 1 60 r = -9 := by rw [fnd_fr (by decide) (by decide), h60]
      rw [m_at_miss (d := d + 17) hr e60]
      exact ⟨rfl, PST_i (fnd_inv (by decide) H)⟩
  · simp (disch := first | assumption | omega | decide | exact vp_in_nI (by omega) (by omega) | exact and1_bN _ | (simp only [pk_mul, nI_add, pred_s]; exact vp_in_nI (by omega) (by omega))) only [xs_16_0, c_refPl_bad hx, Option.toList_some, Option.toList_none, List.cons_append, List.nil_append, List.append_nil, xs_16_4, n1z, ↓reduceIte, xs_16_7]
    refine AN_i ?_
    rw [m_at_bad (d := d + 17) hx]
    exact ⟨rfl, PST_i H⟩
theorem k_lay (H : INV I J t dr G T v bk pre ss) {x i w : Int32} : xr scr (d + 20) xc_13 0 [some (.ref 0), some (.int x), some (.int i), some (.int w), none] [] (wS, I, J, wP t dr G) (AN scr (d + 20) xc_163 [some (.ref 58), some (.int x), some (.int i), some (.int w), none]) := by
  by_cases hx : rng x 6 = true
  · obtain ⟨r, hr, rfl⟩ := rng_of hx (by decide)
    have hcl : (nI r).toNatClampNeg = r := nI_clamp (by omega)
    rcases H.2.1.1 r hr with ⟨s, hs, h8, h60⟩ | ⟨h8, h60⟩
    · by_cases hi : rng i s = true
      · obtain ⟨i, hi1, rfl⟩ := rng_of hi (by omega)
        have hi40 : i < 40 := by omega
        have hcli : (nI i).toNatClampNeg = i := nI_clamp (by omega)
        simp (disch := first | assumption | omega | decide | exact vp_in_nI (by omega) (by omega) | exact and1_bN _ | (simp only [pk_mul, nI_add, pred_s]; exact vp_in_nI (by omega) (by omega))) only [xs_13_0, c_refPl_ok hr hs h8 hi1, Option.toList_some, Option.toList_none, List.cons_append, List.nil_append, List.append_nil, xs_13_4, nI_0, ↓reduceIte]
        rw [xs_13_9 (vp_in_nI hr (by omega)) (vp_in_nI (by omega) (by omega)), hcl, hcli]
        refine AN_i ?_
        obtain ⟨I1, hI1⟩ : ∃ I1 : Nat → Nat → Int32, I1 = xi_up (xi_up I 0 14 (I (2 + r) i)) (2 + r) i w := ⟨_, rfl⟩
        rw [← hI1]
        have e60 : I1 60 r = nI s := by rw [hI1, xu_nc (by omega), xu_nc (by decide), h60]
        have e61 : I1 61 (40 * r + i) = I (2 + r) i := by rw [hI1, xu_nc (by omega), xu_nc (by decide), ← H.2.1.2 r hr i hi40]
        rw [xs_163_0, m_at_ok (d := d + 16) hr hs e60 hi1, e61]
        simp (disch := first | assumption | omega | decide | exact vp_in_nI (by omega) (by omega) | exact and1_bN _ | (simp only [pk_mul, nI_add, pred_s]; exact vp_in_nI (by omega) (by omega))) only [Option.toList_some, Option.toList_none, List.cons_append, List.nil_append, List.append_nil, xs_163_4, n1l, ↓reduceIte, xs_163_9, m_setRow hr hi40, xs_163_14]
        refine ⟨trivial, PST_i (INV_rows H ⟨fun k hk => ?_, fun i2 _ => ?_, fun j hj => ?_, fun j hj => ?_⟩ ⟨fun r2 hr2 => ?_, fun r2 hr2 i2 hi2 => ?_⟩ ?_ rfl)⟩
        · rw [xu_fr (by omega), xu_fr (by omega), hI1, xu_fr (by omega), xu_fr (by omega)]
        · rw [xu_nc (by omega), xu_nc (by omega), hI1, xu_nc (by omega), xu_nc (by omega)]
        · rw [xu_nc (by omega), xu_nj (by omega), hI1, xu_nc (by omega), xu_nc (by omega)]
        · rw [xu_nc (by omega), xu_nc (by omega), hI1, xu_nc (by omega), xu_nj hj]
        · rw [xu_nc (by decide), xu_nc (by decide), xu_nc (by decide), xu_nc (by decide), hI1, xu_nc (by omega), xu_nc (by decide), xu_nc (by omega), xu_nc (by decide)]
          exact H.2.1.1 r2 hr2
        · rw [xu_nc (by omega), xu_nc (by omega), xu_at, xu_nc (by decide), hI1]
          by_cases e : r2 = r
          · subst e
            rw [xu_at]
            by_cases e2 : i2 = i
            · rw [if_pos e2, if_pos (by rw [e2])]
            · rw [if_neg e2, if_neg (by omega), xu_nc (by omega), xu_nc (by omega), xu_nc (by decide)]
              exact H.2.1.2 r2 hr i2 hi2
          · rw [xu_nc (by omega), xu_nc (by omega), if_neg (by omega), xu_nc (by omega), xu_nc (by decide)]
            exact H.2.1.2 r2 hr2 i2 hi2
        · have := H.2.2.2.2.2.2.2.1
          refine ⟨?_, this.2⟩
          rw [xu_nc (by decide), xu_nc (by decide), xu_nc (by decide), xu_eq, hI1, xu_nc (by omega), xu_eq]
      · simp (disch := first | assumption | omega | decide | exact vp_in_nI (by omega) (by omega) | exact and1_bN _ | (simp only [pk_mul, nI_add, pred_s]; exact vp_in_nI (by omega) (by omega))) only [xs_13_0, c_refPl_far hr hs h8 hi, Option.toList_some, Option.toList_none, List.cons_append, List.nil_append, List.append_nil, xs_13_4, n3z, ↓reduceIte, xs_13_7]
        refine AN_i ?_
        have e60 : fnd I 2 60 r = nI s := by rw [fnd_fr (by decide) (by decide), h60]
        rw [xs_163_0, m_at_far (d := d + 16) hr hs e60 hi]
        simp (disch := first | assumption | omega | decide | exact vp_in_nI (by omega) (by omega) | exact and1_bN _ | (simp only [pk_mul, nI_add, pred_s]; exact vp_in_nI (by omega) (by omega))) only [Option.toList_some, Option.toList_none, List.cons_append, List.nil_append, List.append_nil, xs_163_4, n3l, ↓reduceIte, xs_163_7]
        exact ⟨trivial, PST_i (fnd_inv (by decide) H)⟩
    · simp (disch := first | assumption | omega | decide | exact vp_in_nI (by omega) (by omega) | exact and1_bN _ | (simp only [pk_mul, nI_add, pred_s]; exact vp_in_nI (by omega) (by omega))) only [xs_13_0, c_refPl_miss hr h8, Option.toList_some, Option.toList_none, List.cons_append, List.nil_append, List.append_nil, xs_13_4, n3z, ↓reduceIte, xs_13_7]
      refine AN_i ?_
      have e60 : fnd I 1 60 r = -9 := by rw [fnd_fr (by decide) (by decide), h60]
      rw [xs_163_0, m_at_miss (d := d + 16) hr e60]
      simp (disch := first | assumption | omega | decide | exact vp_in_nI (by omega) (by omega) | exact and1_bN _ | (simp only [pk_mul, nI_add, pred_s]; exact vp_in_nI (by omega) (by omega))) only [Option.toList_some, Option.toList_none, List.cons_append, List.nil_append, List.append_nil, xs_163_4, n3l, ↓reduceIte, xs_163_7]
      exact ⟨trivial, PST_i (fnd_inv (by decide) H)⟩
  · simp (disch := first | assumption | omega | decide | exact vp_in_nI (by omega) (by omega) | exact and1_bN _ | (simp only [pk_mul, nI_add, pred_s]; exact vp_in_nI (by omega) (by omega))) only [xs_13_0, c_refPl_bad hx, Option.toList_some, Option.toList_none, List.cons_append, List.nil_append, List.append_nil, xs_13_4, n1z, ↓reduceIte, xs_13_7]
    refine AN_i ?_
    rw [xs_163_0, m_at_bad (d := d + 16) hx]
    simp (disch := first | assumption | omega | decide | exact vp_in_nI (by omega) (by omega) | exact and1_bN _ | (simp only [pk_mul, nI_add, pred_s]; exact vp_in_nI (by omega) (by omega))) only [Option.toList_some, Option.toList_none, List.cons_append, List.nil_append, List.append_nil, xs_163_4, m1lt, ↓reduceIte, xs_163_7]
    exact ⟨trivial, PST_i H⟩
def sml (g : Nat → Int32) : Nat → Int64
  | 0 => 0
  | i + 1 => sml g i + (g i).toInt64
theorem sml_c {g g2 : Nat → Int32} {n : Nat} (h : ∀ i, i < n → g i = g2 i) : sml g n = sml g2 n := by
  induction n with
  | zero => rfl
  | succ n ih =>
    show sml g n + _ = sml g2 n + _
    rw [ih (fun i hi => h i (by omega)), h n (by omega)]
theorem four5 : 4 ≤ 5 := by decide
theorem one4 : 1 ≤ 4 := by decide
theorem k_mean (H : INV I J t dr G T v bk pre ss) {x : Int32} : xr scr (d + 20) xc_20 0 [some (.ref 0), some (.int x), none, none, none, none, none] [] (wS, I, J, wP t dr G) (AN scr (d + 20) xc_166 [some (.ref 58), some (.int x), none, none, none, none]) := by
  by_cases hx : rng x 6 = true
  · obtain ⟨r, hr, rfl⟩ := rng_of hx (by decide)
    have hcl : (nI r).toNatClampNeg = r := nI_clamp (by omega)
    rcases H.2.1.1 r hr with ⟨s, hs, h8, h60⟩ | ⟨h8, h60⟩
    · -- the reference's sum
      have msum : ∀ (I1 : Nat → Nat → Int32), I1 60 r = nI s → (∀ i, i < 40 → I1 61 (40 * r + i) = I (2 + r) i) → ∀ (d : Nat) (Q : Option Value → xi_S → Prop), xr scr (d + 1) xc_166 8 [some (.ref 58), some (.int (nI r)), some (.int (nI 0)), none, none, none] [] (wS, I1, J, wP t dr G) Q = xr scr (d + 1) xc_166 28 [some (.ref 58), some (.int (nI r)), some (.int (nI 0)), some (.long (sml (I (2 + r)) s)), none, some (.int (nI s))] [] (wS, I1, J, wP t dr G) Q := by
        intro I1 e60 e61 d Q
        rw [xs_166_8]
        refine up_0 (P := fun x => xr scr (d + 1) xc_166 12 [some (.ref 58), some (.int (nI r)), some (.int (nI 0)), some (.long (sml (I (2 + r)) x)), none, some (.int (nI x))] [] (wS, I1, J, wP t dr G) Q = xr scr (d + 1) xc_166 28 [some (.ref 58), some (.int (nI r)), some (.int (nI 0)), some (.long (sml (I (2 + r)) s)), none, some (.int (nI s))] [] (wS, I1, J, wP t dr G) Q) s (fun x hx h => ?_) ?_
        · have hx40 : x < 40 := by omega
          rw [xs_166_12 (vp_in_nI hr (by omega)), hcl, e60]
          simp (disch := first | assumption | omega | decide | exact vp_in_nI (by omega) (by omega) | exact and1_bN _ | (simp only [pk_mul, nI_add, pred_s]; exact vp_in_nI (by omega) (by omega))) only [Bool.false_eq_true, nI_add, pk_mul, nI_ltI, nI_eq, z_eq, z_lt, z_gt, z_bN, bN_z, bN_p, bN_i1, nI_clamp, rng_nI, ↓reduceIte, if_true, if_false, not_true_eq_false, not_false_eq_true, true_and, and_true, and_self, false_and, and_false, hx, xs_166_18, m_rowAt hr hx40, Option.toList_some, Option.toList_none, List.cons_append, List.nil_append, List.append_nil, xs_166_23, e61 x hx40]
          exact h
        · rw [xs_166_12 (vp_in_nI hr (by omega)), hcl, e60]
          simp (disch := first | assumption | omega | decide | exact vp_in_nI (by omega) (by omega) | exact and1_bN _ | (simp only [pk_mul, nI_add, pred_s]; exact vp_in_nI (by omega) (by omega))) only [Bool.false_eq_true, nI_add, pk_mul, nI_ltI, nI_eq, z_eq, z_lt, z_gt, z_bN, bN_z, bN_p, bN_i1, nI_clamp, rng_nI, ↓reduceIte, if_true, if_false, not_true_eq_false, not_false_eq_true, true_and, and_true, and_self, false_and, and_false, Nat.lt_irrefl]
      simp (disch := first | assumption | omega | decide | exact vp_in_nI (by omega) (by omega) | exact and1_bN _ | (simp only [pk_mul, nI_add, pred_s]; exact vp_in_nI (by omega) (by omega))) only [xs_20_0, c_refRow_ok hr hs h8, Option.toList_some, Option.toList_none, List.cons_append, List.nil_append, List.append_nil, xs_20_3, nI_0, ↓reduceIte]
      rw [xs_20_8 (vp_in_nI hr (by omega)), hcl, h8]
      by_cases h0 : 0 < s
      · rw [if_pos ((z_gt (by omega)).mpr h0), xs_20_19]
        have cs : ∀ Q, xr scr (d + 20) xc_20 23 [some (.ref 0), some (.int (nI r)), some (.int 0), some (.int (nI s)), some (.long 0), none, some (.int (nI 0))] [] (wS, I, J, wP t dr G) Q = xr scr (d + 20) xc_20 38 [some (.ref 0), some (.int (nI r)), some (.int 0), some (.int (nI s)), some (.long (sml (I (2 + r)) s)), none, some (.int (nI s))] [] (wS, I, J, wP t dr G) Q := fun Q => by
          refine up_0 (P := fun x => xr scr (d + 20) xc_20 23 [some (.ref 0), some (.int (nI r)), some (.int 0), some (.int (nI s)), some (.long (sml (I (2 + r)) x)), none, some (.int (nI x))] [] (wS, I, J, wP t dr G) Q = xr scr (d + 20) xc_20 38 [some (.ref 0), some (.int (nI r)), some (.int 0), some (.int (nI s)), some (.long (sml (I (2 + r)) s)), none, some (.int (nI s))] [] (wS, I, J, wP t dr G) Q) s (fun x hx h => ?_) ?_
          · rw [xs_20_23]
            simp (disch := first | assumption | omega | decide | exact vp_in_nI (by omega) (by omega) | exact and1_bN _ | (simp only [pk_mul, nI_add, pred_s]; exact vp_in_nI (by omega) (by omega))) only [Bool.false_eq_true, nI_add, pk_mul, nI_ltI, nI_eq, z_eq, z_lt, z_gt, z_bN, bN_z, bN_p, bN_i1, nI_clamp, rng_nI, ↓reduceIte, if_true, if_false, not_true_eq_false, not_false_eq_true, true_and, and_true, and_self, false_and, and_false, hx]
            rw [xs_20_26 (vp_in_nI hr (by omega)) (vp_in_nI (by omega) (by omega)), hcl, nI_clamp (by omega), nI_add]
            exact h
          · rw [xs_20_23]
            simp (disch := first | assumption | omega | decide | exact vp_in_nI (by omega) (by omega) | exact and1_bN _ | (simp only [pk_mul, nI_add, pred_s]; exact vp_in_nI (by omega) (by omega))) only [Bool.false_eq_true, nI_add, pk_mul, nI_ltI, nI_eq, z_eq, z_lt, z_gt, z_bN, bN_z, bN_p, bN_i1, nI_clamp, rng_nI, ↓reduceIte, if_true, if_false, not_true_eq_false, not_false_eq_true, true_and, and_true, and_self, false_and, and_false, Nat.lt_irrefl]
        have hz : ¬ Int32.toInt64 (nI s) = 0 := by rw [nI_l (by omega), l0, lN_eq (by omega) (by decide)]; omega
        rw [cs, xs_20_38 hz]
        refine AN_i ?_
        obtain ⟨q, hq⟩ : ∃ q, q = Int64.toInt32 (sml (I (2 + r)) s / Int32.toInt64 (nI s)) := ⟨_, rfl⟩
        rw [← hq]
        have e60 : xi_up I 0 14 q 60 r = nI s := by rw [xu_nc (by decide), h60]
        have hs0 : ¬ nI s = 0 := nI_ne0 h0 (by omega)
        simp (disch := first | assumption | omega | decide | exact vp_in_nI (by omega) (by omega) | exact and1_bN _ | (simp only [pk_mul, nI_add, pred_s]; exact vp_in_nI (by omega) (by omega))) only [xs_166_0, m_askRow_ok hr hs e60, Option.toList_some, Option.toList_none, List.cons_append, List.nil_append, List.append_nil, xs_166_3, n0l, ↓reduceIte]
        rw [msum _ e60 (fun i hi => by rw [xu_nc (by decide)]; exact (H.2.1.2 r hr i hi).symm), xs_166_28 (vp_in_nI hr (by omega)), hcl, e60, if_neg hs0, xs_166_37 (vp_in_nI hr (by omega)) (by rw [hcl, e60]; exact hz), hcl, e60, ← hq]
        simp (disch := first | assumption | omega | decide | exact vp_in_nI (by omega) (by omega) | exact and1_bN _ | (simp only [pk_mul, nI_add, pred_s]; exact vp_in_nI (by omega) (by omega))) only [m_say, Option.toList_some, Option.toList_none, List.cons_append, List.nil_append, List.append_nil, xs_166_48]
        exact ⟨trivial, PST_i (sey_inv H)⟩
      · have hs0 : s = 0 := by omega
        subst hs0
        rw [if_neg (fun e => h0 ((z_gt (by decide)).mp e))]
        simp (disch := first | assumption | omega | decide | exact vp_in_nI (by omega) (by omega) | exact and1_bN _ | (simp only [pk_mul, nI_add, pred_s]; exact vp_in_nI (by omega) (by omega))) only [xs_20_15, c_found one4 four5, Option.toList_some, Option.toList_none, List.cons_append, List.nil_append, List.append_nil, xs_20_18]
        refine AN_i ?_
        have e60 : fnd I 4 60 r = nI 0 := by rw [fnd_fr (by decide) (by decide), h60]
        simp (disch := first | assumption | omega | decide | exact vp_in_nI (by omega) (by omega) | exact and1_bN _ | (simp only [pk_mul, nI_add, pred_s]; exact vp_in_nI (by omega) (by omega))) only [xs_166_0, m_askRow_ok hr hs e60, Option.toList_some, Option.toList_none, List.cons_append, List.nil_append, List.append_nil, xs_166_3, n0l, ↓reduceIte]
        rw [msum _ e60 (fun i hi => by rw [fnd_fr (by decide) (by decide)]; exact (H.2.1.2 r hr i hi).symm), xs_166_28 (vp_in_nI hr (by omega)), hcl, e60, if_pos nI_0]
        simp (disch := first | assumption | omega | decide | exact vp_in_nI (by omega) (by omega) | exact and1_bN _ | (simp only [pk_mul, nI_add, pred_s]; exact vp_in_nI (by omega) (by omega))) only [xs_166_33, m_meet four5, Option.toList_some, Option.toList_none, List.cons_append, List.nil_append, List.append_nil, xs_166_36, xs_166_48]
        exact ⟨trivial, PST_i (fnd_inv (by decide) H)⟩
    · simp (disch := first | assumption | omega | decide | exact vp_in_nI (by omega) (by omega) | exact and1_bN _ | (simp only [pk_mul, nI_add, pred_s]; exact vp_in_nI (by omega) (by omega))) only [xs_20_0, c_refRow_miss hr h8, Option.toList_some, Option.toList_none, List.cons_append, List.nil_append, List.append_nil, xs_20_3, n3z, ↓reduceIte, xs_20_6]
      refine AN_i ?_
      have e60 : fnd I 1 60 r = -9 := by rw [fnd_fr (by decide) (by decide), h60]
      simp (disch := first | assumption | omega | decide | exact vp_in_nI (by omega) (by omega) | exact and1_bN _ | (simp only [pk_mul, nI_add, pred_s]; exact vp_in_nI (by omega) (by omega))) only [xs_166_0, m_askRow_miss hr e60, Option.toList_some, Option.toList_none, List.cons_append, List.nil_append, List.append_nil, xs_166_3, n3l, ↓reduceIte, xs_166_6]
      exact ⟨trivial, PST_i (fnd_inv (by decide) H)⟩
  · simp (disch := first | assumption | omega | decide | exact vp_in_nI (by omega) (by omega) | exact and1_bN _ | (simp only [pk_mul, nI_add, pred_s]; exact vp_in_nI (by omega) (by omega))) only [xs_20_0, c_refRow_bad hx, Option.toList_some, Option.toList_none, List.cons_append, List.nil_append, List.append_nil, xs_20_3, n1z, ↓reduceIte, xs_20_6]
    refine AN_i ?_
    simp (disch := first | assumption | omega | decide | exact vp_in_nI (by omega) (by omega) | exact and1_bN _ | (simp only [pk_mul, nI_add, pred_s]; exact vp_in_nI (by omega) (by omega))) only [xs_166_0, m_askRow_bad hx, Option.toList_some, Option.toList_none, List.cons_append, List.nil_append, List.append_nil, xs_166_3, m1lt, ↓reduceIte, xs_166_6]
    first | exact PST_i H | exact ⟨trivial, PST_i H⟩ | exact ⟨rfl, PST_i H⟩
end ROWS2
