/-! calls: text, put -/
section TEXTS
variable {scr : xi_X} {d : Nat} {Q : Option Value → xi_S → Prop} {I I2 I3 I4 : Nat → Nat → Int32} {J J2 : Nat → Nat → Int64} {t dr : Nat} {G G2 : Nat → Nat} {T : TN} {v v2 : Nat} {bk bk2 : Bool} {pre pre2 : List Nat} {ss ss2 : List SGT}
theorem INV_texts (H : INV I J t dr G T v bk pre ss) (hc : ∀ k, (k < 10 ∨ 14 < k) → k ≠ 63 → k ≠ 64 → I2 k = I k) (hX : IX I2) : INV I2 J t dr G T v bk pre ss := by
  obtain ⟨h1, h2, h3, h4, h5, h6, h7, h8, h9⟩ := H
  have h58 : I2 58 = I 58 := hc 58 (by omega) (by omega) (by omega)
  exact ⟨IT_fr h1 (fun k a b => hc k (by omega) (by omega) (by omega)) (hc 65 (by omega) (by omega) (by omega)) (by rw [h58]) (by rw [h58]), IR_fr h2 (fun k a b => hc k (by omega) (by omega) (by omega)) (hc 60 (by omega) (by omega) (by omega)) (hc 61 (by omega) (by omega) (by omega)), hX, ID_fr h4 (hc 25 (by omega) (by omega) (by omega)) (hc 26 (by omega) (by omega) (by omega)) (fun i _ => by rw [hc 66 (by omega) (by omega) (by omega)]) (by rw [h58]) (by rw [h58]) (by rw [h58]), IK_fr h5 (fun k a b => hc k (by omega) (by omega) (by omega)) (hc 70 (by omega) (by omega) (by omega)), IS_fr h6 (by rw [hc 28 (by omega) (by omega) (by omega)]) (fun k a b => hc k (by omega) (by omega) (by omega)) (hc 71 (by omega) (by omega) (by omega)) (by rw [h58]), IP_fr h7 (by rw [hc 28 (by omega) (by omega) (by omega)]) (hc 38 (by omega) (by omega) (by omega)) (hc 43 (by omega) (by omega) (by omega)) rfl, IA_fr h8 (by rw [hc 0 (by omega) (by omega) (by omega)]) (by rw [h58]), IF_fr h9 (by rw [hc 0 (by omega) (by omega) (by omega)]) (by rw [h58]) (hc 51 (by omega) (by omega) (by omega)) (hc 59 (by omega) (by omega) (by omega))⟩
theorem c_refText_bad {x : Int32} (hx : ¬ rng x 4 = true) : xr scr (d + 1) xc_25 0 [some (.ref 0), some (.int x)] [] (wS, I, J, wP t dr G) Q = Q (some (.int (-1))) (wS, I, J, wP t dr G) := by
  simp (disch := first | assumption | omega | decide | exact vp_in_nI (by omega) (by omega) | exact and1_bN _ | (simp only [pk_mul, nI_add, pred_s]; exact vp_in_nI (by omega) (by omega))) only [xs_25_0, xs_25_2, xs_25_3, c_isText, Option.toList_some, Option.toList_none, List.cons_append, List.nil_append, List.append_nil, Bool.false_eq_true, nI_add, pk_mul, nI_ltI, nI_eq, z_eq, z_lt, z_gt, z_bN, bN_z, bN_p, bN_i1, nI_clamp, rng_nI, ↓reduceIte, if_true, if_false, not_true_eq_false, not_false_eq_true, true_and, and_true, and_self, false_and, and_false, hx]
theorem c_refText_miss {r : Nat} (hr : r < 4) (h8 : I 14 r = -1) : xr scr (d + 1) xc_25 0 [some (.ref 0), some (.int (nI r))] [] (wS, I, J, wP t dr G) Q = Q (some (.int (-3))) (wS, fnd I 1, J, wP t dr G) := by
  have hcl : (nI r).toNatClampNeg = r := nI_clamp (by omega)
  simp (disch := first | assumption | omega | decide | exact vp_in_nI (by omega) (by omega) | exact and1_bN _ | (simp only [pk_mul, nI_add, pred_s]; exact vp_in_nI (by omega) (by omega))) only [xs_25_0, xs_25_2, c_isText, Option.toList_some, Option.toList_none, List.cons_append, List.nil_append, List.append_nil, Bool.false_eq_true, nI_add, pk_mul, nI_ltI, nI_eq, z_eq, z_lt, z_gt, z_bN, bN_z, bN_p, bN_i1, nI_clamp, rng_nI, ↓reduceIte, if_true, if_false, not_true_eq_false, not_false_eq_true, true_and, and_true, and_self, false_and, and_false, hr]
  rw [xs_25_5 (vp_in_nI hr (by omega)), hcl, h8, if_pos m1lt]
  simp (disch := first | assumption | omega | decide | exact vp_in_nI (by omega) (by omega) | exact and1_bN _ | (simp only [pk_mul, nI_add, pred_s]; exact vp_in_nI (by omega) (by omega))) only [xs_25_10, c_found (Nat.le_refl 1) one15, Option.toList_some, Option.toList_none, List.cons_append, List.nil_append, List.append_nil, xs_25_13, xs_25_15]
theorem c_refText_ok {r s : Nat} (hr : r < 4) (hs : s ≤ 80) (h8 : I 14 r = nI s) : xr scr (d + 1) xc_25 0 [some (.ref 0), some (.int (nI r))] [] (wS, I, J, wP t dr G) Q = Q (some (.int (nI 0))) (wS, I, J, wP t dr G) := by
  have hcl : (nI r).toNatClampNeg = r := nI_clamp (by omega)
  simp (disch := first | assumption | omega | decide | exact vp_in_nI (by omega) (by omega) | exact and1_bN _ | (simp only [pk_mul, nI_add, pred_s]; exact vp_in_nI (by omega) (by omega))) only [xs_25_0, xs_25_2, c_isText, Option.toList_some, Option.toList_none, List.cons_append, List.nil_append, List.append_nil, Bool.false_eq_true, nI_add, pk_mul, nI_ltI, nI_eq, z_eq, z_lt, z_gt, z_bN, bN_z, bN_p, bN_i1, nI_clamp, rng_nI, ↓reduceIte, if_true, if_false, not_true_eq_false, not_false_eq_true, true_and, and_true, and_self, false_and, and_false, hr]
  rw [xs_25_5 (vp_in_nI hr (by omega)), hcl, h8, if_neg (nI_pos (by omega))]
  simp (disch := first | assumption | omega | decide | exact vp_in_nI (by omega) (by omega) | exact and1_bN _ | (simp only [pk_mul, nI_add, pred_s]; exact vp_in_nI (by omega) (by omega))) only [xs_25_14, xs_25_15]
theorem m_askText_bad {x : Int32} (hx : ¬ rng x 4 = true) : xr scr (d + 2) xc_170 0 [some (.ref 58), some (.int x)] [] (wS, I, J, wP t dr G) Q = Q (some (.int (-1))) (wS, I, J, wP t dr G) := by
  simp (disch := first | assumption | omega | decide | exact vp_in_nI (by omega) (by omega) | exact and1_bN _ | (simp only [pk_mul, nI_add, pred_s]; exact vp_in_nI (by omega) (by omega))) only [xs_170_0, xs_170_2, xs_170_3, xs_170_15, m_isText, Option.toList_some, Option.toList_none, List.cons_append, List.nil_append, List.append_nil, Bool.false_eq_true, nI_add, pk_mul, nI_ltI, nI_eq, z_eq, z_lt, z_gt, z_bN, bN_z, bN_p, bN_i1, nI_clamp, rng_nI, ↓reduceIte, if_true, if_false, not_true_eq_false, not_false_eq_true, true_and, and_true, and_self, false_and, and_false, hx]
theorem m_askText_miss {r : Nat} (hr : r < 4) (h8 : I 63 r = -9) : xr scr (d + 2) xc_170 0 [some (.ref 58), some (.int (nI r))] [] (wS, I, J, wP t dr G) Q = Q (some (.int (-3))) (wS, mmt I 1, J, wP t dr G) := by
  have hcl : (nI r).toNatClampNeg = r := nI_clamp (by omega)
  simp (disch := first | assumption | omega | decide | exact vp_in_nI (by omega) (by omega) | exact and1_bN _ | (simp only [pk_mul, nI_add, pred_s]; exact vp_in_nI (by omega) (by omega))) only [xs_170_0, xs_170_2, m_isText, Option.toList_some, Option.toList_none, List.cons_append, List.nil_append, List.append_nil, Bool.false_eq_true, nI_add, pk_mul, nI_ltI, nI_eq, z_eq, z_lt, z_gt, z_bN, bN_z, bN_p, bN_i1, nI_clamp, rng_nI, ↓reduceIte, if_true, if_false, not_true_eq_false, not_false_eq_true, true_and, and_true, and_self, false_and, and_false, hr]
  rw [xs_170_5 (vp_in_nI hr (by omega)), hcl, h8, if_pos m9lt0]
  simp (disch := first | assumption | omega | decide | exact vp_in_nI (by omega) (by omega) | exact and1_bN _ | (simp only [pk_mul, nI_add, pred_s]; exact vp_in_nI (by omega) (by omega))) only [xs_170_10, m_meet one15, Option.toList_some, Option.toList_none, List.cons_append, List.nil_append, List.append_nil, xs_170_13, xs_170_15]
theorem m_askText_ok {r s : Nat} (hr : r < 4) (hs : s ≤ 80) (h8 : I 63 r = nI s) : xr scr (d + 2) xc_170 0 [some (.ref 58), some (.int (nI r))] [] (wS, I, J, wP t dr G) Q = Q (some (.int (nI 0))) (wS, I, J, wP t dr G) := by
  have hcl : (nI r).toNatClampNeg = r := nI_clamp (by omega)
  simp (disch := first | assumption | omega | decide | exact vp_in_nI (by omega) (by omega) | exact and1_bN _ | (simp only [pk_mul, nI_add, pred_s]; exact vp_in_nI (by omega) (by omega))) only [xs_170_0, xs_170_2, m_isText, Option.toList_some, Option.toList_none, List.cons_append, List.nil_append, List.append_nil, Bool.false_eq_true, nI_add, pk_mul, nI_ltI, nI_eq, z_eq, z_lt, z_gt, z_bN, bN_z, bN_p, bN_i1, nI_clamp, rng_nI, ↓reduceIte, if_true, if_false, not_true_eq_false, not_false_eq_true, true_and, and_true, and_self, false_and, and_false, hr]
  rw [xs_170_5 (vp_in_nI hr (by omega)), hcl, h8, if_neg (nI_pos (by omega))]
  simp (disch := first | assumption | omega | decide | exact vp_in_nI (by omega) (by omega) | exact and1_bN _ | (simp only [pk_mul, nI_add, pred_s]; exact vp_in_nI (by omega) (by omega))) only [xs_170_14, xs_170_15]
theorem k_put (H : INV I J t dr G T v bk pre ss) {x y z : Int32} : xr scr (d + 20) xc_24 0 [some (.ref 0), some (.int x), some (.int y), some (.int z), none, none] [] (wS, I, J, wP t dr G) (AN scr (d + 20) xc_169 [some (.ref 58), some (.int x), some (.int y), some (.int z), none, none]) := by
  by_cases hx : rng x 4 = true
  · obtain ⟨r, hr, rfl⟩ := rng_of hx (by decide)
    have hcl : (nI r).toNatClampNeg = r := nI_clamp (by omega)
    rcases H.2.2.1.1 r hr with ⟨s, hs, h8, h60⟩ | ⟨h8, h60⟩
    · simp (disch := first | assumption | omega | decide | exact vp_in_nI (by omega) (by omega) | exact and1_bN _ | (simp only [pk_mul, nI_add, pred_s]; exact vp_in_nI (by omega) (by omega))) only [xs_24_0, c_refText_ok hr hs h8, Option.toList_some, Option.toList_none, List.cons_append, List.nil_append, List.append_nil, xs_24_3, nI_0, ↓reduceIte]
      rw [xs_24_8]
      have mhead : ∀ (I1 : Nat → Nat → Int32) (Q : Option Value → xi_S → Prop), I1 63 r = nI s → xr scr (d + 20) xc_169 0 [some (.ref 58), some (.int (nI r)), some (.int y), some (.int z), none, none] [] (wS, I1, J, wP t dr G) Q = if rng y s = true then xr scr (d + 20) xc_169 22 [some (.ref 58), some (.int (nI r)), some (.int y), some (.int z), some (.int (nI 0)), none] [] (wS, I1, J, wP t dr G) Q else xr scr (d + 20) xc_169 18 [some (.ref 58), some (.int (nI r)), some (.int y), some (.int z), some (.int (nI 0)), none] [] (wS, I1, J, wP t dr G) Q := fun I1 Q e63 => by
        simp (disch := first | assumption | omega | decide | exact vp_in_nI (by omega) (by omega) | exact and1_bN _ | (simp only [pk_mul, nI_add, pred_s]; exact vp_in_nI (by omega) (by omega))) only [xs_169_0, m_askText_ok hr hs e63, Option.toList_some, Option.toList_none, List.cons_append, List.nil_append, List.append_nil, xs_169_3, n0l, ↓reduceIte]
        rw [xs_169_8 (vp_in_nI hr (by omega)), hcl, e63]
        simp (disch := first | assumption | omega | decide | exact vp_in_nI (by omega) (by omega) | exact and1_bN _ | (simp only [pk_mul, nI_add, pred_s]; exact vp_in_nI (by omega) (by omega))) only [m_in, Option.toList_some, Option.toList_none, List.cons_append, List.nil_append, List.append_nil, xs_169_17]
        rw [bN_c (rng_m (n := s) (x := y) (by omega))]
        by_cases h : rng y s = true
        · have h10 : ¬ nI 1 = 0 := by decide
          rw [bN_t h, if_neg h10, if_pos h]
        · rw [bN_f h, if_pos nI_0, if_neg h]
      have mout : ¬ rng y s = true → AN scr (d + 20) xc_169 [some (.ref 58), some (.int (nI r)), some (.int y), some (.int z), none, none] (some (.int (-3))) (wS, fnd I 2, J, wP t dr G) := fun h => by
        refine AN_i ?_
        rw [mhead (fnd I 2) _ (by rw [fnd_fr (by decide) (by decide), h60]), if_neg h]
        simp (disch := first | assumption | omega | decide | exact vp_in_nI (by omega) (by omega) | exact and1_bN _ | (simp only [pk_mul, nI_add, pred_s]; exact vp_in_nI (by omega) (by omega))) only [xs_169_18, m_meet two5, Option.toList_some, Option.toList_none, List.cons_append, List.nil_append, List.append_nil, xs_169_21]
        have H2 := fnd_inv (f := 2) (by decide) H
        first | exact PST_i H2 | exact ⟨trivial, PST_i H2⟩ | exact ⟨rfl, PST_i H2⟩
      by_cases h1 : y < 0
      · rw [if_pos h1]
        simp (disch := first | assumption | omega | decide | exact vp_in_nI (by omega) (by omega) | exact and1_bN _ | (simp only [pk_mul, nI_add, pred_s]; exact vp_in_nI (by omega) (by omega))) only [xs_24_16, c_found one2 two5, Option.toList_some, Option.toList_none, List.cons_append, List.nil_append, List.append_nil, xs_24_19]
        exact mout (fun h => (rng_iff.mp h).1 h1)
      · rw [if_neg h1, xs_24_10 (vp_in_nI hr (by omega)), hcl, h8]
        by_cases h2 : y < nI s
        · obtain ⟨i, hi, rfl⟩ := rng_of (rng_iff.mpr ⟨h1, h2⟩) (by omega)
          have hi80 : i < 80 := by omega
          have hic : (nI i).toNatClampNeg = i := nI_clamp (by omega)
          rw [if_pos h2, xs_24_20 (vp_in_nI hr (by omega)) (vp_in_nI hi80 (by omega)), hcl, hic]
          refine AN_i ?_
          have e63 : ∀ q, xi_up I (10 + r) i q 63 r = nI s := fun q => by rw [xu_nc (by omega), h60]
          have e64 : ∀ q, xi_up I (10 + r) i q 64 (80 * r + i) = I (10 + r) i := fun q => by rw [xu_nc (by omega), H.2.2.1.2 r hr i hi80]
          rw [mhead _ _ (e63 _), if_pos (rng_iff.mpr ⟨h1, h2⟩), xs_169_22 (by rw [pk_mul, nI_add]; exact vp_in_nI (by omega) (by omega)), pk_mul, nI_add, nI_clamp (by omega), e64, Int8.toInt8_toInt32]
          refine ⟨rfl, PST_i (INV_texts H (fun k a b c => ?_) ⟨fun r2 hr2 => ?_, fun r2 hr2 i2 hi2 => ?_⟩)⟩
          · rw [xu_fr c, xu_fr (by omega)]
          · rw [xu_nc (by decide), xu_nc (by omega), xu_nc (by decide), xu_nc (by omega)]
            exact H.2.2.1.1 r2 hr2
          · rw [xu_nc (by omega), xu_at, xu_nc (a := 64) (k := 10 + r) (by omega)]
            by_cases e : r2 = r
            · subst e
              rw [xu_at]
              by_cases e2 : i2 = i
              · rw [if_pos e2, if_pos (by omega)]
              · rw [if_neg e2, if_neg (by omega)]
                exact H.2.2.1.2 r2 hr2 i2 hi2
            · rw [xu_nc (by omega), if_neg (by omega)]
              exact H.2.2.1.2 r2 hr2 i2 hi2
        · rw [if_neg h2]
          simp (disch := first | assumption | omega | decide | exact vp_in_nI (by omega) (by omega) | exact and1_bN _ | (simp only [pk_mul, nI_add, pred_s]; exact vp_in_nI (by omega) (by omega))) only [xs_24_16, c_found one2 two5, Option.toList_some, Option.toList_none, List.cons_append, List.nil_append, List.append_nil, xs_24_19]
          exact mout (fun h => h2 (rng_iff.mp h).2)
    · simp (disch := first | assumption | omega | decide | exact vp_in_nI (by omega) (by omega) | exact and1_bN _ | (simp only [pk_mul, nI_add, pred_s]; exact vp_in_nI (by omega) (by omega))) only [xs_24_0, c_refText_miss hr h8, Option.toList_some, Option.toList_none, List.cons_append, List.nil_append, List.append_nil, xs_24_3, n3z, ↓reduceIte, xs_24_6]
      refine AN_i ?_
      have e60 : fnd I 1 63 r = -9 := by rw [fnd_fr (by decide) (by decide), h60]
      simp (disch := first | assumption | omega | decide | exact vp_in_nI (by omega) (by omega) | exact and1_bN _ | (simp only [pk_mul, nI_add, pred_s]; exact vp_in_nI (by omega) (by omega))) only [xs_169_0, m_askText_miss hr e60, Option.toList_some, Option.toList_none, List.cons_append, List.nil_append, List.append_nil, xs_169_3, n3l, ↓reduceIte, xs_169_6]
      have H2 := fnd_inv (f := 1) (by decide) H
      first | exact PST_i H2 | exact ⟨trivial, PST_i H2⟩ | exact ⟨rfl, PST_i H2⟩
  · simp (disch := first | assumption | omega | decide | exact vp_in_nI (by omega) (by omega) | exact and1_bN _ | (simp only [pk_mul, nI_add, pred_s]; exact vp_in_nI (by omega) (by omega))) only [xs_24_0, c_refText_bad hx, Option.toList_some, Option.toList_none, List.cons_append, List.nil_append, List.append_nil, xs_24_3, n1z, ↓reduceIte, xs_24_6]
    refine AN_i ?_
    simp (disch := first | assumption | omega | decide | exact vp_in_nI (by omega) (by omega) | exact and1_bN _ | (simp only [pk_mul, nI_add, pred_s]; exact vp_in_nI (by omega) (by omega))) only [xs_169_0, m_askText_bad hx, Option.toList_some, Option.toList_none, List.cons_append, List.nil_append, List.append_nil, xs_169_3, m1lt, ↓reduceIte, xs_169_6]
    first | exact PST_i H | exact ⟨trivial, PST_i H⟩ | exact ⟨rfl, PST_i H⟩
theorem c_fillB {a n : Nat} {x : Int32} (hs : wS[a]? = some (10, n)) (hn : n < 2 ^ 31) (hx : (Int32.toInt8 x).toInt32 = x) : xr scr d xc_23 0 [some (.ref a), some (.int x), none, none] [] (wS, I, J, wP t dr G) Q = Q none (wS, xi_ua I a (fun j => if j < n then x else I a j), J, wP t dr G) := by
  rw [xs_23_0 hs]
  have e : I = xi_ua I a (fun j => if j < 0 then x else I a j) := by
    funext k
    by_cases h : k = a
    · subst h; rw [xa_eq]; rfl
    · rw [xa_fr h]
  rw [show (xr scr d xc_23 5 [some (.ref a), some (.int x), some (.int (nI 0)), some (.int (nI n))] [] (wS, I, J, wP t dr G) Q) = (xr scr d xc_23 5 [some (.ref a), some (.int x), some (.int (nI 0)), some (.int (nI n))] [] (wS, xi_ua I a (fun j => if j < 0 then x else I a j), J, wP t dr G) Q) by rw [← e]]
  refine up_0 (P := fun i => xr scr d xc_23 5 [some (.ref a), some (.int x), some (.int (nI i)), some (.int (nI n))] [] (wS, xi_ua I a (fun j => if j < i then x else I a j), J, wP t dr G) Q = Q none (wS, xi_ua I a (fun j => if j < n then x else I a j), J, wP t dr G)) n (fun i hi h => ?_) ?_
  · rw [xs_23_5]
    simp (disch := first | assumption | omega | decide | exact vp_in_nI (by omega) (by omega) | exact and1_bN _ | (simp only [pk_mul, nI_add, pred_s]; exact vp_in_nI (by omega) (by omega))) only [xs_23_8 hs, Bool.false_eq_true, nI_add, pk_mul, nI_ltI, nI_eq, z_eq, z_lt, z_gt, z_bN, bN_z, bN_p, bN_i1, nI_clamp, rng_nI, ↓reduceIte, if_true, if_false, not_true_eq_false, not_false_eq_true, true_and, and_true, and_self, false_and, and_false, hi, up_ua, hx]
    have e2 : (fun b => if b = i then x else if b < i then x else I a b) = (fun j => if j < i + 1 then x else I a j) := by
      funext b
      by_cases h1 : b = i
      · rw [if_pos h1, if_pos (by omega)]
      · rw [if_neg h1]
        by_cases h2 : b < i
        · rw [if_pos h2, if_pos (by omega)]
        · rw [if_neg h2, if_neg (by omega)]
    rw [e2]
    exact h
  · rw [xs_23_5]
    simp (disch := first | assumption | omega | decide | exact vp_in_nI (by omega) (by omega) | exact and1_bN _ | (simp only [pk_mul, nI_add, pred_s]; exact vp_in_nI (by omega) (by omega))) only [xs_23_14, Bool.false_eq_true, nI_add, pk_mul, nI_ltI, nI_eq, z_eq, z_lt, z_gt, z_bN, bN_z, bN_p, bN_i1, nI_clamp, rng_nI, ↓reduceIte, if_true, if_false, not_true_eq_false, not_false_eq_true, true_and, and_true, and_self, false_and, and_false, Nat.lt_irrefl]
theorem k_text (H : INV I J t dr G T v bk pre ss) {x y : Int32} : xr scr (d + 20) xc_21 0 [some (.ref 0), some (.int x), some (.int y)] [] (wS, I, J, wP t dr G) (AN scr (d + 20) xc_167 [some (.ref 58), some (.int x), some (.int y), none]) := by
  by_cases hx : rng x 4 = true
  · obtain ⟨r, hr, rfl⟩ := rng_of hx (by decide)
    have hcl : (nI r).toNatClampNeg = r := nI_clamp (by omega)
    rw [xs_21_0, c_isText]
    simp (disch := first | assumption | omega | decide | exact vp_in_nI (by omega) (by omega) | exact and1_bN _ | (simp only [pk_mul, nI_add, pred_s]; exact vp_in_nI (by omega) (by omega))) only [Option.toList_some, Option.toList_none, List.cons_append, List.nil_append, List.append_nil, xs_21_2, Bool.false_eq_true, nI_add, pk_mul, nI_ltI, nI_eq, z_eq, z_lt, z_gt, z_bN, bN_z, bN_p, bN_i1, nI_clamp, rng_nI, ↓reduceIte, if_true, if_false, not_true_eq_false, not_false_eq_true, true_and, and_true, and_self, false_and, and_false, hr]
    have mhead : ∀ (I1 : Nat → Nat → Int32) (Q : Option Value → xi_S → Prop), xr scr (d + 20) xc_167 0 [some (.ref 58), some (.int (nI r)), some (.int y), none] [] (wS, I1, J, wP t dr G) Q = xr scr (d + 20) xc_167 3 [some (.ref 58), some (.int (nI r)), some (.int y), none] [] (wS, I1, J, wP t dr G) Q := fun I1 Q => by
      simp (disch := first | assumption | omega | decide | exact vp_in_nI (by omega) (by omega) | exact and1_bN _ | (simp only [pk_mul, nI_add, pred_s]; exact vp_in_nI (by omega) (by omega))) only [xs_167_0, m_isText, Option.toList_some, Option.toList_none, List.cons_append, List.nil_append, List.append_nil, xs_167_2, Bool.false_eq_true, nI_add, pk_mul, nI_ltI, nI_eq, z_eq, z_lt, z_gt, z_bN, bN_z, bN_p, bN_i1, nI_clamp, rng_nI, ↓reduceIte, if_true, if_false, not_true_eq_false, not_false_eq_true, true_and, and_true, and_self, false_and, and_false, hr]
    rw [xs_21_3]
    by_cases h1 : nI 80 < y
    · rw [if_pos h1, xs_21_6]
      refine AN_i ?_
      rw [mhead, xs_167_3, if_pos h1, xs_167_6]
      first | exact PST_i H | exact ⟨trivial, PST_i H⟩ | exact ⟨rfl, PST_i H⟩
    · rw [if_neg h1, xs_21_8]
      by_cases h2 : y < 0
      · have f5 : 1 ≤ 5 := by decide
        rw [if_pos h2]
        simp (disch := first | assumption | omega | decide | exact vp_in_nI (by omega) (by omega) | exact and1_bN _ | (simp only [pk_mul, nI_add, pred_s]; exact vp_in_nI (by omega) (by omega))) only [xs_21_10, c_found f5 (Nat.le_refl 5), Option.toList_some, Option.toList_none, List.cons_append, List.nil_append, List.append_nil, xs_21_13]
        refine AN_i ?_
        rw [mhead, xs_167_3, if_neg h1, xs_167_8, if_pos h2]
        simp (disch := first | assumption | omega | decide | exact vp_in_nI (by omega) (by omega) | exact and1_bN _ | (simp only [pk_mul, nI_add, pred_s]; exact vp_in_nI (by omega) (by omega))) only [xs_167_10, m_meet (Nat.le_refl 5), Option.toList_some, Option.toList_none, List.cons_append, List.nil_append, List.append_nil, xs_167_13]
        have H2 := fnd_inv (f := 5) (by decide) H
        first | exact PST_i H2 | exact ⟨trivial, PST_i H2⟩ | exact ⟨rfl, PST_i H2⟩
      · obtain ⟨s, hs31, rfl⟩ := nI_of h2
        have hs : s ≤ 80 := by
          rw [nI_ltI (by decide) hs31] at h1
          omega
        have hwS : wS[10 + r]? = some (10, 80) := by
          have : r = 0 ∨ r = 1 ∨ r = 2 ∨ r = 3 := by omega
          rcases this with rfl | rfl | rfl | rfl <;> rfl
        rw [if_neg h2, xs_21_14 (vp_in_nI hr (by omega)), hcl, c_fillB (n := 80) hwS (by decide) (by decide)]
        simp (disch := first | assumption | omega | decide | exact vp_in_nI (by omega) (by omega) | exact and1_bN _ | (simp only [pk_mul, nI_add, pred_s]; exact vp_in_nI (by omega) (by omega))) only [Option.toList_some, Option.toList_none, List.cons_append, List.nil_append, List.append_nil]
        rw [xs_21_20 (vp_in_nI hr (by omega)), hcl]
        refine AN_i ?_
        rw [mhead, xs_167_3, if_neg h1, xs_167_8, if_neg h2, xs_167_14 (vp_in_nI hr (by omega)), hcl]
        obtain ⟨I1, hI1⟩ : ∃ I1 : Nat → Nat → Int32, I1 = xi_up (xi_up (xi_ua I (10 + r) (fun j => if j < 80 then nI 32 else I (10 + r) j)) 14 r (nI s)) 63 r (nI s) := ⟨_, rfl⟩
        rw [← hI1]
        have f1 : ∀ k, (k < 10 ∨ 14 < k) → k ≠ 63 → I1 k = I k := fun k a b => by rw [hI1, xu_fr b, xu_fr (by omega), xa_fr (by omega)]
        refine up_0 (P := fun i => ∀ I2 : Nat → Nat → Int32, (∀ k, k ≠ 64 → I2 k = I1 k) → (∀ j, I2 64 j = if 80 * r ≤ j ∧ j < 80 * r + i then nI 32 else I 64 j) → xr scr (d + 20) xc_167 21 [some (.ref 58), some (.int (nI r)), some (.int (nI s)), some (.int (nI i))] [] (wS, I2, J, wP t dr G) (fun r2 S2 => r2 = some (.int (nI s)) ∧ PST S2)) 80 (fun i hi h I2 f2 a2 => ?_) (fun I2 f2 a2 => ?_) I1 (fun _ _ => rfl) (fun j => ?_)
        · rw [xs_167_21, if_pos ((nI_ltI (by omega) (by omega)).mpr hi), xs_167_24 (by rw [pk_mul, nI_add]; exact vp_in_nI (by omega) (by omega)), pk_mul, nI_add, nI_add, nI_clamp (by omega)]
          refine h _ (fun k hk => by rw [xu_fr hk, f2 k hk]) (fun j => ?_)
          rw [xu_at, a2]
          by_cases e : j = 80 * r + i
          · rw [if_pos e, if_pos (by omega)]
          · rw [if_neg e]
            by_cases e2 : 80 * r ≤ j ∧ j < 80 * r + i
            · rw [if_pos e2, if_pos (by omega)]
            · rw [if_neg e2, if_neg (by omega)]
        · have h88 : ¬ nI 80 < nI 80 := by decide
          rw [xs_167_21, if_neg h88, xs_167_35]
          refine ⟨rfl, PST_i (INV_texts H (fun k a b c => by rw [f2 k c, f1 k a b]) ⟨fun r2 hr2 => ?_, fun r2 hr2 i hi => ?_⟩)⟩
          · rw [f2 14 (by decide), f2 63 (by decide), hI1, xu_nc (by decide), xu_at, xu_at, xu_nc (by decide), xa_fr (by omega), xa_fr (by omega)]
            by_cases e : r2 = r
            · rw [if_pos e, if_pos e]
              exact Or.inl ⟨s, hs, rfl, rfl⟩
            · rw [if_neg e, if_neg e]
              exact H.2.2.1.1 r2 hr2
          · rw [f2 (10 + r2) (by omega), a2, hI1, xu_nc (by omega), xu_nc (by omega)]
            by_cases e : r2 = r
            · rw [e, xa_eq, if_pos hi, if_pos (by omega)]
            · rw [xa_fr (by omega), if_neg (by omega)]
              exact H.2.2.1.2 r2 hr2 i hi
        · rw [f1 64 (by omega) (by omega), if_neg (by omega)]
  · rw [xs_21_0, c_isText]
    simp (disch := first | assumption | omega | decide | exact vp_in_nI (by omega) (by omega) | exact and1_bN _ | (simp only [pk_mul, nI_add, pred_s]; exact vp_in_nI (by omega) (by omega))) only [Option.toList_some, Option.toList_none, List.cons_append, List.nil_append, List.append_nil, xs_21_2, Bool.false_eq_true, nI_add, pk_mul, nI_ltI, nI_eq, z_eq, z_lt, z_gt, z_bN, bN_z, bN_p, bN_i1, nI_clamp, rng_nI, ↓reduceIte, if_true, if_false, not_true_eq_false, not_false_eq_true, true_and, and_true, and_self, false_and, and_false, hx, xs_21_6]
    refine AN_i ?_
    simp (disch := first | assumption | omega | decide | exact vp_in_nI (by omega) (by omega) | exact and1_bN _ | (simp only [pk_mul, nI_add, pred_s]; exact vp_in_nI (by omega) (by omega))) only [xs_167_0, m_isText, Option.toList_some, Option.toList_none, List.cons_append, List.nil_append, List.append_nil, xs_167_2, Bool.false_eq_true, nI_add, pk_mul, nI_ltI, nI_eq, z_eq, z_lt, z_gt, z_bN, bN_z, bN_p, bN_i1, nI_clamp, rng_nI, ↓reduceIte, if_true, if_false, not_true_eq_false, not_false_eq_true, true_and, and_true, and_self, false_and, and_false, hx, xs_167_6]
    first | exact PST_i H | exact ⟨trivial, PST_i H⟩ | exact ⟨rfl, PST_i H⟩
end TEXTS
