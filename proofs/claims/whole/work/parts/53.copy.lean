/-! calls: copy, way, least -/
section COPY
variable {scr : xi_X} {d : Nat} {Q : Option Value → xi_S → Prop} {I I2 : Nat → Nat → Int32} {J J2 : Nat → Nat → Int64} {t dr : Nat} {G G2 : Nat → Nat} {T : TN} {v v2 : Nat} {bk bk2 : Bool} {pre pre2 : List Nat} {ss ss2 : List SGT}
def hasP (s : Nat) (i : Int32) (m : Nat) : Prop := ∃ i2 : Nat, i2 < 2 ^ 31 ∧ i = nI i2 ∧ i2 + m ≤ s
theorem c_hasPl_ok {s m : Nat} {i : Int32} (hs : s ≤ 40) (h : hasP s i m) : xr scr d xc_19 0 [some (.int (nI s)), some (.int i), some (.int (nI m))] [] (wS, I, J, wP t dr G) Q = Q (some (.int (nI 1))) (wS, I, J, wP t dr G) := by
  obtain ⟨i, hi, rfl, h⟩ := h
  have h1 : ¬ s < i := by omega
  have h2 : ¬ s - i < m := by omega
  have h3 : i ≤ s := by omega
  simp (disch := first | assumption | omega | decide | exact vp_in_nI (by omega) (by omega) | exact and1_bN _ | (simp only [pk_mul, nI_add, pred_s]; exact vp_in_nI (by omega) (by omega))) only [xs_19_0, xs_19_2, xs_19_5, xs_19_7, xs_19_12, xs_19_14, xs_19_15, Bool.false_eq_true, nI_add, pk_mul, nI_ltI, nI_eq, z_eq, z_lt, z_gt, z_bN, bN_z, bN_p, bN_i1, nI_clamp, rng_nI, ↓reduceIte, if_true, if_false, not_true_eq_false, not_false_eq_true, true_and, and_true, and_self, false_and, and_false, pk_sub, h1, h2]
theorem c_hasPl_no {s m : Nat} {i : Int32} (hs : s ≤ 40) (hm : m < 2 ^ 31) (h : ¬ hasP s i m) : xr scr d xc_19 0 [some (.int (nI s)), some (.int i), some (.int (nI m))] [] (wS, I, J, wP t dr G) Q = Q (some (.int (nI 0))) (wS, I, J, wP t dr G) := by
  by_cases h0 : i < 0
  · simp (disch := first | assumption | omega | decide | exact vp_in_nI (by omega) (by omega) | exact and1_bN _ | (simp only [pk_mul, nI_add, pred_s]; exact vp_in_nI (by omega) (by omega))) only [xs_19_0, h0, ↓reduceIte, xs_19_14, xs_19_15]
  · obtain ⟨i, hi, rfl⟩ := nI_of h0
    by_cases h1 : s < i
    · simp (disch := first | assumption | omega | decide | exact vp_in_nI (by omega) (by omega) | exact and1_bN _ | (simp only [pk_mul, nI_add, pred_s]; exact vp_in_nI (by omega) (by omega))) only [xs_19_0, xs_19_2, Bool.false_eq_true, nI_add, pk_mul, nI_ltI, nI_eq, z_eq, z_lt, z_gt, z_bN, bN_z, bN_p, bN_i1, nI_clamp, rng_nI, ↓reduceIte, if_true, if_false, not_true_eq_false, not_false_eq_true, true_and, and_true, and_self, false_and, and_false, h1, xs_19_14, xs_19_15]
    · have h2 : s - i < m := by
        have : ¬ i + m ≤ s := fun e => h ⟨i, hi, rfl, e⟩
        omega
      have h3 : i ≤ s := by omega
      simp (disch := first | assumption | omega | decide | exact vp_in_nI (by omega) (by omega) | exact and1_bN _ | (simp only [pk_mul, nI_add, pred_s]; exact vp_in_nI (by omega) (by omega))) only [xs_19_0, xs_19_2, xs_19_5, xs_19_7, xs_19_12, xs_19_14, xs_19_15, Bool.false_eq_true, nI_add, pk_mul, nI_ltI, nI_eq, z_eq, z_lt, z_gt, z_bN, bN_z, bN_p, bN_i1, nI_clamp, rng_nI, ↓reduceIte, if_true, if_false, not_true_eq_false, not_false_eq_true, true_and, and_true, and_self, false_and, and_false, pk_sub, h1, h2]
theorem m_copyChk_no {r s r2 s2 m : Nat} {i j : Int32} (hr : r < 6) (hr2 : r2 < 6) (hs : s ≤ 40) (hs2 : s2 ≤ 40) (hm : m < 2 ^ 31) (e1 : I 60 r = nI s) (e2 : I 60 r2 = nI s2) (h : ¬ (hasP s i m ∧ hasP s2 j m)) : xr scr (d + 1) xc_165 28 [some (.ref 58), some (.int (nI r)), some (.int i), some (.int (nI r2)), some (.int j), some (.int (nI m)), none] [] (wS, I, J, wP t dr G) Q = Q (some (.int (-3))) (wS, mmt I 2, J, wP t dr G) := by
  have hcl : (nI r).toNatClampNeg = r := nI_clamp (by omega)
  have hcl2 : (nI r2).toNatClampNeg = r2 := nI_clamp (by omega)
  have last : xr scr (d + 1) xc_165 56 [some (.ref 58), some (.int (nI r)), some (.int i), some (.int (nI r2)), some (.int j), some (.int (nI m)), none] [] (wS, I, J, wP t dr G) Q = Q (some (.int (-3))) (wS, mmt I 2, J, wP t dr G) := by
    simp (disch := first | assumption | omega | decide | exact vp_in_nI (by omega) (by omega) | exact and1_bN _ | (simp only [pk_mul, nI_add, pred_s]; exact vp_in_nI (by omega) (by omega))) only [xs_165_56, m_meet two5, Option.toList_some, Option.toList_none, List.cons_append, List.nil_append, List.append_nil, xs_165_59]
  rw [xs_165_28]
  by_cases h0 : i < 0
  · rw [if_pos h0, last]
  · rw [if_neg h0, xs_165_30]
    by_cases h1 : j < 0
    · rw [if_pos h1, last]
    · obtain ⟨i, hi, rfl⟩ := nI_of h0
      obtain ⟨j, hj, rfl⟩ := nI_of h1
      rw [if_neg h1, xs_165_32 (vp_in_nI hr (by omega)), hcl, e1, nI_l hi, nI_l hm, nI_l (by omega), lN_add]
      by_cases h2 : i + m ≤ s
      · have h3 : ¬ j + m ≤ s2 := fun e => h ⟨⟨i, hi, rfl, h2⟩, ⟨j, hj, rfl, e⟩⟩
        have h4 : ¬ s < i + m := by omega
        have h5 : s2 < j + m := by omega
        simp (disch := first | assumption | omega | decide | exact vp_in_nI (by omega) (by omega) | exact and1_bN _ | (simp only [pk_mul, nI_add, pred_s]; exact vp_in_nI (by omega) (by omega))) only [lg_cmp_gt, pk_lLT, h4, ↓reduceIte]
        rw [xs_165_44 (vp_in_nI hr2 (by omega)), hcl2, e2, nI_l hj, nI_l hm, nI_l (by omega), lN_add]
        simp (disch := first | assumption | omega | decide | exact vp_in_nI (by omega) (by omega) | exact and1_bN _ | (simp only [pk_mul, nI_add, pred_s]; exact vp_in_nI (by omega) (by omega))) only [lg_cmp_gt, pk_lLT, h5, ↓reduceIte]
        exact last
      · have h4 : s < i + m := by omega
        simp (disch := first | assumption | omega | decide | exact vp_in_nI (by omega) (by omega) | exact and1_bN _ | (simp only [pk_mul, nI_add, pred_s]; exact vp_in_nI (by omega) (by omega))) only [lg_cmp_gt, pk_lLT, h4, ↓reduceIte]
        exact last
theorem m_copyChk_ok {r s r2 s2 m i j : Nat} (hr : r < 6) (hr2 : r2 < 6) (hs : s ≤ 40) (hs2 : s2 ≤ 40) (e1 : I 60 r = nI s) (e2 : I 60 r2 = nI s2) (h : i + m ≤ s) (h2 : j + m ≤ s2)
    (hq : ∀ I2 : Nat → Nat → Int32, (∀ k, k ≠ 61 → k ≠ 62 → I2 k = I k) → (∀ r3 k, r3 < 6 → k < 40 → I2 61 (40 * r3 + k) = if r3 = r2 ∧ j ≤ k ∧ k < j + m then I 61 (40 * r + (i + (k - j))) else I 61 (40 * r3 + k)) → Q (some (.int (nI 1))) (wS, I2, J, wP t dr G)) : xr scr (d + 1) xc_165 28 [some (.ref 58), some (.int (nI r)), some (.int (nI i)), some (.int (nI r2)), some (.int (nI j)), some (.int (nI m)), none] [] (wS, I, J, wP t dr G) Q := by
  have hcl : (nI r).toNatClampNeg = r := nI_clamp (by omega)
  have hcl2 : (nI r2).toNatClampNeg = r2 := nI_clamp (by omega)
  have h4 : ¬ s < i + m := by omega
  have h5 : ¬ s2 < j + m := by omega
  rw [xs_165_28, if_neg (nI_pos (by omega)), xs_165_30, if_neg (nI_pos (by omega)), xs_165_32 (vp_in_nI hr (by omega)), hcl, e1, nI_l (by omega), nI_l (by omega), nI_l (by omega), lN_add]
  simp (disch := first | assumption | omega | decide | exact vp_in_nI (by omega) (by omega) | exact and1_bN _ | (simp only [pk_mul, nI_add, pred_s]; exact vp_in_nI (by omega) (by omega))) only [lg_cmp_gt, pk_lLT, h4, ↓reduceIte]
  rw [xs_165_44 (vp_in_nI hr2 (by omega)), hcl2, e2, nI_l (by omega), nI_l (by omega), nI_l (by omega), lN_add]
  simp (disch := first | assumption | omega | decide | exact vp_in_nI (by omega) (by omega) | exact and1_bN _ | (simp only [pk_mul, nI_add, pred_s]; exact vp_in_nI (by omega) (by omega))) only [lg_cmp_gt, pk_lLT, h5, ↓reduceIte, xs_165_60]
  refine up_0 (P := fun x => ∀ I2 : Nat → Nat → Int32, (∀ k, k ≠ 62 → I2 k = I k) → (∀ k, k < x → I2 62 k = I 61 (40 * r + (i + k))) → xr scr (d + 1) xc_165 62 [some (.ref 58), some (.int (nI r)), some (.int (nI i)), some (.int (nI r2)), some (.int (nI j)), some (.int (nI m)), some (.int (nI x))] [] (wS, I2, J, wP t dr G) Q) m (fun x hx h I2 f2 a2 => ?_) (fun I2 f2 a2 => ?_) I (fun _ _ => rfl) (fun k hk => absurd hk (Nat.not_lt_zero _))
  · have hix : i + x < 40 := by omega
    rw [xs_165_62]
    simp (disch := first | assumption | omega | decide | exact vp_in_nI (by omega) (by omega) | exact and1_bN _ | (simp only [pk_mul, nI_add, pred_s]; exact vp_in_nI (by omega) (by omega))) only [Bool.false_eq_true, nI_add, pk_mul, nI_ltI, nI_eq, z_eq, z_lt, z_gt, z_bN, bN_z, bN_p, bN_i1, nI_clamp, rng_nI, ↓reduceIte, if_true, if_false, not_true_eq_false, not_false_eq_true, true_and, and_true, and_self, false_and, and_false, hx, xs_165_65, m_rowAt hr hix, Option.toList_some, Option.toList_none, List.cons_append, List.nil_append, List.append_nil]
    rw [xs_165_74 (vp_in_nI (by omega) (by omega)), nI_clamp (by omega), nI_add]
    refine h _ (fun k hk => by rw [xu_fr hk, f2 k hk]) (fun k hk => ?_)
    rw [xu_at, f2 61 (by decide)]
    by_cases e : k = x
    · rw [if_pos e, e]
    · rw [if_neg e, a2 k (by omega)]
  · rw [xs_165_62]
    simp (disch := first | assumption | omega | decide | exact vp_in_nI (by omega) (by omega) | exact and1_bN _ | (simp only [pk_mul, nI_add, pred_s]; exact vp_in_nI (by omega) (by omega))) only [Bool.false_eq_true, nI_add, pk_mul, nI_ltI, nI_eq, z_eq, z_lt, z_gt, z_bN, bN_z, bN_p, bN_i1, nI_clamp, rng_nI, ↓reduceIte, if_true, if_false, not_true_eq_false, not_false_eq_true, true_and, and_true, and_self, false_and, and_false, Nat.lt_irrefl, xs_165_77]
    refine up_0 (P := fun x => ∀ I3 : Nat → Nat → Int32, (∀ k, k ≠ 61 → I3 k = I2 k) → (∀ r3 k, r3 < 6 → k < 40 → I3 61 (40 * r3 + k) = if r3 = r2 ∧ j ≤ k ∧ k < j + x then I 61 (40 * r + (i + (k - j))) else I 61 (40 * r3 + k)) → xr scr (d + 1) xc_165 79 [some (.ref 58), some (.int (nI r)), some (.int (nI i)), some (.int (nI r2)), some (.int (nI j)), some (.int (nI m)), some (.int (nI x))] [] (wS, I3, J, wP t dr G) Q) m (fun x hx h I3 f3 a3 => ?_) (fun I3 f3 a3 => ?_) I2 (fun _ _ => rfl) (fun r3 k h1 h2 => by rw [if_neg (by omega), f2 61 (by decide)])
    · have hjx : j + x < 40 := by omega
      rw [xs_165_79]
      simp (disch := first | assumption | omega | decide | exact vp_in_nI (by omega) (by omega) | exact and1_bN _ | (simp only [pk_mul, nI_add, pred_s]; exact vp_in_nI (by omega) (by omega))) only [Bool.false_eq_true, nI_add, pk_mul, nI_ltI, nI_eq, z_eq, z_lt, z_gt, z_bN, bN_z, bN_p, bN_i1, nI_clamp, rng_nI, ↓reduceIte, if_true, if_false, not_true_eq_false, not_false_eq_true, true_and, and_true, and_self, false_and, and_false, hx]
      rw [xs_165_82 (vp_in_nI (by omega) (by omega)), nI_clamp (by omega), nI_add, m_setRow hr2 hjx, f3 62 (by decide), a2 x hx]
      simp (disch := first | assumption | omega | decide | exact vp_in_nI (by omega) (by omega) | exact and1_bN _ | (simp only [pk_mul, nI_add, pred_s]; exact vp_in_nI (by omega) (by omega))) only [Option.toList_some, Option.toList_none, List.cons_append, List.nil_append, List.append_nil, xs_165_92, Bool.false_eq_true, nI_add, pk_mul, nI_ltI, nI_eq, z_eq, z_lt, z_gt, z_bN, bN_z, bN_p, bN_i1, nI_clamp, rng_nI, ↓reduceIte, if_true, if_false, not_true_eq_false, not_false_eq_true, true_and, and_true, and_self, false_and, and_false]
      refine h _ (fun k hk => by rw [xu_fr hk, f3 k hk]) (fun r3 k hr3 hk => ?_)
      rw [xu_at, a3 r3 k hr3 hk]
      by_cases e : r3 = r2 ∧ k = j + x
      · rw [if_pos (by rw [e.1, e.2]), if_pos (by omega), show k - j = x by omega]
      · rw [if_neg (by omega)]
        by_cases e2 : r3 = r2 ∧ j ≤ k ∧ k < j + x
        · rw [if_pos e2, if_pos (by omega)]
        · rw [if_neg e2, if_neg (by omega)]
    · rw [xs_165_79]
      simp (disch := first | assumption | omega | decide | exact vp_in_nI (by omega) (by omega) | exact and1_bN _ | (simp only [pk_mul, nI_add, pred_s]; exact vp_in_nI (by omega) (by omega))) only [Bool.false_eq_true, nI_add, pk_mul, nI_ltI, nI_eq, z_eq, z_lt, z_gt, z_bN, bN_z, bN_p, bN_i1, nI_clamp, rng_nI, ↓reduceIte, if_true, if_false, not_true_eq_false, not_false_eq_true, true_and, and_true, and_self, false_and, and_false, Nat.lt_irrefl, xs_165_94]
      exact hq I3 (fun k h1 h2 => by rw [f3 k h1, f2 k h2]) a3
theorem k_copy (H : INV I J t dr G T v bk pre ss) {x i y j n : Int32} : xr scr (d + 20) xc_18 0 [some (.ref 0), some (.int x), some (.int i), some (.int y), some (.int j), some (.int n)] [] (wS, I, J, wP t dr G) (AN scr (d + 20) xc_165 [some (.ref 58), some (.int x), some (.int i), some (.int y), some (.int j), some (.int n), none]) := by
  by_cases hx : rng x 6 = true
  · by_cases hy : rng y 6 = true
    · by_cases h2 : n < 0
      · have f5 : 1 ≤ 5 := by decide
        simp (disch := first | assumption | omega | decide | exact vp_in_nI (by omega) (by omega) | exact and1_bN _ | (simp only [pk_mul, nI_add, pred_s]; exact vp_in_nI (by omega) (by omega))) only [xs_18_0, xs_18_2, xs_18_3, xs_18_5, xs_18_8, xs_18_10, xs_18_13, c_isRow, Option.toList_some, Option.toList_none, List.cons_append, List.nil_append, List.append_nil, Bool.false_eq_true, nI_add, pk_mul, nI_ltI, nI_eq, z_eq, z_lt, z_gt, z_bN, bN_z, bN_p, bN_i1, nI_clamp, rng_nI, ↓reduceIte, if_true, if_false, not_true_eq_false, not_false_eq_true, true_and, and_true, and_self, false_and, and_false, hx, hy, h2, c_found f5 (Nat.le_refl 5)]
        refine AN_i ?_
        simp (disch := first | assumption | omega | decide | exact vp_in_nI (by omega) (by omega) | exact and1_bN _ | (simp only [pk_mul, nI_add, pred_s]; exact vp_in_nI (by omega) (by omega))) only [xs_165_0, xs_165_2, xs_165_3, xs_165_5, xs_165_8, xs_165_10, xs_165_13, m_isRow, Option.toList_some, Option.toList_none, List.cons_append, List.nil_append, List.append_nil, Bool.false_eq_true, nI_add, pk_mul, nI_ltI, nI_eq, z_eq, z_lt, z_gt, z_bN, bN_z, bN_p, bN_i1, nI_clamp, rng_nI, ↓reduceIte, if_true, if_false, not_true_eq_false, not_false_eq_true, true_and, and_true, and_self, false_and, and_false, hx, hy, h2, m_meet (Nat.le_refl 5)]
        have H2 := fnd_inv (f := 5) (by decide) H
        first | exact PST_i H2 | exact ⟨trivial, PST_i H2⟩ | exact ⟨rfl, PST_i H2⟩
      · obtain ⟨r, hr, rfl⟩ := rng_of hx (by decide)
        obtain ⟨r2, hr2, rfl⟩ := rng_of hy (by decide)
        obtain ⟨m, hm, rfl⟩ := nI_of h2
        have hcl : (nI r).toNatClampNeg = r := nI_clamp (by omega)
        have hcl2 : (nI r2).toNatClampNeg = r2 := nI_clamp (by omega)
        rw [xs_18_0]
        simp (disch := first | assumption | omega | decide | exact vp_in_nI (by omega) (by omega) | exact and1_bN _ | (simp only [pk_mul, nI_add, pred_s]; exact vp_in_nI (by omega) (by omega))) only [c_isRow, Option.toList_some, Option.toList_none, List.cons_append, List.nil_append, List.append_nil, xs_18_2, xs_18_3, xs_18_5, Bool.false_eq_true, nI_add, pk_mul, nI_ltI, nI_eq, z_eq, z_lt, z_gt, z_bN, bN_z, bN_p, bN_i1, nI_clamp, rng_nI, ↓reduceIte, if_true, if_false, not_true_eq_false, not_false_eq_true, true_and, and_true, and_self, false_and, and_false, hr, hr2, xs_18_8]
        have mhead : ∀ (I1 : Nat → Nat → Int32) (d : Nat) (Q : Option Value → xi_S → Prop), xr scr (d + 2) xc_165 0 [some (.ref 58), some (.int (nI r)), some (.int i), some (.int (nI r2)), some (.int j), some (.int (nI m)), none] [] (wS, I1, J, wP t dr G) Q = if I1 60 r < 0 then xr scr (d + 2) xc_165 24 [some (.ref 58), some (.int (nI r)), some (.int i), some (.int (nI r2)), some (.int j), some (.int (nI m)), none] [] (wS, I1, J, wP t dr G) Q else if I1 60 r2 < 0 then xr scr (d + 2) xc_165 24 [some (.ref 58), some (.int (nI r)), some (.int i), some (.int (nI r2)), some (.int j), some (.int (nI m)), none] [] (wS, I1, J, wP t dr G) Q else xr scr (d + 2) xc_165 28 [some (.ref 58), some (.int (nI r)), some (.int i), some (.int (nI r2)), some (.int j), some (.int (nI m)), none] [] (wS, I1, J, wP t dr G) Q := by
          intro I1 d Q
          rw [xs_165_0]
          simp (disch := first | assumption | omega | decide | exact vp_in_nI (by omega) (by omega) | exact and1_bN _ | (simp only [pk_mul, nI_add, pred_s]; exact vp_in_nI (by omega) (by omega))) only [m_isRow, Option.toList_some, Option.toList_none, List.cons_append, List.nil_append, List.append_nil, xs_165_2, xs_165_3, xs_165_5, Bool.false_eq_true, nI_add, pk_mul, nI_ltI, nI_eq, z_eq, z_lt, z_gt, z_bN, bN_z, bN_p, bN_i1, nI_clamp, rng_nI, ↓reduceIte, if_true, if_false, not_true_eq_false, not_false_eq_true, true_and, and_true, and_self, false_and, and_false, hr, hr2, xs_165_8]
          rw [xs_165_14 (vp_in_nI hr (by omega)), hcl, xs_165_19 (vp_in_nI hr2 (by omega)), hcl2]
        have miss : ∀ (Q : Option Value → xi_S → Prop), xr scr (d + 20) xc_18 24 [some (.ref 0), some (.int (nI r)), some (.int i), some (.int (nI r2)), some (.int j), some (.int (nI m))] [] (wS, I, J, wP t dr G) Q = Q (some (.int (-3))) (wS, fnd I 1, J, wP t dr G) := fun Q => by
          simp (disch := first | assumption | omega | decide | exact vp_in_nI (by omega) (by omega) | exact and1_bN _ | (simp only [pk_mul, nI_add, pred_s]; exact vp_in_nI (by omega) (by omega))) only [xs_18_24, c_found (Nat.le_refl 1) one15, Option.toList_some, Option.toList_none, List.cons_append, List.nil_append, List.append_nil, xs_18_27]
        have mmiss : ∀ (I1 : Nat → Nat → Int32) (d : Nat) (Q : Option Value → xi_S → Prop), xr scr (d + 1) xc_165 24 [some (.ref 58), some (.int (nI r)), some (.int i), some (.int (nI r2)), some (.int j), some (.int (nI m)), none] [] (wS, I1, J, wP t dr G) Q = Q (some (.int (-3))) (wS, mmt I1 1, J, wP t dr G) := fun I1 d Q => by
          simp (disch := first | assumption | omega | decide | exact vp_in_nI (by omega) (by omega) | exact and1_bN _ | (simp only [pk_mul, nI_add, pred_s]; exact vp_in_nI (by omega) (by omega))) only [xs_165_24, m_meet one15, Option.toList_some, Option.toList_none, List.cons_append, List.nil_append, List.append_nil, xs_165_27]
        rw [xs_18_14 (vp_in_nI hr (by omega)), hcl]
        rcases H.2.1.1 r hr with ⟨s, hs, h8, h60⟩ | ⟨h8, h60⟩
        · rw [h8, if_neg (nI_pos (by omega)), xs_18_19 (vp_in_nI hr2 (by omega)), hcl2]
          rcases H.2.1.1 r2 hr2 with ⟨s2, hs2, h8', h60'⟩ | ⟨h8', h60'⟩
          · rw [h8', if_neg (nI_pos (by omega)), xs_18_28 (vp_in_nI hr (by omega)), hcl, h8]
            by_cases hP : hasP s i m ∧ hasP s2 j m
            · simp (disch := first | assumption | omega | decide | exact vp_in_nI (by omega) (by omega) | exact and1_bN _ | (simp only [pk_mul, nI_add, pred_s]; exact vp_in_nI (by omega) (by omega))) only [c_hasPl_ok hs hP.1, Option.toList_some, Option.toList_none, List.cons_append, List.nil_append, List.append_nil, xs_18_35, Nat.one_ne_zero, Bool.false_eq_true, nI_add, pk_mul, nI_ltI, nI_eq, z_eq, z_lt, z_gt, z_bN, bN_z, bN_p, bN_i1, nI_clamp, rng_nI, ↓reduceIte, if_true, if_false, not_true_eq_false, not_false_eq_true, true_and, and_true, and_self, false_and, and_false]
              rw [xs_18_36 (vp_in_nI hr2 (by omega)), hcl2, h8']
              simp (disch := first | assumption | omega | decide | exact vp_in_nI (by omega) (by omega) | exact and1_bN _ | (simp only [pk_mul, nI_add, pred_s]; exact vp_in_nI (by omega) (by omega))) only [c_hasPl_ok hs2 hP.2, Option.toList_some, Option.toList_none, List.cons_append, List.nil_append, List.append_nil, xs_18_43, Nat.one_ne_zero, Bool.false_eq_true, nI_add, pk_mul, nI_ltI, nI_eq, z_eq, z_lt, z_gt, z_bN, bN_z, bN_p, bN_i1, nI_clamp, rng_nI, ↓reduceIte, if_true, if_false, not_true_eq_false, not_false_eq_true, true_and, and_true, and_self, false_and, and_false]
              obtain ⟨⟨i, hi, rfl, hi2⟩, ⟨j, hj, rfl, hj2⟩⟩ := hP
              have c1 : (nI i).toNatClampNeg = i := nI_clamp (by omega)
              have c2 : (nI j).toNatClampNeg = j := nI_clamp (by omega)
              have c3 : (nI m).toNatClampNeg = m := nI_clamp (by omega)
              rw [xs_18_48 (vp_in_nI hr (by omega)) (vp_in_nI hr2 (by omega)) (nI_pos (by omega)) (nI_pos (by omega)) (nI_pos (by omega)) (by rw [c1, c3]; omega) (by rw [c2, c3]; omega), hcl, hcl2, c1, c2, c3]
              refine AN_i ?_
              obtain ⟨I1, hI1⟩ : ∃ I1 : Nat → Nat → Int32, I1 = xi_ua I (2 + r2) (va_cpy (I (2 + r)) (I (2 + r2)) i j m) := ⟨_, rfl⟩
              rw [← hI1]
              have f1 : ∀ k, k ≠ 2 + r2 → I1 k = I k := fun k hk => by rw [hI1, xa_fr hk]
              have e60 : I1 60 r = nI s := by rw [f1 60 (by omega), h60]
              have e60' : I1 60 r2 = nI s2 := by rw [f1 60 (by omega), h60']
              rw [mhead I1 (d + 18), e60, e60', if_neg (nI_pos (by omega)), if_neg (nI_pos (by omega))]
              refine m_copyChk_ok (d := d + 19) hr hr2 hs hs2 e60 e60' hi2 hj2 (fun I3 f3 a3 => ⟨rfl, PST_i (INV_rows H ⟨fun k hk => ?_, fun i3 _ => ?_, fun j3 hj3 => ?_, fun j3 hj3 => ?_⟩ ⟨fun r3 hr3 => ?_, fun r3 hr3 k hk => ?_⟩ ?_ rfl)⟩)
              · rw [f3 k (by omega) (by omega), f1 k (by omega)]
              · rw [f3 66 (by decide) (by decide), f1 66 (by omega)]
              · rw [f3 58 (by decide) (by decide), f1 58 (by omega)]
              · rw [f3 0 (by decide) (by decide), f1 0 (by omega)]
              · rw [f3 8 (by decide) (by decide), f1 8 (by omega), f3 60 (by decide) (by decide), f1 60 (by omega)]
                exact H.2.1.1 r3 hr3
              · rw [a3 r3 k hr3 hk, f3 (2 + r3) (by omega) (by omega), f1 61 (by omega)]
                by_cases e : r3 = r2
                · subst e
                  rw [hI1, xa_eq]
                  unfold va_cpy
                  by_cases e2 : j ≤ k ∧ k < j + m
                  · rw [if_pos e2, if_pos ⟨rfl, e2⟩, H.2.1.2 r hr _ (by omega)]
                  · rw [if_neg e2, if_neg (fun e3 => e2 e3.2), H.2.1.2 r3 hr3 k hk]
                · rw [f1 (2 + r3) (by omega), if_neg (fun e3 => e e3.1), H.2.1.2 r3 hr3 k hk]
              · have := H.2.2.2.2.2.2.2.1
                unfold IA at this ⊢
                rw [f3 0 (by decide) (by decide), f1 0 (by omega), f3 58 (by decide) (by decide), f1 58 (by omega)]
                exact this
            · have far : ∀ (Q : Option Value → xi_S → Prop), xr scr (d + 20) xc_18 44 [some (.ref 0), some (.int (nI r)), some (.int i), some (.int (nI r2)), some (.int j), some (.int (nI m))] [] (wS, I, J, wP t dr G) Q = Q (some (.int (-3))) (wS, fnd I 2, J, wP t dr G) := fun Q => by
                simp (disch := first | assumption | omega | decide | exact vp_in_nI (by omega) (by omega) | exact and1_bN _ | (simp only [pk_mul, nI_add, pred_s]; exact vp_in_nI (by omega) (by omega))) only [xs_18_44, c_found one2 two5, Option.toList_some, Option.toList_none, List.cons_append, List.nil_append, List.append_nil, xs_18_47]
              have e60 : fnd I 2 60 r = nI s := by rw [fnd_fr (by decide) (by decide), h60]
              have e60' : fnd I 2 60 r2 = nI s2 := by rw [fnd_fr (by decide) (by decide), h60']
              have fin : AN scr (d + 20) xc_165 [some (.ref 58), some (.int (nI r)), some (.int i), some (.int (nI r2)), some (.int j), some (.int (nI m)), none] (some (.int (-3))) (wS, fnd I 2, J, wP t dr G) := by
                refine AN_i ?_
                rw [mhead (fnd I 2) (d + 18), e60, e60', if_neg (nI_pos (by omega)), if_neg (nI_pos (by omega)), m_copyChk_no (d := d + 19) hr hr2 hs hs2 hm e60 e60' hP]
                exact ⟨rfl, PST_i (fnd_inv (by decide) H)⟩
              by_cases hP1 : hasP s i m
              · have hP2 : ¬ hasP s2 j m := fun e => hP ⟨hP1, e⟩
                simp (disch := first | assumption | omega | decide | exact vp_in_nI (by omega) (by omega) | exact and1_bN _ | (simp only [pk_mul, nI_add, pred_s]; exact vp_in_nI (by omega) (by omega))) only [c_hasPl_ok hs hP1, Option.toList_some, Option.toList_none, List.cons_append, List.nil_append, List.append_nil, xs_18_35, Nat.one_ne_zero, Bool.false_eq_true, nI_add, pk_mul, nI_ltI, nI_eq, z_eq, z_lt, z_gt, z_bN, bN_z, bN_p, bN_i1, nI_clamp, rng_nI, ↓reduceIte, if_true, if_false, not_true_eq_false, not_false_eq_true, true_and, and_true, and_self, false_and, and_false]
                rw [xs_18_36 (vp_in_nI hr2 (by omega)), hcl2, h8']
                simp (disch := first | assumption | omega | decide | exact vp_in_nI (by omega) (by omega) | exact and1_bN _ | (simp only [pk_mul, nI_add, pred_s]; exact vp_in_nI (by omega) (by omega))) only [c_hasPl_no hs2 hm hP2, Option.toList_some, Option.toList_none, List.cons_append, List.nil_append, List.append_nil, xs_18_43, nI_0, ↓reduceIte]
                rw [far]
                exact fin
              · simp (disch := first | assumption | omega | decide | exact vp_in_nI (by omega) (by omega) | exact and1_bN _ | (simp only [pk_mul, nI_add, pred_s]; exact vp_in_nI (by omega) (by omega))) only [c_hasPl_no hs hm hP1, Option.toList_some, Option.toList_none, List.cons_append, List.nil_append, List.append_nil, xs_18_35, nI_0, ↓reduceIte]
                rw [far]
                exact fin
          · rw [h8', if_pos m1lt, miss]
            refine AN_i ?_
            have e60 : fnd I 1 60 r = nI s := by rw [fnd_fr (by decide) (by decide), h60]
            have e60' : fnd I 1 60 r2 = -9 := by rw [fnd_fr (by decide) (by decide), h60']
            rw [mhead (fnd I 1) (d + 18), e60, e60', if_neg (nI_pos (by omega)), if_pos m9lt0, mmiss (fnd I 1) (d + 19)]
            exact ⟨rfl, PST_i (fnd_inv (by decide) H)⟩
        · rw [h8, if_pos m1lt, miss]
          refine AN_i ?_
          have e60 : fnd I 1 60 r = -9 := by rw [fnd_fr (by decide) (by decide), h60]
          rw [mhead (fnd I 1) (d + 18), e60, if_pos m9lt0, mmiss (fnd I 1) (d + 19)]
          exact ⟨rfl, PST_i (fnd_inv (by decide) H)⟩
    · simp (disch := first | assumption | omega | decide | exact vp_in_nI (by omega) (by omega) | exact and1_bN _ | (simp only [pk_mul, nI_add, pred_s]; exact vp_in_nI (by omega) (by omega))) only [xs_18_0, xs_18_2, xs_18_3, xs_18_5, xs_18_6, c_isRow, Option.toList_some, Option.toList_none, List.cons_append, List.nil_append, List.append_nil, Bool.false_eq_true, nI_add, pk_mul, nI_ltI, nI_eq, z_eq, z_lt, z_gt, z_bN, bN_z, bN_p, bN_i1, nI_clamp, rng_nI, ↓reduceIte, if_true, if_false, not_true_eq_false, not_false_eq_true, true_and, and_true, and_self, false_and, and_false, hx, hy]
      refine AN_i ?_
      simp (disch := first | assumption | omega | decide | exact vp_in_nI (by omega) (by omega) | exact and1_bN _ | (simp only [pk_mul, nI_add, pred_s]; exact vp_in_nI (by omega) (by omega))) only [xs_165_0, xs_165_2, xs_165_3, xs_165_5, xs_165_6, m_isRow, Option.toList_some, Option.toList_none, List.cons_append, List.nil_append, List.append_nil, Bool.false_eq_true, nI_add, pk_mul, nI_ltI, nI_eq, z_eq, z_lt, z_gt, z_bN, bN_z, bN_p, bN_i1, nI_clamp, rng_nI, ↓reduceIte, if_true, if_false, not_true_eq_false, not_false_eq_true, true_and, and_true, and_self, false_and, and_false, hx, hy]
      first | exact PST_i H | exact ⟨trivial, PST_i H⟩ | exact ⟨rfl, PST_i H⟩
  · simp (disch := first | assumption | omega | decide | exact vp_in_nI (by omega) (by omega) | exact and1_bN _ | (simp only [pk_mul, nI_add, pred_s]; exact vp_in_nI (by omega) (by omega))) only [xs_18_0, xs_18_2, xs_18_6, c_isRow, Option.toList_some, Option.toList_none, List.cons_append, List.nil_append, List.append_nil, Bool.false_eq_true, nI_add, pk_mul, nI_ltI, nI_eq, z_eq, z_lt, z_gt, z_bN, bN_z, bN_p, bN_i1, nI_clamp, rng_nI, ↓reduceIte, if_true, if_false, not_true_eq_false, not_false_eq_true, true_and, and_true, and_self, false_and, and_false, hx]
    refine AN_i ?_
    simp (disch := first | assumption | omega | decide | exact vp_in_nI (by omega) (by omega) | exact and1_bN _ | (simp only [pk_mul, nI_add, pred_s]; exact vp_in_nI (by omega) (by omega))) only [xs_165_0, xs_165_2, xs_165_6, m_isRow, Option.toList_some, Option.toList_none, List.cons_append, List.nil_append, List.append_nil, Bool.false_eq_true, nI_add, pk_mul, nI_ltI, nI_eq, z_eq, z_lt, z_gt, z_bN, bN_z, bN_p, bN_i1, nI_clamp, rng_nI, ↓reduceIte, if_true, if_false, not_true_eq_false, not_false_eq_true, true_and, and_true, and_self, false_and, and_false, hx]
    first | exact PST_i H | exact ⟨trivial, PST_i H⟩ | exact ⟨rfl, PST_i H⟩
end COPY
