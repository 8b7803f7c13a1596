/-! calls: rows of ints -/
section ROWS
variable {scr : xi_X} {d : Nat} {Q : Option Value → xi_S → Prop} {I I2 : Nat → Nat → Int32} {J J2 : Nat → Nat → Int64} {t dr : Nat} {G G2 : Nat → Nat} {T : TN} {v v2 : Nat} {bk bk2 : Bool} {pre pre2 : List Nat} {ss ss2 : List SGT}
def LVR (I I2 : Nat → Nat → Int32) : Prop := (∀ k, (9 ≤ k ∧ k ≤ 31) ∨ (38 ≤ k ∧ k ≤ 43) ∨ (51 ≤ k ∧ k ≤ 57) ∨ k = 59 ∨ (63 ≤ k ∧ k ≤ 65) ∨ k = 70 ∨ k = 71 → I2 k = I k) ∧ (∀ i, i < 6 → I2 66 i = I 66 i) ∧ (∀ j, j = 0 ∨ j = 10 ∨ j = 11 ∨ j = 16 ∨ j = 17 ∨ j = 18 ∨ j = 32 → I2 58 j = I 58 j) ∧ (∀ j, j ≠ 14 → I2 0 j = I 0 j)
theorem INV_rows (h : INV I J t dr G T v bk pre ss) (L : LVR I I2) (hR : IR I2) (ha : IA I2 J2) (hG : G2 38 = G 38) : INV I2 J2 t dr G2 T v bk pre ss := by
  obtain ⟨h1, h2, h3, h4, h5, h6, h7, -, h9⟩ := h
  obtain ⟨l1, l2, l3, l4⟩ := L
  exact ⟨IT_fr h1 (fun k a b => l1 k (by omega)) (l1 65 (by omega)) (l3 10 (by omega)) (l3 11 (by omega)), hR, IX_fr h3 (fun k a b => l1 k (by omega)) (l1 63 (by omega)) (l1 64 (by omega)), ID_fr h4 (l1 25 (by omega)) (l1 26 (by omega)) l2 (l3 16 (by omega)) (l3 17 (by omega)) (l3 18 (by omega)), IK_fr h5 (fun k a b => l1 k (by omega)) (l1 70 (by omega)), IS_fr h6 (by rw [l1 28 (by omega)]) (fun k a b => l1 k (by omega)) (l1 71 (by omega)) (l3 32 (by omega)), IP_fr h7 (by rw [l1 28 (by omega)]) (l1 38 (by omega)) (l1 43 (by omega)) hG, ha, IF_fr h9 (l4 17 (by decide)) (l3 0 (by omega)) (l1 51 (by omega)) (l1 59 (by omega))⟩
theorem fnd_fr {f k : Nat} (h : k ≠ 0) (h2 : k ≠ 51) : fnd I f k = I k := by unfold fnd; rw [xu_fr h2, xu_fr h]
theorem one15 : 1 ≤ 5 := by decide
theorem c_refRow_bad {x : Int32} (hx : ¬ rng x 6 = true) : xr scr (d + 1) xc_15 0 [some (.ref 0), some (.int x)] [] (wS, I, J, wP t dr G) Q = Q (some (.int (-1))) (wS, I, J, wP t dr G) := by
  simp (disch := first | assumption | omega | decide | exact vp_in_nI (by omega) (by omega) | exact and1_bN _ | (simp only [pk_mul, nI_add, pred_s]; exact vp_in_nI (by omega) (by omega))) only [xs_15_0, xs_15_2, xs_15_3, c_isRow, Option.toList_some, Option.toList_none, List.cons_append, List.nil_append, List.append_nil, Bool.false_eq_true, nI_add, pk_mul, nI_ltI, nI_eq, z_eq, z_lt, z_gt, z_bN, bN_z, bN_p, bN_i1, nI_clamp, rng_nI, ↓reduceIte, if_true, if_false, not_true_eq_false, not_false_eq_true, true_and, and_true, and_self, false_and, and_false, hx]
theorem c_refRow_miss {r : Nat} (hr : r < 6) (h8 : I 8 r = -1) : xr scr (d + 1) xc_15 0 [some (.ref 0), some (.int (nI r))] [] (wS, I, J, wP t dr G) Q = Q (some (.int (-3))) (wS, fnd I 1, J, wP t dr G) := by
  have hcl : (nI r).toNatClampNeg = r := nI_clamp (by omega)
  simp (disch := first | assumption | omega | decide | exact vp_in_nI (by omega) (by omega) | exact and1_bN _ | (simp only [pk_mul, nI_add, pred_s]; exact vp_in_nI (by omega) (by omega))) only [xs_15_0, xs_15_2, c_isRow, Option.toList_some, Option.toList_none, List.cons_append, List.nil_append, List.append_nil, Bool.false_eq_true, nI_add, pk_mul, nI_ltI, nI_eq, z_eq, z_lt, z_gt, z_bN, bN_z, bN_p, bN_i1, nI_clamp, rng_nI, ↓reduceIte, if_true, if_false, not_true_eq_false, not_false_eq_true, true_and, and_true, and_self, false_and, and_false, hr]
  rw [xs_15_5 (vp_in_nI hr (by omega)), hcl, h8, if_pos m1lt]
  simp (disch := first | assumption | omega | decide | exact vp_in_nI (by omega) (by omega) | exact and1_bN _ | (simp only [pk_mul, nI_add, pred_s]; exact vp_in_nI (by omega) (by omega))) only [xs_15_10, c_found (Nat.le_refl 1) one15, Option.toList_some, Option.toList_none, List.cons_append, List.nil_append, List.append_nil, xs_15_13, xs_15_15]
theorem c_refRow_ok {r s : Nat} (hr : r < 6) (hs : s ≤ 40) (h8 : I 8 r = nI s) : xr scr (d + 1) xc_15 0 [some (.ref 0), some (.int (nI r))] [] (wS, I, J, wP t dr G) Q = Q (some (.int (nI 0))) (wS, I, J, wP t dr G) := by
  have hcl : (nI r).toNatClampNeg = r := nI_clamp (by omega)
  simp (disch := first | assumption | omega | decide | exact vp_in_nI (by omega) (by omega) | exact and1_bN _ | (simp only [pk_mul, nI_add, pred_s]; exact vp_in_nI (by omega) (by omega))) only [xs_15_0, xs_15_2, c_isRow, Option.toList_some, Option.toList_none, List.cons_append, List.nil_append, List.append_nil, Bool.false_eq_true, nI_add, pk_mul, nI_ltI, nI_eq, z_eq, z_lt, z_gt, z_bN, bN_z, bN_p, bN_i1, nI_clamp, rng_nI, ↓reduceIte, if_true, if_false, not_true_eq_false, not_false_eq_true, true_and, and_true, and_self, false_and, and_false, hr]
  rw [xs_15_5 (vp_in_nI hr (by omega)), hcl, h8, if_neg (nI_pos (by omega))]
  simp (disch := first | assumption | omega | decide | exact vp_in_nI (by omega) (by omega) | exact and1_bN _ | (simp only [pk_mul, nI_add, pred_s]; exact vp_in_nI (by omega) (by omega))) only [xs_15_14, xs_15_15]
theorem m9lt0 : (-9 : Int32) < 0 := by decide
theorem m_askRow_bad {x : Int32} (hx : ¬ rng x 6 = true) : xr scr (d + 2) xc_160 0 [some (.ref 58), some (.int x)] [] (wS, I, J, wP t dr G) Q = Q (some (.int (-1))) (wS, I, J, wP t dr G) := by
  simp (disch := first | assumption | omega | decide | exact vp_in_nI (by omega) (by omega) | exact and1_bN _ | (simp only [pk_mul, nI_add, pred_s]; exact vp_in_nI (by omega) (by omega))) only [xs_160_0, xs_160_2, xs_160_3, xs_160_15, m_isRow, Option.toList_some, Option.toList_none, List.cons_append, List.nil_append, List.append_nil, Bool.false_eq_true, nI_add, pk_mul, nI_ltI, nI_eq, z_eq, z_lt, z_gt, z_bN, bN_z, bN_p, bN_i1, nI_clamp, rng_nI, ↓reduceIte, if_true, if_false, not_true_eq_false, not_false_eq_true, true_and, and_true, and_self, false_and, and_false, hx]
theorem m_askRow_miss {r : Nat} (hr : r < 6) (h8 : I 60 r = -9) : xr scr (d + 2) xc_160 0 [some (.ref 58), some (.int (nI r))] [] (wS, I, J, wP t dr G) Q = Q (some (.int (-3))) (wS, mmt I 1, J, wP t dr G) := by
  have hcl : (nI r).toNatClampNeg = r := nI_clamp (by omega)
  simp (disch := first | assumption | omega | decide | exact vp_in_nI (by omega) (by omega) | exact and1_bN _ | (simp only [pk_mul, nI_add, pred_s]; exact vp_in_nI (by omega) (by omega))) only [xs_160_0, xs_160_2, m_isRow, Option.toList_some, Option.toList_none, List.cons_append, List.nil_append, List.append_nil, Bool.false_eq_true, nI_add, pk_mul, nI_ltI, nI_eq, z_eq, z_lt, z_gt, z_bN, bN_z, bN_p, bN_i1, nI_clamp, rng_nI, ↓reduceIte, if_true, if_false, not_true_eq_false, not_false_eq_true, true_and, and_true, and_self, false_and, and_false, hr]
  rw [xs_160_5 (vp_in_nI hr (by omega)), hcl, h8, if_pos m9lt0]
  simp (disch := first | assumption | omega | decide | exact vp_in_nI (by omega) (by omega) | exact and1_bN _ | (simp only [pk_mul, nI_add, pred_s]; exact vp_in_nI (by omega) (by omega))) only [xs_160_10, m_meet one15, Option.toList_some, Option.toList_none, List.cons_append, List.nil_append, List.append_nil, xs_160_13, xs_160_15]
theorem m_askRow_ok {r s : Nat} (hr : r < 6) (hs : s ≤ 40) (h8 : I 60 r = nI s) : xr scr (d + 2) xc_160 0 [some (.ref 58), some (.int (nI r))] [] (wS, I, J, wP t dr G) Q = Q (some (.int (nI 0))) (wS, I, J, wP t dr G) := by
  have hcl : (nI r).toNatClampNeg = r := nI_clamp (by omega)
  simp (disch := first | assumption | omega | decide | exact vp_in_nI (by omega) (by omega) | exact and1_bN _ | (simp only [pk_mul, nI_add, pred_s]; exact vp_in_nI (by omega) (by omega))) only [xs_160_0, xs_160_2, m_isRow, Option.toList_some, Option.toList_none, List.cons_append, List.nil_append, List.append_nil, Bool.false_eq_true, nI_add, pk_mul, nI_ltI, nI_eq, z_eq, z_lt, z_gt, z_bN, bN_z, bN_p, bN_i1, nI_clamp, rng_nI, ↓reduceIte, if_true, if_false, not_true_eq_false, not_false_eq_true, true_and, and_true, and_self, false_and, and_false, hr]
  rw [xs_160_5 (vp_in_nI hr (by omega)), hcl, h8, if_neg (nI_pos (by omega))]
  simp (disch := first | assumption | omega | decide | exact vp_in_nI (by omega) (by omega) | exact and1_bN _ | (simp only [pk_mul, nI_add, pred_s]; exact vp_in_nI (by omega) (by omega))) only [xs_160_14, xs_160_15]
theorem m_rowAt {r i : Nat} (hr : r < 6) (hi : i < 40) : xr scr d xc_161 0 [some (.ref 58), some (.int (nI r)), some (.int (nI i))] [] (wS, I, J, wP t dr G) Q = Q (some (.int (I 61 (40 * r + i)))) (wS, I, J, wP t dr G) := by
  simp (disch := first | assumption | omega | decide | exact vp_in_nI (by omega) (by omega) | exact and1_bN _ | (simp only [pk_mul, nI_add, pred_s]; exact vp_in_nI (by omega) (by omega))) only [xs_161_0, Bool.false_eq_true, nI_add, pk_mul, nI_ltI, nI_eq, z_eq, z_lt, z_gt, z_bN, bN_z, bN_p, bN_i1, nI_clamp, rng_nI, ↓reduceIte, if_true, if_false, not_true_eq_false, not_false_eq_true, true_and, and_true, and_self, false_and, and_false]
theorem m_setRow {r i : Nat} {x : Int32} (hr : r < 6) (hi : i < 40) : xr scr d xc_158 0 [some (.ref 58), some (.int (nI r)), some (.int (nI i)), some (.int x)] [] (wS, I, J, wP t dr G) Q = Q none (wS, xi_up I 61 (40 * r + i) x, J, wP t dr G) := by
  simp (disch := first | assumption | omega | decide | exact vp_in_nI (by omega) (by omega) | exact and1_bN _ | (simp only [pk_mul, nI_add, pred_s]; exact vp_in_nI (by omega) (by omega))) only [xs_158_0, Bool.false_eq_true, nI_add, pk_mul, nI_ltI, nI_eq, z_eq, z_lt, z_gt, z_bN, bN_z, bN_p, bN_i1, nI_clamp, rng_nI, ↓reduceIte, if_true, if_false, not_true_eq_false, not_false_eq_true, true_and, and_true, and_self, false_and, and_false]
theorem c_makeRow {r n : Nat} (hr : r < 6) (hq : ∀ I2 : Nat → Nat → Int32, (∀ k, k ≠ 2 + r → k ≠ 8 → I2 k = I k) → (∀ i, i < 40 → I2 (2 + r) i = nI 0) → I2 8 r = nI n → (∀ j, j ≠ r → I2 8 j = I 8 j) → Q none (wS, I2, J, wP t dr G)) : xr scr (d + 1) xc_12 0 [some (.ref 0), some (.int (nI r)), some (.int (nI n))] [] (wS, I, J, wP t dr G) Q := by
  have hcl : (nI r).toNatClampNeg = r := nI_clamp (by omega)
  rw [xs_12_0 (vp_in_nI hr (by omega)), hcl, c_fill (n := 40) (rwc_s (by omega)) (by decide)]
  simp (disch := first | assumption | omega | decide | exact vp_in_nI (by omega) (by omega) | exact and1_bN _ | (simp only [pk_mul, nI_add, pred_s]; exact vp_in_nI (by omega) (by omega))) only [Option.toList_some, Option.toList_none, List.cons_append, List.nil_append, List.append_nil]
  rw [xs_12_6 (vp_in_nI hr (by omega)), hcl]
  refine hq _ (fun k a b => by rw [xu_fr b, xa_fr a]) (fun i hi => by rw [xu_nc (by omega), xa_eq, if_pos hi]) (by rw [xu_eq]) (fun j hj => by rw [xu_nj hj, xa_fr (by omega)])
theorem m_rowL {r n : Nat} (hr : r < 6) (hq : ∀ I2 : Nat → Nat → Int32, (∀ k, k ≠ 60 → k ≠ 61 → I2 k = I k) → (∀ i, i < 40 → I2 61 (40 * r + i) = nI 0) → (∀ r2 i, r2 ≠ r → i < 40 → I2 61 (40 * r2 + i) = I 61 (40 * r2 + i)) → I2 60 r = nI n → (∀ j, j ≠ r → I2 60 j = I 60 j) → Q (some (.int (nI n))) (wS, I2, J, wP t dr G)) : xr scr (d + 1) xc_154 14 [some (.ref 58), some (.int (nI r)), some (.int (nI n)), none] [] (wS, I, J, wP t dr G) Q := by
  have hcl : (nI r).toNatClampNeg = r := nI_clamp (by omega)
  rw [xs_154_14 (vp_in_nI hr (by omega)), hcl]
  obtain ⟨I1, hI1⟩ : ∃ I1 : Nat → Nat → Int32, I1 = xi_up I 60 r (nI n) := ⟨_, rfl⟩
  rw [← hI1]
  refine up_0 (P := fun x => ∀ I2 : Nat → Nat → Int32, (∀ k, k ≠ 61 → I2 k = I1 k) → (∀ i, i < x → I2 61 (40 * r + i) = nI 0) → (∀ r2 i, r2 ≠ r → i < 40 → I2 61 (40 * r2 + i) = I 61 (40 * r2 + i)) → xr scr (d + 1) xc_154 21 [some (.ref 58), some (.int (nI r)), some (.int (nI n)), some (.int (nI x))] [] (wS, I2, J, wP t dr G) Q) 40 (fun x hx h I2 f2 a2 b2 => ?_) (fun I2 f2 a2 b2 => ?_) I1 (fun _ _ => rfl) (fun i hi => absurd hi (Nat.not_lt_zero _)) (fun r2 i _ _ => by rw [hI1, xu_fr (by decide)])
  · rw [xs_154_21]
    simp (disch := first | assumption | omega | decide | exact vp_in_nI (by omega) (by omega) | exact and1_bN _ | (simp only [pk_mul, nI_add, pred_s]; exact vp_in_nI (by omega) (by omega))) only [Bool.false_eq_true, nI_add, pk_mul, nI_ltI, nI_eq, z_eq, z_lt, z_gt, z_bN, bN_z, bN_p, bN_i1, nI_clamp, rng_nI, ↓reduceIte, if_true, if_false, not_true_eq_false, not_false_eq_true, true_and, and_true, and_self, false_and, and_false, hx, xs_154_24, m_setRow hr hx, Option.toList_some, Option.toList_none, List.cons_append, List.nil_append, List.append_nil, xs_154_29]
    refine h _ (fun k hk => by rw [xu_fr hk, f2 k hk]) (fun i hi => ?_) (fun r2 i h1 h2 => by rw [xu_nj (by omega), b2 r2 i h1 h2])
    rw [xu_at]
    by_cases e : i = x
    · rw [if_pos (by rw [e])]
    · rw [if_neg (by omega), a2 i (by omega)]
  · rw [xs_154_21]
    simp (disch := first | assumption | omega | decide | exact vp_in_nI (by omega) (by omega) | exact and1_bN _ | (simp only [pk_mul, nI_add, pred_s]; exact vp_in_nI (by omega) (by omega))) only [Bool.false_eq_true, nI_add, pk_mul, nI_ltI, nI_eq, z_eq, z_lt, z_gt, z_bN, bN_z, bN_p, bN_i1, nI_clamp, rng_nI, ↓reduceIte, if_true, if_false, not_true_eq_false, not_false_eq_true, true_and, and_true, and_self, false_and, and_false, Nat.lt_irrefl, xs_154_31]
    exact hq I2 (fun k a b => by rw [f2 k b, hI1, xu_fr a]) a2 b2 (by rw [f2 60 (by decide), hI1, xu_eq]) (fun j hj => by rw [f2 60 (by decide), hI1, xu_nj hj])
/-- a row made anew on both sides -/
theorem IR_made {I1 I3 : Nat → Nat → Int32} (h : IR I) {r n : Nat} (hr : r < 6) (hn : n ≤ 40) (f1 : ∀ k, k ≠ 2 + r → k ≠ 8 → I1 k = I k) (a1 : ∀ i, i < 40 → I1 (2 + r) i = nI 0) (s1 : I1 8 r = nI n) (o1 : ∀ j, j ≠ r → I1 8 j = I 8 j) (f3 : ∀ k, k ≠ 60 → k ≠ 61 → I3 k = I1 k) (a3 : ∀ i, i < 40 → I3 61 (40 * r + i) = nI 0) (b3 : ∀ r2 i, r2 ≠ r → i < 40 → I3 61 (40 * r2 + i) = I1 61 (40 * r2 + i)) (s3 : I3 60 r = nI n) (o3 : ∀ j, j ≠ r → I3 60 j = I1 60 j) : IR I3 := by
  refine ⟨fun r2 hr2 => ?_, fun r2 hr2 i hi => ?_⟩
  · by_cases e : r2 = r
    · rw [e, f3 8 (by decide) (by decide), s1, s3]
      exact Or.inl ⟨n, hn, rfl, rfl⟩
    · rw [f3 8 (by decide) (by decide), o1 r2 e, o3 r2 e, f1 60 (by omega) (by decide)]
      exact h.1 r2 hr2
  · by_cases e : r2 = r
    · rw [e, f3 (2 + r) (by omega) (by omega), a1 i hi, a3 i hi]
    · rw [f3 (2 + r2) (by omega) (by omega), f1 (2 + r2) (by omega) (by omega), b3 r2 i e hi, f1 61 (by omega) (by decide)]
      exact h.2 r2 hr2 i hi
theorem k_row (H : INV I J t dr G T v bk pre ss) {x n : Int32} : xr scr (d + 20) xc_9 0 [some (.ref 0), some (.int x), some (.int n)] [] (wS, I, J, wP t dr G) (AN scr (d + 20) xc_154 [some (.ref 58), some (.int x), some (.int n), none]) := by
  by_cases hx : rng x 6 = true
  · by_cases h1 : nI 40 < n
    · simp (disch := first | assumption | omega | decide | exact vp_in_nI (by omega) (by omega) | exact and1_bN _ | (simp only [pk_mul, nI_add, pred_s]; exact vp_in_nI (by omega) (by omega))) only [xs_9_0, xs_9_2, xs_9_3, xs_9_6, c_isRow, Option.toList_some, Option.toList_none, List.cons_append, List.nil_append, List.append_nil, Bool.false_eq_true, nI_add, pk_mul, nI_ltI, nI_eq, z_eq, z_lt, z_gt, z_bN, bN_z, bN_p, bN_i1, nI_clamp, rng_nI, ↓reduceIte, if_true, if_false, not_true_eq_false, not_false_eq_true, true_and, and_true, and_self, false_and, and_false, hx, h1]
      refine AN_i ?_
      simp (disch := first | assumption | omega | decide | exact vp_in_nI (by omega) (by omega) | exact and1_bN _ | (simp only [pk_mul, nI_add, pred_s]; exact vp_in_nI (by omega) (by omega))) only [xs_154_0, xs_154_2, xs_154_3, xs_154_6, m_isRow, Option.toList_some, Option.toList_none, List.cons_append, List.nil_append, List.append_nil, Bool.false_eq_true, nI_add, pk_mul, nI_ltI, nI_eq, z_eq, z_lt, z_gt, z_bN, bN_z, bN_p, bN_i1, nI_clamp, rng_nI, ↓reduceIte, if_true, if_false, not_true_eq_false, not_false_eq_true, true_and, and_true, and_self, false_and, and_false, hx, h1]
      first | exact PST_i H | exact ⟨trivial, PST_i H⟩ | exact ⟨rfl, PST_i H⟩
    · by_cases h2 : n < 0
      · have f5 : 1 ≤ 5 := by decide
        simp (disch := first | assumption | omega | decide | exact vp_in_nI (by omega) (by omega) | exact and1_bN _ | (simp only [pk_mul, nI_add, pred_s]; exact vp_in_nI (by omega) (by omega))) only [xs_9_0, xs_9_2, xs_9_3, xs_9_8, xs_9_10, xs_9_13, c_isRow, Option.toList_some, Option.toList_none, List.cons_append, List.nil_append, List.append_nil, Bool.false_eq_true, nI_add, pk_mul, nI_ltI, nI_eq, z_eq, z_lt, z_gt, z_bN, bN_z, bN_p, bN_i1, nI_clamp, rng_nI, ↓reduceIte, if_true, if_false, not_true_eq_false, not_false_eq_true, true_and, and_true, and_self, false_and, and_false, hx, h1, h2, c_found f5 (Nat.le_refl 5)]
        refine AN_i ?_
        simp (disch := first | assumption | omega | decide | exact vp_in_nI (by omega) (by omega) | exact and1_bN _ | (simp only [pk_mul, nI_add, pred_s]; exact vp_in_nI (by omega) (by omega))) only [xs_154_0, xs_154_2, xs_154_3, xs_154_8, xs_154_10, xs_154_13, m_isRow, Option.toList_some, Option.toList_none, List.cons_append, List.nil_append, List.append_nil, Bool.false_eq_true, nI_add, pk_mul, nI_ltI, nI_eq, z_eq, z_lt, z_gt, z_bN, bN_z, bN_p, bN_i1, nI_clamp, rng_nI, ↓reduceIte, if_true, if_false, not_true_eq_false, not_false_eq_true, true_and, and_true, and_self, false_and, and_false, hx, h1, h2, m_meet (Nat.le_refl 5)]
        have H2 := fnd_inv (f := 5) (by decide) H
        first | exact PST_i H2 | exact ⟨trivial, PST_i H2⟩ | exact ⟨rfl, PST_i H2⟩
      · obtain ⟨r, hr, rfl⟩ := rng_of hx (by decide)
        have hn : rng n 41 = true := (rng_s (n := 40) (by decide)).mpr ⟨h2, h1⟩
        obtain ⟨n, hn1, rfl⟩ := rng_of hn (by decide)
        simp (disch := first | assumption | omega | decide | exact vp_in_nI (by omega) (by omega) | exact and1_bN _ | (simp only [pk_mul, nI_add, pred_s]; exact vp_in_nI (by omega) (by omega))) only [xs_9_0, xs_9_2, xs_9_3, xs_9_8, xs_9_14, c_isRow, Option.toList_some, Option.toList_none, List.cons_append, List.nil_append, List.append_nil, Bool.false_eq_true, nI_add, pk_mul, nI_ltI, nI_eq, z_eq, z_lt, z_gt, z_bN, bN_z, bN_p, bN_i1, nI_clamp, rng_nI, ↓reduceIte, if_true, if_false, not_true_eq_false, not_false_eq_true, true_and, and_true, and_self, false_and, and_false, hr, h1, h2]
        refine c_makeRow (d := d + 18) hr (fun I1 f1 a1 s1 o1 => ?_)
        simp (disch := first | assumption | omega | decide | exact vp_in_nI (by omega) (by omega) | exact and1_bN _ | (simp only [pk_mul, nI_add, pred_s]; exact vp_in_nI (by omega) (by omega))) only [Option.toList_some, Option.toList_none, List.cons_append, List.nil_append, List.append_nil, xs_9_18]
        refine AN_i ?_
        rw [xs_154_0]
        simp (disch := first | assumption | omega | decide | exact vp_in_nI (by omega) (by omega) | exact and1_bN _ | (simp only [pk_mul, nI_add, pred_s]; exact vp_in_nI (by omega) (by omega))) only [m_isRow, Option.toList_some, Option.toList_none, List.cons_append, List.nil_append, List.append_nil, xs_154_2, xs_154_3, xs_154_8, Bool.false_eq_true, nI_add, pk_mul, nI_ltI, nI_eq, z_eq, z_lt, z_gt, z_bN, bN_z, bN_p, bN_i1, nI_clamp, rng_nI, ↓reduceIte, if_true, if_false, not_true_eq_false, not_false_eq_true, true_and, and_true, and_self, false_and, and_false, hr, h1, h2]
        refine m_rowL (d := d + 19) hr (fun I3 f3 a3 b3 s3 o3 => ⟨rfl, PST_i (INV_rows H ⟨fun k hk => ?_, fun i _ => ?_, fun j _ => ?_, fun j _ => ?_⟩ (IR_made H.2.1 hr (by omega) f1 a1 s1 o1 f3 a3 b3 s3 o3) ?_ rfl)⟩)
        · rw [f3 k (by omega) (by omega), f1 k (by omega) (by omega)]
        · rw [f3 66 (by omega) (by omega), f1 66 (by omega) (by omega)]
        · rw [f3 58 (by omega) (by omega), f1 58 (by omega) (by omega)]
        · rw [f3 0 (by omega) (by omega), f1 0 (by omega) (by omega)]
        · have := H.2.2.2.2.2.2.2.1
          unfold IA at this ⊢
          rw [f3 0 (by omega) (by omega), f1 0 (by omega) (by omega), f3 58 (by omega) (by omega), f1 58 (by omega) (by omega)]
          exact this
  · simp (disch := first | assumption | omega | decide | exact vp_in_nI (by omega) (by omega) | exact and1_bN _ | (simp only [pk_mul, nI_add, pred_s]; exact vp_in_nI (by omega) (by omega))) only [xs_9_0, xs_9_2, xs_9_6, c_isRow, Option.toList_some, Option.toList_none, List.cons_append, List.nil_append, List.append_nil, Bool.false_eq_true, nI_add, pk_mul, nI_ltI, nI_eq, z_eq, z_lt, z_gt, z_bN, bN_z, bN_p, bN_i1, nI_clamp, rng_nI, ↓reduceIte, if_true, if_false, not_true_eq_false, not_false_eq_true, true_and, and_true, and_self, false_and, and_false, hx]
    refine AN_i ?_
    simp (disch := first | assumption | omega | decide | exact vp_in_nI (by omega) (by omega) | exact and1_bN _ | (simp only [pk_mul, nI_add, pred_s]; exact vp_in_nI (by omega) (by omega))) only [xs_154_0, xs_154_2, xs_154_6, m_isRow, Option.toList_some, Option.toList_none, List.cons_append, List.nil_append, List.append_nil, Bool.false_eq_true, nI_add, pk_mul, nI_ltI, nI_eq, z_eq, z_lt, z_gt, z_bN, bN_z, bN_p, bN_i1, nI_clamp, rng_nI, ↓reduceIte, if_true, if_false, not_true_eq_false, not_false_eq_true, true_and, and_true, and_self, false_and, and_false, hx]
    first | exact PST_i H | exact ⟨trivial, PST_i H⟩ | exact ⟨rfl, PST_i H⟩
theorem k_tear (H : INV I J t dr G T v bk pre ss) {x : Int32} : xr scr (d + 20) xc_17 0 [some (.ref 0), some (.int x), none] [] (wS, I, J, wP t dr G) (AN scr (d + 20) xc_164 [some (.ref 58), some (.int x), none]) := by
  have z1 : ¬ (-1 : Int32) = 0 := by decide
  have z3 : ¬ (-3 : Int32) = 0 := by decide
  have l3 : (-3 : Int32) < 0 := by decide
  have l0 : ¬ nI 0 < 0 := by decide
  by_cases hx : rng x 6 = true
  · obtain ⟨r, hr, rfl⟩ := rng_of hx (by decide)
    have hcl : (nI r).toNatClampNeg = r := nI_clamp (by omega)
    rcases H.2.1.1 r hr with ⟨s, hs, h8, h60⟩ | ⟨h8, h60⟩
    · simp (disch := first | assumption | omega | decide | exact vp_in_nI (by omega) (by omega) | exact and1_bN _ | (simp only [pk_mul, nI_add, pred_s]; exact vp_in_nI (by omega) (by omega))) only [xs_17_0, c_refRow_ok hr hs h8, Option.toList_some, Option.toList_none, List.cons_append, List.nil_append, List.append_nil, xs_17_3, nI_0, ↓reduceIte]
      rw [xs_17_8 (vp_in_nI hr (by omega)), hcl]
      refine AN_i ?_
      have e60 : xi_up I 8 r (-1) 60 r = nI s := by rw [xu_nc (by decide), h60]
      simp (disch := first | assumption | omega | decide | exact vp_in_nI (by omega) (by omega) | exact and1_bN _ | (simp only [pk_mul, nI_add, pred_s]; exact vp_in_nI (by omega) (by omega))) only [xs_164_0, m_askRow_ok hr hs e60, Option.toList_some, Option.toList_none, List.cons_append, List.nil_append, List.append_nil, xs_164_3, l0, ↓reduceIte]
      rw [xs_164_8 (vp_in_nI hr (by omega)), hcl]
      refine ⟨rfl, PST_i (INV_rows H ⟨fun k hk => ?_, fun i _ => ?_, fun j _ => ?_, fun j _ => ?_⟩ ⟨fun r2 hr2 => ?_, fun r2 hr2 i hi => ?_⟩ ?_ rfl)⟩
      · rw [xu_fr (by omega), xu_fr (by omega)]
      · rw [xu_nc (by omega), xu_nc (by omega)]
      · rw [xu_nc (by omega), xu_nc (by omega)]
      · rw [xu_nc (by omega), xu_nc (by omega)]
      · rw [xu_nc (by decide), xu_at, xu_at, xu_nc (by decide)]
        by_cases e : r2 = r
        · rw [if_pos e, if_pos e]; exact Or.inr ⟨rfl, rfl⟩
        · rw [if_neg e, if_neg e]; exact H.2.1.1 r2 hr2
      · rw [xu_nc (by omega), xu_nc (by omega), xu_nc (by omega), xu_nc (by omega)]
        exact H.2.1.2 r2 hr2 i hi
      · have := H.2.2.2.2.2.2.2.1
        unfold IA at this ⊢
        rw [xu_nc (by decide), xu_nc (by decide), xu_nc (by decide), xu_nc (by decide)]
        exact this
    · simp (disch := first | assumption | omega | decide | exact vp_in_nI (by omega) (by omega) | exact and1_bN _ | (simp only [pk_mul, nI_add, pred_s]; exact vp_in_nI (by omega) (by omega))) only [xs_17_0, c_refRow_miss hr h8, Option.toList_some, Option.toList_none, List.cons_append, List.nil_append, List.append_nil, xs_17_3, z3, ↓reduceIte, xs_17_6]
      refine AN_i ?_
      have e60 : fnd I 1 60 r = -9 := by rw [fnd_fr (by decide) (by decide), h60]
      simp (disch := first | assumption | omega | decide | exact vp_in_nI (by omega) (by omega) | exact and1_bN _ | (simp only [pk_mul, nI_add, pred_s]; exact vp_in_nI (by omega) (by omega))) only [xs_164_0, m_askRow_miss hr e60, Option.toList_some, Option.toList_none, List.cons_append, List.nil_append, List.append_nil, xs_164_3, l3, ↓reduceIte, xs_164_6]
      have H2 := fnd_inv (f := 1) (by decide) H
      first | exact PST_i H2 | exact ⟨trivial, PST_i H2⟩ | exact ⟨rfl, PST_i H2⟩
  · simp (disch := first | assumption | omega | decide | exact vp_in_nI (by omega) (by omega) | exact and1_bN _ | (simp only [pk_mul, nI_add, pred_s]; exact vp_in_nI (by omega) (by omega))) only [xs_17_0, c_refRow_bad hx, Option.toList_some, Option.toList_none, List.cons_append, List.nil_append, List.append_nil, xs_17_3, z1, ↓reduceIte, xs_17_6]
    refine AN_i ?_
    simp (disch := first | assumption | omega | decide | exact vp_in_nI (by omega) (by omega) | exact and1_bN _ | (simp only [pk_mul, nI_add, pred_s]; exact vp_in_nI (by omega) (by omega))) only [xs_164_0, m_askRow_bad hx, Option.toList_some, Option.toList_none, List.cons_append, List.nil_append, List.append_nil, xs_164_3, m1lt, ↓reduceIte, xs_164_6]
    first | exact PST_i H | exact ⟨trivial, PST_i H⟩ | exact ⟨rfl, PST_i H⟩
end ROWS
