/-! calls: the DAY -/
section CALLS2
variable {scr : xi_X} {d : Nat} {Q : Option Value → xi_S → Prop} {I I2 : Nat → Nat → Int32} {J : Nat → Nat → Int64} {t dr : Nat} {G G2 : Nat → Nat} {T : TN} {v v2 : Nat} {bk bk2 : Bool} {pre pre2 : List Nat} {ss : List SGT}
def LVD (I I2 : Nat → Nat → Int32) : Prop := (∀ k, (1 ≤ k ∧ k ≤ 24) ∨ k = 27 ∨ (29 ≤ k ∧ k ≤ 31) ∨ (51 ≤ k ∧ k ≤ 57) ∨ (59 ≤ k ∧ k ≤ 61) ∨ (63 ≤ k ∧ k ≤ 65) ∨ k = 70 ∨ k = 71 → I2 k = I k) ∧ I2 28 0 = I 28 0 ∧ (∀ j, j = 0 ∨ j = 2 ∨ j = 10 ∨ j = 11 ∨ j = 32 → I2 58 j = I 58 j) ∧ I2 0 = I 0
theorem INV_day (h : INV I J t dr G T v bk pre ss) (L : LVD I I2) (hD : ID I2 T v2 bk2 pre2) (hP : IP I2 G2 t T v2 bk2 ss) : INV I2 J t dr G2 T v2 bk2 pre2 ss := by
  obtain ⟨h1, h2, h3, h4, h5, h6, h7, h8, h9⟩ := h
  obtain ⟨l1, l2, l3, l4⟩ := L
  refine ⟨IT_fr h1 (fun k a b => l1 k (by omega)) (l1 65 (by omega)) (l3 10 (by omega)) (l3 11 (by omega)), IR_fr h2 (fun k a b => l1 k (by omega)) (l1 60 (by omega)) (l1 61 (by omega)), IX_fr h3 (fun k a b => l1 k (by omega)) (l1 63 (by omega)) (l1 64 (by omega)), hD, IK_fr h5 (fun k a b => l1 k (by omega)) (l1 70 (by omega)), IS_fr h6 l2 (fun k a b => l1 k (by omega)) (l1 71 (by omega)) (l3 32 (by omega)), hP, ?_, IF_fr h9 (by rw [l4]) (l3 0 (by omega)) (l1 51 (by omega)) (l1 59 (by omega))⟩
  unfold IA at h8 ⊢
  rw [l4, l3 2 (by omega)]
  exact h8
theorem k_times (H : INV I J t dr G T v bk pre ss) {x : Int32} : xr scr (d + 20) xc_53 0 [some (.ref 0), some (.int x), none] [] (wS, I, J, wP t dr G) (AN scr (d + 20) xc_189 [some (.ref 58), some (.int x), none]) := by
  have hD := H.2.2.2.1
  simp (disch := first | assumption | omega | decide | exact vp_in_nI (by omega) (by omega) | exact and1_bN _ | (simp only [pk_mul, nI_add, pred_s]; exact vp_in_nI (by omega) (by omega))) only [xs_53_0, xs_53_3, xs_53_6]
  by_cases h1 : x < nI 1
  · simp (disch := first | assumption | omega | decide | exact vp_in_nI (by omega) (by omega) | exact and1_bN _ | (simp only [pk_mul, nI_add, pred_s]; exact vp_in_nI (by omega) (by omega))) only [h1, ↓reduceIte]
    refine AN_i ?_
    simp (disch := first | assumption | omega | decide | exact vp_in_nI (by omega) (by omega) | exact and1_bN _ | (simp only [pk_mul, nI_add, pred_s]; exact vp_in_nI (by omega) (by omega))) only [xs_189_0, xs_189_4, xs_189_5, m_in, Option.toList_some, Option.toList_none, List.cons_append, List.nil_append, List.append_nil, h1, not_true_eq_false, false_and, z_bN, not_false_eq_true, ↓reduceIte]
    first | exact PST_i H | exact ⟨trivial, PST_i H⟩ | exact ⟨rfl, PST_i H⟩
  · by_cases h2 : nI 5 < x
    · simp (disch := first | assumption | omega | decide | exact vp_in_nI (by omega) (by omega) | exact and1_bN _ | (simp only [pk_mul, nI_add, pred_s]; exact vp_in_nI (by omega) (by omega))) only [h1, h2, ↓reduceIte]
      refine AN_i ?_
      simp (disch := first | assumption | omega | decide | exact vp_in_nI (by omega) (by omega) | exact and1_bN _ | (simp only [pk_mul, nI_add, pred_s]; exact vp_in_nI (by omega) (by omega))) only [xs_189_0, xs_189_4, xs_189_5, m_in, Option.toList_some, Option.toList_none, List.cons_append, List.nil_append, List.append_nil, h1, h2, not_true_eq_false, and_false, z_bN, not_false_eq_true, ↓reduceIte]
      first | exact PST_i H | exact ⟨trivial, PST_i H⟩ | exact ⟨rfl, PST_i H⟩
    · have h3 : rng x 6 = true := (rng_m0 (n := 5) (by decide)).mp ⟨fun e => h1 (Int32.lt_iff_toInt_lt.mpr (by
        have := Int32.lt_iff_toInt_lt.mp e
        have e0 : (nI 0).toInt = 0 := by decide
        have e1 : (nI 1).toInt = 1 := by decide
        omega)), h2⟩
      obtain ⟨x, hx, rfl⟩ := rng_of h3 (by decide)
      have h4 : ¬ x < 1 := fun e => h1 ((nI_ltI (by omega) (by decide)).mpr e)
      simp (disch := first | assumption | omega | decide | exact vp_in_nI (by omega) (by omega) | exact and1_bN _ | (simp only [pk_mul, nI_add, pred_s]; exact vp_in_nI (by omega) (by omega))) only [h1, h2, ↓reduceIte, xs_53_8]
      refine AN_i ?_
      simp (disch := first | assumption | omega | decide | exact vp_in_nI (by omega) (by omega) | exact and1_bN _ | (simp only [pk_mul, nI_add, pred_s]; exact vp_in_nI (by omega) (by omega))) only [xs_189_0, xs_189_4, xs_189_5, m_in, Option.toList_some, Option.toList_none, List.cons_append, List.nil_append, List.append_nil, h1, h2, z_bN, nI_add, pk_mul, nI_ltI, nI_eq, z_eq, z_lt, z_gt, z_bN, bN_z, bN_p, bN_i1, nI_clamp, rng_nI, ↓reduceIte, if_true, if_false, not_true_eq_false, not_false_eq_true, true_and, and_true, and_self, false_and, and_false, not_false_eq_true, xs_189_7]
      refine ⟨by rw [xu_nc (by decide), xu_nc (by decide), hD.2.2.1, hD.2.2.2.1.1], PST_i (v := x) (bk := bk) (pre := pre) (INV_day H ⟨fun k hk => by rw [xu_fr (by omega), xu_fr (by omega), xu_fr (by omega)], by rw [xu_nc (by decide), xu_nj (by decide), xu_nc (by decide)], fun j hj => by rw [xu_nj (by omega), xu_nc (by decide), xu_nc (by decide)], by rw [xu_fr (by decide), xu_fr (by decide), xu_fr (by decide)]⟩ ?_ (Or.inl (by rw [xu_nc (by decide), xu_eq])))⟩
      obtain ⟨a1, a2, a3, a4, a5, a6, a7, a8, a9, a10, a11⟩ := hD
      refine ⟨by omega, by omega, by rw [xu_nc (by decide), xu_nc (by decide), xu_eq], ⟨by rw [xu_eq], by rw [xu_nj (by decide), xu_nc (by decide), xu_nc (by decide)]; exact a4.2⟩, by rw [xu_nc (by decide), xu_nc (by decide), xu_nj (by decide)]; exact a5, a6, a7, fun e => ?_, fun u hu => ?_, fun i hi => by rw [xu_nc (by decide), xu_nc (by decide), xu_nc (by decide)]; exact a10 i hi, fun i hi => by rw [xu_nc (by decide), xu_nc (by decide), xu_nc (by decide), xu_nc (by decide), xu_nc (by decide), xu_nc (by decide)]; exact a11 i hi⟩
      · rw [xu_nc (by decide), xu_nc (by decide), xu_nj (by decide), xu_nj (by decide), xu_nc (by decide), xu_nc (by decide)]; exact a8 e
      · rw [xu_nc (by decide), xu_nc (by decide), xu_nj (by decide), xu_nj (by decide), xu_nc (by decide), xu_nc (by decide)]; exact a9 u hu
theorem b01 : ∀ x, x < 2 → ∃ b : Bool, nI x = nI (bN (b = true)) := by
  intro x hx
  rcases (show x = 0 ∨ x = 1 by omega) with rfl | rfl
  · exact ⟨false, rfl⟩
  · exact ⟨true, rfl⟩
theorem k_back (H : INV I J t dr G T v bk pre ss) {x : Int32} : xr scr (d + 20) xc_54 0 [some (.ref 0), some (.int x), none] [] (wS, I, J, wP t dr G) (AN scr (d + 20) xc_190 [some (.ref 58), some (.int x), none]) := by
  have hD := H.2.2.2.1
  by_cases h3 : rng x 2 = true
  · obtain ⟨h1, h2⟩ := (rng_m0 (n := 1) (by decide)).mpr h3
    obtain ⟨x, hx, rfl⟩ := rng_of h3 (by decide)
    obtain ⟨b, hb⟩ := b01 x hx
    rw [hb] at h1 h2 ⊢
    rw [nI_0] at h1
    simp (disch := first | assumption | omega | decide | exact vp_in_nI (by omega) (by omega) | exact and1_bN _ | (simp only [pk_mul, nI_add, pred_s]; exact vp_in_nI (by omega) (by omega))) only [xs_54_0, xs_54_2, xs_54_5, xs_54_7, h1, h2, ↓reduceIte]
    refine AN_i ?_
    simp (disch := first | assumption | omega | decide | exact vp_in_nI (by omega) (by omega) | exact and1_bN _ | (simp only [pk_mul, nI_add, pred_s]; exact vp_in_nI (by omega) (by omega))) only [xs_190_0, xs_190_4, xs_190_5, xs_190_7, m_in, Option.toList_some, Option.toList_none, List.cons_append, List.nil_append, List.append_nil, nI_0, h1, h2, z_bN, nI_add, pk_mul, nI_ltI, nI_eq, z_eq, z_lt, z_gt, z_bN, bN_z, bN_p, bN_i1, nI_clamp, rng_nI, ↓reduceIte, if_true, if_false, not_true_eq_false, not_false_eq_true, true_and, and_true, and_self, false_and, and_false, not_false_eq_true]
    refine ⟨by rw [xu_nc (by decide), xu_nc (by decide), hD.2.2.2.2.1, hD.2.2.2.1.2], PST_i (v := v) (bk := b) (pre := pre) (INV_day H ⟨fun k hk => by rw [xu_fr (by omega), xu_fr (by omega), xu_fr (by omega)], by rw [xu_nc (by decide), xu_nj (by decide), xu_nc (by decide)], fun j hj => by rw [xu_nj (by omega), xu_nc (by decide), xu_nc (by decide)], by rw [xu_fr (by decide), xu_fr (by decide), xu_fr (by decide)]⟩ ?_ (Or.inl (by rw [xu_nc (by decide), xu_eq, nI_0])))⟩
    obtain ⟨a1, a2, a3, a4, a5, a6, a7, a8, a9, a10, a11⟩ := hD
    refine ⟨a1, a2, by rw [xu_nc (by decide), xu_nc (by decide), xu_nj (by decide), a3], ⟨by rw [xu_nj (by decide), xu_nc (by decide), xu_nc (by decide)]; exact a4.1, by rw [xu_eq]⟩, by rw [xu_nc (by decide), xu_nc (by decide), xu_eq], a6, a7, fun e => ?_, fun u hu => ?_, fun i hi => by rw [xu_nc (by decide), xu_nc (by decide), xu_nc (by decide)]; exact a10 i hi, fun i hi => by rw [xu_nc (by decide), xu_nc (by decide), xu_nc (by decide), xu_nc (by decide), xu_nc (by decide), xu_nc (by decide)]; exact a11 i hi⟩
    · rw [xu_nc (by decide), xu_nc (by decide), xu_nj (by decide), xu_nj (by decide), xu_nc (by decide), xu_nc (by decide)]; exact a8 e
    · rw [xu_nc (by decide), xu_nc (by decide), xu_nj (by decide), xu_nj (by decide), xu_nc (by decide), xu_nc (by decide)]; exact a9 u hu
  · have h4 : ¬ (¬ x < nI 0 ∧ ¬ nI 1 < x) := fun e => h3 ((rng_m0 (n := 1) (by decide)).mp e)
    rw [nI_0] at h4
    have h5 : AN scr (d + 20) xc_190 [some (.ref 58), some (.int x), none] (some (.int (-1))) (wS, I, J, wP t dr G) := by
      refine AN_i ?_
      simp (disch := first | assumption | omega | decide | exact vp_in_nI (by omega) (by omega) | exact and1_bN _ | (simp only [pk_mul, nI_add, pred_s]; exact vp_in_nI (by omega) (by omega))) only [xs_190_0, xs_190_4, xs_190_5, xs_190_7, m_in, Option.toList_some, Option.toList_none, List.cons_append, List.nil_append, List.append_nil, nI_0, h4, z_bN, not_false_eq_true, ↓reduceIte]
      first | exact PST_i H | exact ⟨trivial, PST_i H⟩ | exact ⟨rfl, PST_i H⟩
    simp (disch := first | assumption | omega | decide | exact vp_in_nI (by omega) (by omega) | exact and1_bN _ | (simp only [pk_mul, nI_add, pred_s]; exact vp_in_nI (by omega) (by omega))) only [xs_54_0, xs_54_2, xs_54_5]
    by_cases e1 : x < 0
    · rw [if_pos e1]; exact h5
    · by_cases e2 : nI 1 < x
      · rw [if_neg e1, if_pos e2]; exact h5
      · exact absurd ⟨e1, e2⟩ h4
theorem c_about (H : INV I J t dr G T v bk pre ss) {x j : Nat} (hx : x < tN T) (hj : j < 3) : xr scr (d + 3) xc_44 0 [some (.ref 0), some (.int (nI x)), some (.int (nI j))] [] (wS, I, J, wP t dr G) Q = Q (some (.int (nI (if j = 0 then tK T x else if j = 1 then tF T x else lim T v x)))) (wS, I, J, wP t dr G) := by
  have ht := H.1.1
  have hT := H.1.2.2.2.1
  have hV := H.2.2.2.1.2.2.1
  simp (disch := first | assumption | omega | decide | exact vp_in_nI (by omega) (by omega) | exact and1_bN _ | (simp only [pk_mul, nI_add, pred_s]; exact vp_in_nI (by omega) (by omega))) only [xs_44_0, xs_44_2, xs_44_6, xs_44_7, xs_44_10, xs_44_14, xs_44_15, xs_44_22, c_kindOf ht hT.1 hx, c_feeOf ht hT.1 hx, hV, c_limitOf ht hT.1 hx, Option.toList_some, Option.toList_none, List.cons_append, List.nil_append, List.append_nil, nI_add, pk_mul, nI_ltI, nI_eq, z_eq, z_lt, z_gt, z_bN, bN_z, bN_p, bN_i1, nI_clamp, rng_nI, ↓reduceIte, if_true, if_false, not_true_eq_false, not_false_eq_true, true_and, and_true, and_self, false_and, and_false]
  by_cases h0 : j = 0
  · rw [if_pos h0, if_pos h0]
  · by_cases h1 : j = 1
    · rw [if_neg h0, if_neg h0, if_pos h1, if_pos h1]
    · rw [if_neg h0, if_neg h0, if_neg h1, if_neg h1]
theorem m_personOf (hM : MT I T) (hV : I 58 16 = nI v) {x j : Nat} (hx : x < tN T) (hj : j < 3) : xr scr (d + 2) xc_180 0 [some (.ref 58), some (.int (nI x)), some (.int (nI j))] [] (wS, I, J, wP t dr G) Q = Q (some (.int (nI (if j = 0 then tK T x else if j = 1 then tF T x else lim T v x)))) (wS, I, J, wP t dr G) := by
  have hn := MT_n hM
  rcases (show j = 0 ∨ j = 1 ∨ j = 2 by omega) with rfl | rfl | rfl
  · have h1 : ¬ 0 = 2 := by decide
    simp (disch := first | assumption | omega | decide | exact vp_in_nI (by omega) (by omega) | exact and1_bN _ | (simp only [pk_mul, nI_add, pred_s]; exact vp_in_nI (by omega) (by omega))) only [xs_180_0, xs_180_3, xs_180_6, xs_180_7, xs_180_11, m_of, MT_k hM hx, Option.toList_some, Option.toList_none, List.cons_append, List.nil_append, List.append_nil, nI_add, pk_mul, nI_ltI, nI_eq, z_eq, z_lt, z_gt, z_bN, bN_z, bN_p, bN_i1, nI_clamp, rng_nI, ↓reduceIte, if_true, if_false, not_true_eq_false, not_false_eq_true, true_and, and_true, and_self, false_and, and_false, h1]
  · have h1 : ¬ 1 = 2 := by decide
    have h2 : ¬ 1 = 0 := by decide
    simp (disch := first | assumption | omega | decide | exact vp_in_nI (by omega) (by omega) | exact and1_bN _ | (simp only [pk_mul, nI_add, pred_s]; exact vp_in_nI (by omega) (by omega))) only [xs_180_0, xs_180_3, xs_180_6, xs_180_7, xs_180_11, m_of, MT_f hM hx, Option.toList_some, Option.toList_none, List.cons_append, List.nil_append, List.append_nil, nI_add, pk_mul, nI_ltI, nI_eq, z_eq, z_lt, z_gt, z_bN, bN_z, bN_p, bN_i1, nI_clamp, rng_nI, ↓reduceIte, if_true, if_false, not_true_eq_false, not_false_eq_true, true_and, and_true, and_self, false_and, and_false, h1, h2]
  · have h1 : ¬ 2 = 0 := by decide
    have h2 : ¬ 2 = 1 := by decide
    simp (disch := first | assumption | omega | decide | exact vp_in_nI (by omega) (by omega) | exact and1_bN _ | (simp only [pk_mul, nI_add, pred_s]; exact vp_in_nI (by omega) (by omega))) only [xs_180_0, xs_180_3, xs_180_6, xs_180_7, xs_180_11, m_mostOf hM hV hx, Option.toList_some, Option.toList_none, List.cons_append, List.nil_append, List.append_nil, nI_add, pk_mul, nI_ltI, nI_eq, z_eq, z_lt, z_gt, z_bN, bN_z, bN_p, bN_i1, nI_clamp, rng_nI, ↓reduceIte, if_true, if_false, not_true_eq_false, not_false_eq_true, true_and, and_true, and_self, false_and, and_false, h1, h2]
theorem k_person (H : INV I J t dr G T v bk pre ss) {x w : Int32} : xr scr (d + 20) xc_43 0 [some (.ref 0), some (.int x), some (.int w)] [] (wS, I, J, wP t dr G) (AN scr (d + 20) xc_178 [some (.ref 58), some (.int x), some (.int w)]) := by
  have ht := H.1.1
  have hT := H.1.2.2.2.1
  have hM := H.1.2.2.2.2.1
  have hn := TR_n hT.1
  have hV := H.2.2.2.1.2.2.2.1.1
  by_cases hx : rng x (tN T) = true
  · obtain ⟨x, hx1, rfl⟩ := rng_of hx (by omega)
    by_cases h3 : rng w 3 = true
    · obtain ⟨h1, h2⟩ := (rng_m0 (n := 2) (by decide)).mpr h3
      obtain ⟨w, hw, rfl⟩ := rng_of h3 (by decide)
      rw [nI_0] at h1
      have h4 : ¬ 2 < w := by omega
      simp (disch := first | assumption | omega | decide | exact vp_in_nI (by omega) (by omega) | exact and1_bN _ | (simp only [pk_mul, nI_add, pred_s]; exact vp_in_nI (by omega) (by omega))) only [xs_43_0, xs_43_4, xs_43_5, xs_43_7, xs_43_10, xs_43_12, xs_43_17, c_isOne ht hT.1, c_about H hx1 hw, Option.toList_some, Option.toList_none, List.cons_append, List.nil_append, List.append_nil, nI_add, pk_mul, nI_ltI, nI_eq, z_eq, z_lt, z_gt, z_bN, bN_z, bN_p, bN_i1, nI_clamp, rng_nI, ↓reduceIte, if_true, if_false, not_true_eq_false, not_false_eq_true, true_and, and_true, and_self, false_and, and_false, hx1, h1, h2, h4]
      refine AN_i ?_
      have hM1 : ∀ y, MT (xi_up I 0 14 y) T := fun y => MT_fr hM (by rw [xu_nc (by decide)]) (by rw [xu_nc (by decide)]) (by rw [xu_fr (by decide)])
      have hV1 : ∀ y, xi_up I 0 14 y 58 16 = nI v := fun y => by rw [xu_nc (by decide)]; exact hV
      simp (disch := first | assumption | omega | decide | exact vp_in_nI (by omega) (by omega) | exact and1_bN _ | (simp only [pk_mul, nI_add, pred_s]; exact vp_in_nI (by omega) (by omega))) only [xs_178_0, xs_178_3, xs_178_4, xs_178_8, xs_178_9, xs_178_14, xs_178_16, xs_178_17, xs_178_18, m_isOne (hM1 _), m_in, m_personOf (hM1 _) (hV1 _) hx1 hw, m_say, Option.toList_some, Option.toList_none, List.cons_append, List.nil_append, List.append_nil, nI_add, pk_mul, nI_ltI, nI_eq, z_eq, z_lt, z_gt, z_bN, bN_z, bN_p, bN_i1, nI_clamp, rng_nI, ↓reduceIte, if_true, if_false, not_true_eq_false, not_false_eq_true, true_and, and_true, and_self, false_and, and_false, hx1, nI_0, h1, h2, h4]
      first | exact PST_i (sey_inv H) | exact ⟨trivial, PST_i (sey_inv H)⟩
    · have h4 : ¬ (¬ w < nI 0 ∧ ¬ nI 2 < w) := fun e => h3 ((rng_m0 (n := 2) (by decide)).mp e)
      rw [nI_0] at h4
      have h5 : AN scr (d + 20) xc_178 [some (.ref 58), some (.int (nI x)), some (.int w)] (some (.int (-1))) (wS, I, J, wP t dr G) := by
        refine AN_i ?_
        simp (disch := first | assumption | omega | decide | exact vp_in_nI (by omega) (by omega) | exact and1_bN _ | (simp only [pk_mul, nI_add, pred_s]; exact vp_in_nI (by omega) (by omega))) only [xs_178_0, xs_178_3, xs_178_4, xs_178_8, xs_178_9, xs_178_14, xs_178_16, xs_178_17, xs_178_18, m_isOne hM, m_in, Option.toList_some, Option.toList_none, List.cons_append, List.nil_append, List.append_nil, nI_add, pk_mul, nI_ltI, nI_eq, z_eq, z_lt, z_gt, z_bN, bN_z, bN_p, bN_i1, nI_clamp, rng_nI, ↓reduceIte, if_true, if_false, not_true_eq_false, not_false_eq_true, true_and, and_true, and_self, false_and, and_false, hx1, nI_0, h4]
        first | exact PST_i H | exact ⟨trivial, PST_i H⟩ | exact ⟨rfl, PST_i H⟩
      simp (disch := first | assumption | omega | decide | exact vp_in_nI (by omega) (by omega) | exact and1_bN _ | (simp only [pk_mul, nI_add, pred_s]; exact vp_in_nI (by omega) (by omega))) only [xs_43_0, xs_43_4, xs_43_5, xs_43_7, xs_43_10, c_isOne ht hT.1, Option.toList_some, Option.toList_none, List.cons_append, List.nil_append, List.append_nil, nI_add, pk_mul, nI_ltI, nI_eq, z_eq, z_lt, z_gt, z_bN, bN_z, bN_p, bN_i1, nI_clamp, rng_nI, ↓reduceIte, if_true, if_false, not_true_eq_false, not_false_eq_true, true_and, and_true, and_self, false_and, and_false, hx1]
      by_cases e1 : w < 0
      · rw [if_pos e1]; exact h5
      · by_cases e2 : nI 2 < w
        · rw [if_neg e1, if_pos e2]; exact h5
        · exact absurd ⟨e1, e2⟩ h4
  · simp (disch := first | assumption | omega | decide | exact vp_in_nI (by omega) (by omega) | exact and1_bN _ | (simp only [pk_mul, nI_add, pred_s]; exact vp_in_nI (by omega) (by omega))) only [xs_43_0, xs_43_4, xs_43_5, xs_43_7, xs_43_10, xs_43_12, xs_43_17, c_isOne ht hT.1, Option.toList_some, Option.toList_none, List.cons_append, List.nil_append, List.append_nil, nI_add, pk_mul, nI_ltI, nI_eq, z_eq, z_lt, z_gt, z_bN, bN_z, bN_p, bN_i1, nI_clamp, rng_nI, ↓reduceIte, if_true, if_false, not_true_eq_false, not_false_eq_true, true_and, and_true, and_self, false_and, and_false, hx]
    refine AN_i ?_
    simp (disch := first | assumption | omega | decide | exact vp_in_nI (by omega) (by omega) | exact and1_bN _ | (simp only [pk_mul, nI_add, pred_s]; exact vp_in_nI (by omega) (by omega))) only [xs_178_0, xs_178_3, xs_178_4, xs_178_8, xs_178_9, xs_178_14, xs_178_16, xs_178_17, xs_178_18, m_isOne hM, Option.toList_some, Option.toList_none, List.cons_append, List.nil_append, List.append_nil, nI_add, pk_mul, nI_ltI, nI_eq, z_eq, z_lt, z_gt, z_bN, bN_z, bN_p, bN_i1, nI_clamp, rng_nI, ↓reduceIte, if_true, if_false, not_true_eq_false, not_false_eq_true, true_and, and_true, and_self, false_and, and_false, hx]
    first | exact PST_i H | exact ⟨trivial, PST_i H⟩ | exact ⟨rfl, PST_i H⟩
theorem k_place (H : INV I J t dr G T v bk pre ss) {x h : Int32} : xr scr (d + 20) xc_47 0 [some (.ref 0), some (.int x), some (.int h)] [] (wS, I, J, wP t dr G) (AN scr (d + 20) xc_183 [some (.ref 58), some (.int x), some (.int h)]) := by
  have ht := H.1.1
  have hT := H.1.2.2.2.1
  have hM := H.1.2.2.2.2.1
  have hn := TR_n hT.1
  have hh5 := TR_h hT.1
  by_cases hx : rng x (tN T) = true
  · obtain ⟨x, hx1, rfl⟩ := rng_of hx (by omega)
    by_cases hu : rng h (tH T) = true
    · obtain ⟨u, hu1, rfl⟩ := rng_of hu (by omega)
      simp (disch := first | assumption | omega | decide | exact vp_in_nI (by omega) (by omega) | exact and1_bN _ | (simp only [pk_mul, nI_add, pred_s]; exact vp_in_nI (by omega) (by omega))) only [xs_47_0, xs_47_4, xs_47_5, xs_47_9, xs_47_10, xs_47_12, xs_47_18, c_isOne ht hT.1, c_isHour ht hT.1, c_spotOf ht hT.1 hx1 hu1, Option.toList_some, Option.toList_none, List.cons_append, List.nil_append, List.append_nil, nI_add, pk_mul, nI_ltI, nI_eq, z_eq, z_lt, z_gt, z_bN, bN_z, bN_p, bN_i1, nI_clamp, rng_nI, ↓reduceIte, if_true, if_false, not_true_eq_false, not_false_eq_true, true_and, and_true, and_self, false_and, and_false, hx1, hu1]
      refine AN_i ?_
      have hM1 : ∀ y, MT (xi_up I 0 14 y) T := fun y => MT_fr hM (by rw [xu_nc (by decide)]) (by rw [xu_nc (by decide)]) (by rw [xu_fr (by decide)])
      simp (disch := first | assumption | omega | decide | exact vp_in_nI (by omega) (by omega) | exact and1_bN _ | (simp only [pk_mul, nI_add, pred_s]; exact vp_in_nI (by omega) (by omega))) only [xs_183_0, xs_183_3, xs_183_4, xs_183_7, xs_183_8, xs_183_13, xs_183_15, xs_183_16, xs_183_17, m_isOne (hM1 _), m_isHour (hM1 _), m_placeOf (hM1 _) hx1 hu1, m_say, Option.toList_some, Option.toList_none, List.cons_append, List.nil_append, List.append_nil, nI_add, pk_mul, nI_ltI, nI_eq, z_eq, z_lt, z_gt, z_bN, bN_z, bN_p, bN_i1, nI_clamp, rng_nI, ↓reduceIte, if_true, if_false, not_true_eq_false, not_false_eq_true, true_and, and_true, and_self, false_and, and_false, hx1, hu1]
      first | exact PST_i (sey_inv H) | exact ⟨trivial, PST_i (sey_inv H)⟩
    · simp (disch := first | assumption | omega | decide | exact vp_in_nI (by omega) (by omega) | exact and1_bN _ | (simp only [pk_mul, nI_add, pred_s]; exact vp_in_nI (by omega) (by omega))) only [xs_47_0, xs_47_4, xs_47_5, xs_47_9, xs_47_10, xs_47_12, xs_47_18, c_isOne ht hT.1, c_isHour ht hT.1, Option.toList_some, Option.toList_none, List.cons_append, List.nil_append, List.append_nil, nI_add, pk_mul, nI_ltI, nI_eq, z_eq, z_lt, z_gt, z_bN, bN_z, bN_p, bN_i1, nI_clamp, rng_nI, ↓reduceIte, if_true, if_false, not_true_eq_false, not_false_eq_true, true_and, and_true, and_self, false_and, and_false, hx1, hu]
      refine AN_i ?_
      simp (disch := first | assumption | omega | decide | exact vp_in_nI (by omega) (by omega) | exact and1_bN _ | (simp only [pk_mul, nI_add, pred_s]; exact vp_in_nI (by omega) (by omega))) only [xs_183_0, xs_183_3, xs_183_4, xs_183_7, xs_183_8, xs_183_13, xs_183_15, xs_183_16, xs_183_17, m_isOne hM, m_isHour hM, Option.toList_some, Option.toList_none, List.cons_append, List.nil_append, List.append_nil, nI_add, pk_mul, nI_ltI, nI_eq, z_eq, z_lt, z_gt, z_bN, bN_z, bN_p, bN_i1, nI_clamp, rng_nI, ↓reduceIte, if_true, if_false, not_true_eq_false, not_false_eq_true, true_and, and_true, and_self, false_and, and_false, hx1, hu]
      first | exact PST_i H | exact ⟨trivial, PST_i H⟩ | exact ⟨rfl, PST_i H⟩
  · simp (disch := first | assumption | omega | decide | exact vp_in_nI (by omega) (by omega) | exact and1_bN _ | (simp only [pk_mul, nI_add, pred_s]; exact vp_in_nI (by omega) (by omega))) only [xs_47_0, xs_47_4, xs_47_5, xs_47_9, xs_47_10, xs_47_12, xs_47_18, c_isOne ht hT.1, Option.toList_some, Option.toList_none, List.cons_append, List.nil_append, List.append_nil, nI_add, pk_mul, nI_ltI, nI_eq, z_eq, z_lt, z_gt, z_bN, bN_z, bN_p, bN_i1, nI_clamp, rng_nI, ↓reduceIte, if_true, if_false, not_true_eq_false, not_false_eq_true, true_and, and_true, and_self, false_and, and_false, hx]
    refine AN_i ?_
    simp (disch := first | assumption | omega | decide | exact vp_in_nI (by omega) (by omega) | exact and1_bN _ | (simp only [pk_mul, nI_add, pred_s]; exact vp_in_nI (by omega) (by omega))) only [xs_183_0, xs_183_3, xs_183_4, xs_183_7, xs_183_8, xs_183_13, xs_183_15, xs_183_16, xs_183_17, m_isOne hM, Option.toList_some, Option.toList_none, List.cons_append, List.nil_append, List.append_nil, nI_add, pk_mul, nI_ltI, nI_eq, z_eq, z_lt, z_gt, z_bN, bN_z, bN_p, bN_i1, nI_clamp, rng_nI, ↓reduceIte, if_true, if_false, not_true_eq_false, not_false_eq_true, true_and, and_true, and_self, false_and, and_false, hx]
    first | exact PST_i H | exact ⟨trivial, PST_i H⟩ | exact ⟨rfl, PST_i H⟩
end CALLS2
