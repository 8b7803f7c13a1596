/-! calls: two, sight, forget -/
section TWOC
variable {scr : xi_X} {d : Nat} {Q : Option Value → xi_S → Prop} {I I2 I3 I4 : Nat → Nat → Int32} {J J2 : Nat → Nat → Int64} {t dr : Nat} {G G2 : Nat → Nat} {T : TN} {v v2 : Nat} {bk bk2 : Bool} {pre pre2 : List Nat} {ss ss2 : List SGT}
theorem INV_49 (H : INV I J t dr G T v bk pre ss) (h : ∀ k, k ≠ 49 → k ≠ 50 → I2 k = I k) : INV I2 J t dr G T v bk pre ss := by
  refine INV_liv H ⟨fun k hk => h k (by omega) (by omega), fun i _ => by rw [h 66 (by decide) (by decide)], fun j _ => by rw [h 58 (by decide) (by decide)], fun j _ => by rw [h 0 (by decide) (by decide)]⟩ ?_ rfl
  have := H.2.2.2.2.2.2.2.1
  unfold IA at this ⊢
  rw [h 0 (by decide) (by decide), h 58 (by decide) (by decide)]
  exact this
theorem k_two (H : INV I J t dr G T v bk pre ss) {x y : Int32} : xr scr (d + 20) xc_134 0 [some (.ref 0), some (.int x), some (.int y), none] [] (wS, I, J, wP t dr G) (AN scr (d + 20) xc_244 [some (.ref 58), some (.int x), some (.int y)]) := by
  have ht := H.1.1
  have hT := H.1.2.2.2.1
  have hM := H.1.2.2.2.2.1
  have hn := TR_n hT.1
  have hh5 := TR_h hT.1
  by_cases hb : rng x (tN T) = true ∧ rng y (tN T) = true
  · obtain ⟨hx, hy⟩ := hb
    obtain ⟨x, hx1, rfl⟩ := rng_of hx (by omega)
    obtain ⟨y, hy1, rfl⟩ := rng_of hy (by omega)
    rw [xs_134_0 ht, c_isOne ht hT.1]
    simp (disch := first | assumption | omega | decide | exact vp_in_nI (by omega) (by omega) | exact and1_bN _ | (simp only [pk_mul, nI_add, pred_s]; exact vp_in_nI (by omega) (by omega))) only [Option.toList_some, Option.toList_none, List.cons_append, List.nil_append, List.append_nil, xs_134_4, Bool.false_eq_true, nI_add, pk_mul, nI_ltI, nI_eq, z_eq, z_lt, z_gt, z_bN, bN_z, bN_p, bN_i1, nI_clamp, rng_nI, ↓reduceIte, if_true, if_false, not_true_eq_false, not_false_eq_true, true_and, and_true, and_self, false_and, and_false, hx1]
    rw [xs_134_5 ht, c_isOne ht hT.1]
    simp (disch := first | assumption | omega | decide | exact vp_in_nI (by omega) (by omega) | exact and1_bN _ | (simp only [pk_mul, nI_add, pred_s]; exact vp_in_nI (by omega) (by omega))) only [Option.toList_some, Option.toList_none, List.cons_append, List.nil_append, List.append_nil, xs_134_9, Bool.false_eq_true, nI_add, pk_mul, nI_ltI, nI_eq, z_eq, z_lt, z_gt, z_bN, bN_z, bN_p, bN_i1, nI_clamp, rng_nI, ↓reduceIte, if_true, if_false, not_true_eq_false, not_false_eq_true, true_and, and_true, and_self, false_and, and_false, hy1, xs_134_10]
    by_cases hxy : x = y
    · rw [if_pos hxy, xs_134_13]
      refine AN_i ?_
      simp (disch := first | assumption | omega | decide | exact vp_in_nI (by omega) (by omega) | exact and1_bN _ | (simp only [pk_mul, nI_add, pred_s]; exact vp_in_nI (by omega) (by omega))) only [xs_244_0, m_areTwo hM, Option.toList_some, Option.toList_none, List.cons_append, List.nil_append, List.append_nil, xs_244_4, Bool.false_eq_true, nI_add, pk_mul, nI_ltI, nI_eq, z_eq, z_lt, z_gt, z_bN, bN_z, bN_p, bN_i1, nI_clamp, rng_nI, ↓reduceIte, if_true, if_false, not_true_eq_false, not_false_eq_true, true_and, and_true, and_self, false_and, and_false, hx1, hy1, xs_244_5, hxy, xs_244_14, xs_244_15]
      first | exact PST_i H | exact ⟨trivial, PST_i H⟩ | exact ⟨rfl, PST_i H⟩
    · rw [if_neg hxy, xs_134_15, xs_135_0, c_fill (n := 7) rfl (by decide)]
      have hx7 : x < 7 := by omega
      have hnx : ¬ nI x < 0 := nI_pos (by omega)
      simp (disch := first | assumption | omega | decide | exact vp_in_nI (by omega) (by omega) | exact and1_bN _ | (simp only [pk_mul, nI_add, pred_s]; exact vp_in_nI (by omega) (by omega))) only [Option.toList_some, Option.toList_none, List.cons_append, List.nil_append, List.append_nil, xs_135_4, hnx, ↓reduceIte, xs_135_6, Bool.false_eq_true, nI_add, pk_mul, nI_ltI, nI_eq, z_eq, z_lt, z_gt, z_bN, bN_z, bN_p, bN_i1, nI_clamp, rng_nI, ↓reduceIte, if_true, if_false, not_true_eq_false, not_false_eq_true, true_and, and_true, and_self, false_and, and_false, hx7]
      rw [xs_135_9 (vp_in_nI hx7 (by omega)), nI_clamp (by omega), sb_one _ (by omega)]
      simp (disch := first | assumption | omega | decide | exact vp_in_nI (by omega) (by omega) | exact and1_bN _ | (simp only [pk_mul, nI_add, pred_s]; exact vp_in_nI (by omega) (by omega))) only [Option.toList_some, Option.toList_none, List.cons_append, List.nil_append, List.append_nil, xs_135_16]
      rw [xs_134_20]
      obtain ⟨I1, hI1⟩ : ∃ I1 : Nat → Nat → Int32, I1 = xi_up (xi_ua I 49 (fun j => if j < 7 then nI 0 else I 49 j)) 49 x (nI (2 ^ y)) := ⟨_, rfl⟩
      rw [← hI1]
      have f1 : ∀ k, k ≠ 49 → k ≠ 50 → I1 k = I k := fun k a b => by rw [hI1, xu_fr a, xa_fr a]
      have s1 : ∀ z, z < tN T → I1 49 z = nI (bs (tN T) (pcP T x y 0 z)) := fun z hz => by
        rw [hI1, xu_at]
        by_cases e : z = x
        · rw [if_pos e, bs_one hy1]
          congr 1
          exact bs_c (fun b _ => by rw [e]; simp [pcP])
        · have e2 : (z == x) = false := by rw [beq_eq_false_iff_ne]; exact e
          rw [if_neg e, xa_eq, if_pos (by omega)]
          congr 1
          exact (bs_0 (tN T)).symm.trans (bs_c (fun b _ => by simp [pcP, e2]))
      have hW := twr_le T (tH T) x y
      -- the reference
      have mref : ∀ I2 : Nat → Nat → Int32, (∀ k, k ≠ 49 → k ≠ 50 → I2 k = I k) → AN scr (d + 20) xc_244 [some (.ref 58), some (.int (nI x)), some (.int (nI y))] (some (.int (nI (twr T (tH T) x y)))) (wS, I2, J, wP t dr G) := by
        intro I2 f2
        have H2 := INV_49 H f2
        have hM2 := H2.1.2.2.2.2.1
        refine AN_i ?_
        simp (disch := first | assumption | omega | decide | exact vp_in_nI (by omega) (by omega) | exact and1_bN _ | (simp only [pk_mul, nI_add, pred_s]; exact vp_in_nI (by omega) (by omega))) only [xs_244_0, m_areTwo hM2, Option.toList_some, Option.toList_none, List.cons_append, List.nil_append, List.append_nil, xs_244_4, Bool.false_eq_true, nI_add, pk_mul, nI_ltI, nI_eq, z_eq, z_lt, z_gt, z_bN, bN_z, bN_p, bN_i1, nI_clamp, rng_nI, ↓reduceIte, if_true, if_false, not_true_eq_false, not_false_eq_true, true_and, and_true, and_self, false_and, and_false, hx1, hy1, xs_244_5, hxy]
        have := fun Q => m_twoOf (scr := scr) (d := d + 15 - tH T) (I := I2) (J := J) (t := t) (dr := dr) (G := G) (T := T) hM2 (tH T) x y Q hx1 hy1 (Nat.le_refl _)
        rw [show d + 15 - tH T + tH T + 4 = d + 19 by omega, Nat.sub_self] at this
        rw [xs_244_8, this]
        simp (disch := first | assumption | omega | decide | exact vp_in_nI (by omega) (by omega) | exact and1_bN _ | (simp only [pk_mul, nI_add, pred_s]; exact vp_in_nI (by omega) (by omega))) only [Option.toList_some, Option.toList_none, List.cons_append, List.nil_append, List.append_nil, xs_244_13, xs_244_15]
        first | exact PST_i H2 | exact ⟨trivial, PST_i H2⟩ | exact ⟨rfl, PST_i H2⟩
      have key : ∀ f j, j + f = tH T → j ≤ twr T (tH T) x y → ∀ I2 : Nat → Nat → Int32, (∀ k, k ≠ 49 → k ≠ 50 → I2 k = I k) → (∀ z, z < tN T → I2 49 z = nI (bs (tN T) (pcP T x y j z))) → xr scr (d + 20) xc_134 22 [some (.ref 0), some (.int (nI x)), some (.int (nI y)), some (.int (nI j))] [] (wS, I2, J, wP t dr G) (AN scr (d + 20) xc_244 [some (.ref 58), some (.int (nI x)), some (.int (nI y))]) := by
        intro f
        induction f with
        | zero =>
          intro j hj hjW I2 f2 s2
          have hT2 := (INV_49 H f2).1.2.2.2.1
          have hm := mref I2 f2
          rw [show twr T (tH T) x y = j by omega] at hm
          rw [xs_134_22 ht, TR_0 hT2.1, show j = tH T by omega]
          simp (disch := first | assumption | omega | decide | exact vp_in_nI (by omega) (by omega) | exact and1_bN _ | (simp only [pk_mul, nI_add, pred_s]; exact vp_in_nI (by omega) (by omega))) only [Bool.false_eq_true, nI_add, pk_mul, nI_ltI, nI_eq, z_eq, z_lt, z_gt, z_bN, bN_z, bN_p, bN_i1, nI_clamp, rng_nI, ↓reduceIte, if_true, if_false, not_true_eq_false, not_false_eq_true, true_and, and_true, and_self, false_and, and_false, Nat.lt_irrefl, xs_134_36]
          rw [show j = tH T by omega] at hm
          exact hm
        | succ f ih =>
          intro j hj hjW I2 f2 s2
          have hT2 := (INV_49 H f2).1.2.2.2.1
          have hlt : j < tH T := by omega
          have hpt := pcP_twr (T := T) hx1 hy1 (j + 1) 0 (by omega)
          rw [xs_134_22 ht, TR_0 hT2.1]
          simp (disch := first | assumption | omega | decide | exact vp_in_nI (by omega) (by omega) | exact and1_bN _ | (simp only [pk_mul, nI_add, pred_s]; exact vp_in_nI (by omega) (by omega))) only [Bool.false_eq_true, nI_add, pk_mul, nI_ltI, nI_eq, z_eq, z_lt, z_gt, z_bN, bN_z, bN_p, bN_i1, nI_clamp, rng_nI, ↓reduceIte, if_true, if_false, not_true_eq_false, not_false_eq_true, true_and, and_true, and_self, false_and, and_false, hlt]
          rw [xs_134_27]
          refine c_giveBoth (d := d + 16) (P := pcP T x y j) ht hT2 hlt s2 (fun I3 b f3 s3 hbi => ?_)
          have f13 : ∀ k, k ≠ 49 → k ≠ 50 → I3 k = I k := fun k a c => by rw [f3 k a c, f2 k a c]
          have hbW : b = true ↔ j + 1 ≤ twr T (tH T) x y := by
            rw [hbi, ← Nat.zero_add (j + 1), ← hpt]
            constructor
            · rintro ⟨a, ha, c, hc, h⟩
              exact ⟨a, ha, c, hc, h, Nat.zero_le _⟩
            · rintro ⟨a, ha, c, hc, h, -⟩
              exact ⟨a, ha, c, hc, h⟩
          by_cases hb : b = true
          · have n10 : ¬ nI 1 = 0 := by decide
            rw [bN_t hb]
            simp (disch := first | assumption | omega | decide | exact vp_in_nI (by omega) (by omega) | exact and1_bN _ | (simp only [pk_mul, nI_add, pred_s]; exact vp_in_nI (by omega) (by omega))) only [Option.toList_some, Option.toList_none, List.cons_append, List.nil_append, List.append_nil, xs_134_33, n10, ↓reduceIte, xs_134_34, nI_add]
            exact ih (j + 1) (by omega) (hbW.mp hb) I3 f13 s3
          · have hm := mref I3 f13
            have hjw : twr T (tH T) x y = j := by
              have : ¬ j + 1 ≤ twr T (tH T) x y := fun h => hb (hbW.mpr h)
              omega
            rw [bN_f hb]
            simp (disch := first | assumption | omega | decide | exact vp_in_nI (by omega) (by omega) | exact and1_bN _ | (simp only [pk_mul, nI_add, pred_s]; exact vp_in_nI (by omega) (by omega))) only [Option.toList_some, Option.toList_none, List.cons_append, List.nil_append, List.append_nil, xs_134_33, nI_0, ↓reduceIte, xs_134_36]
            rw [hjw] at hm
            exact hm
      exact key (tH T) 0 (by omega) (Nat.zero_le _) I1 f1 s1
  · have mbad : AN scr (d + 20) xc_244 [some (.ref 58), some (.int x), some (.int y)] (some (.int (-1))) (wS, I, J, wP t dr G) := by
      refine AN_i ?_
      simp (disch := first | assumption | omega | decide | exact vp_in_nI (by omega) (by omega) | exact and1_bN _ | (simp only [pk_mul, nI_add, pred_s]; exact vp_in_nI (by omega) (by omega))) only [xs_244_0, m_areTwo hM, Option.toList_some, Option.toList_none, List.cons_append, List.nil_append, List.append_nil, xs_244_4, Bool.false_eq_true, nI_add, pk_mul, nI_ltI, nI_eq, z_eq, z_lt, z_gt, z_bN, bN_z, bN_p, bN_i1, nI_clamp, rng_nI, ↓reduceIte, if_true, if_false, not_true_eq_false, not_false_eq_true, true_and, and_true, and_self, false_and, and_false]
      rw [if_pos hb, xs_244_14, xs_244_15]
      first | exact PST_i H | exact ⟨trivial, PST_i H⟩ | exact ⟨rfl, PST_i H⟩
    rw [xs_134_0 ht, c_isOne ht hT.1]
    by_cases hx : rng x (tN T) = true
    · have hy : ¬ rng y (tN T) = true := fun h => hb ⟨hx, h⟩
      simp (disch := first | assumption | omega | decide | exact vp_in_nI (by omega) (by omega) | exact and1_bN _ | (simp only [pk_mul, nI_add, pred_s]; exact vp_in_nI (by omega) (by omega))) only [Option.toList_some, Option.toList_none, List.cons_append, List.nil_append, List.append_nil, xs_134_4, Bool.false_eq_true, nI_add, pk_mul, nI_ltI, nI_eq, z_eq, z_lt, z_gt, z_bN, bN_z, bN_p, bN_i1, nI_clamp, rng_nI, ↓reduceIte, if_true, if_false, not_true_eq_false, not_false_eq_true, true_and, and_true, and_self, false_and, and_false, hx]
      rw [xs_134_5 ht, c_isOne ht hT.1]
      simp (disch := first | assumption | omega | decide | exact vp_in_nI (by omega) (by omega) | exact and1_bN _ | (simp only [pk_mul, nI_add, pred_s]; exact vp_in_nI (by omega) (by omega))) only [Option.toList_some, Option.toList_none, List.cons_append, List.nil_append, List.append_nil, xs_134_9, Bool.false_eq_true, nI_add, pk_mul, nI_ltI, nI_eq, z_eq, z_lt, z_gt, z_bN, bN_z, bN_p, bN_i1, nI_clamp, rng_nI, ↓reduceIte, if_true, if_false, not_true_eq_false, not_false_eq_true, true_and, and_true, and_self, false_and, and_false, hy, xs_134_13]
      exact mbad
    · simp (disch := first | assumption | omega | decide | exact vp_in_nI (by omega) (by omega) | exact and1_bN _ | (simp only [pk_mul, nI_add, pred_s]; exact vp_in_nI (by omega) (by omega))) only [Option.toList_some, Option.toList_none, List.cons_append, List.nil_append, List.append_nil, xs_134_4, Bool.false_eq_true, nI_add, pk_mul, nI_ltI, nI_eq, z_eq, z_lt, z_gt, z_bN, bN_z, bN_p, bN_i1, nI_clamp, rng_nI, ↓reduceIte, if_true, if_false, not_true_eq_false, not_false_eq_true, true_and, and_true, and_self, false_and, and_false, hx, xs_134_13]
      exact mbad
theorem INV_ss (H : INV I J t dr G T v bk pre ss) (hc : ∀ k, (k < 28 ∨ 31 < k) → k ≠ 58 → k ≠ 71 → I2 k = I k) (h58 : ∀ j, j ≠ 32 → I2 58 j = I 58 j) (h281 : I2 28 1 = nI 0) (hIS : IS I2 T ss2) : INV I2 J t dr G T v bk pre ss2 := by
  obtain ⟨h1, h2, h3, h4, h5, h6, -, h8, h9⟩ := H
  refine ⟨IT_fr h1 (fun k a b => hc k (by omega) (by omega) (by omega)) (hc 65 (by omega) (by omega) (by omega)) (h58 10 (by decide)) (h58 11 (by decide)), IR_fr h2 (fun k a b => hc k (by omega) (by omega) (by omega)) (hc 60 (by omega) (by omega) (by omega)) (hc 61 (by omega) (by omega) (by omega)), IX_fr h3 (fun k a b => hc k (by omega) (by omega) (by omega)) (hc 63 (by omega) (by omega) (by omega)) (hc 64 (by omega) (by omega) (by omega)), ID_fr h4 (hc 25 (by omega) (by omega) (by omega)) (hc 26 (by omega) (by omega) (by omega)) (fun i _ => by rw [hc 66 (by omega) (by omega) (by omega)]) (h58 16 (by decide)) (h58 17 (by decide)) (h58 18 (by decide)), IK_fr h5 (fun k a b => hc k (by omega) (by omega) (by omega)) (hc 70 (by omega) (by omega) (by omega)), hIS, Or.inl h281, IA_fr h8 (by rw [hc 0 (by omega) (by omega) (by omega)]) (h58 2 (by decide)), IF_fr h9 (by rw [hc 0 (by omega) (by omega) (by omega)]) (h58 0 (by decide)) (hc 51 (by omega) (by omega) (by omega)) (hc 59 (by omega) (by omega) (by omega))⟩
theorem k_sight (H : INV I J t dr G T v bk pre ss) {x y z : Int32} : xr scr (d + 20) xc_116 0 [some (.ref 0), some (.int x), some (.int y), some (.int z)] [] (wS, I, J, wP t dr G) (AN scr (d + 20) xc_231 [some (.ref 58), some (.int x), some (.int y), some (.int z)]) := by
  have ht := H.1.1
  have hT := H.1.2.2.2.1
  have hM := H.1.2.2.2.2.1
  have hn := TR_n hT.1
  have hh5 := TR_h hT.1
  have hS := H.2.2.2.2.2.1
  have h8 := hS.1.2.1
  have hrz := rng_s (x := z) (n := 1) (by decide)
  by_cases hb : rng x (tH T + 1) = true ∧ rng y (tN T) = true ∧ rng z 2 = true
  · obtain ⟨hx, hy, hz⟩ := hb
    obtain ⟨h, hh1, rfl⟩ := rng_of hx (by omega)
    obtain ⟨y, hy1, rfl⟩ := rng_of hy (by omega)
    obtain ⟨z, hz1, rfl⟩ := rng_of hz (by omega)
    have hz2 := hrz.mp hz
    have hzb : nI z = nI (bN (decide (z = 1) = true)) := by
      congr 1
      by_cases e : z = 1
      · rw [e, bN_t (by decide)]
      · rw [bN_f (by simpa using e)]; omega
    rw [xs_116_0 ht, c_isMoment ht hT.1]
    simp (disch := first | assumption | omega | decide | exact vp_in_nI (by omega) (by omega) | exact and1_bN _ | (simp only [pk_mul, nI_add, pred_s]; exact vp_in_nI (by omega) (by omega))) only [Option.toList_some, Option.toList_none, List.cons_append, List.nil_append, List.append_nil, xs_116_4, Bool.false_eq_true, nI_add, pk_mul, nI_ltI, nI_eq, z_eq, z_lt, z_gt, z_bN, bN_z, bN_p, bN_i1, nI_clamp, rng_nI, ↓reduceIte, if_true, if_false, not_true_eq_false, not_false_eq_true, true_and, and_true, and_self, false_and, and_false, hh1]
    rw [xs_116_5 ht, c_isOne ht hT.1]
    simp (disch := first | assumption | omega | decide | exact vp_in_nI (by omega) (by omega) | exact and1_bN _ | (simp only [pk_mul, nI_add, pred_s]; exact vp_in_nI (by omega) (by omega))) only [Option.toList_some, Option.toList_none, List.cons_append, List.nil_append, List.append_nil, xs_116_9, Bool.false_eq_true, nI_add, pk_mul, nI_ltI, nI_eq, z_eq, z_lt, z_gt, z_bN, bN_z, bN_p, bN_i1, nI_clamp, rng_nI, ↓reduceIte, if_true, if_false, not_true_eq_false, not_false_eq_true, true_and, and_true, and_self, false_and, and_false, hy1]
    rw [xs_116_10, if_neg hz2.1, xs_116_12, if_neg hz2.2, xs_116_17, hS.2.1]
    have mhead : ∀ (I1 : Nat → Nat → Int32) (Q : Option Value → xi_S → Prop), MT I1 T → I1 58 32 = nI ss.length → xr scr (d + 20) xc_231 0 [some (.ref 58), some (.int (nI h)), some (.int (nI y)), some (.int (nI z))] [] (wS, I1, J, wP t dr G) Q = if ss.length = 8 then Q (some (.int (-2))) (wS, I1, J, wP t dr G) else xr scr (d + 20) xc_231 21 [some (.ref 58), some (.int (nI h)), some (.int (nI y)), some (.int (nI z))] [] (wS, I1, J, wP t dr G) Q := fun I1 Q m1 e32 => by
      have n10 : ¬ nI 1 = 0 := by decide
      simp (disch := first | assumption | omega | decide | exact vp_in_nI (by omega) (by omega) | exact and1_bN _ | (simp only [pk_mul, nI_add, pred_s]; exact vp_in_nI (by omega) (by omega))) only [xs_231_0, m_isTime m1, Option.toList_some, Option.toList_none, List.cons_append, List.nil_append, List.append_nil, xs_231_3, Bool.false_eq_true, nI_add, pk_mul, nI_ltI, nI_eq, z_eq, z_lt, z_gt, z_bN, bN_z, bN_p, bN_i1, nI_clamp, rng_nI, ↓reduceIte, if_true, if_false, not_true_eq_false, not_false_eq_true, true_and, and_true, and_self, false_and, and_false, hh1, xs_231_4, m_isOne m1, xs_231_7, hy1, xs_231_8, m_in, xs_231_12]
      rw [if_neg (fun e => e ⟨Nat.not_lt_zero _, by omega⟩), xs_231_15, e32]
      simp (disch := first | assumption | omega | decide | exact vp_in_nI (by omega) (by omega) | exact and1_bN _ | (simp only [pk_mul, nI_add, pred_s]; exact vp_in_nI (by omega) (by omega))) only [Bool.false_eq_true, nI_add, pk_mul, nI_ltI, nI_eq, z_eq, z_lt, z_gt, z_bN, bN_z, bN_p, bN_i1, nI_clamp, rng_nI, ↓reduceIte, if_true, if_false, not_true_eq_false, not_false_eq_true, true_and, and_true, and_self, false_and, and_false, xs_231_19]
    by_cases hl : ss.length < 8
    · rw [if_pos ((nI_ltI (by omega) (by omega)).mpr hl), xs_116_24, xs_117_0, hS.2.1, if_neg (nI_pos (by omega)), xs_117_3, hS.2.1, if_pos ((nI_ltI (by omega) (by omega)).mpr hl), xs_117_7 (by rw [hS.2.1]; exact vp_in_nI hl (by omega)), hS.2.1, nI_clamp (by omega), nI_add, xs_117_31]
      simp (disch := first | assumption | omega | decide | exact vp_in_nI (by omega) (by omega) | exact and1_bN _ | (simp only [pk_mul, nI_add, pred_s]; exact vp_in_nI (by omega) (by omega))) only [Option.toList_some, Option.toList_none, List.cons_append, List.nil_append, List.append_nil]
      obtain ⟨I1, hI1⟩ : ∃ I1, I1 = xi_up (xi_up (xi_up (xi_up (xi_up I 29 ss.length (nI h)) 30 ss.length (nI y)) 31 ss.length (nI z)) 28 0 (nI (ss.length + 1))) 28 1 (nI 0) := ⟨_, rfl⟩
      rw [← hI1]
      have f1 : ∀ k, (k < 28 ∨ 31 < k) → I1 k = I k := fun k hk => by rw [hI1, xu_fr (by omega), xu_fr (by omega), xu_fr (by omega), xu_fr (by omega), xu_fr (by omega)]
      have e28 : I1 28 0 = nI (ss.length + 1) := by rw [hI1, xu_nj (by decide), xu_eq]
      rw [xs_116_30, e28, pred_s]
      refine AN_i ?_
      have m1 : MT I1 T := MT_fr hM (by rw [f1 58 (by omega)]) (by rw [f1 58 (by omega)]) (f1 65 (by omega))
      have e32 : I1 58 32 = nI ss.length := by rw [f1 58 (by omega), hS.1.1]
      rw [mhead I1 _ m1 e32, if_neg (by omega), xs_231_21 (by rw [e32, pk_mul]; exact vp_in_nI (by omega) (by omega)) (by rw [e32, pk_mul, nI_add]; exact vp_in_nI (by omega) (by omega)) (by rw [e32, pk_mul, nI_add]; exact vp_in_nI (by omega) (by omega)), e32, pk_mul, nI_add, nI_add, nI_add, pred_s, nI_clamp (by omega), nI_clamp (by omega), nI_clamp (by omega)]
      refine ⟨rfl, PST_i (ss := ss ++ [(h, y, decide (z = 1))]) (INV_ss H (fun k a b c => ?_) (fun j hj => ?_) ?_ ⟨⟨?_, ?_, fun k hk => ?_⟩, ?_, fun k hk => ?_⟩)⟩
      · rw [xu_fr b, xu_fr c, xu_fr c, xu_fr c, f1 k a]
      · rw [xu_nj hj, xu_nc (by decide), xu_nc (by decide), xu_nc (by decide), f1 58 (by omega)]
      · rw [xu_nc (by decide), xu_nc (by decide), xu_nc (by decide), xu_nc (by decide), hI1, xu_eq]
      · rw [xu_eq, List.length_append]; rfl
      · rw [List.length_append]; show ss.length + 1 ≤ 8; omega
      · have hk1 : k < ss.length + 1 := by rw [List.length_append] at hk; exact hk
        by_cases e : k < ss.length
        · rw [List.getElem_append_left e]
          obtain ⟨a1, a2, a3, a4, a5⟩ := hS.1.2.2 k e
          refine ⟨?_, ?_, ?_, a4, a5⟩
          · rw [xu_nc (by decide), xu_nj (by omega), xu_nj (by omega), xu_nj (by omega), f1 71 (by omega), a1]
          · rw [xu_nc (by decide), xu_nj (by omega), xu_nj (by omega), xu_nj (by omega), f1 71 (by omega), a2]
          · rw [xu_nc (by decide), xu_nj (by omega), xu_nj (by omega), xu_nj (by omega), f1 71 (by omega), a3]
        · obtain rfl : k = ss.length := by omega
          rw [List.getElem_append_right (Nat.le_refl _)]
          simp only [Nat.sub_self, List.getElem_singleton]
          refine ⟨?_, ?_, ?_, by omega, by omega⟩
          · rw [xu_nc (by decide), xu_nj (by omega), xu_nj (by omega), xu_eq]
          · rw [xu_nc (by decide), xu_nj (by omega), xu_eq]
          · rw [xu_nc (by decide), xu_eq]
            exact hzb
      · rw [xu_nc (by decide), xu_nc (by decide), xu_nc (by decide), xu_nc (by decide), e28, List.length_append]; rfl
      · have hk1 : k < ss.length + 1 := by rw [List.length_append] at hk; exact hk
        have g1 : ∀ c j (a1 a2 a3 a4 : Int32), (c = 29 ∨ c = 30 ∨ c = 31) → xi_up (xi_up (xi_up (xi_up I1 71 (3 * ss.length) a1) 71 (3 * ss.length + 1) a2) 71 (3 * ss.length + 2) a3) 58 32 a4 c j = I1 c j := fun c j a1 a2 a3 a4 hc => by rw [xu_nc (by omega), xu_nc (by omega), xu_nc (by omega), xu_nc (by omega)]
        rw [g1 29 k _ _ _ _ (by omega), g1 30 k _ _ _ _ (by omega), g1 31 k _ _ _ _ (by omega)]
        by_cases e : k < ss.length
        · rw [List.getElem_append_left e]
          obtain ⟨a1, a2, a3, a4, a5⟩ := hS.2.2 k e
          refine ⟨?_, ?_, ?_, a4, a5⟩
          · rw [hI1, xu_nc (by decide), xu_nc (by decide), xu_nc (by decide), xu_nc (by decide), xu_nj (by omega), a1]
          · rw [hI1, xu_nc (by decide), xu_nc (by decide), xu_nc (by decide), xu_nj (by omega), xu_nc (by decide), a2]
          · rw [hI1, xu_nc (by decide), xu_nc (by decide), xu_nj (by omega), xu_nc (by decide), xu_nc (by decide), a3]
        · obtain rfl : k = ss.length := by omega
          rw [List.getElem_append_right (Nat.le_refl _)]
          simp only [Nat.sub_self, List.getElem_singleton]
          refine ⟨?_, ?_, ?_, by omega, hy1⟩
          · rw [hI1, xu_nc (by decide), xu_nc (by decide), xu_nc (by decide), xu_nc (by decide), xu_eq]
          · rw [hI1, xu_nc (by decide), xu_nc (by decide), xu_nc (by decide), xu_eq]
          · rw [hI1, xu_nc (by decide), xu_nc (by decide), xu_eq]
            exact hzb
    · rw [if_neg (fun e => hl ((nI_ltI (by omega) (by omega)).mp e)), xs_116_22]
      refine AN_i ?_
      rw [mhead I _ hM hS.1.1, if_pos (by omega)]
      first | exact PST_i H | exact ⟨trivial, PST_i H⟩ | exact ⟨rfl, PST_i H⟩
  · have mbad : AN scr (d + 20) xc_231 [some (.ref 58), some (.int x), some (.int y), some (.int z)] (some (.int (-1))) (wS, I, J, wP t dr G) := by
      refine AN_i ?_
      by_cases hx : rng x (tH T + 1) = true
      · by_cases hy : rng y (tN T) = true
        · have hz : ¬ rng z 2 = true := fun h => hb ⟨hx, hy, h⟩
          simp (disch := first | assumption | omega | decide | exact vp_in_nI (by omega) (by omega) | exact and1_bN _ | (simp only [pk_mul, nI_add, pred_s]; exact vp_in_nI (by omega) (by omega))) only [xs_231_0, m_isTime hM, Option.toList_some, Option.toList_none, List.cons_append, List.nil_append, List.append_nil, xs_231_3, Bool.false_eq_true, nI_add, pk_mul, nI_ltI, nI_eq, z_eq, z_lt, z_gt, z_bN, bN_z, bN_p, bN_i1, nI_clamp, rng_nI, ↓reduceIte, if_true, if_false, not_true_eq_false, not_false_eq_true, true_and, and_true, and_self, false_and, and_false, hx, xs_231_4, m_isOne hM, xs_231_7, hy, xs_231_8, m_in, xs_231_12]
          rw [if_pos (fun e => hz ((rng_m0 (n := 1) (by decide)).mp e)), xs_231_13]
          first | exact PST_i H | exact ⟨trivial, PST_i H⟩ | exact ⟨rfl, PST_i H⟩
        · simp (disch := first | assumption | omega | decide | exact vp_in_nI (by omega) (by omega) | exact and1_bN _ | (simp only [pk_mul, nI_add, pred_s]; exact vp_in_nI (by omega) (by omega))) only [xs_231_0, m_isTime hM, Option.toList_some, Option.toList_none, List.cons_append, List.nil_append, List.append_nil, xs_231_3, Bool.false_eq_true, nI_add, pk_mul, nI_ltI, nI_eq, z_eq, z_lt, z_gt, z_bN, bN_z, bN_p, bN_i1, nI_clamp, rng_nI, ↓reduceIte, if_true, if_false, not_true_eq_false, not_false_eq_true, true_and, and_true, and_self, false_and, and_false, hx, xs_231_4, m_isOne hM, xs_231_7, hy, xs_231_13]
          first | exact PST_i H | exact ⟨trivial, PST_i H⟩ | exact ⟨rfl, PST_i H⟩
      · simp (disch := first | assumption | omega | decide | exact vp_in_nI (by omega) (by omega) | exact and1_bN _ | (simp only [pk_mul, nI_add, pred_s]; exact vp_in_nI (by omega) (by omega))) only [xs_231_0, m_isTime hM, Option.toList_some, Option.toList_none, List.cons_append, List.nil_append, List.append_nil, xs_231_3, Bool.false_eq_true, nI_add, pk_mul, nI_ltI, nI_eq, z_eq, z_lt, z_gt, z_bN, bN_z, bN_p, bN_i1, nI_clamp, rng_nI, ↓reduceIte, if_true, if_false, not_true_eq_false, not_false_eq_true, true_and, and_true, and_self, false_and, and_false, hx, xs_231_13]
        first | exact PST_i H | exact ⟨trivial, PST_i H⟩ | exact ⟨rfl, PST_i H⟩
    rw [xs_116_0 ht, c_isMoment ht hT.1]
    by_cases hx : rng x (tH T + 1) = true
    · simp (disch := first | assumption | omega | decide | exact vp_in_nI (by omega) (by omega) | exact and1_bN _ | (simp only [pk_mul, nI_add, pred_s]; exact vp_in_nI (by omega) (by omega))) only [Option.toList_some, Option.toList_none, List.cons_append, List.nil_append, List.append_nil, xs_116_4, Bool.false_eq_true, nI_add, pk_mul, nI_ltI, nI_eq, z_eq, z_lt, z_gt, z_bN, bN_z, bN_p, bN_i1, nI_clamp, rng_nI, ↓reduceIte, if_true, if_false, not_true_eq_false, not_false_eq_true, true_and, and_true, and_self, false_and, and_false, hx]
      rw [xs_116_5 ht, c_isOne ht hT.1]
      by_cases hy : rng y (tN T) = true
      · have hz : ¬ rng z 2 = true := fun h => hb ⟨hx, hy, h⟩
        simp (disch := first | assumption | omega | decide | exact vp_in_nI (by omega) (by omega) | exact and1_bN _ | (simp only [pk_mul, nI_add, pred_s]; exact vp_in_nI (by omega) (by omega))) only [Option.toList_some, Option.toList_none, List.cons_append, List.nil_append, List.append_nil, xs_116_9, Bool.false_eq_true, nI_add, pk_mul, nI_ltI, nI_eq, z_eq, z_lt, z_gt, z_bN, bN_z, bN_p, bN_i1, nI_clamp, rng_nI, ↓reduceIte, if_true, if_false, not_true_eq_false, not_false_eq_true, true_and, and_true, and_self, false_and, and_false, hy]
        rw [xs_116_10]
        by_cases h1 : z < 0
        · rw [if_pos h1, xs_116_15]
          exact mbad
        · rw [if_neg h1, xs_116_12, if_pos (by
            by_cases h2 : nI 1 < z
            · exact h2
            · exact absurd (hrz.mpr ⟨h1, h2⟩) hz), xs_116_15]
          exact mbad
      · simp (disch := first | assumption | omega | decide | exact vp_in_nI (by omega) (by omega) | exact and1_bN _ | (simp only [pk_mul, nI_add, pred_s]; exact vp_in_nI (by omega) (by omega))) only [Option.toList_some, Option.toList_none, List.cons_append, List.nil_append, List.append_nil, xs_116_9, Bool.false_eq_true, nI_add, pk_mul, nI_ltI, nI_eq, z_eq, z_lt, z_gt, z_bN, bN_z, bN_p, bN_i1, nI_clamp, rng_nI, ↓reduceIte, if_true, if_false, not_true_eq_false, not_false_eq_true, true_and, and_true, and_self, false_and, and_false, hy, xs_116_15]
        exact mbad
    · simp (disch := first | assumption | omega | decide | exact vp_in_nI (by omega) (by omega) | exact and1_bN _ | (simp only [pk_mul, nI_add, pred_s]; exact vp_in_nI (by omega) (by omega))) only [Option.toList_some, Option.toList_none, List.cons_append, List.nil_append, List.append_nil, xs_116_4, Bool.false_eq_true, nI_add, pk_mul, nI_ltI, nI_eq, z_eq, z_lt, z_gt, z_bN, bN_z, bN_p, bN_i1, nI_clamp, rng_nI, ↓reduceIte, if_true, if_false, not_true_eq_false, not_false_eq_true, true_and, and_true, and_self, false_and, and_false, hx, xs_116_15]
      exact mbad
theorem k_forget (H : INV I J t dr G T v bk pre ss) {x : Int32} : xr scr (d + 20) xc_118 0 [some (.ref 0), some (.int x), none] [] (wS, I, J, wP t dr G) (AN scr (d + 20) xc_232 [some (.ref 58), some (.int x), none]) := by
  have ht := H.1.1
  have hT := H.1.2.2.2.1
  have hM := H.1.2.2.2.2.1
  have hS := H.2.2.2.2.2.1
  have h8 := hS.1.2.1
  have hrx := rng_s (x := x) (n := ss.length) (by omega)
  rw [xs_118_0]
  by_cases hx : rng x (ss.length + 1) = true
  · have hx2 := hrx.mp hx
    obtain ⟨n, hn1, rfl⟩ := rng_of hx (by omega)
    have n10 : ¬ nI 1 = 0 := by decide
    rw [if_neg hx2.1, xs_118_2, hS.2.1, if_neg hx2.2, xs_118_9, hS.2.1, pk_sub (by omega), xs_42_0]
    simp (disch := first | assumption | omega | decide | exact vp_in_nI (by omega) (by omega) | exact and1_bN _ | (simp only [pk_mul, nI_add, pred_s]; exact vp_in_nI (by omega) (by omega))) only [Option.toList_some, Option.toList_none, List.cons_append, List.nil_append, List.append_nil, xs_118_19]
    obtain ⟨I1, hI1⟩ : ∃ I1, I1 = xi_up (xi_up I 28 0 (nI n)) 28 1 (nI 0) := ⟨_, rfl⟩
    rw [← hI1]
    have f1 : ∀ k, k ≠ 28 → I1 k = I k := fun k hk => by rw [hI1, xu_fr hk, xu_fr hk]
    refine AN_i ?_
    have e32 : I1 58 32 = nI ss.length := by rw [f1 58 (by omega), hS.1.1]
    rw [xs_232_0, e32]
    simp (disch := first | assumption | omega | decide | exact vp_in_nI (by omega) (by omega) | exact and1_bN _ | (simp only [pk_mul, nI_add, pred_s]; exact vp_in_nI (by omega) (by omega))) only [m_in, Option.toList_some, Option.toList_none, List.cons_append, List.nil_append, List.append_nil, xs_232_5]
    rw [bN_c (rng_m0 (n := ss.length) (x := nI n) (by omega)), bN_t hx, if_neg n10, xs_232_8, e32, pk_sub (by omega)]
    have hl : (ss.take n).length = n := by rw [List.length_take]; omega
    refine ⟨rfl, PST_i (ss := ss.take n) (INV_ss H (fun k a b c => ?_) (fun j hj => ?_) ?_ ⟨⟨?_, ?_, fun k hk => ?_⟩, ?_, fun k hk => ?_⟩)⟩
    · rw [xu_fr b, f1 k (by omega)]
    · rw [xu_nj hj, f1 58 (by omega)]
    · rw [xu_nc (by decide), hI1, xu_eq]
    · rw [xu_eq, hl]
    · rw [hl]; omega
    · rw [xu_fr (by decide), f1 71 (by decide), List.getElem_take]
      exact hS.1.2.2 k (by omega)
    · rw [xu_nc (by decide), hI1, xu_nj (by decide), xu_eq, hl]
    · rw [xu_fr (by decide), xu_fr (by decide), xu_fr (by decide), f1 29 (by decide), f1 30 (by decide), f1 31 (by decide), List.getElem_take]
      exact hS.2.2 k (by omega)
  · have mbad : AN scr (d + 20) xc_232 [some (.ref 58), some (.int x), none] (some (.int (-1))) (wS, I, J, wP t dr G) := by
      refine AN_i ?_
      rw [xs_232_0, hS.1.1]
      simp (disch := first | assumption | omega | decide | exact vp_in_nI (by omega) (by omega) | exact and1_bN _ | (simp only [pk_mul, nI_add, pred_s]; exact vp_in_nI (by omega) (by omega))) only [m_in, Option.toList_some, Option.toList_none, List.cons_append, List.nil_append, List.append_nil, xs_232_5]
      rw [bN_c (rng_m0 (n := ss.length) (x := x) (by omega)), bN_f hx, if_pos nI_0, xs_232_6]
      first | exact PST_i H | exact ⟨trivial, PST_i H⟩ | exact ⟨rfl, PST_i H⟩
    by_cases h1 : x < 0
    · rw [if_pos h1, xs_118_7]
      exact mbad
    · rw [if_neg h1, xs_118_2, hS.2.1, if_pos (by
        by_cases h2 : nI ss.length < x
        · exact h2
        · exact absurd (hrx.mpr ⟨h1, h2⟩) hx), xs_118_7]
      exact mbad
end TWOC
