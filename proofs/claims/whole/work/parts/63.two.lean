/-! calls: two, sight, forget -/
section TWOC
variable {scr : xi_X} {d : Nat} {Q : Option Value → xi_S → Prop} {I I2 I3 I4 : Nat → Nat → Int32} {J J2 : Nat → Nat → Int64} {t dr : Nat} {G G2 : Nat → Nat} {T : TN} {v v2 : Nat} {bk bk2 : Bool} {pre pre2 : List Nat} {ss ss2 : List SGT}
theorem INV_49 (H : INV I J t dr G T v bk pre ss) (h : ∀ k, k ≠ 49 → k ≠ 50 → I2 k = I k) : INV I2 J t dr G T v bk pre ss := by
  refine INV_liv H ⟨fun k hk => h k (by omega) (by omega), fun i _ => by rw [h 66 (by decide) (by decide)], fun j _ => by rw [h 58 (by decide) (by decide)], fun j _ => by rw [h 0 (by decide) (by decide)]⟩ ?_ rfl
  have := H.2.2.2.2.2.2.2.1
  unfold IA at this ⊢
  rw [h 0 (by decide) (by decide), h 58 (by decide) (by decide)]
  exact this
theorem k_two (H : INV I J t dr G T v bk pre ss) {x y : Int32} : xr scr (d + 20) xc_134 0 [some (.ref 0), some (.int x), some (.int y), none] [] (wS, I, J, wP t dr G) (AN scr (d + 20) xc_244 [some (.ref 58), some (.int x), some (.int y)]) := by
  have ht := H.1.1
  have hT := H.1.2.2.2.1
  have hM := H.1.2.2.2.2.1
  have hn := TR_n hT.1
  have hh5 := TR_h hT.1
  by_cases hb : rng x (tN T) = true ∧ rng y (tN T) = true
  · obtain ⟨hx, hy⟩ := hb
    obtain ⟨x, hx1, rfl⟩ := rng_of hx (by omega)
    obtain ⟨y, hy1, rfl⟩ := rng_of hy (by omega)
    rw [xs_134_0 ht, c_isOne ht hT.1]
    simp (disch := first | assumption | omega | decide | exact vp_in_nI (by omega) (by omega) | exact and1_bN _ | (simp only [pk_mul, nI_add, pred_s]; exact vp_in_nI (by omega) (by omega))) only [Option.toList_some, Option.toList_none, List.cons_append, List.nil_append, List.append_nil, xs_134_4, Bool.false_eq_true, nI_add, pk_mul, nI_ltI, nI_eq, z_eq, z_lt, z_gt, z_bN, bN_z, bN_p, bN_i1, nI_clamp, rng_nI, ↓reduceIte, if_true, if_false, not_true_eq_false, not_false_eq_true, true_and, and_true, and_self, false_and, and_false, hx1]
    rw [xs_134_5 ht, c_isOne ht hT.1]
    simp (disch := first | assumption | omega | decide | exact vp_in_nI (by omega) (by omega) | exact and1_bN _ | (simp only [pk_mul, nI_add, pred_s]; exact vp_in_nI (by omega) (by omega))) only [Option.toList_some, Option.toList_none, List.cons_append, List.nil_append, List.append_nil, xs_134_9, Bool.false_eq_true, nI_add, pk_mul, nI_ltI, nI_eq, z_eq, z_lt, z_gt, z_bN, bN_z, bN_p, bN_i1, nI_clamp, rng_nI, ↓reduceIte, if_true, if_false, not_true_eq_false, not_false_eq_true, true_and, and_true, and_self, false_and, and_false, hy1, xs_134_10]
    by_cases hxy : x = y
    · rw [if_pos hxy, xs_134_13]
      refine AN_i ?_
      simp (disch := first | assumption | omega | decide | exact vp_in_nI (by omega) (by omega) | exact and1_bN _ | (simp only [pk_mul, nI_add, pred_s]; exact vp_in_nI (by omega) (by omega))) only [xs_244_0, m_areTwo hM, Option.toList_some, Option.toList_none, List.cons_append, List.nil_append, List.append_nil, xs_244_4, Bool.false_eq_true, nI_add, pk_mul, nI_ltI, nI_eq, z_eq, z_lt, z_gt, z_bN, bN_z, bN_p, bN_i1, nI_clamp, rng_nI, ↓reduceIte, if_true, if_false, not_true_eq_false, not_false_eq_true, true_and, and_true, and_self, false_and, and_false, hx1, hy1, xs_244_5, hxy, xs_244_14, xs_244_15]
      first | exact PST_i H | exact ⟨trivial, PST_i H⟩ | exact ⟨rfl, PST_i H⟩
    · rw [if_neg hxy, xs_134_15, xs_135_0, c_fill (n := 7) rfl (by decide)]
      have hx7 : x < 7 := by omega
      have hnx : ¬ nI x < 0 := nI_pos (by omega)
      simp (disch := first | assumption | omega | decide | exact vp_in_nI (by omega) (by omega) | exact and1_bN _ | (simp only [pk_mul, nI_add, pred_s]; exact vp_in_nI (by omega) (by omega))) only [Option.toList_some, Option.toList_none, List.cons_append, List.nil_append, List.append_nil, xs_135_4, hnx, ↓reduceIte, xs_135_6, Bool.false_eq_true, nI_add, pk_mul, nI_ltI, nI_eq, z_eq, z_lt, z_gt, z_bN, bN_z, bN_p, bN_i1, nI_clamp, rng_nI, ↓reduceIte, if_true, if_false, not_true_eq_false, not_false_eq_true, true_and, and_true, and_self, false_and, and_false, hx7]
      rw [xs_135_9 (vp_in_nI hx7 (by omega)), nI_clamp (by omega), sb_one _ (by omega)]
      simp (disch := first | assumption | omega | decide | exact vp_in_nI (by omega) (by omega) | exact and1_bN _ | (simp only [pk_mul, nI_add, pred_s]; exact vp_in_nI (by omega) (by omega))) only [Option.toList_some, Option.toList_none, List.cons_append, List.nil_append, List.append_nil, xs_135_16]
      rw [xs_134_20]
      obtain ⟨I1, hI1⟩ : ∃ I1 : Nat → Nat → Int32, I1 = xi_up (xi_ua I 49 (fun j => if j < 7 then nI 0 else I 49 j)) 49 x (nI (2 ^ y)) := ⟨_, rfl⟩
      rw [← hI1]
      have f1 : ∀ k, k ≠ 49 → k ≠ 50 → I1 k = I k := fun k a b => by rw [hI1, xu_fr a, xa_fr a]
      have s1 : ∀ z, z < tN T → I1 49 z = nI (bs (tN T) (pcP T x y 0 z)) := fun z hz => by
        rw [hI1, xu_at]
        by_cases e : z = x
        · rw [if_pos e, bs_one hy1]
          congr 1
          exact bs_c (fun b _ => by rw [e]; simp [pcP])
        · have e2 : (z == x) = false := by rw [beq_eq_false_iff_ne]; exact e
          rw [if_neg e, xa_eq, if_pos (by omega)]
          congr 1
          exact (bs_0 (tN T)).symm.trans (bs_c (fun b _ => by simp [pcP, e2]))
      have hW := twr_le T (tH T) x y
      -- the reference
      have mref : ∀ I2 : Nat → Nat → Int32, (∀ k, k ≠ 49 → k ≠ 50 → I2 k = I k) → AN scr (d + 20) xc_244 [some (.ref 58), some (.int (nI x)), some (.int (nI y))] (some (.int (nI (twr T (tH T) x y)))) (wS, I2, J, wP t dr G) := by
        intro I2 f2
        have H2 := INV_49 H f2
        have hM2 := H2.1.2.2.2.2.1
        refine AN_i ?_
        simp (disch := first | assumption | omega | decide | exact vp_in_nI (by omega) (by omega) | exact and1_bN _ | (simp only [pk_mul, nI_add, pred_s]; exact vp_in_nI (by omega) (by omega))) only [xs_244_0, m_areTwo hM2, Option.toList_some, Option.toList_none, List.cons_append, List.nil_append, List.append_nil, xs_244_4, Bool.false_eq_true, nI_add, pk_mul, nI_ltI, nI_eq, z_eq, z_lt, z_gt, z_bN, bN_z, bN_p, bN_i1, nI_clamp, rng_nI, ↓reduceIte, if_true, if_false, not_true_eq_false, not_false_eq_true, true_and, and_true, and_self, false_and, and_false, hx1, hy1, xs_244_5, hxy]
        have := fun Q => m_twoOf (scr := scr) (d := d + 15 - tH T) (I := I2) (J := J) (t := t) (dr := dr) (G := G) (T := T) hM2 (tH T) x y Q hx1 hy1 (Nat.le_refl _)
        rw [show d + 15 - tH T + tH T + 4 = d + 19 by omega, Nat.sub_self] at this
        rw [xs_244_8, this]
        simp (disch := first | assumption | omega | decide | exact vp_in_nI (by omega) (by omega) | exact and1_bN _ | (simp only [pk_mul, nI_add, pred_s]; exact vp_in_nI (by omega) (by omega))) only [Option.toList_some, Option.toList_none, List.cons_append, List.nil_append, List.append_nil, xs_244_13, xs_244_15]
        first | exact PST_i H2 | exact ⟨trivial, PST_i H2⟩ | exact ⟨rfl, PST_i H2⟩
      have key : ∀ f j, j + f = tH T → j ≤ twr T (tH T) x y → ∀ I2 : Nat → Nat → Int32, (∀ k, k ≠ 49 → k ≠ 50 → I2 k = I k) → (∀ z, z < tN T → I2 49 z = nI (bs (tN T) (pcP T x y j z))) → xr scr (d + 20) xc_134 22 [some (.ref 0), some (.int (nI x)), some (.int (nI y)), some (.int (nI j))] [] (wS, I2, J, wP t dr G) (AN scr (d + 20) xc_244 [some (.ref 58), some (.int (nI x)), some (.int (nI y))]) := by
        intro f
        induction f with
        | zero =>
          intro j hj hjW I2 f2 s2
          have hT2 := (INV_49 H f2).1.2.2.2.1
          have hm := mref I2 f2
          rw [show twr T (tH T) x y = j by omega] at hm
          rw [xs_134_22 ht, TR_0 hT2.1, show j = tH T by omega]
          simp (disch := first | assumption | omega | decide | exact vp_in_nI (by omega) (by omega) | exact and1_bN _ | (simp only [pk_mul, nI_add, pred_s]; exact vp_in_nI (by omega) (by omega))) only [Bool.false_eq_true, nI_add, pk_mul, nI_ltI, nI_eq, z_eq, z_lt, z_gt, z_bN, bN_z, bN_p, bN_i1, nI_clamp, rng_nI, ↓reduceIte, if_true, if_false, not_true_eq_false, not_false_eq_true, true_and, and_true, and_self, false_and, and_false, Nat.lt_irrefl, xs_134_36]
          rw [show j = tH T by omega] at hm
          exact hm
        | succ f ih =>
          intro j hj hjW I2 f2 s2
          have hT2 := (INV_49 H f2).1.2.2.2.1
          have hlt : j < tH T := by omega
          have hpt := pcP_twr (T := T) hx1 hy1 (j + 1) 0 (by omega)
          rw [xs_134_22 ht, TR_0 hT2.1]
          simp (disch := first | assumption | omega | decide | exact vp_in_nI (by omega) (by omega) | exact and1_bN _ | (simp only [pk_mul, nI_add, pred_s]; exact vp_in_nI (by omega) (by omega))) only [Bool.false_eq_true, nI_add, pk_mul, nI_ltI, nI_eq, z_eq, z_lt, z_gt, z_bN, bN_z, bN_p, bN_i1, nI_clamp, rng_nI, ↓reduceIte, if_true, if_false, not_true_eq_false, not_false_eq_true, true_and, and_true, and_self, false_and, and_false, hlt]
          rw [xs_134_27]
          refine c_giveBoth (d := d + 16) (P := pcP T x y j) ht hT2 hlt s2 (fun I3 b f3 s3 hbi => ?_)
          have f13 : ∀ k, k ≠ 49 → k ≠ 50 → I3 k = I k := fun k a c => by rw [f3 k a c, f2 k a c]
          have hbW : b = true ↔ j + 1 ≤ twr T (tH T) x y := by
            rw [hbi, ← Nat.zero_add (j + 1), ← hpt]
            constructor
            · rintro ⟨a, ha, c, hc, h⟩
              exact ⟨a, ha, c, hc, h, Nat.zero_le _⟩
            · rintro ⟨a, ha, c, hc, h, -⟩
              exact ⟨a, ha, c, hc, h⟩
          by_cases hb : b = true
          · have n10 : ¬ nI 1 = 0 := by decide
            rw [bN_t hb]
            simp (disch := first | assumption | omega | decide | exact vp_in_nI (by omega) (by omega) | exact and1_bN _ | (simp only [pk_mul, nI_add, pred_s]; exact vp_in_nI (by omega) (by omega))) only [Option.toList_some, Option.toList_none, List.cons_append, List.nil_append, List.append_nil, xs_134_33, n10, ↓reduceIte, xs_134_34, nI_add]
            exact ih (j + 1) (by omega) (hbW.mp hb) I3 f13 s3
          · have hm := mref I3 f13
            have hjw : twr T (tH T) x y = j := by
              have : ¬ j + 1 ≤ twr T (tH T) x y := fun h => hb (hbW.mpr h)
              omega
            rw [bN_f hb]
            simp (disch := first | assumption | omega | decide | exact vp_in_nI (by omega) (by omega) | exact and1_bN _ | (simp only [pk_mul, nI_add, pred_s]; exact vp_in_nI (by omega) (by omega))) only [Option.toList_some, Option.toList_none, List.cons_append, List.nil_append, List.append_nil, xs_134_33, nI_0, ↓reduceIte, xs_134_36]
            rw [hjw] at hm
            exact hm
      exact key (tH T) 0 (by omega) (Nat.zero_le _) I1 f1 s1
  · have mbad : AN scr (d + 20) xc_244 [some (.ref 58), some (.int x), some (.int y)] (some (.int (-1))) (wS, I, J, wP t dr G) := by
      refine AN_i ?_
      simp (disch := first | assumption | omega | decide | exact vp_in_nI (by omega) (by omega) | exact and1_bN _ | (simp only [pk_mul, nI_add, pred_s]; exact vp_in_nI (by omega) (by omega))) only [xs_244_0, m_areTwo hM, Option.toList_some, Option.toList_none, List.cons_append, List.nil_append, List.append_nil, xs_244_4, Bool.false_eq_true, nI_add, pk_mul, nI_ltI, nI_eq, z_eq, z_lt, z_gt, z_bN, bN_z, bN_p, bN_i1, nI_clamp, rng_nI, ↓reduceIte, if_true, if_false, not_true_eq_false, not_false_eq_true, true_and, and_true, and_self, false_and, and_false]
      rw [if_pos hb, xs_244_14, xs_244_15]
      first | exact PST_i H | exact ⟨trivial, PST_i H⟩ | exact ⟨rfl, PST_i H⟩
    rw [xs_134_0 ht, c_isOne ht hT.1]
    by_cases hx : rng x (tN T) = true
    · have hy : ¬ rng y (tN T) = true := fun h => hb ⟨hx, h⟩
      simp (disch := first | assumption | omega | decide | exact vp_in_nI (by omega) (by omega) | exact and1_bN _ | (simp only [pk_mul, nI_add, pred_s]; exact vp_in_nI (by omega) (by omega))) only [Option.toList_some, Option.toList_none, List.cons_append, List.nil_append, List.append_nil, xs_134_4, Bool.false_eq_true, nI_add, pk_mul, nI_ltI, nI_eq, z_eq, z_lt, z_gt, z_bN, bN_z, bN_p, bN_i1, nI_clamp, rng_nI, ↓reduceIte, if_true, if_false, not_true_eq_false, not_false_eq_true, true_and, and_true, and_self, false_and, and_false, hx]
      rw [xs_134_5 ht, c_isOne ht hT.1]
      simp (disch := first | assumption | omega | decide | exact vp_in_nI (by omega) (by omega) | exact and1_bN _ | (simp only [pk_mul, nI_add, pred_s]; exact vp_in_nI (by omega) (by omega))) only [Option.toList_some, Option.toList_none, List.cons_append, List.nil_append, List.append_nil, xs_134_9, Bool.false_eq_true, nI_add, pk_mul, nI_ltI, nI_eq, z_eq, z_lt, z_gt, z_bN, bN_z, bN_p, bN_i1, nI_clamp, rng_nI, ↓reduceIte, if_true, if_false, not_true_eq_false, not_false_eq_true, true_and, and_true, and_self, false_and, and_false, hy, xs_134_13]
      exact mbad
    · simp (disch := first | assumption | omega | decide | exact vp_in_nI (by omega) (by omega) | exact and1_bN _ | (simp only [pk_mul, nI_add, pred_s]; exact vp_in_nI (by omega) (by omega))) only [Option.toList_some, Option.toList_none, List.cons_append, List.nil_append, List.append_nil, xs_134_4, Bool.false_eq_true, nI_add, pk_mul, nI_ltI, nI_eq, z_eq, z_lt, z_gt, z_bN, bN_z, bN_p, bN_i1, nI_clamp, rng_nI, ↓reduceIte, if_true, if_false, not_true_eq_false, not_false_eq_true, true_and, and_true, and_self, false_and, and_false, hx, xs_134_13]
      exact mbad
end TWOC
