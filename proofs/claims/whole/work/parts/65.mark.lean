/-! calls: mark -/
section TSW
variable {scr : xi_X} {d : Nat} {code : List xi_E} {i : Nat} {ls : xi_L} {st : List Value} {S : xi_S} {Q : Option Value → xi_S → Prop}
theorem xr_tsw {a b c : Int} {o : Array Int} {nf : List Nat} {k1 : Int32} {k2 : Int64} {x : Int32} {t : Nat} (hc : code[i]? = some (.tableswitch a b c o, nf, k1, k2)) (h : ¬ (x.toInt < b ∨ c < x.toInt)) (ht : nf[(x.toInt - b).toNat + 1]? = some t) : xr scr d code i ls (.int x :: st) S Q = xr scr d code t ls st S Q := xr_go (fun go => by
  unfold xi_one
  rw [hc]
  simp only [if_neg h, ht])
theorem xr_tsw_d {a b c : Int} {o : Array Int} {nf : List Nat} {k1 : Int32} {k2 : Int64} {x : Int32} {t : Nat} (hc : code[i]? = some (.tableswitch a b c o, t :: nf, k1, k2)) (h : x.toInt < b ∨ c < x.toInt) : xr scr d code i ls (.int x :: st) S Q = xr scr d code t ls st S Q := xr_go (fun go => by
  unfold xi_one
  rw [hc]
  simp only [if_pos h]
  rfl)
end TSW
section MARK
variable {scr : xi_X} {d : Nat} {Q : Option Value → xi_S → Prop} {I I2 I3 I4 : Nat → Nat → Int32} {J J2 : Nat → Nat → Int64} {t dr : Nat} {G G2 : Nat → Nat} {T : TN} {v v2 : Nat} {bk bk2 : Bool} {pre pre2 : List Nat} {ss ss2 : List SGT}
theorem ts_49_1 {x1 : Int32} : xr scr d xc_49 23 [some (.ref 0), some (.int x1), some (.int (nI 1))] [] (wS, I, J, wP t dr G) Q = xr scr d xc_49 25 [some (.ref 0), some (.int x1), some (.int (nI 1))] [] (wS, I, J, wP t dr G) Q := Eq.trans (xr_iload_n rfl rfl) (xr_tsw rfl (by decide) (by decide))
theorem ts_49_2 {x1 : Int32} : xr scr d xc_49 23 [some (.ref 0), some (.int x1), some (.int (nI 2))] [] (wS, I, J, wP t dr G) Q = xr scr d xc_49 27 [some (.ref 0), some (.int x1), some (.int (nI 2))] [] (wS, I, J, wP t dr G) Q := Eq.trans (xr_iload_n rfl rfl) (xr_tsw rfl (by decide) (by decide))
theorem ts_49_3 {x1 : Int32} : xr scr d xc_49 23 [some (.ref 0), some (.int x1), some (.int (nI 3))] [] (wS, I, J, wP t dr G) Q = xr scr d xc_49 32 [some (.ref 0), some (.int x1), some (.int (nI 3))] [] (wS, I, J, wP t dr G) Q := Eq.trans (xr_iload_n rfl rfl) (xr_tsw rfl (by decide) (by decide))
theorem ts_49_4 {x1 : Int32} : xr scr d xc_49 23 [some (.ref 0), some (.int x1), some (.int (nI 4))] [] (wS, I, J, wP t dr G) Q = xr scr d xc_49 40 [some (.ref 0), some (.int x1), some (.int (nI 4))] [] (wS, I, J, wP t dr G) Q := Eq.trans (xr_iload_n rfl rfl) (xr_tsw rfl (by decide) (by decide))
theorem ts_49_5 {x1 : Int32} : xr scr d xc_49 23 [some (.ref 0), some (.int x1), some (.int (nI 5))] [] (wS, I, J, wP t dr G) Q = xr scr d xc_49 52 [some (.ref 0), some (.int x1), some (.int (nI 5))] [] (wS, I, J, wP t dr G) Q := Eq.trans (xr_iload_n rfl rfl) (xr_tsw_d rfl (by decide))
theorem ts_186_1 {x1 x3 x4 : Int32} : xr scr d xc_186 68 [some (.ref 58), some (.int x1), some (.int (nI 1)), some (.int x3), some (.int x4)] [] (wS, I, J, wP t dr G) Q = xr scr d xc_186 70 [some (.ref 58), some (.int x1), some (.int (nI 1)), some (.int x3), some (.int x4)] [] (wS, I, J, wP t dr G) Q := Eq.trans (xr_iload_n rfl rfl) (xr_tsw rfl (by decide) (by decide))
theorem ts_186_2 {x1 x3 x4 : Int32} : xr scr d xc_186 68 [some (.ref 58), some (.int x1), some (.int (nI 2)), some (.int x3), some (.int x4)] [] (wS, I, J, wP t dr G) Q = xr scr d xc_186 89 [some (.ref 58), some (.int x1), some (.int (nI 2)), some (.int x3), some (.int x4)] [] (wS, I, J, wP t dr G) Q := Eq.trans (xr_iload_n rfl rfl) (xr_tsw rfl (by decide) (by decide))
theorem ts_186_3 {x1 x3 x4 : Int32} : xr scr d xc_186 68 [some (.ref 58), some (.int x1), some (.int (nI 3)), some (.int x3), some (.int x4)] [] (wS, I, J, wP t dr G) Q = xr scr d xc_186 72 [some (.ref 58), some (.int x1), some (.int (nI 3)), some (.int x3), some (.int x4)] [] (wS, I, J, wP t dr G) Q := Eq.trans (xr_iload_n rfl rfl) (xr_tsw rfl (by decide) (by decide))
theorem ts_186_4 {x1 x3 x4 : Int32} : xr scr d xc_186 68 [some (.ref 58), some (.int x1), some (.int (nI 4)), some (.int x3), some (.int x4)] [] (wS, I, J, wP t dr G) Q = xr scr d xc_186 76 [some (.ref 58), some (.int x1), some (.int (nI 4)), some (.int x3), some (.int x4)] [] (wS, I, J, wP t dr G) Q := Eq.trans (xr_iload_n rfl rfl) (xr_tsw rfl (by decide) (by decide))
theorem ts_186_5 {x1 x3 x4 : Int32} : xr scr d xc_186 68 [some (.ref 58), some (.int x1), some (.int (nI 5)), some (.int x3), some (.int x4)] [] (wS, I, J, wP t dr G) Q = xr scr d xc_186 89 [some (.ref 58), some (.int x1), some (.int (nI 5)), some (.int x3), some (.int x4)] [] (wS, I, J, wP t dr G) Q := Eq.trans (xr_iload_n rfl rfl) (xr_tsw_d rfl (by decide))
theorem m_isA (hM : MT I T) {x k : Nat} (hx : x < tN T) (hk : k < 6) : xr scr (d + 1) xc_187 0 [some (.ref 58), some (.int (nI x)), some (.int (nI k))] [] (wS, I, J, wP t dr G) Q = Q (some (.int (nI (bN (isA T x k))))) (wS, I, J, wP t dr G) := by
  have hn := MT_n hM
  have hk5 := MT_k5 hM hx
  have hx7 : x < 7 := by omega
  have h07 : 0 < 7 := by decide
  simp (disch := first | assumption | omega | decide | exact vp_in_nI (by omega) (by omega) | exact and1_bN _ | (simp only [pk_mul, nI_add, pred_s]; exact vp_in_nI (by omega) (by omega))) only [xs_187_0, xs_187_4, xs_187_6, xs_187_9, xs_187_13, xs_187_15, xs_187_17, xs_187_18, m_of hx7 h07, MT_k hM hx, Option.toList_some, Option.toList_none, List.cons_append, List.nil_append, List.append_nil, Bool.false_eq_true, nI_add, pk_mul, nI_ltI, nI_eq, z_eq, z_lt, z_gt, z_bN, bN_z, bN_p, bN_i1, nI_clamp, rng_nI, ↓reduceIte, if_true, if_false, not_true_eq_false, not_false_eq_true, true_and, and_true, and_self, false_and, and_false]
  by_cases h1 : tK T x = k <;> by_cases h2 : tK T x = 5 <;> by_cases h3 : k = 3 <;> simp [h1, h2, h3, bN, isA] <;> (first | done | omega | (intro h; omega) | (split <;> (first | rfl | omega)))
theorem cnt_t (n : Nat) (p : Nat → Bool) : cnt n p ≤ n := cnt_le n p
theorem m_markL (hM : MT I T) {x k : Nat} (hx : x < tN T) (hk : k < 6) : xr scr (d + 20) xc_186 20 [some (.ref 58), some (.int (nI x)), some (.int (nI k)), none, none] [] (wS, I, J, wP t dr G) Q = xr scr (d + 20) xc_186 68 [some (.ref 58), some (.int (nI x)), some (.int (nI k)), some (.int (nI (if k = 2 then prs T x else if k = 5 then knd T 4 else 0))), some (.int (nI (tN T)))] [] (wS, I, J, wP t dr G) Q := by
  have hn := MT_n hM
  have hh5 := MT_h hM
  rw [xs_186_20]
  have l2 : ∀ a : Nat, a ≤ 5 → (k = 5 → a = 0) → xr scr (d + 20) xc_186 47 [some (.ref 58), some (.int (nI x)), some (.int (nI k)), some (.int (nI a)), some (.int (nI 0))] [] (wS, I, J, wP t dr G) Q = xr scr (d + 20) xc_186 68 [some (.ref 58), some (.int (nI x)), some (.int (nI k)), some (.int (nI (if k = 5 then knd T 4 else a))), some (.int (nI (tN T)))] [] (wS, I, J, wP t dr G) Q := by
    intro a ha hka
    by_cases h5 : k = 5
    · have e0 := hka h5
      subst e0
      rw [if_pos h5]
      refine up_0 (P := fun i => xr scr (d + 20) xc_186 47 [some (.ref 58), some (.int (nI x)), some (.int (nI k)), some (.int (nI (cnt i (fun x => decide (isA T x 4))))), some (.int (nI i))] [] (wS, I, J, wP t dr G) Q = xr scr (d + 20) xc_186 68 [some (.ref 58), some (.int (nI x)), some (.int (nI k)), some (.int (nI (knd T 4))), some (.int (nI (tN T)))] [] (wS, I, J, wP t dr G) Q) (tN T) (fun i hi h => ?_) ?_
      · have hi7 : i < 7 := by omega
        have h07 : 0 < 7 := by decide
        have hk5 := MT_k5 hM hi
        have hcl := cnt_le i (fun x => decide (isA T x 4))
        rw [xs_186_47, MT_10 hM, if_pos ((nI_ltI (by omega) (by omega)).mpr hi), xs_186_51, if_pos (by rw [h5])]
        simp (disch := first | assumption | omega | decide | exact vp_in_nI (by omega) (by omega) | exact and1_bN _ | (simp only [pk_mul, nI_add, pred_s]; exact vp_in_nI (by omega) (by omega))) only [xs_186_55, m_of hi7 h07, MT_k hM hi, Option.toList_some, Option.toList_none, List.cons_append, List.nil_append, List.append_nil, xs_186_59, Bool.false_eq_true, nI_add, pk_mul, nI_ltI, nI_eq, z_eq, z_lt, z_gt, z_bN, bN_z, bN_p, bN_i1, nI_clamp, rng_nI, ↓reduceIte, if_true, if_false, not_true_eq_false, not_false_eq_true, true_and, and_true, and_self, false_and, and_false, xs_186_61, xs_186_63, xs_186_64]
        rw [cnt_s] at h
        by_cases e : tK T i = 4
        · rw [bN_t (by simpa [isA] using e)] at h
          rw [if_pos e]
          exact h
        · rw [bN_f (by simpa [isA] using e)] at h
          rw [if_neg e]
          exact h
      · rw [xs_186_47, MT_10 hM]
        simp (disch := first | assumption | omega | decide | exact vp_in_nI (by omega) (by omega) | exact and1_bN _ | (simp only [pk_mul, nI_add, pred_s]; exact vp_in_nI (by omega) (by omega))) only [Bool.false_eq_true, nI_add, pk_mul, nI_ltI, nI_eq, z_eq, z_lt, z_gt, z_bN, bN_z, bN_p, bN_i1, nI_clamp, rng_nI, ↓reduceIte, if_true, if_false, not_true_eq_false, not_false_eq_true, true_and, and_true, and_self, false_and, and_false, Nat.lt_irrefl]
        rfl
    · rw [if_neg h5]
      refine up_0 (P := fun i => xr scr (d + 20) xc_186 47 [some (.ref 58), some (.int (nI x)), some (.int (nI k)), some (.int (nI a)), some (.int (nI i))] [] (wS, I, J, wP t dr G) Q = xr scr (d + 20) xc_186 68 [some (.ref 58), some (.int (nI x)), some (.int (nI k)), some (.int (nI a)), some (.int (nI (tN T)))] [] (wS, I, J, wP t dr G) Q) (tN T) (fun i hi h => ?_) ?_
      · rw [xs_186_47, MT_10 hM, if_pos ((nI_ltI (by omega) (by omega)).mpr hi), xs_186_51, if_neg (fun e => h5 ((nI_eq (by omega) (by omega)).mp e)), xs_186_63, xs_186_64, nI_add, nI_add, Nat.add_zero]
        exact h
      · rw [xs_186_47, MT_10 hM]
        simp (disch := first | assumption | omega | decide | exact vp_in_nI (by omega) (by omega) | exact and1_bN _ | (simp only [pk_mul, nI_add, pred_s]; exact vp_in_nI (by omega) (by omega))) only [Bool.false_eq_true, nI_add, pk_mul, nI_ltI, nI_eq, z_eq, z_lt, z_gt, z_bN, bN_z, bN_p, bN_i1, nI_clamp, rng_nI, ↓reduceIte, if_true, if_false, not_true_eq_false, not_false_eq_true, true_and, and_true, and_self, false_and, and_false, Nat.lt_irrefl]
  have l1 : xr scr (d + 20) xc_186 24 [some (.ref 58), some (.int (nI x)), some (.int (nI k)), some (.int (nI 0)), some (.int (nI 0))] [] (wS, I, J, wP t dr G) Q = xr scr (d + 20) xc_186 47 [some (.ref 58), some (.int (nI x)), some (.int (nI k)), some (.int (nI (if k = 2 then prs T x else 0))), some (.int (nI 0))] [] (wS, I, J, wP t dr G) Q := by
    by_cases h2 : k = 2
    · rw [if_pos h2]
      refine up_0 (P := fun i => xr scr (d + 20) xc_186 24 [some (.ref 58), some (.int (nI x)), some (.int (nI k)), some (.int (nI (cnt i (fun u => decide (ctog T x u = 2))))), some (.int (nI i))] [] (wS, I, J, wP t dr G) Q = xr scr (d + 20) xc_186 47 [some (.ref 58), some (.int (nI x)), some (.int (nI k)), some (.int (nI (prs T x))), some (.int (nI 0))] [] (wS, I, J, wP t dr G) Q) (tH T) (fun i hi h => ?_) ?_
      · have hcl := cnt_le i (fun u => decide (ctog T x u = 2))
        have hol : oth T x i ≤ 7 := Nat.le_trans (cnt_le _ _) hn
        have hot := oth_t T (u := i) hx
        rw [xs_186_24, MT_11 hM, if_pos ((nI_ltI (by omega) (by omega)).mpr hi), xs_186_28, if_pos (by rw [h2])]
        simp (disch := first | assumption | omega | decide | exact vp_in_nI (by omega) (by omega) | exact and1_bN _ | (simp only [pk_mul, nI_add, pred_s]; exact vp_in_nI (by omega) (by omega))) only [xs_186_32, m_others hM hx hi, Option.toList_some, Option.toList_none, List.cons_append, List.nil_append, List.append_nil, xs_186_36, Bool.false_eq_true, nI_add, pk_mul, nI_ltI, nI_eq, z_eq, z_lt, z_gt, z_bN, bN_z, bN_p, bN_i1, nI_clamp, rng_nI, ↓reduceIte, if_true, if_false, not_true_eq_false, not_false_eq_true, true_and, and_true, and_self, false_and, and_false, xs_186_38, xs_186_40, xs_186_41]
        rw [cnt_s] at h
        by_cases e : ctog T x i = 2
        · rw [bN_t (by simpa using e)] at h
          rw [if_pos (hot.mp e)]
          exact h
        · rw [bN_f (by simpa using e)] at h
          rw [if_neg (fun h => e (hot.mpr h))]
          exact h
      · rw [xs_186_24, MT_11 hM]
        simp (disch := first | assumption | omega | decide | exact vp_in_nI (by omega) (by omega) | exact and1_bN _ | (simp only [pk_mul, nI_add, pred_s]; exact vp_in_nI (by omega) (by omega))) only [Bool.false_eq_true, nI_add, pk_mul, nI_ltI, nI_eq, z_eq, z_lt, z_gt, z_bN, bN_z, bN_p, bN_i1, nI_clamp, rng_nI, ↓reduceIte, if_true, if_false, not_true_eq_false, not_false_eq_true, true_and, and_true, and_self, false_and, and_false, Nat.lt_irrefl]
        rw [xs_186_45]
        rfl
    · rw [if_neg h2]
      refine up_0 (P := fun i => xr scr (d + 20) xc_186 24 [some (.ref 58), some (.int (nI x)), some (.int (nI k)), some (.int (nI 0)), some (.int (nI i))] [] (wS, I, J, wP t dr G) Q = xr scr (d + 20) xc_186 47 [some (.ref 58), some (.int (nI x)), some (.int (nI k)), some (.int (nI 0)), some (.int (nI 0))] [] (wS, I, J, wP t dr G) Q) (tH T) (fun i hi h => ?_) ?_
      · rw [xs_186_24, MT_11 hM, if_pos ((nI_ltI (by omega) (by omega)).mpr hi), xs_186_28, if_neg (fun e => h2 ((nI_eq (by omega) (by omega)).mp e)), xs_186_40, xs_186_41, nI_add, nI_add, Nat.add_zero]
        exact h
      · rw [xs_186_24, MT_11 hM]
        simp (disch := first | assumption | omega | decide | exact vp_in_nI (by omega) (by omega) | exact and1_bN _ | (simp only [pk_mul, nI_add, pred_s]; exact vp_in_nI (by omega) (by omega))) only [Bool.false_eq_true, nI_add, pk_mul, nI_ltI, nI_eq, z_eq, z_lt, z_gt, z_bN, bN_z, bN_p, bN_i1, nI_clamp, rng_nI, ↓reduceIte, if_true, if_false, not_true_eq_false, not_false_eq_true, true_and, and_true, and_self, false_and, and_false, Nat.lt_irrefl]
        rw [xs_186_45]
  have hpl : prs T x ≤ 5 := Nat.le_trans (cnt_le _ _) hh5
  rw [l1]
  by_cases h2 : k = 2
  · have h5 : ¬ k = 5 := by omega
    rw [if_pos h2, if_pos h2, l2 _ hpl (fun h => absurd h h5), if_neg h5]
  · rw [if_neg h2, if_neg h2, l2 0 (by decide) (fun _ => rfl)]
theorem k_mark (H : INV I J t dr G T v bk pre ss) {x y : Int32} : xr scr (d + 20) xc_49 0 [some (.ref 0), some (.int x), some (.int y)] [] (wS, I, J, wP t dr G) (AN scr (d + 20) xc_186 [some (.ref 58), some (.int x), some (.int y), none, none]) := by
  have ht := H.1.1
  have hT := H.1.2.2.2.1
  have hM := H.1.2.2.2.2.1
  have hn := TR_n hT.1
  have hh5 := TR_h hT.1
  have hD := H.2.2.2.1
  by_cases hx : rng x (tN T) = true
  · obtain ⟨x, hx1, rfl⟩ := rng_of hx (by omega)
    have h10 : ¬ nI 1 = 0 := by decide
    rw [xs_49_0 ht, c_isOne ht hT.1]
    simp (disch := first | assumption | omega | decide | exact vp_in_nI (by omega) (by omega) | exact and1_bN _ | (simp only [pk_mul, nI_add, pred_s]; exact vp_in_nI (by omega) (by omega))) only [Option.toList_some, Option.toList_none, List.cons_append, List.nil_append, List.append_nil, xs_49_4, Bool.false_eq_true, nI_add, pk_mul, nI_ltI, nI_eq, z_eq, z_lt, z_gt, z_bN, bN_z, bN_p, bN_i1, nI_clamp, rng_nI, ↓reduceIte, if_true, if_false, not_true_eq_false, not_false_eq_true, true_and, and_true, and_self, false_and, and_false, hx1]
    rw [xs_49_5]
    by_cases hy : ¬ y < nI 1 ∧ ¬ nI 5 < y
    · obtain ⟨k, hk, rfl⟩ : ∃ k, (1 ≤ k ∧ k ≤ 5) ∧ y = nI k := by
        have h0 : ¬ y < 0 := fun e => hy.1 (by
          have e0 : (0 : Int32).toInt = 0 := by decide
          have e1 : (nI 1).toInt = 1 := by decide
          rw [Int32.lt_iff_toInt_lt] at e ⊢
          omega)
        obtain ⟨k, hk31, rfl⟩ := nI_of h0
        have a1 := hy.1
        have a2 := hy.2
        rw [nI_ltI hk31 (by decide)] at a1
        rw [nI_ltI (by decide) hk31] at a2
        exact ⟨k, ⟨by omega, by omega⟩, rfl⟩
      have hk6 : k < 6 := by omega
      rw [if_neg hy.1, xs_49_8, if_neg hy.2, xs_49_13 ht, c_isOfKind (d := d + 17) ht hT.1 hx1 hk6]
      simp (disch := first | assumption | omega | decide | exact vp_in_nI (by omega) (by omega) | exact and1_bN _ | (simp only [pk_mul, nI_add, pred_s]; exact vp_in_nI (by omega) (by omega))) only [Option.toList_some, Option.toList_none, List.cons_append, List.nil_append, List.append_nil]
      rw [xs_49_18]
      have mhead : ∀ (I1 : Nat → Nat → Int32) (Q : Option Value → xi_S → Prop), MT I1 T → xr scr (d + 20) xc_186 0 [some (.ref 58), some (.int (nI x)), some (.int (nI k)), none, none] [] (wS, I1, J, wP t dr G) Q = xr scr (d + 20) xc_186 15 [some (.ref 58), some (.int (nI x)), some (.int (nI k)), none, none] [.int (nI (bN (isA T x k)))] (wS, I1, J, wP t dr G) Q := fun I1 Q m1 => by
        have hy2 : (¬ nI k < nI 1 ∧ ¬ nI 5 < nI k) = True := eq_true hy
        simp (disch := first | assumption | omega | decide | exact vp_in_nI (by omega) (by omega) | exact and1_bN _ | (simp only [pk_mul, nI_add, pred_s]; exact vp_in_nI (by omega) (by omega))) only [xs_186_0, m_isOne m1, Option.toList_some, Option.toList_none, List.cons_append, List.nil_append, List.append_nil, xs_186_3, Bool.false_eq_true, nI_add, pk_mul, nI_ltI, nI_eq, z_eq, z_lt, z_gt, z_bN, bN_z, bN_p, bN_i1, nI_clamp, rng_nI, ↓reduceIte, if_true, if_false, not_true_eq_false, not_false_eq_true, true_and, and_true, and_self, false_and, and_false, hx1, xs_186_4, m_in, xs_186_8]
        rw [if_neg (fun e => e ⟨by omega, by omega⟩), xs_186_11, m_isA (d := d + 18) m1 hx1 hk6]
        simp (disch := first | assumption | omega | decide | exact vp_in_nI (by omega) (by omega) | exact and1_bN _ | (simp only [pk_mul, nI_add, pred_s]; exact vp_in_nI (by omega) (by omega))) only [Option.toList_some, Option.toList_none, List.cons_append, List.nil_append, List.append_nil]
      by_cases hA : isA T x k
      · rw [bN_t hA, if_neg h10]
        have mref : ∀ z : Int32, xr scr (d + 20) xc_186 68 [some (.ref 58), some (.int (nI x)), some (.int (nI k)), some (.int (nI (if k = 2 then prs T x else if k = 5 then knd T 4 else 0))), some (.int (nI (tN T)))] [] (wS, I, J, wP t dr G) (fun r2 S2 => r2 = some (.int z) ∧ PST S2) → AN scr (d + 20) xc_186 [some (.ref 58), some (.int (nI x)), some (.int (nI k)), none, none] (some (.int z)) (wS, I, J, wP t dr G) := fun z h => by
          refine AN_i ?_
          rw [mhead I _ hM, bN_t hA, xs_186_15, if_neg h10, m_markL hM hx1 hk6]
          exact h
        have hkc : k = 1 ∨ k = 2 ∨ k = 3 ∨ k = 4 ∨ k = 5 := by omega
        rcases hkc with rfl | rfl | rfl | rfl | rfl
        · rw [ts_49_1, xs_49_25]
          refine mref _ ?_
          rw [ts_186_1, xs_186_70]
          first | exact PST_i H | exact ⟨trivial, PST_i H⟩ | exact ⟨rfl, PST_i H⟩
        · rw [ts_49_2, xs_49_27 ht, c_hoursInPair (d := d + 16) ht hT.1 hx1]
          simp (disch := first | assumption | omega | decide | exact vp_in_nI (by omega) (by omega) | exact and1_bN _ | (simp only [pk_mul, nI_add, pred_s]; exact vp_in_nI (by omega) (by omega))) only [Option.toList_some, Option.toList_none, List.cons_append, List.nil_append, List.append_nil]
          rw [xs_49_31]
          refine mref _ ?_
          rw [ts_186_2, xs_186_89, if_pos rfl]
          first | exact PST_i H | exact ⟨trivial, PST_i H⟩ | exact ⟨rfl, PST_i H⟩
        · rw [ts_49_3, xs_49_32 ht, hD.2.2.1, c_limitOf (d := d + 17) ht hT.1 hx1]
          simp (disch := first | assumption | omega | decide | exact vp_in_nI (by omega) (by omega) | exact and1_bN _ | (simp only [pk_mul, nI_add, pred_s]; exact vp_in_nI (by omega) (by omega))) only [Option.toList_some, Option.toList_none, List.cons_append, List.nil_append, List.append_nil]
          rw [xs_49_39]
          refine mref _ ?_
          rw [ts_186_3, xs_186_72, m_mostOf (d := d + 18) hM hD.2.2.2.1.1 hx1]
          simp (disch := first | assumption | omega | decide | exact vp_in_nI (by omega) (by omega) | exact and1_bN _ | (simp only [pk_mul, nI_add, pred_s]; exact vp_in_nI (by omega) (by omega))) only [Option.toList_some, Option.toList_none, List.cons_append, List.nil_append, List.append_nil]
          rw [xs_186_75]
          first | exact PST_i H | exact ⟨trivial, PST_i H⟩ | exact ⟨rfl, PST_i H⟩
        · rw [ts_49_4, xs_49_40 ht, TR_1 hT.1]
          by_cases h1 : 1 < tN T
          · rw [if_pos ((nI_ltI (by omega) (by omega)).mpr h1), xs_49_45 ht, c_nextTo ht hT.1 hx1]
            simp (disch := first | assumption | omega | decide | exact vp_in_nI (by omega) (by omega) | exact and1_bN _ | (simp only [pk_mul, nI_add, pred_s]; exact vp_in_nI (by omega) (by omega))) only [Option.toList_some, Option.toList_none, List.cons_append, List.nil_append, List.append_nil]
            rw [xs_49_49, xs_49_51]
            refine mref _ ?_
            have hne : ¬ nI (tN T) = nI 1 := fun e => by
              have := (nI_eq (by omega) (by omega)).mp e
              omega
            rw [ts_186_4, xs_186_76, MT_10 hM, if_neg hne, xs_186_82 (by rw [MT_10 hM]; exact nI_ne0 (by omega) (by omega)), MT_10 hM, nI_add, pk_rem (by omega) (by omega) (by omega), nxt_m T hx1, xs_186_88]
            first | exact PST_i H | exact ⟨trivial, PST_i H⟩ | exact ⟨rfl, PST_i H⟩
          · have e1 : tN T = 1 := by omega
            rw [e1, if_neg (by decide), xs_49_50, xs_49_51]
            rw [e1] at mref
            refine mref _ ?_
            have e10 : I 58 10 = nI 1 := by rw [MT_10 hM, e1]
            rw [ts_186_4, xs_186_76, e10, if_pos rfl, xs_186_80, xs_186_88]
            first | exact PST_i H | exact ⟨trivial, PST_i H⟩ | exact ⟨rfl, PST_i H⟩
        · rw [ts_49_5, xs_49_52 ht, c_countKind (d := d + 16) ht hT.1 (by decide)]
          simp (disch := first | assumption | omega | decide | exact vp_in_nI (by omega) (by omega) | exact and1_bN _ | (simp only [pk_mul, nI_add, pred_s]; exact vp_in_nI (by omega) (by omega))) only [Option.toList_some, Option.toList_none, List.cons_append, List.nil_append, List.append_nil]
          rw [xs_49_56]
          refine mref _ ?_
          rw [ts_186_5, xs_186_89, if_neg (by decide), if_pos rfl]
          first | exact PST_i H | exact ⟨trivial, PST_i H⟩ | exact ⟨rfl, PST_i H⟩
      · rw [bN_f hA, if_pos nI_0]
        simp (disch := first | assumption | omega | decide | exact vp_in_nI (by omega) (by omega) | exact and1_bN _ | (simp only [pk_mul, nI_add, pred_s]; exact vp_in_nI (by omega) (by omega))) only [xs_49_19, c_found one3 three5, Option.toList_some, Option.toList_none, List.cons_append, List.nil_append, List.append_nil, xs_49_22]
        refine AN_i ?_
        obtain ⟨m1, m2, m3⟩ := INV_m (I3 := fnd I 3) H (fun k a b => fnd_fr a b)
        rw [mhead (fnd I 3) _ m1, bN_f hA, xs_186_15, if_pos nI_0]
        simp (disch := first | assumption | omega | decide | exact vp_in_nI (by omega) (by omega) | exact and1_bN _ | (simp only [pk_mul, nI_add, pred_s]; exact vp_in_nI (by omega) (by omega))) only [xs_186_16, m_meet three5, Option.toList_some, Option.toList_none, List.cons_append, List.nil_append, List.append_nil, xs_186_19]
        exact ⟨trivial, PST_i (fnd_inv (by decide) H)⟩
    · have mbad : AN scr (d + 20) xc_186 [some (.ref 58), some (.int (nI x)), some (.int y), none, none] (some (.int (-1))) (wS, I, J, wP t dr G) := by
        refine AN_i ?_
        simp (disch := first | assumption | omega | decide | exact vp_in_nI (by omega) (by omega) | exact and1_bN _ | (simp only [pk_mul, nI_add, pred_s]; exact vp_in_nI (by omega) (by omega))) only [xs_186_0, m_isOne hM, Option.toList_some, Option.toList_none, List.cons_append, List.nil_append, List.append_nil, xs_186_3, Bool.false_eq_true, nI_add, pk_mul, nI_ltI, nI_eq, z_eq, z_lt, z_gt, z_bN, bN_z, bN_p, bN_i1, nI_clamp, rng_nI, ↓reduceIte, if_true, if_false, not_true_eq_false, not_false_eq_true, true_and, and_true, and_self, false_and, and_false, hx1, xs_186_4, m_in, xs_186_8]
        rw [if_pos hy, xs_186_9]
        first | exact PST_i H | exact ⟨trivial, PST_i H⟩ | exact ⟨rfl, PST_i H⟩
      by_cases h1 : y < nI 1
      · rw [if_pos h1, xs_49_11]
        exact mbad
      · have h2 : nI 5 < y := by
          by_cases e : nI 5 < y
          · exact e
          · exact absurd ⟨h1, e⟩ hy
        rw [if_neg h1, xs_49_8, if_pos h2, xs_49_11]
        exact mbad
  · rw [xs_49_0 ht, c_isOne ht hT.1]
    simp (disch := first | assumption | omega | decide | exact vp_in_nI (by omega) (by omega) | exact and1_bN _ | (simp only [pk_mul, nI_add, pred_s]; exact vp_in_nI (by omega) (by omega))) only [Option.toList_some, Option.toList_none, List.cons_append, List.nil_append, List.append_nil, xs_49_4, Bool.false_eq_true, nI_add, pk_mul, nI_ltI, nI_eq, z_eq, z_lt, z_gt, z_bN, bN_z, bN_p, bN_i1, nI_clamp, rng_nI, ↓reduceIte, if_true, if_false, not_true_eq_false, not_false_eq_true, true_and, and_true, and_self, false_and, and_false, hx, xs_49_11]
    refine AN_i ?_
    simp (disch := first | assumption | omega | decide | exact vp_in_nI (by omega) (by omega) | exact and1_bN _ | (simp only [pk_mul, nI_add, pred_s]; exact vp_in_nI (by omega) (by omega))) only [xs_186_0, m_isOne hM, Option.toList_some, Option.toList_none, List.cons_append, List.nil_append, List.append_nil, xs_186_3, Bool.false_eq_true, nI_add, pk_mul, nI_ltI, nI_eq, z_eq, z_lt, z_gt, z_bN, bN_z, bN_p, bN_i1, nI_clamp, rng_nI, ↓reduceIte, if_true, if_false, not_true_eq_false, not_false_eq_true, true_and, and_true, and_self, false_and, and_false, hx, xs_186_9]
    first | exact PST_i H | exact ⟨trivial, PST_i H⟩ | exact ⟨rfl, PST_i H⟩
end MARK
