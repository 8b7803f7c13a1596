/-! calls: way, least, ends -/
section WAY
variable {scr : xi_X} {d : Nat} {Q : Option Value → xi_S → Prop} {I I2 : Nat → Nat → Int32} {J J2 : Nat → Nat → Int64} {t dr : Nat} {G G2 : Nat → Nat} {T : TN} {v v2 : Nat} {bk bk2 : Bool} {pre pre2 : List Nat} {ss ss2 : List SGT}
theorem IA_fr (h : IA I J) (h0 : I2 0 14 = I 0 14) (h2 : I2 58 2 = I 58 2) : IA I2 J := by
  unfold IA at h ⊢
  rw [h0, h2]
  exact h
theorem k_way (H : INV I J t dr G T v bk pre ss) {x y r : Int32} : xr scr (d + 20) xc_97 0 [some (.ref 0), some (.int x), some (.int y), some (.int r)] [] (wS, I, J, wP t dr G) (AN scr (d + 20) xc_217 [some (.ref 58), some (.int x), some (.int y), some (.int r), none]) := by
  have ht := H.1.1
  have ht' : t = 15 ∨ t = 20 := ht
  have hT := H.1.2.2.2.1
  have hM := H.1.2.2.2.2.1
  have hn := TR_n hT.1
  have hh5 := TR_h hT.1
  have hD := H.2.2.2.1
  by_cases hx : rng x (tN T) = true
  · by_cases hy : rng y (tN T) = true
    · by_cases hr : rng r 6 = true
      · obtain ⟨x, hx1, rfl⟩ := rng_of hx (by omega)
        obtain ⟨y, hy1, rfl⟩ := rng_of hy (by omega)
        obtain ⟨r, hr1, rfl⟩ := rng_of hr (by omega)
        have hcl : (nI r).toNatClampNeg = r := nI_clamp (by omega)
        have hh1 := H.1.2.2.2.2.2 (by omega)
        have hlen := LXY_len (v := v) (bk := bk) hn hh5 x y
        simp (disch := first | assumption | omega | decide | exact vp_in_nI (by omega) (by omega) | exact and1_bN _ | (simp only [pk_mul, nI_add, pred_s]; exact vp_in_nI (by omega) (by omega))) only [xs_97_0, xs_97_4, xs_97_5, xs_97_9, xs_97_10, xs_97_12, c_isOne ht hT.1, c_isRow, Option.toList_some, Option.toList_none, List.cons_append, List.nil_append, List.append_nil, Bool.false_eq_true, nI_add, pk_mul, nI_ltI, nI_eq, z_eq, z_lt, z_gt, z_bN, bN_z, bN_p, bN_i1, nI_clamp, rng_nI, ↓reduceIte, if_true, if_false, not_true_eq_false, not_false_eq_true, true_and, and_true, and_self, false_and, and_false, hx1, hy1, hr1, xs_97_15, hD.2.2.1]
        refine c_findWay (d := d + 9) ht hT hD.1 hD.2.1 hD.2.2.2.2.1 hh1 hx1 hy1 (fun I2 f2 h35 => ?_)
        have H1 := INV_32 H f2
        have hM1 := H1.1.2.2.2.2.1
        have hT1 := H1.1.2.2.2.1
        -- the reference as far as its rows
        have mway : ∀ (I1 : Nat → Nat → Int32) (t1 dr1 : Nat) (G1 : Nat → Nat) (Q : Option Value → xi_S → Prop), MT I1 T → MV I1 v bk → (∀ I3 : Nat → Nat → Int32, FrS I1 I3 → MRS I3 T (LXY T v bk x y) (rws (tN T) (okC T v bk (fun _ _ => true)) (tH T) [x]) → xr scr (d + 20) xc_217 14 [some (.ref 58), some (.int (nI x)), some (.int (nI y)), some (.int (nI r)), none] [] (wS, I3, J, wP t1 dr1 G1) Q) → xr scr (d + 20) xc_217 0 [some (.ref 58), some (.int (nI x)), some (.int (nI y)), some (.int (nI r)), none] [] (wS, I1, J, wP t1 dr1 G1) Q := by
          intro I1 t1 dr1 G1 Q hM1 hV1 hq
          simp (disch := first | assumption | omega | decide | exact vp_in_nI (by omega) (by omega) | exact and1_bN _ | (simp only [pk_mul, nI_add, pred_s]; exact vp_in_nI (by omega) (by omega))) only [xs_217_0, m_areTwo hM1, Option.toList_some, Option.toList_none, List.cons_append, List.nil_append, List.append_nil, xs_217_4, Bool.false_eq_true, nI_add, pk_mul, nI_ltI, nI_eq, z_eq, z_lt, z_gt, z_bN, bN_z, bN_p, bN_i1, nI_clamp, rng_nI, ↓reduceIte, if_true, if_false, not_true_eq_false, not_false_eq_true, true_and, and_true, and_self, false_and, and_false, hx1, hy1, xs_217_5, m_isRow, hr1, xs_217_7, xs_217_10]
          refine m_setRows (d := d + 7) hM1 hV1 hD.2.1 hx1 hy1 (fun I3 f3 R3 => ?_)
          simp (disch := first | assumption | omega | decide | exact vp_in_nI (by omega) (by omega) | exact and1_bN _ | (simp only [pk_mul, nI_add, pred_s]; exact vp_in_nI (by omega) (by omega))) only [Option.toList_some, Option.toList_none, List.cons_append, List.nil_append, List.append_nil]
          exact hq I3 f3 R3
        cases hL : LXY T v bk x y with
        | nil =>
          rw [bN_f (by simp)]
          simp (disch := first | assumption | omega | decide | exact vp_in_nI (by omega) (by omega) | exact and1_bN _ | (simp only [pk_mul, nI_add, pred_s]; exact vp_in_nI (by omega) (by omega))) only [Option.toList_some, Option.toList_none, List.cons_append, List.nil_append, List.append_nil, xs_97_22, nI_0, ↓reduceIte, xs_97_23]
          refine AN_i (mway I2 t dr _ _ hM1 H1.2.2.2.1.2.2.2.1 (fun I3 f3 R3 => ?_))
          have H2 := INV_S H1 f3
          rw [hL] at R3
          simp (disch := first | assumption | omega | decide | exact vp_in_nI (by omega) (by omega) | exact and1_bN _ | (simp only [pk_mul, nI_add, pred_s]; exact vp_in_nI (by omega) (by omega))) only [xs_217_14, R3.1, List.length_nil, nI_0, ↓reduceIte, xs_217_17]
          first | exact PST_i H2 | exact ⟨trivial, PST_i H2⟩ | exact ⟨rfl, PST_i H2⟩
        | cons row M =>
          rw [bN_t (by simp)]
          have hrow : row.length = tH T + 1 := by
            have hmem : row ∈ LXY T v bk x y := by rw [hL]; exact List.mem_cons_self
            obtain ⟨e, he, hel, -⟩ := rws_pre _ _ _ (List.mem_filter.mp hmem).1
            rw [he, List.length_append, hel]
            simp
            omega
          have n41 : tH T + 1 ≤ 40 := by omega
          simp (disch := first | assumption | omega | decide | exact vp_in_nI (by omega) (by omega) | exact and1_bN _ | (simp only [pk_mul, nI_add, pred_s]; exact vp_in_nI (by omega) (by omega))) only [Option.toList_some, Option.toList_none, List.cons_append, List.nil_append, List.append_nil, xs_97_22, Bool.false_eq_true, nI_add, pk_mul, nI_ltI, nI_eq, z_eq, z_lt, z_gt, z_bN, bN_z, bN_p, bN_i1, nI_clamp, rng_nI, ↓reduceIte, if_true, if_false, not_true_eq_false, not_false_eq_true, true_and, and_true, and_self, false_and, and_false, Nat.one_ne_zero, xs_97_25, TR_0 hT1.1]
          refine c_makeRow (d := d + 18) hr1 (fun I4 f4 a4 s4 o4 => ?_)
          simp (disch := first | assumption | omega | decide | exact vp_in_nI (by omega) (by omega) | exact and1_bN _ | (simp only [pk_mul, nI_add, pred_s]; exact vp_in_nI (by omega) (by omega))) only [Option.toList_some, Option.toList_none, List.cons_append, List.nil_append, List.append_nil]
          rw [xs_97_33 (vp_in_nI hr1 (by omega)), hcl]
          have hT4 : TT I4 t T := TT_fr hT1 (f4 _ (by omega) (by omega)) (f4 _ (by omega) (by omega)) (f4 _ (by omega) (by omega)) (f4 _ (by omega) (by omega)) (f4 _ (by omega) (by omega))
          refine c_copyHands (w := 32) (Or.inl rfl) (by omega) ht wU_eq hT4 (fun I5 f5 a5 b5 => ?_)
          simp (disch := first | assumption | omega | decide | exact vp_in_nI (by omega) (by omega) | exact and1_bN _ | (simp only [pk_mul, nI_add, pred_s]; exact vp_in_nI (by omega) (by omega))) only [Option.toList_some, Option.toList_none, List.cons_append, List.nil_append, List.append_nil, xs_97_40]
          have g5 : ∀ k, k ≠ 2 + r → k ≠ 8 → I5 k = I2 k := fun k h1 h2 => by rw [f5 k h1, f4 k h1 h2]
          have i58 : I5 58 = I2 58 := g5 58 (by omega) (by decide)
          have hM5 : MT I5 T := MT_fr hM1 (by rw [i58]) (by rw [i58]) (g5 65 (by omega) (by decide))
          have hV5 : MV I5 v bk := MV_fr H1.2.2.2.1.2.2.2.1 (by rw [i58]) (by rw [i58])
          refine AN_i (mway I5 t dr _ _ hM5 hV5 (fun I6 f6 R6 => ?_))
          rw [hL] at R6 hlen
          have hlen2 : 0 < (row :: M).length := by simp
          have hne : ¬ nI (row :: M).length = 0 := nI_ne0 hlen2 (by omega)
          have hM6 : MT I6 T := MT_fr hM5 (f6.2.1 10 (by decide) (by decide) (by decide) (by decide) (by decide)) (f6.2.1 11 (by decide) (by decide) (by decide) (by decide) (by decide)) (f6.1 65 (by decide) (by decide) (by decide) (by decide) (by decide))
          have z1 : ¬ nI 40 < nI (tH T + 1) := by rw [nI_ltI (by decide) (by omega)]; omega
          have z2 : ¬ nI (tH T + 1) < 0 := nI_pos (by omega)
          rw [xs_217_14, R6.1, if_neg hne]
          simp (disch := first | assumption | omega | decide | exact vp_in_nI (by omega) (by omega) | exact and1_bN _ | (simp only [pk_mul, nI_add, pred_s]; exact vp_in_nI (by omega) (by omega))) only [xs_217_19, MT_11 hM6, Bool.false_eq_true, nI_add, pk_mul, nI_ltI, nI_eq, z_eq, z_lt, z_gt, z_bN, bN_z, bN_p, bN_i1, nI_clamp, rng_nI, ↓reduceIte, if_true, if_false, not_true_eq_false, not_false_eq_true, true_and, and_true, and_self, false_and, and_false, xs_154_0, m_isRow, Option.toList_some, Option.toList_none, List.cons_append, List.nil_append, List.append_nil, xs_154_2, xs_154_3, xs_154_8, hr1, z1, z2]
          have z3 : ¬ 40 < tH T + 1 := by omega
          (try simp (disch := first | assumption | omega | decide | exact vp_in_nI (by omega) (by omega) | exact and1_bN _ | (simp only [pk_mul, nI_add, pred_s]; exact vp_in_nI (by omega) (by omega))) only [z3, ↓reduceIte])
          refine m_rowL (d := d + 18) hr1 (fun I7 f7 a7 b7 s7 o7 => ?_)
          simp (disch := first | assumption | omega | decide | exact vp_in_nI (by omega) (by omega) | exact and1_bN _ | (simp only [pk_mul, nI_add, pred_s]; exact vp_in_nI (by omega) (by omega))) only [Option.toList_some, Option.toList_none, List.cons_append, List.nil_append, List.append_nil, xs_217_26]
          refine up_0 (P := fun z => ∀ I8 : Nat → Nat → Int32, (∀ k, k ≠ 61 → I8 k = I7 k) → (∀ i, i < z → I8 61 (40 * r + i) = nI (row.getD i 0)) → (∀ r2 i, r2 < 6 → i < 40 → ¬ (r2 = r ∧ i < z) → I8 61 (40 * r2 + i) = I7 61 (40 * r2 + i)) → xr scr (d + 20) xc_217 29 [some (.ref 58), some (.int (nI x)), some (.int (nI y)), some (.int (nI r)), some (.int (nI z))] [] (wS, I8, J, wP t dr (wU 32 t G)) (fun r2 S2 => r2 = some (.int (nI 1)) ∧ PST S2)) (tH T + 1) (fun z hz h I8 f8 a8 b8 => ?_) (fun I8 f8 a8 b8 => ?_) I7 (fun _ _ => rfl) (fun i hi => absurd hi (Nat.not_lt_zero _)) (fun _ _ _ _ _ => rfl)
          · have hz40 : z < 40 := by omega
            have e11 : I8 58 11 = nI (tH T) := by rw [f8 58 (by decide), f7 58 (by decide) (by decide), MT_11 hM6]
            have e68 : I8 68 z = nI (row.getD z 0) := by rw [f8 68 (by decide), f7 68 (by decide) (by decide), R6.2.2.2.2.2 row M rfl z (by omega)]
            have hnz : ¬ tH T < z := by omega
            rw [xs_217_29, e11]
            simp (disch := first | assumption | omega | decide | exact vp_in_nI (by omega) (by omega) | exact and1_bN _ | (simp only [pk_mul, nI_add, pred_s]; exact vp_in_nI (by omega) (by omega))) only [Bool.false_eq_true, nI_add, pk_mul, nI_ltI, nI_eq, z_eq, z_lt, z_gt, z_bN, bN_z, bN_p, bN_i1, nI_clamp, rng_nI, ↓reduceIte, if_true, if_false, not_true_eq_false, not_false_eq_true, true_and, and_true, and_self, false_and, and_false, hnz]
            rw [xs_217_33 (vp_in_nI (by omega) (by omega)), nI_clamp (by omega), e68, m_setRow hr1 hz40]
            simp (disch := first | assumption | omega | decide | exact vp_in_nI (by omega) (by omega) | exact and1_bN _ | (simp only [pk_mul, nI_add, pred_s]; exact vp_in_nI (by omega) (by omega))) only [Option.toList_some, Option.toList_none, List.cons_append, List.nil_append, List.append_nil, xs_217_41, Bool.false_eq_true, nI_add, pk_mul, nI_ltI, nI_eq, z_eq, z_lt, z_gt, z_bN, bN_z, bN_p, bN_i1, nI_clamp, rng_nI, ↓reduceIte, if_true, if_false, not_true_eq_false, not_false_eq_true, true_and, and_true, and_self, false_and, and_false]
            refine h _ (fun k hk => by rw [xu_fr hk, f8 k hk]) (fun i hi => ?_) (fun r2 i h1 h2 h3 => ?_)
            · rw [xu_at]
              by_cases e : i = z
              · rw [if_pos (by rw [e]), e]
              · rw [if_neg (by omega), a8 i (by omega)]
            · rw [xu_nj (by omega), b8 r2 i h1 h2 (by omega)]
          · have e11 : I8 58 11 = nI (tH T) := by rw [f8 58 (by decide), f7 58 (by decide) (by decide), MT_11 hM6]
            have hlt : tH T < tH T + 1 := Nat.lt_succ_self _
            rw [xs_217_29, e11]
            simp (disch := first | assumption | omega | decide | exact vp_in_nI (by omega) (by omega) | exact and1_bN _ | (simp only [pk_mul, nI_add, pred_s]; exact vp_in_nI (by omega) (by omega))) only [Bool.false_eq_true, nI_add, pk_mul, nI_ltI, nI_eq, z_eq, z_lt, z_gt, z_bN, bN_z, bN_p, bN_i1, nI_clamp, rng_nI, ↓reduceIte, if_true, if_false, not_true_eq_false, not_false_eq_true, true_and, and_true, and_self, false_and, and_false, hlt, xs_217_43]
            have hS6 := LIV_S f6
            have c8 : ∀ k, k ≠ 61 → k ≠ 60 → I8 k = I6 k := fun k h1 h2 => by rw [f8 k h1, f7 k h2 h1]
            refine PST_i (INV_rows H1 ⟨fun k hk => ?_, fun i3 hi3 => ?_, fun j3 hj3 => ?_, fun j3 hj3 => ?_⟩ ⟨fun r3 hr3 => ?_, fun r3 hr3 i hi => ?_⟩ (IA_fr H1.2.2.2.2.2.2.2.1 ?_ ?_) rfl)
            · rw [c8 k (by omega) (by omega), hS6.1 k (by omega), g5 k (by omega) (by omega)]
            · rw [c8 66 (by decide) (by decide), hS6.2.1 i3 hi3, g5 66 (by omega) (by decide)]
            · rw [c8 58 (by decide) (by decide), hS6.2.2.1 j3 hj3, i58]
            · rw [c8 0 (by decide) (by decide), hS6.2.2.2 j3 hj3, g5 0 (by omega) (by decide)]
            · rw [c8 8 (by decide) (by decide), hS6.1 8 (by omega), f5 8 (by omega), f8 60 (by decide)]
              by_cases e : r3 = r
              · rw [e, s4, s7]
                exact Or.inl ⟨tH T + 1, n41, rfl, rfl⟩
              · rw [o4 r3 e, o7 r3 e, hS6.1 60 (by omega), g5 60 (by omega) (by decide)]
                exact H1.2.1.1 r3 hr3
            · rw [c8 (2 + r3) (by omega) (by omega), hS6.1 (2 + r3) (by omega)]
              by_cases e : r3 = r
              · subst e
                by_cases e2 : i < tH T + 1
                · rw [a8 i e2, a5 i (by omega), f4 (32 + 3) (by omega) (by decide), h35 row M hL i (by omega)]
                · rw [b8 r3 i hr3 hi (by omega), a7 i hi, b5 i (by omega), a4 i hi]
              · rw [b8 r3 i hr3 hi (by omega), b7 r3 i e hi, hS6.1 61 (by omega), g5 61 (by omega) (by decide), f5 (2 + r3) (by omega), f4 (2 + r3) (by omega) (by omega)]
                exact H1.2.1.2 r3 hr3 i hi
            · rw [c8 0 (by decide) (by decide), f6.1 0 (by decide) (by decide) (by decide) (by decide) (by decide), g5 0 (by omega) (by decide)]
            · rw [c8 58 (by decide) (by decide), f6.2.1 2 (by decide) (by decide) (by decide) (by decide) (by decide), i58]
      · simp (disch := first | assumption | omega | decide | exact vp_in_nI (by omega) (by omega) | exact and1_bN _ | (simp only [pk_mul, nI_add, pred_s]; exact vp_in_nI (by omega) (by omega))) only [xs_97_0, xs_97_4, xs_97_5, xs_97_9, xs_97_10, xs_97_12, xs_97_13, c_isOne ht hT.1, c_isRow, Option.toList_some, Option.toList_none, List.cons_append, List.nil_append, List.append_nil, Bool.false_eq_true, nI_add, pk_mul, nI_ltI, nI_eq, z_eq, z_lt, z_gt, z_bN, bN_z, bN_p, bN_i1, nI_clamp, rng_nI, ↓reduceIte, if_true, if_false, not_true_eq_false, not_false_eq_true, true_and, and_true, and_self, false_and, and_false, hx, hy, hr]
        refine AN_i ?_
        simp (disch := first | assumption | omega | decide | exact vp_in_nI (by omega) (by omega) | exact and1_bN _ | (simp only [pk_mul, nI_add, pred_s]; exact vp_in_nI (by omega) (by omega))) only [xs_217_0, xs_217_4, xs_217_5, xs_217_7, xs_217_8, m_areTwo hM, m_isRow, Option.toList_some, Option.toList_none, List.cons_append, List.nil_append, List.append_nil, Bool.false_eq_true, nI_add, pk_mul, nI_ltI, nI_eq, z_eq, z_lt, z_gt, z_bN, bN_z, bN_p, bN_i1, nI_clamp, rng_nI, ↓reduceIte, if_true, if_false, not_true_eq_false, not_false_eq_true, true_and, and_true, and_self, false_and, and_false, hx, hy, hr]
        first | exact PST_i H | exact ⟨trivial, PST_i H⟩ | exact ⟨rfl, PST_i H⟩
    · simp (disch := first | assumption | omega | decide | exact vp_in_nI (by omega) (by omega) | exact and1_bN _ | (simp only [pk_mul, nI_add, pred_s]; exact vp_in_nI (by omega) (by omega))) only [xs_97_0, xs_97_4, xs_97_5, xs_97_9, xs_97_13, c_isOne ht hT.1, Option.toList_some, Option.toList_none, List.cons_append, List.nil_append, List.append_nil, Bool.false_eq_true, nI_add, pk_mul, nI_ltI, nI_eq, z_eq, z_lt, z_gt, z_bN, bN_z, bN_p, bN_i1, nI_clamp, rng_nI, ↓reduceIte, if_true, if_false, not_true_eq_false, not_false_eq_true, true_and, and_true, and_self, false_and, and_false, hx, hy]
      refine AN_i ?_
      simp (disch := first | assumption | omega | decide | exact vp_in_nI (by omega) (by omega) | exact and1_bN _ | (simp only [pk_mul, nI_add, pred_s]; exact vp_in_nI (by omega) (by omega))) only [xs_217_0, xs_217_4, xs_217_8, m_areTwo hM, Option.toList_some, Option.toList_none, List.cons_append, List.nil_append, List.append_nil, Bool.false_eq_true, nI_add, pk_mul, nI_ltI, nI_eq, z_eq, z_lt, z_gt, z_bN, bN_z, bN_p, bN_i1, nI_clamp, rng_nI, ↓reduceIte, if_true, if_false, not_true_eq_false, not_false_eq_true, true_and, and_true, and_self, false_and, and_false, hx, hy]
      first | exact PST_i H | exact ⟨trivial, PST_i H⟩ | exact ⟨rfl, PST_i H⟩
  · simp (disch := first | assumption | omega | decide | exact vp_in_nI (by omega) (by omega) | exact and1_bN _ | (simp only [pk_mul, nI_add, pred_s]; exact vp_in_nI (by omega) (by omega))) only [xs_97_0, xs_97_4, xs_97_13, c_isOne ht hT.1, Option.toList_some, Option.toList_none, List.cons_append, List.nil_append, List.append_nil, Bool.false_eq_true, nI_add, pk_mul, nI_ltI, nI_eq, z_eq, z_lt, z_gt, z_bN, bN_z, bN_p, bN_i1, nI_clamp, rng_nI, ↓reduceIte, if_true, if_false, not_true_eq_false, not_false_eq_true, true_and, and_true, and_self, false_and, and_false, hx]
    refine AN_i ?_
    simp (disch := first | assumption | omega | decide | exact vp_in_nI (by omega) (by omega) | exact and1_bN _ | (simp only [pk_mul, nI_add, pred_s]; exact vp_in_nI (by omega) (by omega))) only [xs_217_0, xs_217_4, xs_217_8, m_areTwo hM, Option.toList_some, Option.toList_none, List.cons_append, List.nil_append, List.append_nil, Bool.false_eq_true, nI_add, pk_mul, nI_ltI, nI_eq, z_eq, z_lt, z_gt, z_bN, bN_z, bN_p, bN_i1, nI_clamp, rng_nI, ↓reduceIte, if_true, if_false, not_true_eq_false, not_false_eq_true, true_and, and_true, and_self, false_and, and_false, hx]
    first | exact PST_i H | exact ⟨trivial, PST_i H⟩ | exact ⟨rfl, PST_i H⟩
end WAY
