/-! rowsBehind, rowsWith, countAll, countOn -/
section BEHIND
variable {scr : xi_X} {d : Nat} {Q : Option Value → xi_S → Prop} {I : Nat → Nat → Int32} {J : Nat → Nat → Int64} {t dr : Nat} {G : Nat → Nat} {w : Nat} {T : TN} {v : Nat} {bk fo : Bool} {C : Nat → Nat → Bool}
theorem contains_app (pre : List Nat) (x z : Nat) : (pre ++ [x]).contains z = (pre.contains z || z == x) := by
  simp only [List.contains_eq_mem, List.mem_append, List.mem_singleton]
  by_cases a1 : z ∈ pre <;> by_cases a2 : z = x <;> simp [a1, a2]
theorem c_rowsBehind (hw : wk w) (ht : tw t) (hG : G w = t) (hv : v ≤ 5) : ∀ (k : Nat) (pre : List Nat) (I : Nat → Nat → Int32) (tal : Nat → Nat → Nat) (cm sn : Nat → Bool) (Q : Option Value → xi_S → Prop), TT I t T → WK I w T v bk fo C pre → inP (tN T) pre → pre.length + k = tH T → 0 < pre.length → TL I w T tal cm →
    (∀ I2 : Nat → Nat → Int32, RS I I2 w T v bk fo C pre tal cm sn (rws (tN T) (okC T v bk C) (k + 1) pre) → Q (some (.int (nI (tk fo (rws (tN T) (okC T v bk C) (k + 1) pre)).length))) (wS, I2, J, wP t dr G)) →
    xr scr (d + k + 2) xc_80 0 [some (.ref w), some (.int (nI (pre.length - 1))), some (.int (nI (bs (tN T) sn))), none, none, none, none] [] (wS, I, J, wP t dr G) Q
  | k, pre, I, tal, cm, sn, Q, hT, W, hin, hl, h0, hTL, hq => by
    have hn := TR_n hT.1
    have hh5 := TR_h hT.1
    have htG : tw (G w) := by rw [hG]; exact ht
    have g0 : I (G w) 0 = nI (tH T) := by rw [hG]; exact TR_0 hT.1
    obtain ⟨u, hu⟩ : ∃ u, pre.length = u + 1 := ⟨pre.length - 1, by omega⟩
    have hpu : pre.length - 1 = u := by omega
    have hu1 : u < tH T := by omega
    have hu6 : u + 1 < 6 := by omega
    have ho := fun (d : Nat) (Q2 : Option Value → xi_S → Prop) => c_openIn (scr := scr) (d := d) (Q := Q2) (J := J) (t := t) (dr := dr) (G := G) hw ht hG hT W hin hu hu1
    have wC := W.2.2.2.2.2 (u + 1) (by omega)
    have eC : bs (tN T) (fun x => okB T v bk pre x && C (u + 1) x) = bs (tN T) (okC T v bk C pre) := bs_c (fun x _ => by unfold okC; rw [hu])
    rw [hpu]
    cases k with
    | zero =>
      have e1 : u + 1 = tH T := by omega
      rw [e1] at wC eC
      rw [xs_80_0 hw htG, g0]
      simp (disch := first | assumption | omega | decide | exact vp_in_nI (by omega) (by omega) | exact and1_bN _ | (simp only [pk_mul, nI_add, pred_s]; exact vp_in_nI (by omega) (by omega))) only [xs_80_5, xs_80_12, nI_add, pk_mul, nI_ltI, nI_eq, z_eq, z_lt, z_gt, z_bN, bN_z, bN_p, nI_clamp, rng_nI, ↓reduceIte, if_true, if_false, not_true_eq_false, not_false_eq_true, true_and, and_true, and_self, false_and, and_false, hu1, hu6, ho, Option.toList_some, Option.toList_none, List.cons_append, List.nil_append, List.append_nil]
      rw [xs_80_15 hw (by rw [nI_add]; exact vp_in_nI (by omega) (by omega)) htG, g0]
      simp (disch := first | assumption | omega | decide | exact vp_in_nI (by omega) (by omega) | exact and1_bN _ | (simp only [pk_mul, nI_add, pred_s]; exact vp_in_nI (by omega) (by omega))) only [nI_add, pk_mul, nI_ltI, nI_eq, z_eq, z_lt, z_gt, z_bN, bN_z, bN_p, nI_clamp, rng_nI, ↓reduceIte, if_true, if_false, not_true_eq_false, not_false_eq_true, true_and, and_true, and_self, false_and, and_false, wC, sb_and, bs_and, eC, e1, xs_80_30]
      refine c_rowsEnding hw ht hG hT W (by omega) hTL sn (fun I2 hR => ?_)
      simp (disch := first | assumption | omega | decide | exact vp_in_nI (by omega) (by omega) | exact and1_bN _ | (simp only [pk_mul, nI_add, pred_s]; exact vp_in_nI (by omega) (by omega))) only [Option.toList_some, Option.toList_none, List.cons_append, List.nil_append, List.append_nil, xs_80_34]
      exact hq I2 hR
    | succ k =>
      have e1 : ¬ u + 1 = tH T := by omega
      obtain ⟨F, hF⟩ : ∃ F : Nat → List (List Nat), F = rwF (tN T) (okC T v bk C) (k + 1) pre := ⟨_, rfl⟩
      have hFt : ∀ y, okC T v bk C pre y = true → F y = rws (tN T) (okC T v bk C) (k + 1) (pre ++ [y]) := fun y hy => by rw [hF]; exact if_pos hy
      have hFf : ∀ y, ¬ okC T v bk C pre y = true → F y = [] := fun y hy => by rw [hF]; exact if_neg hy
      have hL : rws (tN T) (okC T v bk C) (k + 1 + 1) pre = rwp (tN T) F := by rw [hF]; rfl
      rw [hL] at hq
      have stop : ∀ (x : Nat) (I2 : Nat → Nat → Int32), x ≤ tN T → FrW I I2 w → WK I2 w T v bk fo C pre → TL I2 w T (addT tal pre.length (rwp x F)) (cmG cm sn pre.length (rwp x F)) → (fo = true → rwp x F = []) → rwp (tN T) F = rwp x F → Q (some (.int (nI (rwp x F).length))) (wS, I2, J, wP t dr G) := by
        intro x I2 hx hf W2 hTL2 hfo e
        have ek : tk fo (rwp (tN T) F) = rwp x F := by
          cases fo with
          | false => exact e
          | true => rw [e, hfo rfl]; rfl
        have hq2 := hq I2
        rw [ek] at hq2
        refine hq2 ⟨hf, W2, by rw [ek]; exact hTL2, fun e2 r M hr => ?_⟩
        rw [e, hfo e2] at hr
        cases hr
      rw [xs_80_0 hw htG, g0]
      simp (disch := first | assumption | omega | decide | exact vp_in_nI (by omega) (by omega) | exact and1_bN _ | (simp only [pk_mul, nI_add, pred_s]; exact vp_in_nI (by omega) (by omega))) only [xs_80_5, xs_80_12, nI_add, pk_mul, nI_ltI, nI_eq, z_eq, z_lt, z_gt, z_bN, bN_z, bN_p, nI_clamp, rng_nI, ↓reduceIte, if_true, if_false, not_true_eq_false, not_false_eq_true, true_and, and_true, and_self, false_and, and_false, hu1, hu6, ho, Option.toList_some, Option.toList_none, List.cons_append, List.nil_append, List.append_nil]
      rw [xs_80_15 hw (by rw [nI_add]; exact vp_in_nI (by omega) (by omega)) htG, g0]
      simp (disch := first | assumption | omega | decide | exact vp_in_nI (by omega) (by omega) | exact and1_bN _ | (simp only [pk_mul, nI_add, pred_s]; exact vp_in_nI (by omega) (by omega))) only [nI_add, pk_mul, nI_ltI, nI_eq, z_eq, z_lt, z_gt, z_bN, bN_z, bN_p, nI_clamp, rng_nI, ↓reduceIte, if_true, if_false, not_true_eq_false, not_false_eq_true, true_and, and_true, and_self, false_and, and_false, wC, sb_and, bs_and, eC, e1, xs_80_35]
      refine up_0 (P := fun x => ∀ (I2 : Nat → Nat → Int32) (o6 : Option Value), FrW I I2 w → WK I2 w T v bk fo C pre → TL I2 w T (addT tal pre.length (rwp x F)) (cmG cm sn pre.length (rwp x F)) → (fo = true → rwp x F = []) → xr scr (d + (k + 1) + 2) xc_80 39 [some (.ref w), some (.int (nI u)), some (.int (nI (bs (tN T) sn))), some (.int (nI (bs (tN T) (okC T v bk C pre)))), some (.int (nI (rwp x F).length)), some (.int (nI x)), o6] [] (wS, I2, J, wP t dr G) Q) (tN T) (fun x hx h I2 o6 hf W2 hTL2 hfo => ?_) (fun I2 o6 hf W2 hTL2 hfo => ?_) I none (FrW_refl I w) W (by rw [rwp_0, addT_nil, cmG_nil]; exact hTL) (fun _ => rfl)
      · have hT2 := TT_frW hw ht hf hT
        have g1 : I2 (G w) 1 = nI (tN T) := by rw [hG]; exact TR_1 hT2.1
        have hx8 : x < 8 := by omega
        have hb7 : bs (tN T) (okC T v bk C pre) < 128 := bs_lt7 hn _
        rw [xs_80_39 hw htG, g1]
        simp (disch := first | assumption | omega | decide | exact vp_in_nI (by omega) (by omega) | exact and1_bN _ | (simp only [pk_mul, nI_add, pred_s]; exact vp_in_nI (by omega) (by omega))) only [xs_80_44, nI_add, pk_mul, nI_ltI, nI_eq, z_eq, z_lt, z_gt, z_bN, bN_z, bN_p, nI_clamp, rng_nI, ↓reduceIte, if_true, if_false, not_true_eq_false, not_false_eq_true, true_and, and_true, and_self, false_and, and_false, hx, sb_shz]
        by_cases hs : bs (tN T) (okC T v bk C pre) < 2 ^ x
        · simp (disch := first | assumption | omega | decide | exact vp_in_nI (by omega) (by omega) | exact and1_bN _ | (simp only [pk_mul, nI_add, pred_s]; exact vp_in_nI (by omega) (by omega))) only [hs, xs_80_94, nI_add, pk_mul, nI_ltI, nI_eq, z_eq, z_lt, z_gt, z_bN, bN_z, bN_p, nI_clamp, rng_nI, ↓reduceIte, if_true, if_false, not_true_eq_false, not_false_eq_true, true_and, and_true, and_self, false_and, and_false]
          refine stop x I2 (by omega) hf W2 hTL2 hfo (rwp_from (by omega) (fun y h1 h2 => hFf y (fun hy => ?_)))
          have hbit := bs_bit (tN T) (okC T v bk C pre) y
          rw [Nat.testBit_lt_two_pow (Nat.lt_of_lt_of_le hs (Nat.pow_le_pow_right (by decide) h1)), hy] at hbit
          simp [h2] at hbit
        · simp (disch := first | assumption | omega | decide | exact vp_in_nI (by omega) (by omega) | exact and1_bN _ | (simp only [pk_mul, nI_add, pred_s]; exact vp_in_nI (by omega) (by omega))) only [hs, xs_80_48, nI_add, pk_mul, nI_ltI, nI_eq, z_eq, z_lt, z_gt, z_bN, bN_z, bN_p, nI_clamp, rng_nI, ↓reduceIte, if_true, if_false, not_true_eq_false, not_false_eq_true, true_and, and_true, and_self, false_and, and_false, sb_t, hx]
          have w0 := W2.1
          by_cases hb : okC T v bk C pre x = true
          · simp only [hb, not_true_eq_false, ↓reduceIte]
            simp (disch := first | assumption | omega | decide | exact vp_in_nI (by omega) (by omega) | exact and1_bN _ | (simp only [pk_mul, nI_add, pred_s]; exact vp_in_nI (by omega) (by omega))) only [xs_80_54, nI_add, pk_mul, nI_ltI, nI_eq, z_eq, z_lt, z_gt, z_bN, bN_z, bN_p, nI_clamp, rng_nI, ↓reduceIte, if_true, if_false, not_true_eq_false, not_false_eq_true, true_and, and_true, and_self, false_and, and_false]
            rw [show u + 1 = pre.length from hu.symm]
            refine c_take hw ht hG hT2 hv W2 hx (by omega) (fun I3 f3 W3 => ?_)
            have hT3 := TT_frW hw ht (FrT_W f3) hT2
            simp (disch := first | assumption | omega | decide | exact vp_in_nI (by omega) (by omega) | exact and1_bN _ | (simp only [pk_mul, nI_add, pred_s]; exact vp_in_nI (by omega) (by omega))) only [Option.toList_some, Option.toList_none, List.cons_append, List.nil_append, List.append_nil, xs_80_60, nI_add, pk_mul, nI_ltI, nI_eq, z_eq, z_lt, z_gt, z_bN, bN_z, bN_p, nI_clamp, rng_nI, ↓reduceIte, if_true, if_false, not_true_eq_false, not_false_eq_true, true_and, and_true, and_self, false_and, and_false, sb_one, sb_or, bs_one hx, bs_or]
            rw [show nI (u + 1) = nI ((pre ++ [x]).length - 1) by simp [hu], show d + (k + 1) + 1 = d + k + 2 by omega]
            refine c_rowsBehind hw ht hG hv k (pre ++ [x]) I3 _ _ _ _ hT3 W3 (inP_app hin hx) (by simp; omega) (by simp) (TL_frT f3 hTL2) (fun I4 hR => ?_)
            obtain ⟨f4, W4, T4, H4⟩ := hR
            simp (disch := first | assumption | omega | decide | exact vp_in_nI (by omega) (by omega) | exact and1_bN _ | (simp only [pk_mul, nI_add, pred_s]; exact vp_in_nI (by omega) (by omega))) only [Option.toList_some, Option.toList_none, List.cons_append, List.nil_append, List.append_nil, xs_80_70]
            have hT4 := TT_frW hw ht f4 hT3
            refine c_untake hw ht hG hT4 hv hx (by omega) W4 (fun I5 f5 h53 W5 => ?_)
            have hT5 := TT_frW hw ht (FrT_W f5) hT4
            have T5 := TL_frT f5 T4
            obtain ⟨B, hB⟩ : ∃ B, B = tk fo (rws (tN T) (okC T v bk C) (k + 1) (pre ++ [x])) := ⟨_, rfl⟩
            rw [← hB] at T5
            rw [← hB]
            have hBm : ∀ r, r ∈ B → r.getD pre.length 0 = x := fun r hr => by
              rw [hB] at hr
              obtain ⟨e, he, -, -⟩ := rws_pre _ _ _ (tk_mem hr)
              rw [he, getD_appE (by simp), getD_last]
            have hBd : ∀ r, r ∈ B → r.drop pre.length = x :: r.drop (pre.length + 1) := fun r hr => by
              rw [hB] at hr
              obtain ⟨e, he, -, -⟩ := rws_pre _ _ _ (tk_mem hr)
              rw [he, List.append_assoc, List.drop_left, show pre.length + 1 = pre.length + ([x] : List Nat).length from rfl, ← List.drop_drop, List.drop_left]
              rfl
            have hFx : F x = rws (tN T) (okC T v bk C) (k + 1) (pre ++ [x]) := hFt x hb
            have t5 := T5.1 pre.length (by omega) x hx
            rw [show (pre ++ [x]).length = pre.length + 1 by simp] at T5 t5
            have t5' : addT (addT tal pre.length (rwp x F)) (pre.length + 1) B pre.length x = addT tal pre.length (rwp x F) pre.length x := by
              rw [addT, if_neg (by omega), Nat.add_zero]
            rw [t5'] at t5
            simp (disch := first | assumption | omega | decide | exact vp_in_nI (by omega) (by omega) | exact and1_bN _ | (simp only [pk_mul, nI_add, pred_s]; exact vp_in_nI (by omega) (by omega))) only [Option.toList_some, Option.toList_none, List.cons_append, List.nil_append, List.append_nil, xs_80_74, nI_add, pk_mul, nI_ltI, nI_eq, z_eq, z_lt, z_gt, z_bN, bN_z, bN_p, nI_clamp, rng_nI, ↓reduceIte, if_true, if_false, not_true_eq_false, not_false_eq_true, true_and, and_true, and_self, false_and, and_false]
            rw [show nI (u + 1) = nI pre.length by rw [hu], c_addTo hw ht hG hT5 (by omega) hx, t5, nI_add]
            obtain ⟨I6, hI6⟩ : ∃ I6 : Nat → Nat → Int32, I6 = xi_up I5 (w + 5) (pre.length * 7 + x) (nI (addT tal pre.length (rwp x F) pre.length x + B.length)) := ⟨_, rfl⟩
            rw [← hI6]
            have f6 : FrW I5 I6 w := ⟨fun k a b c e => by rw [hI6, xu_fr e], fun j a b => by rw [hI6, xu_nc (by omega)]⟩
            have W6 : WK I6 w T v bk fo C pre := WK_frW W5 f6 (by rw [hI6, xu_nc (by omega)]) (by rw [hI6, xu_fr (by omega)]) (fun i hi => by rw [hI6, xu_nc (by omega)])
            have fA : FrW I I6 w := FrW_trans (FrW_trans (FrW_trans (FrW_trans hf (FrT_W f3)) f4) (FrT_W f5)) f6
            have T6 : TL I6 w T (addT tal pre.length (rwp x F ++ B)) (cmG cm sn pre.length (rwp x F ++ B)) := ⟨fun i hi z hz => by
              rw [← addT_up hBm i z, hI6, xu_at]
              by_cases e : i = pre.length ∧ z = x
              · rw [if_pos e, if_pos (by rw [e.1, e.2]), e.1, e.2, t5']
              · rw [if_neg e, if_neg (by omega), T5.1 i hi z hz], by rw [hI6, xu_nc (by omega), T5.2, cmG_up _ _ _ _ _ _ hBd]⟩
            have w60 := W6.1
            simp (disch := first | assumption | omega | decide | exact vp_in_nI (by omega) (by omega) | exact and1_bN _ | (simp only [pk_mul, nI_add, pred_s]; exact vp_in_nI (by omega) (by omega))) only [Option.toList_some, Option.toList_none, List.cons_append, List.nil_append, List.append_nil, xs_80_81, nI_add, pk_mul, nI_ltI, nI_eq, z_eq, z_lt, z_gt, z_bN, bN_z, bN_p, nI_clamp, rng_nI, ↓reduceIte, if_true, if_false, not_true_eq_false, not_false_eq_true, true_and, and_true, and_self, false_and, and_false]
            rw [← List.length_append]
            cases fo with
            | false =>
              have hB2 : B = F x := by rw [hB, hFx]; rfl
              rw [hB2, ← rwp_s] at T6 ⊢
              simp (disch := first | assumption | omega | decide | exact vp_in_nI (by omega) (by omega) | exact and1_bN _ | (simp only [pk_mul, nI_add, pred_s]; exact vp_in_nI (by omega) (by omega))) only [xs_80_85, w60, nI_add, pk_mul, nI_ltI, nI_eq, z_eq, z_lt, z_gt, z_bN, bN_z, bN_p, nI_clamp, rng_nI, ↓reduceIte, if_true, if_false, not_true_eq_false, not_false_eq_true, true_and, and_true, and_self, false_and, and_false, xs_80_92, Bool.false_eq_true]
              exact h I6 _ fA W6 T6 (fun e => by cases e)
            | true =>
              have hA := hfo rfl
              rw [hA, List.nil_append] at T6 ⊢
              have hBl : B.length ≤ 1 := by rw [hB]; exact List.length_take_le 1 _
              simp (disch := first | assumption | omega | decide | exact vp_in_nI (by omega) (by omega) | exact and1_bN _ | (simp only [pk_mul, nI_add, pred_s]; exact vp_in_nI (by omega) (by omega))) only [xs_80_85, w60, nI_add, pk_mul, nI_ltI, nI_eq, z_eq, z_lt, z_gt, z_bN, bN_z, bN_p, nI_clamp, rng_nI, ↓reduceIte, if_true, if_false, not_true_eq_false, not_false_eq_true, true_and, and_true, and_self, false_and, and_false, xs_80_88]
              by_cases hB0 : B = []
              · have hx0 : F x = [] := by rw [hFx]; exact tk_ne (hB.symm.trans hB0)
                have hx1 : rwp (x + 1) F = [] := by rw [rwp_s, hA, hx0]; rfl
                rw [hx1] at h
                rw [hB0] at T6 ⊢
                simp (disch := first | assumption | omega | decide | exact vp_in_nI (by omega) (by omega) | exact and1_bN _ | (simp only [pk_mul, nI_add, pred_s]; exact vp_in_nI (by omega) (by omega))) only [List.length_nil, Nat.lt_irrefl, nI_add, pk_mul, nI_ltI, nI_eq, z_eq, z_lt, z_gt, z_bN, bN_z, bN_p, nI_clamp, rng_nI, ↓reduceIte, if_true, if_false, not_true_eq_false, not_false_eq_true, true_and, and_true, and_self, false_and, and_false, xs_80_92]
                exact h I6 _ fA W6 T6 (fun _ => rfl)
              · have hBp : 0 < B.length := List.length_pos_iff.mpr hB0
                simp (disch := first | assumption | omega | decide | exact vp_in_nI (by omega) (by omega) | exact and1_bN _ | (simp only [pk_mul, nI_add, pred_s]; exact vp_in_nI (by omega) (by omega))) only [hBp, nI_add, pk_mul, nI_ltI, nI_eq, z_eq, z_lt, z_gt, z_bN, bN_z, bN_p, nI_clamp, rng_nI, ↓reduceIte, if_true, if_false, not_true_eq_false, not_false_eq_true, true_and, and_true, and_self, false_and, and_false, xs_80_90]
                have hne : F x ≠ [] := fun e => hB0 (by rw [hB, ← hFx, e]; rfl)
                obtain ⟨M, hM⟩ := rwp_ne hx hne hA
                have ek : tk true (rwp (tN T) F) = B := by
                  rw [hM, hB, hFx]
                  cases hc : rws (tN T) (okC T v bk C) (k + 1) (pre ++ [x]) with
                  | nil => exact absurd (hFx.trans hc) hne
                  | cons r R => rfl
                have hq2 := hq I6
                rw [ek] at hq2
                refine hq2 ⟨fA, W6, by rw [ek]; exact T6, fun _ r M2 hr i hi => ?_⟩
                cases hc : rws (tN T) (okC T v bk C) (k + 1) (pre ++ [x]) with
                | nil => exact absurd (hFx.trans hc) hne
                | cons r2 R2 =>
                  rw [hM, hFx, hc, List.cons_append] at hr
                  rw [← (List.cons.inj hr).1]
                  rw [hI6, xu_nc (by omega), h53]
                  exact H4 rfl r2 R2 hc i hi
          · simp only [hb, Bool.false_eq_true, not_false_eq_true, ↓reduceIte]
            have e : rwp (x + 1) F = rwp x F := by rw [rwp_s, hFf x hb, List.append_nil]
            rw [e] at h
            cases fo with
            | false =>
              simp (disch := first | assumption | omega | decide | exact vp_in_nI (by omega) (by omega) | exact and1_bN _ | (simp only [pk_mul, nI_add, pred_s]; exact vp_in_nI (by omega) (by omega))) only [xs_80_85, w0, nI_add, pk_mul, nI_ltI, nI_eq, z_eq, z_lt, z_gt, z_bN, bN_z, bN_p, nI_clamp, rng_nI, ↓reduceIte, if_true, if_false, not_true_eq_false, not_false_eq_true, true_and, and_true, and_self, false_and, and_false, xs_80_92, Bool.false_eq_true]
              exact h I2 _ hf W2 hTL2 hfo
            | true =>
              have hA := hfo rfl
              rw [hA] at h hTL2 ⊢
              simp (disch := first | assumption | omega | decide | exact vp_in_nI (by omega) (by omega) | exact and1_bN _ | (simp only [pk_mul, nI_add, pred_s]; exact vp_in_nI (by omega) (by omega))) only [xs_80_85, w0, nI_add, pk_mul, nI_ltI, nI_eq, z_eq, z_lt, z_gt, z_bN, bN_z, bN_p, nI_clamp, rng_nI, ↓reduceIte, if_true, if_false, not_true_eq_false, not_false_eq_true, true_and, and_true, and_self, false_and, and_false, xs_80_88, xs_80_92, List.length_nil, Nat.lt_irrefl]
              exact h I2 _ hf W2 hTL2 (fun _ => rfl)
      · have g1 : I2 (G w) 1 = nI (tN T) := by rw [hG]; exact TR_1 (TT_frW hw ht hf hT).1
        rw [xs_80_39 hw htG, g1]
        simp (disch := first | assumption | omega | decide | exact vp_in_nI (by omega) (by omega) | exact and1_bN _ | (simp only [pk_mul, nI_add, pred_s]; exact vp_in_nI (by omega) (by omega))) only [xs_80_94, nI_add, pk_mul, nI_ltI, nI_eq, z_eq, z_lt, z_gt, z_bN, bN_z, bN_p, nI_clamp, rng_nI, ↓reduceIte, if_true, if_false, not_true_eq_false, not_false_eq_true, true_and, and_true, and_self, false_and, and_false, Nat.lt_irrefl]
        exact stop (tN T) I2 (Nat.le_refl _) hf W2 hTL2 hfo rfl
end BEHIND
