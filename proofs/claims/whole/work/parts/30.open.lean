/-! what is open in an HOUR, the trimming, preparing, tallies -/
def brB (bk : Bool) (pre : List Nat) (y : Nat) : Bool := bk && decide (1 < pre.length) && decide (pre.getD (pre.length - 2) 0 = y)
section OPEN
variable {scr : xi_X} {d : Nat} {Q : Option Value → xi_S → Prop} {I : Nat → Nat → Int32} {J : Nat → Nat → Int64} {t dr : Nat} {G : Nat → Nat} {w : Nat} {T : TN} {v : Nat} {bk fo : Bool} {C : Nat → Nat → Bool} {pre : List Nat}
theorem c_barredIn (hw : wk w) (hn : tN T ≤ 7) (W : WK I w T v bk fo C pre) (hin : inP (tN T) pre) {u : Nat} (hu : pre.length = u + 1) (hu6 : u < 6) : xr scr d xc_68 0 [some (.ref w), some (.int (nI u))] [] (wS, I, J, wP t dr G) Q = Q (some (.int (nI (bs (tN T) (brB bk pre))))) (wS, I, J, wP t dr G) := by
  obtain ⟨w0, w4, w5, w12, w3, wC⟩ := W
  cases bk with
  | false =>
    have e : bs (tN T) (brB false pre) = 0 := bs_z.mpr (fun x _ => rfl)
    simp (disch := first | assumption | omega | decide | exact vp_in_nI (by omega) (by omega) | exact and1_bN _ | (simp only [pk_mul, nI_add, pred_s]; exact vp_in_nI (by omega) (by omega))) only [xs_68_0, xs_68_3, xs_68_6, xs_68_9, xs_68_18, xs_68_19, w4, e, nI_add, pk_mul, nI_ltI, nI_eq, z_eq, z_lt, z_gt, z_bN, bN_z, bN_p, nI_clamp, rng_nI, ↓reduceIte, if_true, if_false, not_true_eq_false, not_false_eq_true, true_and, and_true, and_self, false_and, and_false, Bool.false_eq_true]
  | true =>
    cases u with
    | zero =>
      have e : bs (tN T) (brB true pre) = 0 := bs_z.mpr (fun x _ => by simp [brB, hu])
      simp (disch := first | assumption | omega | decide | exact vp_in_nI (by omega) (by omega) | exact and1_bN _ | (simp only [pk_mul, nI_add, pred_s]; exact vp_in_nI (by omega) (by omega))) only [xs_68_0, xs_68_3, xs_68_6, xs_68_9, xs_68_18, xs_68_19, w4, e, nI_add, pk_mul, nI_ltI, nI_eq, z_eq, z_lt, z_gt, z_bN, bN_z, bN_p, nI_clamp, rng_nI, ↓reduceIte, if_true, if_false, not_true_eq_false, not_false_eq_true, true_and, and_true, and_self, false_and, and_false, Nat.zero_lt_one]
    | succ u =>
      have hz : pre.getD u 0 < tN T := inP_get hin (by omega)
      have h3 := w3 u (by omega)
      have e : bs (tN T) (brB true pre) = 2 ^ pre.getD u 0 := by
        rw [bs_one hz]
        refine bs_c (fun x _ => ?_)
        unfold brB
        rw [hu, show u + 1 + 1 - 2 = u by omega]
        by_cases hx : x = pre.getD u 0
        · rw [← hx]; simp
        · have h2 : ¬ pre.getD u 0 = x := fun e => hx e.symm
          have h4 : (x == pre.getD u 0) = false := by simpa using hx
          rw [h4, decide_eq_false h2]
          simp
      have h6 : u + 1 < 6 := hu6
      have h7 : ¬ u + 1 < 1 := by omega
      simp (disch := first | assumption | omega | decide | exact vp_in_nI (by omega) (by omega) | exact and1_bN _ | (simp only [pk_mul, nI_add, pred_s]; exact vp_in_nI (by omega) (by omega))) only [xs_68_0, xs_68_3, xs_68_6, xs_68_9, xs_68_18, xs_68_19, w4, e, nI_add, pk_mul, nI_ltI, nI_eq, z_eq, z_lt, z_gt, z_bN, bN_z, bN_p, nI_clamp, rng_nI, ↓reduceIte, if_true, if_false, not_true_eq_false, not_false_eq_true, true_and, and_true, and_self, false_and, and_false, h6, h7, pred_s, h3, sb_one]
theorem c_openIn (hw : wk w) (ht : tw t) (hG : G w = t) (hT : TT I t T) (W : WK I w T v bk fo C pre) (hin : inP (tN T) pre) {u : Nat} (hu : pre.length = u + 1) (hh : u < tH T) : xr scr (d + 1) xc_67 0 [some (.ref w), some (.int (nI u))] [] (wS, I, J, wP t dr G) Q = Q (some (.int (nI (bs (tN T) (okB T v bk pre))))) (wS, I, J, wP t dr G) := by
  have hn := TR_n hT.1
  have hh5 := TR_h hT.1
  have htG : tw (G w) := by rw [hG]; exact ht
  have hTG : TT I (G w) T := by rw [hG]; exact hT
  have hz : pre.getD u 0 < tN T := inP_get hin (by omega)
  have hb := fun (Q2 : Option Value → xi_S → Prop) => c_barredIn (scr := scr) (d := d) (Q := Q2) (J := J) (t := t) (dr := dr) (G := G) hw hn W hin hu (by omega)
  obtain ⟨w0, w4, w5, w12, w3, wC⟩ := W
  have h3 := w3 u (by omega)
  simp (disch := first | assumption | omega | decide | exact vp_in_nI (by omega) (by omega) | exact and1_bN _ | (simp only [pk_mul, nI_add, pred_s]; exact vp_in_nI (by omega) (by omega))) only [xs_67_0, xs_67_4, xs_67_5, xs_67_7, xs_67_15, xs_67_18, c_isHour htG hTG.1, Option.toList_some, Option.toList_none, List.cons_append, List.nil_append, List.append_nil, nI_add, pk_mul, nI_ltI, nI_eq, z_eq, z_lt, z_gt, z_bN, bN_z, bN_p, nI_clamp, rng_nI, ↓reduceIte, if_true, if_false, not_true_eq_false, not_false_eq_true, true_and, and_true, and_self, false_and, and_false, hh, h3, c_takersOf htG hTG hz hh, hb, w5, mset, sb_not]
  congr 4
  refine bs_c (fun y hy => ?_)
  unfold okB brB
  rw [hu, show u + 1 - 1 = u by omega]
  by_cases h : pre.count y < lim T v y
  · have h2 : ¬ lim T v y ≤ pre.count y := by omega
    rw [decide_eq_true h, decide_eq_false h2]
    simp
  · have h2 : lim T v y ≤ pre.count y := by omega
    rw [decide_eq_false h, decide_eq_true h2]
    simp
theorem c_openIn_m (hw : wk w) (ht : tw t) (hG : G w = t) (hT : TT I t T) : xr scr (d + 1) xc_67 0 [some (.ref w), some (.int (nI (tH T)))] [] (wS, I, J, wP t dr G) Q = Q (some (.int (nI 0))) (wS, I, J, wP t dr G) := by
  have hh5 := TR_h hT.1
  have htG : tw (G w) := by rw [hG]; exact ht
  have hTG : TT I (G w) T := by rw [hG]; exact hT
  simp (disch := first | assumption | omega | decide | exact vp_in_nI (by omega) (by omega) | exact and1_bN _ | (simp only [pk_mul, nI_add, pred_s]; exact vp_in_nI (by omega) (by omega))) only [xs_67_0, xs_67_4, xs_67_5, xs_67_7, xs_67_15, xs_67_18, c_isHour htG hTG.1, Option.toList_some, Option.toList_none, List.cons_append, List.nil_append, List.append_nil, nI_add, pk_mul, nI_ltI, nI_eq, z_eq, z_lt, z_gt, z_bN, bN_z, bN_p, nI_clamp, rng_nI, ↓reduceIte, if_true, if_false, not_true_eq_false, not_false_eq_true, true_and, and_true, and_self, false_and, and_false, Nat.lt_irrefl]
theorem c_against (hw : wk w) (ht : tw t) (hG : G w = t) (hT : TT I t T) (W : WK I w T v bk fo C pre) (hin : inP (tN T) pre) {u y : Nat} (hu : pre.length = u + 1) (hh : u < tH T) (hy : y < tN T) : xr scr (d + 1) xc_92 0 [some (.ref w), some (.int (nI u)), some (.int (nI y))] [] (wS, I, J, wP t dr G) Q = Q (some (.int (nI (agn T v bk pre y)))) (wS, I, J, wP t dr G) := by
  have hn := TR_n hT.1
  have hh5 := TR_h hT.1
  have htG : tw (G w) := by rw [hG]; exact ht
  have hTG : TT I (G w) T := by rw [hG]; exact hT
  have hz : pre.getD u 0 < tN T := inP_get hin (by omega)
  have hb := fun (Q2 : Option Value → xi_S → Prop) => c_barredIn (scr := scr) (d := d) (Q := Q2) (J := J) (t := t) (dr := dr) (G := G) hw hn W hin hu (by omega)
  obtain ⟨w0, w4, w5, w12, w3, wC⟩ := W
  have h3 := w3 u (by omega)
  have hy8 : y < 8 := by omega
  simp (disch := first | assumption | omega | decide | exact vp_in_nI (by omega) (by omega) | exact and1_bN _ | (simp only [pk_mul, nI_add, pred_s]; exact vp_in_nI (by omega) (by omega))) only [xs_92_0, xs_92_4, xs_92_5, xs_92_13, xs_92_18, xs_92_20, xs_92_23, xs_92_28, xs_92_30, xs_92_37, xs_92_39, xs_92_40, c_isHour htG hTG.1, Option.toList_some, Option.toList_none, List.cons_append, List.nil_append, List.append_nil, nI_add, pk_mul, nI_ltI, nI_eq, z_eq, z_lt, z_gt, z_bN, bN_z, bN_p, nI_clamp, rng_nI, ↓reduceIte, if_true, if_false, not_true_eq_false, not_false_eq_true, true_and, and_true, and_self, false_and, and_false, hh, h3, c_takersOf htG hTG hz hh, hb, w5, mset, sb_t, hy, hy8]
  unfold agn
  rw [hu, show u + 1 - 1 = u by omega]
  have e2 : brB bk pre y = (bk && decide (1 < u + 1) && decide (pre.getD (u + 1 - 2) 0 = y)) := by unfold brB; rw [hu]
  rw [← e2]
  by_cases h1 : mayB T (pre.getD u 0) y u = true
  · by_cases h2 : brB bk pre y = true
    · simp only [h1, h2, not_true_eq_false, ↓reduceIte]
    · by_cases h4 : pre.count y < lim T v y
      · have h5 : ¬ lim T v y ≤ pre.count y := by omega
        simp only [h1, h2, h4, h5, decide_false, Bool.false_eq_true, not_true_eq_false, not_false_eq_true, ↓reduceIte]
      · have h5 : lim T v y ≤ pre.count y := by omega
        simp only [h1, h2, h4, h5, decide_true, Bool.false_eq_true, not_true_eq_false, not_false_eq_true, ↓reduceIte]
  · simp only [h1, not_false_eq_true, ↓reduceIte, Bool.false_eq_true]
theorem c_trim (hw : wk w) (ht : tw t) (hG : G w = t) (hT : TT I t T) (W : WK I w T v bk fo C pre) (hq : ∀ I2 : Nat → Nat → Int32, (∀ k, k ≠ w + 4 → I2 k = I k) → WK I2 w T v bk fo (acB T C) pre → Q none (wS, I2, J, wP t dr G)) : xr scr (d + 2) xc_78 0 [some (.ref w), none] [] (wS, I, J, wP t dr G) Q := by
  have hn := TR_n hT.1
  have hh5 := TR_h hT.1
  have hw' : w = 32 ∨ w = 38 := hw
  have ht' : t = 15 ∨ t = 20 := ht
  have htG : tw (G w) := by rw [hG]; exact ht
  obtain ⟨w0, w4, w5, w12, w3, wC⟩ := W
  have key : ∀ k, k ≤ tH T → ∀ I2 : Nat → Nat → Int32, (∀ k, k ≠ w + 4 → I2 k = I k) → (∀ i, i ≤ tH T → I2 (w + 4) i = nI (bs (tN T) (if k ≤ i then acB T C i else C i))) → xr scr (d + 2) xc_78 6 [some (.ref w), some (.int (nI k - nI 1))] [] (wS, I2, J, wP t dr G) Q := by
    intro k
    induction k with
    | zero =>
      intro _ I2 hf hc
      simp (disch := first | assumption | omega | decide | exact vp_in_nI (by omega) (by omega) | exact and1_bN _ | (simp only [pk_mul, nI_add, pred_s]; exact vp_in_nI (by omega) (by omega))) only [xs_78_6, xs_78_28, pred_0, ↓reduceIte]
      refine hq I2 hf ⟨by rw [hf w (by omega)]; exact w0, by rw [hf w (by omega)]; exact w4, by rw [hf w (by omega)]; exact w5, ?_, by rw [hf (w + 3) (by omega)]; exact w3, fun i hi => ?_⟩
      · rw [hf (w + 1) (by omega), hf (w + 2) (by omega)]
        exact w12
      · rw [hc i hi, if_pos (Nat.zero_le _)]
    | succ k ih =>
      intro hk I2 hf hc
      have hT2 : TT I2 (G w) T := by
        rw [hG]
        exact TT_fr hT (hf _ (by omega)) (hf _ (by omega)) (hf _ (by omega)) (hf _ (by omega)) (hf _ (by omega))
      have a1 := hc (k + 1) hk
      have a2 := hc k (by omega)
      rw [if_pos (Nat.le_refl _)] at a1
      rw [if_neg (by omega)] at a2
      rw [pred_s, xs_78_6]
      simp (disch := first | assumption | omega | decide | exact vp_in_nI (by omega) (by omega) | exact and1_bN _ | (simp only [pk_mul, nI_add, pred_s]; exact vp_in_nI (by omega) (by omega))) only [xs_78_8, xs_78_25, nI_add, pk_mul, nI_ltI, nI_eq, z_eq, z_lt, z_gt, z_bN, bN_z, bN_p, nI_clamp, rng_nI, ↓reduceIte, if_true, if_false, not_true_eq_false, not_false_eq_true, true_and, and_true, and_self, false_and, and_false, Option.toList_some, Option.toList_none, List.cons_append, List.nil_append, List.append_nil, a1, a2, c_giversTo htG hT2, add_m1]
      refine ih (by omega) _ (fun j hj => by rw [xu_fr hj, hf j hj]) (fun i hi => ?_)
      rw [xu_at]
      by_cases e : i = k
      · rw [if_pos e, if_pos (by omega), e, show acB T C k = _ from acB_s (by omega)]
      · rw [if_neg e, hc i hi]
        by_cases e2 : k + 1 ≤ i
        · rw [if_pos e2, if_pos (by omega)]
        · rw [if_neg e2, if_neg (by omega)]
  have h0 : I (G w) 0 = nI (tH T) := by rw [hG]; exact TR_0 hT.1
  simp (disch := first | assumption | omega | decide | exact vp_in_nI (by omega) (by omega) | exact and1_bN _ | (simp only [pk_mul, nI_add, pred_s]; exact vp_in_nI (by omega) (by omega))) only [xs_78_0, h0]
  refine key (tH T) (Nat.le_refl _) I (fun _ _ => rfl) (fun i hi => ?_)
  rw [wC i hi]
  by_cases e : tH T ≤ i
  · rw [if_pos e, show i = tH T by omega, acB_h]
  · rw [if_neg e]
end OPEN
