/-! prepare, narrow, follow, copyHands -/
section PREP
variable {scr : xi_X} {d : Nat} {Q : Option Value → xi_S → Prop} {I : Nat → Nat → Int32} {J : Nat → Nat → Int64} {t dr : Nat} {G : Nat → Nat} {w : Nat} {T : TN} {v : Nat} {bk fo : Bool} {C : Nat → Nat → Bool} {pre : List Nat} {tal : Nat → Nat → Nat} {cm : Nat → Bool}
theorem c_limitOf_out {a : Nat} (ht : tw a) (hT : TR I a T) {x v : Nat} (hx : tN T ≤ x) (hx7 : x < 7) : xr scr (d + 2) xc_46 0 [some (.ref a), some (.int (nI x)), some (.int (nI v)), none] [] (wS, I, J, wP t dr G) Q = Q (some (.int (nI v))) (wS, I, J, wP t dr G) := by
  have hn := TR_n hT
  have hnx : ¬ x < tN T := by omega
  have h06 : 0 < 6 := by decide
  have h00 : ¬ nI 0 < 0 := by decide
  have hx0 : xi_extra 0 = nI 0 := by decide
  simp (disch := first | assumption | omega | decide | exact vp_in_nI (by omega) (by omega) | exact and1_bN _ | (simp only [pk_mul, nI_add, pred_s]; exact vp_in_nI (by omega) (by omega))) only [xs_46_0, xs_46_3, xs_46_6, xs_46_10, xs_46_16, xs_46_17, xs_36_0, xs_36_3, xs_36_4, xs_36_9, xs_36_10, c_isOne ht hT, Option.toList_some, Option.toList_none, List.cons_append, List.nil_append, List.append_nil, nI_add, pk_mul, nI_ltI, nI_eq, z_eq, z_lt, z_gt, z_bN, bN_z, bN_p, nI_clamp, rng_nI, ↓reduceIte, if_true, if_false, not_true_eq_false, not_false_eq_true, true_and, and_true, and_self, false_and, and_false, hnx, h00, h06, hx0, Nat.add_zero]
theorem c_prepare (hw : wk w) (ht : tw t) (hT : TT I t T) (hv1 : 1 ≤ v) (hv : v ≤ 5)
    (hq : ∀ I2 : Nat → Nat → Int32, FrA I I2 w → WK I2 w T v bk false (fun _ _ => true) [] → TL I2 w T (fun _ _ => 0) (fun _ => true) → I2 w 1 = nI 0 → Q none (wS, I2, J, wP t dr (wU w t G))) :
    xr scr (d + 4) xc_63 0 [some (.ref w), some (.ref t), some (.int (nI v)), some (.int (nI (bN (bk = true)))), none] [] (wS, I, J, wP t dr G) Q := by
  have hn := TR_n hT.1
  have hh5 := TR_h hT.1
  have hw' : w = 32 ∨ w = 38 := hw
  have ht' : t = 15 ∨ t = 20 := ht
  obtain ⟨G2, hG2⟩ : ∃ G2, G2 = wU w t G := ⟨_, rfl⟩
  have hGw : G2 w = t := by rw [hG2]; exact wU_eq
  have htG : tw (G2 w) := by rw [hGw]; exact ht
  -- behind the head
  have rest : xr scr (d + 4) xc_63 9 [some (.ref w), some (.ref t), some (.int (nI v)), some (.int (nI (bN (bk = true)))), none] [.int (nI (bN (bk = true))), .ref w] (wS, I, J, wP t dr G2) Q := by
    have hTG : TR I (G2 w) T := by rw [hGw]; exact hT.1
    have hTG2 : TR (xi_up (xi_up (xi_up I w 4 (nI (bN (bk = true)))) w 0 (nI 0)) w 1 (nI 0)) (G2 w) T := by
      rw [hGw]
      exact TR_fr hT.1 (by rw [xu_fr (by omega), xu_fr (by omega), xu_fr (by omega)]) (by rw [xu_fr (by omega), xu_fr (by omega), xu_fr (by omega)]) (by rw [xu_fr (by omega), xu_fr (by omega), xu_fr (by omega)]) (by rw [xu_fr (by omega), xu_fr (by omega), xu_fr (by omega)])
    simp (disch := first | assumption | omega | decide | exact vp_in_nI (by omega) (by omega) | exact and1_bN _ | (simp only [pk_mul, nI_add, pred_s]; exact vp_in_nI (by omega) (by omega))) only [xs_63_9, xs_63_20, c_everyone htG hTG2, Option.toList_some, Option.toList_none, List.cons_append, List.nil_append, List.append_nil, and1_bN]
    obtain ⟨I1, hI1⟩ : ∃ I1 : Nat → Nat → Int32, I1 = xi_up (xi_up (xi_up (xi_up (xi_up I w 4 (nI (bN (bk = true)))) w 0 (nI 0)) w 1 (nI 0)) w 2 (nI (bs (tN T) (fun _ => true)))) w 5 (nI 0) := ⟨_, rfl⟩
    rw [← hI1]
    have f1 : ∀ k, k ≠ w → I1 k = I k := fun k hk => by rw [hI1, xu_fr hk, xu_fr hk, xu_fr hk, xu_fr hk, xu_fr hk]
    have s0 : I1 w 0 = nI 0 := by rw [hI1]; simp [xi_up]
    have s1 : I1 w 1 = nI 0 := by rw [hI1]; simp [xi_up]
    have s2 : I1 w 2 = nI (bs (tN T) (fun _ => true)) := by rw [hI1]; simp [xi_up]
    have s4 : I1 w 4 = nI (bN (bk = true)) := by rw [hI1]; simp [xi_up]
    have s5 : I1 w 5 = nI 0 := by rw [hI1]; simp [xi_up]
    refine up_0 (P := fun x => ∀ I2 : Nat → Nat → Int32, (∀ k, k ≠ w + 1 → k ≠ w + 2 → I2 k = I1 k) → (∀ z, z < x → z < tN T → I2 (w + 1) z = nI (lim T v z) ∧ I2 (w + 2) z = nI 0) → xr scr (d + 4) xc_63 26 [some (.ref w), some (.ref t), some (.int (nI v)), some (.int (nI (bN (bk = true)))), some (.int (nI x))] [] (wS, I2, J, wP t dr G2) Q) 7 (fun x hx h I2 f2 h2 => ?_) (fun I2 f2 h2 => ?_) I1 (fun _ _ _ => rfl) (fun z hz => absurd hz (Nat.not_lt_zero _))
    · have hT2 : TR I2 (G2 w) T := by
        rw [hGw]
        exact TR_fr hT.1 (by rw [f2 _ (by omega) (by omega), f1 _ (by omega)]) (by rw [f2 _ (by omega) (by omega), f1 _ (by omega)]) (by rw [f2 _ (by omega) (by omega), f1 _ (by omega)]) (by rw [f2 _ (by omega) (by omega), f1 _ (by omega)])
      rw [xs_63_26]
      simp (disch := first | assumption | omega | decide | exact vp_in_nI (by omega) (by omega) | exact and1_bN _ | (simp only [pk_mul, nI_add, pred_s]; exact vp_in_nI (by omega) (by omega))) only [nI_add, pk_mul, nI_ltI, nI_eq, z_eq, z_lt, z_gt, z_bN, bN_z, bN_p, nI_clamp, rng_nI, ↓reduceIte, if_true, if_false, not_true_eq_false, not_false_eq_true, true_and, and_true, and_self, false_and, and_false, hx]
      rw [xs_63_29 hw htG]
      have fin : ∀ l : Nat, (x < tN T → l = lim T v x) → xr scr (d + 3 + 1) xc_63 37 [some (.ref w), some (.ref t), some (.int (nI v)), some (.int (nI (bN (bk = true)))), some (.int (nI x))] [.int (nI l), .int (nI x), .ref (w + 1)] (wS, I2, J, wP t dr G2) Q := by
        intro l hl
        simp (disch := first | assumption | omega | decide | exact vp_in_nI (by omega) (by omega) | exact and1_bN _ | (simp only [pk_mul, nI_add, pred_s]; exact vp_in_nI (by omega) (by omega))) only [xs_63_37, nI_add, pk_mul, nI_ltI, nI_eq, z_eq, z_lt, z_gt, z_bN, bN_z, bN_p, nI_clamp, rng_nI, ↓reduceIte, if_true, if_false, not_true_eq_false, not_false_eq_true, true_and, and_true, and_self, false_and, and_false]
        refine h _ (fun k a b => by rw [xu_fr b, xu_fr a, f2 k a b]) (fun z hz hzn => ?_)
        rw [xu_nc (by omega), xu_at, xu_at, xu_nc (by omega)]
        by_cases e : z = x
        · rw [if_pos e, if_pos e, hl (e ▸ hzn), e]
          exact ⟨rfl, rfl⟩
        · rw [if_neg e, if_neg e]
          exact h2 z (by omega) hzn
      by_cases hxn : x < tN T
      · simp (disch := first | assumption | omega | decide | exact vp_in_nI (by omega) (by omega) | exact and1_bN _ | (simp only [pk_mul, nI_add, pred_s]; exact vp_in_nI (by omega) (by omega))) only [c_limitOf htG hT2 hxn, Option.toList_some, Option.toList_none, List.cons_append, List.nil_append, List.append_nil]
        exact fin _ (fun _ => rfl)
      · have hxn2 : tN T ≤ x := by omega
        simp (disch := first | assumption | omega | decide | exact vp_in_nI (by omega) (by omega) | exact and1_bN _ | (simp only [pk_mul, nI_add, pred_s]; exact vp_in_nI (by omega) (by omega))) only [c_limitOf_out htG hT2 hxn2, Option.toList_some, Option.toList_none, List.cons_append, List.nil_append, List.append_nil]
        exact fin _ (fun h => absurd h hxn)
    · have hT2 : TR I2 (G2 w) T := by
        rw [hGw]
        exact TR_fr hT.1 (by rw [f2 _ (by omega) (by omega), f1 _ (by omega)]) (by rw [f2 _ (by omega) (by omega), f1 _ (by omega)]) (by rw [f2 _ (by omega) (by omega), f1 _ (by omega)]) (by rw [f2 _ (by omega) (by omega), f1 _ (by omega)])
      rw [xs_63_26]
      simp (disch := first | assumption | omega | decide | exact vp_in_nI (by omega) (by omega) | exact and1_bN _ | (simp only [pk_mul, nI_add, pred_s]; exact vp_in_nI (by omega) (by omega))) only [nI_add, pk_mul, nI_ltI, nI_eq, z_eq, z_lt, z_gt, z_bN, bN_z, bN_p, nI_clamp, rng_nI, ↓reduceIte, if_true, if_false, not_true_eq_false, not_false_eq_true, true_and, and_true, and_self, false_and, and_false, Nat.lt_irrefl]
      rw [xs_63_45 hw htG]
      simp (disch := first | assumption | omega | decide | exact vp_in_nI (by omega) (by omega) | exact and1_bN _ | (simp only [pk_mul, nI_add, pred_s]; exact vp_in_nI (by omega) (by omega))) only [c_everyone htG hT2, Option.toList_some, Option.toList_none, List.cons_append, List.nil_append, List.append_nil]
      rw [xs_63_50 hw, c_fill (wk_s9 hw) (by omega)]
      simp (disch := first | assumption | omega | decide | exact vp_in_nI (by omega) (by omega) | exact and1_bN _ | (simp only [pk_mul, nI_add, pred_s]; exact vp_in_nI (by omega) (by omega))) only [Option.toList_some, Option.toList_none, List.cons_append, List.nil_append, List.append_nil]
      rw [xs_63_51 hw, c_fill (wk_s10 hw) (by omega)]
      simp (disch := first | assumption | omega | decide | exact vp_in_nI (by omega) (by omega) | exact and1_bN _ | (simp only [pk_mul, nI_add, pred_s]; exact vp_in_nI (by omega) (by omega))) only [Option.toList_some, Option.toList_none, List.cons_append, List.nil_append, List.append_nil, xs_63_55]
      rw [hG2]
      have g : ∀ k, k ≠ w + 1 → k ≠ w + 2 → k ≠ w + 4 → k ≠ w + 5 → (xi_ua (xi_ua I2 (w + 4) (fun j => if j < 6 then nI (bs (tN T) (fun _ => true)) else I2 (w + 4) j)) (w + 5) (fun j => if j < 42 then nI 0 else xi_ua I2 (w + 4) (fun j => if j < 6 then nI (bs (tN T) (fun _ => true)) else I2 (w + 4) j) (w + 5) j)) k = I1 k := fun k a b c e => by rw [xa_fr e, xa_fr c, f2 k a b]
      refine hq _ (fun k hk => by rw [g k (by omega) (by omega) (by omega) (by omega), f1 k (by omega)]) ⟨?_, ?_, ?_, fun x hx => ?_, fun i hi => absurd hi (Nat.not_lt_zero _), fun i hi => ?_⟩ ⟨fun i hi x hx => ?_, ?_⟩ ?_
      · rw [g w (by omega) (by omega) (by omega) (by omega), s0]; rfl
      · rw [g w (by omega) (by omega) (by omega) (by omega), s4]
      · rw [g w (by omega) (by omega) (by omega) (by omega), s5]
        congr 1
        refine (bs_z.mpr (fun x _ => ?_)).symm
        have : ¬ lim T v x ≤ ([] : List Nat).count x := by
          rw [List.count_nil]
          unfold lim
          omega
        exact decide_eq_false this
      · rw [xa_fr (by omega), xa_fr (by omega), xa_fr (by omega), xa_fr (by omega)]
        exact h2 x (by omega) hx
      · rw [xa_fr (by omega), xa_eq, if_pos (by omega)]
      · rw [xa_eq, if_pos (by omega)]
      · rw [g w (by omega) (by omega) (by omega) (by omega), s2]
      · rw [g w (by omega) (by omega) (by omega) (by omega), s1]
  rw [xs_63_0 hw ht, ← hG2]
  cases bk with
  | false =>
    simp (disch := first | assumption | omega | decide | exact vp_in_nI (by omega) (by omega) | exact and1_bN _ | (simp only [pk_mul, nI_add, pred_s]; exact vp_in_nI (by omega) (by omega))) only [xs_63_8, nI_add, pk_mul, nI_ltI, nI_eq, z_eq, z_lt, z_gt, z_bN, bN_z, bN_p, nI_clamp, rng_nI, ↓reduceIte, if_true, if_false, not_true_eq_false, not_false_eq_true, true_and, and_true, and_self, false_and, and_false, Bool.false_eq_true]
    exact rest
  | true =>
    simp (disch := first | assumption | omega | decide | exact vp_in_nI (by omega) (by omega) | exact and1_bN _ | (simp only [pk_mul, nI_add, pred_s]; exact vp_in_nI (by omega) (by omega))) only [xs_63_6, nI_add, pk_mul, nI_ltI, nI_eq, z_eq, z_lt, z_gt, z_bN, bN_z, bN_p, nI_clamp, rng_nI, ↓reduceIte, if_true, if_false, not_true_eq_false, not_false_eq_true, true_and, and_true, and_self, false_and, and_false]
    exact rest
theorem c_narrow (hw : wk w) (W : WK I w T v bk fo C pre) {i : Nat} (hi : i ≤ tH T) (hh : tH T ≤ 5) {b : Int32} {c : Nat → Bool} (hb : nI (bs (tN T) (C i)) &&& b = nI (bs (tN T) c)) (hq : ∀ I2 : Nat → Nat → Int32, (∀ k, k ≠ w + 4 → I2 k = I k) → WK I2 w T v bk fo (fun i2 => if i2 = i then c else C i2) pre → Q none (wS, I2, J, wP t dr G)) : xr scr d xc_95 0 [some (.ref w), some (.int (nI i)), some (.int b)] [] (wS, I, J, wP t dr G) Q := by
  obtain ⟨w0, w4, w5, w12, w3, wC⟩ := W
  have hi6 : i < 6 := by omega
  have hc := wC i hi
  simp (disch := first | assumption | omega | decide | exact vp_in_nI (by omega) (by omega) | exact and1_bN _ | (simp only [pk_mul, nI_add, pred_s]; exact vp_in_nI (by omega) (by omega))) only [xs_95_0, xs_95_2, xs_95_5, xs_95_13, nI_add, pk_mul, nI_ltI, nI_eq, z_eq, z_lt, z_gt, z_bN, bN_z, bN_p, nI_clamp, rng_nI, ↓reduceIte, if_true, if_false, not_true_eq_false, not_false_eq_true, true_and, and_true, and_self, false_and, and_false, hi6, hc, hb]
  refine hq _ (fun k hk => by rw [xu_fr hk]) ⟨by rw [xu_fr (by omega)]; exact w0, by rw [xu_fr (by omega)]; exact w4, by rw [xu_fr (by omega)]; exact w5, ?_, by rw [xu_fr (by omega)]; exact w3, fun i2 hi2 => ?_⟩
  · rw [xu_fr (by omega), xu_fr (by omega)]; exact w12
  · rw [xu_at]
    by_cases e : i2 = i
    · show (if i2 = i then nI (bs (tN T) c) else I (w + 4) i2) = nI (bs (tN T) (if i2 = i then c else C i2))
      rw [if_pos e, if_pos e]
    · show (if i2 = i then nI (bs (tN T) c) else I (w + 4) i2) = nI (bs (tN T) (if i2 = i then c else C i2))
      rw [if_neg e, if_neg e]; exact wC i2 hi2
theorem take_s {pre : List Nat} {x : Nat} (hx : x < pre.length) : pre.take (x + 1) = pre.take x ++ [pre.getD x 0] := by
  rw [List.take_succ, List.getD_eq_getElem?_getD, List.getElem?_eq_getElem hx]
  rfl
theorem c_follow {a : Nat} (hw : wk w) (ha : dy a) (ht : tw t) (hG : G w = t) (hT : TT I t T) (hv : v ≤ 5) (W : WK I w T v bk fo C []) (hin : inP (tN T) pre) {u : Nat} (hu : pre.length = u + 1) (hh : u ≤ tH T) (h2 : I a 2 = nI u) (hd : ∀ i, i < pre.length → I (a + 1) i = nI (pre.getD i 0)) (hq : ∀ I2 : Nat → Nat → Int32, FrT I I2 w → WK I2 w T v bk fo C pre → Q none (wS, I2, J, wP t dr G)) : xr scr (d + 2) xc_65 0 [some (.ref w), some (.ref a), none] [] (wS, I, J, wP t dr G) Q := by
  have hh5 := TR_h hT.1
  have hw' : w = 32 ∨ w = 38 := hw
  have ha' : a = 25 ∨ a = 52 ∨ a = 54 ∨ a = 56 := ha
  rw [xs_65_0]
  refine up_0 (P := fun x => ∀ I2 : Nat → Nat → Int32, FrT I I2 w → WK I2 w T v bk fo C (pre.take x) → xr scr (d + 2) xc_65 2 [some (.ref w), some (.ref a), some (.int (nI x))] [] (wS, I2, J, wP t dr G) Q) (u + 1) (fun x hx h I2 f2 W2 => ?_) (fun I2 f2 W2 => ?_) I (FrT_refl I w) W
  · have hT2 := TT_frW hw ht (FrT_W f2) hT
    have e2 : I2 a 2 = nI u := by rw [f2.1 a (by omega) (by omega) (by omega), h2]
    have e3 : I2 (a + 1) x = nI (pre.getD x 0) := by rw [f2.1 (a + 1) (by omega) (by omega) (by omega), hd x (by omega)]
    have hx6 : x < 6 := by omega
    have hux : ¬ u < x := by omega
    have hlx : (pre.take x).length = x := by rw [List.length_take]; omega
    rw [xs_65_2 ha, e2]
    simp (disch := first | assumption | omega | decide | exact vp_in_nI (by omega) (by omega) | exact and1_bN _ | (simp only [pk_mul, nI_add, pred_s]; exact vp_in_nI (by omega) (by omega))) only [nI_add, pk_mul, nI_ltI, nI_eq, z_eq, z_lt, z_gt, z_bN, bN_z, bN_p, nI_clamp, rng_nI, ↓reduceIte, if_true, if_false, not_true_eq_false, not_false_eq_true, true_and, and_true, and_self, false_and, and_false, hux, xs_65_6, hx6, xs_65_9, e3]
    have ct := fun Q2 => c_take (scr := scr) (d := d) (J := J) (dr := dr) (Q := Q2) hw ht hG hT2 hv W2 (inP_get hin (by omega : x < pre.length)) (by omega)
    rw [hlx] at ct
    refine ct _ (fun I3 f3 W3 => ?_)
    simp (disch := first | assumption | omega | decide | exact vp_in_nI (by omega) (by omega) | exact and1_bN _ | (simp only [pk_mul, nI_add, pred_s]; exact vp_in_nI (by omega) (by omega))) only [Option.toList_some, Option.toList_none, List.cons_append, List.nil_append, List.append_nil, xs_65_16, nI_add, pk_mul, nI_ltI, nI_eq, z_eq, z_lt, z_gt, z_bN, bN_z, bN_p, nI_clamp, rng_nI, ↓reduceIte, if_true, if_false, not_true_eq_false, not_false_eq_true, true_and, and_true, and_self, false_and, and_false]
    refine h I3 (FrT_trans f2 f3) ?_
    rw [take_s (by omega)]
    exact W3
  · have e2 : I2 a 2 = nI u := by rw [f2.1 a (by omega) (by omega) (by omega), h2]
    have hux : u < u + 1 := by omega
    rw [xs_65_2 ha, e2]
    simp (disch := first | assumption | omega | decide | exact vp_in_nI (by omega) (by omega) | exact and1_bN _ | (simp only [pk_mul, nI_add, pred_s]; exact vp_in_nI (by omega) (by omega))) only [nI_add, pk_mul, nI_ltI, nI_eq, z_eq, z_lt, z_gt, z_bN, bN_z, bN_p, nI_clamp, rng_nI, ↓reduceIte, if_true, if_false, not_true_eq_false, not_false_eq_true, true_and, and_true, and_self, false_and, and_false, hux, xs_65_18]
    refine hq I2 f2 ?_
    rw [List.take_of_length_le (by omega)] at W2
    exact W2
theorem c_copyHands {a : Nat} (hw : wk w) (ha : rwc a) (ht : tw t) (hG : G w = t) (hT : TT I t T) (hq : ∀ I2 : Nat → Nat → Int32, (∀ k, k ≠ a → I2 k = I k) → (∀ i, i ≤ tH T → I2 a i = I (w + 3) i) → (∀ i, tH T < i → I2 a i = I a i) → Q none (wS, I2, J, wP t dr G)) : xr scr d xc_99 0 [some (.ref w), some (.ref a), none] [] (wS, I, J, wP t dr G) Q := by
  have hh5 := TR_h hT.1
  have hw' : w = 32 ∨ w = 38 := hw
  have ht' : t = 15 ∨ t = 20 := ht
  have ha' : 2 ≤ a ∧ a ≤ 7 := ha
  have htG : tw (G w) := by rw [hG]; exact ht
  rw [xs_99_0]
  refine up_0 (P := fun x => ∀ I2 : Nat → Nat → Int32, (∀ k, k ≠ a → I2 k = I k) → (∀ i, i < x → I2 a i = I (w + 3) i) → (∀ i, x ≤ i → I2 a i = I a i) → xr scr d xc_99 2 [some (.ref w), some (.ref a), some (.int (nI x))] [] (wS, I2, J, wP t dr G) Q) (tH T + 1) (fun x hx h I2 f2 h2 h3 => ?_) (fun I2 f2 h2 h3 => ?_) I (fun _ _ => rfl) (fun i hi => absurd hi (Nat.not_lt_zero _)) (fun _ _ => rfl)
  · have g0 : I2 (G w) 0 = nI (tH T) := by rw [hG, f2 t (by omega)]; exact TR_0 hT.1
    have a1 : ¬ tH T < x := by omega
    have a2 : x < 6 := by omega
    have a3 : x < 40 := by omega
    rw [xs_99_2 hw htG, g0]
    simp (disch := first | assumption | omega | decide | exact vp_in_nI (by omega) (by omega) | exact and1_bN _ | (simp only [pk_mul, nI_add, pred_s]; exact vp_in_nI (by omega) (by omega))) only [nI_add, pk_mul, nI_ltI, nI_eq, z_eq, z_lt, z_gt, z_bN, bN_z, bN_p, nI_clamp, rng_nI, ↓reduceIte, if_true, if_false, not_true_eq_false, not_false_eq_true, true_and, and_true, and_self, false_and, and_false, a1, a2, a3, xs_99_7, xs_99_10, xs_99_14]
    refine h _ (fun k hk => by rw [xu_fr hk, f2 k hk]) (fun i hi => ?_) (fun i hi => ?_)
    · rw [xu_at, f2 (w + 3) (by omega)]
      by_cases e : i = x
      · rw [if_pos e, e]
      · rw [if_neg e, h2 i (by omega)]
    · rw [xu_at, if_neg (by omega), h3 i (by omega)]
  · have g0 : I2 (G w) 0 = nI (tH T) := by rw [hG, f2 t (by omega)]; exact TR_0 hT.1
    have a1 : tH T < tH T + 1 := by omega
    rw [xs_99_2 hw htG, g0]
    simp (disch := first | assumption | omega | decide | exact vp_in_nI (by omega) (by omega) | exact and1_bN _ | (simp only [pk_mul, nI_add, pred_s]; exact vp_in_nI (by omega) (by omega))) only [nI_add, pk_mul, nI_ltI, nI_eq, z_eq, z_lt, z_gt, z_bN, bN_z, bN_p, nI_clamp, rng_nI, ↓reduceIte, if_true, if_false, not_true_eq_false, not_false_eq_true, true_and, and_true, and_self, false_and, and_false, a1, xs_99_23]
    exact hq I2 f2 (fun i hi => h2 i (by omega)) (fun i hi => h3 i (by omega))
end PREP
