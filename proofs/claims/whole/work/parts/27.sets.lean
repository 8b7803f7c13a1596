/-! loops over the town: kinds, pairs, givers, keepers, who may -/
def gvB (T : TN) (p q : Nat → Bool) (u x : Nat) : Bool := q x && exB (tN T) (fun y => mayB T x y u && p y)
def kpB (T : TN) (q : Nat → Bool) : Nat → Nat → Nat → Bool
  | 0, _ => q
  | m + 1, u => gvB T (kpB T q m (u + 1)) q u
def prs (T : TN) (x : Nat) : Nat := cnt (tH T) (fun u => decide (ctog T x u = 2))
def knd (T : TN) (k : Nat) : Nat := cnt (tN T) (fun x => decide (isA T x k))
def bc (x0 : Int32) : Int32 := ((((((((x0 - (((x0.toUInt32 >>> ((nI 1 : Int32).toUInt32 &&& Int32.toUInt32 31)).toInt32) &&& (nI 1431655765))) &&& (nI 858993459)) + ((((x0 - (((x0.toUInt32 >>> ((nI 1 : Int32).toUInt32 &&& Int32.toUInt32 31)).toInt32) &&& (nI 1431655765))).toUInt32 >>> ((nI 2 : Int32).toUInt32 &&& Int32.toUInt32 31)).toInt32) &&& (nI 858993459))) + (((((x0 - (((x0.toUInt32 >>> ((nI 1 : Int32).toUInt32 &&& Int32.toUInt32 31)).toInt32) &&& (nI 1431655765))) &&& (nI 858993459)) + ((((x0 - (((x0.toUInt32 >>> ((nI 1 : Int32).toUInt32 &&& Int32.toUInt32 31)).toInt32) &&& (nI 1431655765))).toUInt32 >>> ((nI 2 : Int32).toUInt32 &&& Int32.toUInt32 31)).toInt32) &&& (nI 858993459))).toUInt32 >>> ((nI 4 : Int32).toUInt32 &&& Int32.toUInt32 31)).toInt32)) &&& (nI 252645135)) + (((((((x0 - (((x0.toUInt32 >>> ((nI 1 : Int32).toUInt32 &&& Int32.toUInt32 31)).toInt32) &&& (nI 1431655765))) &&& (nI 858993459)) + ((((x0 - (((x0.toUInt32 >>> ((nI 1 : Int32).toUInt32 &&& Int32.toUInt32 31)).toInt32) &&& (nI 1431655765))).toUInt32 >>> ((nI 2 : Int32).toUInt32 &&& Int32.toUInt32 31)).toInt32) &&& (nI 858993459))) + (((((x0 - (((x0.toUInt32 >>> ((nI 1 : Int32).toUInt32 &&& Int32.toUInt32 31)).toInt32) &&& (nI 1431655765))) &&& (nI 858993459)) + ((((x0 - (((x0.toUInt32 >>> ((nI 1 : Int32).toUInt32 &&& Int32.toUInt32 31)).toInt32) &&& (nI 1431655765))).toUInt32 >>> ((nI 2 : Int32).toUInt32 &&& Int32.toUInt32 31)).toInt32) &&& (nI 858993459))).toUInt32 >>> ((nI 4 : Int32).toUInt32 &&& Int32.toUInt32 31)).toInt32)) &&& (nI 252645135)).toUInt32 >>> ((nI 8 : Int32).toUInt32 &&& Int32.toUInt32 31)).toInt32)) + ((((((((x0 - (((x0.toUInt32 >>> ((nI 1 : Int32).toUInt32 &&& Int32.toUInt32 31)).toInt32) &&& (nI 1431655765))) &&& (nI 858993459)) + ((((x0 - (((x0.toUInt32 >>> ((nI 1 : Int32).toUInt32 &&& Int32.toUInt32 31)).toInt32) &&& (nI 1431655765))).toUInt32 >>> ((nI 2 : Int32).toUInt32 &&& Int32.toUInt32 31)).toInt32) &&& (nI 858993459))) + (((((x0 - (((x0.toUInt32 >>> ((nI 1 : Int32).toUInt32 &&& Int32.toUInt32 31)).toInt32) &&& (nI 1431655765))) &&& (nI 858993459)) + ((((x0 - (((x0.toUInt32 >>> ((nI 1 : Int32).toUInt32 &&& Int32.toUInt32 31)).toInt32) &&& (nI 1431655765))).toUInt32 >>> ((nI 2 : Int32).toUInt32 &&& Int32.toUInt32 31)).toInt32) &&& (nI 858993459))).toUInt32 >>> ((nI 4 : Int32).toUInt32 &&& Int32.toUInt32 31)).toInt32)) &&& (nI 252645135)) + (((((((x0 - (((x0.toUInt32 >>> ((nI 1 : Int32).toUInt32 &&& Int32.toUInt32 31)).toInt32) &&& (nI 1431655765))) &&& (nI 858993459)) + ((((x0 - (((x0.toUInt32 >>> ((nI 1 : Int32).toUInt32 &&& Int32.toUInt32 31)).toInt32) &&& (nI 1431655765))).toUInt32 >>> ((nI 2 : Int32).toUInt32 &&& Int32.toUInt32 31)).toInt32) &&& (nI 858993459))) + (((((x0 - (((x0.toUInt32 >>> ((nI 1 : Int32).toUInt32 &&& Int32.toUInt32 31)).toInt32) &&& (nI 1431655765))) &&& (nI 858993459)) + ((((x0 - (((x0.toUInt32 >>> ((nI 1 : Int32).toUInt32 &&& Int32.toUInt32 31)).toInt32) &&& (nI 1431655765))).toUInt32 >>> ((nI 2 : Int32).toUInt32 &&& Int32.toUInt32 31)).toInt32) &&& (nI 858993459))).toUInt32 >>> ((nI 4 : Int32).toUInt32 &&& Int32.toUInt32 31)).toInt32)) &&& (nI 252645135)).toUInt32 >>> ((nI 8 : Int32).toUInt32 &&& Int32.toUInt32 31)).toInt32)).toUInt32 >>> ((nI 16 : Int32).toUInt32 &&& Int32.toUInt32 31)).toInt32)) &&& (nI 63))
theorem popA : ∀ m, m < 128 → bc (nI m) = nI (cnt 7 (fun y => m.testBit y)) := by decide +kernel
section SETS
variable {scr : xi_X} {d : Nat} {Q : Option Value → xi_S → Prop} {I : Nat → Nat → Int32} {J : Nat → Nat → Int64} {t dr : Nat} {G : Nat → Nat} {a : Nat} {T : TN}
theorem c_hoursInPair (ht : tw a) (hT : TR I a T) {x : Nat} (hx : x < tN T) : xr scr (d + 3) xc_51 0 [some (.ref a), some (.int (nI x)), none, none] [] (wS, I, J, wP t dr G) Q = Q (some (.int (nI (prs T x)))) (wS, I, J, wP t dr G) := by
  have hn := TR_n hT
  have hh := TR_h hT
  rw [xs_51_0]
  refine up_0 (P := fun u => xr scr (d + 3) xc_51 4 [some (.ref a), some (.int (nI x)), some (.int (nI (cnt u (fun u => decide (ctog T x u = 2))))), some (.int (nI u))] [] (wS, I, J, wP t dr G) Q = Q (some (.int (nI (prs T x)))) (wS, I, J, wP t dr G)) (tH T) (fun u hu h => ?_) ?_
  · rw [xs_51_4 ht]
    have hc : ctog T x u ≤ 7 := Nat.le_trans (cnt_le _ _) hn
    simp (disch := first | assumption | omega | decide | exact vp_in_nI (by omega) (by omega) | exact and1_bN _ | (simp only [pk_mul, nI_add]; exact vp_in_nI (by omega) (by omega))) only [xs_51_0, xs_51_8, xs_51_12, xs_51_14, xs_51_15, xs_51_17, TR_0 hT, c_countTog ht hT hx hu, Option.toList_some, Option.toList_none, List.cons_append, List.nil_append, List.append_nil, nI_add, pk_mul, nI_ltI, nI_eq, z_eq, z_lt, z_gt, z_bN, bN_z, bN_p, nI_clamp, rng_nI, ↓reduceIte, if_true, if_false, not_true_eq_false, not_false_eq_true, true_and, and_true, and_self, false_and, and_false, hu]
    by_cases hb : ctog T x u = 2
    · simp only [cnt_s, bN_t (p := decide (ctog T x u = 2) = true) (by simp [hb])] at h
      simp only [hb, ↓reduceIte]
      exact h
    · simp only [cnt_s, bN_f (p := decide (ctog T x u = 2) = true) (by simp [hb])] at h
      simp only [hb, ↓reduceIte]
      exact h
  · rw [xs_51_4 ht]
    simp (disch := first | assumption | omega | decide | exact vp_in_nI (by omega) (by omega) | exact and1_bN _ | (simp only [pk_mul, nI_add]; exact vp_in_nI (by omega) (by omega))) only [xs_51_0, xs_51_8, xs_51_12, xs_51_14, xs_51_15, xs_51_17, TR_0 hT, Option.toList_some, Option.toList_none, List.cons_append, List.nil_append, List.append_nil, nI_add, pk_mul, nI_ltI, nI_eq, z_eq, z_lt, z_gt, z_bN, bN_z, bN_p, nI_clamp, rng_nI, ↓reduceIte, if_true, if_false, not_true_eq_false, not_false_eq_true, true_and, and_true, and_self, false_and, and_false, Nat.lt_irrefl]
    rfl
theorem c_countKind (ht : tw a) (hT : TR I a T) {k : Nat} (hk : k < 6) : xr scr (d + 3) xc_52 0 [some (.ref a), some (.int (nI k)), none, none] [] (wS, I, J, wP t dr G) Q = Q (some (.int (nI (knd T k)))) (wS, I, J, wP t dr G) := by
  have hn := TR_n hT
  rw [xs_52_0]
  refine up_0 (P := fun x => xr scr (d + 3) xc_52 4 [some (.ref a), some (.int (nI k)), some (.int (nI (cnt x (fun x => decide (isA T x k))))), some (.int (nI x))] [] (wS, I, J, wP t dr G) Q = Q (some (.int (nI (knd T k)))) (wS, I, J, wP t dr G)) (tN T) (fun x hx h => ?_) ?_
  · rw [xs_52_4 ht]
    simp (disch := first | assumption | omega | decide | exact vp_in_nI (by omega) (by omega) | exact and1_bN _ | (simp only [pk_mul, nI_add]; exact vp_in_nI (by omega) (by omega))) only [xs_52_0, xs_52_8, xs_52_12, xs_52_13, xs_52_14, xs_52_16, TR_1 hT, c_isOfKind ht hT hx hk, Option.toList_some, Option.toList_none, List.cons_append, List.nil_append, List.append_nil, nI_add, pk_mul, nI_ltI, nI_eq, z_eq, z_lt, z_gt, z_bN, bN_z, bN_p, nI_clamp, rng_nI, ↓reduceIte, if_true, if_false, not_true_eq_false, not_false_eq_true, true_and, and_true, and_self, false_and, and_false, hx]
    by_cases hb : isA T x k
    · simp only [cnt_s, bN_t (p := decide (isA T x k) = true) (by simpa using hb)] at h
      rw [if_neg (fun e => e hb)]
      exact h
    · simp only [cnt_s, bN_f (p := decide (isA T x k) = true) (by simpa using hb)] at h
      rw [if_pos hb]
      exact h
  · rw [xs_52_4 ht]
    simp (disch := first | assumption | omega | decide | exact vp_in_nI (by omega) (by omega) | exact and1_bN _ | (simp only [pk_mul, nI_add]; exact vp_in_nI (by omega) (by omega))) only [xs_52_0, xs_52_8, xs_52_12, xs_52_13, xs_52_14, xs_52_16, TR_1 hT, Option.toList_some, Option.toList_none, List.cons_append, List.nil_append, List.append_nil, nI_add, pk_mul, nI_ltI, nI_eq, z_eq, z_lt, z_gt, z_bN, bN_z, bN_p, nI_clamp, rng_nI, ↓reduceIte, if_true, if_false, not_true_eq_false, not_false_eq_true, true_and, and_true, and_self, false_and, and_false, Nat.lt_irrefl]
    rfl
theorem c_giversTo (ht : tw a) (hT : TT I a T) (p q : Nat → Bool) {u : Nat} (hu : u < tH T) : xr scr (d + 1) xc_79 0 [some (.ref a), some (.int (nI (bs (tN T) p))), some (.int (nI (bs (tN T) q))), some (.int (nI u)), none, none] [] (wS, I, J, wP t dr G) Q = Q (some (.int (nI (bs (tN T) (gvB T p q u))))) (wS, I, J, wP t dr G) := by
  have hn := TR_n hT.1
  have hh := TR_h hT.1
  rw [xs_79_0]
  refine up_0 (P := fun x => xr scr (d + 1) xc_79 4 [some (.ref a), some (.int (nI (bs (tN T) p))), some (.int (nI (bs (tN T) q))), some (.int (nI u)), some (.int (nI (bs x (gvB T p q u)))), some (.int (nI x))] [] (wS, I, J, wP t dr G) Q = Q (some (.int (nI (bs (tN T) (gvB T p q u))))) (wS, I, J, wP t dr G)) (tN T) (fun x hx h => ?_) ?_
  · rw [xs_79_4 ht]
    have hl : bs (tN T) (fun y => mayB T x y u && p y) < 128 := bs_lt7 hn _
    simp (disch := first | assumption | omega | decide | exact vp_in_nI (by omega) (by omega) | exact and1_bN _ | (simp only [pk_mul, nI_add]; exact vp_in_nI (by omega) (by omega))) only [xs_79_0, xs_79_8, xs_79_14, xs_79_18, xs_79_21, xs_79_27, xs_79_29, TR_1 hT.1, c_takersOf ht hT hx hu, Option.toList_some, Option.toList_none, List.cons_append, List.nil_append, List.append_nil, nI_add, pk_mul, nI_ltI, nI_eq, z_eq, z_lt, z_gt, z_bN, bN_z, bN_p, nI_clamp, rng_nI, ↓reduceIte, if_true, if_false, not_true_eq_false, not_false_eq_true, true_and, and_true, and_self, false_and, and_false, hx, sb_t, sb_one, sb_or, sb_and, mset, bs_and, bs_put]
    by_cases hq : q x = true
    · by_cases he : bs (tN T) (fun y => mayB T x y u && p y) = 0
      · have hg : gvB T p q u x = false := by simp [gvB, exB, he]
        simp only [bs_s, hg, Bool.false_eq_true, ↓reduceIte] at h
        simp only [hq, he, not_true_eq_false, ↓reduceIte]
        exact h
      · have hg : gvB T p q u x = true := by simp [gvB, exB, he, hq]
        simp only [bs_s, hg, ↓reduceIte] at h
        simp only [hq, he, not_true_eq_false, ↓reduceIte]
        exact h
    · have hg : gvB T p q u x = false := by simp [gvB, hq]
      simp only [bs_s, hg, Bool.false_eq_true, ↓reduceIte] at h
      simp only [hq, not_false_eq_true, ↓reduceIte]
      exact h
  · rw [xs_79_4 ht]
    simp (disch := first | assumption | omega | decide | exact vp_in_nI (by omega) (by omega) | exact and1_bN _ | (simp only [pk_mul, nI_add]; exact vp_in_nI (by omega) (by omega))) only [xs_79_0, xs_79_8, xs_79_14, xs_79_18, xs_79_21, xs_79_27, xs_79_29, TR_1 hT.1, Option.toList_some, Option.toList_none, List.cons_append, List.nil_append, List.append_nil, nI_add, pk_mul, nI_ltI, nI_eq, z_eq, z_lt, z_gt, z_bN, bN_z, bN_p, nI_clamp, rng_nI, ↓reduceIte, if_true, if_false, not_true_eq_false, not_false_eq_true, true_and, and_true, and_self, false_and, and_false, Nat.lt_irrefl]
theorem c_keepersOf (ht : tw a) (hT : TT I a T) (q : Nat → Bool) {f w : Nat} (hf : f ≤ w) (hw : w ≤ tH T) : xr scr (d + 2) xc_111 0 [some (.ref a), some (.int (nI (bs (tN T) q))), some (.int (nI f)), some (.int (nI w)), none, none] [] (wS, I, J, wP t dr G) Q = Q (some (.int (nI (bs (tN T) (kpB T q (w - f) f))))) (wS, I, J, wP t dr G) := by
  have hn := TR_n hT.1
  have hh := TR_h hT.1
  have key : ∀ k, k ≤ w - f → xr scr (d + 2) xc_111 6 [some (.ref a), some (.int (nI (bs (tN T) q))), some (.int (nI f)), some (.int (nI w)), some (.int (nI (bs (tN T) (kpB T q (w - f - k) (f + k))))), some (.int (nI (f + k) - nI 1))] [] (wS, I, J, wP t dr G) Q = Q (some (.int (nI (bs (tN T) (kpB T q (w - f) f))))) (wS, I, J, wP t dr G) := by
    intro k
    induction k with
    | zero =>
      intro _
      simp (disch := first | assumption | omega | decide | exact vp_in_nI (by omega) (by omega) | exact and1_bN _ | (simp only [pk_mul, nI_add]; exact vp_in_nI (by omega) (by omega))) only [xs_111_0, xs_111_6, xs_111_17, Nat.add_zero, Nat.sub_zero, pred_lt, ↓reduceIte]
    | succ k ih =>
      intro hk
      have h := ih (by omega)
      rw [show f + (k + 1) = f + k + 1 by omega, pred_s, xs_111_6]
      simp (disch := first | assumption | omega | decide | exact vp_in_nI (by omega) (by omega) | exact and1_bN _ | (simp only [pk_mul, nI_add]; exact vp_in_nI (by omega) (by omega))) only [xs_111_0, xs_111_9, xs_111_14, xs_111_17, nI_ltI, c_giversTo ht hT, Option.toList_some, Option.toList_none, List.cons_append, List.nil_append, List.append_nil, add_m1]
      rw [if_neg (by omega)]
      rw [show w - f - k = (w - f - (k + 1)) + 1 by omega] at h
      exact h
  have h := key (w - f) (Nat.le_refl _)
  rw [Nat.sub_self, show f + (w - f) = w by omega] at h
  rw [xs_111_0]
  exact h
theorem c_allows (ht : tw a) (hT : TR I a T) {x y u : Nat} (hx : x < tN T) (hy : y < tN T) (hu : u < tH T) : xr scr (d + 3) xc_33 0 [some (.ref a), some (.int (nI x)), some (.int (nI y)), some (.int (nI u))] [] (wS, I, J, wP t dr G) Q = Q (some (.int (nI (bN (mayB T x y u = true))))) (wS, I, J, wP t dr G) := by
  have hn := TR_n hT
  have hk := TR_k5 hT hx
  have hk2 := TR_k5 hT hy
  have hnl : nxt T x < 8 := by unfold nxt; split <;> omega
  have hc : ctog T y u ≤ 7 := Nat.le_trans (cnt_le _ _) hn
  simp (disch := first | assumption | omega | decide | exact vp_in_nI (by omega) (by omega) | exact and1_bN _ | (simp only [pk_mul, nI_add]; exact vp_in_nI (by omega) (by omega))) only [xs_33_0, xs_33_3, xs_33_8, xs_33_9, xs_33_11, xs_33_14, xs_33_16, xs_33_20, xs_33_21, xs_33_24, xs_33_26, xs_33_28, xs_33_31, xs_33_33, xs_33_36, xs_33_38, xs_33_41, xs_33_43, xs_33_47, xs_33_49, xs_33_51, xs_33_52, c_areTog ht hT hx hy hu, c_kindOf ht hT hx, c_kindOf ht hT hy, c_nextTo ht hT hx, c_countTog ht hT hy hu, Option.toList_some, Option.toList_none, List.cons_append, List.nil_append, List.append_nil, nI_add, pk_mul, nI_ltI, nI_eq, z_eq, z_lt, z_gt, z_bN, bN_z, bN_p, nI_clamp, rng_nI, ↓reduceIte, if_true, if_false, not_true_eq_false, not_false_eq_true, true_and, and_true, and_self, false_and, and_false]
  have e1 : mayB T x y u = true → bN (mayB T x y u = true) = 1 := bN_t
  have e0 : ¬ mayB T x y u = true → bN (mayB T x y u = true) = 0 := bN_f
  have em : (mayB T x y u = true) ↔ (x ≠ y ∧ togB T x y u = true ∧ (tK T x ≠ 4 ∨ (y = nxt T x ∧ tK T y ≠ 5)) ∧ (tK T y ≠ 1 ∨ x < y) ∧ (tK T y ≠ 2 ∨ ctog T y u = 2)) := by
    unfold mayB
    simp only [Bool.and_eq_true, Bool.or_eq_true, decide_eq_true_eq, and_assoc]
  (repeat' split) <;> first | (exfalso; omega) | (rw [e1 (em.mpr (by grind))]) | (rw [e0 (by grind)])
theorem c_fillTakers (ht : tw a) (hT : TR I a T) (hq : ∀ I2 : Nat → Nat → Int32, (∀ k, k ≠ a + 4 → I2 k = I k) → TT I2 a T → Q none (wS, I2, J, wP t dr G)) : xr scr (d + 4) xc_32 0 [some (.ref a), none, none, none, none] [] (wS, I, J, wP t dr G) Q := by
  have hn := TR_n hT
  have hh := TR_h hT
  rw [xs_32_0]
  refine up_0 (P := fun x => ∀ I2 : Nat → Nat → Int32, (∀ k, k ≠ a + 4 → I2 k = I k) → (∀ x2, x2 < x → ∀ u, u < tH T → I2 (a + 4) (x2 * 5 + u) = nI (mset T x2 u)) → ∀ o2 o3 o4 : Option Value, xr scr (d + 4) xc_32 2 [some (.ref a), some (.int (nI x)), o2, o3, o4] [] (wS, I2, J, wP t dr G) Q) (tN T) (fun x hx h I2 hf hv o2 o3 o4 => ?_) ?_ I (fun _ _ => rfl) (fun x2 hx2 => absurd hx2 (Nat.not_lt_zero _)) _ _ _
  · have hT2 : TR I2 a T := TR_fr hT (hf _ (by omega)) (hf _ (by omega)) (hf _ (by omega)) (hf _ (by omega))
    rw [xs_32_2 ht]
    simp (disch := first | assumption | omega | decide | exact vp_in_nI (by omega) (by omega) | exact and1_bN _ | (simp only [pk_mul, nI_add]; exact vp_in_nI (by omega) (by omega))) only [xs_32_6, TR_1 hT2, nI_add, pk_mul, nI_ltI, nI_eq, z_eq, z_lt, z_gt, z_bN, bN_z, bN_p, nI_clamp, rng_nI, ↓reduceIte, if_true, if_false, not_true_eq_false, not_false_eq_true, true_and, and_true, and_self, false_and, and_false, hx]
    refine up_0 (P := fun u => ∀ I3 : Nat → Nat → Int32, (∀ k, k ≠ a + 4 → I3 k = I k) → (∀ x2, x2 < x → ∀ u, u < tH T → I3 (a + 4) (x2 * 5 + u) = nI (mset T x2 u)) → (∀ u2, u2 < u → I3 (a + 4) (x * 5 + u2) = nI (mset T x u2)) → ∀ o3 o4 : Option Value, xr scr (d + 4) xc_32 8 [some (.ref a), some (.int (nI x)), some (.int (nI u)), o3, o4] [] (wS, I3, J, wP t dr G) Q) (tH T) (fun u hu h2 I3 hf3 hv3 hw3 o3 o4 => ?_) (fun I3 hf3 hv3 hw3 o3 o4 => ?_) I2 hf hv (fun u2 hu2 => absurd hu2 (Nat.not_lt_zero _)) o3 o4
    · have hT3 : TR I3 a T := TR_fr hT (hf3 _ (by omega)) (hf3 _ (by omega)) (hf3 _ (by omega)) (hf3 _ (by omega))
      have hb : xr scr (d + 4) xc_32 16 [some (.ref a), some (.int (nI x)), some (.int (nI u)), some (.int (nI 0)), some (.int (nI 0))] [] (wS, I3, J, wP t dr G) Q = xr scr (d + 4) xc_32 34 [some (.ref a), some (.int (nI x)), some (.int (nI u)), some (.int (nI (mset T x u))), some (.int (nI (tN T)))] [] (wS, I3, J, wP t dr G) Q := by
        refine up_0 (P := fun y => xr scr (d + 4) xc_32 16 [some (.ref a), some (.int (nI x)), some (.int (nI u)), some (.int (nI (bs y (fun y => mayB T x y u)))), some (.int (nI y))] [] (wS, I3, J, wP t dr G) Q = xr scr (d + 4) xc_32 34 [some (.ref a), some (.int (nI x)), some (.int (nI u)), some (.int (nI (mset T x u))), some (.int (nI (tN T)))] [] (wS, I3, J, wP t dr G) Q) (tN T) (fun y hy hyp => ?_) ?_
        · rw [xs_32_16 ht]
          simp (disch := first | assumption | omega | decide | exact vp_in_nI (by omega) (by omega) | exact and1_bN _ | (simp only [pk_mul, nI_add]; exact vp_in_nI (by omega) (by omega))) only [xs_32_20, xs_32_25, xs_32_26, xs_32_32, TR_1 hT3, c_allows ht hT3 hx hy hu, Option.toList_some, Option.toList_none, List.cons_append, List.nil_append, List.append_nil, nI_add, pk_mul, nI_ltI, nI_eq, z_eq, z_lt, z_gt, z_bN, bN_z, bN_p, nI_clamp, rng_nI, ↓reduceIte, if_true, if_false, not_true_eq_false, not_false_eq_true, true_and, and_true, and_self, false_and, and_false, hy, sb_one, sb_or, bs_put]
          by_cases hb : mayB T x y u = true
          · simp only [bs_s, hb, ↓reduceIte] at hyp
            simp only [hb, not_true_eq_false, ↓reduceIte]
            exact hyp
          · simp only [bs_s, hb, ↓reduceIte] at hyp
            simp only [hb, not_false_eq_true, ↓reduceIte]
            exact hyp
        · rw [xs_32_16 ht]
          simp (disch := first | assumption | omega | decide | exact vp_in_nI (by omega) (by omega) | exact and1_bN _ | (simp only [pk_mul, nI_add]; exact vp_in_nI (by omega) (by omega))) only [TR_1 hT3, nI_add, pk_mul, nI_ltI, nI_eq, z_eq, z_lt, z_gt, z_bN, bN_z, bN_p, nI_clamp, rng_nI, ↓reduceIte, if_true, if_false, not_true_eq_false, not_false_eq_true, true_and, and_true, and_self, false_and, and_false, Nat.lt_irrefl]
          rfl
      rw [xs_32_8 ht]
      simp (disch := first | assumption | omega | decide | exact vp_in_nI (by omega) (by omega) | exact and1_bN _ | (simp only [pk_mul, nI_add]; exact vp_in_nI (by omega) (by omega))) only [xs_32_12, TR_0 hT3, nI_add, pk_mul, nI_ltI, nI_eq, z_eq, z_lt, z_gt, z_bN, bN_z, bN_p, nI_clamp, rng_nI, ↓reduceIte, if_true, if_false, not_true_eq_false, not_false_eq_true, true_and, and_true, and_self, false_and, and_false, hu]
      rw [hb]
      simp (disch := first | assumption | omega | decide | exact vp_in_nI (by omega) (by omega) | exact and1_bN _ | (simp only [pk_mul, nI_add]; exact vp_in_nI (by omega) (by omega))) only [xs_32_34, nI_add, pk_mul, nI_ltI, nI_eq, z_eq, z_lt, z_gt, z_bN, bN_z, bN_p, nI_clamp, rng_nI, ↓reduceIte, if_true, if_false, not_true_eq_false, not_false_eq_true, true_and, and_true, and_self, false_and, and_false]
      refine h2 _ (fun k hk => ?_) (fun x2 hx2 u2 hu2 => ?_) (fun u2 hu2 => ?_) _ _
      · rw [xu_fr hk, hf3 k hk]
      · rw [xu_nj (by omega), hv3 x2 hx2 u2 hu2]
      · rw [xu_at]
        by_cases e : u2 = u
        · subst e; rw [if_pos rfl]
        · rw [if_neg (by omega), hw3 u2 (by omega)]
    · have hT3 : TR I3 a T := TR_fr hT (hf3 _ (by omega)) (hf3 _ (by omega)) (hf3 _ (by omega)) (hf3 _ (by omega))
      rw [xs_32_8 ht]
      simp (disch := first | assumption | omega | decide | exact vp_in_nI (by omega) (by omega) | exact and1_bN _ | (simp only [pk_mul, nI_add]; exact vp_in_nI (by omega) (by omega))) only [xs_32_45, TR_0 hT3, nI_add, pk_mul, nI_ltI, nI_eq, z_eq, z_lt, z_gt, z_bN, bN_z, bN_p, nI_clamp, rng_nI, ↓reduceIte, if_true, if_false, not_true_eq_false, not_false_eq_true, true_and, and_true, and_self, false_and, and_false, Nat.lt_irrefl]
      refine h I3 hf3 (fun x2 hx2 u2 hu2 => ?_) _ _ _
      by_cases e : x2 = x
      · subst e; exact hw3 u2 hu2
      · exact hv3 x2 (by omega) u2 hu2
  · intro I2 hf hv o2 o3 o4
    have hT2 : TR I2 a T := TR_fr hT (hf _ (by omega)) (hf _ (by omega)) (hf _ (by omega)) (hf _ (by omega))
    rw [xs_32_2 ht]
    simp (disch := first | assumption | omega | decide | exact vp_in_nI (by omega) (by omega) | exact and1_bN _ | (simp only [pk_mul, nI_add]; exact vp_in_nI (by omega) (by omega))) only [xs_32_47, TR_1 hT2, nI_add, pk_mul, nI_ltI, nI_eq, z_eq, z_lt, z_gt, z_bN, bN_z, bN_p, nI_clamp, rng_nI, ↓reduceIte, if_true, if_false, not_true_eq_false, not_false_eq_true, true_and, and_true, and_self, false_and, and_false, Nat.lt_irrefl]
    exact hq I2 hf ⟨hT2, hv⟩
theorem c_bitCount {m : Nat} (hm : m < 128) : xr scr d xc_59 0 [some (.int (nI m))] [] (wS, I, J, wP t dr G) Q = Q (some (.int (nI (cnt 7 (fun y => m.testBit y))))) (wS, I, J, wP t dr G) := by
  rw [xs_59_0]
  exact congrArg (fun v => Q (some (.int v)) (wS, I, J, wP t dr G)) (popA m hm)
theorem m_sizeOf {m : Nat} (hm : m < 128) : xr scr d xc_195 0 [some (.int (nI m)), none, none] [] (wS, I, J, wP t dr G) Q = Q (some (.int (nI (cnt 7 (fun y => m.testBit y))))) (wS, I, J, wP t dr G) := by
  rw [xs_195_0]
  have h8 : cnt 7 (fun y => m.testBit y) = cnt 8 (fun y => m.testBit y) := by
    rw [cnt_s 7, bN_f (by rw [Nat.testBit_lt_two_pow hm]; decide), Nat.add_zero]
  rw [h8]
  refine up_0 (P := fun y => xr scr d xc_195 4 [some (.int (nI m)), some (.int (nI (cnt y (fun y => m.testBit y)))), some (.int (nI y))] [] (wS, I, J, wP t dr G) Q = Q (some (.int (nI (cnt 8 (fun y => m.testBit y))))) (wS, I, J, wP t dr G)) 8 (fun y hy h => ?_) ?_
  · rw [xs_195_4]
    simp (disch := first | assumption | omega | decide | exact vp_in_nI (by omega) (by omega) | exact and1_bN _ | (simp only [pk_mul, nI_add]; exact vp_in_nI (by omega) (by omega))) only [xs_195_7, nI_add, pk_mul, nI_ltI, nI_eq, z_eq, z_lt, z_gt, z_bN, bN_z, bN_p, nI_clamp, rng_nI, ↓reduceIte, if_true, if_false, not_true_eq_false, not_false_eq_true, true_and, and_true, and_self, false_and, and_false, hy, sb_tA]
    exact h
  · rw [xs_195_4]
    simp (disch := first | assumption | omega | decide | exact vp_in_nI (by omega) (by omega) | exact and1_bN _ | (simp only [pk_mul, nI_add]; exact vp_in_nI (by omega) (by omega))) only [xs_195_17, nI_add, pk_mul, nI_ltI, nI_eq, z_eq, z_lt, z_gt, z_bN, bN_z, bN_p, nI_clamp, rng_nI, ↓reduceIte, if_true, if_false, not_true_eq_false, not_false_eq_true, true_and, and_true, and_self, false_and, and_false, Nat.lt_irrefl]
theorem m_has {n : Nat} (hn : n ≤ 7) (p : Nat → Bool) {y : Nat} (hy : y < 8) : xr scr d xc_227 0 [some (.int (nI (bs n p))), some (.int (nI y))] [] (wS, I, J, wP t dr G) Q = Q (some (.int (nI (bN (y < n ∧ p y = true))))) (wS, I, J, wP t dr G) := by
  simp (disch := first | assumption | omega | decide | exact vp_in_nI (by omega) (by omega) | exact and1_bN _ | (simp only [pk_mul, nI_add]; exact vp_in_nI (by omega) (by omega))) only [xs_227_0, xs_227_7, xs_227_9, xs_227_10, sb_t]
  by_cases h : y < n ∧ p y = true
  · rw [bN_t h]; simp
  · rw [bN_f h, if_neg (by decide)]
end SETS
