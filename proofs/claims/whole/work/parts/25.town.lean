/-! THE TOWN: T = (how many people, hours, kinds, fees, places) -/
abbrev TN : Type := Nat × Nat × (Nat → Nat) × (Nat → Nat) × (Nat → Nat → Int32)
def tN (T : TN) : Nat := T.1
def tH (T : TN) : Nat := T.2.1
def tK (T : TN) : Nat → Nat := T.2.2.1
def tF (T : TN) : Nat → Nat := T.2.2.2.1
def tS (T : TN) : Nat → Nat → Int32 := T.2.2.2.2
def togB (T : TN) (x y u : Nat) : Bool := decide (tS T x u ≠ -9) && decide (tS T x u = tS T y u)
def ctog (T : TN) (x u : Nat) : Nat := cnt (tN T) (fun y => togB T x y u)
def nxt (T : TN) (x : Nat) : Nat := if x + 1 < tN T then x + 1 else 0
def mayB (T : TN) (x y u : Nat) : Bool := decide (x ≠ y) && togB T x y u && (decide (tK T x ≠ 4) || (decide (y = nxt T x) && decide (tK T y ≠ 5))) && (decide (tK T y ≠ 1) || decide (x < y)) && (decide (tK T y ≠ 2) || decide (ctog T y u = 2))
def mset (T : TN) (x u : Nat) : Nat := bs (tN T) (fun y => mayB T x y u)
def xtr (k : Nat) : Nat := if k = 3 then 1 else if k = 5 then 2 else 0
def lim (T : TN) (v x : Nat) : Nat := v + xtr (tK T x)
def TR (I : Nat → Nat → Int32) (a : Nat) (T : TN) : Prop := tN T ≤ 7 ∧ tH T ≤ 5 ∧ I a 0 = nI (tH T) ∧ I a 1 = nI (tN T) ∧ (∀ x, x < tN T → I (a + 1) x = nI (tK T x) ∧ tK T x ≤ 5 ∧ I (a + 2) x = nI (tF T x) ∧ tF T x ≤ 9) ∧ (∀ x, x < tN T → ∀ u, u < tH T → I (a + 3) (x * 5 + u) = tS T x u)
def TT (I : Nat → Nat → Int32) (a : Nat) (T : TN) : Prop := TR I a T ∧ ∀ x, x < tN T → ∀ u, u < tH T → I (a + 4) (x * 5 + u) = nI (mset T x u)
theorem TR_fr {I I2 : Nat → Nat → Int32} {a : Nat} {T : TN} (h : TR I a T) (h0 : I2 a = I a) (h1 : I2 (a + 1) = I (a + 1)) (h2 : I2 (a + 2) = I (a + 2)) (h3 : I2 (a + 3) = I (a + 3)) : TR I2 a T := by
  unfold TR at h ⊢
  rw [h0, h1, h2, h3]
  exact h
theorem TT_fr {I I2 : Nat → Nat → Int32} {a : Nat} {T : TN} (h : TT I a T) (h0 : I2 a = I a) (h1 : I2 (a + 1) = I (a + 1)) (h2 : I2 (a + 2) = I (a + 2)) (h3 : I2 (a + 3) = I (a + 3)) (h4 : I2 (a + 4) = I (a + 4)) : TT I2 a T := by
  refine ⟨TR_fr h.1 h0 h1 h2 h3, ?_⟩
  rw [h4]
  exact h.2
section TOWN
variable {scr : xi_X} {d : Nat} {Q : Option Value → xi_S → Prop} {I : Nat → Nat → Int32} {J : Nat → Nat → Int64} {t dr : Nat} {G : Nat → Nat} {a : Nat} {T : TN}
theorem TR_n (h : TR I a T) : tN T ≤ 7 := h.1
theorem TR_h (h : TR I a T) : tH T ≤ 5 := h.2.1
theorem TR_0 (h : TR I a T) : I a 0 = nI (tH T) := h.2.2.1
theorem TR_1 (h : TR I a T) : I a 1 = nI (tN T) := h.2.2.2.1
theorem TR_k (h : TR I a T) {x : Nat} (hx : x < tN T) : I (a + 1) x = nI (tK T x) := (h.2.2.2.2.1 x hx).1
theorem TR_k5 (h : TR I a T) {x : Nat} (hx : x < tN T) : tK T x ≤ 5 := (h.2.2.2.2.1 x hx).2.1
theorem TR_f (h : TR I a T) {x : Nat} (hx : x < tN T) : I (a + 2) x = nI (tF T x) := (h.2.2.2.2.1 x hx).2.2.1
theorem TR_f9 (h : TR I a T) {x : Nat} (hx : x < tN T) : tF T x ≤ 9 := (h.2.2.2.2.1 x hx).2.2.2
theorem TR_s (h : TR I a T) {x u : Nat} (hx : x < tN T) (hu : u < tH T) : I (a + 3) (x * 5 + u) = tS T x u := h.2.2.2.2.2 x hx u hu
theorem TT_t (h : TT I a T) {x u : Nat} (hx : x < tN T) (hu : u < tH T) : I (a + 4) (x * 5 + u) = nI (mset T x u) := h.2 x hx u hu
theorem mset_lt (h : TR I a T) (x u : Nat) : mset T x u < 128 := bs_lt7 (TR_n h) _
theorem c_isOne (ht : tw a) (hT : TR I a T) {x : Int32} : xr scr d xc_37 0 [some (.ref a), some (.int x)] [] (wS, I, J, wP t dr G) Q = Q (some (.int (nI (bN (rng x (tN T) = true))))) (wS, I, J, wP t dr G) := by
  simp (disch := first | assumption | omega | decide | exact vp_in_nI (by omega) (by omega) | exact and1_bN _ | (simp only [pk_mul, nI_add]; exact vp_in_nI (by omega) (by omega))) only [xs_37_0, xs_37_2, xs_37_6, xs_37_8, xs_37_9, TR_1 hT]
  by_cases h1 : x < 0 <;> by_cases h2 : x < nI (tN T) <;> simp [h1, h2, bN, rng]
theorem c_isHour (ht : tw a) (hT : TR I a T) {x : Int32} : xr scr d xc_48 0 [some (.ref a), some (.int x)] [] (wS, I, J, wP t dr G) Q = Q (some (.int (nI (bN (rng x (tH T) = true))))) (wS, I, J, wP t dr G) := by
  simp (disch := first | assumption | omega | decide | exact vp_in_nI (by omega) (by omega) | exact and1_bN _ | (simp only [pk_mul, nI_add]; exact vp_in_nI (by omega) (by omega))) only [xs_48_0, xs_48_2, xs_48_6, xs_48_8, xs_48_9, TR_0 hT]
  by_cases h1 : x < 0 <;> by_cases h2 : x < nI (tH T) <;> simp [h1, h2, bN, rng]
theorem c_isMoment (ht : tw a) (hT : TR I a T) {x : Int32} : xr scr d xc_103 0 [some (.ref a), some (.int x)] [] (wS, I, J, wP t dr G) Q = Q (some (.int (nI (bN (rng x (tH T + 1) = true))))) (wS, I, J, wP t dr G) := by
  have hh := TR_h hT
  rw [bN_c (rng_s (n := tH T) (by omega))]
  simp (disch := first | assumption | omega | decide | exact vp_in_nI (by omega) (by omega) | exact and1_bN _ | (simp only [pk_mul, nI_add]; exact vp_in_nI (by omega) (by omega))) only [xs_103_0, xs_103_2, xs_103_6, xs_103_8, xs_103_9, TR_0 hT]
  by_cases h1 : x < 0 <;> by_cases h2 : nI (tH T) < x <;> simp [h1, h2, bN]
theorem evr : ∀ n, n ≤ 7 → nI 1 <<< (nI n &&& 31) - nI 1 = nI (2 ^ n - 1) := by decide +kernel
theorem c_everyone (ht : tw a) (hT : TR I a T) : xr scr d xc_64 0 [some (.ref a)] [] (wS, I, J, wP t dr G) Q = Q (some (.int (nI (bs (tN T) (fun _ => true))))) (wS, I, J, wP t dr G) := by
  have hn := TR_n hT
  simp (disch := first | assumption | omega | decide | exact vp_in_nI (by omega) (by omega) | exact and1_bN _ | (simp only [pk_mul, nI_add]; exact vp_in_nI (by omega) (by omega))) only [xs_64_0, TR_1 hT, evr, bs_all]
theorem c_kindOf (ht : tw a) (hT : TR I a T) {x : Nat} (hx : x < tN T) : xr scr (d + 1) xc_36 0 [some (.ref a), some (.int (nI x))] [] (wS, I, J, wP t dr G) Q = Q (some (.int (nI (tK T x)))) (wS, I, J, wP t dr G) := by
  have hn := TR_n hT
  simp (disch := first | assumption | omega | decide | exact vp_in_nI (by omega) (by omega) | exact and1_bN _ | (simp only [pk_mul, nI_add]; exact vp_in_nI (by omega) (by omega))) only [xs_36_0, xs_36_3, xs_36_4, xs_36_9, xs_36_10, c_isOne ht hT, Option.toList_some, Option.toList_none, List.cons_append, List.nil_append, List.append_nil, nI_add, pk_mul, nI_ltI, nI_eq, z_eq, z_lt, z_gt, z_bN, bN_z, bN_p, nI_clamp, rng_nI, ↓reduceIte, if_true, if_false, not_true_eq_false, not_false_eq_true, true_and, and_true, and_self, false_and, and_false, hx, TR_k hT hx]
theorem c_feeOf (ht : tw a) (hT : TR I a T) {x : Nat} (hx : x < tN T) : xr scr (d + 1) xc_45 0 [some (.ref a), some (.int (nI x))] [] (wS, I, J, wP t dr G) Q = Q (some (.int (nI (tF T x)))) (wS, I, J, wP t dr G) := by
  have hn := TR_n hT
  simp (disch := first | assumption | omega | decide | exact vp_in_nI (by omega) (by omega) | exact and1_bN _ | (simp only [pk_mul, nI_add]; exact vp_in_nI (by omega) (by omega))) only [xs_45_0, xs_45_3, xs_45_4, xs_45_9, xs_45_10, c_isOne ht hT, Option.toList_some, Option.toList_none, List.cons_append, List.nil_append, List.append_nil, nI_add, pk_mul, nI_ltI, nI_eq, z_eq, z_lt, z_gt, z_bN, bN_z, bN_p, nI_clamp, rng_nI, ↓reduceIte, if_true, if_false, not_true_eq_false, not_false_eq_true, true_and, and_true, and_self, false_and, and_false, hx, TR_f hT hx]
theorem c_spotOf (ht : tw a) (hT : TR I a T) {x u : Nat} (hx : x < tN T) (hu : u < tH T) : xr scr d xc_35 0 [some (.ref a), some (.int (nI x)), some (.int (nI u))] [] (wS, I, J, wP t dr G) Q = Q (some (.int (tS T x u))) (wS, I, J, wP t dr G) := by
  have hn := TR_n hT
  have hh := TR_h hT
  simp (disch := first | assumption | omega | decide | exact vp_in_nI (by omega) (by omega) | exact and1_bN _ | (simp only [pk_mul, nI_add]; exact vp_in_nI (by omega) (by omega))) only [xs_35_0, xs_35_2, xs_35_6, xs_35_8, xs_35_12, xs_35_21, xs_35_22, TR_0 hT, TR_1 hT, Option.toList_some, Option.toList_none, List.cons_append, List.nil_append, List.append_nil, nI_add, pk_mul, nI_ltI, nI_eq, z_eq, z_lt, z_gt, z_bN, bN_z, bN_p, nI_clamp, rng_nI, ↓reduceIte, if_true, if_false, not_true_eq_false, not_false_eq_true, true_and, and_true, and_self, false_and, and_false, hx, hu, TR_s hT hx hu]
theorem c_takersOf (ht : tw a) (hT : TT I a T) {x u : Nat} (hx : x < tN T) (hu : u < tH T) : xr scr d xc_56 0 [some (.ref a), some (.int (nI x)), some (.int (nI u))] [] (wS, I, J, wP t dr G) Q = Q (some (.int (nI (mset T x u)))) (wS, I, J, wP t dr G) := by
  have hn := TR_n hT.1
  have hh := TR_h hT.1
  simp (disch := first | assumption | omega | decide | exact vp_in_nI (by omega) (by omega) | exact and1_bN _ | (simp only [pk_mul, nI_add]; exact vp_in_nI (by omega) (by omega))) only [xs_56_0, xs_56_2, xs_56_6, xs_56_8, xs_56_12, xs_56_21, xs_56_22, TR_0 hT.1, TR_1 hT.1, Option.toList_some, Option.toList_none, List.cons_append, List.nil_append, List.append_nil, nI_add, pk_mul, nI_ltI, nI_eq, z_eq, z_lt, z_gt, z_bN, bN_z, bN_p, nI_clamp, rng_nI, ↓reduceIte, if_true, if_false, not_true_eq_false, not_false_eq_true, true_and, and_true, and_self, false_and, and_false, hx, hu, TT_t hT hx hu]
theorem c_takersOf_m (ht : tw a) (hT : TR I a T) {x : Nat} (hx : x < tN T) : xr scr d xc_56 0 [some (.ref a), some (.int (nI x)), some (.int (nI (tH T)))] [] (wS, I, J, wP t dr G) Q = Q (some (.int (nI 0))) (wS, I, J, wP t dr G) := by
  have hn := TR_n hT
  have hh := TR_h hT
  simp (disch := first | assumption | omega | decide | exact vp_in_nI (by omega) (by omega) | exact and1_bN _ | (simp only [pk_mul, nI_add]; exact vp_in_nI (by omega) (by omega))) only [xs_56_0, xs_56_2, xs_56_6, xs_56_8, xs_56_12, xs_56_21, xs_56_22, TR_0 hT, TR_1 hT, Option.toList_some, Option.toList_none, List.cons_append, List.nil_append, List.append_nil, nI_add, pk_mul, nI_ltI, nI_eq, z_eq, z_lt, z_gt, z_bN, bN_z, bN_p, nI_clamp, rng_nI, ↓reduceIte, if_true, if_false, not_true_eq_false, not_false_eq_true, true_and, and_true, and_self, false_and, and_false, hx, Nat.lt_irrefl]
theorem xtr_eq : ∀ k, k ≤ 5 → xi_extra k = nI (xtr k) := by decide +kernel
theorem xtr_le (k : Nat) : xtr k ≤ 2 := by unfold xtr; split <;> (try split) <;> omega
theorem c_limitOf (ht : tw a) (hT : TR I a T) {x v : Nat} (hx : x < tN T) : xr scr (d + 2) xc_46 0 [some (.ref a), some (.int (nI x)), some (.int (nI v)), none] [] (wS, I, J, wP t dr G) Q = Q (some (.int (nI (lim T v x)))) (wS, I, J, wP t dr G) := by
  have hn := TR_n hT
  have hk := TR_k5 hT hx
  have hk2 : tK T x < 6 := by omega
  simp (disch := first | assumption | omega | decide | exact vp_in_nI (by omega) (by omega) | exact and1_bN _ | (simp only [pk_mul, nI_add]; exact vp_in_nI (by omega) (by omega))) only [xs_46_0, xs_46_3, xs_46_6, xs_46_10, xs_46_16, xs_46_17, c_kindOf ht hT hx, Option.toList_some, Option.toList_none, List.cons_append, List.nil_append, List.append_nil, nI_add, pk_mul, nI_ltI, nI_eq, z_eq, z_lt, z_gt, z_bN, bN_z, bN_p, nI_clamp, rng_nI, ↓reduceIte, if_true, if_false, not_true_eq_false, not_false_eq_true, true_and, and_true, and_self, false_and, and_false, hk2, xtr_eq]
  rfl
abbrev isA (T : TN) (x k : Nat) : Prop := tK T x = k ∨ tK T x = 5 ∧ k = 3
theorem c_isOfKind (ht : tw a) (hT : TR I a T) {x k : Nat} (hx : x < tN T) (hk : k < 6) : xr scr (d + 2) xc_50 0 [some (.ref a), some (.int (nI x)), some (.int (nI k)), none] [] (wS, I, J, wP t dr G) Q = Q (some (.int (nI (bN (isA T x k))))) (wS, I, J, wP t dr G) := by
  have hn := TR_n hT
  have hk5 := TR_k5 hT hx
  simp (disch := first | assumption | omega | decide | exact vp_in_nI (by omega) (by omega) | exact and1_bN _ | (simp only [pk_mul, nI_add]; exact vp_in_nI (by omega) (by omega))) only [xs_50_0, xs_50_3, xs_50_7, xs_50_10, xs_50_13, xs_50_15, xs_50_16, c_kindOf ht hT hx, Option.toList_some, Option.toList_none, List.cons_append, List.nil_append, List.append_nil, nI_add, pk_mul, nI_ltI, nI_eq, z_eq, z_lt, z_gt, z_bN, bN_z, bN_p, nI_clamp, rng_nI, ↓reduceIte, if_true, if_false, not_true_eq_false, not_false_eq_true, true_and, and_true, and_self, false_and, and_false]
  by_cases h1 : tK T x = k <;> by_cases h2 : tK T x = 5 <;> by_cases h3 : k = 3 <;> simp [h1, h2, h3, bN, isA] <;> (first | done | omega | (intro h; omega) | (split <;> (first | rfl | omega)))
theorem c_nextTo (ht : tw a) (hT : TR I a T) {x : Nat} (hx : x < tN T) : xr scr d xc_38 0 [some (.ref a), some (.int (nI x))] [] (wS, I, J, wP t dr G) Q = Q (some (.int (nI (nxt T x)))) (wS, I, J, wP t dr G) := by
  have hn := TR_n hT
  simp (disch := first | assumption | omega | decide | exact vp_in_nI (by omega) (by omega) | exact and1_bN _ | (simp only [pk_mul, nI_add]; exact vp_in_nI (by omega) (by omega))) only [xs_38_0, xs_38_6, xs_38_10, xs_38_11, TR_1 hT, Option.toList_some, Option.toList_none, List.cons_append, List.nil_append, List.append_nil, nI_add, pk_mul, nI_ltI, nI_eq, z_eq, z_lt, z_gt, z_bN, bN_z, bN_p, nI_clamp, rng_nI, ↓reduceIte, if_true, if_false, not_true_eq_false, not_false_eq_true, true_and, and_true, and_self, false_and, and_false]
  unfold nxt
  split <;> rfl
theorem c_areTog (ht : tw a) (hT : TR I a T) {x y u : Nat} (hx : x < tN T) (hy : y < tN T) (hu : u < tH T) : xr scr (d + 1) xc_34 0 [some (.ref a), some (.int (nI x)), some (.int (nI y)), some (.int (nI u)), none] [] (wS, I, J, wP t dr G) Q = Q (some (.int (nI (bN (togB T x y u = true))))) (wS, I, J, wP t dr G) := by
  simp (disch := first | assumption | omega | decide | exact vp_in_nI (by omega) (by omega) | exact and1_bN _ | (simp only [pk_mul, nI_add]; exact vp_in_nI (by omega) (by omega))) only [xs_34_0, xs_34_4, xs_34_8, xs_34_13, xs_34_14, xs_34_16, xs_34_17, c_spotOf ht hT hx hu, c_spotOf ht hT hy hu, Option.toList_some, Option.toList_none, List.cons_append, List.nil_append, List.append_nil]
  by_cases h1 : tS T x u = -9 <;> by_cases h2 : tS T x u = tS T y u <;> simp [h1, h2, bN, togB] <;> simp_all
theorem c_countTog (ht : tw a) (hT : TR I a T) {x u : Nat} (hx : x < tN T) (hu : u < tH T) : xr scr (d + 2) xc_39 0 [some (.ref a), some (.int (nI x)), some (.int (nI u)), none, none] [] (wS, I, J, wP t dr G) Q = Q (some (.int (nI (ctog T x u)))) (wS, I, J, wP t dr G) := by
  have hn := TR_n hT
  rw [xs_39_0]
  refine up_0 (P := fun y => xr scr (d + 2) xc_39 4 [some (.ref a), some (.int (nI x)), some (.int (nI u)), some (.int (nI (cnt y (fun z => togB T x z u)))), some (.int (nI y))] [] (wS, I, J, wP t dr G) Q = Q (some (.int (nI (ctog T x u)))) (wS, I, J, wP t dr G)) (tN T) (fun y hy h => ?_) ?_
  · rw [xs_39_4 ht]
    simp (disch := first | assumption | omega | decide | exact vp_in_nI (by omega) (by omega) | exact and1_bN _ | (simp only [pk_mul, nI_add]; exact vp_in_nI (by omega) (by omega))) only [xs_39_0, xs_39_8, xs_39_13, xs_39_14, xs_39_15, xs_39_17, TR_1 hT, c_areTog ht hT hx hy hu, Option.toList_some, Option.toList_none, List.cons_append, List.nil_append, List.append_nil, nI_add, pk_mul, nI_ltI, nI_eq, z_eq, z_lt, z_gt, z_bN, bN_z, bN_p, nI_clamp, rng_nI, ↓reduceIte, if_true, if_false, not_true_eq_false, not_false_eq_true, true_and, and_true, and_self, false_and, and_false, hy]
    by_cases hb : togB T x y u = true
    · simp only [cnt_s, bN_t hb] at h
      simp only [hb, not_true_eq_false, ↓reduceIte]
      exact h
    · simp only [cnt_s, bN_f hb] at h
      simp only [hb, not_false_eq_true, ↓reduceIte]
      exact h
  · rw [xs_39_4 ht]
    simp (disch := first | assumption | omega | decide | exact vp_in_nI (by omega) (by omega) | exact and1_bN _ | (simp only [pk_mul, nI_add]; exact vp_in_nI (by omega) (by omega))) only [xs_39_0, xs_39_8, xs_39_13, xs_39_14, xs_39_15, xs_39_17, TR_1 hT, Option.toList_some, Option.toList_none, List.cons_append, List.nil_append, List.append_nil, nI_add, pk_mul, nI_ltI, nI_eq, z_eq, z_lt, z_gt, z_bN, bN_z, bN_p, nI_clamp, rng_nI, ↓reduceIte, if_true, if_false, not_true_eq_false, not_false_eq_true, true_and, and_true, and_self, false_and, and_false, Nat.lt_irrefl]
    rfl
end TOWN
