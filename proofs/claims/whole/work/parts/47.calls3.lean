/-! calls: the DAY goes on -/
section CALLS3
variable {scr : xi_X} {d : Nat} {Q : Option Value → xi_S → Prop} {I I2 : Nat → Nat → Int32} {J : Nat → Nat → Int64} {t dr : Nat} {G G2 : Nat → Nat} {T : TN} {v v2 : Nat} {bk bk2 : Bool} {pre pre2 : List Nat} {ss : List SGT}
theorem day_cases (hD : ID I T v bk pre) : (pre = [] ∧ I 25 2 = -1 ∧ I 58 18 = -9) ∨ ∃ u, pre.length = u + 1 ∧ I 25 2 = nI u ∧ I 58 18 = nI u ∧ u ≤ tH T := by
  obtain ⟨a1, a2, a3, a4, a5, a6, a7, a8, a9, a10, a11⟩ := hD
  cases h : pre with
  | nil => exact Or.inl ⟨rfl, a8 h⟩
  | cons x l =>
    have hl : pre.length = l.length + 1 := by rw [h]; rfl
    exact Or.inr ⟨l.length, by rw [List.length_cons], (a9 _ hl).1, (a9 _ hl).2, by omega⟩
theorem m1lt : (-1 : Int32) < 0 := by decide
theorem c_isBegun0 {a : Nat} (ha : dy a) (h : I a 2 = -1) : xr scr d xc_61 0 [some (.ref a)] [] (wS, I, J, wP t dr G) Q = Q (some (.int (nI 0))) (wS, I, J, wP t dr G) := by
  simp (disch := first | assumption | omega | decide | exact vp_in_nI (by omega) (by omega) | exact and1_bN _ | (simp only [pk_mul, nI_add, pred_s]; exact vp_in_nI (by omega) (by omega))) only [xs_61_0, xs_61_3, xs_61_5, xs_61_6, h, m1lt, ↓reduceIte]
theorem c_isBegun1 {a u : Nat} (ha : dy a) (h : I a 2 = nI u) (hu : u < 2 ^ 31) : xr scr d xc_61 0 [some (.ref a)] [] (wS, I, J, wP t dr G) Q = Q (some (.int (nI 1))) (wS, I, J, wP t dr G) := by
  simp (disch := first | assumption | omega | decide | exact vp_in_nI (by omega) (by omega) | exact and1_bN _ | (simp only [pk_mul, nI_add, pred_s]; exact vp_in_nI (by omega) (by omega))) only [xs_61_0, xs_61_3, xs_61_5, xs_61_6, h, nI_add, pk_mul, nI_ltI, nI_eq, z_eq, z_lt, z_gt, z_bN, bN_z, bN_p, bN_i1, nI_clamp, rng_nI, ↓reduceIte, if_true, if_false, not_true_eq_false, not_false_eq_true, true_and, and_true, and_self, false_and, and_false]
theorem k_now (H : INV I J t dr G T v bk pre ss) : xr scr (d + 20) xc_71 0 [some (.ref 0)] [] (wS, I, J, wP t dr G) (AN scr (d + 20) xc_200 [some (.ref 58)]) := by
  have hh5 := TR_h H.1.2.2.2.1.1
  have hD := H.2.2.2.1
  have h10 : ¬ 1 = 0 := by decide
  rcases day_cases hD with ⟨-, h1, h2⟩ | ⟨u, hu, h1, h2, hu2⟩
  · simp (disch := first | assumption | omega | decide | exact vp_in_nI (by omega) (by omega) | exact and1_bN _ | (simp only [pk_mul, nI_add, pred_s]; exact vp_in_nI (by omega) (by omega))) only [xs_71_0, xs_71_3, xs_71_4, xs_71_6, xs_71_14, c_isBegun0 (Or.inl rfl) h1, Option.toList_some, Option.toList_none, List.cons_append, List.nil_append, List.append_nil, nI_add, pk_mul, nI_ltI, nI_eq, z_eq, z_lt, z_gt, z_bN, bN_z, bN_p, bN_i1, nI_clamp, rng_nI, ↓reduceIte, if_true, if_false, not_true_eq_false, not_false_eq_true, true_and, and_true, and_self, false_and, and_false]
    refine AN_i ?_
    simp (disch := first | assumption | omega | decide | exact vp_in_nI (by omega) (by omega) | exact and1_bN _ | (simp only [pk_mul, nI_add, pred_s]; exact vp_in_nI (by omega) (by omega))) only [xs_200_0, xs_200_4, xs_200_6, xs_200_15, h2, Option.toList_some, Option.toList_none, List.cons_append, List.nil_append, List.append_nil, ↓reduceIte]
    first | exact PST_i H | exact ⟨trivial, PST_i H⟩ | exact ⟨rfl, PST_i H⟩
  · have hu6 : u < 6 := by omega
    have hu31 : u < 2 ^ 31 := by omega
    have e1 : ∀ x, xi_up I 0 14 x 25 2 = nI u := fun x => by rw [xu_nc (by decide), h1]
    have hvp : vp_in (xi_up I 0 14 (nI u) 25 2) 6 := by rw [e1]; exact vp_in_nI hu6 (by omega)
    simp (disch := first | assumption | omega | decide | exact vp_in_nI (by omega) (by omega) | exact and1_bN _ | (simp only [pk_mul, nI_add, pred_s]; exact vp_in_nI (by omega) (by omega))) only [xs_71_0, xs_71_3, xs_71_4, xs_71_6, xs_71_14, xs_72_0, xs_72_3, xs_72_7, xs_72_13, xs_72_14, c_isBegun1 (Or.inl rfl) h1 hu31, h1, e1, Option.toList_some, Option.toList_none, List.cons_append, List.nil_append, List.append_nil, nI_add, pk_mul, nI_ltI, nI_eq, z_eq, z_lt, z_gt, z_bN, bN_z, bN_p, bN_i1, nI_clamp, rng_nI, ↓reduceIte, if_true, if_false, not_true_eq_false, not_false_eq_true, true_and, and_true, and_self, false_and, and_false, h10, hu6]
    refine AN_i ?_
    have e2 : ∀ x, xi_up I 0 14 x 58 18 = nI u := fun x => by rw [xu_nc (by decide), h2]
    have hvp2 : vp_in (xi_up I 0 14 (nI u) 58 18) 6 := by rw [e2]; exact vp_in_nI hu6 (by omega)
    simp (disch := first | assumption | omega | decide | exact vp_in_nI (by omega) (by omega) | exact and1_bN _ | (simp only [pk_mul, nI_add, pred_s]; exact vp_in_nI (by omega) (by omega))) only [xs_200_0, xs_200_4, xs_200_6, xs_200_15, e2, Option.toList_some, Option.toList_none, List.cons_append, List.nil_append, List.append_nil, nI_add, pk_mul, nI_ltI, nI_eq, z_eq, z_lt, z_gt, z_bN, bN_z, bN_p, bN_i1, nI_clamp, rng_nI, ↓reduceIte, if_true, if_false, not_true_eq_false, not_false_eq_true, true_and, and_true, and_self, false_and, and_false, m9_ne, m_say]
    refine ⟨?_, PST_i (sey_inv H)⟩
    rw [xu_nc (by decide), xu_nc (by decide), hD.2.2.2.2.2.2.2.2.2.2 u hu6]
theorem c_hadBy (hD : ID I T v bk pre) (hn : tN T ≤ 7) (hh : tH T ≤ 5) {u y : Nat} (hu : pre.length = u + 1) (h2 : I 25 2 = nI u) (hu5 : u ≤ 5) (hy : y < 7) : xr scr d xc_74 0 [some (.ref 25), some (.int (nI y)), none, none] [] (wS, I, J, wP t dr G) Q = Q (some (.int (nI (pre.count y)))) (wS, I, J, wP t dr G) := by
  have hin := hD.2.2.2.2.2.1
  have hp := hD.2.2.2.2.2.2.2.2.2.1
  rw [xs_74_0]
  refine up_0 (P := fun x => xr scr d xc_74 4 [some (.ref 25), some (.int (nI y)), some (.int (nI ((pre.take x).count y))), some (.int (nI x))] [] (wS, I, J, wP t dr G) Q = Q (some (.int (nI (pre.count y)))) (wS, I, J, wP t dr G)) (u + 1) (fun x hx h => ?_) ?_
  · have h1 : ¬ u < x := by omega
    have hx6 : x < 6 := by omega
    have h3 := hp x (by omega)
    have h4 : pre.getD x 0 < tN T := inP_get hin (by omega)
    rw [xs_74_4 (Or.inl rfl), h2]
    simp (disch := first | assumption | omega | decide | exact vp_in_nI (by omega) (by omega) | exact and1_bN _ | (simp only [pk_mul, nI_add, pred_s]; exact vp_in_nI (by omega) (by omega))) only [xs_74_8, xs_74_11, nI_add, pk_mul, nI_ltI, nI_eq, z_eq, z_lt, z_gt, z_bN, bN_z, bN_p, bN_i1, nI_clamp, rng_nI, ↓reduceIte, if_true, if_false, not_true_eq_false, not_false_eq_true, true_and, and_true, and_self, false_and, and_false, h1, hx6, h3]
    rw [take_s (by omega), count_app] at h
    by_cases e : pre.getD x 0 = y
    · rw [bN_t e.symm] at h
      rw [if_pos e]
      simp (disch := first | assumption | omega | decide | exact vp_in_nI (by omega) (by omega) | exact and1_bN _ | (simp only [pk_mul, nI_add, pred_s]; exact vp_in_nI (by omega) (by omega))) only [xs_74_17, xs_74_18, nI_add, pk_mul, nI_ltI, nI_eq, z_eq, z_lt, z_gt, z_bN, bN_z, bN_p, bN_i1, nI_clamp, rng_nI, ↓reduceIte, if_true, if_false, not_true_eq_false, not_false_eq_true, true_and, and_true, and_self, false_and, and_false]
      exact h
    · rw [bN_f (fun e2 => e e2.symm)] at h
      rw [if_neg e]
      simp (disch := first | assumption | omega | decide | exact vp_in_nI (by omega) (by omega) | exact and1_bN _ | (simp only [pk_mul, nI_add, pred_s]; exact vp_in_nI (by omega) (by omega))) only [xs_74_18, nI_add, pk_mul, nI_ltI, nI_eq, z_eq, z_lt, z_gt, z_bN, bN_z, bN_p, bN_i1, nI_clamp, rng_nI, ↓reduceIte, if_true, if_false, not_true_eq_false, not_false_eq_true, true_and, and_true, and_self, false_and, and_false]
      exact h
  · have h1 : u < u + 1 := by omega
    rw [xs_74_4 (Or.inl rfl), h2]
    simp (disch := first | assumption | omega | decide | exact vp_in_nI (by omega) (by omega) | exact and1_bN _ | (simp only [pk_mul, nI_add, pred_s]; exact vp_in_nI (by omega) (by omega))) only [xs_74_20, nI_add, pk_mul, nI_ltI, nI_eq, z_eq, z_lt, z_gt, z_bN, bN_z, bN_p, bN_i1, nI_clamp, rng_nI, ↓reduceIte, if_true, if_false, not_true_eq_false, not_false_eq_true, true_and, and_true, and_self, false_and, and_false, h1]
    rw [List.take_of_length_le (by omega)]
theorem HD_of (hD : ID I T v bk pre) (hh : tH T ≤ 5) : HD I pre := fun i hi => by
  have hl := hD.2.2.2.2.2.2.1
  rw [← hD.2.2.2.2.2.2.2.2.2.2 i (by omega), hD.2.2.2.2.2.2.2.2.2.1 i hi]
theorem k_often (H : INV I J t dr G T v bk pre ss) {x : Int32} : xr scr (d + 20) xc_73 0 [some (.ref 0), some (.int x)] [] (wS, I, J, wP t dr G) (AN scr (d + 20) xc_201 [some (.ref 58), some (.int x)]) := by
  have ht := H.1.1
  have hT := H.1.2.2.2.1
  have hM := H.1.2.2.2.2.1
  have hn := TR_n hT.1
  have hh5 := TR_h hT.1
  have hD := H.2.2.2.1
  have h10 : ¬ 1 = 0 := by decide
  by_cases hx : rng x (tN T) = true
  · obtain ⟨x, hx1, rfl⟩ := rng_of hx (by omega)
    have hx7 : x < 7 := by omega
    rcases day_cases hD with ⟨-, h1, h2⟩ | ⟨u, hu, h1, h2, hu2⟩
    · simp (disch := first | assumption | omega | decide | exact vp_in_nI (by omega) (by omega) | exact and1_bN _ | (simp only [pk_mul, nI_add, pred_s]; exact vp_in_nI (by omega) (by omega))) only [xs_73_0, xs_73_4, xs_73_5, xs_73_7, xs_73_10, xs_73_11, xs_73_13, xs_73_17, c_isOne ht hT.1, c_isBegun0 (Or.inl rfl) h1, Option.toList_some, Option.toList_none, List.cons_append, List.nil_append, List.append_nil, nI_add, pk_mul, nI_ltI, nI_eq, z_eq, z_lt, z_gt, z_bN, bN_z, bN_p, bN_i1, nI_clamp, rng_nI, ↓reduceIte, if_true, if_false, not_true_eq_false, not_false_eq_true, true_and, and_true, and_self, false_and, and_false, hx1]
      refine AN_i ?_
      simp (disch := first | assumption | omega | decide | exact vp_in_nI (by omega) (by omega) | exact and1_bN _ | (simp only [pk_mul, nI_add, pred_s]; exact vp_in_nI (by omega) (by omega))) only [xs_201_0, xs_201_3, xs_201_4, xs_201_6, xs_201_10, xs_201_12, xs_201_17, m_isOne hM, h2, Option.toList_some, Option.toList_none, List.cons_append, List.nil_append, List.append_nil, nI_add, pk_mul, nI_ltI, nI_eq, z_eq, z_lt, z_gt, z_bN, bN_z, bN_p, bN_i1, nI_clamp, rng_nI, ↓reduceIte, if_true, if_false, not_true_eq_false, not_false_eq_true, true_and, and_true, and_self, false_and, and_false, hx1]
      first | exact PST_i H | exact ⟨trivial, PST_i H⟩ | exact ⟨rfl, PST_i H⟩
    · have hu6 : u < 6 := by omega
      have hu5 : u ≤ 5 := by omega
      have hu31 : u < 2 ^ 31 := by omega
      have hin7 : inP 7 pre := fun z hz => Nat.lt_of_lt_of_le (hD.2.2.2.2.2.1 z hz) hn
      simp (disch := first | assumption | omega | decide | exact vp_in_nI (by omega) (by omega) | exact and1_bN _ | (simp only [pk_mul, nI_add, pred_s]; exact vp_in_nI (by omega) (by omega))) only [xs_73_0, xs_73_4, xs_73_5, xs_73_7, xs_73_10, xs_73_11, xs_73_13, xs_73_17, c_isOne ht hT.1, c_isBegun1 (Or.inl rfl) h1 hu31, c_hadBy hD hn hh5 hu h1 hu5 hx7, Option.toList_some, Option.toList_none, List.cons_append, List.nil_append, List.append_nil, nI_add, pk_mul, nI_ltI, nI_eq, z_eq, z_lt, z_gt, z_bN, bN_z, bN_p, bN_i1, nI_clamp, rng_nI, ↓reduceIte, if_true, if_false, not_true_eq_false, not_false_eq_true, true_and, and_true, and_self, false_and, and_false, hx1, h10]
      refine AN_i ?_
      simp (disch := first | assumption | omega | decide | exact vp_in_nI (by omega) (by omega) | exact and1_bN _ | (simp only [pk_mul, nI_add, pred_s]; exact vp_in_nI (by omega) (by omega))) only [xs_201_0, xs_201_3, xs_201_4, xs_201_6, xs_201_10, xs_201_12, xs_201_17, m_isOne hM, h2, m9_ne, m_oftenIn (HD_of hD hh5) hin7 hu hu6 hx7, Option.toList_some, Option.toList_none, List.cons_append, List.nil_append, List.append_nil, nI_add, pk_mul, nI_ltI, nI_eq, z_eq, z_lt, z_gt, z_bN, bN_z, bN_p, bN_i1, nI_clamp, rng_nI, ↓reduceIte, if_true, if_false, not_true_eq_false, not_false_eq_true, true_and, and_true, and_self, false_and, and_false, hx1]
      first | exact PST_i H | exact ⟨trivial, PST_i H⟩ | exact ⟨rfl, PST_i H⟩
  · simp (disch := first | assumption | omega | decide | exact vp_in_nI (by omega) (by omega) | exact and1_bN _ | (simp only [pk_mul, nI_add, pred_s]; exact vp_in_nI (by omega) (by omega))) only [xs_73_0, xs_73_4, xs_73_5, xs_73_7, xs_73_10, xs_73_11, xs_73_13, xs_73_17, c_isOne ht hT.1, Option.toList_some, Option.toList_none, List.cons_append, List.nil_append, List.append_nil, nI_add, pk_mul, nI_ltI, nI_eq, z_eq, z_lt, z_gt, z_bN, bN_z, bN_p, bN_i1, nI_clamp, rng_nI, ↓reduceIte, if_true, if_false, not_true_eq_false, not_false_eq_true, true_and, and_true, and_self, false_and, and_false, hx]
    refine AN_i ?_
    simp (disch := first | assumption | omega | decide | exact vp_in_nI (by omega) (by omega) | exact and1_bN _ | (simp only [pk_mul, nI_add, pred_s]; exact vp_in_nI (by omega) (by omega))) only [xs_201_0, xs_201_3, xs_201_4, xs_201_6, xs_201_10, xs_201_12, xs_201_17, m_isOne hM, Option.toList_some, Option.toList_none, List.cons_append, List.nil_append, List.append_nil, nI_add, pk_mul, nI_ltI, nI_eq, z_eq, z_lt, z_gt, z_bN, bN_z, bN_p, bN_i1, nI_clamp, rng_nI, ↓reduceIte, if_true, if_false, not_true_eq_false, not_false_eq_true, true_and, and_true, and_self, false_and, and_false, hx]
    first | exact PST_i H | exact ⟨trivial, PST_i H⟩ | exact ⟨rfl, PST_i H⟩
/-- to whom it can be given now -/
def opn (T : TN) (v : Nat) (bk : Bool) (pre : List Nat) : Nat := if pre.length ≤ tH T then bs (tN T) (okB T v bk pre) else 0
theorem c_openToday (ht : tw t) (hT : TT I t T) (hD : ID I T v bk pre) {u : Nat} (hu : pre.length = u + 1) (h2 : I 25 2 = nI u) (hq : ∀ I2 : Nat → Nat → Int32, FrA I I2 32 → Q (some (.int (nI (opn T v bk pre)))) (wS, I2, J, wP t dr (wU 32 t G))) : xr scr (d + 5) xc_62 0 [some (.ref 0)] [] (wS, I, J, wP t dr G) Q := by
  have hh5 := TR_h hT.1
  have hl := hD.2.2.2.2.2.2.1
  have ht' : t = 15 ∨ t = 20 := ht
  rw [xs_62_0, hD.2.2.1, hD.2.2.2.2.1]
  refine c_prepare (Or.inl rfl) ht hT hD.1 hD.2.1 (fun I1 f1 W1 T1 s1 => ?_)
  have hT1 : TT I1 t T := TT_fr hT (f1 _ (by omega)) (f1 _ (by omega)) (f1 _ (by omega)) (f1 _ (by omega)) (f1 _ (by omega))
  simp (disch := first | assumption | omega | decide | exact vp_in_nI (by omega) (by omega) | exact and1_bN _ | (simp only [pk_mul, nI_add, pred_s]; exact vp_in_nI (by omega) (by omega))) only [Option.toList_some, Option.toList_none, List.cons_append, List.nil_append, List.append_nil, xs_62_11]
  refine c_follow (d := d + 2) (Or.inl rfl) (Or.inl rfl) ht wU_eq hT1 hD.2.1 W1 hD.2.2.2.2.2.1 hu (by omega) (by rw [f1 25 (by omega), h2]) (fun i hi => by rw [f1 26 (by omega)]; exact hD.2.2.2.2.2.2.2.2.2.1 i hi) (fun I2 f2 W2 => ?_)
  have hT2 : TT I2 t T := TT_frW (w := 32) (Or.inl rfl) ht (FrT_W f2) hT1
  have e2 : I2 25 2 = nI u := by rw [f2.1 25 (by decide) (by decide) (by decide), f1 25 (by omega), h2]
  have fA : FrA I I2 32 := FrA_trans f1 (FrA_W (FrT_W f2))
  have hq2 := hq I2 fA
  unfold opn at hq2
  by_cases hlt : u < tH T
  · rw [if_pos (by omega)] at hq2
    simp (disch := first | assumption | omega | decide | exact vp_in_nI (by omega) (by omega) | exact and1_bN _ | (simp only [pk_mul, nI_add, pred_s]; exact vp_in_nI (by omega) (by omega))) only [Option.toList_some, Option.toList_none, List.cons_append, List.nil_append, List.append_nil, xs_62_16, e2, c_openIn (Or.inl rfl) ht wU_eq hT2 W2 hD.2.2.2.2.2.1 hu hlt, xs_62_22]
    exact hq2
  · rw [if_neg (by omega)] at hq2
    have eu : u = tH T := by omega
    rw [eu] at e2
    simp (disch := first | assumption | omega | decide | exact vp_in_nI (by omega) (by omega) | exact and1_bN _ | (simp only [pk_mul, nI_add, pred_s]; exact vp_in_nI (by omega) (by omega))) only [Option.toList_some, Option.toList_none, List.cons_append, List.nil_append, List.append_nil, xs_62_16, e2, c_openIn_m (Or.inl rfl) ht wU_eq hT2, xs_62_22]
    exact hq2
theorem m_canNow (hM : MT I T) (hV : MV I v bk) (hv : v ≤ 5) (hp : HD I pre) (hin : inP (tN T) pre) {u : Nat} (hu : pre.length = u + 1) (hh : u ≤ tH T) (h2 : I 58 18 = nI u) : xr scr (d + 5) xc_203 0 [some (.ref 58), none, none] [] (wS, I, J, wP t dr G) Q = Q (some (.int (nI (opn T v bk pre)))) (wS, I, J, wP t dr G) := by
  have hn := MT_n hM
  have hh5 := MT_h hM
  unfold opn
  rw [xs_203_0]
  by_cases hlt : u < tH T
  · rw [if_pos (by omega)]
    refine up_0 (P := fun y => xr scr (d + 5) xc_203 4 [some (.ref 58), some (.int (nI (bs y (okB T v bk pre)))), some (.int (nI y))] [] (wS, I, J, wP t dr G) Q = Q (some (.int (nI (bs (tN T) (okB T v bk pre))))) (wS, I, J, wP t dr G)) (tN T) (fun y hy h => ?_) ?_
    · have ha := agn_lt T v bk pre y
      rw [xs_203_4, MT_10 hM]
      simp (disch := first | assumption | omega | decide | exact vp_in_nI (by omega) (by omega) | exact and1_bN _ | (simp only [pk_mul, nI_add, pred_s]; exact vp_in_nI (by omega) (by omega))) only [nI_add, pk_mul, nI_ltI, nI_eq, z_eq, z_lt, z_gt, z_bN, bN_z, bN_p, bN_i1, nI_clamp, rng_nI, ↓reduceIte, if_true, if_false, not_true_eq_false, not_false_eq_true, true_and, and_true, and_self, false_and, and_false, hy, xs_203_8, h2, MT_11 hM, hlt, xs_203_13, m_against hM hV hv hp hin hu hlt hy, Option.toList_some, Option.toList_none, List.cons_append, List.nil_append, List.append_nil, xs_203_19]
      rw [bs_s] at h
      by_cases hk : agn T v bk pre y = 0
      · rw [if_pos (agn_ok.mp hk)] at h
        rw [if_pos hk]
        simp (disch := first | assumption | omega | decide | exact vp_in_nI (by omega) (by omega) | exact and1_bN _ | (simp only [pk_mul, nI_add, pred_s]; exact vp_in_nI (by omega) (by omega))) only [xs_203_20, xs_203_25, sb_one, sb_or, bs_put, nI_add, pk_mul, nI_ltI, nI_eq, z_eq, z_lt, z_gt, z_bN, bN_z, bN_p, bN_i1, nI_clamp, rng_nI, ↓reduceIte, if_true, if_false, not_true_eq_false, not_false_eq_true, true_and, and_true, and_self, false_and, and_false]
        exact h
      · rw [if_neg (fun e => hk (agn_ok.mpr e))] at h
        rw [if_neg hk]
        simp (disch := first | assumption | omega | decide | exact vp_in_nI (by omega) (by omega) | exact and1_bN _ | (simp only [pk_mul, nI_add, pred_s]; exact vp_in_nI (by omega) (by omega))) only [xs_203_24, xs_203_25, sb_or, Nat.or_zero, nI_add, pk_mul, nI_ltI, nI_eq, z_eq, z_lt, z_gt, z_bN, bN_z, bN_p, bN_i1, nI_clamp, rng_nI, ↓reduceIte, if_true, if_false, not_true_eq_false, not_false_eq_true, true_and, and_true, and_self, false_and, and_false]
        exact h
    · rw [xs_203_4, MT_10 hM]
      simp (disch := first | assumption | omega | decide | exact vp_in_nI (by omega) (by omega) | exact and1_bN _ | (simp only [pk_mul, nI_add, pred_s]; exact vp_in_nI (by omega) (by omega))) only [nI_add, pk_mul, nI_ltI, nI_eq, z_eq, z_lt, z_gt, z_bN, bN_z, bN_p, bN_i1, nI_clamp, rng_nI, ↓reduceIte, if_true, if_false, not_true_eq_false, not_false_eq_true, true_and, and_true, and_self, false_and, and_false, Nat.lt_irrefl, xs_203_29]
  · rw [if_neg (by omega), xs_203_4, MT_10 hM]
    by_cases h0 : 0 < tN T
    · simp (disch := first | assumption | omega | decide | exact vp_in_nI (by omega) (by omega) | exact and1_bN _ | (simp only [pk_mul, nI_add, pred_s]; exact vp_in_nI (by omega) (by omega))) only [nI_add, pk_mul, nI_ltI, nI_eq, z_eq, z_lt, z_gt, z_bN, bN_z, bN_p, bN_i1, nI_clamp, rng_nI, ↓reduceIte, if_true, if_false, not_true_eq_false, not_false_eq_true, true_and, and_true, and_self, false_and, and_false, h0, xs_203_8, h2, MT_11 hM, hlt, xs_203_29]
    · simp (disch := first | assumption | omega | decide | exact vp_in_nI (by omega) (by omega) | exact and1_bN _ | (simp only [pk_mul, nI_add, pred_s]; exact vp_in_nI (by omega) (by omega))) only [nI_add, pk_mul, nI_ltI, nI_eq, z_eq, z_lt, z_gt, z_bN, bN_z, bN_p, bN_i1, nI_clamp, rng_nI, ↓reduceIte, if_true, if_false, not_true_eq_false, not_false_eq_true, true_and, and_true, and_self, false_and, and_false, h0, xs_203_29]
theorem LIV_32 {I I2 : Nat → Nat → Int32} (h : FrA I I2 32) : LIV I I2 := ⟨fun k hk => h k (by omega), fun i _ => by rw [h 66 (by omega)], fun j _ => by rw [h 58 (by omega)], fun j _ => by rw [h 0 (by omega)]⟩
theorem INV_32 (H : INV I J t dr G T v bk pre ss) (h : FrA I I2 32) : INV I2 J t dr (wU 32 t G) T v bk pre ss := INV_liv H (LIV_32 h) (by
  have := H.2.2.2.2.2.2.2.1
  unfold IA at this ⊢
  rw [h 0 (by omega), h 58 (by omega)]
  exact this) (wU_ne (by decide))
theorem k_can (H : INV I J t dr G T v bk pre ss) : xr scr (d + 20) xc_75 0 [some (.ref 0)] [] (wS, I, J, wP t dr G) (AN scr (d + 20) xc_202 [some (.ref 58)]) := by
  have ht := H.1.1
  have hT := H.1.2.2.2.1
  have hh5 := TR_h hT.1
  have hD := H.2.2.2.1
  have h10 : ¬ 1 = 0 := by decide
  rcases day_cases hD with ⟨-, h1, h2⟩ | ⟨u, hu, h1, h2, hu2⟩
  · simp (disch := first | assumption | omega | decide | exact vp_in_nI (by omega) (by omega) | exact and1_bN _ | (simp only [pk_mul, nI_add, pred_s]; exact vp_in_nI (by omega) (by omega))) only [xs_75_0, xs_75_3, xs_75_4, xs_75_6, xs_75_8, c_isBegun0 (Or.inl rfl) h1, Option.toList_some, Option.toList_none, List.cons_append, List.nil_append, List.append_nil, nI_add, pk_mul, nI_ltI, nI_eq, z_eq, z_lt, z_gt, z_bN, bN_z, bN_p, bN_i1, nI_clamp, rng_nI, ↓reduceIte, if_true, if_false, not_true_eq_false, not_false_eq_true, true_and, and_true, and_self, false_and, and_false]
    refine AN_i ?_
    simp (disch := first | assumption | omega | decide | exact vp_in_nI (by omega) (by omega) | exact and1_bN _ | (simp only [pk_mul, nI_add, pred_s]; exact vp_in_nI (by omega) (by omega))) only [xs_202_0, xs_202_4, xs_202_6, xs_202_8, h2, Option.toList_some, Option.toList_none, List.cons_append, List.nil_append, List.append_nil, ↓reduceIte]
    first | exact PST_i H | exact ⟨trivial, PST_i H⟩ | exact ⟨rfl, PST_i H⟩
  · have hu31 : u < 2 ^ 31 := by omega
    simp (disch := first | assumption | omega | decide | exact vp_in_nI (by omega) (by omega) | exact and1_bN _ | (simp only [pk_mul, nI_add, pred_s]; exact vp_in_nI (by omega) (by omega))) only [xs_75_0, xs_75_3, xs_75_6, c_isBegun1 (Or.inl rfl) h1 hu31, Option.toList_some, Option.toList_none, List.cons_append, List.nil_append, List.append_nil, nI_add, pk_mul, nI_ltI, nI_eq, z_eq, z_lt, z_gt, z_bN, bN_z, bN_p, bN_i1, nI_clamp, rng_nI, ↓reduceIte, if_true, if_false, not_true_eq_false, not_false_eq_true, true_and, and_true, and_self, false_and, and_false, h10]
    refine c_openToday ht hT hD hu h1 (fun I2 f2 => ?_)
    have H2 := INV_32 H f2
    have hD2 := H2.2.2.2.1
    have e2 : I2 58 18 = nI u := by rw [f2 58 (by omega), h2]
    simp (disch := first | assumption | omega | decide | exact vp_in_nI (by omega) (by omega) | exact and1_bN _ | (simp only [pk_mul, nI_add, pred_s]; exact vp_in_nI (by omega) (by omega))) only [xs_75_8, Option.toList_some, Option.toList_none, List.cons_append, List.nil_append, List.append_nil]
    refine AN_i ?_
    simp (disch := first | assumption | omega | decide | exact vp_in_nI (by omega) (by omega) | exact and1_bN _ | (simp only [pk_mul, nI_add, pred_s]; exact vp_in_nI (by omega) (by omega))) only [xs_202_0, xs_202_4, xs_202_6, xs_202_8, e2, m9_ne, m_canNow H2.1.2.2.2.2.1 hD2.2.2.2.1 hD2.2.1 (HD_of hD2 hh5) hD2.2.2.2.2.2.1 hu hu2 e2, Option.toList_some, Option.toList_none, List.cons_append, List.nil_append, List.append_nil, nI_add, pk_mul, nI_ltI, nI_eq, z_eq, z_lt, z_gt, z_bN, bN_z, bN_p, bN_i1, nI_clamp, rng_nI, ↓reduceIte, if_true, if_false, not_true_eq_false, not_false_eq_true, true_and, and_true, and_self, false_and, and_false]
    first | exact PST_i H2 | exact ⟨trivial, PST_i H2⟩
end CALLS3
