/-! calls: begin, give, undo -/
section CALLS4
variable {scr : xi_X} {d : Nat} {Q : Option Value → xi_S → Prop} {I I2 : Nat → Nat → Int32} {J : Nat → Nat → Int64} {t dr : Nat} {G G2 : Nat → Nat} {T : TN} {v v2 : Nat} {bk bk2 : Bool} {pre pre2 : List Nat} {ss : List SGT}
def dps (I : Nat → Nat → Int32) (u y : Nat) : Nat → Nat → Int32 := xi_up (xi_up I 25 2 (nI u)) 26 u (nI y)
def mps (I : Nat → Nat → Int32) (u y : Nat) : Nat → Nat → Int32 := xi_up (xi_up I 58 18 (nI u)) 66 u (nI y)
theorem dps_fr {u y k : Nat} (h1 : k ≠ 25) (h2 : k ≠ 26) : dps I u y k = I k := by unfold dps; rw [xu_fr h2, xu_fr h1]
theorem dps_25 {u y j : Nat} (h : j ≠ 2) : dps I u y 25 j = I 25 j := by unfold dps; rw [xu_nc (by decide), xu_nj h]
theorem dps_252 {u y : Nat} : dps I u y 25 2 = nI u := by unfold dps; rw [xu_nc (by decide), xu_eq]
theorem dps_26 {u y : Nat} (i : Nat) : dps I u y 26 i = if i = u then nI y else I 26 i := by unfold dps; rw [xu_at, xu_nc (by decide)]
theorem mps_fr {u y k : Nat} (h1 : k ≠ 58) (h2 : k ≠ 66) : mps I u y k = I k := by unfold mps; rw [xu_fr h2, xu_fr h1]
theorem mps_58 {u y j : Nat} (h : j ≠ 18) : mps I u y 58 j = I 58 j := by unfold mps; rw [xu_nc (by decide), xu_nj h]
theorem mps_18 {u y : Nat} : mps I u y 58 18 = nI u := by unfold mps; rw [xu_nc (by decide), xu_eq]
theorem mps_66 {u y : Nat} (i : Nat) : mps I u y 66 i = if i = u then nI y else I 66 i := by unfold mps; rw [xu_at, xu_nc (by decide)]
theorem ID_set (hD : ID I T v bk pre) (hh : tH T ≤ 5) {q : List Nat} {u y : Nat} (hq : ∀ i, i < q.length → i < pre.length ∧ q.getD i 0 = pre.getD i 0) (hin : inP (tN T) q) (hu : q.length = u) (hul : u ≤ tH T) (hy : y < tN T) : ID (mps (dps I u y) u y) T v bk (q ++ [y]) := by
  obtain ⟨a1, a2, a3, a4, a5, a6, a7, a8, a9, a10, a11⟩ := hD
  refine ⟨a1, a2, by rw [mps_fr (by decide) (by decide), dps_25 (by decide), a3], ⟨by rw [mps_58 (by decide), dps_fr (by decide) (by decide), a4.1], by rw [mps_58 (by decide), dps_fr (by decide) (by decide), a4.2]⟩, by rw [mps_fr (by decide) (by decide), dps_25 (by decide), a5], inP_app hin hy, by rw [List.length_append]; simp; omega, fun e => by simp at e, fun u2 hu2 => ?_, fun i hi => ?_, fun i hi => ?_⟩
  · have : u2 = u := by rw [List.length_append] at hu2; simp at hu2; omega
    rw [this]
    exact ⟨by rw [mps_fr (by decide) (by decide), dps_252], mps_18⟩
  · rw [mps_fr (by decide) (by decide), dps_26]
    by_cases e : i = u
    · rw [if_pos e, e, ← hu, getD_last]
    · have hi2 : i < q.length := by rw [List.length_append] at hi; simp at hi; omega
      rw [if_neg e, getD_app hi2, (hq i hi2).2, a10 i (hq i hi2).1]
  · rw [mps_fr (by decide) (by decide), dps_26, mps_66, dps_fr (by decide) (by decide), a11 i hi]
theorem LVD_set {u y : Nat} : LVD I (mps (dps I u y) u y) := ⟨fun k hk => by rw [mps_fr (by omega) (by omega), dps_fr (by omega) (by omega)], by rw [mps_fr (by decide) (by decide), dps_fr (by decide) (by decide)], fun j hj => by rw [mps_58 (by omega), dps_fr (by decide) (by decide)], by rw [mps_fr (by decide) (by decide), dps_fr (by decide) (by decide)]⟩
theorem INV_set (H : INV I J t dr G T v bk pre ss) {q : List Nat} {u y : Nat} (hq : ∀ i, i < q.length → i < pre.length ∧ q.getD i 0 = pre.getD i 0) (hin : inP (tN T) q) (hu : q.length = u) (hul : u ≤ tH T) (hy : y < tN T) : INV (mps (dps I u y) u y) J t dr G T v bk (q ++ [y]) ss :=
  INV_day H LVD_set (ID_set H.2.2.2.1 (TR_h H.1.2.2.2.1.1) hq hin hu hul hy) (IP_fr H.2.2.2.2.2.2.1 (by rw [mps_fr (by decide) (by decide), dps_fr (by decide) (by decide)]) (by rw [mps_fr (by decide) (by decide), dps_fr (by decide) (by decide)]) (by rw [mps_fr (by decide) (by decide), dps_fr (by decide) (by decide)]) rfl)
theorem k_begin (H : INV I J t dr G T v bk pre ss) {x : Int32} : xr scr (d + 20) xc_57 0 [some (.ref 0), some (.int x)] [] (wS, I, J, wP t dr G) (AN scr (d + 20) xc_194 [some (.ref 58), some (.int x)]) := by
  have ht := H.1.1
  have ht' : t = 15 ∨ t = 20 := ht
  have hT := H.1.2.2.2.1
  have hM := H.1.2.2.2.2.1
  have hn := TR_n hT.1
  have hh5 := TR_h hT.1
  by_cases hx : rng x (tN T) = true
  · obtain ⟨x, hx1, rfl⟩ := rng_of hx (by omega)
    have hh1 := H.1.2.2.2.2.2 (by omega)
    have h0 : ¬ tH T = 0 := by omega
    have h00 : 0 < tH T := by omega
    have hT1 : TT (dps I 0 x) t T := TT_fr hT (dps_fr (by omega) (by omega)) (dps_fr (by omega) (by omega)) (dps_fr (by omega) (by omega)) (dps_fr (by omega) (by omega)) (dps_fr (by omega) (by omega))
    have hM1 : MT (dps I 0 x) T := MT_fr hM (by rw [dps_fr (by decide) (by decide)]) (by rw [dps_fr (by decide) (by decide)]) (dps_fr (by decide) (by decide))
    have hM2 : MT (mps (dps I 0 x) 0 x) T := MT_fr hM1 (mps_58 (by decide)) (mps_58 (by decide)) (mps_fr (by decide) (by decide))
    have hm := mset_lt hT.1 x 0
    rw [xs_57_0 ht]
    simp (disch := first | assumption | omega | decide | exact vp_in_nI (by omega) (by omega) | exact and1_bN _ | (simp only [pk_mul, nI_add, pred_s]; exact vp_in_nI (by omega) (by omega))) only [c_isOne ht hT.1, Option.toList_some, Option.toList_none, List.cons_append, List.nil_append, List.append_nil, xs_57_4, nI_add, pk_mul, nI_ltI, nI_eq, z_eq, z_lt, z_gt, z_bN, bN_z, bN_p, bN_i1, nI_clamp, rng_nI, ↓reduceIte, if_true, if_false, not_true_eq_false, not_false_eq_true, true_and, and_true, and_self, false_and, and_false, hx1, xs_57_5, TR_0 hT.1, h0, xs_57_11, xs_58_0]
    rw [show xi_up (xi_up I 25 2 (nI 0)) (25 + 1) 0 (nI x) = dps I 0 x from rfl]
    simp (disch := first | assumption | omega | decide | exact vp_in_nI (by omega) (by omega) | exact and1_bN _ | (simp only [pk_mul, nI_add, pred_s]; exact vp_in_nI (by omega) (by omega))) only [xs_57_15, c_takersOf ht hT1 hx1 h00, Option.toList_some, Option.toList_none, List.cons_append, List.nil_append, List.append_nil, xs_57_20, c_bitCount, xs_57_21]
    refine AN_i ?_
    simp (disch := first | assumption | omega | decide | exact vp_in_nI (by omega) (by omega) | exact and1_bN _ | (simp only [pk_mul, nI_add, pred_s]; exact vp_in_nI (by omega) (by omega))) only [xs_194_0, m_isOne hM1, Option.toList_some, Option.toList_none, List.cons_append, List.nil_append, List.append_nil, xs_194_3, nI_add, pk_mul, nI_ltI, nI_eq, z_eq, z_lt, z_gt, z_bN, bN_z, bN_p, bN_i1, nI_clamp, rng_nI, ↓reduceIte, if_true, if_false, not_true_eq_false, not_false_eq_true, true_and, and_true, and_self, false_and, and_false, hx1, xs_194_6]
    rw [show xi_up (xi_up (dps I 0 x) 58 18 (nI 0)) 66 0 (nI x) = mps (dps I 0 x) 0 x from rfl]
    simp (disch := first | assumption | omega | decide | exact vp_in_nI (by omega) (by omega) | exact and1_bN _ | (simp only [pk_mul, nI_add, pred_s]; exact vp_in_nI (by omega) (by omega))) only [m_mays hM2 hx1 h00, Option.toList_some, Option.toList_none, List.cons_append, List.nil_append, List.append_nil, xs_194_18, m_sizeOf, xs_194_19]
    have H2 := INV_set (q := []) H (fun i hi => absurd hi (Nat.not_lt_zero _)) (fun y hy => by cases hy) rfl (Nat.zero_le _) hx1
    first | exact PST_i H2 | exact ⟨trivial, PST_i H2⟩
  · simp (disch := first | assumption | omega | decide | exact vp_in_nI (by omega) (by omega) | exact and1_bN _ | (simp only [pk_mul, nI_add, pred_s]; exact vp_in_nI (by omega) (by omega))) only [xs_57_0, xs_57_4, xs_57_5, xs_57_9, xs_57_11, xs_57_15, xs_57_20, xs_57_21, c_isOne ht hT.1, Option.toList_some, Option.toList_none, List.cons_append, List.nil_append, List.append_nil, nI_add, pk_mul, nI_ltI, nI_eq, z_eq, z_lt, z_gt, z_bN, bN_z, bN_p, bN_i1, nI_clamp, rng_nI, ↓reduceIte, if_true, if_false, not_true_eq_false, not_false_eq_true, true_and, and_true, and_self, false_and, and_false, hx]
    refine AN_i ?_
    simp (disch := first | assumption | omega | decide | exact vp_in_nI (by omega) (by omega) | exact and1_bN _ | (simp only [pk_mul, nI_add, pred_s]; exact vp_in_nI (by omega) (by omega))) only [xs_194_0, xs_194_3, xs_194_4, xs_194_6, xs_194_18, xs_194_19, m_isOne hM, Option.toList_some, Option.toList_none, List.cons_append, List.nil_append, List.append_nil, nI_add, pk_mul, nI_ltI, nI_eq, z_eq, z_lt, z_gt, z_bN, bN_z, bN_p, bN_i1, nI_clamp, rng_nI, ↓reduceIte, if_true, if_false, not_true_eq_false, not_false_eq_true, true_and, and_true, and_self, false_and, and_false, hx]
    first | exact PST_i H | exact ⟨trivial, PST_i H⟩ | exact ⟨rfl, PST_i H⟩
theorem opn_bit (hn : tN T ≤ 7) {y : Nat} (hy : y < tN T) : (nI (opn T v bk pre) >>> (nI y &&& 31)) &&& nI 1 = nI (bN (pre.length ≤ tH T ∧ okB T v bk pre y = true)) := by
  unfold opn
  by_cases h : pre.length ≤ tH T
  · rw [if_pos h, sb_t hn _ (by omega)]
    congr 1
    exact bN_c ⟨fun e => ⟨h, e.2⟩, fun e => ⟨hy, e.2⟩⟩
  · rw [if_neg h]
    have := sb_t hn (fun _ => false) (show y < 8 by omega)
    rw [bs_0] at this
    rw [this]
    congr 1
    exact bN_c ⟨fun e => (by cases e.2), fun e => absurd e.1 h⟩
theorem c_passTo {u y : Nat} (h2 : I 25 2 = nI u) (hu : u + 1 < 6) : xr scr d xc_69 0 [some (.ref 25), some (.int (nI y))] [] (wS, I, J, wP t dr G) Q = Q none (wS, dps I (u + 1) y, J, wP t dr G) := by
  have hvp : vp_in (xi_up I 25 2 (nI u + nI 1) 25 2) 6 := by rw [xu_eq, nI_add]; exact vp_in_nI hu (by omega)
  rw [xs_69_0 (Or.inl rfl), h2]
  simp (disch := first | assumption | omega | decide | exact vp_in_nI (by omega) (by omega) | exact and1_bN _ | (simp only [pk_mul, nI_add, pred_s]; exact vp_in_nI (by omega) (by omega))) only [nI_add, pk_mul, nI_ltI, nI_eq, z_eq, z_lt, z_gt, z_bN, bN_z, bN_p, bN_i1, nI_clamp, rng_nI, ↓reduceIte, if_true, if_false, not_true_eq_false, not_false_eq_true, true_and, and_true, and_self, false_and, and_false]
  rw [xs_69_3 (Or.inl rfl), h2]
  simp (disch := first | assumption | omega | decide | exact vp_in_nI (by omega) (by omega) | exact and1_bN _ | (simp only [pk_mul, nI_add, pred_s]; exact vp_in_nI (by omega) (by omega))) only [nI_add, pk_mul, nI_ltI, nI_eq, z_eq, z_lt, z_gt, z_bN, bN_z, bN_p, bN_i1, nI_clamp, rng_nI, ↓reduceIte, if_true, if_false, not_true_eq_false, not_false_eq_true, true_and, and_true, and_self, false_and, and_false, hu]
  rw [xs_69_9 (Or.inl rfl) (by rw [h2]; exact hvp), h2, xu_eq, nI_add, nI_clamp (by omega), xs_69_21]
  rfl
theorem k_give (H : INV I J t dr G T v bk pre ss) {x : Int32} : xr scr (d + 20) xc_60 0 [some (.ref 0), some (.int x)] [] (wS, I, J, wP t dr G) (AN scr (d + 20) xc_196 [some (.ref 58), some (.int x)]) := by
  have ht := H.1.1
  have hT := H.1.2.2.2.1
  have hM := H.1.2.2.2.2.1
  have hn := TR_n hT.1
  have hh5 := TR_h hT.1
  have hD := H.2.2.2.1
  have h10 : ¬ 1 = 0 := by decide
  by_cases hx : rng x (tN T) = true
  · obtain ⟨y, hy, rfl⟩ := rng_of hx (by omega)
    rcases day_cases hD with ⟨-, h1, h2⟩ | ⟨u, hu, h1, h2, hu2⟩
    · simp (disch := first | assumption | omega | decide | exact vp_in_nI (by omega) (by omega) | exact and1_bN _ | (simp only [pk_mul, nI_add, pred_s]; exact vp_in_nI (by omega) (by omega))) only [xs_60_0, xs_60_4, xs_60_5, xs_60_7, xs_60_10, xs_60_11, xs_60_13, xs_60_18, xs_60_20, xs_60_24, c_isOne ht hT.1, c_isBegun0 (Or.inl rfl) h1, Option.toList_some, Option.toList_none, List.cons_append, List.nil_append, List.append_nil, nI_add, pk_mul, nI_ltI, nI_eq, z_eq, z_lt, z_gt, z_bN, bN_z, bN_p, bN_i1, nI_clamp, rng_nI, ↓reduceIte, if_true, if_false, not_true_eq_false, not_false_eq_true, true_and, and_true, and_self, false_and, and_false, hy]
      refine AN_i ?_
      simp (disch := first | assumption | omega | decide | exact vp_in_nI (by omega) (by omega) | exact and1_bN _ | (simp only [pk_mul, nI_add, pred_s]; exact vp_in_nI (by omega) (by omega))) only [xs_196_0, xs_196_3, xs_196_4, xs_196_6, xs_196_10, xs_196_15, xs_196_20, xs_196_21, xs_196_23, m_isOne hM, h2, Option.toList_some, Option.toList_none, List.cons_append, List.nil_append, List.append_nil, nI_add, pk_mul, nI_ltI, nI_eq, z_eq, z_lt, z_gt, z_bN, bN_z, bN_p, bN_i1, nI_clamp, rng_nI, ↓reduceIte, if_true, if_false, not_true_eq_false, not_false_eq_true, true_and, and_true, and_self, false_and, and_false, hy]
      first | exact PST_i H | exact ⟨trivial, PST_i H⟩ | exact ⟨rfl, PST_i H⟩
    · have hu31 : u < 2 ^ 31 := by omega
      rw [xs_60_0 ht]
      simp (disch := first | assumption | omega | decide | exact vp_in_nI (by omega) (by omega) | exact and1_bN _ | (simp only [pk_mul, nI_add, pred_s]; exact vp_in_nI (by omega) (by omega))) only [c_isOne ht hT.1, Option.toList_some, Option.toList_none, List.cons_append, List.nil_append, List.append_nil, xs_60_4, nI_add, pk_mul, nI_ltI, nI_eq, z_eq, z_lt, z_gt, z_bN, bN_z, bN_p, bN_i1, nI_clamp, rng_nI, ↓reduceIte, if_true, if_false, not_true_eq_false, not_false_eq_true, true_and, and_true, and_self, false_and, and_false, hy, xs_60_7, c_isBegun1 (Or.inl rfl) h1 hu31, xs_60_10, h10, xs_60_11]
      refine c_openToday ht hT hD hu h1 (fun I2 f2 => ?_)
      have H2 := INV_32 H f2
      have hD2 := H2.2.2.2.1
      have hM2 := H2.1.2.2.2.2.1
      have e1 : I2 25 2 = nI u := by rw [f2 25 (by omega), h1]
      have e2 : I2 58 18 = nI u := by rw [f2 58 (by omega), h2]
      have ha := agn_lt T v bk pre y
      simp (disch := first | assumption | omega | decide | exact vp_in_nI (by omega) (by omega) | exact and1_bN _ | (simp only [pk_mul, nI_add, pred_s]; exact vp_in_nI (by omega) (by omega))) only [Option.toList_some, Option.toList_none, List.cons_append, List.nil_append, List.append_nil, xs_60_13, opn_bit hn hy, nI_add, pk_mul, nI_ltI, nI_eq, z_eq, z_lt, z_gt, z_bN, bN_z, bN_p, bN_i1, nI_clamp, rng_nI, ↓reduceIte, if_true, if_false, not_true_eq_false, not_false_eq_true, true_and, and_true, and_self, false_and, and_false]
      by_cases hok : pre.length ≤ tH T ∧ okB T v bk pre y = true
      · have hult : u < tH T := by omega
        have hu6 : u + 1 < 6 := by omega
        have hne : ¬ u = tH T := by omega
        have hag := agn_ok.mpr hok.2
        rw [if_neg (fun e => e hok)]
        simp (disch := first | assumption | omega | decide | exact vp_in_nI (by omega) (by omega) | exact and1_bN _ | (simp only [pk_mul, nI_add, pred_s]; exact vp_in_nI (by omega) (by omega))) only [xs_60_20, c_passTo e1 hu6, Option.toList_some, Option.toList_none, List.cons_append, List.nil_append, List.append_nil, xs_60_24, dps_252]
        refine AN_i ?_
        have e3 : dps I2 (u + 1) y 58 18 = nI u := by rw [dps_fr (by decide) (by decide), e2]
        have hM3 : MT (dps I2 (u + 1) y) T := MT_fr hM2 (by rw [dps_fr (by decide) (by decide)]) (by rw [dps_fr (by decide) (by decide)]) (dps_fr (by decide) (by decide))
        have hV3 : MV (dps I2 (u + 1) y) v bk := MV_fr hD2.2.2.2.1 (by rw [dps_fr (by decide) (by decide)]) (by rw [dps_fr (by decide) (by decide)])
        have hp3 : HD (dps I2 (u + 1) y) pre := fun i hi => by rw [dps_fr (by decide) (by decide)]; exact HD_of hD2 hh5 i hi
        have hvp : vp_in (dps I2 (u + 1) y 58 18 + nI 1) 6 := by rw [e3, nI_add]; exact vp_in_nI hu6 (by omega)
        simp (disch := first | assumption | omega | decide | exact vp_in_nI (by omega) (by omega) | exact and1_bN _ | (simp only [pk_mul, nI_add, pred_s]; exact vp_in_nI (by omega) (by omega))) only [xs_196_0, m_isOne hM3, Option.toList_some, Option.toList_none, List.cons_append, List.nil_append, List.append_nil, xs_196_3, nI_add, pk_mul, nI_ltI, nI_eq, z_eq, z_lt, z_gt, z_bN, bN_z, bN_p, bN_i1, nI_clamp, rng_nI, ↓reduceIte, if_true, if_false, not_true_eq_false, not_false_eq_true, true_and, and_true, and_self, false_and, and_false, hy, xs_196_6, e3, m9_ne, xs_196_10, MT_11 hM3, hne, xs_196_15, m_against hM3 hV3 hD2.2.1 hp3 hD2.2.2.2.2.2.1 hu hult hy, hag, xs_196_20, xs_196_23]
        rw [show xi_up (xi_up (dps I2 (u + 1) y) 58 18 (nI (u + 1))) 66 (u + 1) (nI y) = mps (dps I2 (u + 1) y) (u + 1) y from rfl]
        have H3 := INV_set (q := pre) H2 (fun i hi => ⟨hi, rfl⟩) hD2.2.2.2.2.2.1 hu (by omega) hy
        first | exact PST_i H3 | exact ⟨trivial, PST_i H3⟩
      · rw [if_pos hok, xs_60_18]
        refine AN_i ?_
        by_cases hne : u = tH T
        · simp (disch := first | assumption | omega | decide | exact vp_in_nI (by omega) (by omega) | exact and1_bN _ | (simp only [pk_mul, nI_add, pred_s]; exact vp_in_nI (by omega) (by omega))) only [xs_196_0, m_isOne hM2, Option.toList_some, Option.toList_none, List.cons_append, List.nil_append, List.append_nil, xs_196_3, nI_add, pk_mul, nI_ltI, nI_eq, z_eq, z_lt, z_gt, z_bN, bN_z, bN_p, bN_i1, nI_clamp, rng_nI, ↓reduceIte, if_true, if_false, not_true_eq_false, not_false_eq_true, true_and, and_true, and_self, false_and, and_false, hy, xs_196_6, e2, m9_ne, xs_196_10, MT_11 hM2, hne, xs_196_21]
          first | exact PST_i H2 | exact ⟨trivial, PST_i H2⟩
        · have hult : u < tH T := by omega
          have hag : ¬ agn T v bk pre y = 0 := fun e => hok ⟨by omega, agn_ok.mp e⟩
          simp (disch := first | assumption | omega | decide | exact vp_in_nI (by omega) (by omega) | exact and1_bN _ | (simp only [pk_mul, nI_add, pred_s]; exact vp_in_nI (by omega) (by omega))) only [xs_196_0, m_isOne hM2, Option.toList_some, Option.toList_none, List.cons_append, List.nil_append, List.append_nil, xs_196_3, nI_add, pk_mul, nI_ltI, nI_eq, z_eq, z_lt, z_gt, z_bN, bN_z, bN_p, bN_i1, nI_clamp, rng_nI, ↓reduceIte, if_true, if_false, not_true_eq_false, not_false_eq_true, true_and, and_true, and_self, false_and, and_false, hy, xs_196_6, e2, m9_ne, xs_196_10, MT_11 hM2, hne, xs_196_15, m_against hM2 hD2.2.2.2.1 hD2.2.1 (HD_of hD2 hh5) hD2.2.2.2.2.2.1 hu hult hy, xs_196_20, hag, xs_196_21]
          first | exact PST_i H2 | exact ⟨trivial, PST_i H2⟩
  · simp (disch := first | assumption | omega | decide | exact vp_in_nI (by omega) (by omega) | exact and1_bN _ | (simp only [pk_mul, nI_add, pred_s]; exact vp_in_nI (by omega) (by omega))) only [xs_60_0, xs_60_4, xs_60_5, xs_60_7, xs_60_10, xs_60_11, xs_60_13, xs_60_18, xs_60_20, xs_60_24, c_isOne ht hT.1, Option.toList_some, Option.toList_none, List.cons_append, List.nil_append, List.append_nil, nI_add, pk_mul, nI_ltI, nI_eq, z_eq, z_lt, z_gt, z_bN, bN_z, bN_p, bN_i1, nI_clamp, rng_nI, ↓reduceIte, if_true, if_false, not_true_eq_false, not_false_eq_true, true_and, and_true, and_self, false_and, and_false, hx]
    refine AN_i ?_
    simp (disch := first | assumption | omega | decide | exact vp_in_nI (by omega) (by omega) | exact and1_bN _ | (simp only [pk_mul, nI_add, pred_s]; exact vp_in_nI (by omega) (by omega))) only [xs_196_0, xs_196_3, xs_196_4, xs_196_6, xs_196_10, xs_196_15, xs_196_20, xs_196_21, xs_196_23, m_isOne hM, Option.toList_some, Option.toList_none, List.cons_append, List.nil_append, List.append_nil, nI_add, pk_mul, nI_ltI, nI_eq, z_eq, z_lt, z_gt, z_bN, bN_z, bN_p, bN_i1, nI_clamp, rng_nI, ↓reduceIte, if_true, if_false, not_true_eq_false, not_false_eq_true, true_and, and_true, and_self, false_and, and_false, hx]
    first | exact PST_i H | exact ⟨trivial, PST_i H⟩ | exact ⟨rfl, PST_i H⟩
theorem m9lt : (-9 : Int32) < nI 1 := by decide
theorem nm1 : ¬ (0 : Int32) < -1 := by decide
theorem k_undo (H : INV I J t dr G T v bk pre ss) : xr scr (d + 20) xc_70 0 [some (.ref 0)] [] (wS, I, J, wP t dr G) (AN scr (d + 20) xc_199 [some (.ref 58)]) := by
  have hh5 := TR_h H.1.2.2.2.1.1
  have hD := H.2.2.2.1
  rcases day_cases hD with ⟨-, h1, h2⟩ | ⟨u, hu, h1, h2, hu2⟩
  · simp (disch := first | assumption | omega | decide | exact vp_in_nI (by omega) (by omega) | exact and1_bN _ | (simp only [pk_mul, nI_add, pred_s]; exact vp_in_nI (by omega) (by omega))) only [xs_70_0, xs_70_4, xs_70_6, h1, nm1, ↓reduceIte]
    refine AN_i ?_
    simp (disch := first | assumption | omega | decide | exact vp_in_nI (by omega) (by omega) | exact and1_bN _ | (simp only [pk_mul, nI_add, pred_s]; exact vp_in_nI (by omega) (by omega))) only [xs_199_0, xs_199_4, xs_199_6, h2, m9lt, ↓reduceIte]
    first | exact PST_i H | exact ⟨trivial, PST_i H⟩ | exact ⟨rfl, PST_i H⟩
  · have hu31 : u < 2 ^ 31 := by omega
    by_cases h0 : 0 < u
    · obtain ⟨w, rfl⟩ : ∃ w, u = w + 1 := ⟨u - 1, by omega⟩
      have hn1 : ¬ w + 1 < 1 := by omega
      have e2 : xi_up I 25 2 (nI w) 58 18 = nI (w + 1) := by rw [xu_nc (by decide), h2]
      simp (disch := first | assumption | omega | decide | exact vp_in_nI (by omega) (by omega) | exact and1_bN _ | (simp only [pk_mul, nI_add, pred_s]; exact vp_in_nI (by omega) (by omega))) only [xs_70_0, xs_70_4, xs_70_6, h1, nI_add, pk_mul, nI_ltI, nI_eq, z_eq, z_lt, z_gt, z_bN, bN_z, bN_p, bN_i1, nI_clamp, rng_nI, ↓reduceIte, if_true, if_false, not_true_eq_false, not_false_eq_true, true_and, and_true, and_self, false_and, and_false, h0, pred_s]
      refine AN_i ?_
      simp (disch := first | assumption | omega | decide | exact vp_in_nI (by omega) (by omega) | exact and1_bN _ | (simp only [pk_mul, nI_add, pred_s]; exact vp_in_nI (by omega) (by omega))) only [xs_199_0, xs_199_4, xs_199_6, e2, nI_add, pk_mul, nI_ltI, nI_eq, z_eq, z_lt, z_gt, z_bN, bN_z, bN_p, bN_i1, nI_clamp, rng_nI, ↓reduceIte, if_true, if_false, not_true_eq_false, not_false_eq_true, true_and, and_true, and_self, false_and, and_false, hn1, pred_s]
      have H2 : INV (xi_up (xi_up I 25 2 (nI w)) 58 18 (nI w)) J t dr G T v bk (pre.take (w + 1)) ss := by
        refine INV_day H ⟨fun k hk => by rw [xu_fr (by omega), xu_fr (by omega)], by rw [xu_nc (by decide), xu_nc (by decide)], fun j hj => by rw [xu_nj (by omega), xu_nc (by decide)], by rw [xu_fr (by decide), xu_fr (by decide)]⟩ ?_ (IP_fr H.2.2.2.2.2.2.1 (by rw [xu_nc (by decide), xu_nc (by decide)]) (by rw [xu_fr (by decide), xu_fr (by decide)]) (by rw [xu_fr (by decide), xu_fr (by decide)]) rfl)
        obtain ⟨a1, a2, a3, a4, a5, a6, a7, a8, a9, a10, a11⟩ := hD
        have hl : (pre.take (w + 1)).length = w + 1 := by rw [List.length_take]; omega
        refine ⟨a1, a2, by rw [xu_nc (by decide), xu_nj (by decide), a3], ⟨by rw [xu_nj (by decide), xu_nc (by decide), a4.1], by rw [xu_nj (by decide), xu_nc (by decide), a4.2]⟩, by rw [xu_nc (by decide), xu_nj (by decide), a5], fun y hy => a6 y (List.mem_of_mem_take hy), by omega, fun e => (by rw [e] at hl; cases hl), fun u2 hu2 => ?_, fun i hi => ?_, fun i hi => by rw [xu_nc (by decide), xu_nc (by decide), xu_nc (by decide), xu_nc (by decide), a11 i hi]⟩
        · have : u2 = w := by omega
          rw [this]
          exact ⟨by rw [xu_nc (by decide), xu_eq], by rw [xu_eq]⟩
        · rw [xu_nc (by decide), xu_nc (by decide), a10 i (by omega)]
          congr 1
          rw [List.getD_eq_getElem?_getD, List.getD_eq_getElem?_getD, List.getElem?_take, if_pos (by omega)]
      first | exact PST_i H2 | exact ⟨trivial, PST_i H2⟩
    · have hu0 : u = 0 := by omega
      subst hu0
      have h01 : 0 < 1 := by decide
      simp (disch := first | assumption | omega | decide | exact vp_in_nI (by omega) (by omega) | exact and1_bN _ | (simp only [pk_mul, nI_add, pred_s]; exact vp_in_nI (by omega) (by omega))) only [xs_70_0, xs_70_4, xs_70_6, h1, nI_add, pk_mul, nI_ltI, nI_eq, z_eq, z_lt, z_gt, z_bN, bN_z, bN_p, bN_i1, nI_clamp, rng_nI, ↓reduceIte, if_true, if_false, not_true_eq_false, not_false_eq_true, true_and, and_true, and_self, false_and, and_false, Nat.lt_irrefl]
      refine AN_i ?_
      simp (disch := first | assumption | omega | decide | exact vp_in_nI (by omega) (by omega) | exact and1_bN _ | (simp only [pk_mul, nI_add, pred_s]; exact vp_in_nI (by omega) (by omega))) only [xs_199_0, xs_199_4, xs_199_6, h2, nI_add, pk_mul, nI_ltI, nI_eq, z_eq, z_lt, z_gt, z_bN, bN_z, bN_p, bN_i1, nI_clamp, rng_nI, ↓reduceIte, if_true, if_false, not_true_eq_false, not_false_eq_true, true_and, and_true, and_self, false_and, and_false, h01]
      first | exact PST_i H | exact ⟨trivial, PST_i H⟩ | exact ⟨rfl, PST_i H⟩
end CALLS4
