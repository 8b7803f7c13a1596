/-! call: judge -/
/-- the first HOUR in which a giving is against THE LAW, and what is -/
def jd (T : TN) (v : Nat) (bk : Bool) (row : List Nat) : Nat → Nat → Nat × Nat
  | u, 0 => (u, 0)
  | u, f + 1 => if agn T v bk (row.take (u + 1)) (row.getD (u + 1) 0) = 0 then jd T v bk row (u + 1) f else (u, agn T v bk (row.take (u + 1)) (row.getD (u + 1) 0))
section JUDGE
variable {scr : xi_X} {d : Nat} {Q : Option Value → xi_S → Prop} {I I2 : Nat → Nat → Int32} {J J2 : Nat → Nat → Int64} {t dr : Nat} {G G2 : Nat → Nat} {T : TN} {v v2 : Nat} {bk bk2 : Bool} {pre pre2 : List Nat} {ss ss2 : List SGT}
theorem row_of {g : Nat → Int32} {n m : Nat} (hn : n ≤ 7) (h : ∀ i, i < m → rng (g i) n = true) : ∃ row : List Nat, row.length = m ∧ inP n row ∧ ∀ i, i < m → g i = nI (row.getD i 0) := by
  refine ⟨(List.range m).map (fun i => (g i).toNatClampNeg), by simp, fun y hy => ?_, fun i hi => ?_⟩
  · obtain ⟨i, hi, rfl⟩ := List.mem_map.mp hy
    obtain ⟨j, hj, e⟩ := rng_of (h i (List.mem_range.mp hi)) (by omega)
    rw [e, nI_clamp (by omega)]
    exact hj
  · obtain ⟨j, hj, e⟩ := rng_of (h i hi) (by omega)
    rw [List.getD_eq_getElem?_getD, List.getElem?_map, List.getElem?_range hi]
    simp only [Option.map_some, Option.getD_some]
    rw [e, nI_clamp (by omega)]
theorem c_judgeHands {a : Nat} (ha : rwc a) (ht : tw t) (hT : TT I t T) (hv1 : 1 ≤ v) (hv : v ≤ 5) (h25 : I 25 0 = nI v) (h251 : I 25 1 = nI (bN (bk = true))) {row : List Nat} (hl : row.length = tH T + 1) (hin : inP (tN T) row) (hr : ∀ i, i < row.length → I a i = nI (row.getD i 0)) (hq : ∀ I2 : Nat → Nat → Int32, FrA I I2 32 → Q (some (.int (nI (jd T v bk row 0 (tH T)).1))) (wS, xi_up I2 0 14 (nI (jd T v bk row 0 (tH T)).2), J, wP t dr (wU 32 t G))) : xr scr (d + 6) xc_91 0 [some (.ref 0), some (.ref a), none, none] [] (wS, I, J, wP t dr G) Q := by
  have hh5 := TR_h hT.1
  have ht' : t = 15 ∨ t = 20 := ht
  have ha' : 2 ≤ a ∧ a ≤ 7 := ha
  rw [xs_91_0, h25, h251]
  refine c_prepare (d := d + 1) (Or.inl rfl) ht hT hv1 hv (fun I1 f1 W1 T1 s1 => ?_)
  have hT1 : TT I1 t T := TT_frA (w := 32) (Or.inl rfl) ht f1 hT
  simp (disch := first | assumption | omega | decide | exact vp_in_nI (by omega) (by omega) | exact and1_bN _ | (simp only [pk_mul, nI_add, pred_s]; exact vp_in_nI (by omega) (by omega))) only [Option.toList_some, Option.toList_none, List.cons_append, List.nil_append, List.append_nil]
  rw [xs_91_11 ha (vp_in_nI (by decide) (by decide)), nI_clamp (by decide), f1 a (by omega), hr 0 (by omega)]
  refine c_take (pre := []) (d := d + 4) (Or.inl rfl) ht wU_eq hT1 hv W1 (inP_get hin (by omega)) (by simp) (fun I2 f2 W2 => ?_)
  simp (disch := first | assumption | omega | decide | exact vp_in_nI (by omega) (by omega) | exact and1_bN _ | (simp only [pk_mul, nI_add, pred_s]; exact vp_in_nI (by omega) (by omega))) only [Option.toList_some, Option.toList_none, List.cons_append, List.nil_append, List.append_nil, xs_91_18]
  have key : ∀ f u, u + f = tH T → jd T v bk row 0 (tH T) = jd T v bk row u f → ∀ (I3 : Nat → Nat → Int32) (o3 : Option Value), FrA I I3 32 → WK I3 32 T v bk false (fun _ _ => true) (row.take (u + 1)) → xr scr (d + 6) xc_91 20 [some (.ref 0), some (.ref a), some (.int (nI u)), o3] [] (wS, I3, J, wP t dr (wU 32 t G)) Q := by
    intro f
    induction f with
    | zero =>
      intro u hu hj I3 o3 f3 W3
      have hT3 : TT I3 t T := TT_frA (w := 32) (Or.inl rfl) ht f3 hT
      have e0 : xi_up I3 0 14 (nI 0) t 0 = nI (tH T) := by rw [xu_nc (by omega), TR_0 hT3.1]
      have hnl : ¬ u < tH T := by omega
      rw [xs_91_20 ht, TR_0 hT3.1]
      simp (disch := first | assumption | omega | decide | exact vp_in_nI (by omega) (by omega) | exact and1_bN _ | (simp only [pk_mul, nI_add, pred_s]; exact vp_in_nI (by omega) (by omega))) only [Bool.false_eq_true, nI_add, pk_mul, nI_ltI, nI_eq, z_eq, z_lt, z_gt, z_bN, bN_z, bN_p, bN_i1, nI_clamp, rng_nI, ↓reduceIte, if_true, if_false, not_true_eq_false, not_false_eq_true, true_and, and_true, and_self, false_and, and_false, hnl]
      rw [xs_91_61 ht, e0]
      have := hq I3 f3
      rw [hj, show jd T v bk row u 0 = (u, 0) from rfl, show u = tH T by omega] at this
      exact this
    | succ f ih =>
      intro u hu hj I3 o3 f3 W3
      have hT3 : TT I3 t T := TT_frA (w := 32) (Or.inl rfl) ht f3 hT
      have hult : u < tH T := by omega
      have hu40 : u + 1 < 40 := by omega
      have htl : (row.take (u + 1)).length = u + 1 := by rw [List.length_take]; omega
      have hinT : inP (tN T) (row.take (u + 1)) := fun y hy => hin y (List.mem_of_mem_take hy)
      have hy : row.getD (u + 1) 0 < tN T := inP_get hin (by omega)
      have e1 : I3 a (u + 1) = nI (row.getD (u + 1) 0) := by rw [f3 a (by omega), hr _ (by omega)]
      have hag := agn_lt T v bk (row.take (u + 1)) (row.getD (u + 1) 0)
      rw [show jd T v bk row u (f + 1) = if agn T v bk (row.take (u + 1)) (row.getD (u + 1) 0) = 0 then jd T v bk row (u + 1) f else (u, agn T v bk (row.take (u + 1)) (row.getD (u + 1) 0)) from rfl] at hj
      rw [xs_91_20 ht, TR_0 hT3.1]
      simp (disch := first | assumption | omega | decide | exact vp_in_nI (by omega) (by omega) | exact and1_bN _ | (simp only [pk_mul, nI_add, pred_s]; exact vp_in_nI (by omega) (by omega))) only [Bool.false_eq_true, nI_add, pk_mul, nI_ltI, nI_eq, z_eq, z_lt, z_gt, z_bN, bN_z, bN_p, bN_i1, nI_clamp, rng_nI, ↓reduceIte, if_true, if_false, not_true_eq_false, not_false_eq_true, true_and, and_true, and_self, false_and, and_false, hult, xs_91_25, hu40]
      rw [xs_91_31 ha (by rw [nI_add]; exact vp_in_nI hu40 (by omega)), nI_add, nI_clamp (by omega), e1]
      simp (disch := first | assumption | omega | decide | exact vp_in_nI (by omega) (by omega) | exact and1_bN _ | (simp only [pk_mul, nI_add, pred_s]; exact vp_in_nI (by omega) (by omega))) only [c_against (w := 32) (Or.inl rfl) ht wU_eq hT3 W3 hinT htl hult hy, Option.toList_some, Option.toList_none, List.cons_append, List.nil_append, List.append_nil, xs_91_40, Bool.false_eq_true, nI_add, pk_mul, nI_ltI, nI_eq, z_eq, z_lt, z_gt, z_bN, bN_z, bN_p, bN_i1, nI_clamp, rng_nI, ↓reduceIte, if_true, if_false, not_true_eq_false, not_false_eq_true, true_and, and_true, and_self, false_and, and_false]
      by_cases h0 : agn T v bk (row.take (u + 1)) (row.getD (u + 1) 0) = 0
      · rw [if_pos h0] at hj
        rw [if_pos h0, xs_91_48 ha (by rw [nI_add]; exact vp_in_nI hu40 (by omega)), nI_add, nI_clamp (by omega), e1]
        have ct := fun Q2 => c_take (scr := scr) (d := d + 4) (J := J) (dr := dr) (G := wU 32 t G) (Q := Q2) (Or.inl rfl) ht wU_eq hT3 hv W3 hy (by omega)
        rw [htl] at ct
        refine ct _ (fun I4 f4 W4 => ?_)
        simp (disch := first | assumption | omega | decide | exact vp_in_nI (by omega) (by omega) | exact and1_bN _ | (simp only [pk_mul, nI_add, pred_s]; exact vp_in_nI (by omega) (by omega))) only [Option.toList_some, Option.toList_none, List.cons_append, List.nil_append, List.append_nil, xs_91_59, Bool.false_eq_true, nI_add, pk_mul, nI_ltI, nI_eq, z_eq, z_lt, z_gt, z_bN, bN_z, bN_p, bN_i1, nI_clamp, rng_nI, ↓reduceIte, if_true, if_false, not_true_eq_false, not_false_eq_true, true_and, and_true, and_self, false_and, and_false]
        refine ih (u + 1) (by omega) hj I4 _ (FrA_trans f3 (FrA_W (FrT_W f4))) ?_
        rw [take_s (by omega)]
        exact W4
      · rw [if_neg h0] at hj
        rw [if_neg h0, xs_91_43]
        have := hq I3 f3
        rw [hj] at this
        exact this
  refine key (tH T) 0 (by omega) rfl I2 _ (FrA_trans f1 (FrA_W (FrT_W f2))) ?_
  rw [take_s (by omega)]
  exact W2
theorem m_judgeL (hM : MT I T) (hV : MV I v bk) (hv : v ≤ 5) {r : Nat} (hr : r < 6) {x3 : Int32} {row : List Nat} (hl : row.length = tH T + 1) (hin : inP (tN T) row) (h61 : ∀ i, i < row.length → I 61 (40 * r + i) = nI (row.getD i 0)) (hq : ∀ I2 : Nat → Nat → Int32, (∀ k, k ≠ 66 → k ≠ 67 → I2 k = I k) → (∀ i, i < 6 → I2 66 i = I 66 i) → Q (some (.int (nI (jd T v bk row 0 (tH T)).1))) (wS, xi_up I2 58 2 (nI (jd T v bk row 0 (tH T)).2), J, wP t dr G)) : xr scr (d + 5) xc_213 50 [some (.ref 58), some (.int (nI r)), some (.int (nI 0)), some (.int x3), none] [] (wS, I, J, wP t dr G) Q := by
  have hn := MT_n hM
  have hh5 := MT_h hM
  rw [xs_213_50]
  refine m_putAside (fun I1 f1 a1 => ?_)
  have h040 : 0 < 40 := by decide
  simp (disch := first | assumption | omega | decide | exact vp_in_nI (by omega) (by omega) | exact and1_bN _ | (simp only [pk_mul, nI_add, pred_s]; exact vp_in_nI (by omega) (by omega))) only [Option.toList_some, Option.toList_none, List.cons_append, List.nil_append, List.append_nil, xs_213_52, m_rowAt hr h040]
  rw [xs_213_59 (vp_in_nI (by decide) (by decide)), nI_clamp (by decide), f1 61 (by decide), h61 0 (by omega)]
  have key : ∀ f u, u + f = tH T → jd T v bk row 0 (tH T) = jd T v bk row u f → ∀ (I3 : Nat → Nat → Int32), (∀ k, k ≠ 66 → I3 k = I1 k) → (∀ i, i ≤ u → I3 66 i = nI (row.getD i 0)) → xr scr (d + 5) xc_213 64 [some (.ref 58), some (.int (nI r)), some (.int (nI 0)), some (.int (nI u)), some (.int (nI 0))] [] (wS, I3, J, wP t dr G) Q := by
    have fin : ∀ (I3 : Nat → Nat → Int32) (u a : Nat), (∀ k, k ≠ 66 → I3 k = I1 k) → jd T v bk row 0 (tH T) = (u, a) → xr scr (d + 5) xc_213 101 [some (.ref 58), some (.int (nI r)), some (.int (nI 0)), some (.int (nI u)), some (.int (nI a))] [] (wS, I3, J, wP t dr G) Q := by
      intro I3 u a f3 hj
      rw [xs_213_101]
      refine m_comeBack (fun I4 f4 a4 => ?_)
      simp (disch := first | assumption | omega | decide | exact vp_in_nI (by omega) (by omega) | exact and1_bN _ | (simp only [pk_mul, nI_add, pred_s]; exact vp_in_nI (by omega) (by omega))) only [Option.toList_some, Option.toList_none, List.cons_append, List.nil_append, List.append_nil, xs_213_103, m_say, xs_213_107]
      have := hq I4 (fun k h1 h2 => by rw [f4 k h1, f3 k h1, f1 k h2]) (fun i hi => by rw [a4 i hi, f3 67 (by decide), a1 i hi])
      rw [hj] at this
      exact this
    intro f
    induction f with
    | zero =>
      intro u hu hj I3 f3 a3
      have e11 : I3 58 11 = nI (tH T) := by rw [f3 58 (by decide), f1 58 (by decide), MT_11 hM]
      have hnl : ¬ u < tH T := by omega
      rw [xs_213_64, e11]
      simp (disch := first | assumption | omega | decide | exact vp_in_nI (by omega) (by omega) | exact and1_bN _ | (simp only [pk_mul, nI_add, pred_s]; exact vp_in_nI (by omega) (by omega))) only [Bool.false_eq_true, nI_add, pk_mul, nI_ltI, nI_eq, z_eq, z_lt, z_gt, z_bN, bN_z, bN_p, bN_i1, nI_clamp, rng_nI, ↓reduceIte, if_true, if_false, not_true_eq_false, not_false_eq_true, true_and, and_true, and_self, false_and, and_false, hnl]
      exact fin I3 u 0 f3 hj
    | succ f ih =>
      intro u hu hj I3 f3 a3
      have i58 : I3 58 = I 58 := by rw [f3 58 (by decide), f1 58 (by decide)]
      have hM3 : MT I3 T := MT_fr hM (by rw [i58]) (by rw [i58]) (by rw [f3 65 (by decide), f1 65 (by decide)])
      have hV3 : MV I3 v bk := MV_fr hV (by rw [i58]) (by rw [i58])
      have hult : u < tH T := by omega
      have hu40 : u + 1 < 40 := by omega
      have htl : (row.take (u + 1)).length = u + 1 := by rw [List.length_take]; omega
      have hinT : inP (tN T) (row.take (u + 1)) := fun y hy => hin y (List.mem_of_mem_take hy)
      have hy : row.getD (u + 1) 0 < tN T := inP_get hin (by omega)
      have e1 : I3 61 (40 * r + (u + 1)) = nI (row.getD (u + 1) 0) := by rw [f3 61 (by decide), f1 61 (by decide), h61 _ (by omega)]
      have hp3 : HD I3 (row.take (u + 1)) := fun i hi => by
        rw [htl] at hi
        rw [a3 i (by omega)]
        congr 1
        rw [List.getD_eq_getElem?_getD, List.getD_eq_getElem?_getD, List.getElem?_take, if_pos hi]
      have hag := agn_lt T v bk (row.take (u + 1)) (row.getD (u + 1) 0)
      rw [show jd T v bk row u (f + 1) = if agn T v bk (row.take (u + 1)) (row.getD (u + 1) 0) = 0 then jd T v bk row (u + 1) f else (u, agn T v bk (row.take (u + 1)) (row.getD (u + 1) 0)) from rfl] at hj
      rw [xs_213_64, MT_11 hM3]
      simp (disch := first | assumption | omega | decide | exact vp_in_nI (by omega) (by omega) | exact and1_bN _ | (simp only [pk_mul, nI_add, pred_s]; exact vp_in_nI (by omega) (by omega))) only [Bool.false_eq_true, nI_add, pk_mul, nI_ltI, nI_eq, z_eq, z_lt, z_gt, z_bN, bN_z, bN_p, bN_i1, nI_clamp, rng_nI, ↓reduceIte, if_true, if_false, not_true_eq_false, not_false_eq_true, true_and, and_true, and_self, false_and, and_false, hult, xs_213_68, xs_213_70, m_rowAt hr hu40, Option.toList_some, Option.toList_none, List.cons_append, List.nil_append, List.append_nil, xs_213_78, e1, m_against hM3 hV3 hv hp3 hinT htl hult hy, xs_213_79]
      rw [xs_213_91 (vp_in_nI (by omega) (by omega)), nI_clamp (by omega)]
      obtain ⟨I4, hI4⟩ : ∃ I4 : Nat → Nat → Int32, I4 = xi_up I3 66 (u + 1) (nI (row.getD (u + 1) 0)) := ⟨_, rfl⟩
      rw [← hI4]
      have f4 : ∀ k, k ≠ 66 → I4 k = I1 k := fun k hk => by rw [hI4, xu_fr hk, f3 k hk]
      by_cases h0 : agn T v bk (row.take (u + 1)) (row.getD (u + 1) 0) = 0
      · rw [if_pos h0] at hj
        rw [h0, if_pos nI_0]
        simp (disch := first | assumption | omega | decide | exact vp_in_nI (by omega) (by omega) | exact and1_bN _ | (simp only [pk_mul, nI_add, pred_s]; exact vp_in_nI (by omega) (by omega))) only [xs_213_95, xs_213_98, Bool.false_eq_true, nI_add, pk_mul, nI_ltI, nI_eq, z_eq, z_lt, z_gt, z_bN, bN_z, bN_p, bN_i1, nI_clamp, rng_nI, ↓reduceIte, if_true, if_false, not_true_eq_false, not_false_eq_true, true_and, and_true, and_self, false_and, and_false]
        refine ih (u + 1) (by omega) hj I4 f4 (fun i hi => ?_)
        rw [hI4, xu_at]
        by_cases e : i = u + 1
        · rw [if_pos e, e]
        · rw [if_neg e, a3 i (by omega)]
      · rw [if_neg h0] at hj
        have hz : ¬ nI (agn T v bk (row.take (u + 1)) (row.getD (u + 1) 0)) = 0 := nI_ne0 (by omega) (by omega)
        have e11 : I4 58 11 = nI (tH T) := by rw [f4 58 (by decide), f1 58 (by decide), MT_11 hM]
        rw [if_neg hz]
        simp (disch := first | assumption | omega | decide | exact vp_in_nI (by omega) (by omega) | exact and1_bN _ | (simp only [pk_mul, nI_add, pred_s]; exact vp_in_nI (by omega) (by omega))) only [xs_213_97, xs_213_98, Bool.false_eq_true, nI_add, pk_mul, nI_ltI, nI_eq, z_eq, z_lt, z_gt, z_bN, bN_z, bN_p, bN_i1, nI_clamp, rng_nI, ↓reduceIte, if_true, if_false, not_true_eq_false, not_false_eq_true, true_and, and_true, and_self, false_and, and_false, Nat.add_zero]
        rw [xs_213_64, e11, if_pos ((nI_ltI (by omega) (by omega)).mpr hult), xs_213_68, if_neg hz]
        exact fin I4 u _ f4 hj
  exact key (tH T) 0 (by omega) rfl _ (fun k hk => by rw [xu_fr hk]) (fun i hi => by rw [show i = 0 by omega, xu_eq])
theorem three5 : 3 ≤ 5 := by decide
theorem one3 : 1 ≤ 3 := by decide
theorem k_judge (H : INV I J t dr G T v bk pre ss) {x : Int32} : xr scr (d + 20) xc_90 0 [some (.ref 0), some (.int x), none] [] (wS, I, J, wP t dr G) (AN scr (d + 20) xc_213 [some (.ref 58), some (.int x), none, none, none]) := by
  have ht := H.1.1
  have hT := H.1.2.2.2.1
  have hM := H.1.2.2.2.2.1
  have hn := TR_n hT.1
  have hh5 := TR_h hT.1
  have hD := H.2.2.2.1
  by_cases hx : rng x 6 = true
  · obtain ⟨r, hr, rfl⟩ := rng_of hx (by decide)
    have hcl : (nI r).toNatClampNeg = r := nI_clamp (by omega)
    rw [xs_90_0]
    simp (disch := first | assumption | omega | decide | exact vp_in_nI (by omega) (by omega) | exact and1_bN _ | (simp only [pk_mul, nI_add, pred_s]; exact vp_in_nI (by omega) (by omega))) only [c_isRow, Option.toList_some, Option.toList_none, List.cons_append, List.nil_append, List.append_nil, xs_90_2, Bool.false_eq_true, nI_add, pk_mul, nI_ltI, nI_eq, z_eq, z_lt, z_gt, z_bN, bN_z, bN_p, bN_i1, nI_clamp, rng_nI, ↓reduceIte, if_true, if_false, not_true_eq_false, not_false_eq_true, true_and, and_true, and_self, false_and, and_false, hr]
    rw [xs_90_5 ht, TR_0 hT.1]
    by_cases h0 : tH T = 0
    · rw [h0, if_pos nI_0, xs_90_9]
      refine AN_i ?_
      have e11 : I 58 11 = nI 0 := by rw [MT_11 hM, h0]
      simp (disch := first | assumption | omega | decide | exact vp_in_nI (by omega) (by omega) | exact and1_bN _ | (simp only [pk_mul, nI_add, pred_s]; exact vp_in_nI (by omega) (by omega))) only [xs_213_0, m_isRow, Option.toList_some, Option.toList_none, List.cons_append, List.nil_append, List.append_nil, xs_213_2, Bool.false_eq_true, nI_add, pk_mul, nI_ltI, nI_eq, z_eq, z_lt, z_gt, z_bN, bN_z, bN_p, bN_i1, nI_clamp, rng_nI, ↓reduceIte, if_true, if_false, not_true_eq_false, not_false_eq_true, true_and, and_true, and_self, false_and, and_false, hr, xs_213_5, e11, xs_213_8]
      first | exact PST_i H | exact ⟨trivial, PST_i H⟩ | exact ⟨rfl, PST_i H⟩
    · have hz : ¬ nI (tH T) = 0 := nI_ne0 (by omega) (by omega)
      have mhead : ∀ (I1 : Nat → Nat → Int32) (Q : Option Value → xi_S → Prop), I1 58 11 = nI (tH T) → xr scr (d + 20) xc_213 0 [some (.ref 58), some (.int (nI r)), none, none, none] [] (wS, I1, J, wP t dr G) Q = xr scr (d + 20) xc_213 10 [some (.ref 58), some (.int (nI r)), none, none, none] [] (wS, I1, J, wP t dr G) Q := fun I1 Q e11 => by
        simp (disch := first | assumption | omega | decide | exact vp_in_nI (by omega) (by omega) | exact and1_bN _ | (simp only [pk_mul, nI_add, pred_s]; exact vp_in_nI (by omega) (by omega))) only [xs_213_0, m_isRow, Option.toList_some, Option.toList_none, List.cons_append, List.nil_append, List.append_nil, xs_213_2, Bool.false_eq_true, nI_add, pk_mul, nI_ltI, nI_eq, z_eq, z_lt, z_gt, z_bN, bN_z, bN_p, bN_i1, nI_clamp, rng_nI, ↓reduceIte, if_true, if_false, not_true_eq_false, not_false_eq_true, true_and, and_true, and_self, false_and, and_false, hr, xs_213_5, e11, hz]
      rw [if_neg hz, xs_90_11 (vp_in_nI hr (by omega)), hcl]
      rcases H.2.1.1 r hr with ⟨s, hs, h8, h60⟩ | ⟨h8, h60⟩
      · have msz : ∀ (I1 : Nat → Nat → Int32) (Q : Option Value → xi_S → Prop), I1 58 11 = nI (tH T) → I1 60 r = nI s → xr scr (d + 20) xc_213 0 [some (.ref 58), some (.int (nI r)), none, none, none] [] (wS, I1, J, wP t dr G) Q = if s = tH T + 1 then xr scr (d + 20) xc_213 31 [some (.ref 58), some (.int (nI r)), some (.int (nI 0)), none, none] [] (wS, I1, J, wP t dr G) Q else xr scr (d + 20) xc_213 27 [some (.ref 58), some (.int (nI r)), some (.int (nI 0)), none, none] [] (wS, I1, J, wP t dr G) Q := fun I1 Q e11 e60 => by
          rw [mhead I1 Q e11]
          simp (disch := first | assumption | omega | decide | exact vp_in_nI (by omega) (by omega) | exact and1_bN _ | (simp only [pk_mul, nI_add, pred_s]; exact vp_in_nI (by omega) (by omega))) only [xs_213_10, m_askRow_ok hr hs e60, Option.toList_some, Option.toList_none, List.cons_append, List.nil_append, List.append_nil, xs_213_13, n0l, ↓reduceIte]
          rw [xs_213_18 (vp_in_nI hr (by omega)), hcl, e60, e11]
          simp (disch := first | assumption | omega | decide | exact vp_in_nI (by omega) (by omega) | exact and1_bN _ | (simp only [pk_mul, nI_add, pred_s]; exact vp_in_nI (by omega) (by omega))) only [Bool.false_eq_true, nI_add, pk_mul, nI_ltI, nI_eq, z_eq, z_lt, z_gt, z_bN, bN_z, bN_p, bN_i1, nI_clamp, rng_nI, ↓reduceIte, if_true, if_false, not_true_eq_false, not_false_eq_true, true_and, and_true, and_self, false_and, and_false]
        rw [h8, if_neg (nI_pos (by omega)), xs_90_20 (vp_in_nI hr (by omega)) ht, hcl, h8, TR_0 hT.1]
        simp (disch := first | assumption | omega | decide | exact vp_in_nI (by omega) (by omega) | exact and1_bN _ | (simp only [pk_mul, nI_add, pred_s]; exact vp_in_nI (by omega) (by omega))) only [Bool.false_eq_true, nI_add, pk_mul, nI_ltI, nI_eq, z_eq, z_lt, z_gt, z_bN, bN_z, bN_p, bN_i1, nI_clamp, rng_nI, ↓reduceIte, if_true, if_false, not_true_eq_false, not_false_eq_true, true_and, and_true, and_self, false_and, and_false]
        by_cases hsz : s = tH T + 1
        · rw [if_pos hsz, xs_90_34]
          have h61 : ∀ i, i < tH T + 1 → I 61 (40 * r + i) = I (2 + r) i := fun i hi => (H.2.1.2 r hr i (by omega)).symm
          by_cases hall : ∀ i, i < tH T + 1 → rng (I (2 + r) i) (tN T) = true
          · obtain ⟨row, hl, hin, hrow⟩ := row_of hn hall
            have cpass : ∀ Q, xr scr (d + 20) xc_90 36 [some (.ref 0), some (.int (nI r)), some (.int (nI 0))] [] (wS, I, J, wP t dr G) Q = xr scr (d + 20) xc_90 57 [some (.ref 0), some (.int (nI r)), some (.int (nI (tH T + 1)))] [] (wS, I, J, wP t dr G) Q := fun Q => by
              refine up_0 (P := fun i => xr scr (d + 20) xc_90 36 [some (.ref 0), some (.int (nI r)), some (.int (nI i))] [] (wS, I, J, wP t dr G) Q = xr scr (d + 20) xc_90 57 [some (.ref 0), some (.int (nI r)), some (.int (nI (tH T + 1)))] [] (wS, I, J, wP t dr G) Q) (tH T + 1) (fun i hi h => ?_) ?_
              · have hni : ¬ tH T < i := by omega
                have hr1 := hall i hi
                rw [xs_90_36 ht, TR_0 hT.1]
                simp (disch := first | assumption | omega | decide | exact vp_in_nI (by omega) (by omega) | exact and1_bN _ | (simp only [pk_mul, nI_add, pred_s]; exact vp_in_nI (by omega) (by omega))) only [Bool.false_eq_true, nI_add, pk_mul, nI_ltI, nI_eq, z_eq, z_lt, z_gt, z_bN, bN_z, bN_p, bN_i1, nI_clamp, rng_nI, ↓reduceIte, if_true, if_false, not_true_eq_false, not_false_eq_true, true_and, and_true, and_self, false_and, and_false, hni]
                rw [xs_90_41 (vp_in_nI hr (by omega)) (vp_in_nI (by omega) (by omega)) ht, hcl, nI_clamp (by omega), c_isOne ht hT.1]
                simp (disch := first | assumption | omega | decide | exact vp_in_nI (by omega) (by omega) | exact and1_bN _ | (simp only [pk_mul, nI_add, pred_s]; exact vp_in_nI (by omega) (by omega))) only [Option.toList_some, Option.toList_none, List.cons_append, List.nil_append, List.append_nil, xs_90_50, Bool.false_eq_true, nI_add, pk_mul, nI_ltI, nI_eq, z_eq, z_lt, z_gt, z_bN, bN_z, bN_p, bN_i1, nI_clamp, rng_nI, ↓reduceIte, if_true, if_false, not_true_eq_false, not_false_eq_true, true_and, and_true, and_self, false_and, and_false, hr1, xs_90_55]
                exact h
              · have hni : tH T < tH T + 1 := by omega
                rw [xs_90_36 ht, TR_0 hT.1]
                simp (disch := first | assumption | omega | decide | exact vp_in_nI (by omega) (by omega) | exact and1_bN _ | (simp only [pk_mul, nI_add, pred_s]; exact vp_in_nI (by omega) (by omega))) only [Bool.false_eq_true, nI_add, pk_mul, nI_ltI, nI_eq, z_eq, z_lt, z_gt, z_bN, bN_z, bN_p, bN_i1, nI_clamp, rng_nI, ↓reduceIte, if_true, if_false, not_true_eq_false, not_false_eq_true, true_and, and_true, and_self, false_and, and_false, hni]
            rw [cpass, xs_90_57 (vp_in_nI hr (by omega)), hcl]
            refine c_judgeHands (d := d + 13) (by omega) ht hT hD.1 hD.2.1 hD.2.2.1 hD.2.2.2.2.1 hl hin (fun i hi => hrow i (by omega)) (fun I2 f2 => ?_)
            simp (disch := first | assumption | omega | decide | exact vp_in_nI (by omega) (by omega) | exact and1_bN _ | (simp only [pk_mul, nI_add, pred_s]; exact vp_in_nI (by omega) (by omega))) only [Option.toList_some, Option.toList_none, List.cons_append, List.nil_append, List.append_nil, xs_90_63]
            have H2 := INV_32 H f2
            obtain ⟨q, hq⟩ : ∃ q, q = nI (jd T v bk row 0 (tH T)).2 := ⟨_, rfl⟩
            rw [← hq]
            refine AN_i ?_
            have f3 : ∀ k, k ≠ 0 → (k < 32 ∨ 37 < k) → xi_up I2 0 14 q k = I k := fun k hk h => by rw [xu_fr hk, f2 k (by omega)]
            have e11 : xi_up I2 0 14 q 58 11 = nI (tH T) := by rw [f3 58 (by decide) (by decide), MT_11 hM]
            have e60 : xi_up I2 0 14 q 60 r = nI s := by rw [f3 60 (by decide) (by decide), h60]
            have hM3 : MT (xi_up I2 0 14 q) T := MT_fr hM (by rw [f3 58 (by decide) (by decide)]) (by rw [f3 58 (by decide) (by decide)]) (f3 65 (by decide) (by decide))
            have hV3 : MV (xi_up I2 0 14 q) v bk := MV_fr hD.2.2.2.1 (by rw [f3 58 (by decide) (by decide)]) (by rw [f3 58 (by decide) (by decide)])
            have ms2 : xr scr (d + 20) xc_213 0 [some (.ref 58), some (.int (nI r)), none, none, none] [] (wS, xi_up I2 0 14 q, J, wP t dr (wU 32 t G)) (fun r2 S2 => r2 = some (.int (nI (jd T v bk row 0 (tH T)).1)) ∧ PST S2) = xr scr (d + 20) xc_213 31 [some (.ref 58), some (.int (nI r)), some (.int (nI 0)), none, none] [] (wS, xi_up I2 0 14 q, J, wP t dr (wU 32 t G)) (fun r2 S2 => r2 = some (.int (nI (jd T v bk row 0 (tH T)).1)) ∧ PST S2) := by
              simp (disch := first | assumption | omega | decide | exact vp_in_nI (by omega) (by omega) | exact and1_bN _ | (simp only [pk_mul, nI_add, pred_s]; exact vp_in_nI (by omega) (by omega))) only [xs_213_0, m_isRow, Option.toList_some, Option.toList_none, List.cons_append, List.nil_append, List.append_nil, xs_213_2, Bool.false_eq_true, nI_add, pk_mul, nI_ltI, nI_eq, z_eq, z_lt, z_gt, z_bN, bN_z, bN_p, bN_i1, nI_clamp, rng_nI, ↓reduceIte, if_true, if_false, not_true_eq_false, not_false_eq_true, true_and, and_true, and_self, false_and, and_false, hr, xs_213_5, e11, hz, xs_213_10, m_askRow_ok hr hs e60, xs_213_13, n0l]
              rw [xs_213_18 (vp_in_nI hr (by omega)), hcl, e60, e11]
              simp (disch := first | assumption | omega | decide | exact vp_in_nI (by omega) (by omega) | exact and1_bN _ | (simp only [pk_mul, nI_add, pred_s]; exact vp_in_nI (by omega) (by omega))) only [Bool.false_eq_true, nI_add, pk_mul, nI_ltI, nI_eq, z_eq, z_lt, z_gt, z_bN, bN_z, bN_p, bN_i1, nI_clamp, rng_nI, ↓reduceIte, if_true, if_false, not_true_eq_false, not_false_eq_true, true_and, and_true, and_self, false_and, and_false, hsz]
            rw [ms2, xs_213_31]
            have mpass : ∀ (t1 dr1 : Nat) (G1 : Nat → Nat) Q, xr scr (d + 20) xc_213 33 [some (.ref 58), some (.int (nI r)), some (.int (nI 0)), some (.int (nI 0)), none] [] (wS, xi_up I2 0 14 q, J, wP t1 dr1 G1) Q = xr scr (d + 20) xc_213 50 [some (.ref 58), some (.int (nI r)), some (.int (nI 0)), some (.int (nI (tH T + 1))), none] [] (wS, xi_up I2 0 14 q, J, wP t1 dr1 G1) Q := fun t1 dr1 G1 Q => by
              refine up_0 (P := fun i => xr scr (d + 20) xc_213 33 [some (.ref 58), some (.int (nI r)), some (.int (nI 0)), some (.int (nI i)), none] [] (wS, xi_up I2 0 14 q, J, wP t1 dr1 G1) Q = xr scr (d + 20) xc_213 50 [some (.ref 58), some (.int (nI r)), some (.int (nI 0)), some (.int (nI (tH T + 1))), none] [] (wS, xi_up I2 0 14 q, J, wP t1 dr1 G1) Q) (tH T + 1) (fun i hi h => ?_) ?_
              · have hni : ¬ tH T < i := by omega
                have hi40 : i < 40 := by omega
                have hr1 := hall i hi
                have e61 : xi_up I2 0 14 q 61 (40 * r + i) = I (2 + r) i := by rw [f3 61 (by decide) (by decide), h61 i hi]
                rw [xs_213_33, e11]
                simp (disch := first | assumption | omega | decide | exact vp_in_nI (by omega) (by omega) | exact and1_bN _ | (simp only [pk_mul, nI_add, pred_s]; exact vp_in_nI (by omega) (by omega))) only [Bool.false_eq_true, nI_add, pk_mul, nI_ltI, nI_eq, z_eq, z_lt, z_gt, z_bN, bN_z, bN_p, bN_i1, nI_clamp, rng_nI, ↓reduceIte, if_true, if_false, not_true_eq_false, not_false_eq_true, true_and, and_true, and_self, false_and, and_false, hni, xs_213_37, m_rowAt hr hi40, e61, Option.toList_some, Option.toList_none, List.cons_append, List.nil_append, List.append_nil, xs_213_42, m_isOne hM3, xs_213_43, hr1, xs_213_48]
                exact h
              · have hni : tH T < tH T + 1 := by omega
                simp (disch := first | assumption | omega | decide | exact vp_in_nI (by omega) (by omega) | exact and1_bN _ | (simp only [pk_mul, nI_add, pred_s]; exact vp_in_nI (by omega) (by omega))) only [xs_213_33, e11, Bool.false_eq_true, nI_add, pk_mul, nI_ltI, nI_eq, z_eq, z_lt, z_gt, z_bN, bN_z, bN_p, bN_i1, nI_clamp, rng_nI, ↓reduceIte, if_true, if_false, not_true_eq_false, not_false_eq_true, true_and, and_true, and_self, false_and, and_false, hni]
            rw [mpass]
            refine m_judgeL (d := d + 15) hM3 hV3 hD.2.1 hr hl hin (fun i hi => by rw [f3 61 (by decide) (by decide), h61 i (by omega), hrow i (by omega)]) (fun I4 f4 a4 => ⟨rfl, PST_i (INV_liv H2 ⟨fun k hk => ?_, fun i hi => ?_, fun j hj => ?_, fun j hj => ?_⟩ ⟨?_, H.2.2.2.2.2.2.2.1.2⟩ rfl)⟩)
            · rw [xu_fr (by omega), f4 k (by omega) (by omega), xu_fr (by omega)]
            · rw [xu_nc (by decide), a4 i hi, xu_nc (by decide)]
            · rw [xu_nj (by omega), f4 58 (by decide) (by decide), xu_nc (by decide)]
            · rw [xu_nc (by decide), f4 0 (by decide) (by decide), xu_nj hj]
            · rw [xu_nc (by decide), xu_eq, f4 0 (by decide) (by decide), xu_eq, hq]
          · -- one that is none
            have cfail : ∀ Q, xr scr (d + 20) xc_90 36 [some (.ref 0), some (.int (nI r)), some (.int (nI 0))] [] (wS, I, J, wP t dr G) Q = Q (some (.int (-3))) (wS, fnd I 3, J, wP t dr G) := fun Q => by
              refine up_0 (P := fun i => (∀ j, j < i → rng (I (2 + r) j) (tN T) = true) → xr scr (d + 20) xc_90 36 [some (.ref 0), some (.int (nI r)), some (.int (nI i))] [] (wS, I, J, wP t dr G) Q = Q (some (.int (-3))) (wS, fnd I 3, J, wP t dr G)) (tH T + 1) (fun i hi h hj => ?_) (fun hj => absurd hj hall) (fun j hj => absurd hj (Nat.not_lt_zero _))
              have hni : ¬ tH T < i := by omega
              rw [xs_90_36 ht, TR_0 hT.1]
              simp (disch := first | assumption | omega | decide | exact vp_in_nI (by omega) (by omega) | exact and1_bN _ | (simp only [pk_mul, nI_add, pred_s]; exact vp_in_nI (by omega) (by omega))) only [Bool.false_eq_true, nI_add, pk_mul, nI_ltI, nI_eq, z_eq, z_lt, z_gt, z_bN, bN_z, bN_p, bN_i1, nI_clamp, rng_nI, ↓reduceIte, if_true, if_false, not_true_eq_false, not_false_eq_true, true_and, and_true, and_self, false_and, and_false, hni]
              rw [xs_90_41 (vp_in_nI hr (by omega)) (vp_in_nI (by omega) (by omega)) ht, hcl, nI_clamp (by omega), c_isOne ht hT.1]
              by_cases hr1 : rng (I (2 + r) i) (tN T) = true
              · simp (disch := first | assumption | omega | decide | exact vp_in_nI (by omega) (by omega) | exact and1_bN _ | (simp only [pk_mul, nI_add, pred_s]; exact vp_in_nI (by omega) (by omega))) only [Option.toList_some, Option.toList_none, List.cons_append, List.nil_append, List.append_nil, xs_90_50, Bool.false_eq_true, nI_add, pk_mul, nI_ltI, nI_eq, z_eq, z_lt, z_gt, z_bN, bN_z, bN_p, bN_i1, nI_clamp, rng_nI, ↓reduceIte, if_true, if_false, not_true_eq_false, not_false_eq_true, true_and, and_true, and_self, false_and, and_false, hr1, xs_90_55]
                exact h (fun j hj2 => by
                  by_cases e : j = i
                  · rw [e]; exact hr1
                  · exact hj j (by omega))
              · simp (disch := first | assumption | omega | decide | exact vp_in_nI (by omega) (by omega) | exact and1_bN _ | (simp only [pk_mul, nI_add, pred_s]; exact vp_in_nI (by omega) (by omega))) only [Option.toList_some, Option.toList_none, List.cons_append, List.nil_append, List.append_nil, xs_90_50, Bool.false_eq_true, nI_add, pk_mul, nI_ltI, nI_eq, z_eq, z_lt, z_gt, z_bN, bN_z, bN_p, bN_i1, nI_clamp, rng_nI, ↓reduceIte, if_true, if_false, not_true_eq_false, not_false_eq_true, true_and, and_true, and_self, false_and, and_false, hr1, xs_90_51, c_found one3 three5, xs_90_54]
            rw [cfail]
            refine AN_i ?_
            have e11 : fnd I 3 58 11 = nI (tH T) := by rw [fnd_fr (by decide) (by decide), MT_11 hM]
            have e60 : fnd I 3 60 r = nI s := by rw [fnd_fr (by decide) (by decide), h60]
            have hM3 : MT (fnd I 3) T := MT_fr hM (by rw [fnd_fr (by decide) (by decide)]) (by rw [fnd_fr (by decide) (by decide)]) (fnd_fr (by decide) (by decide))
            rw [msz (fnd I 3) _ e11 e60, if_pos hsz, xs_213_31]
            have mfail : ∀ Q, xr scr (d + 20) xc_213 33 [some (.ref 58), some (.int (nI r)), some (.int (nI 0)), some (.int (nI 0)), none] [] (wS, fnd I 3, J, wP t dr G) Q = Q (some (.int (-3))) (wS, mmt (fnd I 3) 3, J, wP t dr G) := fun Q => by
              refine up_0 (P := fun i => (∀ j, j < i → rng (I (2 + r) j) (tN T) = true) → xr scr (d + 20) xc_213 33 [some (.ref 58), some (.int (nI r)), some (.int (nI 0)), some (.int (nI i)), none] [] (wS, fnd I 3, J, wP t dr G) Q = Q (some (.int (-3))) (wS, mmt (fnd I 3) 3, J, wP t dr G)) (tH T + 1) (fun i hi h hj => ?_) (fun hj => absurd hj hall) (fun j hj => absurd hj (Nat.not_lt_zero _))
              have hni : ¬ tH T < i := by omega
              have hi40 : i < 40 := by omega
              have e61 : fnd I 3 61 (40 * r + i) = I (2 + r) i := by rw [fnd_fr (by decide) (by decide), h61 i hi]
              simp (disch := first | assumption | omega | decide | exact vp_in_nI (by omega) (by omega) | exact and1_bN _ | (simp only [pk_mul, nI_add, pred_s]; exact vp_in_nI (by omega) (by omega))) only [xs_213_33, e11, Bool.false_eq_true, nI_add, pk_mul, nI_ltI, nI_eq, z_eq, z_lt, z_gt, z_bN, bN_z, bN_p, bN_i1, nI_clamp, rng_nI, ↓reduceIte, if_true, if_false, not_true_eq_false, not_false_eq_true, true_and, and_true, and_self, false_and, and_false, hni, xs_213_37, m_rowAt hr hi40, e61, Option.toList_some, Option.toList_none, List.cons_append, List.nil_append, List.append_nil, xs_213_42, m_isOne hM3, xs_213_43]
              by_cases hr1 : rng (I (2 + r) i) (tN T) = true
              · rw [if_neg (fun e => e hr1), xs_213_48, nI_add]
                exact h (fun j hj2 => by
                  by_cases e : j = i
                  · rw [e]; exact hr1
                  · exact hj j (by omega))
              · rw [if_pos hr1]
                simp (disch := first | assumption | omega | decide | exact vp_in_nI (by omega) (by omega) | exact and1_bN _ | (simp only [pk_mul, nI_add, pred_s]; exact vp_in_nI (by omega) (by omega))) only [xs_213_44, m_meet three5, Option.toList_some, Option.toList_none, List.cons_append, List.nil_append, List.append_nil, xs_213_47]
            rw [mfail]
            exact ⟨rfl, PST_i (fnd_inv (by decide) H)⟩
        · have f5 : 1 ≤ 5 := by decide
          rw [if_neg hsz]
          simp (disch := first | assumption | omega | decide | exact vp_in_nI (by omega) (by omega) | exact and1_bN _ | (simp only [pk_mul, nI_add, pred_s]; exact vp_in_nI (by omega) (by omega))) only [xs_90_30, c_found f5 (Nat.le_refl 5), Option.toList_some, Option.toList_none, List.cons_append, List.nil_append, List.append_nil, xs_90_33]
          refine AN_i ?_
          have e11 : fnd I 5 58 11 = nI (tH T) := by rw [fnd_fr (by decide) (by decide), MT_11 hM]
          have e60 : fnd I 5 60 r = nI s := by rw [fnd_fr (by decide) (by decide), h60]
          rw [msz (fnd I 5) _ e11 e60, if_neg hsz]
          simp (disch := first | assumption | omega | decide | exact vp_in_nI (by omega) (by omega) | exact and1_bN _ | (simp only [pk_mul, nI_add, pred_s]; exact vp_in_nI (by omega) (by omega))) only [xs_213_27, m_meet (Nat.le_refl 5), Option.toList_some, Option.toList_none, List.cons_append, List.nil_append, List.append_nil, xs_213_30]
          exact ⟨trivial, PST_i (fnd_inv (by decide) H)⟩
      · rw [h8, if_pos m1lt]
        simp (disch := first | assumption | omega | decide | exact vp_in_nI (by omega) (by omega) | exact and1_bN _ | (simp only [pk_mul, nI_add, pred_s]; exact vp_in_nI (by omega) (by omega))) only [xs_90_16, c_found (Nat.le_refl 1) one15, Option.toList_some, Option.toList_none, List.cons_append, List.nil_append, List.append_nil, xs_90_19]
        refine AN_i ?_
        have e11 : fnd I 1 58 11 = nI (tH T) := by rw [fnd_fr (by decide) (by decide), MT_11 hM]
        have e60 : fnd I 1 60 r = -9 := by rw [fnd_fr (by decide) (by decide), h60]
        rw [mhead (fnd I 1) _ e11]
        simp (disch := first | assumption | omega | decide | exact vp_in_nI (by omega) (by omega) | exact and1_bN _ | (simp only [pk_mul, nI_add, pred_s]; exact vp_in_nI (by omega) (by omega))) only [xs_213_10, m_askRow_miss hr e60, Option.toList_some, Option.toList_none, List.cons_append, List.nil_append, List.append_nil, xs_213_13, n3l, ↓reduceIte, xs_213_16]
        exact ⟨trivial, PST_i (fnd_inv (by decide) H)⟩
  · simp (disch := first | assumption | omega | decide | exact vp_in_nI (by omega) (by omega) | exact and1_bN _ | (simp only [pk_mul, nI_add, pred_s]; exact vp_in_nI (by omega) (by omega))) only [xs_90_0, xs_90_2, xs_90_3, c_isRow, Option.toList_some, Option.toList_none, List.cons_append, List.nil_append, List.append_nil, Bool.false_eq_true, nI_add, pk_mul, nI_ltI, nI_eq, z_eq, z_lt, z_gt, z_bN, bN_z, bN_p, bN_i1, nI_clamp, rng_nI, ↓reduceIte, if_true, if_false, not_true_eq_false, not_false_eq_true, true_and, and_true, and_self, false_and, and_false, hx]
    refine AN_i ?_
    simp (disch := first | assumption | omega | decide | exact vp_in_nI (by omega) (by omega) | exact and1_bN _ | (simp only [pk_mul, nI_add, pred_s]; exact vp_in_nI (by omega) (by omega))) only [xs_213_0, xs_213_2, xs_213_3, m_isRow, Option.toList_some, Option.toList_none, List.cons_append, List.nil_append, List.append_nil, Bool.false_eq_true, nI_add, pk_mul, nI_ltI, nI_eq, z_eq, z_lt, z_gt, z_bN, bN_z, bN_p, bN_i1, nI_clamp, rng_nI, ↓reduceIte, if_true, if_false, not_true_eq_false, not_false_eq_true, true_and, and_true, and_self, false_and, and_false, hx]
    first | exact PST_i H | exact ⟨trivial, PST_i H⟩ | exact ⟨rfl, PST_i H⟩
end JUDGE
