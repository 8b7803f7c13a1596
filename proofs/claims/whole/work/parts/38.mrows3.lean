/-! rowsOn, setRows, setFits -/
section MROWS3
variable {scr : xi_X} {d : Nat} {Q : Option Value → xi_S → Prop} {I : Nat → Nat → Int32} {J : Nat → Nat → Int64} {t dr : Nat} {G : Nat → Nat} {T : TN} {v : Nat} {bk : Bool} {C : Nat → Nat → Bool} {pre : List Nat}
/-- the rows from a prefix whose last hand is still to be held against the sights -/
def rwL (T : TN) (v : Nat) (bk : Bool) (C : Nat → Nat → Bool) (k : Nat) (pre : List Nat) : List (List Nat) := if C (pre.length - 1) (pre.getD (pre.length - 1) 0) = true then rws (tN T) (okC T v bk C) k pre else []
theorem m_rowsOn {gl : Option Nat} {ss : Option (List SGT)} (hgl : ∀ y, gl = some y → y < 7) (hv : v ≤ 5) : ∀ (k : Nat) (pre : List Nat) (I : Nat → Nat → Int32) (R E : List (List Nat)) (Q : Option Value → xi_S → Prop), MT I T → MV I v bk → SGo I ss → I 58 23 = glI gl → HD I pre → inP (tN T) pre → pre.length + k = tH T + 1 → 0 < pre.length → MRS I T R E → R.length + (rwL T v bk (cS ss) k pre).length < 2 ^ 31 →
    (∀ I2 : Nat → Nat → Int32, FrM I I2 → (∀ i, i < pre.length → I2 66 i = I 66 i) → MRS I2 T (R ++ (rwL T v bk (cS ss) k pre).filter (pasB gl (tH T))) (E ++ rwL T v bk (cS ss) k pre) → Q none (wS, I2, J, wP t dr G)) →
    xr scr (d + k + 6) xc_207 0 [some (.ref 58), some (.int (nI (pre.length - 1))), some (.int (nI (bN (ss.isSome = true)))), none] [] (wS, I, J, wP t dr G) Q
  | k, pre, I, R, E, Q, hM, hV, hS, hg, hp, hin, hl, h0, hR, hb, hq => by
    have hn := MT_n hM
    have hh5 := MT_h hM
    have h11 := MT_11 hM
    obtain ⟨u, hu⟩ : ∃ u, pre.length = u + 1 := ⟨pre.length - 1, by omega⟩
    have hpu : pre.length - 1 = u := by omega
    have hu6 : u < 6 := by omega
    have hin7 : inP 7 pre := fun z hz => Nat.lt_of_lt_of_le (hin z hz) hn
    rw [hpu]
    have road : cS ss u (pre.getD u 0) = true → xr scr (d + k + 6) xc_207 7 [some (.ref 58), some (.int (nI u)), some (.int (nI (bN (ss.isSome = true)))), none] [] (wS, I, J, wP t dr G) Q := by
      intro hC
      have hL : rwL T v bk (cS ss) k pre = rws (tN T) (okC T v bk (cS ss)) k pre := by unfold rwL; rw [hpu, if_pos hC]
      rw [hL] at hb hq
      cases k with
      | zero =>
        have e1 : u = tH T := by omega
        rw [xs_207_7, h11, e1, if_pos rfl, xs_207_11]
        have hb1 : R.length + 1 < 2 ^ 31 := hb
        refine m_meetRow hM hg hgl hp hin (by omega) hR hb1 (fun I2 f2 h66 R2 => ?_)
        simp (disch := first | assumption | omega | decide | exact vp_in_nI (by omega) (by omega) | exact and1_bN _ | (simp only [pk_mul, nI_add, pred_s]; exact vp_in_nI (by omega) (by omega))) only [Option.toList_some, Option.toList_none, List.cons_append, List.nil_append, List.append_nil, xs_207_13]
        exact hq I2 f2 (fun i _ => by rw [h66]) R2
      | succ k =>
        have hult : u < tH T := by omega
        have e1 : ¬ u = tH T := by omega
        obtain ⟨F, hF⟩ : ∃ F : Nat → List (List Nat), F = rwF (tN T) (okC T v bk (cS ss)) k pre := ⟨_, rfl⟩
        have hLF : rws (tN T) (okC T v bk (cS ss)) (k + 1) pre = rwp (tN T) F := by rw [hF]; rfl
        rw [hLF] at hb hq
        have hFt : ∀ y, okB T v bk pre y = true → F y = rwL T v bk (cS ss) k (pre ++ [y]) := fun y hy => by
          rw [hF]
          unfold rwF rwL okC
          rw [hy, Bool.true_and, show (pre ++ [y]).length - 1 = pre.length by simp, getD_last]
        have hFf : ∀ y, ¬ okB T v bk pre y = true → F y = [] := fun y hy => by
          rw [hF]
          unfold rwF okC
          rw [Bool.eq_false_iff.mpr hy, Bool.false_and, if_neg (by decide)]
        rw [xs_207_7, h11]
        simp (disch := first | assumption | omega | decide | exact vp_in_nI (by omega) (by omega) | exact and1_bN _ | (simp only [pk_mul, nI_add, pred_s]; exact vp_in_nI (by omega) (by omega))) only [nI_add, pk_mul, nI_ltI, nI_eq, z_eq, z_lt, z_gt, z_bN, bN_z, bN_p, bN_i1, nI_clamp, rng_nI, ↓reduceIte, if_true, if_false, not_true_eq_false, not_false_eq_true, true_and, and_true, and_self, false_and, and_false, e1, xs_207_14]
        refine up_0 (P := fun y => ∀ I2 : Nat → Nat → Int32, FrM I I2 → (∀ i, i < pre.length → I2 66 i = I 66 i) → MRS I2 T (R ++ (rwp y F).filter (pasB gl (tH T))) (E ++ rwp y F) → xr scr (d + (k + 1) + 6) xc_207 16 [some (.ref 58), some (.int (nI u)), some (.int (nI (bN (ss.isSome = true)))), some (.int (nI y))] [] (wS, I2, J, wP t dr G) Q) (tN T) (fun y hy h I2 f2 p2 R2 => ?_) (fun I2 f2 p2 R2 => ?_) I (FrM_refl I) (fun _ _ => rfl) (by rw [rwp_0, List.append_nil]; simpa using hR)
        · have hM2 := MT_frM f2 hM
          have hV2 := MV_frM f2 hV
          have hp2 : HD I2 pre := fun i hi => by rw [p2 i hi, hp i hi]
          have ha := agn_lt T v bk pre y
          rw [xs_207_16, MT_10 hM2]
          simp (disch := first | assumption | omega | decide | exact vp_in_nI (by omega) (by omega) | exact and1_bN _ | (simp only [pk_mul, nI_add, pred_s]; exact vp_in_nI (by omega) (by omega))) only [nI_add, pk_mul, nI_ltI, nI_eq, z_eq, z_lt, z_gt, z_bN, bN_z, bN_p, bN_i1, nI_clamp, rng_nI, ↓reduceIte, if_true, if_false, not_true_eq_false, not_false_eq_true, true_and, and_true, and_self, false_and, and_false, hy, xs_207_20, m_against hM2 hV2 hv hp2 hin hu hult hy, Option.toList_some, Option.toList_none, List.cons_append, List.nil_append, List.append_nil, xs_207_24]
          by_cases hk : agn T v bk pre y = 0
          · have hok := agn_ok.mp hk
            rw [if_pos hk, xs_207_25 (by rw [nI_add]; exact vp_in_nI (by omega) (by omega)), nI_add, nI_clamp (by omega)]
            obtain ⟨I3, hI3⟩ : ∃ I3 : Nat → Nat → Int32, I3 = xi_up I2 66 (u + 1) (nI y) := ⟨_, rfl⟩
            rw [← hI3]
            have f3 : FrM I2 I3 := ⟨fun k a b c e => by rw [hI3, xu_fr b], fun j a b c e => by rw [hI3, xu_nc (by decide)]⟩
            have hp3 : HD I3 (pre ++ [y]) := fun i hi => by
              rw [hI3, xu_at]
              by_cases e : i = u + 1
              · rw [if_pos e, e, ← hu, getD_last]
              · rw [if_neg e, hp2 i (by simp at hi; omega), getD_app (by simp at hi; omega)]
            have R3 : MRS I3 T (R ++ (rwp y F).filter (pasB gl (tH T))) (E ++ rwp y F) := by
              unfold MRS at R2 ⊢
              rw [(by rw [hI3, xu_fr (by decide)] : I3 69 = I2 69), (by rw [hI3, xu_fr (by decide)] : I3 68 = I2 68), (by rw [hI3, xu_fr (by decide)] : I3 58 = I2 58)]
              exact R2
            have hlen : (rwp y F).length + (rwL T v bk (cS ss) k (pre ++ [y])).length ≤ (rwp (tN T) F).length := by
              obtain ⟨M, hM'⟩ := rwp_pref (show y + 1 ≤ tN T from hy) F
              rw [hM', rwp_s, List.length_append, List.length_append, hFt y hok]
              omega
            have hfl : ((rwp y F).filter (pasB gl (tH T))).length ≤ (rwp y F).length := List.length_filter_le _ _
            rw [show nI (u + 1) = nI ((pre ++ [y]).length - 1) by simp [hu]]
            rw [show d + (k + 1) + 5 = d + k + 6 by omega]
            refine m_rowsOn hgl hv k (pre ++ [y]) I3 _ _ _ (MT_frM f3 hM2) (MV_frM f3 hV2) (SGo_frM (FrM_trans f2 f3) hS) (by rw [f3.2 23 (by decide) (by decide) (by decide) (by decide), f2.2 23 (by decide) (by decide) (by decide) (by decide), hg]) hp3 (inP_app hin hy) (by simp; omega) (by simp) R3 (by rw [List.length_append]; omega) (fun I4 f4 p4 R4 => ?_)
            simp (disch := first | assumption | omega | decide | exact vp_in_nI (by omega) (by omega) | exact and1_bN _ | (simp only [pk_mul, nI_add, pred_s]; exact vp_in_nI (by omega) (by omega))) only [Option.toList_some, Option.toList_none, List.cons_append, List.nil_append, List.append_nil, xs_207_38, nI_add, pk_mul, nI_ltI, nI_eq, z_eq, z_lt, z_gt, z_bN, bN_z, bN_p, bN_i1, nI_clamp, rng_nI, ↓reduceIte, if_true, if_false, not_true_eq_false, not_false_eq_true, true_and, and_true, and_self, false_and, and_false]
            refine h I4 (FrM_trans (FrM_trans f2 f3) f4) (fun i hi => ?_) ?_
            · rw [p4 i (by simp; omega), hI3, xu_nj (by omega), p2 i hi]
            · rw [rwp_s, List.filter_append, hFt y hok, ← List.append_assoc, ← List.append_assoc]
              exact R4
          · have hok : ¬ okB T v bk pre y = true := fun e => hk (agn_ok.mpr e)
            rw [if_neg hk]
            simp (disch := first | assumption | omega | decide | exact vp_in_nI (by omega) (by omega) | exact and1_bN _ | (simp only [pk_mul, nI_add, pred_s]; exact vp_in_nI (by omega) (by omega))) only [xs_207_38, nI_add, pk_mul, nI_ltI, nI_eq, z_eq, z_lt, z_gt, z_bN, bN_z, bN_p, bN_i1, nI_clamp, rng_nI, ↓reduceIte, if_true, if_false, not_true_eq_false, not_false_eq_true, true_and, and_true, and_self, false_and, and_false]
            have e : rwp (y + 1) F = rwp y F := by rw [rwp_s, hFf y hok, List.append_nil]
            rw [e] at h
            exact h I2 f2 p2 R2
        · have hM2 := MT_frM f2 hM
          rw [xs_207_16, MT_10 hM2]
          simp (disch := first | assumption | omega | decide | exact vp_in_nI (by omega) (by omega) | exact and1_bN _ | (simp only [pk_mul, nI_add, pred_s]; exact vp_in_nI (by omega) (by omega))) only [nI_add, pk_mul, nI_ltI, nI_eq, z_eq, z_lt, z_gt, z_bN, bN_z, bN_p, bN_i1, nI_clamp, rng_nI, ↓reduceIte, if_true, if_false, not_true_eq_false, not_false_eq_true, true_and, and_true, and_self, false_and, and_false, Nat.lt_irrefl, xs_207_40]
          exact hq I2 f2 p2 R2
    rw [xs_207_0]
    cases ss with
    | none =>
      simp (disch := first | assumption | omega | decide | exact vp_in_nI (by omega) (by omega) | exact and1_bN _ | (simp only [pk_mul, nI_add, pred_s]; exact vp_in_nI (by omega) (by omega))) only [nI_add, pk_mul, nI_ltI, nI_eq, z_eq, z_lt, z_gt, z_bN, bN_z, bN_p, bN_i1, nI_clamp, rng_nI, ↓reduceIte, if_true, if_false, not_true_eq_false, not_false_eq_true, true_and, and_true, and_self, false_and, and_false, Option.isSome_none, Bool.false_eq_true]
      exact road rfl
    | some l =>
      simp (disch := first | assumption | omega | decide | exact vp_in_nI (by omega) (by omega) | exact and1_bN _ | (simp only [pk_mul, nI_add, pred_s]; exact vp_in_nI (by omega) (by omega))) only [nI_add, pk_mul, nI_ltI, nI_eq, z_eq, z_lt, z_gt, z_bN, bN_z, bN_p, bN_i1, nI_clamp, rng_nI, ↓reduceIte, if_true, if_false, not_true_eq_false, not_false_eq_true, true_and, and_true, and_self, false_and, and_false, Option.isSome_some, xs_207_2, m_fitsSight (ss := l) hS hp hin7 hu hu6, Option.toList_some, Option.toList_none, List.cons_append, List.nil_append, List.append_nil, xs_207_5]
      by_cases hC : sgB l u (pre.getD u 0) = true
      · rw [if_neg (fun e => e hC)]
        exact road hC
      · rw [if_pos hC, xs_207_6]
        have hL : rwL T v bk (cS (some l)) k pre = [] := by unfold rwL; rw [hpu]; exact if_neg hC
        have hq2 := hq I (FrM_refl I) (fun _ _ => rfl)
        rw [hL, List.filter_nil, List.append_nil, List.append_nil] at hq2
        exact hq2 hR
/-- what a whole search of the reference leaves -/
def FrS (I I2 : Nat → Nat → Int32) : Prop := (∀ k, k ≠ 58 → k ≠ 66 → k ≠ 67 → k ≠ 68 → k ≠ 69 → I2 k = I k) ∧ (∀ j, j ≠ 21 → j ≠ 22 → j ≠ 23 → j ≠ 24 → j ≠ 27 → I2 58 j = I 58 j) ∧ (∀ i, i < 6 → I2 66 i = I 66 i)
theorem m_setRows (hM : MT I T) (hV : MV I v bk) (hv : v ≤ 5) {x y : Nat} (hx : x < tN T) (hy : y < tN T)
    (hq : ∀ I2 : Nat → Nat → Int32, FrS I I2 → MRS I2 T ((rws (tN T) (okC T v bk (fun _ _ => true)) (tH T) [x]).filter (fun r => r.getD (tH T) 0 == y)) (rws (tN T) (okC T v bk (fun _ _ => true)) (tH T) [x]) → Q none (wS, I2, J, wP t dr G)) : xr scr (d + 12) xc_216 0 [some (.ref 58), some (.int (nI x)), some (.int (nI y))] [] (wS, I, J, wP t dr G) Q := by
  have hn := MT_n hM
  have hh5 := MT_h hM
  rw [xs_216_0]
  refine m_putAside (fun I1 f1 a1 => ?_)
  have hM1 : MT I1 T := MT_fr hM (by rw [f1 58 (by decide)]) (by rw [f1 58 (by decide)]) (f1 65 (by decide))
  simp (disch := first | assumption | omega | decide | exact vp_in_nI (by omega) (by omega) | exact and1_bN _ | (simp only [pk_mul, nI_add, pred_s]; exact vp_in_nI (by omega) (by omega))) only [Option.toList_some, Option.toList_none, List.cons_append, List.nil_append, List.append_nil]
  rw [xs_216_2]
  refine m_wipeRows hM1 (fun I2 f2 g2 s23 R2 => ?_)
  simp (disch := first | assumption | omega | decide | exact vp_in_nI (by omega) (by omega) | exact and1_bN _ | (simp only [pk_mul, nI_add, pred_s]; exact vp_in_nI (by omega) (by omega))) only [Option.toList_some, Option.toList_none, List.cons_append, List.nil_append, List.append_nil]
  rw [xs_216_5 (vp_in_nI (by decide) (by decide)), nI_clamp (by decide)]
  obtain ⟨I3, hI3⟩ : ∃ I3 : Nat → Nat → Int32, I3 = xi_up I2 66 0 (nI x) := ⟨_, rfl⟩
  rw [← hI3]
  have f3 : ∀ k, k ≠ 58 → k ≠ 66 → k ≠ 67 → k ≠ 69 → I3 k = I k := fun k a b c e => by rw [hI3, xu_fr b, f2 k a e, f1 k c]
  have g3 : ∀ j, j ≠ 21 → j ≠ 22 → j ≠ 23 → j ≠ 24 → j ≠ 27 → I3 58 j = I 58 j := fun j a b c e g => by rw [hI3, xu_nc (by decide), g2 j a b c e g, f1 58 (by decide)]
  have R3 : MRS I3 T [] [] := by
    unfold MRS at R2 ⊢
    rw [(by rw [hI3, xu_fr (by decide)] : I3 69 = I2 69), (by rw [hI3, xu_fr (by decide)] : I3 68 = I2 68), (by rw [hI3, xu_fr (by decide)] : I3 58 = I2 58)]
    exact R2
  have hM3 : MT I3 T := MT_fr hM (g3 10 (by decide) (by decide) (by decide) (by decide) (by decide)) (g3 11 (by decide) (by decide) (by decide) (by decide) (by decide)) (f3 65 (by decide) (by decide) (by decide) (by decide))
  have hV3 : MV I3 v bk := ⟨(g3 16 (by decide) (by decide) (by decide) (by decide) (by decide)).trans hV.1, (g3 17 (by decide) (by decide) (by decide) (by decide) (by decide)).trans hV.2⟩
  have hL : rwL T v bk (cS none) (tH T) [x] = rws (tN T) (okC T v bk (fun _ _ => true)) (tH T) [x] := if_pos rfl
  have hb : ([] : List (List Nat)).length + (rwL T v bk (cS none) (tH T) [x]).length < 2 ^ 31 := by
    rw [hL]
    have h1 := rws_len (n := tN T) (ok := okC T v bk (fun _ _ => true)) (tH T) [x]
    have h2 : tN T ^ tH T ≤ 7 ^ 5 := Nat.le_trans (Nat.pow_le_pow_left hn _) (Nat.pow_le_pow_right (by decide) hh5)
    have h3 : ([] : List (List Nat)).length = 0 := rfl
    omega
  rw [show d + 11 = (d + 5 - tH T) + tH T + 6 by omega]
  refine m_rowsOn (gl := some y) (ss := none) (fun z hz => by cases hz; omega) hv (tH T) [x] I3 [] [] _ hM3 hV3 trivial (by rw [hI3, xu_nc (by decide), s23]; rfl) (fun i hi => ?_) (by intro z hz; rw [List.mem_singleton.mp hz]; exact hx) (by simp; omega) Nat.zero_lt_one R3 hb (fun I4 f4 p4 R4 => ?_)
  · have : i = 0 := by simp at hi; omega
    subst this
    rw [hI3, xu_eq]
    rfl
  · rw [hL] at R4
    simp (disch := first | assumption | omega | decide | exact vp_in_nI (by omega) (by omega) | exact and1_bN _ | (simp only [pk_mul, nI_add, pred_s]; exact vp_in_nI (by omega) (by omega))) only [Option.toList_some, Option.toList_none, List.cons_append, List.nil_append, List.append_nil]
    rw [xs_216_14]
    refine m_comeBack (fun I5 f5 a5 => ?_)
    simp (disch := first | assumption | omega | decide | exact vp_in_nI (by omega) (by omega) | exact and1_bN _ | (simp only [pk_mul, nI_add, pred_s]; exact vp_in_nI (by omega) (by omega))) only [Option.toList_some, Option.toList_none, List.cons_append, List.nil_append, List.append_nil, xs_216_16]
    refine hq I5 ⟨fun k a b c e g => by rw [f5 k b, f4.1 k a b e g, f3 k a b c g], fun j a b c e g => by rw [f5 58 (by decide), f4.2 j a b e g, g3 j a b c e g], fun i hi => ?_⟩ ?_
    · rw [a5 i hi, f4.1 67 (by decide) (by decide) (by decide) (by decide), hI3, xu_nc (by decide), f2 67 (by decide) (by decide), a1 i hi]
    · unfold MRS at R4 ⊢
      rw [f5 58 (by decide), f5 69 (by decide), f5 68 (by decide)]
      exact R4
theorem m_setFits {l : List SGT} (hM : MT I T) (hV : MV I v bk) (hv : v ≤ 5) (hS : SG I l)
    (hq : ∀ I2 : Nat → Nat → Int32, FrS I I2 → MRS I2 T (RWS T v bk (sgB l)) (RWS T v bk (sgB l)) → Q none (wS, I2, J, wP t dr G)) : xr scr (d + 12) xc_234 0 [some (.ref 58), none] [] (wS, I, J, wP t dr G) Q := by
  have hn := MT_n hM
  have hh5 := MT_h hM
  rw [xs_234_0]
  refine m_putAside (fun I1 f1 a1 => ?_)
  have hM1 : MT I1 T := MT_fr hM (by rw [f1 58 (by decide)]) (by rw [f1 58 (by decide)]) (f1 65 (by decide))
  simp (disch := first | assumption | omega | decide | exact vp_in_nI (by omega) (by omega) | exact and1_bN _ | (simp only [pk_mul, nI_add, pred_s]; exact vp_in_nI (by omega) (by omega))) only [Option.toList_some, Option.toList_none, List.cons_append, List.nil_append, List.append_nil]
  rw [xs_234_2]
  refine m_wipeRows hM1 (fun I2 f2 g2 s23 R2 => ?_)
  simp (disch := first | assumption | omega | decide | exact vp_in_nI (by omega) (by omega) | exact and1_bN _ | (simp only [pk_mul, nI_add, pred_s]; exact vp_in_nI (by omega) (by omega))) only [Option.toList_some, Option.toList_none, List.cons_append, List.nil_append, List.append_nil, xs_234_5]
  obtain ⟨F, hF⟩ : ∃ F : Nat → List (List Nat), F = fun x => if sgB l 0 x = true then rws (tN T) (okC T v bk (sgB l)) (tH T) [x] else [] := ⟨_, rfl⟩
  have hFF : RWS T v bk (sgB l) = rwp (tN T) F := by rw [hF]; rfl
  have hlenA := RWS_len T v bk (sgB l) hn hh5
  rw [hFF] at hq hlenA
  have hMx : ∀ I3 : Nat → Nat → Int32, (∀ k, k ≠ 58 → k ≠ 66 → k ≠ 67 → k ≠ 68 → k ≠ 69 → I3 k = I k) → (∀ j, j ≠ 21 → j ≠ 22 → j ≠ 23 → j ≠ 24 → j ≠ 27 → I3 58 j = I 58 j) → MT I3 T ∧ MV I3 v bk ∧ SG I3 l := fun I3 f3 g3 => ⟨MT_fr hM (g3 10 (by decide) (by decide) (by decide) (by decide) (by decide)) (g3 11 (by decide) (by decide) (by decide) (by decide) (by decide)) (f3 65 (by decide) (by decide) (by decide) (by decide) (by decide)), ⟨(g3 16 (by decide) (by decide) (by decide) (by decide) (by decide)).trans hV.1, (g3 17 (by decide) (by decide) (by decide) (by decide) (by decide)).trans hV.2⟩, by
    unfold SG at hS ⊢
    rw [g3 32 (by decide) (by decide) (by decide) (by decide) (by decide), f3 71 (by decide) (by decide) (by decide) (by decide) (by decide)]
    exact hS⟩
  refine up_0 (P := fun x => ∀ I3 : Nat → Nat → Int32, (∀ k, k ≠ 58 → k ≠ 66 → k ≠ 67 → k ≠ 68 → k ≠ 69 → I3 k = I k) → (∀ j, j ≠ 21 → j ≠ 22 → j ≠ 23 → j ≠ 24 → j ≠ 27 → I3 58 j = I 58 j) → I3 58 23 = -9 → (∀ i, i < 6 → I3 67 i = I 66 i) → MRS I3 T (rwp x F) (rwp x F) → xr scr (d + 12) xc_234 7 [some (.ref 58), some (.int (nI x))] [] (wS, I3, J, wP t dr G) Q) (tN T) (fun x hx h I3 f3 g3 s3 a3 R3 => ?_) (fun I3 f3 g3 s3 a3 R3 => ?_) I2 (fun k a b c e g => by rw [f2 k a g, f1 k c]) (fun j a b c e g => by rw [g2 j a b c e g, f1 58 (by decide)]) s23 (fun i hi => by rw [f2 67 (by decide) (by decide), a1 i hi]) R2
  · obtain ⟨hM3, hV3, hS3⟩ := hMx I3 f3 g3
    rw [xs_234_7, MT_10 hM3]
    simp (disch := first | assumption | omega | decide | exact vp_in_nI (by omega) (by omega) | exact and1_bN _ | (simp only [pk_mul, nI_add, pred_s]; exact vp_in_nI (by omega) (by omega))) only [nI_add, pk_mul, nI_ltI, nI_eq, z_eq, z_lt, z_gt, z_bN, bN_z, bN_p, bN_i1, nI_clamp, rng_nI, ↓reduceIte, if_true, if_false, not_true_eq_false, not_false_eq_true, true_and, and_true, and_self, false_and, and_false, hx]
    rw [xs_234_11 (vp_in_nI (by decide) (by decide)), nI_clamp (by decide)]
    obtain ⟨I4, hI4⟩ : ∃ I4 : Nat → Nat → Int32, I4 = xi_up I3 66 0 (nI x) := ⟨_, rfl⟩
    rw [← hI4]
    have f4 : ∀ k, k ≠ 58 → k ≠ 66 → k ≠ 67 → k ≠ 68 → k ≠ 69 → I4 k = I k := fun k a b c e g => by rw [hI4, xu_fr b, f3 k a b c e g]
    have g4 : ∀ j, j ≠ 21 → j ≠ 22 → j ≠ 23 → j ≠ 24 → j ≠ 27 → I4 58 j = I 58 j := fun j a b c e g => by rw [hI4, xu_nc (by decide), g3 j a b c e g]
    obtain ⟨hM4, hV4, hS4⟩ := hMx I4 f4 g4
    have R4 : MRS I4 T (rwp x F) (rwp x F) := by
      unfold MRS at R3 ⊢
      rw [(by rw [hI4, xu_fr (by decide)] : I4 69 = I3 69), (by rw [hI4, xu_fr (by decide)] : I4 68 = I3 68), (by rw [hI4, xu_fr (by decide)] : I4 58 = I3 58)]
      exact R3
    have hL : rwL T v bk (cS (some l)) (tH T) [x] = F x := by rw [hF]; rfl
    have hlen : (rwp x F).length + (F x).length ≤ (rwp (tN T) F).length := by
      obtain ⟨M, hM'⟩ := rwp_pref (show x + 1 ≤ tN T from hx) F
      rw [hM', rwp_s, List.length_append, List.length_append]
      omega
    rw [show d + 11 = (d + 5 - tH T) + tH T + 6 by omega]
    refine m_rowsOn (gl := none) (ss := some l) (fun z hz => by cases hz) hv (tH T) [x] I4 _ _ _ hM4 hV4 hS4 (by rw [hI4, xu_nc (by decide), s3]; rfl) (fun i hi => ?_) (by intro z hz; rw [List.mem_singleton.mp hz]; exact hx) (by simp; omega) Nat.zero_lt_one R4 (by rw [hL]; omega) (fun I5 f5 p5 R5 => ?_)
    · have : i = 0 := by simp at hi; omega
      subst this
      rw [hI4, xu_eq]
      rfl
    · rw [hL] at R5
      have hfil : (F x).filter (pasB none (tH T)) = F x := List.filter_eq_self.mpr (fun _ _ => rfl)
      rw [hfil, ← rwp_s] at R5
      simp (disch := first | assumption | omega | decide | exact vp_in_nI (by omega) (by omega) | exact and1_bN _ | (simp only [pk_mul, nI_add, pred_s]; exact vp_in_nI (by omega) (by omega))) only [Option.toList_some, Option.toList_none, List.cons_append, List.nil_append, List.append_nil, xs_234_20, nI_add, pk_mul, nI_ltI, nI_eq, z_eq, z_lt, z_gt, z_bN, bN_z, bN_p, bN_i1, nI_clamp, rng_nI, ↓reduceIte, if_true, if_false, not_true_eq_false, not_false_eq_true, true_and, and_true, and_self, false_and, and_false]
      rw [show (d + 5 - tH T) + tH T + 6 + 1 = d + 12 by omega]
      exact h I5 (fun k a b c e g => by rw [f5.1 k a b e g, f4 k a b c e g]) (fun j a b c e g => by rw [f5.2 j a b e g, g4 j a b c e g]) (by rw [f5.2 23 (by decide) (by decide) (by decide) (by decide), hI4, xu_nc (by decide), s3]) (fun i hi => by rw [f5.1 67 (by decide) (by decide) (by decide) (by decide), hI4, xu_nc (by decide), a3 i hi]) R5
  · obtain ⟨hM3, hV3, hS3⟩ := hMx I3 f3 g3
    rw [xs_234_7, MT_10 hM3]
    simp (disch := first | assumption | omega | decide | exact vp_in_nI (by omega) (by omega) | exact and1_bN _ | (simp only [pk_mul, nI_add, pred_s]; exact vp_in_nI (by omega) (by omega))) only [nI_add, pk_mul, nI_ltI, nI_eq, z_eq, z_lt, z_gt, z_bN, bN_z, bN_p, bN_i1, nI_clamp, rng_nI, ↓reduceIte, if_true, if_false, not_true_eq_false, not_false_eq_true, true_and, and_true, and_self, false_and, and_false, Nat.lt_irrefl]
    rw [xs_234_22]
    refine m_comeBack (fun I5 f5 a5 => ?_)
    simp (disch := first | assumption | omega | decide | exact vp_in_nI (by omega) (by omega) | exact and1_bN _ | (simp only [pk_mul, nI_add, pred_s]; exact vp_in_nI (by omega) (by omega))) only [Option.toList_some, Option.toList_none, List.cons_append, List.nil_append, List.append_nil, xs_234_24]
    refine hq I5 ⟨fun k a b c e g => by rw [f5 k b, f3 k a b c e g], fun j a b c e g => by rw [f5 58 (by decide), g3 j a b c e g], fun i hi => by rw [a5 i hi, a3 i hi]⟩ ?_
    unfold MRS at R3 ⊢
    rw [f5 58 (by decide), f5 69 (by decide), f5 68 (by decide)]
    exact R3
end MROWS3
