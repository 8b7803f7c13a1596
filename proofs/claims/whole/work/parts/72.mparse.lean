/-! THE TEXT: the reference -/
def FRm (I I2 : Nat → Nat → Int32) : Prop := (∀ k, k ≠ 58 → k ≠ 65 → I2 k = I k) ∧ (∀ j, j ≠ 13 → j ≠ 14 → j ≠ 15 → I2 58 j = I 58 j) ∧ (∀ j, j < 49 → I2 65 j = I 65 j)
theorem FRm_r (I : Nat → Nat → Int32) : FRm I I := ⟨fun _ _ _ => rfl, fun _ _ _ _ => rfl, fun _ _ => rfl⟩
theorem FRm_t {I I2 I3 : Nat → Nat → Int32} (h : FRm I I2) (h2 : FRm I2 I3) : FRm I I3 := ⟨fun k a b => (h2.1 k a b).trans (h.1 k a b), fun j a b c => (h2.2.1 j a b c).trans (h.2.1 j a b c), fun j a => (h2.2.2 j a).trans (h.2.2 j a)⟩
theorem FRm_58 {I : Nat → Nat → Int32} {j : Nat} {x : Int32} (hj : j = 13 ∨ j = 14 ∨ j = 15) : FRm I (xi_up I 58 j x) := ⟨fun k a _ => xu_fr a, fun k a b c => xu_nj (by omega), fun k _ => xu_nc (by decide)⟩
theorem FRm_65 {I : Nat → Nat → Int32} {j : Nat} {x : Int32} (hj : 49 ≤ j) : FRm I (xi_up I 65 j x) := ⟨fun k _ b => xu_fr b, fun k _ _ _ => xu_nc (by decide), fun k h => xu_nj (by omega)⟩
def RT (I : Nat → Nat → Int32) (T : TN) : Prop := tN T ≤ 7 ∧ tH T ≤ 5 ∧ I 58 15 = nI (tH T) ∧ I 58 14 = nI (tN T) ∧ (∀ x, x < tN T → I 65 (49 + 7 * x) = nI (tK T x) ∧ tK T x ≤ 5 ∧ I 65 (49 + 7 * x + 1) = nI (tF T x) ∧ tF T x ≤ 9) ∧ (∀ x, x < tN T → ∀ u, u < tH T → I 65 (49 + 7 * x + 2 + u) = tS T x u)
def TX (I : Nat → Nat → Int32) (r s : Nat) (b : Nat → Int32) : Prop := r < 4 ∧ s ≤ 80 ∧ I 63 r = nI s ∧ ∀ i, i < 80 → I 64 (80 * r + i) = b i
section MPARSE
variable {scr : xi_X} {d : Nat} {Q : Option Value → xi_S → Prop} {I I2 I3 I4 : Nat → Nat → Int32} {J J2 : Nat → Nat → Int64} {t dr : Nat} {G G2 : Nat → Nat} {a c : Nat} {b : Nat → Int32} {s h m p i r : Nat} {ps : List Nat}
theorem TX_fr (hX : TX I r s b) (f : FRm I I2) : TX I2 r s b := by
  obtain ⟨h1, h2, h3, h4⟩ := hX
  exact ⟨h1, h2, by rw [f.1 63 (by decide) (by decide)]; exact h3, fun i hi => by rw [f.1 64 (by decide) (by decide)]; exact h4 i hi⟩
theorem m_here (hX : TX I r s b) (h13 : I 58 13 = nI i) (hi : i ≤ s) : xr scr d xc_173 0 [some (.ref 58), some (.int (nI r))] [] (wS, I, J, wP t dr G) Q = Q (some (.int (hr b s i))) (wS, I, J, wP t dr G) := by
  obtain ⟨h1, h2, h3, h4⟩ := hX
  rw [xs_173_0 (vp_in_nI h1 (by decide)), nI_clamp (by omega), h3, h13]
  by_cases e : i < s
  · rw [if_pos ((nI_ltI (by omega) (by omega)).mpr e), xs_173_7 (by rw [h13, pk_mul, nI_add]; exact vp_in_nI (by omega) (by omega)), h13, pk_mul, nI_add, nI_clamp (by omega), xs_173_18, h4 i (by omega), hr_lt e]
  · rw [if_neg (fun q => e ((nI_ltI (by omega) (by omega)).mp q)), xs_173_17, xs_173_18, hr_ge e]
theorem m_kindOf {x : Int32} : xr scr d xc_176 0 [some (.int x)] [] (wS, I, J, wP t dr G) Q = Q (some (.int (kv x))) (wS, I, J, wP t dr G) := by
  rw [xs_176_0]
  by_cases h0 : x = nI 109
  · rw [if_pos h0, xs_176_3, xs_176_31, h0]; rfl
  · rw [if_neg h0, xs_176_5]
    by_cases h1 : x = nI 112
    · rw [if_pos h1, xs_176_8, xs_176_31, h1]; rfl
    · rw [if_neg h1, xs_176_10]
      by_cases h2 : x = nI 115
      · rw [if_pos h2, xs_176_13, xs_176_31, h2]; rfl
      · rw [if_neg h2, xs_176_15]
        by_cases h3 : x = nI 101
        · rw [if_pos h3, xs_176_18, xs_176_31, h3]; rfl
        · rw [if_neg h3, xs_176_20]
          by_cases h4 : x = nI 103
          · rw [if_pos h4, xs_176_23, xs_176_31, h4]; rfl
          · rw [if_neg h4, xs_176_25]
            by_cases h5 : x = nI 116
            · rw [if_pos h5, xs_176_28, xs_176_31, h5]; rfl
            · have e : kv x = -9 := kv_9 (by
                unfold kN
                rw [if_neg h0, if_neg h1, if_neg h2, if_neg h3, if_neg h4, if_neg h5])
              rw [if_neg h5, xs_176_30, xs_176_31, e]
theorem m_readsHead (hX : TX I r s b) (h13 : I 58 13 = nI i) (hi : i < s) (hA : hr b s i ≠ nI 104 → Q (some (.int (nI 0))) (wS, I, J, wP t dr G)) (hB : ¬ hr b s i ≠ nI 104 → (hr b s (i + 1) < nI 49 ∨ nI 53 < hr b s (i + 1)) → Q (some (.int (nI 0))) (wS, xi_up I 58 13 (nI (i + 1)), J, wP t dr G)) (hC : ¬ hr b s i ≠ nI 104 → ¬ (hr b s (i + 1) < nI 49 ∨ nI 53 < hr b s (i + 1)) → Q (some (.int (nI 1))) (wS, xi_up (xi_up (xi_up I 58 13 (nI (i + 1))) 58 15 (hr b s (i + 1) - nI 48)) 58 13 (nI (i + 1 + 1)), J, wP t dr G)) : xr scr (d + 1) xc_174 0 [some (.ref 58), some (.int (nI r))] [] (wS, I, J, wP t dr G) Q := by
  have h10 : ¬ nI 1 = 0 := by decide
  rw [xs_174_0, m_here hX h13 (by omega)]
  simp (disch := first | assumption | omega | decide | exact vp_in_nI (by omega) (by omega) | exact and1_bN _ | (simp only [pk_mul, nI_add, pred_s]; exact vp_in_nI (by omega) (by omega))) only [Option.toList_some, Option.toList_none, List.cons_append, List.nil_append, List.append_nil]
  rw [xs_174_3]
  by_cases e : hr b s i = nI 104
  · have hX1 : TX (xi_up I 58 13 (nI (i + 1))) r s b := TX_fr hX (FRm_58 (Or.inl rfl))
    rw [if_pos e, xs_174_7, h13, nI_add, m_here hX1 xu_eq (by omega)]
    simp (disch := first | assumption | omega | decide | exact vp_in_nI (by omega) (by omega) | exact and1_bN _ | (simp only [pk_mul, nI_add, pred_s]; exact vp_in_nI (by omega) (by omega))) only [Option.toList_some, Option.toList_none, List.cons_append, List.nil_append, List.append_nil]
    rw [xs_174_16, m_in]
    simp (disch := first | assumption | omega | decide | exact vp_in_nI (by omega) (by omega) | exact and1_bN _ | (simp only [pk_mul, nI_add, pred_s]; exact vp_in_nI (by omega) (by omega))) only [Option.toList_some, Option.toList_none, List.cons_append, List.nil_append, List.append_nil]
    rw [xs_174_19]
    by_cases e2 : hr b s (i + 1) < nI 49 ∨ nI 53 < hr b s (i + 1)
    · rw [bN_f (fun q => e2.elim q.1 q.2), if_pos nI_0, xs_174_20]
      exact hB (fun q => q e) e2
    · rw [bN_t ⟨fun q => e2 (Or.inl q), fun q => e2 (Or.inr q)⟩, if_neg h10, xs_174_22, m_here hX1 xu_eq (by omega)]
      simp (disch := first | assumption | omega | decide | exact vp_in_nI (by omega) (by omega) | exact and1_bN _ | (simp only [pk_mul, nI_add, pred_s]; exact vp_in_nI (by omega) (by omega))) only [Option.toList_some, Option.toList_none, List.cons_append, List.nil_append, List.append_nil]
      rw [xs_174_26, xu_eq, nI_add]
      exact hC (fun q => q e) e2
  · rw [if_neg e, xs_174_5]
    exact hA e
theorem m_readsPerson (hX : TX I r s b) (hh : h ≤ 5) (hp : p < s) (h13 : I 58 13 = nI p) (h14 : I 58 14 = nI m) (h15 : I 58 15 = nI h) (hm : m ≤ 7) (hF : ∀ q I2, psn b s h m p = some q → FRm I I2 → I2 58 13 = nI q → Q (some (.int (nI 0))) (wS, I2, J, wP t dr G)) (hN : ∀ I2 : Nat → Nat → Int32, psn b s h m p = none → FRm I I2 → I2 58 13 = nI (p + 1 + (h + 1)) → I2 58 14 = nI (m + 1) → I2 58 15 = nI h → (∀ j, j < 49 + 7 * m → I2 65 j = I 65 j) → I2 65 (49 + 7 * m) = kv (b p) → I2 65 (49 + 7 * m + 1) = b (p + 1) - nI 48 → (∀ u, u < h → I2 65 (49 + 7 * m + 2 + u) = spv (b (p + 1 + (u + 1)))) → Q (some (.int (nI 1))) (wS, I2, J, wP t dr G)) : xr scr (d + 1) xc_175 0 [some (.ref 58), some (.int (nI r)), none, none, none, none] [] (wS, I, J, wP t dr G) Q := by
  have h10 : ¬ nI 1 = 0 := by decide
  have hs : s ≤ 80 := hX.2.1
  have hrp : hr b s p = b p := hr_lt hp
  rw [xs_175_0, m_here hX h13 (by omega)]
  simp (disch := first | assumption | omega | decide | exact vp_in_nI (by omega) (by omega) | exact and1_bN _ | (simp only [pk_mul, nI_add, pred_s]; exact vp_in_nI (by omega) (by omega))) only [Option.toList_some, Option.toList_none, List.cons_append, List.nil_append, List.append_nil]
  rw [xs_175_3, m_kindOf]
  simp (disch := first | assumption | omega | decide | exact vp_in_nI (by omega) (by omega) | exact and1_bN _ | (simp only [pk_mul, nI_add, pred_s]; exact vp_in_nI (by omega) (by omega))) only [Option.toList_some, Option.toList_none, List.cons_append, List.nil_append, List.append_nil]
  rw [xs_175_4, hrp]
  by_cases hk : kN (b p) = 9
  · rw [if_pos (kv_9 hk), xs_175_12]
    exact hF p I (psn_1 (Or.inl (by rw [hrp]; exact hk))) (FRm_r I) h13
  · rw [if_neg (kv_ne hk), xs_175_8, h14]
    by_cases hm7 : m = 7
    · rw [if_pos (by rw [hm7]), xs_175_12]
      exact hF p I (psn_1 (Or.inr (by omega))) (FRm_r I) h13
    · have n1 : ¬ (kN (hr b s p) = 9 ∨ 7 ≤ m) := by rw [hrp]; omega
      rw [if_neg (fun e => hm7 ((nI_eq (by omega) (by omega)).mp e)), xs_175_14 (by rw [h14, pk_mul, nI_add]; exact vp_in_nI (by omega) (by omega)), h13, h14, pk_mul, nI_add, nI_add, nI_clamp (show 49 + 7 * m < 2 ^ 31 by omega)]
      obtain ⟨I1, hI1⟩ : ∃ I1 : Nat → Nat → Int32, I1 = xi_up (xi_up I 58 13 (nI (p + 1))) 65 (49 + 7 * m) (kv (b p)) := ⟨_, rfl⟩
      rw [← hI1]
      have f1 : FRm I I1 := by rw [hI1]; exact FRm_t (FRm_58 (Or.inl rfl)) (FRm_65 (by omega))
      have hX1 := TX_fr hX f1
      have g13 : I1 58 13 = nI (p + 1) := by rw [hI1, xu_nc (by decide), xu_eq]
      have g14 : I1 58 14 = nI m := by rw [hI1, xu_nc (by decide), xu_nj (by decide), h14]
      have g15 : I1 58 15 = nI h := by rw [hI1, xu_nc (by decide), xu_nj (by decide), h15]
      have gk : I1 65 (49 + 7 * m) = kv (b p) := by rw [hI1, xu_eq]
      have gj : ∀ j, j < 49 + 7 * m → I1 65 j = I 65 j := fun j hj => by rw [hI1, xu_nj (by omega), xu_nc (by decide)]
      rw [m_here hX1 g13 (by omega)]
      simp (disch := first | assumption | omega | decide | exact vp_in_nI (by omega) (by omega) | exact and1_bN _ | (simp only [pk_mul, nI_add, pred_s]; exact vp_in_nI (by omega) (by omega))) only [Option.toList_some, Option.toList_none, List.cons_append, List.nil_append, List.append_nil]
      rw [xs_175_35, m_in]
      simp (disch := first | assumption | omega | decide | exact vp_in_nI (by omega) (by omega) | exact and1_bN _ | (simp only [pk_mul, nI_add, pred_s]; exact vp_in_nI (by omega) (by omega))) only [Option.toList_some, Option.toList_none, List.cons_append, List.nil_append, List.append_nil]
      rw [xs_175_38]
      by_cases hfe : hr b s (p + 1) < nI 48 ∨ nI 57 < hr b s (p + 1)
      · rw [bN_f (fun q => hfe.elim q.1 q.2), if_pos nI_0, xs_175_39]
        exact hF (p + 1) I1 (psn_2 n1 hfe) f1 g13
      · have e3 : psn b s h m p = spt b s h (p + 1 + 1) := psn_3 n1 hfe
        have hp1 : p + 1 < s := hr_in (lo := 48) (by decide) (fun q => hfe (Or.inl q))
        have hrp1 : hr b s (p + 1) = b (p + 1) := hr_lt hp1
        rw [bN_t ⟨fun q => hfe (Or.inl q), fun q => hfe (Or.inr q)⟩, if_neg h10, xs_175_41, m_here hX1 g13 (by omega)]
        simp (disch := first | assumption | omega | decide | exact vp_in_nI (by omega) (by omega) | exact and1_bN _ | (simp only [pk_mul, nI_add, pred_s]; exact vp_in_nI (by omega) (by omega))) only [Option.toList_some, Option.toList_none, List.cons_append, List.nil_append, List.append_nil]
        rw [nI_add, xs_175_49 (vp_in_nI (by omega) (by omega)), nI_clamp (by omega), g13, nI_add, hrp1]
        refine up_0 (P := fun u => ∀ (I2 : Nat → Nat → Int32) (o5 : Option Value), FRm I I2 → I2 58 13 = nI (p + 1 + (u + 1)) → I2 58 14 = nI m → I2 58 15 = nI h → (∀ j, j < 49 + 7 * m → I2 65 j = I 65 j) → I2 65 (49 + 7 * m) = kv (b p) → I2 65 (49 + 7 * m + 1) = b (p + 1) - nI 48 → (∀ w, w < u → I2 65 (49 + 7 * m + 2 + w) = spv (b (p + 1 + (w + 1)))) → p + 1 + (u + 1) ≤ s → psn b s h m p = spt b s (h - u) (p + 1 + (u + 1)) → xr scr (d + 1) xc_175 60 [some (.ref 58), some (.int (nI r)), some (.int (kv (b p))), some (.int (nI (49 + 7 * m))), some (.int (nI u)), o5] [] (wS, I2, J, wP t dr G) Q) h (fun u hu ih I2 o5 f2 k13 k14 k15 kj kk kf ks kp ke => ?_) (fun I2 o5 f2 k13 k14 k15 kj kk kf ks kp ke => ?_) _ none (FRm_t f1 (FRm_t (FRm_65 (by omega)) (FRm_58 (Or.inl rfl)))) (by rw [xu_eq]) (by rw [xu_nj (by decide), xu_nc (by decide), g14]) (by rw [xu_nj (by decide), xu_nc (by decide), g15]) (fun j hj => by rw [xu_nc (by decide), xu_nj (by omega), gj j hj]) (by rw [xu_nc (by decide), xu_nj (by omega), gk]) (by rw [xu_nc (by decide), xu_eq]) (fun w hw => absurd hw (Nat.not_lt_zero w)) (by omega) e3
        · have hX2 := TX_fr hX f2
          obtain ⟨k, hk2⟩ : ∃ k, h - u = k + 1 := ⟨h - u - 1, by omega⟩
          have hk3 : h - (u + 1) = k := by omega
          rw [hk2] at ke
          have at2 : (nI (49 + 7 * m) + nI 2) + nI u = nI (49 + 7 * m + 2 + u) := by rw [nI_add, nI_add]
          have vat : vp_in (nI (49 + 7 * m + 2 + u)) 98 := vp_in_nI (by omega) (by omega)
          have fin : ∀ (X : Int32) (o : Int32), X = spv (b (p + 1 + (u + 1))) → p + 1 + (u + 1) < s → ¬ (hr b s (p + 1 + (u + 1)) ≠ nI 45 ∧ (hr b s (p + 1 + (u + 1)) < nI 48 ∨ nI 53 < hr b s (p + 1 + (u + 1)))) → xr scr (d + 1) xc_175 100 [some (.ref 58), some (.int (nI r)), some (.int (kv (b p))), some (.int (nI (49 + 7 * m))), some (.int (nI u)), some (.int o)] [.int X, .int (nI (49 + 7 * m + 2 + u)), .ref 65] (wS, I2, J, wP t dr G) Q := fun X o hX3 hlt hb => by
            rw [xs_175_100 vat, nI_clamp (by omega), k13, nI_add, nI_add]
            refine ih _ _ (FRm_t f2 (FRm_t (FRm_65 (by omega)) (FRm_58 (Or.inl rfl)))) (by rw [xu_eq]; rfl) (by rw [xu_nj (by decide), xu_nc (by decide), k14]) (by rw [xu_nj (by decide), xu_nc (by decide), k15]) (fun j hj => by rw [xu_nc (by decide), xu_nj (by omega), kj j hj]) (by rw [xu_nc (by decide), xu_nj (by omega), kk]) (by rw [xu_nc (by decide), xu_nj (by omega), kf]) (fun w hw => ?_) (by omega) (by rw [ke, spt_s hb, hk3]; rfl)
            rw [xu_nc (by decide), xu_at]
            by_cases e : w = u
            · subst e; rw [if_pos rfl, hX3]
            · rw [if_neg (by omega)]
              exact ks w (by omega)
          rw [xs_175_60, k15, if_pos ((nI_ltI (by omega) (by omega)).mpr hu), xs_175_64, m_here hX2 k13 kp]
          simp (disch := first | assumption | omega | decide | exact vp_in_nI (by omega) (by omega) | exact and1_bN _ | (simp only [pk_mul, nI_add, pred_s]; exact vp_in_nI (by omega) (by omega))) only [Option.toList_some, Option.toList_none, List.cons_append, List.nil_append, List.append_nil]
          rw [xs_175_67]
          by_cases h45 : hr b s (p + 1 + (u + 1)) = nI 45
          · have hlt : p + 1 + (u + 1) < s := by
              by_cases e : p + 1 + (u + 1) < s
              · exact e
              · rw [hr_ge e] at h45; exact absurd h45 (by decide)
            rw [if_pos h45, xs_175_69, xs_175_72, if_neg h10, xs_175_84, if_neg h10, at2, xs_175_93]
            exact fin _ _ (by unfold spv; rw [← hr_lt (b := b) hlt, if_pos h45]) hlt (fun q => q.1 h45)
          · rw [if_neg h45, xs_175_71, xs_175_72, if_pos nI_0, xs_175_75, m_here hX2 k13 kp]
            simp (disch := first | assumption | omega | decide | exact vp_in_nI (by omega) (by omega) | exact and1_bN _ | (simp only [pk_mul, nI_add, pred_s]; exact vp_in_nI (by omega) (by omega))) only [Option.toList_some, Option.toList_none, List.cons_append, List.nil_append, List.append_nil]
            rw [xs_175_78, m_in]
            simp (disch := first | assumption | omega | decide | exact vp_in_nI (by omega) (by omega) | exact and1_bN _ | (simp only [pk_mul, nI_add, pred_s]; exact vp_in_nI (by omega) (by omega))) only [Option.toList_some, Option.toList_none, List.cons_append, List.nil_append, List.append_nil]
            rw [xs_175_81]
            by_cases e2 : hr b s (p + 1 + (u + 1)) < nI 48 ∨ nI 53 < hr b s (p + 1 + (u + 1))
            · rw [bN_f (fun q => e2.elim q.1 q.2), if_pos nI_0, xs_175_82]
              exact hF _ I2 (by rw [ke]; exact spt_f ⟨h45, e2⟩) f2 k13
            · have hlt : p + 1 + (u + 1) < s := hr_in (lo := 48) (by decide) (fun q => e2 (Or.inl q))
              rw [bN_t ⟨fun q => e2 (Or.inl q), fun q => e2 (Or.inr q)⟩, if_neg h10, xs_175_84, if_pos nI_0, at2, xs_175_95, m_here hX2 k13 kp]
              simp (disch := first | assumption | omega | decide | exact vp_in_nI (by omega) (by omega) | exact and1_bN _ | (simp only [pk_mul, nI_add, pred_s]; exact vp_in_nI (by omega) (by omega))) only [Option.toList_some, Option.toList_none, List.cons_append, List.nil_append, List.append_nil]
              rw [xs_175_98]
              exact fin _ _ (by unfold spv; rw [← hr_lt (b := b) hlt, if_neg h45]) hlt (fun q => e2 q.2)
        · rw [Nat.sub_self] at ke
          rw [xs_175_60, k15, if_neg (fun e => by have := (nI_ltI (by omega) (by omega)).mp e; omega), xs_175_109, k14, nI_add]
          exact hN _ ke (FRm_t f2 (FRm_58 (Or.inr (Or.inl rfl)))) (by rw [xu_nj (by decide), k13]) (by rw [xu_eq]) (by rw [xu_nj (by decide), k15]) (fun j hj => by rw [xu_nc (by decide), kj j hj]) (by rw [xu_nc (by decide), kk]) (by rw [xu_nc (by decide), kf]) (fun w hw => by rw [xu_nc (by decide), ks w hw])
theorem m_skip (hX : TX I r s b) (h13 : I 58 13 = nI i) (hi : i ≤ s) (hq : ∀ I2 : Nat → Nat → Int32, (∀ k, k ≠ 58 → I2 k = I k) → (∀ j, j ≠ 13 → I2 58 j = I 58 j) → I2 58 13 = nI (skp b (s - i) i) → xr scr (d + 3) xc_172 9 [some (.ref 58), some (.int (nI r))] [] (wS, I2, J, wP t dr G) Q) : xr scr (d + 3) xc_172 9 [some (.ref 58), some (.int (nI r))] [] (wS, I, J, wP t dr G) Q := by
  have hs : s ≤ 80 := hX.2.1
  have key : ∀ k j (I3 : Nat → Nat → Int32), s - j = k → j ≤ s → skp b (s - i) i = skp b k j → (∀ k, k ≠ 58 → I3 k = I k) → (∀ j, j ≠ 13 → I3 58 j = I 58 j) → I3 58 13 = nI j → xr scr (d + 3) xc_172 9 [some (.ref 58), some (.int (nI r))] [] (wS, I3, J, wP t dr G) Q := by
    intro k
    induction k with
    | zero => exact fun j I3 hk hj e f1 f2 f3 => hq I3 f1 f2 (by rw [f3, e]; rfl)
    | succ k ih =>
      intro j I3 hk hj e f1 f2 f3
      have hX3 : TX I3 r s b := TX_fr hX ⟨fun k a _ => f1 k a, fun j a _ _ => f2 j a, fun j _ => by rw [f1 65 (by decide)]⟩
      have hjs : j < s := by omega
      by_cases e2 : b j = nI 32
      · have e4 : skp b (k + 1) j = skp b k (j + 1) := if_pos e2
        rw [xs_172_9 (vp_in_nI hX.1 (by decide)), nI_clamp (by have := hX.1; omega), hX3.2.2.1, f3, if_pos ((nI_ltI (by omega) (by omega)).mpr hjs), xs_172_16, m_here hX3 f3 hj]
        simp (disch := first | assumption | omega | decide | exact vp_in_nI (by omega) (by omega) | exact and1_bN _ | (simp only [pk_mul, nI_add, pred_s]; exact vp_in_nI (by omega) (by omega))) only [Option.toList_some, Option.toList_none, List.cons_append, List.nil_append, List.append_nil]
        rw [xs_172_19, hr_lt hjs, if_pos e2, xs_172_21, f3, nI_add]
        exact ih (j + 1) _ (by omega) (by omega) (e.trans e4) (fun k hk => by rw [xu_fr hk, f1 k hk]) (fun j hj => by rw [xu_nj hj, f2 j hj]) xu_eq
      · have e4 : skp b (k + 1) j = j := if_neg e2
        exact hq I3 f1 f2 (by rw [f3, e, e4])
  exact key (s - i) i I rfl hi rfl (fun _ _ => rfl) (fun _ _ => rfl) h13
theorem RT_fr {T : TN} (h : RT I T) (f : ∀ k, k ≠ 58 → I2 k = I k) (f2 : ∀ j, j ≠ 13 → I2 58 j = I 58 j) : RT I2 T := by
  unfold RT at h ⊢
  rw [f 65 (by decide), f2 14 (by decide), f2 15 (by decide)]
  exact h
theorem RT_stp (H : RT I (TNp b h ps)) (e : psn b s h ps.length i = none) (hi : i < s) (g15 : I2 58 15 = nI h) (g14 : I2 58 14 = nI (ps.length + 1)) (gj : ∀ j, j < 49 + 7 * ps.length → I2 65 j = I 65 j) (gk : I2 65 (49 + 7 * ps.length) = kv (b i)) (gf : I2 65 (49 + 7 * ps.length + 1) = b (i + 1) - nI 48) (gs : ∀ u, u < h → I2 65 (49 + 7 * ps.length + 2 + u) = spv (b (i + 1 + (u + 1)))) : RT I2 (TNp b h (ps ++ [i])) := by
  obtain ⟨p1, p2, p3, p4, p5, p6⟩ := psn_n e
  have hh : h ≤ 5 := H.2.1
  rw [hr_lt hi] at p1
  refine ⟨by rw [TN_len]; omega, hh, g15, by rw [TN_len]; exact g14, fun x hx => ?_, fun x hx u hu => ?_⟩
  · rw [TN_len] at hx
    show I2 65 (49 + 7 * x) = nI (kN (b ((ps ++ [i]).getD x 0))) ∧ kN (b ((ps ++ [i]).getD x 0)) ≤ 5 ∧ I2 65 (49 + 7 * x + 1) = nI ((b ((ps ++ [i]).getD x 0 + 1)).toNatClampNeg - 48) ∧ (b ((ps ++ [i]).getD x 0 + 1)).toNatClampNeg - 48 ≤ 9
    by_cases ex : x < ps.length
    · rw [getD_a ex, gj _ (by omega), gj _ (by omega)]
      exact H.2.2.2.2.1 x ex
    · obtain rfl : x = ps.length := by omega
      obtain ⟨n, n1, n2, n3⟩ := dig2 (lo := 48) (hi := 57) (by decide) (by decide) p4 p5
      have hk := kN_le (b i)
      rw [getD_b, gk, gf, kv_n p1, n3, nI_clamp (by omega), pk_sub n1]
      exact ⟨rfl, by omega, rfl, by omega⟩
  · rw [TN_len] at hx
    have hu' : u < h := hu
    show I2 65 (49 + 7 * x + 2 + u) = spv (b ((ps ++ [i]).getD x 0 + 1 + (u + 1)))
    by_cases ex : x < ps.length
    · rw [getD_a ex, gj _ (by omega)]
      exact H.2.2.2.2.2 x ex u hu
    · obtain rfl : x = ps.length := by omega
      rw [getD_b]
      exact gs u hu
theorem m_prl (h1 : 1 ≤ h) : ∀ k i ps (I : Nat → Nat → Int32), ps.length + k = 8 → i ≤ s → (i < s → ¬ b i = nI 32) → TX I r s b → RT I (TNp b h ps) → I 58 13 = nI i → (∀ I2 : Nat → Nat → Int32, FRm I I2 → ((prl b s h k i ps).1 = none → RT I2 (TNp b h (prl b s h k i ps).2)) → Q (some (.int (cd (prl b s h k i ps).1))) (wS, I2, J, wP t dr G)) → xr scr (d + 3) xc_172 9 [some (.ref 58), some (.int (nI r))] [] (wS, I, J, wP t dr G) Q := by
  have h10 : ¬ nI 1 = 0 := by decide
  intro k
  induction k with
  | zero =>
    intro i ps I hl hi hb hX H
    have h7 : ps.length ≤ 7 := H.1
    omega
  | succ k ih =>
    intro i ps I hl his hb hX H h13 hq
    have h7 : ps.length ≤ 7 := H.1
    have hh : h ≤ 5 := H.2.1
    have h14 : I 58 14 = nI ps.length := H.2.2.2.1
    have h15 : I 58 15 = nI h := H.2.2.1
    have hs : s ≤ 80 := hX.2.1
    have n0 : ¬ nI h = 0 := fun e => by have := (z_eq (by omega)).mp e; omega
    have hcl : (nI r).toNatClampNeg = r := nI_clamp (by have := hX.1; omega)
    rw [xs_172_9 (vp_in_nI hX.1 (by decide)), hcl, hX.2.2.1, h13]
    by_cases hi : i < s
    · rw [if_pos ((nI_ltI (by omega) (by omega)).mpr hi), xs_172_16, m_here hX h13 (by omega)]
      simp (disch := first | assumption | omega | decide | exact vp_in_nI (by omega) (by omega) | exact and1_bN _ | (simp only [pk_mul, nI_add, pred_s]; exact vp_in_nI (by omega) (by omega))) only [Option.toList_some, Option.toList_none, List.cons_append, List.nil_append, List.append_nil]
      rw [xs_172_19, hr_lt hi, if_neg (hb hi), xs_172_28, h15, if_neg n0, xs_172_36]
      refine m_readsPerson (d := d + 1) (m := ps.length) hX hh hi h13 h14 h15 h7 (fun q I2 e f g13 => ?_) (fun I2 e f g13 g14 g15 gj gk gf gs => ?_)
      · rw [prl_f hi e] at hq
        simp (disch := first | assumption | omega | decide | exact vp_in_nI (by omega) (by omega) | exact and1_bN _ | (simp only [pk_mul, nI_add, pred_s]; exact vp_in_nI (by omega) (by omega))) only [Option.toList_some, Option.toList_none, List.cons_append, List.nil_append, List.append_nil]
        rw [xs_172_39, if_pos nI_0, xs_172_40, g13]
        exact hq I2 f (fun z => by cases z)
      · have hen := psn_end e
        rw [prl_n hi e] at hq
        simp (disch := first | assumption | omega | decide | exact vp_in_nI (by omega) (by omega) | exact and1_bN _ | (simp only [pk_mul, nI_add, pred_s]; exact vp_in_nI (by omega) (by omega))) only [Option.toList_some, Option.toList_none, List.cons_append, List.nil_append, List.append_nil]
        rw [xs_172_39, if_neg h10]
        refine m_skip (TX_fr hX f) g13 hen (fun I3 a1 a2 a3 => ?_)
        have f3 : FRm I2 I3 := ⟨fun k a _ => a1 k a, fun j a _ _ => a2 j a, fun j _ => by rw [a1 65 (by decide)]⟩
        have hsk := skp_le b (s - (i + 1 + (h + 1))) (i + 1 + (h + 1))
        exact ih _ (ps ++ [i]) I3 (by rw [List.length_append]; show ps.length + 1 + k = 8; omega) (by omega) (fun q => skp_nb b _ _ (by omega)) (TX_fr hX (FRm_t f f3)) (RT_fr (RT_stp H e hi g15 g14 gj gk gf gs) a1 a2) a3 (fun I4 f4 => hq I4 (FRm_t f (FRm_t f3 f4)))
    · rw [if_neg (fun e => hi ((nI_ltI (by omega) (by omega)).mp e)), xs_172_43, h15, if_neg n0, xs_172_51, xs_172_52]
      rw [prl_o hi] at hq
      exact hq I (FRm_r I) (fun _ => H)
theorem m_goesOn (hX : TX I r s b) (hq : ∀ I2 : Nat → Nat → Int32, FRm I I2 → ((rdT b s).1 = none → RT I2 (TNp b (rdT b s).2.1 (rdT b s).2.2)) → Q (some (.int (cd (rdT b s).1))) (wS, I2, J, wP t dr G)) : xr scr (d + 3) xc_172 0 [some (.ref 58), some (.int (nI r))] [] (wS, I, J, wP t dr G) Q := by
  have h10 : ¬ nI 1 = 0 := by decide
  have hs : s ≤ 80 := hX.2.1
  have hcl : (nI r).toNatClampNeg = r := nI_clamp (by have := hX.1; omega)
  rw [xs_172_0]
  have f0 : FRm I (xi_up (xi_up (xi_up I 58 13 (nI 0)) 58 14 (nI 0)) 58 15 (nI 0)) := FRm_t (FRm_58 (Or.inl rfl)) (FRm_t (FRm_58 (Or.inr (Or.inl rfl))) (FRm_58 (Or.inr (Or.inr rfl))))
  refine m_skip (TX_fr hX f0) (i := 0) (by rw [xu_nj (by decide), xu_nj (by decide), xu_eq]) (by omega) (fun I1 a1 a2 a3 => ?_)
  rw [Nat.sub_zero] at a3
  have f1 : FRm I I1 := FRm_t f0 ⟨fun k a _ => a1 k a, fun j a _ _ => a2 j a, fun j _ => by rw [a1 65 (by decide)]⟩
  have hX1 := TX_fr hX f1
  have g14 : I1 58 14 = nI 0 := by rw [a2 14 (by decide), xu_nj (by decide), xu_eq]
  have g15 : I1 58 15 = nI 0 := by rw [a2 15 (by decide), xu_eq]
  have hle := skp_le b s 0
  have hnb : skp b s 0 < s → ¬ b (skp b s 0) = nI 32 := fun q => skp_nb b s 0 (by omega)
  obtain ⟨i, hi0⟩ : ∃ i, i = skp b s 0 := ⟨_, rfl⟩
  rw [← hi0] at hle hnb a3
  rw [xs_172_9 (vp_in_nI hX.1 (by decide)), hcl, hX1.2.2.1, a3]
  by_cases hi : i < s
  · rw [if_pos ((nI_ltI (by omega) (by omega)).mpr hi), xs_172_16, m_here hX1 a3 (by omega)]
    simp (disch := first | assumption | omega | decide | exact vp_in_nI (by omega) (by omega) | exact and1_bN _ | (simp only [pk_mul, nI_add, pred_s]; exact vp_in_nI (by omega) (by omega))) only [Option.toList_some, Option.toList_none, List.cons_append, List.nil_append, List.append_nil]
    rw [xs_172_19, hr_lt hi, if_neg (hnb hi), xs_172_28, g15, if_pos nI_0, xs_172_31]
    refine m_readsHead (d := d + 1) hX1 a3 hi (fun e1 => ?_) (fun e1 e2 => ?_) (fun e1 e2 => ?_)
    · rw [rd_1 (by rw [← hi0]; exact e1), ← hi0] at hq
      simp (disch := first | assumption | omega | decide | exact vp_in_nI (by omega) (by omega) | exact and1_bN _ | (simp only [pk_mul, nI_add, pred_s]; exact vp_in_nI (by omega) (by omega))) only [Option.toList_some, Option.toList_none, List.cons_append, List.nil_append, List.append_nil]
      rw [xs_172_34, if_pos nI_0, xs_172_35, xs_172_40, a3]
      exact hq I1 f1 (fun z => by cases z)
    · rw [rd_2 (by rw [← hi0]; exact e1) (by rw [← hi0]; exact e2), ← hi0] at hq
      simp (disch := first | assumption | omega | decide | exact vp_in_nI (by omega) (by omega) | exact and1_bN _ | (simp only [pk_mul, nI_add, pred_s]; exact vp_in_nI (by omega) (by omega))) only [Option.toList_some, Option.toList_none, List.cons_append, List.nil_append, List.append_nil]
      rw [xs_172_34, if_pos nI_0, xs_172_35, xs_172_40, xu_eq]
      exact hq _ (FRm_t f1 (FRm_58 (Or.inl rfl))) (fun z => by cases z)
    · have hi1 : i + 1 < s := hr_in (lo := 49) (by decide) (fun q => e2 (Or.inl q))
      have e2' := e2
      rw [hr_lt hi1] at e2'
      obtain ⟨n, l1, l2, l3⟩ := dig2 (lo := 49) (hi := 53) (by decide) (by decide) (fun q => e2' (Or.inl q)) (fun q => e2' (Or.inr q))
      rw [rd_3 (by rw [← hi0]; exact e1) (by rw [← hi0]; exact e2) (n := n) (by omega) (by rw [← hi0]; exact l3), ← hi0] at hq
      simp (disch := first | assumption | omega | decide | exact vp_in_nI (by omega) (by omega) | exact and1_bN _ | (simp only [pk_mul, nI_add, pred_s]; exact vp_in_nI (by omega) (by omega))) only [Option.toList_some, Option.toList_none, List.cons_append, List.nil_append, List.append_nil]
      rw [xs_172_34, if_neg h10, hr_lt hi1, l3, pk_sub (by omega)]
      have f2 : FRm I1 (xi_up (xi_up (xi_up I1 58 13 (nI (i + 1))) 58 15 (nI (n - 48))) 58 13 (nI (i + 1 + 1))) := FRm_t (FRm_58 (Or.inl rfl)) (FRm_t (FRm_58 (Or.inr (Or.inr rfl))) (FRm_58 (Or.inl rfl)))
      refine m_skip (TX_fr hX1 f2) (i := i + 1 + 1) xu_eq (by omega) (fun I3 b1 b2 b3 => ?_)
      have f3 : FRm I I3 := FRm_t f1 (FRm_t f2 ⟨fun k a _ => b1 k a, fun j a _ _ => b2 j a, fun j _ => by rw [b1 65 (by decide)]⟩)
      have hsk := skp_le b (s - (i + 1 + 1)) (i + 1 + 1)
      exact m_prl (d := d) (h := n - 48) (by omega) 8 _ [] I3 rfl (by omega) (fun q => skp_nb b _ _ (by omega)) (TX_fr hX f3) ⟨Nat.zero_le 7, by show n - 48 ≤ 5; omega, by rw [b2 15 (by decide), xu_nj (by decide), xu_eq]; rfl, by rw [b2 14 (by decide), xu_nj (by decide), xu_nj (by decide), xu_nj (by decide), g14]; rfl, fun x hx => absurd hx (Nat.not_lt_zero x), fun x hx => absurd hx (Nat.not_lt_zero x)⟩ b3 (fun I4 f4 => hq I4 (FRm_t f3 f4))
  · have his : i = s := by omega
    rw [rd_1 (by rw [← hi0, hr_ge hi]; decide), ← hi0] at hq
    rw [if_neg (fun e => hi ((nI_ltI (by omega) (by omega)).mp e)), xs_172_43, g15, if_pos nI_0, xs_172_46 (vp_in_nI hX.1 (by decide)), hcl, hX1.2.2.1, xs_172_52, ← his]
    exact hq I1 f1 (fun z => by cases z)
end MPARSE
