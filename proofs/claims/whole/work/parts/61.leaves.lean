/-! call: leaves -/
def shr (q : Nat → Bool) (g : Nat → Nat) (i : Nat) : Nat := if q i = true then g i else 0
theorem smg_le9 {g : Nat → Nat} {n : Nat} (h : ∀ i, i < n → g i ≤ 9) : ∀ m, m ≤ n → smg g m ≤ 9 * m
  | 0, _ => Nat.le_refl _
  | m + 1, hm => by
    have := smg_le9 h m (by omega)
    have := h m (by omega)
    show smg g m + g m ≤ 9 * (m + 1)
    omega
theorem shr_le {q : Nat → Bool} {g : Nat → Nat} {n : Nat} (h : ∀ i, i < n → g i ≤ 9) : ∀ i, i < n → shr q g i ≤ 9 := fun i hi => by
  have := h i hi
  unfold shr
  split <;> omega
theorem smg_s (g : Nat → Nat) (n : Nat) : smg g (n + 1) = smg g n + g n := rfl
section LEAVES
variable {scr : xi_X} {d : Nat} {Q : Option Value → xi_S → Prop} {I I2 I3 I4 : Nat → Nat → Int32} {J J2 : Nat → Nat → Int64} {t dr : Nat} {G G2 : Nat → Nat} {T : TN} {v v2 : Nat} {bk bk2 : Bool} {pre pre2 : List Nat} {ss ss2 : List SGT}
theorem c_shrOf (ht : tw t) (hT : TR I t T) {a : Nat} (ha : rwc a) {g : Nat → Nat} (hA : ∀ i, i < tN T → I a i = nI (g i)) (hg : ∀ i, i < tN T → g i ≤ 9) (q : Nat → Bool) : xr scr d xc_115 0 [some (.ref 0), some (.ref a), some (.int (nI (bs (tN T) q))), none, none] [] (wS, I, J, wP t dr G) Q = Q (some (.int (nI (smg (shr q g) (tN T))))) (wS, I, J, wP t dr G) := by
  have hn := TR_n hT
  have hs := smg_le9 (shr_le (q := q) hg)
  rw [xs_115_0]
  refine up_0 (P := fun i => xr scr d xc_115 4 [some (.ref 0), some (.ref a), some (.int (nI (bs (tN T) q))), some (.int (nI (smg (shr q g) i))), some (.int (nI i))] [] (wS, I, J, wP t dr G) Q = Q (some (.int (nI (smg (shr q g) (tN T))))) (wS, I, J, wP t dr G)) (tN T) (fun i hi h => ?_) ?_
  · have h40 : i < 40 := by omega
    have hs1 := hs i (by omega)
    have hg1 := hg i hi
    have hA1 := hA i hi
    rw [xs_115_4 ht, TR_1 hT, if_pos ((nI_ltI (by omega) (by omega)).mpr hi), xs_115_9, sb_t hn q (by omega)]
    rw [smg_s] at h
    unfold shr at h ⊢
    by_cases hq : q i = true
    · rw [if_pos hq] at h
      rw [if_neg (by rw [bN_t ⟨hi, hq⟩]; decide), xs_115_15 ha (vp_in_nI h40 (by omega)), nI_clamp (by omega), hA1]
      simp (disch := first | assumption | omega | decide | exact vp_in_nI (by omega) (by omega) | exact and1_bN _ | (simp only [pk_mul, nI_add, pred_s]; exact vp_in_nI (by omega) (by omega))) only [Bool.false_eq_true, nI_add, pk_mul, nI_ltI, nI_eq, z_eq, z_lt, z_gt, z_bN, bN_z, bN_p, bN_i1, nI_clamp, rng_nI, ↓reduceIte, if_true, if_false, not_true_eq_false, not_false_eq_true, true_and, and_true, and_self, false_and, and_false, xs_115_21]
      exact h
    · rw [if_neg hq] at h
      rw [if_pos (by rw [bN_f (fun e => hq e.2)]; rfl)]
      simp (disch := first | assumption | omega | decide | exact vp_in_nI (by omega) (by omega) | exact and1_bN _ | (simp only [pk_mul, nI_add, pred_s]; exact vp_in_nI (by omega) (by omega))) only [Bool.false_eq_true, nI_add, pk_mul, nI_ltI, nI_eq, z_eq, z_lt, z_gt, z_bN, bN_z, bN_p, bN_i1, nI_clamp, rng_nI, ↓reduceIte, if_true, if_false, not_true_eq_false, not_false_eq_true, true_and, and_true, and_self, false_and, and_false, xs_115_21]
      exact h
  · rw [xs_115_4 ht, TR_1 hT]
    simp (disch := first | assumption | omega | decide | exact vp_in_nI (by omega) (by omega) | exact and1_bN _ | (simp only [pk_mul, nI_add, pred_s]; exact vp_in_nI (by omega) (by omega))) only [Bool.false_eq_true, nI_add, pk_mul, nI_ltI, nI_eq, z_eq, z_lt, z_gt, z_bN, bN_z, bN_p, bN_i1, nI_clamp, rng_nI, ↓reduceIte, if_true, if_false, not_true_eq_false, not_false_eq_true, true_and, and_true, and_self, false_and, and_false, Nat.lt_irrefl, xs_115_23]
theorem c_areShares0 (ht : tw t) (hT : TR I t T) {a : Nat} (ha : rwc a) (h : ¬ ∀ i, i < tN T → rng (I a i) 10 = true) : xr scr (d + 1) xc_114 0 [some (.ref 0), some (.ref a), none] [] (wS, I, J, wP t dr G) Q = Q (some (.int (nI 0))) (wS, I, J, wP t dr G) := by
  have hn := TR_n hT
  rw [xs_114_0]
  refine up_0 (P := fun i => (∀ j, j < i → rng (I a j) 10 = true) → xr scr (d + 1) xc_114 2 [some (.ref 0), some (.ref a), some (.int (nI i))] [] (wS, I, J, wP t dr G) Q = Q (some (.int (nI 0))) (wS, I, J, wP t dr G)) (tN T) (fun i hi h hj => ?_) (fun hj => absurd hj h) (fun j hj => absurd hj (Nat.not_lt_zero _))
  have h40 : i < 40 := by omega
  have hr := rng_s (x := I a i) (n := 9) (by decide)
  rw [xs_114_2 ht, TR_1 hT, if_pos ((nI_ltI (by omega) (by omega)).mpr hi), xs_114_7 ha (vp_in_nI h40 (by omega)), nI_clamp (by omega)]
  by_cases h1 : I a i < 0
  · rw [if_pos h1, xs_114_16]
  · rw [if_neg h1, xs_114_11 ha (vp_in_nI h40 (by omega)), nI_clamp (by omega)]
    by_cases h2 : nI 9 < I a i
    · rw [if_pos h2, xs_114_16]
    · rw [if_neg h2, xs_114_18, nI_add]
      exact h (fun j hj2 => by
        by_cases e : j = i
        · rw [e]; exact hr.mpr ⟨h1, h2⟩
        · exact hj j (by omega))
theorem c_areShares1 (ht : tw t) (hT : TR I t T) {a : Nat} (ha : rwc a) {g : Nat → Nat} (hA : ∀ i, i < tN T → I a i = nI (g i)) (hg : ∀ i, i < tN T → g i ≤ 9) : xr scr (d + 1) xc_114 0 [some (.ref 0), some (.ref a), none] [] (wS, I, J, wP t dr G) Q = Q (some (.int (nI (bN (smg g (tN T) = 9))))) (wS, I, J, wP t dr G) := by
  have hn := TR_n hT
  have hs := smg_le9 hg
  rw [xs_114_0]
  refine up_0 (P := fun i => xr scr (d + 1) xc_114 2 [some (.ref 0), some (.ref a), some (.int (nI i))] [] (wS, I, J, wP t dr G) Q = Q (some (.int (nI (bN (smg g (tN T) = 9))))) (wS, I, J, wP t dr G)) (tN T) (fun i hi h => ?_) ?_
  · have h40 : i < 40 := by omega
    have hA1 := hA i hi
    have hg1 := hg i hi
    have n1 : ¬ nI (g i) < 0 := nI_pos (by omega)
    have n2 : ¬ nI 9 < nI (g i) := by rw [nI_ltI (by omega) (by omega)]; omega
    rw [xs_114_2 ht, TR_1 hT, if_pos ((nI_ltI (by omega) (by omega)).mpr hi), xs_114_7 ha (vp_in_nI h40 (by omega)), nI_clamp (by omega), hA1, if_neg n1, xs_114_11 ha (vp_in_nI h40 (by omega)), nI_clamp (by omega), hA1, if_neg n2, xs_114_18, nI_add]
    exact h
  · have e1 : smg (shr (fun _ => true) g) (tN T) = smg g (tN T) := by
      have : shr (fun _ => true) g = g := by funext i; simp [shr]
      rw [this]
    have hs9 := hs (tN T) (Nat.le_refl _)
    rw [xs_114_2 ht, TR_1 hT]
    simp (disch := first | assumption | omega | decide | exact vp_in_nI (by omega) (by omega) | exact and1_bN _ | (simp only [pk_mul, nI_add, pred_s]; exact vp_in_nI (by omega) (by omega))) only [Bool.false_eq_true, nI_add, pk_mul, nI_ltI, nI_eq, z_eq, z_lt, z_gt, z_bN, bN_z, bN_p, bN_i1, nI_clamp, rng_nI, ↓reduceIte, if_true, if_false, not_true_eq_false, not_false_eq_true, true_and, and_true, and_self, false_and, and_false, Nat.lt_irrefl]
    rw [xs_114_20 ht, c_everyone ht hT]
    simp (disch := first | assumption | omega | decide | exact vp_in_nI (by omega) (by omega) | exact and1_bN _ | (simp only [pk_mul, nI_add, pred_s]; exact vp_in_nI (by omega) (by omega))) only [Option.toList_some, Option.toList_none, List.cons_append, List.nil_append, List.append_nil]
    rw [xs_114_25, c_shrOf ht hT ha hA hg (fun _ => true), e1]
    simp (disch := first | assumption | omega | decide | exact vp_in_nI (by omega) (by omega) | exact and1_bN _ | (simp only [pk_mul, nI_add, pred_s]; exact vp_in_nI (by omega) (by omega))) only [Option.toList_some, Option.toList_none, List.cons_append, List.nil_append, List.append_nil, xs_114_26, Bool.false_eq_true, nI_add, pk_mul, nI_ltI, nI_eq, z_eq, z_lt, z_gt, z_bN, bN_z, bN_p, bN_i1, nI_clamp, rng_nI, ↓reduceIte, if_true, if_false, not_true_eq_false, not_false_eq_true, true_and, and_true, and_self, false_and, and_false, xs_114_28, xs_114_30, xs_114_31]
    by_cases e : smg g (tN T) = 9
    · rw [if_pos e, bN_t e]
    · rw [if_neg e, bN_f e]
theorem m_hasB (hn : tN T ≤ 7) {b y : Nat} (hb : b < 2 ^ tN T) (hy : y < 8) : xr scr d xc_227 0 [some (.int (nI b)), some (.int (nI y))] [] (wS, I, J, wP t dr G) Q = Q (some (.int (nI (bN (y < tN T ∧ b.testBit y = true))))) (wS, I, J, wP t dr G) := by
  have := m_has (scr := scr) (d := d) (I := I) (J := J) (t := t) (dr := dr) (G := G) (Q := Q) hn (fun x => b.testBit x) hy
  rw [← bs_of hb] at this
  exact this
theorem c_shrB (ht : tw t) (hT : TR I t T) {a : Nat} (ha : rwc a) {g : Nat → Nat} (hA : ∀ i, i < tN T → I a i = nI (g i)) (hg : ∀ i, i < tN T → g i ≤ 9) {b : Nat} (hb : b < 2 ^ tN T) : xr scr d xc_115 0 [some (.ref 0), some (.ref a), some (.int (nI b)), none, none] [] (wS, I, J, wP t dr G) Q = Q (some (.int (nI (smg (shr (fun x => b.testBit x) g) (tN T))))) (wS, I, J, wP t dr G) := by
  have := c_shrOf (scr := scr) (d := d) (I := I) (J := J) (t := t) (dr := dr) (G := G) (Q := Q) ht hT ha hA hg (fun x => b.testBit x)
  rw [← bs_of hb] at this
  exact this
theorem k_leaves (H : INV I J t dr G T v bk pre ss) {x y : Int32} : xr scr (d + 20) xc_113 0 [some (.ref 0), some (.int x), some (.int y), none] [] (wS, I, J, wP t dr G) (AN scr (d + 20) xc_230 [some (.ref 58), some (.int x), some (.int y), none, none, none, none, none]) := by
  have ht := H.1.1
  have hT := H.1.2.2.2.1
  have hM := H.1.2.2.2.2.1
  have hn := TR_n hT.1
  have hh5 := TR_h hT.1
  obtain ⟨e, he, he2⟩ := p2_s hn
  by_cases hx : rng x 6 = true
  · obtain ⟨r, hr, rfl⟩ := rng_of hx (by decide)
    have hcl : (nI r).toNatClampNeg = r := nI_clamp (by omega)
    have ha : rwc (2 + r) := ⟨by omega, by omega⟩
    by_cases hy : rng y (tH T + 1) = true
    · obtain ⟨u, hu1, rfl⟩ := rng_of hy (by omega)
      have hu : u ≤ tH T := by omega
      rw [xs_113_0, c_isRow]
      simp (disch := first | assumption | omega | decide | exact vp_in_nI (by omega) (by omega) | exact and1_bN _ | (simp only [pk_mul, nI_add, pred_s]; exact vp_in_nI (by omega) (by omega))) only [Option.toList_some, Option.toList_none, List.cons_append, List.nil_append, List.append_nil, xs_113_2, Bool.false_eq_true, nI_add, pk_mul, nI_ltI, nI_eq, z_eq, z_lt, z_gt, z_bN, bN_z, bN_p, bN_i1, nI_clamp, rng_nI, ↓reduceIte, if_true, if_false, not_true_eq_false, not_false_eq_true, true_and, and_true, and_self, false_and, and_false, hr]
      rw [xs_113_3 ht, c_isMoment ht hT.1]
      simp (disch := first | assumption | omega | decide | exact vp_in_nI (by omega) (by omega) | exact and1_bN _ | (simp only [pk_mul, nI_add, pred_s]; exact vp_in_nI (by omega) (by omega))) only [Option.toList_some, Option.toList_none, List.cons_append, List.nil_append, List.append_nil, xs_113_7, Bool.false_eq_true, nI_add, pk_mul, nI_ltI, nI_eq, z_eq, z_lt, z_gt, z_bN, bN_z, bN_p, bN_i1, nI_clamp, rng_nI, ↓reduceIte, if_true, if_false, not_true_eq_false, not_false_eq_true, true_and, and_true, and_self, false_and, and_false, hu1]
      rw [xs_113_10 ht, TR_1 hT.1]
      -- the reference's head
      have mhead : ∀ (I1 : Nat → Nat → Int32) (Q : Option Value → xi_S → Prop), MT I1 T → xr scr (d + 20) xc_230 0 [some (.ref 58), some (.int (nI r)), some (.int (nI u)), none, none, none, none, none] [] (wS, I1, J, wP t dr G) Q = if tN T = 0 then Q (some (.int (-4))) (wS, I1, J, wP t dr G) else xr scr (d + 20) xc_230 14 [some (.ref 58), some (.int (nI r)), some (.int (nI u)), none, none, none, none, none] [] (wS, I1, J, wP t dr G) Q := fun I1 Q m1 => by
        simp (disch := first | assumption | omega | decide | exact vp_in_nI (by omega) (by omega) | exact and1_bN _ | (simp only [pk_mul, nI_add, pred_s]; exact vp_in_nI (by omega) (by omega))) only [xs_230_0, m_isRow, Option.toList_some, Option.toList_none, List.cons_append, List.nil_append, List.append_nil, xs_230_2, Bool.false_eq_true, nI_add, pk_mul, nI_ltI, nI_eq, z_eq, z_lt, z_gt, z_bN, bN_z, bN_p, bN_i1, nI_clamp, rng_nI, ↓reduceIte, if_true, if_false, not_true_eq_false, not_false_eq_true, true_and, and_true, and_self, false_and, and_false, hr, xs_230_3, m_isTime m1, xs_230_6, hu1, xs_230_9, MT_10 m1, xs_230_12]
      by_cases h0 : tN T = 0
      · rw [h0, if_pos nI_0, xs_113_14]
        refine AN_i ?_
        rw [mhead I _ hM, if_pos h0]
        first | exact PST_i H | exact ⟨trivial, PST_i H⟩ | exact ⟨rfl, PST_i H⟩
      · rw [if_neg (nI_ne0 (by omega) (by omega)), xs_113_16 (vp_in_nI hr (by omega)), hcl]
        rcases H.2.1.1 r hr with ⟨s, hs, h8, h60⟩ | ⟨h8, h60⟩
        · rw [h8, if_neg (nI_pos (by omega)), xs_113_25 (vp_in_nI hr (by omega)) ht, hcl, h8, TR_1 hT.1]
          have msz : ∀ (I1 : Nat → Nat → Int32) (Q : Option Value → xi_S → Prop), MT I1 T → I1 60 r = nI s → xr scr (d + 20) xc_230 0 [some (.ref 58), some (.int (nI r)), some (.int (nI u)), none, none, none, none, none] [] (wS, I1, J, wP t dr G) Q = if s = tN T then xr scr (d + 20) xc_230 33 [some (.ref 58), some (.int (nI r)), some (.int (nI u)), some (.int (nI 0)), none, none, none, none] [] (wS, I1, J, wP t dr G) Q else xr scr (d + 20) xc_230 29 [some (.ref 58), some (.int (nI r)), some (.int (nI u)), some (.int (nI 0)), none, none, none, none] [] (wS, I1, J, wP t dr G) Q := fun I1 Q m1 e60 => by
            rw [mhead I1 Q m1, if_neg h0]
            simp (disch := first | assumption | omega | decide | exact vp_in_nI (by omega) (by omega) | exact and1_bN _ | (simp only [pk_mul, nI_add, pred_s]; exact vp_in_nI (by omega) (by omega))) only [xs_230_14, m_askRow_ok hr hs e60, Option.toList_some, Option.toList_none, List.cons_append, List.nil_append, List.append_nil, xs_230_17, n0l, ↓reduceIte]
            rw [xs_230_22 (vp_in_nI hr (by omega)), hcl, e60, MT_10 m1]
            simp (disch := first | assumption | omega | decide | exact vp_in_nI (by omega) (by omega) | exact and1_bN _ | (simp only [pk_mul, nI_add, pred_s]; exact vp_in_nI (by omega) (by omega))) only [Bool.false_eq_true, nI_add, pk_mul, nI_ltI, nI_eq, z_eq, z_lt, z_gt, z_bN, bN_z, bN_p, bN_i1, nI_clamp, rng_nI, ↓reduceIte, if_true, if_false, not_true_eq_false, not_false_eq_true, true_and, and_true, and_self, false_and, and_false]
          by_cases hsz : s = tN T
          · have h61 : ∀ i, i < tN T → I 61 (40 * r + i) = I (2 + r) i := fun i hi => (H.2.1.2 r hr i (by omega)).symm
            rw [hsz, if_pos rfl, xs_113_37 (vp_in_nI hr (by omega)), hcl]
            by_cases hall : ∀ i, i < tN T → rng (I (2 + r) i) 10 = true
            · obtain ⟨g, hg⟩ : ∃ g : Nat → Nat, ∀ i, i < tN T → I (2 + r) i = nI (g i) ∧ g i ≤ 9 := ⟨fun i => (I (2 + r) i).toNatClampNeg, fun i hi => by
                obtain ⟨j, hj, e⟩ := rng_of (hall i hi) (by decide)
                show I (2 + r) i = nI (I (2 + r) i).toNatClampNeg ∧ (I (2 + r) i).toNatClampNeg ≤ 9
                rw [e, nI_clamp (by omega)]
                exact ⟨rfl, by omega⟩⟩
              have hg9 : ∀ i, i < tN T → g i ≤ 9 := fun i hi => (hg i hi).2
              have hsl := smg_le9 hg9
              have mpass : ∀ (I1 : Nat → Nat → Int32) (Q : Option Value → xi_S → Prop), MT I1 T → (∀ k, k = 61 → I1 k = I k) → xr scr (d + 20) xc_230 37 [some (.ref 58), some (.int (nI r)), some (.int (nI u)), some (.int (nI 0)), some (.int (nI 0)), some (.int (nI 0)), none, none] [] (wS, I1, J, wP t dr G) Q = xr scr (d + 20) xc_230 62 [some (.ref 58), some (.int (nI r)), some (.int (nI u)), some (.int (nI 0)), some (.int (nI (smg g (tN T)))), some (.int (nI (tN T))), none, none] [] (wS, I1, J, wP t dr G) Q := fun I1 Q m1 f61 => by
                refine up_0 (P := fun i => xr scr (d + 20) xc_230 37 [some (.ref 58), some (.int (nI r)), some (.int (nI u)), some (.int (nI 0)), some (.int (nI (smg g i))), some (.int (nI i)), none, none] [] (wS, I1, J, wP t dr G) Q = xr scr (d + 20) xc_230 62 [some (.ref 58), some (.int (nI r)), some (.int (nI u)), some (.int (nI 0)), some (.int (nI (smg g (tN T)))), some (.int (nI (tN T))), none, none] [] (wS, I1, J, wP t dr G) Q) (tN T) (fun i hi h => ?_) ?_
                · have hi40 : i < 40 := by omega
                  have hs1 := hsl i (by omega)
                  have e61 : I1 61 (40 * r + i) = nI (g i) := by rw [f61 61 rfl, h61 i hi, (hg i hi).1]
                  have hr1 := hall i hi
                  have n10 : ¬ nI 1 = 0 := by decide
                  rw [(hg i hi).1] at hr1
                  rw [xs_230_37, MT_10 m1, if_pos ((nI_ltI (by omega) (by omega)).mpr hi)]
                  simp (disch := first | assumption | omega | decide | exact vp_in_nI (by omega) (by omega) | exact and1_bN _ | (simp only [pk_mul, nI_add, pred_s]; exact vp_in_nI (by omega) (by omega))) only [xs_230_41, m_rowAt hr hi40, e61, Option.toList_some, Option.toList_none, List.cons_append, List.nil_append, List.append_nil, xs_230_45, m_in, xs_230_48]
                  rw [bN_c (rng_m0 (n := 9) (x := nI (g i)) (by omega)), bN_t hr1, if_neg n10]
                  simp (disch := first | assumption | omega | decide | exact vp_in_nI (by omega) (by omega) | exact and1_bN _ | (simp only [pk_mul, nI_add, pred_s]; exact vp_in_nI (by omega) (by omega))) only [xs_230_53, m_rowAt hr hi40, e61, Option.toList_some, Option.toList_none, List.cons_append, List.nil_append, List.append_nil, xs_230_58, nI_add]
                  exact h
                · rw [xs_230_37, MT_10 m1]
                  simp (disch := first | assumption | omega | decide | exact vp_in_nI (by omega) (by omega) | exact and1_bN _ | (simp only [pk_mul, nI_add, pred_s]; exact vp_in_nI (by omega) (by omega))) only [Bool.false_eq_true, nI_add, pk_mul, nI_ltI, nI_eq, z_eq, z_lt, z_gt, z_bN, bN_z, bN_p, bN_i1, nI_clamp, rng_nI, ↓reduceIte, if_true, if_false, not_true_eq_false, not_false_eq_true, true_and, and_true, and_self, false_and, and_false, Nat.lt_irrefl]
              rw [c_areShares1 (d := d + 18) ht hT.1 ha (fun i hi => (hg i hi).1) hg9]
              have hs9 := hsl (tN T) (Nat.le_refl _)
              by_cases h9 : smg g (tN T) = 9
              · have n10 : ¬ nI 1 = 0 := by decide
                rw [bN_t h9]
                simp (disch := first | assumption | omega | decide | exact vp_in_nI (by omega) (by omega) | exact and1_bN _ | (simp only [pk_mul, nI_add, pred_s]; exact vp_in_nI (by omega) (by omega))) only [Option.toList_some, Option.toList_none, List.cons_append, List.nil_append, List.append_nil, xs_113_43, n10, ↓reduceIte]
                rw [xs_113_48]
                obtain ⟨p, hp⟩ : ∃ p : Nat → Bool, p = fun b => decide (smg (shr (fun x => b.testBit x) g) (tN T) < 9 ∧ tH T - u + 1 ≤ kmT T b (tH T - u)) := ⟨_, rfl⟩
                have hps : ∀ b, p b = true ↔ (smg (shr (fun x => b.testBit x) g) (tN T) < 9 ∧ tH T - u + 1 ≤ kmT T b (tH T - u)) := fun b => by rw [hp]; exact decide_eq_true_iff
                have mref : AN scr (d + 20) xc_230 [some (.ref 58), some (.int (nI r)), some (.int (nI u)), none, none, none, none, none] (some (.int (nI ((fsv p 1 e).getD 0)))) (wS, I, J, wP t dr G) := by
                  refine AN_i ?_
                  rw [msz I _ hM h60, if_pos hsz, xs_230_33, mpass I _ hM (fun _ _ => rfl), h9, xs_230_62, if_pos rfl, xs_230_69]
                  have key : ∀ k b, b + k = e + 1 → 1 ≤ b → fsv p 1 e = fsv p b k → ∀ (I4 : Nat → Nat → Int32) (o6 o7 : Option Value), Fr58 (fun j => j = 29 ∨ j = 30) I I4 → xr scr (d + 20) xc_230 71 [some (.ref 58), some (.int (nI r)), some (.int (nI u)), some (.int (nI 0)), some (.int (nI 9)), some (.int (nI b)), o6, o7] [] (wS, I4, J, wP t dr G) (fun r2 S2 => r2 = some (.int (nI ((fsv p 1 e).getD 0))) ∧ PST S2) := by
                    have fin : ∀ I4 : Nat → Nat → Int32, Fr58 (fun j => j = 29 ∨ j = 30) I I4 → PST (wS, I4, J, wP t dr G) := fun I4 f4 => PST_i (INV_liv H (LIV_58 f4) (by
                      have := H.2.2.2.2.2.2.2.1
                      unfold IA at this ⊢
                      rw [f4.1 0 (by decide), f4.2 2 (by omega)]
                      exact this) rfl)
                    intro k
                    induction k with
                    | zero =>
                      intro b hb hb1 hf I4 o6 o7 f4
                      have hM4 := MT_58 f4 hM
                      rw [hf, xs_230_71, MT_10 hM4, sb_one _ (by omega), he, show b = e + 1 by omega]
                      simp (disch := first | assumption | omega | decide | exact vp_in_nI (by omega) (by omega) | exact and1_bN _ | (simp only [pk_mul, nI_add, pred_s]; exact vp_in_nI (by omega) (by omega))) only [Bool.false_eq_true, nI_add, pk_mul, nI_ltI, nI_eq, z_eq, z_lt, z_gt, z_bN, bN_z, bN_p, bN_i1, nI_clamp, rng_nI, ↓reduceIte, if_true, if_false, not_true_eq_false, not_false_eq_true, true_and, and_true, and_self, false_and, and_false, Nat.lt_irrefl, xs_230_116]
                      exact ⟨rfl, fin I4 f4⟩
                    | succ k ih =>
                      intro b hb hb1 hf I4 o6 o7 f4
                      have hM4 := MT_58 f4 hM
                      have hbn : b < 2 ^ tN T := by omega
                      have hkm := kmT_le T b (tH T - u)
                      have hkp := kmT_pos (k := tH T - u) (b := b) (by omega) hbn
                      have hbs : b < e + 1 := by omega
                      have hpb := hps b
                      have hsq := smg_le9 (shr_le (q := fun x => b.testBit x) hg9)
                      rw [show fsv p b (k + 1) = if p b = true then some b else fsv p (b + 1) k from rfl] at hf
                      rw [xs_230_71, MT_10 hM4, sb_one _ (by omega), he, if_pos ((nI_ltI (by omega) (by omega)).mpr hbs), xs_230_77]
                      refine up_0 (P := fun i => xr scr (d + 20) xc_230 81 [some (.ref 58), some (.int (nI r)), some (.int (nI u)), some (.int (nI 0)), some (.int (nI 9)), some (.int (nI b)), some (.int (nI (smg (shr (fun x => b.testBit x) g) i))), some (.int (nI i))] [] (wS, I4, J, wP t dr G) (fun r2 S2 => r2 = some (.int (nI ((fsv p 1 e).getD 0))) ∧ PST S2)) (tN T) (fun i hi h => ?_) ?_
                      · have hi40 : i < 40 := by omega
                        have hi8 : i < 8 := by omega
                        have hs1 := hsq i (by omega)
                        have e61 : I4 61 (40 * r + i) = nI (g i) := by rw [f4.1 61 (by decide), h61 i hi, (hg i hi).1]
                        rw [xs_230_81, MT_10 hM4, if_pos ((nI_ltI (by omega) (by omega)).mpr hi)]
                        rw [smg_s] at h
                        unfold shr at h ⊢
                        by_cases hq : b.testBit i = true
                        · rw [if_pos hq] at h
                          simp (disch := first | assumption | omega | decide | exact vp_in_nI (by omega) (by omega) | exact and1_bN _ | (simp only [pk_mul, nI_add, pred_s]; exact vp_in_nI (by omega) (by omega))) only [xs_230_85, m_hasB hn hbn hi8, Option.toList_some, Option.toList_none, List.cons_append, List.nil_append, List.append_nil, xs_230_89, Bool.false_eq_true, nI_add, pk_mul, nI_ltI, nI_eq, z_eq, z_lt, z_gt, z_bN, bN_z, bN_p, bN_i1, nI_clamp, rng_nI, ↓reduceIte, if_true, if_false, not_true_eq_false, not_false_eq_true, true_and, and_true, and_self, false_and, and_false, hi, hq, xs_230_90, m_rowAt hr hi40, e61, xs_230_94, xs_230_96]
                          exact h
                        · rw [if_neg hq] at h
                          simp (disch := first | assumption | omega | decide | exact vp_in_nI (by omega) (by omega) | exact and1_bN _ | (simp only [pk_mul, nI_add, pred_s]; exact vp_in_nI (by omega) (by omega))) only [xs_230_85, m_hasB hn hbn hi8, Option.toList_some, Option.toList_none, List.cons_append, List.nil_append, List.append_nil, xs_230_89, Bool.false_eq_true, nI_add, pk_mul, nI_ltI, nI_eq, z_eq, z_lt, z_gt, z_bN, bN_z, bN_p, bN_i1, nI_clamp, rng_nI, ↓reduceIte, if_true, if_false, not_true_eq_false, not_false_eq_true, true_and, and_true, and_self, false_and, and_false, hi, hq, xs_230_95, xs_230_96]
                          exact h
                      · have hs1 := hsq (tN T) (Nat.le_refl _)
                        have back : ∀ I5 : Nat → Nat → Int32, Fr58 (fun j => j = 29 ∨ j = 30) I I5 → ¬ p b = true → xr scr (d + 20) xc_230 114 [some (.ref 58), some (.int (nI r)), some (.int (nI u)), some (.int (nI 0)), some (.int (nI 9)), some (.int (nI b)), some (.int (nI (smg (shr (fun x => b.testBit x) g) (tN T)))), some (.int (nI (tN T)))] [] (wS, I5, J, wP t dr G) (fun r2 S2 => r2 = some (.int (nI ((fsv p 1 e).getD 0))) ∧ PST S2) := fun I5 f5 hn => by
                          rw [if_neg hn] at hf
                          rw [xs_230_114, nI_add]
                          exact ih (b + 1) (by omega) (by omega) hf I5 _ _ f5
                        rw [xs_230_81, MT_10 hM4]
                        simp (disch := first | assumption | omega | decide | exact vp_in_nI (by omega) (by omega) | exact and1_bN _ | (simp only [pk_mul, nI_add, pred_s]; exact vp_in_nI (by omega) (by omega))) only [Bool.false_eq_true, nI_add, pk_mul, nI_ltI, nI_eq, z_eq, z_lt, z_gt, z_bN, bN_z, bN_p, bN_i1, nI_clamp, rng_nI, ↓reduceIte, if_true, if_false, not_true_eq_false, not_false_eq_true, true_and, and_true, and_self, false_and, and_false, Nat.lt_irrefl, xs_230_100]
                        by_cases h5 : smg (shr (fun x => b.testBit x) g) (tN T) < 9
                        · rw [if_pos h5, xs_230_103]
                          refine m_keepsT (d := d + 9) hM4 hbn hu (fun I5 f5 h5' => ?_)
                          have f45 := Fr58_trans f4 f5
                          have hM5 := MT_58 f45 hM
                          obtain ⟨km, hkm2⟩ : ∃ km, kmT T b (tH T - u) = km + 1 := ⟨_, (Nat.sub_add_cancel hkp).symm⟩
                          have hpe : (km = tH T - u) ↔ p b = true := by rw [hpb]; omega
                          rw [hkm2, pred_s]
                          simp (disch := first | assumption | omega | decide | exact vp_in_nI (by omega) (by omega) | exact and1_bN _ | (simp only [pk_mul, nI_add, pred_s]; exact vp_in_nI (by omega) (by omega))) only [Option.toList_some, Option.toList_none, List.cons_append, List.nil_append, List.append_nil, xs_230_107, MT_11 hM5]
                          rw [pk_sub hu]
                          simp (disch := first | assumption | omega | decide | exact vp_in_nI (by omega) (by omega) | exact and1_bN _ | (simp only [pk_mul, nI_add, pred_s]; exact vp_in_nI (by omega) (by omega))) only [Bool.false_eq_true, nI_add, pk_mul, nI_ltI, nI_eq, z_eq, z_lt, z_gt, z_bN, bN_z, bN_p, bN_i1, nI_clamp, rng_nI, ↓reduceIte, if_true, if_false, not_true_eq_false, not_false_eq_true, true_and, and_true, and_self, false_and, and_false, hpe, xs_230_112]
                          by_cases e1 : p b = true
                          · rw [if_pos e1] at hf ⊢
                            rw [hf]
                            exact ⟨rfl, fin I5 f45⟩
                          · rw [if_neg e1]
                            exact back I5 f45 e1
                        · rw [if_neg h5]
                          exact back I4 f4 (fun h => h5 (hpb.mp h).1)
                  exact key e 1 (by omega) (Nat.le_refl 1) rfl I _ _ Fr58_refl
                have key : ∀ k b, b + k = e + 1 → 1 ≤ b → fsv p 1 e = fsv p b k → xr scr (d + 20) xc_113 50 [some (.ref 0), some (.int (nI r)), some (.int (nI u)), some (.int (nI b))] [] (wS, I, J, wP t dr G) (AN scr (d + 20) xc_230 [some (.ref 58), some (.int (nI r)), some (.int (nI u)), none, none, none, none, none]) := by
                  intro k
                  induction k with
                  | zero =>
                    intro b hb hb1 hf
                    have hlt : e < b := by omega
                    rw [hf] at mref
                    rw [xs_113_50 ht, c_everyone ht hT.1, bs_all, he, Nat.add_sub_cancel]
                    simp (disch := first | assumption | omega | decide | exact vp_in_nI (by omega) (by omega) | exact and1_bN _ | (simp only [pk_mul, nI_add, pred_s]; exact vp_in_nI (by omega) (by omega))) only [Option.toList_some, Option.toList_none, List.cons_append, List.nil_append, List.append_nil, xs_113_54, Bool.false_eq_true, nI_add, pk_mul, nI_ltI, nI_eq, z_eq, z_lt, z_gt, z_bN, bN_z, bN_p, bN_i1, nI_clamp, rng_nI, ↓reduceIte, if_true, if_false, not_true_eq_false, not_false_eq_true, true_and, and_true, and_self, false_and, and_false, hlt, xs_113_77]
                    exact mref
                  | succ k ih =>
                    intro b hb hb1 hf
                    have hnl : ¬ e < b := by omega
                    have hbn : b < 2 ^ tN T := by omega
                    have hsq := smg_le9 (shr_le (q := fun x => b.testBit x) hg9)
                    have hs1 := hsq (tN T) (Nat.le_refl _)
                    have hpb := hps b
                    have hzz := kp_z (T := T) (b := b) (m := tH T - u) (u := u) (by omega)
                    have hb7 := bs_lt7 hn (kpB T (fun x => b.testBit x) (tH T - u) u)
                    rw [show fsv p b (k + 1) = if p b = true then some b else fsv p (b + 1) k from rfl] at hf
                    have back : ¬ p b = true → xr scr (d + 20) xc_113 75 [some (.ref 0), some (.int (nI r)), some (.int (nI u)), some (.int (nI b))] [] (wS, I, J, wP t dr G) (AN scr (d + 20) xc_230 [some (.ref 58), some (.int (nI r)), some (.int (nI u)), none, none, none, none, none]) := fun hn => by
                      rw [if_neg hn] at hf
                      rw [xs_113_75, nI_add]
                      exact ih (b + 1) (by omega) (by omega) hf
                    rw [xs_113_50 ht, c_everyone ht hT.1, bs_all, he, Nat.add_sub_cancel]
                    simp (disch := first | assumption | omega | decide | exact vp_in_nI (by omega) (by omega) | exact and1_bN _ | (simp only [pk_mul, nI_add, pred_s]; exact vp_in_nI (by omega) (by omega))) only [Option.toList_some, Option.toList_none, List.cons_append, List.nil_append, List.append_nil, xs_113_54, Bool.false_eq_true, nI_add, pk_mul, nI_ltI, nI_eq, z_eq, z_lt, z_gt, z_bN, bN_z, bN_p, bN_i1, nI_clamp, rng_nI, ↓reduceIte, if_true, if_false, not_true_eq_false, not_false_eq_true, true_and, and_true, and_self, false_and, and_false, hnl]
                    rw [xs_113_55 (vp_in_nI hr (by omega)), hcl, c_shrB ht hT.1 ha (fun i hi => (hg i hi).1) hg9 hbn]
                    simp (disch := first | assumption | omega | decide | exact vp_in_nI (by omega) (by omega) | exact and1_bN _ | (simp only [pk_mul, nI_add, pred_s]; exact vp_in_nI (by omega) (by omega))) only [Option.toList_some, Option.toList_none, List.cons_append, List.nil_append, List.append_nil, xs_113_62, Bool.false_eq_true, nI_add, pk_mul, nI_ltI, nI_eq, z_eq, z_lt, z_gt, z_bN, bN_z, bN_p, bN_i1, nI_clamp, rng_nI, ↓reduceIte, if_true, if_false, not_true_eq_false, not_false_eq_true, true_and, and_true, and_self, false_and, and_false]
                    by_cases h5 : smg (shr (fun x => b.testBit x) g) (tN T) < 9
                    · rw [if_pos h5, xs_113_64 ht, TR_0 hT.1, c_keepersT (d := d + 17) ht hT hbn hu (Nat.le_refl _)]
                      have hpz : bs (tN T) (kpB T (fun x => b.testBit x) (tH T - u) u) = 0 ↔ ¬ p b = true := by rw [hzz, hpb]; omega
                      simp (disch := first | assumption | omega | decide | exact vp_in_nI (by omega) (by omega) | exact and1_bN _ | (simp only [pk_mul, nI_add, pred_s]; exact vp_in_nI (by omega) (by omega))) only [Option.toList_some, Option.toList_none, List.cons_append, List.nil_append, List.append_nil, xs_113_72, Bool.false_eq_true, nI_add, pk_mul, nI_ltI, nI_eq, z_eq, z_lt, z_gt, z_bN, bN_z, bN_p, bN_i1, nI_clamp, rng_nI, ↓reduceIte, if_true, if_false, not_true_eq_false, not_false_eq_true, true_and, and_true, and_self, false_and, and_false, hpz, xs_113_73]
                      by_cases e1 : p b = true
                      · rw [if_pos e1] at hf
                        rw [if_neg (fun h => h e1)]
                        rw [hf] at mref
                        exact mref
                      · rw [if_pos e1]
                        exact back e1
                    · rw [if_neg h5]
                      exact back (fun h => h5 (hpb.mp h).1)
                exact key e 1 (by omega) (Nat.le_refl 1) rfl
              · rw [bN_f h9]
                simp (disch := first | assumption | omega | decide | exact vp_in_nI (by omega) (by omega) | exact and1_bN _ | (simp only [pk_mul, nI_add, pred_s]; exact vp_in_nI (by omega) (by omega))) only [Option.toList_some, Option.toList_none, List.cons_append, List.nil_append, List.append_nil, xs_113_43, nI_0, ↓reduceIte, xs_113_44, c_found one3 three5, xs_113_47]
                refine AN_i ?_
                have e60 : fnd I 3 60 r = nI s := by rw [fnd_fr (by decide) (by decide), h60]
                obtain ⟨m1, m2, m3⟩ := INV_m (I3 := fnd I 3) H (fun k a b => fnd_fr a b)
                have hne : ¬ nI (smg g (tN T)) = nI 9 := fun h => h9 ((nI_eq (by omega) (by omega)).mp h)
                rw [msz (fnd I 3) _ m1 e60, if_pos hsz, xs_230_33, mpass (fnd I 3) _ m1 (fun k hk => by rw [hk]; exact fnd_fr (by decide) (by decide)), xs_230_62, if_neg hne]
                simp (disch := first | assumption | omega | decide | exact vp_in_nI (by omega) (by omega) | exact and1_bN _ | (simp only [pk_mul, nI_add, pred_s]; exact vp_in_nI (by omega) (by omega))) only [xs_230_65, m_meet three5, Option.toList_some, Option.toList_none, List.cons_append, List.nil_append, List.append_nil, xs_230_68]
                exact ⟨trivial, PST_i (fnd_inv (by decide) H)⟩
            · rw [c_areShares0 (d := d + 18) ht hT.1 ha hall]
              simp (disch := first | assumption | omega | decide | exact vp_in_nI (by omega) (by omega) | exact and1_bN _ | (simp only [pk_mul, nI_add, pred_s]; exact vp_in_nI (by omega) (by omega))) only [Option.toList_some, Option.toList_none, List.cons_append, List.nil_append, List.append_nil, xs_113_43, nI_0, ↓reduceIte, xs_113_44, c_found one3 three5, xs_113_47]
              refine AN_i ?_
              have e60 : fnd I 3 60 r = nI s := by rw [fnd_fr (by decide) (by decide), h60]
              obtain ⟨m1, m2, m3⟩ := INV_m (I3 := fnd I 3) H (fun k a b => fnd_fr a b)
              rw [msz (fnd I 3) _ m1 e60, if_pos hsz, xs_230_33]
              have mfail : ∀ Q, xr scr (d + 20) xc_230 37 [some (.ref 58), some (.int (nI r)), some (.int (nI u)), some (.int (nI 0)), some (.int (nI 0)), some (.int (nI 0)), none, none] [] (wS, fnd I 3, J, wP t dr G) Q = Q (some (.int (-3))) (wS, mmt (fnd I 3) 3, J, wP t dr G) := fun Q => by
                refine up_0 (P := fun i => (∀ j, j < i → rng (I (2 + r) j) 10 = true) → ∀ c : Int32, xr scr (d + 20) xc_230 37 [some (.ref 58), some (.int (nI r)), some (.int (nI u)), some (.int (nI 0)), some (.int c), some (.int (nI i)), none, none] [] (wS, fnd I 3, J, wP t dr G) Q = Q (some (.int (-3))) (wS, mmt (fnd I 3) 3, J, wP t dr G)) (tN T) (fun i hi h hj c => ?_) (fun hj => absurd hj hall) (fun j hj => absurd hj (Nat.not_lt_zero _)) _
                have hi40 : i < 40 := by omega
                have e61 : fnd I 3 61 (40 * r + i) = I (2 + r) i := by rw [fnd_fr (by decide) (by decide), h61 i hi]
                rw [xs_230_37, MT_10 m1, if_pos ((nI_ltI (by omega) (by omega)).mpr hi)]
                simp (disch := first | assumption | omega | decide | exact vp_in_nI (by omega) (by omega) | exact and1_bN _ | (simp only [pk_mul, nI_add, pred_s]; exact vp_in_nI (by omega) (by omega))) only [xs_230_41, m_rowAt hr hi40, e61, Option.toList_some, Option.toList_none, List.cons_append, List.nil_append, List.append_nil, xs_230_45, m_in, xs_230_48]
                rw [bN_c (rng_m0 (n := 9) (x := I (2 + r) i) (by omega))]
                by_cases hr1 : rng (I (2 + r) i) 10 = true
                · have n10 : ¬ nI 1 = 0 := by decide
                  rw [bN_t hr1, if_neg n10]
                  simp (disch := first | assumption | omega | decide | exact vp_in_nI (by omega) (by omega) | exact and1_bN _ | (simp only [pk_mul, nI_add, pred_s]; exact vp_in_nI (by omega) (by omega))) only [xs_230_53, m_rowAt hr hi40, e61, Option.toList_some, Option.toList_none, List.cons_append, List.nil_append, List.append_nil, xs_230_58, nI_add]
                  exact h (fun j hj2 => by
                    by_cases e : j = i
                    · rw [e]; exact hr1
                    · exact hj j (by omega)) _
                · rw [bN_f hr1, if_pos nI_0]
                  simp (disch := first | assumption | omega | decide | exact vp_in_nI (by omega) (by omega) | exact and1_bN _ | (simp only [pk_mul, nI_add, pred_s]; exact vp_in_nI (by omega) (by omega))) only [xs_230_49, m_meet three5, Option.toList_some, Option.toList_none, List.cons_append, List.nil_append, List.append_nil, xs_230_52]
              rw [mfail]
              exact ⟨rfl, PST_i (fnd_inv (by decide) H)⟩
          · have f5 : 1 ≤ 5 := by decide
            rw [if_neg (fun h => hsz ((nI_eq (by omega) (by omega)).mp h))]
            simp (disch := first | assumption | omega | decide | exact vp_in_nI (by omega) (by omega) | exact and1_bN _ | (simp only [pk_mul, nI_add, pred_s]; exact vp_in_nI (by omega) (by omega))) only [xs_113_33, c_found f5 (Nat.le_refl 5), Option.toList_some, Option.toList_none, List.cons_append, List.nil_append, List.append_nil, xs_113_36]
            refine AN_i ?_
            have e60 : fnd I 5 60 r = nI s := by rw [fnd_fr (by decide) (by decide), h60]
            obtain ⟨m1, m2, m3⟩ := INV_m (I3 := fnd I 5) H (fun k a b => fnd_fr a b)
            rw [msz (fnd I 5) _ m1 e60, if_neg hsz]
            simp (disch := first | assumption | omega | decide | exact vp_in_nI (by omega) (by omega) | exact and1_bN _ | (simp only [pk_mul, nI_add, pred_s]; exact vp_in_nI (by omega) (by omega))) only [xs_230_29, m_meet (Nat.le_refl 5), Option.toList_some, Option.toList_none, List.cons_append, List.nil_append, List.append_nil, xs_230_32]
            exact ⟨trivial, PST_i (fnd_inv (by decide) H)⟩
        · rw [h8, if_pos m1lt]
          simp (disch := first | assumption | omega | decide | exact vp_in_nI (by omega) (by omega) | exact and1_bN _ | (simp only [pk_mul, nI_add, pred_s]; exact vp_in_nI (by omega) (by omega))) only [xs_113_21, c_found (Nat.le_refl 1) one15, Option.toList_some, Option.toList_none, List.cons_append, List.nil_append, List.append_nil, xs_113_24]
          refine AN_i ?_
          have e60 : fnd I 1 60 r = -9 := by rw [fnd_fr (by decide) (by decide), h60]
          obtain ⟨m1, m2, m3⟩ := INV_m (I3 := fnd I 1) H (fun k a b => fnd_fr a b)
          rw [mhead (fnd I 1) _ m1, if_neg h0]
          simp (disch := first | assumption | omega | decide | exact vp_in_nI (by omega) (by omega) | exact and1_bN _ | (simp only [pk_mul, nI_add, pred_s]; exact vp_in_nI (by omega) (by omega))) only [xs_230_14, m_askRow_miss hr e60, Option.toList_some, Option.toList_none, List.cons_append, List.nil_append, List.append_nil, xs_230_17, n3l, ↓reduceIte, xs_230_20]
          exact ⟨trivial, PST_i (fnd_inv (by decide) H)⟩
    · rw [xs_113_0, c_isRow]
      simp (disch := first | assumption | omega | decide | exact vp_in_nI (by omega) (by omega) | exact and1_bN _ | (simp only [pk_mul, nI_add, pred_s]; exact vp_in_nI (by omega) (by omega))) only [Option.toList_some, Option.toList_none, List.cons_append, List.nil_append, List.append_nil, xs_113_2, Bool.false_eq_true, nI_add, pk_mul, nI_ltI, nI_eq, z_eq, z_lt, z_gt, z_bN, bN_z, bN_p, bN_i1, nI_clamp, rng_nI, ↓reduceIte, if_true, if_false, not_true_eq_false, not_false_eq_true, true_and, and_true, and_self, false_and, and_false, hr]
      rw [xs_113_3 ht, c_isMoment ht hT.1]
      simp (disch := first | assumption | omega | decide | exact vp_in_nI (by omega) (by omega) | exact and1_bN _ | (simp only [pk_mul, nI_add, pred_s]; exact vp_in_nI (by omega) (by omega))) only [Option.toList_some, Option.toList_none, List.cons_append, List.nil_append, List.append_nil, xs_113_7, Bool.false_eq_true, nI_add, pk_mul, nI_ltI, nI_eq, z_eq, z_lt, z_gt, z_bN, bN_z, bN_p, bN_i1, nI_clamp, rng_nI, ↓reduceIte, if_true, if_false, not_true_eq_false, not_false_eq_true, true_and, and_true, and_self, false_and, and_false, hy, xs_113_8]
      refine AN_i ?_
      simp (disch := first | assumption | omega | decide | exact vp_in_nI (by omega) (by omega) | exact and1_bN _ | (simp only [pk_mul, nI_add, pred_s]; exact vp_in_nI (by omega) (by omega))) only [xs_230_0, m_isRow, Option.toList_some, Option.toList_none, List.cons_append, List.nil_append, List.append_nil, xs_230_2, Bool.false_eq_true, nI_add, pk_mul, nI_ltI, nI_eq, z_eq, z_lt, z_gt, z_bN, bN_z, bN_p, bN_i1, nI_clamp, rng_nI, ↓reduceIte, if_true, if_false, not_true_eq_false, not_false_eq_true, true_and, and_true, and_self, false_and, and_false, hr, xs_230_3, m_isTime hM, xs_230_6, hy, xs_230_7]
      first | exact PST_i H | exact ⟨trivial, PST_i H⟩ | exact ⟨rfl, PST_i H⟩
  · simp (disch := first | assumption | omega | decide | exact vp_in_nI (by omega) (by omega) | exact and1_bN _ | (simp only [pk_mul, nI_add, pred_s]; exact vp_in_nI (by omega) (by omega))) only [xs_113_0, c_isRow, Option.toList_some, Option.toList_none, List.cons_append, List.nil_append, List.append_nil, xs_113_2, Bool.false_eq_true, nI_add, pk_mul, nI_ltI, nI_eq, z_eq, z_lt, z_gt, z_bN, bN_z, bN_p, bN_i1, nI_clamp, rng_nI, ↓reduceIte, if_true, if_false, not_true_eq_false, not_false_eq_true, true_and, and_true, and_self, false_and, and_false, hx, xs_113_8]
    refine AN_i ?_
    simp (disch := first | assumption | omega | decide | exact vp_in_nI (by omega) (by omega) | exact and1_bN _ | (simp only [pk_mul, nI_add, pred_s]; exact vp_in_nI (by omega) (by omega))) only [xs_230_0, m_isRow, Option.toList_some, Option.toList_none, List.cons_append, List.nil_append, List.append_nil, xs_230_2, Bool.false_eq_true, nI_add, pk_mul, nI_ltI, nI_eq, z_eq, z_lt, z_gt, z_bN, bN_z, bN_p, bN_i1, nI_clamp, rng_nI, ↓reduceIte, if_true, if_false, not_true_eq_false, not_false_eq_true, true_and, and_true, and_self, false_and, and_false, hx, xs_230_7]
    first | exact PST_i H | exact ⟨trivial, PST_i H⟩ | exact ⟨rfl, PST_i H⟩
end LEAVES
