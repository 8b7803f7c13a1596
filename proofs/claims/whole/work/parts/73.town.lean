/-! calls: fault, town -/
theorem MT_fr2 {I I2 : Nat → Nat → Int32} {T : TN} (h : MT I T) (h0 : I2 58 10 = I 58 10) (h1 : I2 58 11 = I 58 11) (h2 : ∀ j, j < 49 → I2 65 j = I 65 j) : MT I2 T := by
  obtain ⟨a1, a2, a3, a4, a5, a6⟩ := h
  exact ⟨a1, a2, h1.trans a3, h0.trans a4, fun x hx => by rw [h2 (7 * x + 0) (by omega), h2 (7 * x + 1) (by omega)]; exact a5 x hx, fun x hx u hu => by rw [h2 (7 * x + (2 + u)) (by omega)]; exact a6 x hx u hu⟩
theorem rd_h {b : Nat → Int32} {s : Nat} (e : (rdT b s).1 = none) : 1 ≤ (rdT b s).2.1 := by
  by_cases h1 : hr b s (skp b s 0) ≠ nI 104
  · rw [rd_1 h1] at e; cases e
  · by_cases h2 : hr b s (skp b s 0 + 1) < nI 49 ∨ nI 53 < hr b s (skp b s 0 + 1)
    · rw [rd_2 h1 h2] at e; cases e
    · have h3 : skp b s 0 + 1 < s := hr_in (lo := 49) (by decide) (fun q => h2 (Or.inl q))
      have h4 := h2
      rw [hr_lt h3] at h4
      obtain ⟨n, l1, l2, l3⟩ := dig2 (lo := 49) (hi := 53) (by decide) (by decide) (fun q => h4 (Or.inl q)) (fun q => h4 (Or.inr q))
      rw [rd_3 h1 h2 (n := n) (by omega) l3]
      show 1 ≤ n - 48
      omega
theorem prl_le {b : Nat → Int32} {s h : Nat} : ∀ k i ps q, (prl b s h k i ps).1 = some q → i ≤ s → q ≤ s := by
  intro k
  induction k with
  | zero => exact fun i ps q e hi => by cases e; exact hi
  | succ k ih =>
    intro i ps q e hi
    by_cases h1 : i < s
    · cases h2 : psn b s h ps.length i with
      | some z =>
        rw [prl_f h1 h2] at e
        cases e
        exact psn_le h1 h2
      | none =>
        rw [prl_n h1 h2] at e
        have h3 := psn_end h2
        have h4 := skp_le b (s - (i + 1 + (h + 1))) (i + 1 + (h + 1))
        exact ih _ _ q e (by omega)
    · rw [prl_o h1] at e
      cases e
theorem rd_le {b : Nat → Int32} {s q : Nat} (e : (rdT b s).1 = some q) : q ≤ s := by
  have h0 := skp_le b s 0
  by_cases h1 : hr b s (skp b s 0) ≠ nI 104
  · rw [rd_1 h1] at e; cases e; omega
  · have h5 : skp b s 0 < s := by
      by_cases h6 : skp b s 0 < s
      · exact h6
      · exact absurd (by rw [hr_ge h6]; decide) h1
    by_cases h2 : hr b s (skp b s 0 + 1) < nI 49 ∨ nI 53 < hr b s (skp b s 0 + 1)
    · rw [rd_2 h1 h2] at e; cases e; omega
    · have h3 : skp b s 0 + 1 < s := hr_in (lo := 49) (by decide) (fun q => h2 (Or.inl q))
      have h4 := h2
      rw [hr_lt h3] at h4
      obtain ⟨n, l1, l2, l3⟩ := dig2 (lo := 49) (hi := 53) (by decide) (by decide) (fun q => h4 (Or.inl q)) (fun q => h4 (Or.inr q))
      rw [rd_3 h1 h2 (n := n) (by omega) l3] at e
      have h7 := skp_le b (s - (skp b s 0 + 1 + 1)) (skp b s 0 + 1 + 1)
      exact prl_le _ _ _ q e (by omega)
section TOWNC
variable {scr : xi_X} {d : Nat} {Q : Option Value → xi_S → Prop} {I I2 I3 I4 : Nat → Nat → Int32} {J J2 : Nat → Nat → Int64} {t dr : Nat} {G G2 : Nat → Nat} {T : TN} {v v2 : Nat} {bk bk2 : Bool} {pre pre2 : List Nat} {ss ss2 : List SGT}
theorem INV_draft (H : INV I J t dr G T v bk pre ss) (hc : ∀ k, k ≠ 58 → k ≠ 65 → ¬ (dr ≤ k ∧ k < dr + 5) → I2 k = I k) (h58 : ∀ j, j ≠ 13 → j ≠ 14 → j ≠ 15 → I2 58 j = I 58 j) (h65 : ∀ j, j < 49 → I2 65 j = I 65 j) : INV I2 J t dr G T v bk pre ss := by
  obtain ⟨h1, h2, h3, h4, h5, h6, h7, h8, h9⟩ := H
  obtain ⟨a, b, c, e, f, g⟩ := h1
  have a' : t = 15 ∨ t = 20 := a
  have b' : dr = 15 ∨ dr = 20 := b
  refine ⟨⟨a, b, c, TT_fr e (hc _ (by omega) (by omega) (by omega)) (hc _ (by omega) (by omega) (by omega)) (hc _ (by omega) (by omega) (by omega)) (hc _ (by omega) (by omega) (by omega)) (hc _ (by omega) (by omega) (by omega)), MT_fr2 f (h58 10 (by decide) (by decide) (by decide)) (h58 11 (by decide) (by decide) (by decide)) h65, g⟩, IR_fr h2 (fun k a b => hc k (by omega) (by omega) (by omega)) (hc 60 (by omega) (by omega) (by omega)) (hc 61 (by omega) (by omega) (by omega)), IX_fr h3 (fun k a b => hc k (by omega) (by omega) (by omega)) (hc 63 (by omega) (by omega) (by omega)) (hc 64 (by omega) (by omega) (by omega)), ID_fr h4 (hc 25 (by omega) (by omega) (by omega)) (hc 26 (by omega) (by omega) (by omega)) (fun i _ => by rw [hc 66 (by omega) (by omega) (by omega)]) (h58 16 (by decide) (by decide) (by decide)) (h58 17 (by decide) (by decide) (by decide)) (h58 18 (by decide) (by decide) (by decide)), IK_fr h5 (fun k a b => hc k (by omega) (by omega) (by omega)) (hc 70 (by omega) (by omega) (by omega)), IS_fr h6 (by rw [hc 28 (by omega) (by omega) (by omega)]) (fun k a b => hc k (by omega) (by omega) (by omega)) (hc 71 (by omega) (by omega) (by omega)) (h58 32 (by decide) (by decide) (by decide)), IP_fr h7 (by rw [hc 28 (by omega) (by omega) (by omega)]) (hc 38 (by omega) (by omega) (by omega)) (hc 43 (by omega) (by omega) (by omega)) rfl, ?_, IF_fr h9 (by rw [hc 0 (by omega) (by omega) (by omega)]) (h58 0 (by decide) (by decide) (by decide)) (hc 51 (by omega) (by omega) (by omega)) (hc 59 (by omega) (by omega) (by omega))⟩
  unfold IA at h8 ⊢
  rw [hc 0 (by omega) (by omega) (by omega), h58 2 (by decide) (by decide) (by decide)]
  exact h8
theorem TX_of (H : INV I J t dr G T v bk pre ss) {r s : Nat} (hr : r < 4) (hs : s ≤ 80) (h60 : I 63 r = nI s) (f : ∀ k, (k < dr ∨ dr + 5 ≤ k) → k ≠ 25 → k ≠ 28 → k ≠ 52 → k ≠ 54 → k ≠ 56 → I2 k = I k) : TX I2 r s (I (10 + r)) := by
  have b' : dr = 15 ∨ dr = 20 := H.1.2.1
  exact ⟨hr, hs, by rw [f 63 (by omega) (by decide) (by decide) (by decide) (by decide) (by decide)]; exact h60, fun i hi => by rw [f 64 (by omega) (by decide) (by decide) (by decide) (by decide) (by decide)]; exact (H.2.2.1.2 r hr i hi).symm⟩
theorem k_fault (H : INV I J t dr G T v bk pre ss) {x : Int32} : xr scr (d + 20) xc_26 0 [some (.ref 0), some (.int x), none] [] (wS, I, J, wP t dr G) (AN scr (d + 20) xc_171 [some (.ref 58), some (.int x), none]) := by
  have hdr := H.1.2.1
  have b' : dr = 15 ∨ dr = 20 := hdr
  by_cases hx : rng x 4 = true
  · obtain ⟨r, hr, rfl⟩ := rng_of hx (by decide)
    have hcl : (nI r).toNatClampNeg = r := nI_clamp (by omega)
    have htx : txc (10 + r) := ⟨by omega, by omega⟩
    rcases H.2.2.1.1 r hr with ⟨s, hs, h8, h60⟩ | ⟨h8, h60⟩
    · simp (disch := first | assumption | omega | decide | exact vp_in_nI (by omega) (by omega) | exact and1_bN _ | (simp only [pk_mul, nI_add, pred_s]; exact vp_in_nI (by omega) (by omega))) only [xs_26_0, c_refText_ok hr hs h8, Option.toList_some, Option.toList_none, List.cons_append, List.nil_append, List.append_nil, xs_26_3, nI_0, ↓reduceIte]
      rw [xs_26_8 (vp_in_nI hr (by omega)) hdr, hcl, h8]
      refine c_readText (d := d + 14) hdr htx hs (fun I1 f1 hT => ?_)
      have hX : TX I1 r s (I (10 + r)) := TX_of H hr hs h60 (fun k hk _ _ _ _ _ => f1 k hk)
      simp (disch := first | assumption | omega | decide | exact vp_in_nI (by omega) (by omega) | exact and1_bN _ | (simp only [pk_mul, nI_add, pred_s]; exact vp_in_nI (by omega) (by omega))) only [Option.toList_some, Option.toList_none, List.cons_append, List.nil_append, List.append_nil]
      rw [xs_26_19]
      refine AN_i ?_
      have e63 : I1 63 r = nI s := hX.2.2.1
      simp (disch := first | assumption | omega | decide | exact vp_in_nI (by omega) (by omega) | exact and1_bN _ | (simp only [pk_mul, nI_add, pred_s]; exact vp_in_nI (by omega) (by omega))) only [xs_171_0, m_askText_ok hr hs e63, Option.toList_some, Option.toList_none, List.cons_append, List.nil_append, List.append_nil, xs_171_3, n0l, ↓reduceIte]
      rw [xs_171_8]
      refine m_goesOn (d := d + 16) hX (fun I2 f2 hR => ?_)
      simp (disch := first | assumption | omega | decide | exact vp_in_nI (by omega) (by omega) | exact and1_bN _ | (simp only [pk_mul, nI_add, pred_s]; exact vp_in_nI (by omega) (by omega))) only [Option.toList_some, Option.toList_none, List.cons_append, List.nil_append, List.append_nil]
      rw [xs_171_11]
      exact ⟨rfl, PST_i (INV_draft H (fun k a b c => by rw [f2.1 k a b, f1 k (by omega)]) (fun j a b c => by rw [f2.2.1 j a b c, f1 58 (by omega)]) (fun j hj => by rw [f2.2.2 j hj, f1 65 (by omega)]))⟩
    · simp (disch := first | assumption | omega | decide | exact vp_in_nI (by omega) (by omega) | exact and1_bN _ | (simp only [pk_mul, nI_add, pred_s]; exact vp_in_nI (by omega) (by omega))) only [xs_26_0, c_refText_miss hr h8, Option.toList_some, Option.toList_none, List.cons_append, List.nil_append, List.append_nil, xs_26_3, n3z, ↓reduceIte, xs_26_6]
      refine AN_i ?_
      have e60 : fnd I 1 63 r = -9 := by rw [fnd_fr (by decide) (by decide), h60]
      simp (disch := first | assumption | omega | decide | exact vp_in_nI (by omega) (by omega) | exact and1_bN _ | (simp only [pk_mul, nI_add, pred_s]; exact vp_in_nI (by omega) (by omega))) only [xs_171_0, m_askText_miss hr e60, Option.toList_some, Option.toList_none, List.cons_append, List.nil_append, List.append_nil, xs_171_3, n3l, ↓reduceIte, xs_171_6, xs_171_11]
      have H2 := fnd_inv (f := 1) (by decide) H
      first | exact PST_i H2 | exact ⟨trivial, PST_i H2⟩ | exact ⟨rfl, PST_i H2⟩
  · simp (disch := first | assumption | omega | decide | exact vp_in_nI (by omega) (by omega) | exact and1_bN _ | (simp only [pk_mul, nI_add, pred_s]; exact vp_in_nI (by omega) (by omega))) only [xs_26_0, c_refText_bad hx, Option.toList_some, Option.toList_none, List.cons_append, List.nil_append, List.append_nil, xs_26_3, n1z, ↓reduceIte, xs_26_6]
    refine AN_i ?_
    simp (disch := first | assumption | omega | decide | exact vp_in_nI (by omega) (by omega) | exact and1_bN _ | (simp only [pk_mul, nI_add, pred_s]; exact vp_in_nI (by omega) (by omega))) only [xs_171_0, m_askText_bad hx, Option.toList_some, Option.toList_none, List.cons_append, List.nil_append, List.append_nil, xs_171_3, m1lt, ↓reduceIte, xs_171_6, xs_171_11]
    first | exact PST_i H | exact ⟨trivial, PST_i H⟩ | exact ⟨rfl, PST_i H⟩
/-- the class's new town -/
theorem c_startTown : xr scr (d + 1) xc_41 0 [some (.ref 0), none] [] (wS, I, J, wP t dr G) Q = Q none (wS, xi_up (xi_up (xi_up (xi_up (xi_up (xi_up I 25 2 (-1)) 28 0 (nI 0)) 28 1 (nI 0)) 52 2 (-1)) 54 2 (-1)) 56 2 (-1), J, wP t dr G) := by
  have h3 : ∀ k, k < 3 → nI k < nI 3 := fun k hk => (nI_ltI (by omega) (by omega)).mpr hk
  have c0 : (nI 0).toNatClampNeg = 0 := nI_clamp (by decide)
  have c1 : (nI 1).toNatClampNeg = 1 := nI_clamp (by decide)
  have c2 : (nI 2).toNatClampNeg = 2 := nI_clamp (by decide)
  have h33 : ¬ nI 3 < nI 3 := by decide
  have w0 : vp_in (nI 0) 3 := vp_in_nI (by decide) (by decide)
  have w1 : vp_in (nI 1) 3 := vp_in_nI (by decide) (by decide)
  have w2 : vp_in (nI 2) 3 := vp_in_nI (by decide) (by decide)
  rw [xs_41_0, xs_42_0]
  simp (disch := first | assumption | omega | decide | exact vp_in_nI (by omega) (by omega) | exact and1_bN _ | (simp only [pk_mul, nI_add, pred_s]; exact vp_in_nI (by omega) (by omega))) only [Option.toList_some, Option.toList_none, List.cons_append, List.nil_append, List.append_nil]
  rw [xs_41_8, xs_41_10, if_pos (h3 0 (by decide)), xs_41_13 w0, c0, nI_add, xs_41_10, if_pos (h3 1 (by decide)), xs_41_13 w1, c1, nI_add, xs_41_10, if_pos (h3 2 (by decide)), xs_41_13 w2, c2, nI_add, xs_41_10, if_neg h33, xs_41_21]
theorem m_newTown (hR : RT I T) (hq : ∀ I2 : Nat → Nat → Int32, MT I2 T → (∀ k, k ≠ 58 → k ≠ 65 → k ≠ 70 → I2 k = I k) → (∀ j, j ≠ 10 → j ≠ 11 → j ≠ 18 → j ≠ 32 → I2 58 j = I 58 j) → I2 58 18 = -9 → I2 58 32 = nI 0 → (∀ k, k < 3 → I2 70 (10 * k) = -9) → Q (some (.int (nI (tN T)))) (wS, I2, J, wP t dr G)) {r : Nat} {w : Int32} : xr scr d xc_177 15 [some (.ref 58), some (.int (nI r)), some (.int w), none] [] (wS, I, J, wP t dr G) Q := by
  obtain ⟨r1, r2, r3, r4, r5, r6⟩ := hR
  rw [xs_177_15, r3, r4]
  obtain ⟨I1, hI1⟩ : ∃ I1 : Nat → Nat → Int32, I1 = xi_up (xi_up I 58 10 (nI (tN T))) 58 11 (nI (tH T)) := ⟨_, rfl⟩
  rw [← hI1]
  have g10 : I1 58 10 = nI (tN T) := by rw [hI1, xu_nj (by decide), xu_eq]
  have g11 : I1 58 11 = nI (tH T) := by rw [hI1, xu_eq]
  have gk : ∀ k, k ≠ 58 → I1 k = I k := fun k hk => by rw [hI1, xu_fr hk, xu_fr hk]
  have gj : ∀ j, j ≠ 10 → j ≠ 11 → I1 58 j = I 58 j := fun j a b => by rw [hI1, xu_nj b, xu_nj a]
  refine up_0 (P := fun j => ∀ I2 : Nat → Nat → Int32, (∀ k, k ≠ 65 → I2 k = I1 k) → (∀ i, i < j → I2 65 i = I 65 (49 + i)) → (∀ i, 49 ≤ i → I2 65 i = I 65 i) → xr scr d xc_177 25 [some (.ref 58), some (.int (nI r)), some (.int w), some (.int (nI j))] [] (wS, I2, J, wP t dr G) Q) 49 (fun j hj ih I2 f1 f2 f3 => ?_) (fun I2 f1 f2 f3 => ?_) I1 (fun _ _ => rfl) (fun i hi => absurd hi (Nat.not_lt_zero i)) (fun i _ => by rw [gk 65 (by decide)])
  · rw [xs_177_25, if_pos ((nI_ltI (by omega) (by omega)).mpr hj), xs_177_28 (by rw [nI_add]; exact vp_in_nI (by omega) (by omega)) (vp_in_nI (by omega) (by omega)), nI_add, nI_add, nI_clamp (show 49 + j < 2 ^ 31 by omega), nI_clamp (show j < 2 ^ 31 by omega)]
    refine ih _ (fun k hk => by rw [xu_fr hk, f1 k hk]) (fun i hi => ?_) (fun i hi => by rw [xu_nj (by omega), f3 i hi])
    rw [xu_at]
    by_cases e : i = j
    · subst e; rw [if_pos rfl, f3 (49 + i) (by omega)]
    · rw [if_neg e, f2 i (by omega)]
  · have h49 : ¬ nI 49 < nI 49 := by decide
    have h3 : ∀ k, k < 3 → nI k < nI 3 := fun k hk => (nI_ltI (by omega) (by omega)).mpr hk
    have h33 : ¬ nI 3 < nI 3 := by decide
    have c0 : (nI (10 * 0)).toNatClampNeg = 0 := nI_clamp (by decide)
    have c1 : (nI (10 * 1)).toNatClampNeg = 10 := nI_clamp (by decide)
    have c2 : (nI (10 * 2)).toNatClampNeg = 20 := nI_clamp (by decide)
    have vv : ∀ k, k < 3 → vp_in (nI 10 * nI k) 30 := fun k hk => by rw [pk_mul]; exact vp_in_nI (by omega) (by omega)
    rw [xs_177_25, if_neg h49, xs_177_40, xs_177_48, if_pos (h3 0 (by decide)), xs_177_51 (vv 0 (by decide)), pk_mul, c0, nI_add, xs_177_48, if_pos (h3 1 (by decide)), xs_177_51 (vv 1 (by decide)), pk_mul, c1, nI_add, xs_177_48, if_pos (h3 2 (by decide)), xs_177_51 (vv 2 (by decide)), pk_mul, c2, nI_add, xs_177_48, if_neg h33, xs_177_60]
    obtain ⟨I3, hI3⟩ : ∃ I3 : Nat → Nat → Int32, I3 = xi_up (xi_up (xi_up (xi_up (xi_up I2 58 18 (-9)) 58 32 (nI 0)) 70 0 (-9)) 70 10 (-9)) 70 20 (-9) := ⟨_, rfl⟩
    rw [← hI3]
    have a65 : ∀ i, i < 49 → I3 65 i = I 65 (49 + i) := fun i hi => by rw [hI3, xu_nc (by decide), xu_nc (by decide), xu_nc (by decide), xu_nc (by decide), xu_nc (by decide), f2 i hi]
    have aj : ∀ j, j ≠ 18 → j ≠ 32 → I3 58 j = I1 58 j := fun j a b => by rw [hI3, xu_nc (by decide), xu_nc (by decide), xu_nc (by decide), xu_nj b, xu_nj a, f1 58 (by decide)]
    have e10 : I3 58 10 = nI (tN T) := by rw [aj 10 (by decide) (by decide), g10]
    rw [e10]
    refine hq I3 ⟨r1, r2, by rw [aj 11 (by decide) (by decide), g11], e10, fun x hx => ?_, fun x hx u hu => ?_⟩ (fun k a b c => by rw [hI3, xu_fr c, xu_fr c, xu_fr c, xu_fr a, xu_fr a, f1 k b, gk k a]) (fun j a b c e => by rw [aj j c e, gj j a b]) (by rw [hI3, xu_nc (by decide), xu_nc (by decide), xu_nc (by decide), xu_nj (by decide), xu_eq]) (by rw [hI3, xu_nc (by decide), xu_nc (by decide), xu_nc (by decide), xu_eq]) (fun k hk => ?_)
    · have := r5 x hx
      rw [a65 (7 * x + 0) (by omega), a65 (7 * x + 1) (by omega)]
      exact this
    · have := r6 x hx u hu
      rw [a65 (7 * x + (2 + u)) (by omega), show 49 + (7 * x + (2 + u)) = 49 + 7 * x + 2 + u by omega]
      exact this
    · rw [hI3]
      rcases (show k = 0 ∨ k = 1 ∨ k = 2 by omega) with rfl | rfl | rfl
      · rw [xu_nj (by decide), xu_nj (by decide)]; exact xu_eq
      · rw [xu_nj (by decide)]; exact xu_eq
      · exact xu_eq
theorem INV_town (H : INV I J t dr G T v bk pre ss) {Tn : TN} (hh : 1 ≤ tH Tn) (hT : TT I2 dr Tn) (hM : MT I2 Tn) (hc : ∀ k, ¬ (dr ≤ k ∧ k < dr + 5) → k ≠ 25 → k ≠ 28 → k ≠ 52 → k ≠ 54 → k ≠ 56 → k ≠ 58 → k ≠ 65 → k ≠ 70 → I2 k = I k) (h25 : ∀ j, j ≠ 2 → I2 25 j = I 25 j) (h252 : I2 25 2 = -1) (h280 : I2 28 0 = nI 0) (h281 : I2 28 1 = nI 0) (hk1 : ∀ k, k < 3 → I2 (52 + 2 * k) 2 = -1) (hk2 : ∀ k, k < 3 → I2 70 (10 * k) = -9) (h58 : ∀ j, j ≠ 10 → j ≠ 11 → j ≠ 13 → j ≠ 14 → j ≠ 15 → j ≠ 18 → j ≠ 32 → I2 58 j = I 58 j) (h18 : I2 58 18 = -9) (h32 : I2 58 32 = nI 0) : INV I2 J dr t G Tn v bk [] [] := by
  obtain ⟨⟨a, b, c, e, f, g⟩, h2, h3, h4, h5, h6, h7, h8, h9⟩ := H
  have b' : dr = 15 ∨ dr = 20 := b
  obtain ⟨a1, a2, a3, a4, a5, a6, a7, a8, a9, a10, a11⟩ := h4
  refine ⟨⟨b, a, fun q => c q.symm, hT, hM, fun _ => hh⟩, IR_fr h2 (fun k a b => hc k (by omega) (by omega) (by omega) (by omega) (by omega) (by omega) (by omega) (by omega) (by omega)) (hc 60 (by omega) (by omega) (by omega) (by omega) (by omega) (by omega) (by omega) (by omega) (by omega)) (hc 61 (by omega) (by omega) (by omega) (by omega) (by omega) (by omega) (by omega) (by omega) (by omega)), IX_fr h3 (fun k a b => hc k (by omega) (by omega) (by omega) (by omega) (by omega) (by omega) (by omega) (by omega) (by omega)) (hc 63 (by omega) (by omega) (by omega) (by omega) (by omega) (by omega) (by omega) (by omega) (by omega)) (hc 64 (by omega) (by omega) (by omega) (by omega) (by omega) (by omega) (by omega) (by omega) (by omega)), ⟨a1, a2, (h25 0 (by decide)).trans a3, MV_fr a4 (h58 16 (by decide) (by decide) (by decide) (by decide) (by decide) (by decide) (by decide)) (h58 17 (by decide) (by decide) (by decide) (by decide) (by decide) (by decide) (by decide)), (h25 1 (by decide)).trans a5, fun y hy => absurd hy (List.not_mem_nil), Nat.zero_le _, fun _ => ⟨h252, h18⟩, fun u hu => absurd hu (by simp), fun i hi => absurd hi (Nat.not_lt_zero i), fun i hi => by rw [hc 26 (by omega) (by omega) (by omega) (by omega) (by omega) (by omega) (by omega) (by omega) (by omega), hc 66 (by omega) (by omega) (by omega) (by omega) (by omega) (by omega) (by omega) (by omega) (by omega)]; exact a11 i hi⟩, fun k hk => Or.inl ⟨hk1 k hk, hk2 k hk⟩, ⟨⟨h32, Nat.zero_le 8, fun k hk => absurd hk (Nat.not_lt_zero k)⟩, h280, fun k hk => absurd hk (Nat.not_lt_zero k)⟩, Or.inl h281, ?_, ?_⟩
  · unfold IA at h8 ⊢
    rw [hc 0 (by omega) (by omega) (by omega) (by omega) (by omega) (by omega) (by omega) (by omega) (by omega), h58 2 (by decide) (by decide) (by decide) (by decide) (by decide) (by decide) (by decide)]
    exact h8
  · exact IF_fr h9 (by rw [hc 0 (by omega) (by omega) (by omega) (by omega) (by omega) (by omega) (by omega) (by omega) (by omega)]) (h58 0 (by decide) (by decide) (by decide) (by decide) (by decide) (by decide) (by decide)) (hc 51 (by omega) (by omega) (by omega) (by omega) (by omega) (by omega) (by omega) (by omega) (by omega)) (hc 59 (by omega) (by omega) (by omega) (by omega) (by omega) (by omega) (by omega) (by omega) (by omega))
theorem k_town (H : INV I J t dr G T v bk pre ss) {x : Int32} : xr scr (d + 20) xc_40 0 [some (.ref 0), some (.int x), none, none] [] (wS, I, J, wP t dr G) (AN scr (d + 20) xc_177 [some (.ref 58), some (.int x), none, none]) := by
  have ht := H.1.1
  have hdr := H.1.2.1
  have a' : t = 15 ∨ t = 20 := ht
  have b' : dr = 15 ∨ dr = 20 := hdr
  by_cases hx : rng x 4 = true
  · obtain ⟨r, hr, rfl⟩ := rng_of hx (by decide)
    have hcl : (nI r).toNatClampNeg = r := nI_clamp (by omega)
    have htx : txc (10 + r) := ⟨by omega, by omega⟩
    rcases H.2.2.1.1 r hr with ⟨s, hs, h8, h60⟩ | ⟨h8, h60⟩
    · simp (disch := first | assumption | omega | decide | exact vp_in_nI (by omega) (by omega) | exact and1_bN _ | (simp only [pk_mul, nI_add, pred_s]; exact vp_in_nI (by omega) (by omega))) only [xs_40_0, c_refText_ok hr hs h8, Option.toList_some, Option.toList_none, List.cons_append, List.nil_append, List.append_nil, xs_40_3, nI_0, ↓reduceIte]
      rw [xs_40_8 (vp_in_nI hr (by omega)) hdr, hcl, h8]
      refine c_readText (d := d + 14) hdr htx hs (fun I1 f1 hT => ?_)
      simp (disch := first | assumption | omega | decide | exact vp_in_nI (by omega) (by omega) | exact and1_bN _ | (simp only [pk_mul, nI_add, pred_s]; exact vp_in_nI (by omega) (by omega))) only [Option.toList_some, Option.toList_none, List.cons_append, List.nil_append, List.append_nil]
      rw [xs_40_19]
      cases hrd : (rdT (I (10 + r)) s).1 with
      | none =>
        have hT := hT hrd
        have hh1 := rd_h hrd
        have e9 : cd none = -9 := rfl
        rw [e9, if_pos rfl, xs_40_23 hdr ht, c_startTown (d := d + 18)]
        simp (disch := first | assumption | omega | decide | exact vp_in_nI (by omega) (by omega) | exact and1_bN _ | (simp only [pk_mul, nI_add, pred_s]; exact vp_in_nI (by omega) (by omega))) only [Option.toList_some, Option.toList_none, List.cons_append, List.nil_append, List.append_nil]
        obtain ⟨I3, hI3⟩ : ∃ I3 : Nat → Nat → Int32, I3 = xi_up (xi_up (xi_up (xi_up (xi_up (xi_up I1 25 2 (-1)) 28 0 (nI 0)) 28 1 (nI 0)) 52 2 (-1)) 54 2 (-1)) 56 2 (-1) := ⟨_, rfl⟩
        rw [← hI3]
        have g3 : ∀ k, k ≠ 25 → k ≠ 28 → k ≠ 52 → k ≠ 54 → k ≠ 56 → I3 k = I1 k := fun k p1 p2 p3 p4 p5 => by rw [hI3, xu_fr p5, xu_fr p4, xu_fr p3, xu_fr p2, xu_fr p2, xu_fr p1]
        have hX : TX I3 r s (I (10 + r)) := TX_of H hr hs h60 (fun k hk p1 p2 p3 p4 p5 => by rw [g3 k p1 p2 p3 p4 p5, f1 k hk])
        have hT3 := TT_fr hT (g3 dr (by omega) (by omega) (by omega) (by omega) (by omega)) (g3 (dr + 1) (by omega) (by omega) (by omega) (by omega) (by omega)) (g3 (dr + 2) (by omega) (by omega) (by omega) (by omega) (by omega)) (g3 (dr + 3) (by omega) (by omega) (by omega) (by omega) (by omega)) (g3 (dr + 4) (by omega) (by omega) (by omega) (by omega) (by omega))
        rw [xs_40_35 hdr, TR_1 hT3.1]
        refine AN_i ?_
        have e63 : I3 63 r = nI s := hX.2.2.1
        simp (disch := first | assumption | omega | decide | exact vp_in_nI (by omega) (by omega) | exact and1_bN _ | (simp only [pk_mul, nI_add, pred_s]; exact vp_in_nI (by omega) (by omega))) only [xs_177_0, m_askText_ok hr hs e63, Option.toList_some, Option.toList_none, List.cons_append, List.nil_append, List.append_nil, xs_177_3, n0l, ↓reduceIte]
        rw [xs_177_8]
        refine m_goesOn (d := d + 16) hX (fun I4 f4 hR => ?_)
        simp (disch := first | assumption | omega | decide | exact vp_in_nI (by omega) (by omega) | exact and1_bN _ | (simp only [pk_mul, nI_add, pred_s]; exact vp_in_nI (by omega) (by omega))) only [Option.toList_some, Option.toList_none, List.cons_append, List.nil_append, List.append_nil]
        rw [xs_177_11, hrd, e9, if_pos rfl]
        refine m_newTown (hR hrd) (fun I5 hM5 q1 q2 q3 q4 q5 => ⟨rfl, PST_i (INV_town (Tn := TNp (I (10 + r)) (rdT (I (10 + r)) s).2.1 (rdT (I (10 + r)) s).2.2) H hh1 (TT_fr hT3 ?_ ?_ ?_ ?_ ?_) hM5 (fun k p0 p1 p2 p3 p4 p5 p6 p7 p8 => ?_) (fun j hj => ?_) ?_ ?_ ?_ (fun k hk => ?_) q5 (fun j p1 p2 p3 p4 p5 p6 p7 => ?_) q3 q4)⟩)
        · rw [q1 _ (by omega) (by omega) (by omega), f4.1 _ (by omega) (by omega)]
        · rw [q1 _ (by omega) (by omega) (by omega), f4.1 _ (by omega) (by omega)]
        · rw [q1 _ (by omega) (by omega) (by omega), f4.1 _ (by omega) (by omega)]
        · rw [q1 _ (by omega) (by omega) (by omega), f4.1 _ (by omega) (by omega)]
        · rw [q1 _ (by omega) (by omega) (by omega), f4.1 _ (by omega) (by omega)]
        · rw [q1 k p6 p7 p8, f4.1 k p6 p7, g3 k p1 p2 p3 p4 p5, f1 k (by omega)]
        · rw [q1 25 (by decide) (by decide) (by decide), f4.1 25 (by decide) (by decide), hI3, xu_nc (by decide), xu_nc (by decide), xu_nc (by decide), xu_nc (by decide), xu_nc (by decide), xu_nj hj, f1 25 (by omega)]
        · rw [q1 25 (by decide) (by decide) (by decide), f4.1 25 (by decide) (by decide), hI3, xu_nc (by decide), xu_nc (by decide), xu_nc (by decide), xu_nc (by decide), xu_nc (by decide), xu_eq]
        · rw [q1 28 (by decide) (by decide) (by decide), f4.1 28 (by decide) (by decide), hI3, xu_nc (by decide), xu_nc (by decide), xu_nc (by decide), xu_nj (by decide), xu_eq]
        · rw [q1 28 (by decide) (by decide) (by decide), f4.1 28 (by decide) (by decide), hI3, xu_nc (by decide), xu_nc (by decide), xu_nc (by decide), xu_eq]
        · rw [q1 _ (by omega) (by omega) (by omega), f4.1 _ (by omega) (by omega), hI3]
          rcases (show k = 0 ∨ k = 1 ∨ k = 2 by omega) with rfl | rfl | rfl
          · rw [xu_nc (by decide), xu_nc (by decide)]; exact xu_eq
          · rw [xu_nc (by decide)]; exact xu_eq
          · exact xu_eq
        · rw [q2 j p1 p2 p6 p7, f4.2.1 j p3 p4 p5, g3 58 (by decide) (by decide) (by decide) (by decide) (by decide), f1 58 (by omega)]
      | some q =>
        have hql := rd_le hrd
        have n9 : ¬ cd (some q) = -9 := fun e => (m9_ne (show q < 2 ^ 31 by omega)).mp e
        have hX : TX I1 r s (I (10 + r)) := TX_of H hr hs h60 (fun k hk _ _ _ _ _ => f1 k hk)
        rw [if_neg n9, xs_40_21]
        refine AN_i ?_
        have e63 : I1 63 r = nI s := hX.2.2.1
        simp (disch := first | assumption | omega | decide | exact vp_in_nI (by omega) (by omega) | exact and1_bN _ | (simp only [pk_mul, nI_add, pred_s]; exact vp_in_nI (by omega) (by omega))) only [xs_177_0, m_askText_ok hr hs e63, Option.toList_some, Option.toList_none, List.cons_append, List.nil_append, List.append_nil, xs_177_3, n0l, ↓reduceIte]
        rw [xs_177_8]
        refine m_goesOn (d := d + 16) hX (fun I2 f2 hR => ?_)
        simp (disch := first | assumption | omega | decide | exact vp_in_nI (by omega) (by omega) | exact and1_bN _ | (simp only [pk_mul, nI_add, pred_s]; exact vp_in_nI (by omega) (by omega))) only [Option.toList_some, Option.toList_none, List.cons_append, List.nil_append, List.append_nil]
        rw [xs_177_11, hrd, if_neg n9, xs_177_13]
        exact ⟨rfl, PST_i (INV_draft H (fun k a b c => by rw [f2.1 k a b, f1 k (by omega)]) (fun j a b c => by rw [f2.2.1 j a b c, f1 58 (by omega)]) (fun j hj => by rw [f2.2.2 j hj, f1 65 (by omega)]))⟩
    · simp (disch := first | assumption | omega | decide | exact vp_in_nI (by omega) (by omega) | exact and1_bN _ | (simp only [pk_mul, nI_add, pred_s]; exact vp_in_nI (by omega) (by omega))) only [xs_40_0, c_refText_miss hr h8, Option.toList_some, Option.toList_none, List.cons_append, List.nil_append, List.append_nil, xs_40_3, n3z, ↓reduceIte, xs_40_6]
      refine AN_i ?_
      have e60 : fnd I 1 63 r = -9 := by rw [fnd_fr (by decide) (by decide), h60]
      simp (disch := first | assumption | omega | decide | exact vp_in_nI (by omega) (by omega) | exact and1_bN _ | (simp only [pk_mul, nI_add, pred_s]; exact vp_in_nI (by omega) (by omega))) only [xs_177_0, m_askText_miss hr e60, Option.toList_some, Option.toList_none, List.cons_append, List.nil_append, List.append_nil, xs_177_3, n3l, ↓reduceIte, xs_177_6]
      have H2 := fnd_inv (f := 1) (by decide) H
      first | exact PST_i H2 | exact ⟨trivial, PST_i H2⟩ | exact ⟨rfl, PST_i H2⟩
  · simp (disch := first | assumption | omega | decide | exact vp_in_nI (by omega) (by omega) | exact and1_bN _ | (simp only [pk_mul, nI_add, pred_s]; exact vp_in_nI (by omega) (by omega))) only [xs_40_0, c_refText_bad hx, Option.toList_some, Option.toList_none, List.cons_append, List.nil_append, List.append_nil, xs_40_3, n1z, ↓reduceIte, xs_40_6]
    refine AN_i ?_
    simp (disch := first | assumption | omega | decide | exact vp_in_nI (by omega) (by omega) | exact and1_bN _ | (simp only [pk_mul, nI_add, pred_s]; exact vp_in_nI (by omega) (by omega))) only [xs_177_0, m_askText_bad hx, Option.toList_some, Option.toList_none, List.cons_append, List.nil_append, List.append_nil, xs_177_3, m1lt, ↓reduceIte, xs_177_6]
    first | exact PST_i H | exact ⟨trivial, PST_i H⟩ | exact ⟨rfl, PST_i H⟩
end TOWNC
