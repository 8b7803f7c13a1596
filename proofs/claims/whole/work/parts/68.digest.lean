/-! call: digest -/
/-- one number more in the digest -/
def mx (y : Int64) (x : Int32) : Int64 := 31 * y + x.toInt64
def itr (g : Nat → Int64 → Int64) : Nat → Int64 → Int64
  | 0, y => y
  | n + 1, y => g n (itr g n y)
/-- the digest of rows or texts -/
def dgr (sz : Nat → Int32) (f : Nat → Nat → Int32) (n : Nat) : Int64 → Int64 := itr (fun r y => itr (fun i y => mx y (f r i)) (if sz r < 0 then 0 else (sz r).toNatClampNeg) (mx y (sz r))) n
section DIGEST
variable {scr : xi_X} {d : Nat} {Q : Option Value → xi_S → Prop} {I I2 I3 I4 : Nat → Nat → Int32} {J J2 : Nat → Nat → Int64} {t dr : Nat} {G G2 : Nat → Nat} {T : TN} {v v2 : Nat} {bk bk2 : Bool} {pre pre2 : List Nat} {ss ss2 : List SGT}
theorem both_count (H : INV I J t dr G T v bk pre ss) {k : Nat} (hk : k < 8) : ∃ z : Int32, (∀ Q : Option Value → xi_S → Prop, xr scr (d + 4) xc_144 0 [some (.ref 0), some (.int (nI k))] [] (wS, I, J, wP t dr G) Q = Q (some (.int z)) (wS, I, J, wP t dr G)) ∧ ∀ (J2 : Nat → Nat → Int64) (Q : Option Value → xi_S → Prop), xr scr (d + 4) xc_251 0 [some (.ref 58), some (.int (nI k)), none, none] [] (wS, I, J2, wP t dr G) Q = Q (some (.int z)) (wS, I, J2, wP t dr G) := by
  have ht := H.1.1
  have hT := H.1.2.2.2.1
  have hM := H.1.2.2.2.2.1
  have hn := TR_n hT.1
  have hh5 := TR_h hT.1
  have hD := H.2.2.2.1
  have h10 : ¬ nI 1 = 0 := by decide
  have fin : ∀ z : Int32, (∀ Q : Option Value → xi_S → Prop, xr scr (d + 4) xc_144 0 [some (.ref 0), some (.int (nI k))] [] (wS, I, J, wP t dr G) Q = Q (some (.int z)) (wS, I, J, wP t dr G)) → (∀ (J2 : Nat → Nat → Int64) (Q : Option Value → xi_S → Prop), xr scr (d + 4) xc_251 63 [some (.ref 58), some (.int (nI k)), some (.int (nI (cnt 7 (pkc I T k)))), some (.int (nI 7))] [] (wS, I, J2, wP t dr G) Q = Q (some (.int z)) (wS, I, J2, wP t dr G)) → ∃ z : Int32, (∀ Q : Option Value → xi_S → Prop, xr scr (d + 4) xc_144 0 [some (.ref 0), some (.int (nI k))] [] (wS, I, J, wP t dr G) Q = Q (some (.int z)) (wS, I, J, wP t dr G)) ∧ ∀ (J2 : Nat → Nat → Int64) (Q : Option Value → xi_S → Prop), xr scr (d + 4) xc_251 0 [some (.ref 58), some (.int (nI k)), none, none] [] (wS, I, J2, wP t dr G) Q = Q (some (.int z)) (wS, I, J2, wP t dr G) := fun z h1 h2 => ⟨z, h1, fun J2 Q => by rw [m_countsL (d := d + 1) hM hk, h2]⟩
  have hkc : k = 0 ∨ k = 1 ∨ k = 2 ∨ k = 3 ∨ k = 4 ∨ k = 5 ∨ k = 6 ∨ k = 7 := by omega
  rcases hkc with rfl | rfl | rfl | rfl | rfl | rfl | rfl | rfl
  · exact fin _ (fun Q => by rw [ts_144_0, xs_144_2 ht, TR_1 hT.1]) (fun J2 Q => by rw [ts_251_0, xs_251_65, MT_10 hM])
  · exact fin _ (fun Q => by rw [ts_144_1, xs_144_6 ht, TR_0 hT.1]) (fun J2 Q => by rw [ts_251_1, xs_251_68, MT_11 hM])
  · rcases day_cases hD with ⟨-, h1, h2⟩ | ⟨u, hu, h1, h2, hu2⟩
    · exact fin (-9) (fun Q => by
        rw [ts_144_2, xs_144_10, c_isBegun0 (Or.inl rfl) h1]
        simp (disch := first | assumption | omega | decide | exact vp_in_nI (by omega) (by omega) | exact and1_bN _ | (simp only [pk_mul, nI_add, pred_s]; exact vp_in_nI (by omega) (by omega))) only [Option.toList_some, Option.toList_none, List.cons_append, List.nil_append, List.append_nil]
        rw [xs_144_13, if_pos nI_0, xs_144_18, xs_144_19]) (fun J2 Q => by rw [ts_251_2, xs_251_71, h2])
    · exact fin (nI u) (fun Q => by
        rw [ts_144_2, xs_144_10, c_isBegun1 (Or.inl rfl) h1 (by omega)]
        simp (disch := first | assumption | omega | decide | exact vp_in_nI (by omega) (by omega) | exact and1_bN _ | (simp only [pk_mul, nI_add, pred_s]; exact vp_in_nI (by omega) (by omega))) only [Option.toList_some, Option.toList_none, List.cons_append, List.nil_append, List.append_nil]
        rw [xs_144_13, if_neg h10, xs_144_14, h1, xs_144_19]) (fun J2 Q => by rw [ts_251_2, xs_251_71, h2])
  · have e : cnt 7 (pkc I T 3) = knd T 3 := cnt_ext hn (fun i => decide (isA T i 3))
    exact fin (nI (knd T 3)) (fun Q => by
      rw [ts_144_3, xs_144_20 ht, c_countKind (d := d) ht hT.1 (by decide)]
      simp (disch := first | assumption | omega | decide | exact vp_in_nI (by omega) (by omega) | exact and1_bN _ | (simp only [pk_mul, nI_add, pred_s]; exact vp_in_nI (by omega) (by omega))) only [Option.toList_some, Option.toList_none, List.cons_append, List.nil_append, List.append_nil]
      rw [xs_144_24]) (fun J2 Q => by rw [ts_251_3, xs_251_77, e])
  · exact fin _ (fun Q => by rw [ts_144_4, xs_144_25, H.2.2.2.2.2.1.2.1]) (fun J2 Q => by rw [ts_251_4, xs_251_74, H.2.2.2.2.2.1.1.1])
  · have e : cnt 7 (pkc I T 5) = cnt 3 (fun i => decide (¬ I (52 + 2 * i) 2 < 0)) := by
      rw [← cnt_ext (show 3 ≤ 7 by decide)]
      refine cnt_c (fun i _ => ?_)
      show (decide (i < 3) && decide (I 70 (10 * i) ≠ -9)) = _
      by_cases hi : i < 3
      · congr 1
        rcases H.2.2.2.2.1 i hi with ⟨h1, h2⟩ | ⟨v2, bk2, pre2, hk⟩
        · rw [h1, h2]; decide
        · have hl := hk.2.2.2.2.1
          have h9 : nI (pre2.length - 1) ≠ -9 := fun e => (m9_ne (by omega)).mp e
          rw [hk.2.2.2.2.2.1, hk.2.2.2.2.2.2.1, decide_eq_true (nI_pos (by omega)), decide_eq_true h9]
      · rw [decide_eq_false hi, Bool.false_and, Bool.false_and]
    exact fin (nI (cnt 3 (fun i => decide (¬ I (52 + 2 * i) 2 < 0)))) (fun Q => by
      rw [ts_144_5, xs_144_29, c_countKept (d := d + 2)]
      simp (disch := first | assumption | omega | decide | exact vp_in_nI (by omega) (by omega) | exact and1_bN _ | (simp only [pk_mul, nI_add, pred_s]; exact vp_in_nI (by omega) (by omega))) only [Option.toList_some, Option.toList_none, List.cons_append, List.nil_append, List.append_nil]
      rw [xs_144_31]) (fun J2 Q => by rw [ts_251_5, xs_251_77, e])
  · have e : cnt 7 (pkc I T 6) = cnt 6 (fun i => decide (¬ I 8 i < 0)) := by
      rw [← cnt_ext (show 6 ≤ 7 by decide)]
      refine cnt_c (fun i _ => ?_)
      show (decide (i < 6) && decide (¬ I 60 i < 0)) = _
      by_cases hi : i < 6
      · congr 1
        rcases H.2.1.1 i hi with ⟨s, hs, h8, h60⟩ | ⟨h8, h60⟩
        · rw [h8, h60]
        · rw [h8, h60]; decide
      · rw [decide_eq_false hi, Bool.false_and, Bool.false_and]
    exact fin (nI (cnt 6 (fun i => decide (¬ I 8 i < 0)))) (fun Q => by
      rw [ts_144_6, xs_144_32, c_countThere (n := 6) rfl (by decide)]
      simp (disch := first | assumption | omega | decide | exact vp_in_nI (by omega) (by omega) | exact and1_bN _ | (simp only [pk_mul, nI_add, pred_s]; exact vp_in_nI (by omega) (by omega))) only [Option.toList_some, Option.toList_none, List.cons_append, List.nil_append, List.append_nil]
      rw [xs_144_35]) (fun J2 Q => by rw [ts_251_6, xs_251_77, e])
  · have e : cnt 7 (pkc I T 7) = cnt 4 (fun i => decide (¬ I 14 i < 0)) := by
      rw [← cnt_ext (show 4 ≤ 7 by decide)]
      refine cnt_c (fun i _ => ?_)
      show (decide (i < 4) && decide (¬ I 63 i < 0)) = _
      by_cases hi : i < 4
      · congr 1
        rcases H.2.2.1.1 i hi with ⟨s, hs, h8, h60⟩ | ⟨h8, h60⟩
        · rw [h8, h60]
        · rw [h8, h60]; decide
      · rw [decide_eq_false hi, Bool.false_and, Bool.false_and]
    exact fin (nI (cnt 4 (fun i => decide (¬ I 14 i < 0)))) (fun Q => by
      rw [ts_144_7, xs_144_36, c_countThere (n := 4) rfl (by decide)]
      simp (disch := first | assumption | omega | decide | exact vp_in_nI (by omega) (by omega) | exact and1_bN _ | (simp only [pk_mul, nI_add, pred_s]; exact vp_in_nI (by omega) (by omega))) only [Option.toList_some, Option.toList_none, List.cons_append, List.nil_append, List.append_nil]
      rw [xs_144_39]) (fun J2 Q => by rw [ts_251_7, xs_251_77, e])
theorem m_mix {y : Int64} {x : Int32} : xr scr d xc_255 0 [some (.ref 58), some (.int x)] [] (wS, I, xi_up J 58 33 y, wP t dr G) Q = Q none (wS, I, xi_up J 58 33 (mx y x), wP t dr G) := by
  rw [xs_255_0, xu_eq, xu_xu]
  rfl
theorem c_digRows (H : INV I J t dr G T v bk pre ss) {y : Int64} : xr scr d xc_151 0 [some (.ref 0), some (.long y), none, none, none, none, none] [] (wS, I, J, wP t dr G) Q = Q (some (.long (dgr (I 8) (fun r i => I (2 + r) i) 6 y))) (wS, I, J, wP t dr G) := by
  rw [xs_151_0]
  refine up_0 (P := fun r => ∀ o6 : Option Value, xr scr d xc_151 4 [some (.ref 0), some (.long y), none, some (.long (dgr (I 8) (fun r i => I (2 + r) i) r y)), none, some (.int (nI r)), o6] [] (wS, I, J, wP t dr G) Q = Q (some (.long (dgr (I 8) (fun r i => I (2 + r) i) 6 y))) (wS, I, J, wP t dr G)) 6 (fun r hr h o6 => ?_) (fun o6 => ?_) none
  · have hcl : (nI r).toNatClampNeg = r := nI_clamp (by omega)
    rw [xs_151_4, if_pos ((nI_ltI (by omega) (by omega)).mpr hr), xs_151_7 (vp_in_nI hr (by omega)), hcl]
    rcases H.2.1.1 r hr with ⟨s, hs, h8, h60⟩ | ⟨h8, h60⟩
    · have e : dgr (I 8) (fun r i => I (2 + r) i) (r + 1) y = itr (fun i y => mx y (I (2 + r) i)) s (mx (dgr (I 8) (fun r i => I (2 + r) i) r y) (I 8 r)) := by
        show itr (fun i y => mx y (I (2 + r) i)) (if I 8 r < 0 then 0 else (I 8 r).toNatClampNeg) (mx _ (I 8 r)) = _
        rw [h8, if_neg (nI_pos (by omega)), nI_clamp (by omega)]
        rfl
      rw [e] at h
      refine up_0 (P := fun i => xr scr d xc_151 19 [some (.ref 0), some (.long y), none, some (.long (itr (fun i y => mx y (I (2 + r) i)) i (mx (dgr (I 8) (fun r i => I (2 + r) i) r y) (I 8 r)))), none, some (.int (nI r)), some (.int (nI i))] [] (wS, I, J, wP t dr G) Q = Q (some (.long (dgr (I 8) (fun r i => I (2 + r) i) 6 y))) (wS, I, J, wP t dr G)) s (fun i hi h2 => ?_) ?_
      · have hi40 : i < 40 := by omega
        rw [xs_151_19 (vp_in_nI hr (by omega)), hcl, h8, if_pos ((nI_ltI (by omega) (by omega)).mpr hi), xs_151_25, if_pos ((nI_ltI (by omega) (by omega)).mpr hi40), xs_151_28 (vp_in_nI hr (by omega)) (vp_in_nI hi40 (by omega)), hcl, nI_clamp (by omega), nI_add]
        rw [h8] at h2
        exact h2
      · rw [xs_151_19 (vp_in_nI hr (by omega)), hcl, h8]
        simp (disch := first | assumption | omega | decide | exact vp_in_nI (by omega) (by omega) | exact and1_bN _ | (simp only [pk_mul, nI_add, pred_s]; exact vp_in_nI (by omega) (by omega))) only [Bool.false_eq_true, nI_add, pk_mul, nI_ltI, nI_eq, z_eq, z_lt, z_gt, z_bN, bN_z, bN_p, bN_i1, nI_clamp, rng_nI, ↓reduceIte, if_true, if_false, not_true_eq_false, not_false_eq_true, true_and, and_true, and_self, false_and, and_false, Nat.lt_irrefl]
        rw [xs_151_42, nI_add]
        rw [h8] at h
        exact h _
    · have e : dgr (I 8) (fun r i => I (2 + r) i) (r + 1) y = mx (dgr (I 8) (fun r i => I (2 + r) i) r y) (I 8 r) := by
        show itr (fun i y => mx y (I (2 + r) i)) (if I 8 r < 0 then 0 else (I 8 r).toNatClampNeg) (mx _ (I 8 r)) = _
        rw [h8, if_pos m1lt]
        rfl
      have n01 : ¬ nI 0 < (-1 : Int32) := by decide
      rw [e] at h
      rw [xs_151_19 (vp_in_nI hr (by omega)), hcl, h8, if_neg n01, xs_151_42, nI_add]
      rw [h8] at h
      exact h _
  · have h66 : ¬ nI 6 < nI 6 := by decide
    rw [xs_151_4, if_neg h66, xs_151_44]
theorem c_digTexts (H : INV I J t dr G T v bk pre ss) {y : Int64} : xr scr d xc_152 0 [some (.ref 0), some (.long y), none, none, none, none, none] [] (wS, I, J, wP t dr G) Q = Q (some (.long (dgr (I 14) (fun r i => I (10 + r) i) 4 y))) (wS, I, J, wP t dr G) := by
  rw [xs_152_0]
  refine up_0 (P := fun r => ∀ o6 : Option Value, xr scr d xc_152 4 [some (.ref 0), some (.long y), none, some (.long (dgr (I 14) (fun r i => I (10 + r) i) r y)), none, some (.int (nI r)), o6] [] (wS, I, J, wP t dr G) Q = Q (some (.long (dgr (I 14) (fun r i => I (10 + r) i) 4 y))) (wS, I, J, wP t dr G)) 4 (fun r hr h o6 => ?_) (fun o6 => ?_) none
  · have hcl : (nI r).toNatClampNeg = r := nI_clamp (by omega)
    rw [xs_152_4, if_pos ((nI_ltI (by omega) (by omega)).mpr hr), xs_152_7 (vp_in_nI hr (by omega)), hcl]
    rcases H.2.2.1.1 r hr with ⟨s, hs, h8, h60⟩ | ⟨h8, h60⟩
    · have e : dgr (I 14) (fun r i => I (10 + r) i) (r + 1) y = itr (fun i y => mx y (I (10 + r) i)) s (mx (dgr (I 14) (fun r i => I (10 + r) i) r y) (I 14 r)) := by
        show itr (fun i y => mx y (I (10 + r) i)) (if I 14 r < 0 then 0 else (I 14 r).toNatClampNeg) (mx _ (I 14 r)) = _
        rw [h8, if_neg (nI_pos (by omega)), nI_clamp (by omega)]
        rfl
      rw [e] at h
      refine up_0 (P := fun i => xr scr d xc_152 19 [some (.ref 0), some (.long y), none, some (.long (itr (fun i y => mx y (I (10 + r) i)) i (mx (dgr (I 14) (fun r i => I (10 + r) i) r y) (I 14 r)))), none, some (.int (nI r)), some (.int (nI i))] [] (wS, I, J, wP t dr G) Q = Q (some (.long (dgr (I 14) (fun r i => I (10 + r) i) 4 y))) (wS, I, J, wP t dr G)) s (fun i hi h2 => ?_) ?_
      · have hi40 : i < 80 := by omega
        rw [xs_152_19 (vp_in_nI hr (by omega)), hcl, h8, if_pos ((nI_ltI (by omega) (by omega)).mpr hi), xs_152_25, if_pos ((nI_ltI (by omega) (by omega)).mpr hi40), xs_152_28 (vp_in_nI hr (by omega)) (vp_in_nI hi40 (by omega)), hcl, nI_clamp (by omega), nI_add]
        rw [h8] at h2
        exact h2
      · rw [xs_152_19 (vp_in_nI hr (by omega)), hcl, h8]
        simp (disch := first | assumption | omega | decide | exact vp_in_nI (by omega) (by omega) | exact and1_bN _ | (simp only [pk_mul, nI_add, pred_s]; exact vp_in_nI (by omega) (by omega))) only [Bool.false_eq_true, nI_add, pk_mul, nI_ltI, nI_eq, z_eq, z_lt, z_gt, z_bN, bN_z, bN_p, bN_i1, nI_clamp, rng_nI, ↓reduceIte, if_true, if_false, not_true_eq_false, not_false_eq_true, true_and, and_true, and_self, false_and, and_false, Nat.lt_irrefl]
        rw [xs_152_42, nI_add]
        rw [h8] at h
        exact h _
    · have e : dgr (I 14) (fun r i => I (10 + r) i) (r + 1) y = mx (dgr (I 14) (fun r i => I (10 + r) i) r y) (I 14 r) := by
        show itr (fun i y => mx y (I (10 + r) i)) (if I 14 r < 0 then 0 else (I 14 r).toNatClampNeg) (mx _ (I 14 r)) = _
        rw [h8, if_pos m1lt]
        rfl
      have n01 : ¬ nI 0 < (-1 : Int32) := by decide
      rw [e] at h
      rw [xs_152_19 (vp_in_nI hr (by omega)), hcl, h8, if_neg n01, xs_152_42, nI_add]
      rw [h8] at h
      exact h _
  · have h66 : ¬ nI 4 < nI 4 := by decide
    rw [xs_152_4, if_neg h66, xs_152_44]
theorem m_digRows (H : INV I J2 t dr G T v bk pre ss) {y : Int64} (hq : ∀ o : Option Value, xr scr (d + 3) xc_254 53 [some (.ref 58), some (.int (nI 6)), o] [] (wS, I, xi_up J 58 33 (dgr (I 8) (fun r i => I (2 + r) i) 6 y), wP t dr G) Q) : ∀ o : Option Value, xr scr (d + 3) xc_254 19 [some (.ref 58), some (.int (nI 0)), o] [] (wS, I, xi_up J 58 33 y, wP t dr G) Q := by
  intro o
  refine up_0 (P := fun r => ∀ o6 : Option Value, xr scr (d + 3) xc_254 19 [some (.ref 58), some (.int (nI r)), o6] [] (wS, I, xi_up J 58 33 (dgr (I 8) (fun r i => I (2 + r) i) r y), wP t dr G) Q) 6 (fun r hr h o6 => ?_) (fun o6 => ?_) o
  · have hcl : (nI r).toNatClampNeg = r := nI_clamp (by omega)
    rw [xs_254_19, if_pos ((nI_ltI (by omega) (by omega)).mpr hr), xs_254_22 (vp_in_nI hr (by omega)), hcl]
    rcases H.2.1.1 r hr with ⟨s, hs, h8, h60⟩ | ⟨h8, h60⟩
    · have e : dgr (I 8) (fun r i => I (2 + r) i) (r + 1) y = itr (fun i y => mx y (I (2 + r) i)) s (mx (dgr (I 8) (fun r i => I (2 + r) i) r y) (nI s)) := by
        show itr (fun i y => mx y (I (2 + r) i)) (if I 8 r < 0 then 0 else (I 8 r).toNatClampNeg) (mx _ (I 8 r)) = _
        rw [h8, if_neg (nI_pos (by omega)), nI_clamp (by omega)]
        rfl
      rw [e] at h
      rw [h60, if_neg (nI_pos (by omega)), xs_254_30 (vp_in_nI hr (by omega)), hcl, h60, xs_254_34, m_mix]
      simp (disch := first | assumption | omega | decide | exact vp_in_nI (by omega) (by omega) | exact and1_bN _ | (simp only [pk_mul, nI_add, pred_s]; exact vp_in_nI (by omega) (by omega))) only [Option.toList_some, Option.toList_none, List.cons_append, List.nil_append, List.append_nil]
      rw [xs_254_35]
      refine up_0 (P := fun i => xr scr (d + 3) xc_254 37 [some (.ref 58), some (.int (nI r)), some (.int (nI i))] [] (wS, I, xi_up J 58 33 (itr (fun i y => mx y (I (2 + r) i)) i (mx (dgr (I 8) (fun r i => I (2 + r) i) r y) (nI s))), wP t dr G) Q) s (fun i hi h2 => ?_) ?_
      · have hi40 : i < 40 := by omega
        have e61 := H.2.1.2 r hr i hi40
        rw [xs_254_37 (vp_in_nI hr (by omega)), hcl, h60, if_pos ((nI_ltI (by omega) (by omega)).mpr hi), xs_254_43, m_rowAt hr hi40]
        simp (disch := first | assumption | omega | decide | exact vp_in_nI (by omega) (by omega) | exact and1_bN _ | (simp only [pk_mul, nI_add, pred_s]; exact vp_in_nI (by omega) (by omega))) only [Option.toList_some, Option.toList_none, List.cons_append, List.nil_append, List.append_nil]
        rw [xs_254_48, m_mix]
        simp (disch := first | assumption | omega | decide | exact vp_in_nI (by omega) (by omega) | exact and1_bN _ | (simp only [pk_mul, nI_add, pred_s]; exact vp_in_nI (by omega) (by omega))) only [Option.toList_some, Option.toList_none, List.cons_append, List.nil_append, List.append_nil]
        rw [xs_254_49, nI_add, ← e61]
        exact h2
      · rw [xs_254_37 (vp_in_nI hr (by omega)), hcl, h60]
        simp (disch := first | assumption | omega | decide | exact vp_in_nI (by omega) (by omega) | exact and1_bN _ | (simp only [pk_mul, nI_add, pred_s]; exact vp_in_nI (by omega) (by omega))) only [Bool.false_eq_true, nI_add, pk_mul, nI_ltI, nI_eq, z_eq, z_lt, z_gt, z_bN, bN_z, bN_p, bN_i1, nI_clamp, rng_nI, ↓reduceIte, if_true, if_false, not_true_eq_false, not_false_eq_true, true_and, and_true, and_self, false_and, and_false, Nat.lt_irrefl]
        rw [xs_254_51, nI_add]
        exact h _
    · have e : dgr (I 8) (fun r i => I (2 + r) i) (r + 1) y = mx (dgr (I 8) (fun r i => I (2 + r) i) r y) (-1) := by
        show itr (fun i y => mx y (I (2 + r) i)) (if I 8 r < 0 then 0 else (I 8 r).toNatClampNeg) (mx _ (I 8 r)) = _
        rw [h8, if_pos m1lt]
        rfl
      have n09 : ¬ nI 0 < (-9 : Int32) := by decide
      rw [e] at h
      rw [h60, if_pos m9lt0, xs_254_28, xs_254_34, m_mix]
      simp (disch := first | assumption | omega | decide | exact vp_in_nI (by omega) (by omega) | exact and1_bN _ | (simp only [pk_mul, nI_add, pred_s]; exact vp_in_nI (by omega) (by omega))) only [Option.toList_some, Option.toList_none, List.cons_append, List.nil_append, List.append_nil]
      rw [xs_254_35, xs_254_37 (vp_in_nI hr (by omega)), hcl, h60, if_neg n09, xs_254_51, nI_add]
      exact h _
  · have h66 : ¬ nI 6 < nI 6 := by decide
    rw [xs_254_19, if_neg h66]
    exact hq _
theorem m_digTexts (H : INV I J2 t dr G T v bk pre ss) {y : Int64} (hq : ∀ o : Option Value, xr scr (d + 3) xc_254 93 [some (.ref 58), some (.int (nI 4)), o] [] (wS, I, xi_up J 58 33 (dgr (I 14) (fun r i => I (10 + r) i) 4 y), wP t dr G) Q) : ∀ o : Option Value, xr scr (d + 3) xc_254 55 [some (.ref 58), some (.int (nI 0)), o] [] (wS, I, xi_up J 58 33 y, wP t dr G) Q := by
  intro o
  refine up_0 (P := fun r => ∀ o6 : Option Value, xr scr (d + 3) xc_254 55 [some (.ref 58), some (.int (nI r)), o6] [] (wS, I, xi_up J 58 33 (dgr (I 14) (fun r i => I (10 + r) i) r y), wP t dr G) Q) 4 (fun r hr h o6 => ?_) (fun o6 => ?_) o
  · have hcl : (nI r).toNatClampNeg = r := nI_clamp (by omega)
    rw [xs_254_55, if_pos ((nI_ltI (by omega) (by omega)).mpr hr), xs_254_58 (vp_in_nI hr (by omega)), hcl]
    rcases H.2.2.1.1 r hr with ⟨s, hs, h8, h60⟩ | ⟨h8, h60⟩
    · have e : dgr (I 14) (fun r i => I (10 + r) i) (r + 1) y = itr (fun i y => mx y (I (10 + r) i)) s (mx (dgr (I 14) (fun r i => I (10 + r) i) r y) (nI s)) := by
        show itr (fun i y => mx y (I (10 + r) i)) (if I 14 r < 0 then 0 else (I 14 r).toNatClampNeg) (mx _ (I 14 r)) = _
        rw [h8, if_neg (nI_pos (by omega)), nI_clamp (by omega)]
        rfl
      rw [e] at h
      rw [h60, if_neg (nI_pos (by omega)), xs_254_66 (vp_in_nI hr (by omega)), hcl, h60, xs_254_70, m_mix]
      simp (disch := first | assumption | omega | decide | exact vp_in_nI (by omega) (by omega) | exact and1_bN _ | (simp only [pk_mul, nI_add, pred_s]; exact vp_in_nI (by omega) (by omega))) only [Option.toList_some, Option.toList_none, List.cons_append, List.nil_append, List.append_nil]
      rw [xs_254_71]
      refine up_0 (P := fun i => xr scr (d + 3) xc_254 73 [some (.ref 58), some (.int (nI r)), some (.int (nI i))] [] (wS, I, xi_up J 58 33 (itr (fun i y => mx y (I (10 + r) i)) i (mx (dgr (I 14) (fun r i => I (10 + r) i) r y) (nI s))), wP t dr G) Q) s (fun i hi h2 => ?_) ?_
      · have hi40 : i < 80 := by omega
        have e61 := H.2.2.1.2 r hr i hi40
        rw [xs_254_73 (vp_in_nI hr (by omega)), hcl, h60, if_pos ((nI_ltI (by omega) (by omega)).mpr hi), xs_254_79 (by rw [pk_mul, nI_add]; exact vp_in_nI (by omega) (by omega)), pk_mul, nI_add, nI_clamp (by omega), m_mix]
        simp (disch := first | assumption | omega | decide | exact vp_in_nI (by omega) (by omega) | exact and1_bN _ | (simp only [pk_mul, nI_add, pred_s]; exact vp_in_nI (by omega) (by omega))) only [Option.toList_some, Option.toList_none, List.cons_append, List.nil_append, List.append_nil]
        rw [xs_254_89, nI_add, ← e61]
        exact h2
      · rw [xs_254_73 (vp_in_nI hr (by omega)), hcl, h60]
        simp (disch := first | assumption | omega | decide | exact vp_in_nI (by omega) (by omega) | exact and1_bN _ | (simp only [pk_mul, nI_add, pred_s]; exact vp_in_nI (by omega) (by omega))) only [Bool.false_eq_true, nI_add, pk_mul, nI_ltI, nI_eq, z_eq, z_lt, z_gt, z_bN, bN_z, bN_p, bN_i1, nI_clamp, rng_nI, ↓reduceIte, if_true, if_false, not_true_eq_false, not_false_eq_true, true_and, and_true, and_self, false_and, and_false, Nat.lt_irrefl]
        rw [xs_254_91, nI_add]
        exact h _
    · have e : dgr (I 14) (fun r i => I (10 + r) i) (r + 1) y = mx (dgr (I 14) (fun r i => I (10 + r) i) r y) (-1) := by
        show itr (fun i y => mx y (I (10 + r) i)) (if I 14 r < 0 then 0 else (I 14 r).toNatClampNeg) (mx _ (I 14 r)) = _
        rw [h8, if_pos m1lt]
        rfl
      have n09 : ¬ nI 0 < (-9 : Int32) := by decide
      rw [e] at h
      rw [h60, if_pos m9lt0, xs_254_64, xs_254_70, m_mix]
      simp (disch := first | assumption | omega | decide | exact vp_in_nI (by omega) (by omega) | exact and1_bN _ | (simp only [pk_mul, nI_add, pred_s]; exact vp_in_nI (by omega) (by omega))) only [Option.toList_some, Option.toList_none, List.cons_append, List.nil_append, List.append_nil]
      rw [xs_254_71, xs_254_73 (vp_in_nI hr (by omega)), hcl, h60, if_neg n09, xs_254_91, nI_add]
      exact h _
  · have h66 : ¬ nI 4 < nI 4 := by decide
    rw [xs_254_55, if_neg h66]
    exact hq _
end DIGEST
