/-! THE TEXT: the class, the rest -/
theorem dig2 {c : Int32} {lo hi : Nat} (hl : lo ≤ hi) (hh : hi < 2 ^ 31) (h1 : ¬ c < nI lo) (h2 : ¬ nI hi < c) : ∃ n, lo ≤ n ∧ n ≤ hi ∧ c = nI n := by
  have h0 : ¬ c < 0 := fun e => h1 (by
    rw [Int32.lt_iff_toInt_lt] at e ⊢
    rw [nI_toInt (by omega)]
    have : (0 : Int32).toInt = 0 := by decide
    omega)
  obtain ⟨j, hj, rfl⟩ := nI_of h0
  rw [nI_ltI hj (by omega)] at h1
  rw [nI_ltI (by omega) hj] at h2
  exact ⟨j, by omega, by omega, rfl⟩
theorem spt_le {b : Nat → Int32} {s : Nat} : ∀ k q z, spt b s k q = some z → q ≤ s → z ≤ s := by
  intro k
  induction k with
  | zero => exact fun q z e _ => by cases e
  | succ k ih =>
    intro q z h hq
    by_cases e : hr b s q ≠ nI 45 ∧ (hr b s q < nI 48 ∨ nI 53 < hr b s q)
    · rw [spt_f e] at h
      cases h
      exact hq
    · rw [spt_s e] at h
      by_cases hq2 : q < s
      · exact ih (q + 1) z h (by omega)
      · exact absurd (by rw [hr_ge hq2]; decide) e
theorem psn_le {b : Nat → Int32} {s h m p q : Nat} (hp : p < s) (e : psn b s h m p = some q) : q ≤ s := by
  by_cases h1 : kN (hr b s p) = 9 ∨ 7 ≤ m
  · rw [psn_1 h1] at e; cases e; omega
  · by_cases h2 : hr b s (p + 1) < nI 48 ∨ nI 57 < hr b s (p + 1)
    · rw [psn_2 h1 h2] at e; cases e; omega
    · rw [psn_3 h1 h2] at e
      have h3 : p + 1 < s := hr_in (lo := 48) (by decide) (fun q => h2 (Or.inl q))
      exact spt_le _ _ _ e (by omega)
section PARSE2
variable {scr : xi_X} {d : Nat} {Q : Option Value → xi_S → Prop} {I I2 I3 I4 : Nat → Nat → Int32} {J J2 : Nat → Nat → Int64} {t dr : Nat} {G G2 : Nat → Nat} {a c : Nat} {b : Nat → Int32} {s h m p i : Nat} {ps : List Nat}
theorem TN_len : tN (TNp b h (ps ++ [i])) = ps.length + 1 := List.length_append
theorem TR_stp (H : TR I a (TNp b h ps)) (e : psn b s h ps.length i = none) (hi : i < s) (g0 : I2 a 0 = nI h) (g1 : I2 a 1 = nI (ps.length + 1)) (gx : ∀ x, x < ps.length → I2 (a + 1) x = I (a + 1) x ∧ I2 (a + 2) x = I (a + 2) x) (gk : I2 (a + 1) ps.length = kv (b i)) (gf : I2 (a + 2) ps.length = b (i + 1) - nI 48) (gj : ∀ j, j < ps.length * 5 → I2 (a + 3) j = I (a + 3) j) (gs : ∀ u, u < h → I2 (a + 3) (ps.length * 5 + u) = spv (b (i + 1 + (u + 1)))) : TR I2 a (TNp b h (ps ++ [i])) := by
  obtain ⟨p1, p2, p3, p4, p5, p6⟩ := psn_n e
  have hh : h ≤ 5 := TR_h H
  rw [hr_lt hi] at p1
  refine ⟨by rw [TN_len]; omega, hh, g0, by rw [TN_len]; exact g1, fun x hx => ?_, fun x hx u hu => ?_⟩
  · rw [TN_len] at hx
    show I2 (a + 1) x = nI (kN (b ((ps ++ [i]).getD x 0))) ∧ kN (b ((ps ++ [i]).getD x 0)) ≤ 5 ∧ I2 (a + 2) x = nI ((b ((ps ++ [i]).getD x 0 + 1)).toNatClampNeg - 48) ∧ (b ((ps ++ [i]).getD x 0 + 1)).toNatClampNeg - 48 ≤ 9
    by_cases ex : x < ps.length
    · rw [getD_a ex, (gx x ex).1, (gx x ex).2]
      exact H.2.2.2.2.1 x ex
    · obtain rfl : x = ps.length := by omega
      obtain ⟨n, n1, n2, n3⟩ := dig2 (lo := 48) (hi := 57) (by decide) (by decide) p4 p5
      have hk := kN_le (b i)
      rw [getD_b, gk, gf, kv_n p1, n3, nI_clamp (by omega), pk_sub n1]
      exact ⟨rfl, by omega, rfl, by omega⟩
  · rw [TN_len] at hx
    have hu' : u < h := hu
    show I2 (a + 3) (x * 5 + u) = spv (b ((ps ++ [i]).getD x 0 + 1 + (u + 1)))
    by_cases ex : x < ps.length
    · rw [getD_a ex, gj _ (by omega)]
      exact H.2.2.2.2.2 x ex u hu
    · obtain rfl : x = ps.length := by omega
      rw [getD_b]
      exact gs u hu
theorem c_prl (ht : tw a) (hx : txc c) (hs : s ≤ 80) (hh : h ≤ 5) : ∀ k i ps (I : Nat → Nat → Int32), ps.length + k = 8 → i ≤ s → TR I a (TNp b h ps) → I c = b → (∀ I2 : Nat → Nat → Int32, (∀ k, k < a ∨ a + 5 ≤ k → I2 k = I k) → ((prl b s h k i ps).1 = none → TT I2 a (TNp b h (prl b s h k i ps).2)) → Q (some (.int (cd (prl b s h k i ps).1))) (wS, I2, J, wP t dr G)) → ∀ o6 : Option Value, xr scr (d + 5) xc_27 58 [some (.ref a), some (.ref c), some (.int (nI s)), some (.int (nI s)), some (.int (nI i)), some (.int (nI ps.length)), o6] [] (wS, I, J, wP t dr G) Q := by
  have a' : a = 15 ∨ a = 20 := ht
  have c' : 10 ≤ c ∧ c ≤ 13 := hx
  intro k
  induction k with
  | zero =>
    intro i ps I hl hi H
    have h7 : ps.length ≤ 7 := TR_n H
    omega
  | succ k ih =>
    intro i ps I hl his H hc hq o6
    have h7 : ps.length ≤ 7 := TR_n H
    rw [xs_27_58, if_neg (fun e => by have := (nI_ltI (by omega) (by omega)).mp e; omega), xs_27_61]
    by_cases hi : i < s
    · rw [if_pos ((nI_ltI (by omega) (by omega)).mpr hi), xs_27_64 ht]
      refine c_readPerson (d := d + 3) (m := ps.length) ht hx hs hh hi (TR_0 H) (TR_1 H) h7 (fun q I2 e f => ?_) (fun I2 e f g0 g1 gx gk gf gj gs => ?_)
      · rw [hc] at e
        have hqs := psn_le hi e
        have n9 : ¬ nI q = -9 := fun e => (m9_ne (by omega)).mp e
        rw [prl_f hi e] at hq
        simp (disch := first | assumption | omega | decide | exact vp_in_nI (by omega) (by omega) | exact and1_bN _ | (simp only [pk_mul, nI_add, pred_s]; exact vp_in_nI (by omega) (by omega))) only [Option.toList_some, Option.toList_none, List.cons_append, List.nil_append, List.append_nil]
        rw [xs_27_69, if_neg n9, xs_27_73]
        exact hq I2 (fun k hk => f k (by omega)) (fun z => by cases z)
      · have hc2 : I2 c = b := (f c (by omega)).trans hc
        rw [hc] at e gk gf gs
        have hen := psn_end e
        rw [prl_n hi e] at hq
        simp (disch := first | assumption | omega | decide | exact vp_in_nI (by omega) (by omega) | exact and1_bN _ | (simp only [pk_mul, nI_add, pred_s]; exact vp_in_nI (by omega) (by omega))) only [Option.toList_some, Option.toList_none, List.cons_append, List.nil_append, List.append_nil]
        rw [xs_27_69, if_pos rfl, xs_27_75 ht, g0, nI_add, nI_add, show i + 2 + h = i + 1 + (h + 1) by omega, c_skip hx hs (by omega), hc2]
        simp (disch := first | assumption | omega | decide | exact vp_in_nI (by omega) (by omega) | exact and1_bN _ | (simp only [pk_mul, nI_add, pred_s]; exact vp_in_nI (by omega) (by omega))) only [Option.toList_some, Option.toList_none, List.cons_append, List.nil_append, List.append_nil]
        rw [xs_27_84, nI_add]
        have hsk := skp_le b (s - (i + 1 + (h + 1))) (i + 1 + (h + 1))
        have := ih (skp b (s - (i + 1 + (h + 1))) (i + 1 + (h + 1))) (ps ++ [i]) I2 (by rw [List.length_append]; show ps.length + 1 + k = 8; omega) (by omega) (TR_stp H e hi g0 g1 gx gk gf gj gs) hc2 (fun I3 f3 => hq I3 (fun k hk => by rw [f3 k hk, f k (by omega)])) (some (.int (-9)))
        rw [List.length_append] at this
        exact this
    · rw [if_neg (fun e => hi ((nI_ltI (by omega) (by omega)).mp e)), xs_27_87 ht]
      rw [prl_o hi] at hq
      refine c_fillTakers (d := d) ht H (fun I2 f hTT => ?_)
      simp (disch := first | assumption | omega | decide | exact vp_in_nI (by omega) (by omega) | exact and1_bN _ | (simp only [pk_mul, nI_add, pred_s]; exact vp_in_nI (by omega) (by omega))) only [Option.toList_some, Option.toList_none, List.cons_append, List.nil_append, List.append_nil]
      rw [xs_27_89]
      exact hq I2 (fun k hk => f k (by omega)) (fun _ => hTT)
theorem rd_1 (h1 : hr b s (skp b s 0) ≠ nI 104) : rdT b s = (some (skp b s 0), 0, []) := if_pos h1
theorem rd_2 (h1 : ¬ hr b s (skp b s 0) ≠ nI 104) (h2 : hr b s (skp b s 0 + 1) < nI 49 ∨ nI 53 < hr b s (skp b s 0 + 1)) : rdT b s = (some (skp b s 0 + 1), 0, []) := by unfold rdT; rw [if_neg h1, if_pos h2]
theorem rd_3 (h1 : ¬ hr b s (skp b s 0) ≠ nI 104) (h2 : ¬ (hr b s (skp b s 0 + 1) < nI 49 ∨ nI 53 < hr b s (skp b s 0 + 1))) {n : Nat} (hn : n ≤ 100) (e : b (skp b s 0 + 1) = nI n) : rdT b s = hd3 (n - 48) (prl b s (n - 48) 8 (skp b (s - (skp b s 0 + 1 + 1)) (skp b s 0 + 1 + 1)) []) := by
  unfold rdT
  rw [if_neg h1, if_neg h2, e, nI_clamp (by omega)]
theorem c_readText (ht : tw a) (hx : txc c) (hs : s ≤ 80) (hq : ∀ I2 : Nat → Nat → Int32, (∀ k, k < a ∨ a + 5 ≤ k → I2 k = I k) → ((rdT (I c) s).1 = none → TT I2 a (TNp (I c) (rdT (I c) s).2.1 (rdT (I c) s).2.2)) → Q (some (.int (cd (rdT (I c) s).1))) (wS, I2, J, wP t dr G)) : xr scr (d + 5) xc_27 0 [some (.ref a), some (.ref c), some (.int (nI s)), none, none, none, none] [] (wS, I, J, wP t dr G) Q := by
  have a' : a = 15 ∨ a = 20 := ht
  have c' : 10 ≤ c ∧ c ≤ 13 := hx
  have n80 : ¬ nI 80 < nI s := fun e => by have := (nI_ltI (by omega) (by omega)).mp e; omega
  rw [xs_27_0 ht hx, if_neg n80]
  obtain ⟨I1, hI1⟩ : ∃ I1 : Nat → Nat → Int32, I1 = xi_up (xi_up I a 0 (nI 0)) a 1 (nI 0) := ⟨_, rfl⟩
  rw [← hI1]
  have f1 : ∀ k, k < a ∨ a + 5 ≤ k → I1 k = I k := fun k hk => by rw [hI1, xu_fr (by omega), xu_fr (by omega)]
  have f11 : I1 a 1 = nI 0 := by rw [hI1, xu_eq]
  have hc1 : I1 c = I c := f1 c (by omega)
  obtain ⟨b, hb⟩ : ∃ b : Nat → Int32, b = I c := ⟨_, rfl⟩
  rw [← hb] at hq hc1
  rw [c_skip hx hs (by omega), hc1, Nat.sub_zero]
  simp (disch := first | assumption | omega | decide | exact vp_in_nI (by omega) (by omega) | exact and1_bN _ | (simp only [pk_mul, nI_add, pred_s]; exact vp_in_nI (by omega) (by omega))) only [Option.toList_some, Option.toList_none, List.cons_append, List.nil_append, List.append_nil]
  rw [xs_27_15]
  have hle := skp_le b s 0
  obtain ⟨i, hi0⟩ : ∃ i, i = skp b s 0 := ⟨_, rfl⟩
  rw [← hi0] at hle ⊢
  by_cases hi : i < s
  · have hri : hr b s i = b i := hr_lt hi
    have vi : vp_in (nI i) 80 := vp_in_nI (by omega) (by omega)
    rw [if_pos ((nI_ltI (by omega) (by omega)).mpr hi), xs_27_19 hx vi, nI_clamp (by omega), hc1]
    by_cases h104 : b i = nI 104
    · have n1 : ¬ hr b s (skp b s 0) ≠ nI 104 := by rw [← hi0, hri]; exact fun q => q h104
      rw [if_pos h104, xs_27_26, nI_add]
      by_cases hi1 : i + 1 < s
      · have hri1 : hr b s (i + 1) = b (i + 1) := hr_lt hi1
        have vi1 : vp_in (nI (i + 1)) 80 := vp_in_nI (by omega) (by omega)
        have ci1 : (nI (i + 1)).toNatClampNeg = i + 1 := nI_clamp (by omega)
        rw [if_pos ((nI_ltI (by omega) (by omega)).mpr hi1), xs_27_30 hx vi1, ci1, hc1]
        by_cases k1 : b (i + 1) < nI 49
        · rw [rd_2 n1 (by rw [← hi0, hri1]; exact Or.inl k1), ← hi0] at hq
          rw [if_pos k1, xs_27_40]
          exact hq I1 f1 (fun z => by cases z)
        · rw [if_neg k1, xs_27_35 hx vi1, ci1, hc1]
          by_cases k2 : nI 53 < b (i + 1)
          · rw [rd_2 n1 (by rw [← hi0, hri1]; exact Or.inr k2), ← hi0] at hq
            rw [if_pos k2, xs_27_40]
            exact hq I1 f1 (fun z => by cases z)
          · obtain ⟨n, l1, l2, l3⟩ := dig2 (lo := 49) (hi := 53) (by decide) (by decide) k1 k2
            rw [rd_3 n1 (by rw [← hi0, hri1]; exact fun q => q.elim k1 k2) (n := n) (by omega) (by rw [← hi0]; exact l3), ← hi0] at hq
            rw [if_neg k2, xs_27_42 hx vi1 ht, ci1, hc1, l3, pk_sub (by omega), nI_add]
            have hc2 : xi_up I1 a 0 (nI (n - 48)) c = b := by rw [xu_fr (by omega), hc1]
            rw [c_skip hx hs (by omega), hc2]
            simp (disch := first | assumption | omega | decide | exact vp_in_nI (by omega) (by omega) | exact and1_bN _ | (simp only [pk_mul, nI_add, pred_s]; exact vp_in_nI (by omega) (by omega))) only [Option.toList_some, Option.toList_none, List.cons_append, List.nil_append, List.append_nil]
            rw [xs_27_55]
            have hsk := skp_le b (s - (i + 1 + 1)) (i + 1 + 1)
            exact c_prl (d := d) (b := b) (h := n - 48) ht hx hs (by omega) 8 _ [] _ rfl (by omega) ⟨Nat.zero_le 7, by show n - 48 ≤ 5; omega, xu_eq, by rw [xu_nj (by decide), f11]; rfl, fun x hx => absurd hx (Nat.not_lt_zero x), fun x hx => absurd hx (Nat.not_lt_zero x)⟩ hc2 (fun I3 f3 => hq I3 (fun k hk => by rw [f3 k hk, xu_fr (by omega), f1 k hk])) none
      · rw [rd_2 n1 (by rw [← hi0, hr_ge hi1]; exact Or.inl m9_49), ← hi0] at hq
        rw [if_neg (fun e => hi1 ((nI_ltI (by omega) (by omega)).mp e)), xs_27_40]
        exact hq I1 f1 (fun z => by cases z)
    · rw [rd_1 (by rw [← hi0, hri]; exact h104), ← hi0] at hq
      rw [if_neg h104, xs_27_24]
      exact hq I1 f1 (fun z => by cases z)
  · rw [rd_1 (by rw [← hi0, hr_ge hi]; decide), ← hi0] at hq
    rw [if_neg (fun e => hi ((nI_ltI (by omega) (by omega)).mp e)), xs_27_24]
    exact hq I1 f1 (fun z => by cases z)
end PARSE2
