/-! call: count -/
theorem cnt_ext {n m : Nat} (h : n ≤ m) (p : Nat → Bool) : cnt m (fun i => decide (i < n) && p i) = cnt n p := by
  induction m with
  | zero =>
    obtain rfl : n = 0 := by omega
    rfl
  | succ m ih =>
    rw [cnt_s]
    by_cases e : n = m + 1
    · subst e
      rw [cnt_s]
      congr 1
      · exact cnt_c (fun x hx => by rw [decide_eq_true (by omega)]; rfl)
      · exact bN_c (by simp)
    · rw [ih (by omega), bN_f (by rw [decide_eq_false (by omega)]; simp)]
      rfl
/-- what is counted -/
def pkc (I : Nat → Nat → Int32) (T : TN) (k i : Nat) : Bool := if k = 3 then decide (i < tN T) && decide (isA T i 3) else if k = 5 then decide (i < 3) && decide (I 70 (10 * i) ≠ -9) else if k = 6 then decide (i < 6) && decide (¬ I 60 i < 0) else if k = 7 then decide (i < 4) && decide (¬ I 63 i < 0) else false
section COUNT
variable {scr : xi_X} {d : Nat} {Q : Option Value → xi_S → Prop} {I I2 I3 I4 : Nat → Nat → Int32} {J J2 : Nat → Nat → Int64} {t dr : Nat} {G G2 : Nat → Nat} {T : TN} {v v2 : Nat} {bk bk2 : Bool} {pre pre2 : List Nat} {ss ss2 : List SGT}
theorem m_countsL (hM : MT I T) {k : Nat} (hk : k < 8) : xr scr (d + 3) xc_251 0 [some (.ref 58), some (.int (nI k)), none, none] [] (wS, I, J, wP t dr G) Q = xr scr (d + 3) xc_251 63 [some (.ref 58), some (.int (nI k)), some (.int (nI (cnt 7 (pkc I T k)))), some (.int (nI 7))] [] (wS, I, J, wP t dr G) Q := by
  have hn := MT_n hM
  rw [xs_251_0]
  refine up_0 (P := fun i => xr scr (d + 3) xc_251 4 [some (.ref 58), some (.int (nI k)), some (.int (nI (cnt i (pkc I T k)))), some (.int (nI i))] [] (wS, I, J, wP t dr G) Q = xr scr (d + 3) xc_251 63 [some (.ref 58), some (.int (nI k)), some (.int (nI (cnt 7 (pkc I T k)))), some (.int (nI 7))] [] (wS, I, J, wP t dr G) Q) 7 (fun i hi h => ?_) ?_
  · have hc := cnt_le i (pkc I T k)
    have nk : ∀ a b : Nat, a < 8 → b < 8 → (nI a = nI b ↔ a = b) := fun a b ha hb => nI_eq (by omega) (by omega)
    have y56 : pkc I T k i = true → xr scr (d + 3) xc_251 56 [some (.ref 58), some (.int (nI k)), some (.int (nI (cnt i (pkc I T k)))), some (.int (nI i))] [.int (nI (cnt i (pkc I T k)))] (wS, I, J, wP t dr G) Q = xr scr (d + 3) xc_251 63 [some (.ref 58), some (.int (nI k)), some (.int (nI (cnt 7 (pkc I T k)))), some (.int (nI 7))] [] (wS, I, J, wP t dr G) Q := fun hp => by
      rw [cnt_s, bN_t hp] at h
      rw [xs_251_56, xs_251_59, nI_add, nI_add]
      exact h
    have y58 : ¬ pkc I T k i = true → xr scr (d + 3) xc_251 58 [some (.ref 58), some (.int (nI k)), some (.int (nI (cnt i (pkc I T k)))), some (.int (nI i))] [.int (nI (cnt i (pkc I T k)))] (wS, I, J, wP t dr G) Q = xr scr (d + 3) xc_251 63 [some (.ref 58), some (.int (nI k)), some (.int (nI (cnt 7 (pkc I T k)))), some (.int (nI 7))] [] (wS, I, J, wP t dr G) Q := fun hp => by
      rw [cnt_s, bN_f hp] at h
      rw [xs_251_58, xs_251_59, nI_add, nI_add]
      exact h
    rw [xs_251_4, if_pos ((nI_ltI (by omega) (by decide)).mpr hi), xs_251_7]
    have lst : k ≠ 7 → ¬ pkc I T k i = true → xr scr (d + 3) xc_251 45 [some (.ref 58), some (.int (nI k)), some (.int (nI (cnt i (pkc I T k)))), some (.int (nI i))] [.int (nI (cnt i (pkc I T k)))] (wS, I, J, wP t dr G) Q = xr scr (d + 3) xc_251 63 [some (.ref 58), some (.int (nI k)), some (.int (nI (cnt 7 (pkc I T k)))), some (.int (nI 7))] [] (wS, I, J, wP t dr G) Q := fun h7 hp => by
      rw [xs_251_45, if_neg (fun e => h7 ((nk k 7 hk (by decide)).mp e))]
      exact y58 hp
    by_cases h3 : k = 3
    · have hpk : pkc I T k i = (decide (i < tN T) && decide (isA T i 3)) := by unfold pkc; rw [if_pos h3]
      have fal : ¬ pkc I T k i = true → xr scr (d + 3) xc_251 20 [some (.ref 58), some (.int (nI k)), some (.int (nI (cnt i (pkc I T k)))), some (.int (nI i))] [.int (nI (cnt i (pkc I T k)))] (wS, I, J, wP t dr G) Q = xr scr (d + 3) xc_251 63 [some (.ref 58), some (.int (nI k)), some (.int (nI (cnt 7 (pkc I T k)))), some (.int (nI 7))] [] (wS, I, J, wP t dr G) Q := fun hp => by
        rw [xs_251_20, if_neg (fun e => by have := (nk k 5 hk (by decide)).mp e; omega), xs_251_34, if_neg (fun e => by have := (nk k 6 hk (by decide)).mp e; omega)]
        exact lst (by omega) hp
      rw [if_pos (by rw [h3]), xs_251_11, MT_10 hM]
      by_cases hin : i < tN T
      · rw [if_pos ((nI_ltI (by omega) (by omega)).mpr hin), xs_251_15, m_isA (d := d + 1) hM hin (by decide)]
        simp (disch := first | assumption | omega | decide | exact vp_in_nI (by omega) (by omega) | exact and1_bN _ | (simp only [pk_mul, nI_add, pred_s]; exact vp_in_nI (by omega) (by omega))) only [Option.toList_some, Option.toList_none, List.cons_append, List.nil_append, List.append_nil]
        rw [xs_251_19]
        by_cases hA : isA T i 3
        · have h10 : ¬ nI 1 = 0 := by decide
          rw [bN_t hA, if_neg h10]
          exact y56 (by rw [hpk, decide_eq_true hin, decide_eq_true hA]; rfl)
        · rw [bN_f hA, if_pos nI_0]
          exact fal (by rw [hpk, decide_eq_false hA, Bool.and_false]; decide)
      · rw [if_neg (fun e => hin ((nI_ltI (by omega) (by omega)).mp e))]
        exact fal (by rw [hpk, decide_eq_false hin, Bool.false_and]; decide)
    · rw [if_neg (fun e => h3 ((nk k 3 hk (by decide)).mp e)), xs_251_20]
      by_cases h5 : k = 5
      · have hpk : pkc I T k i = (decide (i < 3) && decide (I 70 (10 * i) ≠ -9)) := by unfold pkc; rw [if_neg h3, if_pos h5]
        have fal : ¬ pkc I T k i = true → xr scr (d + 3) xc_251 34 [some (.ref 58), some (.int (nI k)), some (.int (nI (cnt i (pkc I T k)))), some (.int (nI i))] [.int (nI (cnt i (pkc I T k)))] (wS, I, J, wP t dr G) Q = xr scr (d + 3) xc_251 63 [some (.ref 58), some (.int (nI k)), some (.int (nI (cnt 7 (pkc I T k)))), some (.int (nI 7))] [] (wS, I, J, wP t dr G) Q := fun hp => by
          rw [xs_251_34, if_neg (fun e => by have := (nk k 6 hk (by decide)).mp e; omega)]
          exact lst (by omega) hp
        rw [if_pos (by rw [h5]), xs_251_23]
        by_cases hin : i < 3
        · rw [if_pos ((nI_ltI (by omega) (by omega)).mpr hin), xs_251_26 (by rw [pk_mul]; exact vp_in_nI (by omega) (by omega)), pk_mul, nI_clamp (by omega)]
          by_cases hA : I 70 (10 * i) = -9
          · rw [if_pos hA]
            exact fal (by rw [hpk]; simp [hA])
          · rw [if_neg hA]
            exact y56 (by rw [hpk, decide_eq_true hin, decide_eq_true hA]; rfl)
        · rw [if_neg (fun e => hin ((nI_ltI (by omega) (by omega)).mp e))]
          exact fal (by rw [hpk, decide_eq_false hin, Bool.false_and]; decide)
      · rw [if_neg (fun e => h5 ((nk k 5 hk (by decide)).mp e)), xs_251_34]
        by_cases h6 : k = 6
        · have hpk : pkc I T k i = (decide (i < 6) && decide (¬ I 60 i < 0)) := by unfold pkc; rw [if_neg h3, if_neg h5, if_pos h6]
          rw [if_pos (by rw [h6]), xs_251_37]
          by_cases hin : i < 6
          · rw [if_pos ((nI_ltI (by omega) (by omega)).mpr hin), xs_251_40 (vp_in_nI hin (by omega)), nI_clamp (by omega)]
            by_cases hA : I 60 i < 0
            · rw [if_pos hA]
              exact lst (by omega) (by rw [hpk]; simp [hA])
            · rw [if_neg hA]
              exact y56 (by rw [hpk, decide_eq_true hin, decide_eq_true hA]; rfl)
          · rw [if_neg (fun e => hin ((nI_ltI (by omega) (by omega)).mp e))]
            exact lst (by omega) (by rw [hpk, decide_eq_false hin, Bool.false_and]; decide)
        · rw [if_neg (fun e => h6 ((nk k 6 hk (by decide)).mp e))]
          by_cases h7 : k = 7
          · have hpk : pkc I T k i = (decide (i < 4) && decide (¬ I 63 i < 0)) := by unfold pkc; rw [if_neg h3, if_neg h5, if_neg h6, if_pos h7]
            rw [xs_251_45, if_pos (by rw [h7]), xs_251_48]
            by_cases hin : i < 4
            · rw [if_pos ((nI_ltI (by omega) (by omega)).mpr hin), xs_251_51 (vp_in_nI hin (by omega)), nI_clamp (by omega)]
              by_cases hA : I 63 i < 0
              · rw [if_pos hA]
                exact y58 (by rw [hpk]; simp [hA])
              · rw [if_neg hA]
                exact y56 (by rw [hpk, decide_eq_true hin, decide_eq_true hA]; rfl)
            · rw [if_neg (fun e => hin ((nI_ltI (by omega) (by omega)).mp e))]
              exact y58 (by rw [hpk, decide_eq_false hin, Bool.false_and]; decide)
          · exact lst h7 (by unfold pkc; rw [if_neg h3, if_neg h5, if_neg h6, if_neg h7]; decide)
  · have h77 : ¬ nI 7 < nI 7 := by decide
    rw [xs_251_4, if_neg h77]
theorem c_countThere {a n : Nat} (hs : wS[a]? = some (9, n)) (hn : n ≤ 7) : xr scr d xc_146 0 [some (.ref a), none, none] [] (wS, I, J, wP t dr G) Q = Q (some (.int (nI (cnt n (fun i => decide (¬ I a i < 0)))))) (wS, I, J, wP t dr G) := by
  rw [xs_146_0]
  refine up_0 (P := fun i => xr scr d xc_146 4 [some (.ref a), some (.int (nI (cnt i (fun i => decide (¬ I a i < 0))))), some (.int (nI i))] [] (wS, I, J, wP t dr G) Q = Q (some (.int (nI (cnt n (fun i => decide (¬ I a i < 0)))))) (wS, I, J, wP t dr G)) n (fun i hi h => ?_) ?_
  · rw [xs_146_4 hs, if_pos ((nI_ltI (by omega) (by omega)).mpr hi), xs_146_8 hs (vp_in_nI hi (by omega)), nI_clamp (by omega)]
    rw [cnt_s] at h
    by_cases e : I a i < 0
    · rw [bN_f (by simpa using e)] at h
      rw [if_pos e, xs_146_13, nI_add]
      exact h
    · rw [bN_t (by simpa using e)] at h
      rw [if_neg e, xs_146_12, xs_146_13, nI_add, nI_add]
      exact h
  · rw [xs_146_4 hs]
    simp (disch := first | assumption | omega | decide | exact vp_in_nI (by omega) (by omega) | exact and1_bN _ | (simp only [pk_mul, nI_add, pred_s]; exact vp_in_nI (by omega) (by omega))) only [Bool.false_eq_true, nI_add, pk_mul, nI_ltI, nI_eq, z_eq, z_lt, z_gt, z_bN, bN_z, bN_p, bN_i1, nI_clamp, rng_nI, ↓reduceIte, if_true, if_false, not_true_eq_false, not_false_eq_true, true_and, and_true, and_self, false_and, and_false, Nat.lt_irrefl, xs_146_15]
theorem ts_144_0 : xr scr d xc_144 0 [some (.ref 0), some (.int (nI 0))] [] (wS, I, J, wP t dr G) Q = xr scr d xc_144 2 [some (.ref 0), some (.int (nI 0))] [] (wS, I, J, wP t dr G) Q := Eq.trans (xr_iload_n rfl rfl) (xr_tsw rfl (by decide) (by decide))
theorem ts_144_1 : xr scr d xc_144 0 [some (.ref 0), some (.int (nI 1))] [] (wS, I, J, wP t dr G) Q = xr scr d xc_144 6 [some (.ref 0), some (.int (nI 1))] [] (wS, I, J, wP t dr G) Q := Eq.trans (xr_iload_n rfl rfl) (xr_tsw rfl (by decide) (by decide))
theorem ts_144_2 : xr scr d xc_144 0 [some (.ref 0), some (.int (nI 2))] [] (wS, I, J, wP t dr G) Q = xr scr d xc_144 10 [some (.ref 0), some (.int (nI 2))] [] (wS, I, J, wP t dr G) Q := Eq.trans (xr_iload_n rfl rfl) (xr_tsw rfl (by decide) (by decide))
theorem ts_144_3 : xr scr d xc_144 0 [some (.ref 0), some (.int (nI 3))] [] (wS, I, J, wP t dr G) Q = xr scr d xc_144 20 [some (.ref 0), some (.int (nI 3))] [] (wS, I, J, wP t dr G) Q := Eq.trans (xr_iload_n rfl rfl) (xr_tsw rfl (by decide) (by decide))
theorem ts_144_4 : xr scr d xc_144 0 [some (.ref 0), some (.int (nI 4))] [] (wS, I, J, wP t dr G) Q = xr scr d xc_144 25 [some (.ref 0), some (.int (nI 4))] [] (wS, I, J, wP t dr G) Q := Eq.trans (xr_iload_n rfl rfl) (xr_tsw rfl (by decide) (by decide))
theorem ts_144_5 : xr scr d xc_144 0 [some (.ref 0), some (.int (nI 5))] [] (wS, I, J, wP t dr G) Q = xr scr d xc_144 29 [some (.ref 0), some (.int (nI 5))] [] (wS, I, J, wP t dr G) Q := Eq.trans (xr_iload_n rfl rfl) (xr_tsw rfl (by decide) (by decide))
theorem ts_144_6 : xr scr d xc_144 0 [some (.ref 0), some (.int (nI 6))] [] (wS, I, J, wP t dr G) Q = xr scr d xc_144 32 [some (.ref 0), some (.int (nI 6))] [] (wS, I, J, wP t dr G) Q := Eq.trans (xr_iload_n rfl rfl) (xr_tsw rfl (by decide) (by decide))
theorem ts_144_7 : xr scr d xc_144 0 [some (.ref 0), some (.int (nI 7))] [] (wS, I, J, wP t dr G) Q = xr scr d xc_144 36 [some (.ref 0), some (.int (nI 7))] [] (wS, I, J, wP t dr G) Q := Eq.trans (xr_iload_n rfl rfl) (xr_tsw rfl (by decide) (by decide))
theorem ts_144_d {x : Int32} (h : x.toInt < 0 ∨ 7 < x.toInt) : xr scr d xc_144 0 [some (.ref 0), some (.int x)] [] (wS, I, J, wP t dr G) Q = xr scr d xc_144 40 [some (.ref 0), some (.int x)] [] (wS, I, J, wP t dr G) Q := Eq.trans (xr_iload_n rfl rfl) (xr_tsw_d rfl h)
theorem ts_251_0 {x2 x3 : Int32} : xr scr d xc_251 63 [some (.ref 58), some (.int (nI 0)), some (.int x2), some (.int x3)] [] (wS, I, J, wP t dr G) Q = xr scr d xc_251 65 [some (.ref 58), some (.int (nI 0)), some (.int x2), some (.int x3)] [] (wS, I, J, wP t dr G) Q := Eq.trans (xr_iload_n rfl rfl) (xr_tsw rfl (by decide) (by decide))
theorem ts_251_1 {x2 x3 : Int32} : xr scr d xc_251 63 [some (.ref 58), some (.int (nI 1)), some (.int x2), some (.int x3)] [] (wS, I, J, wP t dr G) Q = xr scr d xc_251 68 [some (.ref 58), some (.int (nI 1)), some (.int x2), some (.int x3)] [] (wS, I, J, wP t dr G) Q := Eq.trans (xr_iload_n rfl rfl) (xr_tsw rfl (by decide) (by decide))
theorem ts_251_2 {x2 x3 : Int32} : xr scr d xc_251 63 [some (.ref 58), some (.int (nI 2)), some (.int x2), some (.int x3)] [] (wS, I, J, wP t dr G) Q = xr scr d xc_251 71 [some (.ref 58), some (.int (nI 2)), some (.int x2), some (.int x3)] [] (wS, I, J, wP t dr G) Q := Eq.trans (xr_iload_n rfl rfl) (xr_tsw rfl (by decide) (by decide))
theorem ts_251_3 {x2 x3 : Int32} : xr scr d xc_251 63 [some (.ref 58), some (.int (nI 3)), some (.int x2), some (.int x3)] [] (wS, I, J, wP t dr G) Q = xr scr d xc_251 77 [some (.ref 58), some (.int (nI 3)), some (.int x2), some (.int x3)] [] (wS, I, J, wP t dr G) Q := Eq.trans (xr_iload_n rfl rfl) (xr_tsw rfl (by decide) (by decide))
theorem ts_251_4 {x2 x3 : Int32} : xr scr d xc_251 63 [some (.ref 58), some (.int (nI 4)), some (.int x2), some (.int x3)] [] (wS, I, J, wP t dr G) Q = xr scr d xc_251 74 [some (.ref 58), some (.int (nI 4)), some (.int x2), some (.int x3)] [] (wS, I, J, wP t dr G) Q := Eq.trans (xr_iload_n rfl rfl) (xr_tsw rfl (by decide) (by decide))
theorem ts_251_5 {x2 x3 : Int32} : xr scr d xc_251 63 [some (.ref 58), some (.int (nI 5)), some (.int x2), some (.int x3)] [] (wS, I, J, wP t dr G) Q = xr scr d xc_251 77 [some (.ref 58), some (.int (nI 5)), some (.int x2), some (.int x3)] [] (wS, I, J, wP t dr G) Q := Eq.trans (xr_iload_n rfl rfl) (xr_tsw_d rfl (by decide))
theorem ts_251_6 {x2 x3 : Int32} : xr scr d xc_251 63 [some (.ref 58), some (.int (nI 6)), some (.int x2), some (.int x3)] [] (wS, I, J, wP t dr G) Q = xr scr d xc_251 77 [some (.ref 58), some (.int (nI 6)), some (.int x2), some (.int x3)] [] (wS, I, J, wP t dr G) Q := Eq.trans (xr_iload_n rfl rfl) (xr_tsw_d rfl (by decide))
theorem ts_251_7 {x2 x3 : Int32} : xr scr d xc_251 63 [some (.ref 58), some (.int (nI 7)), some (.int x2), some (.int x3)] [] (wS, I, J, wP t dr G) Q = xr scr d xc_251 77 [some (.ref 58), some (.int (nI 7)), some (.int x2), some (.int x3)] [] (wS, I, J, wP t dr G) Q := Eq.trans (xr_iload_n rfl rfl) (xr_tsw_d rfl (by decide))
theorem c_countKept : xr scr (d + 1) xc_145 0 [some (.ref 0), none, none] [] (wS, I, J, wP t dr G) Q = Q (some (.int (nI (cnt 3 (fun i => decide (¬ I (52 + 2 * i) 2 < 0)))))) (wS, I, J, wP t dr G) := by
  rw [xs_145_0]
  refine up_0 (P := fun i => xr scr (d + 1) xc_145 4 [some (.ref 0), some (.int (nI (cnt i (fun i => decide (¬ I (52 + 2 * i) 2 < 0))))), some (.int (nI i))] [] (wS, I, J, wP t dr G) Q = Q (some (.int (nI (cnt 3 (fun i => decide (¬ I (52 + 2 * i) 2 < 0)))))) (wS, I, J, wP t dr G)) 3 (fun i hi h => ?_) ?_
  · have hdy : dy (52 + 2 * i) := by
      have : i = 0 ∨ i = 1 ∨ i = 2 := by omega
      rcases this with rfl | rfl | rfl <;> decide
    rw [xs_145_4, if_pos ((nI_ltI (by omega) (by omega)).mpr hi), xs_145_7 (vp_in_nI hi (by omega)), nI_clamp (by omega)]
    rw [cnt_s] at h
    by_cases e : I (52 + 2 * i) 2 < 0
    · rw [bN_f (by simpa using e)] at h
      simp (disch := first | assumption | omega | decide | exact vp_in_nI (by omega) (by omega) | exact and1_bN _ | (simp only [pk_mul, nI_add, pred_s]; exact vp_in_nI (by omega) (by omega))) only [xs_61_0, xs_61_3, xs_61_5, xs_61_6, e, Option.toList_some, Option.toList_none, List.cons_append, List.nil_append, List.append_nil, ↓reduceIte]
      rw [xs_145_12, if_pos nI_0, xs_145_14, nI_add]
      exact h
    · have h10 : ¬ nI 1 = 0 := by decide
      rw [bN_t (by simpa using e)] at h
      simp (disch := first | assumption | omega | decide | exact vp_in_nI (by omega) (by omega) | exact and1_bN _ | (simp only [pk_mul, nI_add, pred_s]; exact vp_in_nI (by omega) (by omega))) only [xs_61_0, xs_61_3, xs_61_5, xs_61_6, e, Option.toList_some, Option.toList_none, List.cons_append, List.nil_append, List.append_nil, ↓reduceIte]
      rw [xs_145_12, if_neg h10, xs_145_13, xs_145_14, nI_add, nI_add]
      exact h
  · have h33 : ¬ nI 3 < nI 3 := by decide
    rw [xs_145_4, if_neg h33, xs_145_16]
theorem k_count (H : INV I J t dr G T v bk pre ss) {x : Int32} : xr scr (d + 20) xc_144 0 [some (.ref 0), some (.int x)] [] (wS, I, J, wP t dr G) (AN scr (d + 20) xc_250 [some (.ref 58), some (.int x)]) := by
  have ht := H.1.1
  have hT := H.1.2.2.2.1
  have hM := H.1.2.2.2.2.1
  have hn := TR_n hT.1
  have hh5 := TR_h hT.1
  have hD := H.2.2.2.1
  have h10 : ¬ nI 1 = 0 := by decide
  have hrx := rng_s (x := x) (n := 7) (by decide)
  by_cases hx : rng x 8 = true
  · obtain ⟨k, hk, rfl⟩ := rng_of hx (by decide)
    have mref : ∀ z : Int32, (∀ Q : Option Value → xi_S → Prop, xr scr (d + 19) xc_251 63 [some (.ref 58), some (.int (nI k)), some (.int (nI (cnt 7 (pkc I T k)))), some (.int (nI 7))] [] (wS, I, J, wP t dr G) Q = Q (some (.int z)) (wS, I, J, wP t dr G)) → AN scr (d + 20) xc_250 [some (.ref 58), some (.int (nI k))] (some (.int z)) (wS, I, J, wP t dr G) := fun z h => by
      refine AN_i ?_
      simp (disch := first | assumption | omega | decide | exact vp_in_nI (by omega) (by omega) | exact and1_bN _ | (simp only [pk_mul, nI_add, pred_s]; exact vp_in_nI (by omega) (by omega))) only [xs_250_0, m_in, Option.toList_some, Option.toList_none, List.cons_append, List.nil_append, List.append_nil, xs_250_4]
      rw [bN_c (rng_m0 (n := 7) (x := nI k) (by decide)), bN_t hx, if_neg h10, xs_250_5, m_countsL (d := d + 16) hM hk, h]
      simp (disch := first | assumption | omega | decide | exact vp_in_nI (by omega) (by omega) | exact and1_bN _ | (simp only [pk_mul, nI_add, pred_s]; exact vp_in_nI (by omega) (by omega))) only [Option.toList_some, Option.toList_none, List.cons_append, List.nil_append, List.append_nil]
      rw [xs_250_8, xs_250_10]
      first | exact PST_i H | exact ⟨trivial, PST_i H⟩ | exact ⟨rfl, PST_i H⟩
    have hkc : k = 0 ∨ k = 1 ∨ k = 2 ∨ k = 3 ∨ k = 4 ∨ k = 5 ∨ k = 6 ∨ k = 7 := by omega
    rcases hkc with rfl | rfl | rfl | rfl | rfl | rfl | rfl | rfl
    · rw [ts_144_0, xs_144_2 ht, TR_1 hT.1]
      exact mref _ (fun Q => by rw [ts_251_0, xs_251_65, MT_10 hM])
    · rw [ts_144_1, xs_144_6 ht, TR_0 hT.1]
      exact mref _ (fun Q => by rw [ts_251_1, xs_251_68, MT_11 hM])
    · rw [ts_144_2, xs_144_10]
      rcases day_cases hD with ⟨-, h1, h2⟩ | ⟨u, hu, h1, h2, hu2⟩
      · rw [c_isBegun0 (Or.inl rfl) h1]
        simp (disch := first | assumption | omega | decide | exact vp_in_nI (by omega) (by omega) | exact and1_bN _ | (simp only [pk_mul, nI_add, pred_s]; exact vp_in_nI (by omega) (by omega))) only [Option.toList_some, Option.toList_none, List.cons_append, List.nil_append, List.append_nil]
        rw [xs_144_13, if_pos nI_0, xs_144_18, xs_144_19]
        exact mref _ (fun Q => by rw [ts_251_2, xs_251_71, h2])
      · rw [c_isBegun1 (Or.inl rfl) h1 (by omega)]
        simp (disch := first | assumption | omega | decide | exact vp_in_nI (by omega) (by omega) | exact and1_bN _ | (simp only [pk_mul, nI_add, pred_s]; exact vp_in_nI (by omega) (by omega))) only [Option.toList_some, Option.toList_none, List.cons_append, List.nil_append, List.append_nil]
        rw [xs_144_13, if_neg h10, xs_144_14, h1, xs_144_19]
        exact mref _ (fun Q => by rw [ts_251_2, xs_251_71, h2])
    · rw [ts_144_3, xs_144_20 ht, c_countKind (d := d + 16) ht hT.1 (by decide)]
      simp (disch := first | assumption | omega | decide | exact vp_in_nI (by omega) (by omega) | exact and1_bN _ | (simp only [pk_mul, nI_add, pred_s]; exact vp_in_nI (by omega) (by omega))) only [Option.toList_some, Option.toList_none, List.cons_append, List.nil_append, List.append_nil]
      rw [xs_144_24]
      refine mref _ (fun Q => ?_)
      have e : cnt 7 (pkc I T 3) = knd T 3 := cnt_ext hn (fun i => decide (isA T i 3))
      rw [ts_251_3, xs_251_77, e]
    · rw [ts_144_4, xs_144_25, H.2.2.2.2.2.1.2.1]
      exact mref _ (fun Q => by rw [ts_251_4, xs_251_74, H.2.2.2.2.2.1.1.1])
    · rw [ts_144_5, xs_144_29, c_countKept (d := d + 18)]
      simp (disch := first | assumption | omega | decide | exact vp_in_nI (by omega) (by omega) | exact and1_bN _ | (simp only [pk_mul, nI_add, pred_s]; exact vp_in_nI (by omega) (by omega))) only [Option.toList_some, Option.toList_none, List.cons_append, List.nil_append, List.append_nil]
      rw [xs_144_31]
      refine mref _ (fun Q => ?_)
      have e : cnt 7 (pkc I T 5) = cnt 3 (fun i => decide (¬ I (52 + 2 * i) 2 < 0)) := by
        rw [← cnt_ext (show 3 ≤ 7 by decide)]
        refine cnt_c (fun i _ => ?_)
        show (decide (i < 3) && decide (I 70 (10 * i) ≠ -9)) = _
        by_cases hi : i < 3
        · congr 1
          rcases H.2.2.2.2.1 i hi with ⟨h1, h2⟩ | ⟨v2, bk2, pre2, hk⟩
          · rw [h1, h2]; decide
          · have hl := hk.2.2.2.2.1
            have h9 : nI (pre2.length - 1) ≠ -9 := fun e => (m9_ne (by omega)).mp e
            rw [hk.2.2.2.2.2.1, hk.2.2.2.2.2.2.1, decide_eq_true (nI_pos (by omega)), decide_eq_true h9]
        · rw [decide_eq_false hi, Bool.false_and, Bool.false_and]
      rw [ts_251_5, xs_251_77, e]
    · rw [ts_144_6, xs_144_32, c_countThere (n := 6) rfl (by decide)]
      simp (disch := first | assumption | omega | decide | exact vp_in_nI (by omega) (by omega) | exact and1_bN _ | (simp only [pk_mul, nI_add, pred_s]; exact vp_in_nI (by omega) (by omega))) only [Option.toList_some, Option.toList_none, List.cons_append, List.nil_append, List.append_nil]
      rw [xs_144_35]
      refine mref _ (fun Q => ?_)
      have e : cnt 7 (pkc I T 6) = cnt 6 (fun i => decide (¬ I 8 i < 0)) := by
        rw [← cnt_ext (show 6 ≤ 7 by decide)]
        refine cnt_c (fun i _ => ?_)
        show (decide (i < 6) && decide (¬ I 60 i < 0)) = _
        by_cases hi : i < 6
        · congr 1
          rcases H.2.1.1 i hi with ⟨s, hs, h8, h60⟩ | ⟨h8, h60⟩
          · rw [h8, h60]
          · rw [h8, h60]; decide
        · rw [decide_eq_false hi, Bool.false_and, Bool.false_and]
      rw [ts_251_6, xs_251_77, e]
    · rw [ts_144_7, xs_144_36, c_countThere (n := 4) rfl (by decide)]
      simp (disch := first | assumption | omega | decide | exact vp_in_nI (by omega) (by omega) | exact and1_bN _ | (simp only [pk_mul, nI_add, pred_s]; exact vp_in_nI (by omega) (by omega))) only [Option.toList_some, Option.toList_none, List.cons_append, List.nil_append, List.append_nil]
      rw [xs_144_39]
      refine mref _ (fun Q => ?_)
      have e : cnt 7 (pkc I T 7) = cnt 4 (fun i => decide (¬ I 14 i < 0)) := by
        rw [← cnt_ext (show 4 ≤ 7 by decide)]
        refine cnt_c (fun i _ => ?_)
        show (decide (i < 4) && decide (¬ I 63 i < 0)) = _
        by_cases hi : i < 4
        · congr 1
          rcases H.2.2.1.1 i hi with ⟨s, hs, h8, h60⟩ | ⟨h8, h60⟩
          · rw [h8, h60]
          · rw [h8, h60]; decide
        · rw [decide_eq_false hi, Bool.false_and, Bool.false_and]
      rw [ts_251_7, xs_251_77, e]
  · have hx2 : x.toInt < 0 ∨ 7 < x.toInt := by
      have e7 : (nI 7).toInt = 7 := by decide
      have e0 : (0 : Int32).toInt = 0 := by decide
      by_cases a : x < 0
      · rw [Int32.lt_iff_toInt_lt] at a
        omega
      · by_cases b : nI 7 < x
        · rw [Int32.lt_iff_toInt_lt] at b
          omega
        · exact absurd (hrx.mpr ⟨a, b⟩) hx
    rw [ts_144_d hx2, xs_144_40]
    refine AN_i ?_
    simp (disch := first | assumption | omega | decide | exact vp_in_nI (by omega) (by omega) | exact and1_bN _ | (simp only [pk_mul, nI_add, pred_s]; exact vp_in_nI (by omega) (by omega))) only [xs_250_0, m_in, Option.toList_some, Option.toList_none, List.cons_append, List.nil_append, List.append_nil, xs_250_4]
    rw [bN_c (rng_m0 (n := 7) (x := x) (by decide)), bN_f hx, if_pos nI_0, xs_250_9, xs_250_10]
    first | exact PST_i H | exact ⟨trivial, PST_i H⟩ | exact ⟨rfl, PST_i H⟩
end COUNT
