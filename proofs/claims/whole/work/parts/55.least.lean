/-! calls: least, ends -/
/-- the first number from v on, of k, at which p holds -/
def fsv (p : Nat → Bool) : Nat → Nat → Option Nat
  | _, 0 => none
  | v, k + 1 => if p v = true then some v else fsv p (v + 1) k
theorem wU_wU (w a : Nat) (G : Nat → Nat) : wU w a (wU w a G) = wU w a G := by
  funext k
  unfold wU
  split <;> rfl
section LEAST
variable {scr : xi_X} {d : Nat} {Q : Option Value → xi_S → Prop} {I I2 : Nat → Nat → Int32} {J J2 : Nat → Nat → Int64} {t dr : Nat} {G G2 : Nat → Nat} {T : TN} {v v2 : Nat} {bk bk2 : Bool} {pre pre2 : List Nat} {ss ss2 : List SGT}
theorem k_least (H : INV I J t dr G T v bk pre ss) {x y : Int32} : xr scr (d + 20) xc_101 0 [some (.ref 0), some (.int x), some (.int y), none] [] (wS, I, J, wP t dr G) (AN scr (d + 20) xc_219 [some (.ref 58), some (.int x), some (.int y), none, none, none]) := by
  have ht := H.1.1
  have hT := H.1.2.2.2.1
  have hM := H.1.2.2.2.2.1
  have hn := TR_n hT.1
  have hh5 := TR_h hT.1
  have hD := H.2.2.2.1
  by_cases hx : rng x (tN T) = true
  · by_cases hy : rng y (tN T) = true
    · obtain ⟨x, hx1, rfl⟩ := rng_of hx (by omega)
      obtain ⟨y, hy1, rfl⟩ := rng_of hy (by omega)
      have hh1 := H.1.2.2.2.2.2 (by omega)
      obtain ⟨p, hp⟩ : ∃ p : Nat → Bool, p = fun w => decide (LXY T w bk x y ≠ []) := ⟨_, rfl⟩
      have hpw : ∀ w, (p w = true ↔ LXY T w bk x y ≠ []) := fun w => by rw [hp]; exact decide_eq_true_iff
      -- the reference
      have mref : ∀ (I2 : Nat → Nat → Int32) (G1 : Nat → Nat), INV I2 J t dr G1 T v bk pre ss → AN scr (d + 20) xc_219 [some (.ref 58), some (.int (nI x)), some (.int (nI y)), none, none, none] (some (.int (glI (fsv p 1 5)))) (wS, I2, J, wP t dr G1) := by
        intro I2 G1 H1
        have hM1 := H1.1.2.2.2.2.1
        have hV1 := H1.2.2.2.1.2.2.2.1
        refine AN_i ?_
        simp (disch := first | assumption | omega | decide | exact vp_in_nI (by omega) (by omega) | exact and1_bN _ | (simp only [pk_mul, nI_add, pred_s]; exact vp_in_nI (by omega) (by omega))) only [xs_219_0, m_areTwo hM1, Option.toList_some, Option.toList_none, List.cons_append, List.nil_append, List.append_nil, xs_219_4, Bool.false_eq_true, nI_add, pk_mul, nI_ltI, nI_eq, z_eq, z_lt, z_gt, z_bN, bN_z, bN_p, bN_i1, nI_clamp, rng_nI, ↓reduceIte, if_true, if_false, not_true_eq_false, not_false_eq_true, true_and, and_true, and_self, false_and, and_false, hx1, hy1, xs_219_7, hV1.1]
        rw [show nI 5 = nI 6 - nI 1 from rfl]
        have key : ∀ k, k ≤ 5 → ∀ I3 : Nat → Nat → Int32, FrS I2 (xi_up I3 58 16 (nI v)) → xr scr (d + 20) xc_219 14 [some (.ref 58), some (.int (nI x)), some (.int (nI y)), some (.int (nI v)), some (.int (glI (fsv p (k + 1) (5 - k)))), some (.int (nI (k + 1) - nI 1))] [] (wS, I3, J, wP t dr G1) (fun r2 S2 => r2 = some (.int (glI (fsv p 1 5))) ∧ PST S2) := by
          intro k
          induction k with
          | zero =>
            intro _ I3 f3
            have h01 : nI (0 + 1) - nI 1 < nI 1 := by decide
            rw [xs_219_14, if_pos h01, xs_219_33]
            exact ⟨rfl, PST_i (INV_S H1 f3)⟩
          | succ k ih =>
            intro hk I3 f3
            have hk1 : ¬ k + 1 < 1 := by omega
            have g : ∀ c, c ≠ 58 → c ≠ 66 → c ≠ 67 → c ≠ 68 → c ≠ 69 → I3 c = I2 c := fun c a b e h1 h2 => by rw [← f3.1 c a b e h1 h2, xu_fr a]
            have gs : ∀ j, j ≠ 16 → j ≠ 21 → j ≠ 22 → j ≠ 23 → j ≠ 24 → j ≠ 27 → I3 58 j = I2 58 j := fun j a0 a b c e h1 => by rw [← f3.2.1 j a b c e h1, xu_nj a0]
            obtain ⟨I4, hI4⟩ : ∃ I4 : Nat → Nat → Int32, I4 = xi_up I3 58 16 (nI (k + 1)) := ⟨_, rfl⟩
            have hM4 : MT I4 T := MT_fr hM1 (by rw [hI4, xu_nj (by decide), gs 10 (by decide) (by decide) (by decide) (by decide) (by decide) (by decide)]) (by rw [hI4, xu_nj (by decide), gs 11 (by decide) (by decide) (by decide) (by decide) (by decide) (by decide)]) (by rw [hI4, xu_fr (by decide), g 65 (by decide) (by decide) (by decide) (by decide) (by decide)])
            have hV4 : MV I4 (k + 1) bk := ⟨by rw [hI4, xu_eq], by rw [hI4, xu_nj (by decide), gs 17 (by decide) (by decide) (by decide) (by decide) (by decide) (by decide)]; exact hV1.2⟩
            rw [pred_s, xs_219_14]
            simp (disch := first | assumption | omega | decide | exact vp_in_nI (by omega) (by omega) | exact and1_bN _ | (simp only [pk_mul, nI_add, pred_s]; exact vp_in_nI (by omega) (by omega))) only [Bool.false_eq_true, nI_add, pk_mul, nI_ltI, nI_eq, z_eq, z_lt, z_gt, z_bN, bN_z, bN_p, bN_i1, nI_clamp, rng_nI, ↓reduceIte, if_true, if_false, not_true_eq_false, not_false_eq_true, true_and, and_true, and_self, false_and, and_false, hk1, xs_219_17]
            rw [← hI4]
            refine m_setRows (d := d + 7) hM4 hV4 (by omega) hx1 hy1 (fun I5 f5 R5 => ?_)
            have hlen := LXY_len (v := k + 1) (bk := bk) hn hh5 x y
            have f35 : FrS I2 (xi_up I5 58 16 (nI v)) := by
              refine ⟨fun c a b e h1 h2 => ?_, fun j a b c e h1 => ?_, fun i hi => ?_⟩
              · rw [xu_fr a, f5.1 c a b e h1 h2, hI4, xu_fr a, g c a b e h1 h2]
              · by_cases e16 : j = 16
                · subst e16
                  rw [xu_eq]
                  have := f3.2.1 16 a b c e h1
                  rw [xu_eq] at this
                  exact this
                · rw [xu_nj e16, f5.2.1 j a b c e h1, hI4, xu_nj e16, gs j e16 a b c e h1]
              · rw [xu_nc (by decide), f5.2.2 i hi, hI4, xu_nc (by decide)]
                have := f3.2.2 i hi
                rw [xu_nc (by decide)] at this
                exact this
            have ih2 := ih (by omega) I5 f35
            rw [show 5 - k = (5 - (k + 1)) + 1 by omega] at ih2
            unfold fsv at ih2
            simp (disch := first | assumption | omega | decide | exact vp_in_nI (by omega) (by omega) | exact and1_bN _ | (simp only [pk_mul, nI_add, pred_s]; exact vp_in_nI (by omega) (by omega))) only [Option.toList_some, Option.toList_none, List.cons_append, List.nil_append, List.append_nil, xs_219_24]
            rw [show I5 58 21 = nI (LXY T (k + 1) bk x y).length from R5.1]
            simp (disch := first | assumption | omega | decide | exact vp_in_nI (by omega) (by omega) | exact and1_bN _ | (simp only [pk_mul, nI_add, pred_s]; exact vp_in_nI (by omega) (by omega))) only [Bool.false_eq_true, nI_add, pk_mul, nI_ltI, nI_eq, z_eq, z_lt, z_gt, z_bN, bN_z, bN_p, bN_i1, nI_clamp, rng_nI, ↓reduceIte, if_true, if_false, not_true_eq_false, not_false_eq_true, true_and, and_true, and_self, false_and, and_false]
            by_cases hpk : p (k + 1) = true
            · rw [if_pos hpk] at ih2
              rw [if_pos (List.length_pos_iff.mpr ((hpw _).mp hpk))]
              simp (disch := first | assumption | omega | decide | exact vp_in_nI (by omega) (by omega) | exact and1_bN _ | (simp only [pk_mul, nI_add, pred_s]; exact vp_in_nI (by omega) (by omega))) only [xs_219_27, xs_219_30, add_m1]
              exact ih2
            · rw [if_neg hpk] at ih2
              have : ¬ 0 < (LXY T (k + 1) bk x y).length := fun e => hpk ((hpw _).mpr (List.length_pos_iff.mp e))
              rw [if_neg this]
              simp (disch := first | assumption | omega | decide | exact vp_in_nI (by omega) (by omega) | exact and1_bN _ | (simp only [pk_mul, nI_add, pred_s]; exact vp_in_nI (by omega) (by omega))) only [xs_219_29, xs_219_30, add_m1]
              exact ih2
        refine key 5 (Nat.le_refl _) I2 ⟨fun c a _ _ _ _ => by rw [xu_fr a], fun j _ _ _ _ _ => ?_, fun i _ => by rw [xu_nc (by decide)]⟩
        by_cases e16 : j = 16
        · subst e16; rw [xu_eq, hV1.1]
        · rw [xu_nj e16]
      simp (disch := first | assumption | omega | decide | exact vp_in_nI (by omega) (by omega) | exact and1_bN _ | (simp only [pk_mul, nI_add, pred_s]; exact vp_in_nI (by omega) (by omega))) only [xs_101_0, xs_101_4, xs_101_5, xs_101_9, c_isOne ht hT.1, Option.toList_some, Option.toList_none, List.cons_append, List.nil_append, List.append_nil, Bool.false_eq_true, nI_add, pk_mul, nI_ltI, nI_eq, z_eq, z_lt, z_gt, z_bN, bN_z, bN_p, bN_i1, nI_clamp, rng_nI, ↓reduceIte, if_true, if_false, not_true_eq_false, not_false_eq_true, true_and, and_true, and_self, false_and, and_false, hx1, hy1, xs_101_12]
      have key : ∀ k w, w + k = 6 → 1 ≤ w → fsv p 1 5 = fsv p w k → ∀ (I2 : Nat → Nat → Int32) (G1 : Nat → Nat), INV I2 J t dr G1 T v bk pre ss → xr scr (d + 20) xc_101 14 [some (.ref 0), some (.int (nI x)), some (.int (nI y)), some (.int (nI w))] [] (wS, I2, J, wP t dr G1) (AN scr (d + 20) xc_219 [some (.ref 58), some (.int (nI x)), some (.int (nI y)), none, none, none]) := by
        intro k
        induction k with
        | zero =>
          intro w hw hw1 hf I2 G1 H1
          have h56 : 5 < w := by omega
          simp (disch := first | assumption | omega | decide | exact vp_in_nI (by omega) (by omega) | exact and1_bN _ | (simp only [pk_mul, nI_add, pred_s]; exact vp_in_nI (by omega) (by omega))) only [xs_101_14, Bool.false_eq_true, nI_add, pk_mul, nI_ltI, nI_eq, z_eq, z_lt, z_gt, z_bN, bN_z, bN_p, bN_i1, nI_clamp, rng_nI, ↓reduceIte, if_true, if_false, not_true_eq_false, not_false_eq_true, true_and, and_true, and_self, false_and, and_false, h56, xs_101_27]
          have := mref I2 G1 H1
          rw [hf] at this
          exact this
        | succ k ih =>
          intro w hw hw1 hf I2 G1 H1
          have h56 : ¬ 5 < w := by omega
          simp (disch := first | assumption | omega | decide | exact vp_in_nI (by omega) (by omega) | exact and1_bN _ | (simp only [pk_mul, nI_add, pred_s]; exact vp_in_nI (by omega) (by omega))) only [xs_101_14, Bool.false_eq_true, nI_add, pk_mul, nI_ltI, nI_eq, z_eq, z_lt, z_gt, z_bN, bN_z, bN_p, bN_i1, nI_clamp, rng_nI, ↓reduceIte, if_true, if_false, not_true_eq_false, not_false_eq_true, true_and, and_true, and_self, false_and, and_false, h56, xs_101_17]
          refine c_findWay (d := d + 9) ht H1.1.2.2.2.1 hw1 (by omega) H1.2.2.2.1.2.2.2.2.1 hh1 hx1 hy1 (fun I3 f3 _ => ?_)
          have H3 := INV_32 H1 f3
          rw [show fsv p w (k + 1) = if p w = true then some w else fsv p (w + 1) k from rfl] at hf
          simp (disch := first | assumption | omega | decide | exact vp_in_nI (by omega) (by omega) | exact and1_bN _ | (simp only [pk_mul, nI_add, pred_s]; exact vp_in_nI (by omega) (by omega))) only [Option.toList_some, Option.toList_none, List.cons_append, List.nil_append, List.append_nil, xs_101_22, Bool.false_eq_true, nI_add, pk_mul, nI_ltI, nI_eq, z_eq, z_lt, z_gt, z_bN, bN_z, bN_p, bN_i1, nI_clamp, rng_nI, ↓reduceIte, if_true, if_false, not_true_eq_false, not_false_eq_true, true_and, and_true, and_self, false_and, and_false]
          by_cases hpw2 : p w = true
          · rw [if_pos hpw2] at hf
            rw [if_neg (fun e => e ((hpw w).mp hpw2)), xs_101_23]
            have := mref I3 _ H3
            rw [hf] at this
            exact this
          · rw [if_neg hpw2] at hf
            rw [if_pos (fun e => hpw2 ((hpw w).mpr e)), xs_101_25, nI_add]
            exact ih (w + 1) (by omega) (by omega) hf I3 _ H3
      exact key 5 1 rfl (Nat.le_refl 1) rfl I G H
    · simp (disch := first | assumption | omega | decide | exact vp_in_nI (by omega) (by omega) | exact and1_bN _ | (simp only [pk_mul, nI_add, pred_s]; exact vp_in_nI (by omega) (by omega))) only [xs_101_0, xs_101_4, xs_101_5, xs_101_9, xs_101_10, c_isOne ht hT.1, Option.toList_some, Option.toList_none, List.cons_append, List.nil_append, List.append_nil, Bool.false_eq_true, nI_add, pk_mul, nI_ltI, nI_eq, z_eq, z_lt, z_gt, z_bN, bN_z, bN_p, bN_i1, nI_clamp, rng_nI, ↓reduceIte, if_true, if_false, not_true_eq_false, not_false_eq_true, true_and, and_true, and_self, false_and, and_false, hx, hy]
      refine AN_i ?_
      simp (disch := first | assumption | omega | decide | exact vp_in_nI (by omega) (by omega) | exact and1_bN _ | (simp only [pk_mul, nI_add, pred_s]; exact vp_in_nI (by omega) (by omega))) only [xs_219_0, xs_219_4, xs_219_5, m_areTwo hM, Option.toList_some, Option.toList_none, List.cons_append, List.nil_append, List.append_nil, Bool.false_eq_true, nI_add, pk_mul, nI_ltI, nI_eq, z_eq, z_lt, z_gt, z_bN, bN_z, bN_p, bN_i1, nI_clamp, rng_nI, ↓reduceIte, if_true, if_false, not_true_eq_false, not_false_eq_true, true_and, and_true, and_self, false_and, and_false, hx, hy]
      first | exact PST_i H | exact ⟨trivial, PST_i H⟩ | exact ⟨rfl, PST_i H⟩
  · simp (disch := first | assumption | omega | decide | exact vp_in_nI (by omega) (by omega) | exact and1_bN _ | (simp only [pk_mul, nI_add, pred_s]; exact vp_in_nI (by omega) (by omega))) only [xs_101_0, xs_101_4, xs_101_10, c_isOne ht hT.1, Option.toList_some, Option.toList_none, List.cons_append, List.nil_append, List.append_nil, Bool.false_eq_true, nI_add, pk_mul, nI_ltI, nI_eq, z_eq, z_lt, z_gt, z_bN, bN_z, bN_p, bN_i1, nI_clamp, rng_nI, ↓reduceIte, if_true, if_false, not_true_eq_false, not_false_eq_true, true_and, and_true, and_self, false_and, and_false, hx]
    refine AN_i ?_
    simp (disch := first | assumption | omega | decide | exact vp_in_nI (by omega) (by omega) | exact and1_bN _ | (simp only [pk_mul, nI_add, pred_s]; exact vp_in_nI (by omega) (by omega))) only [xs_219_0, xs_219_4, xs_219_5, m_areTwo hM, Option.toList_some, Option.toList_none, List.cons_append, List.nil_append, List.append_nil, Bool.false_eq_true, nI_add, pk_mul, nI_ltI, nI_eq, z_eq, z_lt, z_gt, z_bN, bN_z, bN_p, bN_i1, nI_clamp, rng_nI, ↓reduceIte, if_true, if_false, not_true_eq_false, not_false_eq_true, true_and, and_true, and_self, false_and, and_false, hx]
    first | exact PST_i H | exact ⟨trivial, PST_i H⟩ | exact ⟨rfl, PST_i H⟩
theorem ctR_any (L : List (List Nat)) (i x : Nat) : decide (0 < ctR L i x) = L.any (fun r => r.getD i 0 == x) := by
  rw [Bool.eq_iff_iff, decide_eq_true_eq, List.any_eq_true]
  unfold ctR
  rw [List.countP_pos_iff]
theorem k_ends (H : INV I J t dr G T v bk pre ss) : xr scr (d + 20) xc_76 0 [some (.ref 0), none] [] (wS, I, J, wP t dr G) (AN scr (d + 20) xc_204 [some (.ref 58)]) := by
  have ht := H.1.1
  have ht' : t = 15 ∨ t = 20 := ht
  have hT := H.1.2.2.2.1
  have hM := H.1.2.2.2.2.1
  have hn := TR_n hT.1
  have hh5 := TR_h hT.1
  have hD := H.2.2.2.1
  have h10 : ¬ 1 = 0 := by decide
  rcases day_cases hD with ⟨-, h1, h2⟩ | ⟨u, hu, h1, h2, hu2⟩
  · simp (disch := first | assumption | omega | decide | exact vp_in_nI (by omega) (by omega) | exact and1_bN _ | (simp only [pk_mul, nI_add, pred_s]; exact vp_in_nI (by omega) (by omega))) only [xs_76_0, xs_76_3, xs_76_4, c_isBegun0 (Or.inl rfl) h1, Option.toList_some, Option.toList_none, List.cons_append, List.nil_append, List.append_nil, Bool.false_eq_true, nI_add, pk_mul, nI_ltI, nI_eq, z_eq, z_lt, z_gt, z_bN, bN_z, bN_p, bN_i1, nI_clamp, rng_nI, ↓reduceIte, if_true, if_false, not_true_eq_false, not_false_eq_true, true_and, and_true, and_self, false_and, and_false]
    refine AN_i ?_
    simp (disch := first | assumption | omega | decide | exact vp_in_nI (by omega) (by omega) | exact and1_bN _ | (simp only [pk_mul, nI_add, pred_s]; exact vp_in_nI (by omega) (by omega))) only [xs_204_0, h2, ↓reduceIte, xs_204_4]
    first | exact PST_i H | exact ⟨trivial, PST_i H⟩ | exact ⟨rfl, PST_i H⟩
  · have hu31 : u < 2 ^ 31 := by omega
    have hin := hD.2.2.2.2.2.1
    obtain ⟨L, hL⟩ : ∃ L, L = rws (tN T) (okC T v bk (fun _ _ => true)) (tH T - u) pre := ⟨_, rfl⟩
    have hlen : L.length ≤ 117649 := by
      have a1 := rws_len (n := tN T) (ok := okC T v bk (fun _ _ => true)) (tH T - u) pre
      have a2 : tN T ^ (tH T - u) ≤ 7 ^ 5 := Nat.le_trans (Nat.pow_le_pow_left hn _) (Nat.pow_le_pow_right (by decide) (by omega))
      rw [hL]; omega
    rw [xs_76_0, c_isBegun1 (Or.inl rfl) h1 hu31]
    simp (disch := first | assumption | omega | decide | exact vp_in_nI (by omega) (by omega) | exact and1_bN _ | (simp only [pk_mul, nI_add, pred_s]; exact vp_in_nI (by omega) (by omega))) only [Option.toList_some, Option.toList_none, List.cons_append, List.nil_append, List.append_nil, xs_76_3, Bool.false_eq_true, nI_add, pk_mul, nI_ltI, nI_eq, z_eq, z_lt, z_gt, z_bN, bN_z, bN_p, bN_i1, nI_clamp, rng_nI, ↓reduceIte, if_true, if_false, not_true_eq_false, not_false_eq_true, true_and, and_true, and_self, false_and, and_false, h10]
    rw [xs_76_6, hD.2.2.1, hD.2.2.2.2.1]
    refine c_prepare (d := d + 15) (Or.inl rfl) ht hT hD.1 hD.2.1 (fun I1 f1 W1 T1 s1 => ?_)
    have hT1 : TT I1 t T := TT_frA (w := 32) (Or.inl rfl) ht f1 hT
    simp (disch := first | assumption | omega | decide | exact vp_in_nI (by omega) (by omega) | exact and1_bN _ | (simp only [pk_mul, nI_add, pred_s]; exact vp_in_nI (by omega) (by omega))) only [Option.toList_some, Option.toList_none, List.cons_append, List.nil_append, List.append_nil, xs_76_17]
    refine c_follow (d := d + 17) (Or.inl rfl) (Or.inl rfl) ht wU_eq hT1 hD.2.1 W1 hin hu (by omega) (by rw [f1 25 (by omega), h1]) (fun i hi => by rw [f1 26 (by omega)]; exact hD.2.2.2.2.2.2.2.2.2.1 i hi) (fun I2 f2 W2 => ?_)
    have hT2 : TT I2 t T := TT_frW (w := 32) (Or.inl rfl) ht (FrT_W f2) hT1
    have e2 : I2 25 2 = nI u := by rw [f2.1 25 (by decide) (by decide) (by decide), f1 25 (by omega), h1]
    simp (disch := first | assumption | omega | decide | exact vp_in_nI (by omega) (by omega) | exact and1_bN _ | (simp only [pk_mul, nI_add, pred_s]; exact vp_in_nI (by omega) (by omega))) only [Option.toList_some, Option.toList_none, List.cons_append, List.nil_append, List.append_nil]
    rw [xs_76_22, e2]
    refine c_countOn (d := d + 10) (Or.inl rfl) ht wU_eq hT2 hD.2.1 W2 hin hu hu2 (TL_frT f2 T1) (fun I3 f3 t3 => ?_)
    rw [← hL] at t3 ⊢
    have fA : FrA I I3 32 := FrA_trans (FrA_trans f1 (FrA_W (FrT_W f2))) f3
    have hT3 : TT I3 t T := TT_frA (w := 32) (Or.inl rfl) ht f3 hT2
    simp (disch := first | assumption | omega | decide | exact vp_in_nI (by omega) (by omega) | exact and1_bN _ | (simp only [pk_mul, nI_add, pred_s]; exact vp_in_nI (by omega) (by omega))) only [Option.toList_some, Option.toList_none, List.cons_append, List.nil_append, List.append_nil]
    rw [xs_76_28 ht, TR_0 hT3.1, c_heldIn (d := d + 17) (Or.inl rfl) ht wU_eq hT3 t3 hlen (Nat.le_refl _)]
    simp (disch := first | assumption | omega | decide | exact vp_in_nI (by omega) (by omega) | exact and1_bN _ | (simp only [pk_mul, nI_add, pred_s]; exact vp_in_nI (by omega) (by omega))) only [Option.toList_some, Option.toList_none, List.cons_append, List.nil_append, List.append_nil, xs_76_36]
    have H3 := INV_32 H fA
    obtain ⟨q, hq⟩ : ∃ q, q = nI (bs (tN T) (fun x => decide (0 < ctR L (tH T) x))) := ⟨_, rfl⟩
    rw [← hq]
    refine AN_i ?_
    have f4 : ∀ k, k ≠ 0 → xi_up I3 0 14 q k = I3 k := fun k hk => xu_fr hk
    have e4 : xi_up I3 0 14 q 58 18 = nI u := by rw [f4 58 (by decide), fA 58 (by omega), h2]
    rw [xs_204_0, e4, if_neg (fun e => (m9_ne hu31).mp e), xs_204_6]
    refine m_putAside (fun I5 f5 a5 => ?_)
    have hM5 : MT I5 T := MT_fr H3.1.2.2.2.2.1 (by rw [f5 58 (by decide), f4 58 (by decide)]) (by rw [f5 58 (by decide), f4 58 (by decide)]) (by rw [f5 65 (by decide), f4 65 (by decide)])
    simp (disch := first | assumption | omega | decide | exact vp_in_nI (by omega) (by omega) | exact and1_bN _ | (simp only [pk_mul, nI_add, pred_s]; exact vp_in_nI (by omega) (by omega))) only [Option.toList_some, Option.toList_none, List.cons_append, List.nil_append, List.append_nil, xs_204_8]
    refine m_wipeRows hM5 (fun I6 f6 g6 s23 R6 => ?_)
    have g68 : ∀ j, j ≠ 21 → j ≠ 22 → j ≠ 23 → j ≠ 24 → j ≠ 27 → I6 58 j = I3 58 j := fun j a b c e h => by rw [g6 j a b c e h, f5 58 (by decide), f4 58 (by decide)]
    have f68 : ∀ k, k ≠ 0 → k ≠ 58 → k ≠ 67 → k ≠ 69 → I6 k = I3 k := fun k a b c e => by rw [f6 k b e, f5 k c, f4 k a]
    have e6 : I6 58 18 = nI u := by rw [g68 18 (by decide) (by decide) (by decide) (by decide) (by decide), fA 58 (by omega), h2]
    have hM6 : MT I6 T := MT_fr H3.1.2.2.2.2.1 (g68 10 (by decide) (by decide) (by decide) (by decide) (by decide)) (g68 11 (by decide) (by decide) (by decide) (by decide) (by decide)) (f68 65 (by decide) (by decide) (by decide) (by decide))
    have hV6 : MV I6 v bk := MV_fr H3.2.2.2.1.2.2.2.1 (g68 16 (by decide) (by decide) (by decide) (by decide) (by decide)) (g68 17 (by decide) (by decide) (by decide) (by decide) (by decide))
    have hp6 : HD I6 pre := fun i hi => by rw [f68 66 (by decide) (by decide) (by decide) (by decide)]; exact HD_of H3.2.2.2.1 hh5 i hi
    have hrl : rwL T v bk (cS none) (tH T - u) pre = L := by rw [hL]; exact if_pos rfl
    simp (disch := first | assumption | omega | decide | exact vp_in_nI (by omega) (by omega) | exact and1_bN _ | (simp only [pk_mul, nI_add, pred_s]; exact vp_in_nI (by omega) (by omega))) only [Option.toList_some, Option.toList_none, List.cons_append, List.nil_append, List.append_nil]
    rw [xs_204_11, e6, show nI u = nI (pre.length - 1) by rw [hu]; rfl, show d + 19 = (d + 13 - (tH T - u)) + (tH T - u) + 6 by omega]
    refine m_rowsOn (gl := none) (ss := none) (fun z hz => by cases hz) hD.2.1 (tH T - u) pre I6 [] [] _ hM6 hV6 trivial s23 hp6 hin (by omega) (by omega) R6 (by rw [hrl]; have : ([] : List (List Nat)).length = 0 := rfl; omega) (fun I7 f7 p7 R7 => ?_)
    rw [hrl] at R7
    have hfil : L.filter (pasB none (tH T)) = L := List.filter_eq_self.mpr (fun _ _ => rfl)
    rw [hfil, List.nil_append] at R7
    simp (disch := first | assumption | omega | decide | exact vp_in_nI (by omega) (by omega) | exact and1_bN _ | (simp only [pk_mul, nI_add, pred_s]; exact vp_in_nI (by omega) (by omega))) only [Option.toList_some, Option.toList_none, List.cons_append, List.nil_append, List.append_nil, xs_204_16]
    refine m_comeBack (fun I8 f8 a8 => ?_)
    have r21 : I8 58 21 = nI L.length := by rw [f8 58 (by decide), R7.1]
    have r22 : I8 58 22 = q := by
      rw [f8 58 (by decide), R7.2.1, hq]
      congr 1
      exact bs_c (fun x _ => (ctR_any L (tH T) x).symm)
    simp (disch := first | assumption | omega | decide | exact vp_in_nI (by omega) (by omega) | exact and1_bN _ | (simp only [pk_mul, nI_add, pred_s]; exact vp_in_nI (by omega) (by omega))) only [Option.toList_some, Option.toList_none, List.cons_append, List.nil_append, List.append_nil, xs_204_18, r21, r22, m_say, xs_204_24]
    have F : FrS (xi_up I3 0 14 q) I8 := ⟨fun k a b c e h => by rw [f8 k b, f7.1 k a b e h, f6 k a h, f5 k c], fun j a b c e h => by rw [f8 58 (by decide), f7.2 j a b e h, g6 j a b c e h, f5 58 (by decide)], fun i hi => by rw [a8 i hi, f7.1 67 (by decide) (by decide) (by decide) (by decide), f6 67 (by decide) (by decide), a5 i hi]⟩
    have F2 := LIV_S F
    refine ⟨trivial, PST_i (INV_liv H3 ⟨fun k hk => ?_, fun i hi => ?_, fun j hj => ?_, fun j hj => ?_⟩ ⟨?_, H.2.2.2.2.2.2.2.1.2⟩ rfl)⟩
    · rw [xu_fr (by omega), F2.1 k hk, f4 k (by omega)]
    · rw [xu_nc (by decide), F2.2.1 i hi, f4 66 (by decide)]
    · rw [xu_nj (by omega), F2.2.2.1 j hj, f4 58 (by decide)]
    · rw [xu_nc (by decide), F2.2.2.2 j hj, xu_nj hj]
    · rw [xu_nc (by decide), xu_eq, F.1 0 (by decide) (by decide) (by decide) (by decide) (by decide), xu_eq]
end LEAST
