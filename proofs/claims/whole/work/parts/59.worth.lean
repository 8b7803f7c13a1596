/-! calls: worth, best -/
/-- the first of 0..k at which f is most -/
def amx (f : Nat → Nat) : Nat → Nat
  | 0 => 0
  | k + 1 => if f (amx f k) < f (k + 1) then k + 1 else amx f k
theorem amx_le (f : Nat → Nat) (k : Nat) : amx f k ≤ k := by
  induction k with
  | zero => exact Nat.le_refl _
  | succ k ih =>
    show (if f (amx f k) < f (k + 1) then k + 1 else amx f k) ≤ k + 1
    split <;> omega
theorem m1_lt {k : Nat} (h : k < 2 ^ 31) : (-1 : Int32) < nI k := by
  rw [Int32.lt_iff_toInt_lt, nI_toInt h]
  have : (-1 : Int32).toInt = -1 := by decide
  omega
section WORTH
variable {scr : xi_X} {d : Nat} {Q : Option Value → xi_S → Prop} {I I2 I3 I4 : Nat → Nat → Int32} {J J2 : Nat → Nat → Int64} {t dr : Nat} {G G2 : Nat → Nat} {T : TN} {v v2 : Nat} {bk bk2 : Bool} {pre pre2 : List Nat} {ss ss2 : List SGT}
theorem INV_45 (H : INV I J t dr G T v bk pre ss) (h : ∀ k, k ≠ 45 → I2 k = I k) : INV I2 J t dr (wU 44 t G) T v bk pre ss := by
  refine INV_liv H ⟨fun k hk => h k (by omega), fun i _ => by rw [h 66 (by decide)], fun j _ => by rw [h 58 (by decide)], fun j _ => by rw [h 0 (by decide)]⟩ ?_ (by simp [wU])
  have := H.2.2.2.2.2.2.2.1
  unfold IA at this ⊢
  rw [h 0 (by decide), h 58 (by decide)]
  exact this
/-- the reference's own store but its told numbers -/
def Fr58 (P : Nat → Prop) (I I2 : Nat → Nat → Int32) : Prop := (∀ c, c ≠ 58 → I2 c = I c) ∧ (∀ j, ¬ P j → I2 58 j = I 58 j)
theorem Fr58_refl {P : Nat → Prop} : Fr58 P I I := ⟨fun _ _ => rfl, fun _ _ => rfl⟩
theorem Fr58_trans {P : Nat → Prop} (h : Fr58 P I I2) (h2 : Fr58 P I2 I3) : Fr58 P I I3 := ⟨fun c hc => (h2.1 c hc).trans (h.1 c hc), fun j hj => (h2.2 j hj).trans (h.2 j hj)⟩
theorem LIV_58 (h : Fr58 (fun j => j = 29 ∨ j = 30) I I2) : LIV I I2 := ⟨fun k hk => h.1 k (by omega), fun i _ => by rw [h.1 66 (by decide)], fun j hj => h.2 j (by omega), fun j _ => by rw [h.1 0 (by decide)]⟩
theorem INV_said58 (H : INV I J t dr G T v bk pre ss) {q : Int32} (h : Fr58 (fun j => j = 29 ∨ j = 30) (xi_up I 0 14 q) I4) : INV (xi_up I4 58 2 q) J t dr G T v bk pre ss := INV_said H (LIV_58 h) (by rw [h.1 0 (by decide), xu_eq])
theorem MT_58 (h : Fr58 (fun j => j = 29 ∨ j = 30) I I2) (hM : MT I T) : MT I2 T := MT_fr hM (h.2 10 (by omega)) (h.2 11 (by omega)) (h.1 65 (by decide))
theorem m_worthU (hM : MT I T) {x u : Nat} (hx : x < tN T) (hu : u ≤ tH T) (hq : ∀ I2 : Nat → Nat → Int32, Fr58 (fun j => j = 29 ∨ j = 30) I I2 → I2 58 29 = glI (wto T (tH T - u) x) → Q (some (.int (nI (wor T (tH T - u) x)))) (wS, I2, J, wP t dr G)) : xr scr (d + 9) xc_222 0 [some (.ref 58), some (.int (nI x)), some (.int (nI u)), none, none, none, none, none] [] (wS, I, J, wP t dr G) Q := by
  have hh5 := MT_h hM
  obtain ⟨k, hk⟩ : ∃ k, k = tH T - u := ⟨_, rfl⟩
  have := m_worthOf (scr := scr) (d := d + 5 - k) (J := J) (t := t) (dr := dr) (G := G) (T := T) k x I Q hM hx (by omega) (fun I2 f2 g2 h2 => by rw [hk] at h2 ⊢; exact hq I2 ⟨f2, fun j hj => g2 j (by omega)⟩ h2)
  rw [show d + 5 - k + k + 4 = d + 9 by omega, show tH T - k = u by omega] at this
  exact this
theorem k_worth (H : INV I J t dr G T v bk pre ss) {x y : Int32} : xr scr (d + 20) xc_102 0 [some (.ref 0), some (.int x), some (.int y)] [] (wS, I, J, wP t dr G) (AN scr (d + 20) xc_220 [some (.ref 58), some (.int x), some (.int y), none]) := by
  have ht := H.1.1
  have ht' : t = 15 ∨ t = 20 := ht
  have hT := H.1.2.2.2.1
  have hM := H.1.2.2.2.2.1
  have hn := TR_n hT.1
  have hh5 := TR_h hT.1
  by_cases hx : rng x (tN T) = true
  · by_cases hy : rng y (tH T + 1) = true
    · obtain ⟨x, hx1, rfl⟩ := rng_of hx (by omega)
      obtain ⟨u, hu1, rfl⟩ := rng_of hy (by omega)
      have hu : u ≤ tH T := by omega
      rw [xs_102_0 ht]
      simp (disch := first | assumption | omega | decide | exact vp_in_nI (by omega) (by omega) | exact and1_bN _ | (simp only [pk_mul, nI_add, pred_s]; exact vp_in_nI (by omega) (by omega))) only [c_isOne ht hT.1, c_isMoment ht hT.1, Option.toList_some, Option.toList_none, List.cons_append, List.nil_append, List.append_nil, xs_102_4, xs_102_5, xs_102_9, Bool.false_eq_true, nI_add, pk_mul, nI_ltI, nI_eq, z_eq, z_lt, z_gt, z_bN, bN_z, bN_p, bN_i1, nI_clamp, rng_nI, ↓reduceIte, if_true, if_false, not_true_eq_false, not_false_eq_true, true_and, and_true, and_self, false_and, and_false, hx1, hu1]
      rw [xs_102_12]
      refine c_settleV (d := d + 15) ht hT hu (fun I2 f2 w2 => ?_)
      have H2 := INV_45 H f2
      have hT2 := H2.1.2.2.2.1
      simp (disch := first | assumption | omega | decide | exact vp_in_nI (by omega) (by omega) | exact and1_bN _ | (simp only [pk_mul, nI_add, pred_s]; exact vp_in_nI (by omega) (by omega))) only [Option.toList_some, Option.toList_none, List.cons_append, List.nil_append, List.append_nil]
      rw [xs_102_18, c_bestTaker (d := d + 16) ht wU_eq hT2 hx1 hu (fun h => w2 (u + 1) (by omega) (by omega))]
      simp (disch := first | assumption | omega | decide | exact vp_in_nI (by omega) (by omega) | exact and1_bN _ | (simp only [pk_mul, nI_add, pred_s]; exact vp_in_nI (by omega) (by omega))) only [Option.toList_some, Option.toList_none, List.cons_append, List.nil_append, List.append_nil]
      obtain ⟨q, hq⟩ : ∃ q, q = glI (wto T (tH T - u) x) := ⟨_, rfl⟩
      rw [← hq]
      have hc : ∀ k, k ≠ 0 → xi_up I2 0 14 q k = I2 k := fun k hk => xu_fr hk
      have hT3 : TT (xi_up I2 0 14 q) t T := TT_fr hT2 (hc _ (by omega)) (hc _ (by omega)) (hc _ (by omega)) (hc _ (by omega)) (hc _ (by omega))
      have w3 : WT (xi_up I2 0 14 q) T u := by
        have := w2 u (Nat.le_refl _) hu
        unfold WT at this ⊢
        rw [hc 45 (by decide)]
        exact this
      rw [xs_102_24, c_valueTo (d := d + 18) ht wU_eq hT3.1 hx1 hu w3]
      simp (disch := first | assumption | omega | decide | exact vp_in_nI (by omega) (by omega) | exact and1_bN _ | (simp only [pk_mul, nI_add, pred_s]; exact vp_in_nI (by omega) (by omega))) only [Option.toList_some, Option.toList_none, List.cons_append, List.nil_append, List.append_nil, xs_102_30]
      refine AN_i ?_
      obtain ⟨m1, m2, m3⟩ := INV_m (I3 := xi_up I2 0 14 q) H2 (fun k a b => xu_fr a)
      simp (disch := first | assumption | omega | decide | exact vp_in_nI (by omega) (by omega) | exact and1_bN _ | (simp only [pk_mul, nI_add, pred_s]; exact vp_in_nI (by omega) (by omega))) only [xs_220_0, m_isOne m1, m_isTime m1, Option.toList_some, Option.toList_none, List.cons_append, List.nil_append, List.append_nil, xs_220_3, xs_220_4, xs_220_7, Bool.false_eq_true, nI_add, pk_mul, nI_ltI, nI_eq, z_eq, z_lt, z_gt, z_bN, bN_z, bN_p, bN_i1, nI_clamp, rng_nI, ↓reduceIte, if_true, if_false, not_true_eq_false, not_false_eq_true, true_and, and_true, and_self, false_and, and_false, hx1, hu1]
      rw [xs_220_10]
      refine m_worthU (d := d + 10) m1 hx1 hu (fun I4 f4 h4 => ?_)
      simp (disch := first | assumption | omega | decide | exact vp_in_nI (by omega) (by omega) | exact and1_bN _ | (simp only [pk_mul, nI_add, pred_s]; exact vp_in_nI (by omega) (by omega))) only [Option.toList_some, Option.toList_none, List.cons_append, List.nil_append, List.append_nil, xs_220_14, h4, m_say, xs_220_20]
      rw [← hq]
      have H5 := INV_said58 H2 f4
      first | exact PST_i H5 | exact ⟨trivial, PST_i H5⟩ | exact ⟨rfl, PST_i H5⟩
    · simp (disch := first | assumption | omega | decide | exact vp_in_nI (by omega) (by omega) | exact and1_bN _ | (simp only [pk_mul, nI_add, pred_s]; exact vp_in_nI (by omega) (by omega))) only [xs_102_0, xs_102_4, xs_102_5, xs_102_9, xs_102_10, c_isOne ht hT.1, c_isMoment ht hT.1, Option.toList_some, Option.toList_none, List.cons_append, List.nil_append, List.append_nil, Bool.false_eq_true, nI_add, pk_mul, nI_ltI, nI_eq, z_eq, z_lt, z_gt, z_bN, bN_z, bN_p, bN_i1, nI_clamp, rng_nI, ↓reduceIte, if_true, if_false, not_true_eq_false, not_false_eq_true, true_and, and_true, and_self, false_and, and_false, hx, hy]
      refine AN_i ?_
      simp (disch := first | assumption | omega | decide | exact vp_in_nI (by omega) (by omega) | exact and1_bN _ | (simp only [pk_mul, nI_add, pred_s]; exact vp_in_nI (by omega) (by omega))) only [xs_220_0, xs_220_3, xs_220_4, xs_220_7, xs_220_8, m_isOne hM, m_isTime hM, Option.toList_some, Option.toList_none, List.cons_append, List.nil_append, List.append_nil, Bool.false_eq_true, nI_add, pk_mul, nI_ltI, nI_eq, z_eq, z_lt, z_gt, z_bN, bN_z, bN_p, bN_i1, nI_clamp, rng_nI, ↓reduceIte, if_true, if_false, not_true_eq_false, not_false_eq_true, true_and, and_true, and_self, false_and, and_false, hx, hy]
      first | exact PST_i H | exact ⟨trivial, PST_i H⟩ | exact ⟨rfl, PST_i H⟩
  · simp (disch := first | assumption | omega | decide | exact vp_in_nI (by omega) (by omega) | exact and1_bN _ | (simp only [pk_mul, nI_add, pred_s]; exact vp_in_nI (by omega) (by omega))) only [xs_102_0, xs_102_4, xs_102_10, c_isOne ht hT.1, Option.toList_some, Option.toList_none, List.cons_append, List.nil_append, List.append_nil, Bool.false_eq_true, nI_add, pk_mul, nI_ltI, nI_eq, z_eq, z_lt, z_gt, z_bN, bN_z, bN_p, bN_i1, nI_clamp, rng_nI, ↓reduceIte, if_true, if_false, not_true_eq_false, not_false_eq_true, true_and, and_true, and_self, false_and, and_false, hx]
    refine AN_i ?_
    simp (disch := first | assumption | omega | decide | exact vp_in_nI (by omega) (by omega) | exact and1_bN _ | (simp only [pk_mul, nI_add, pred_s]; exact vp_in_nI (by omega) (by omega))) only [xs_220_0, xs_220_3, xs_220_8, m_isOne hM, Option.toList_some, Option.toList_none, List.cons_append, List.nil_append, List.append_nil, Bool.false_eq_true, nI_add, pk_mul, nI_ltI, nI_eq, z_eq, z_lt, z_gt, z_bN, bN_z, bN_p, bN_i1, nI_clamp, rng_nI, ↓reduceIte, if_true, if_false, not_true_eq_false, not_false_eq_true, true_and, and_true, and_self, false_and, and_false, hx]
    first | exact PST_i H | exact ⟨trivial, PST_i H⟩ | exact ⟨rfl, PST_i H⟩
theorem k_best (H : INV I J t dr G T v bk pre ss) {x : Int32} : xr scr (d + 20) xc_109 0 [some (.ref 0), some (.int x), none, none] [] (wS, I, J, wP t dr G) (AN scr (d + 20) xc_223 [some (.ref 58), some (.int x), none, none, none, none]) := by
  have ht := H.1.1
  have ht' : t = 15 ∨ t = 20 := ht
  have hT := H.1.2.2.2.1
  have hM := H.1.2.2.2.2.1
  have hn := TR_n hT.1
  have hh5 := TR_h hT.1
  by_cases hx : rng x (tH T + 1) = true
  · by_cases h0 : tN T = 0
    · simp (disch := first | assumption | omega | decide | exact vp_in_nI (by omega) (by omega) | exact and1_bN _ | (simp only [pk_mul, nI_add, pred_s]; exact vp_in_nI (by omega) (by omega))) only [xs_109_0, xs_109_4, c_isMoment ht hT.1, Option.toList_some, Option.toList_none, List.cons_append, List.nil_append, List.append_nil, Bool.false_eq_true, nI_add, pk_mul, nI_ltI, nI_eq, z_eq, z_lt, z_gt, z_bN, bN_z, bN_p, bN_i1, nI_clamp, rng_nI, ↓reduceIte, if_true, if_false, not_true_eq_false, not_false_eq_true, true_and, and_true, and_self, false_and, and_false, hx]
      rw [xs_109_7 ht, TR_1 hT.1, h0, if_pos nI_0, xs_109_11]
      refine AN_i ?_
      have e10 : I 58 10 = nI 0 := by rw [MT_10 hM, h0]
      simp (disch := first | assumption | omega | decide | exact vp_in_nI (by omega) (by omega) | exact and1_bN _ | (simp only [pk_mul, nI_add, pred_s]; exact vp_in_nI (by omega) (by omega))) only [xs_223_0, xs_223_3, m_isTime hM, Option.toList_some, Option.toList_none, List.cons_append, List.nil_append, List.append_nil, Bool.false_eq_true, nI_add, pk_mul, nI_ltI, nI_eq, z_eq, z_lt, z_gt, z_bN, bN_z, bN_p, bN_i1, nI_clamp, rng_nI, ↓reduceIte, if_true, if_false, not_true_eq_false, not_false_eq_true, true_and, and_true, and_self, false_and, and_false, hx, xs_223_6, e10, xs_223_9]
      first | exact PST_i H | exact ⟨trivial, PST_i H⟩ | exact ⟨rfl, PST_i H⟩
    · obtain ⟨u, hu1, rfl⟩ := rng_of hx (by omega)
      have hu : u ≤ tH T := by omega
      obtain ⟨m, hm⟩ : ∃ m, tN T = m + 1 := ⟨tN T - 1, by omega⟩
      obtain ⟨f, hf⟩ : ∃ f : Nat → Nat, f = fun x => wor T (tH T - u) x := ⟨_, rfl⟩
      have hfe : ∀ x, wor T (tH T - u) x = f x := fun x => by rw [hf]
      have hfl31 : ∀ x, f x < 2 ^ 31 := fun x => by have := wor_le T (tH T - u) x; rw [hfe] at this; omega
      simp (disch := first | assumption | omega | decide | exact vp_in_nI (by omega) (by omega) | exact and1_bN _ | (simp only [pk_mul, nI_add, pred_s]; exact vp_in_nI (by omega) (by omega))) only [xs_109_0, xs_109_4, c_isMoment ht hT.1, Option.toList_some, Option.toList_none, List.cons_append, List.nil_append, List.append_nil, Bool.false_eq_true, nI_add, pk_mul, nI_ltI, nI_eq, z_eq, z_lt, z_gt, z_bN, bN_z, bN_p, bN_i1, nI_clamp, rng_nI, ↓reduceIte, if_true, if_false, not_true_eq_false, not_false_eq_true, true_and, and_true, and_self, false_and, and_false, hu1]
      rw [xs_109_7 ht, TR_1 hT.1]
      simp (disch := first | assumption | omega | decide | exact vp_in_nI (by omega) (by omega) | exact and1_bN _ | (simp only [pk_mul, nI_add, pred_s]; exact vp_in_nI (by omega) (by omega))) only [Bool.false_eq_true, nI_add, pk_mul, nI_ltI, nI_eq, z_eq, z_lt, z_gt, z_bN, bN_z, bN_p, bN_i1, nI_clamp, rng_nI, ↓reduceIte, if_true, if_false, not_true_eq_false, not_false_eq_true, true_and, and_true, and_self, false_and, and_false, h0]
      rw [xs_109_13]
      refine c_settleV (d := d + 15) ht hT hu (fun I2 f2 w2 => ?_)
      have H2 := INV_45 H f2
      have hT2 := H2.1.2.2.2.1
      simp (disch := first | assumption | omega | decide | exact vp_in_nI (by omega) (by omega) | exact and1_bN _ | (simp only [pk_mul, nI_add, pred_s]; exact vp_in_nI (by omega) (by omega))) only [Option.toList_some, Option.toList_none, List.cons_append, List.nil_append, List.append_nil]
      rw [xs_109_19]
      have cl : ∀ y, y < tN T → ∀ Q, xr scr (d + 19) xc_107 0 [some (.ref 44), some (.int (nI y)), some (.int (nI u))] [] (wS, I2, J, wP t dr (wU 44 t G)) Q = Q (some (.int (nI (f y)))) (wS, I2, J, wP t dr (wU 44 t G)) := fun y hy Q => by
        rw [← hfe]
        exact c_valueTo (d := d + 18) ht wU_eq hT2.1 hy hu (w2 u (Nat.le_refl _) hu)
      refine up_0 (P := fun k => xr scr (d + 20) xc_109 23 [some (.ref 0), some (.int (nI u)), some (.int (nI (amx f k))), some (.int (nI (k + 1)))] [] (wS, I2, J, wP t dr (wU 44 t G)) (AN scr (d + 20) xc_223 [some (.ref 58), some (.int (nI u)), none, none, none, none])) m (fun k hk h => ?_) ?_
      · have hk1 : k + 1 < tN T := by omega
        have ha := amx_le f k
        have ha7 : amx f k < tN T := by omega
        have hf1 := hfl31 (k + 1)
        have hf2 := hfl31 (amx f k)
        rw [xs_109_23 ht, TR_1 hT2.1]
        simp (disch := first | assumption | omega | decide | exact vp_in_nI (by omega) (by omega) | exact and1_bN _ | (simp only [pk_mul, nI_add, pred_s]; exact vp_in_nI (by omega) (by omega))) only [Bool.false_eq_true, nI_add, pk_mul, nI_ltI, nI_eq, z_eq, z_lt, z_gt, z_bN, bN_z, bN_p, bN_i1, nI_clamp, rng_nI, ↓reduceIte, if_true, if_false, not_true_eq_false, not_false_eq_true, true_and, and_true, and_self, false_and, and_false, hk1, xs_109_28, cl, Option.toList_some, Option.toList_none, List.cons_append, List.nil_append, List.append_nil, xs_109_33, xs_109_38, ha7, xs_109_39, xs_109_41]
        rw [show amx f (k + 1) = if f (amx f k) < f (k + 1) then k + 1 else amx f k from rfl] at h
        by_cases e : f (amx f k) < f (k + 1)
        · rw [if_pos e] at h ⊢
          exact h
        · rw [if_neg e] at h ⊢
          exact h
      · have ha := amx_le f m
        have ha7 : amx f m < tN T := by omega
        rw [xs_109_23 ht, TR_1 hT2.1, hm]
        simp (disch := first | assumption | omega | decide | exact vp_in_nI (by omega) (by omega) | exact and1_bN _ | (simp only [pk_mul, nI_add, pred_s]; exact vp_in_nI (by omega) (by omega))) only [Bool.false_eq_true, nI_add, pk_mul, nI_ltI, nI_eq, z_eq, z_lt, z_gt, z_bN, bN_z, bN_p, bN_i1, nI_clamp, rng_nI, ↓reduceIte, if_true, if_false, not_true_eq_false, not_false_eq_true, true_and, and_true, and_self, false_and, and_false, Nat.lt_irrefl, xs_109_43, cl, Option.toList_some, Option.toList_none, List.cons_append, List.nil_append, List.append_nil, ha7, xs_109_49]
        refine AN_i ?_
        obtain ⟨m1, m2, m3⟩ := INV_m (I3 := xi_up I2 0 14 (nI (f (amx f m)))) H2 (fun k a b => xu_fr a)
        have h10 : ¬ m + 1 = 0 := by omega
        simp (disch := first | assumption | omega | decide | exact vp_in_nI (by omega) (by omega) | exact and1_bN _ | (simp only [pk_mul, nI_add, pred_s]; exact vp_in_nI (by omega) (by omega))) only [xs_223_0, xs_223_3, m_isTime m1, Option.toList_some, Option.toList_none, List.cons_append, List.nil_append, List.append_nil, Bool.false_eq_true, nI_add, pk_mul, nI_ltI, nI_eq, z_eq, z_lt, z_gt, z_bN, bN_z, bN_p, bN_i1, nI_clamp, rng_nI, ↓reduceIte, if_true, if_false, not_true_eq_false, not_false_eq_true, true_and, and_true, and_self, false_and, and_false, hu1, xs_223_6, MT_10 m1, hm, h10]
        rw [xs_223_11]
        have stp : ∀ (I4 : Nat → Nat → Int32) (k a : Nat) (le : Int32), Fr58 (fun j => j = 29 ∨ j = 30) (xi_up I2 0 14 (nI (f (amx f m)))) I4 → k < tN T → (∀ I5 o, Fr58 (fun j => j = 29 ∨ j = 30) (xi_up I2 0 14 (nI (f (amx f m)))) I5 → xr scr (d + 20) xc_223 17 [some (.ref 58), some (.int (nI u)), some (.int (nI (if le < nI (f k) then k else a))), some (.int (if le < nI (f k) then nI (f k) else le)), some (.int (nI (k + 1))), o] [] (wS, I5, J, wP t dr (wU 44 t G)) (fun r2 S2 => r2 = some (.int (nI (amx f m))) ∧ PST S2)) → ∀ o : Option Value, xr scr (d + 20) xc_223 17 [some (.ref 58), some (.int (nI u)), some (.int (nI a)), some (.int le), some (.int (nI k)), o] [] (wS, I4, J, wP t dr (wU 44 t G)) (fun r2 S2 => r2 = some (.int (nI (amx f m))) ∧ PST S2) := by
          intro I4 k a le f4 hk h o
          have hM4 := MT_58 f4 m1
          have hk31 : k < 2 ^ 31 := by omega
          have hfk := hfl31 k
          rw [xs_223_17, MT_10 hM4]
          simp (disch := first | assumption | omega | decide | exact vp_in_nI (by omega) (by omega) | exact and1_bN _ | (simp only [pk_mul, nI_add, pred_s]; exact vp_in_nI (by omega) (by omega))) only [Bool.false_eq_true, nI_add, pk_mul, nI_ltI, nI_eq, z_eq, z_lt, z_gt, z_bN, bN_z, bN_p, bN_i1, nI_clamp, rng_nI, ↓reduceIte, if_true, if_false, not_true_eq_false, not_false_eq_true, true_and, and_true, and_self, false_and, and_false, hk]
          rw [xs_223_21]
          refine m_worthU (d := d + 10) hM4 hk hu (fun I5 f5 h5 => ?_)
          rw [hfe]
          simp (disch := first | assumption | omega | decide | exact vp_in_nI (by omega) (by omega) | exact and1_bN _ | (simp only [pk_mul, nI_add, pred_s]; exact vp_in_nI (by omega) (by omega))) only [Option.toList_some, Option.toList_none, List.cons_append, List.nil_append, List.append_nil, xs_223_25, xs_223_29, xs_223_31, xs_223_32, xs_223_36, xs_223_38, xs_223_39, Bool.false_eq_true, nI_add, pk_mul, nI_ltI, nI_eq, z_eq, z_lt, z_gt, z_bN, bN_z, bN_p, bN_i1, nI_clamp, rng_nI, ↓reduceIte, if_true, if_false, not_true_eq_false, not_false_eq_true, true_and, and_true, and_self, false_and, and_false]
          have hh := h I5 (some (.int (nI (f k)))) (Fr58_trans f4 f5)
          by_cases e : le < nI (f k)
          · simp only [if_pos e] at hh ⊢
            exact hh
          · simp only [if_neg e] at hh ⊢
            exact hh
        refine stp _ 0 0 (-1) Fr58_refl (by omega) (fun I5 o f5 => ?_) _
        simp only [if_pos (m1_lt (hfl31 0))]
        refine up_0 (P := fun k => ∀ (I5 : Nat → Nat → Int32) o, Fr58 (fun j => j = 29 ∨ j = 30) (xi_up I2 0 14 (nI (f (amx f m)))) I5 → xr scr (d + 20) xc_223 17 [some (.ref 58), some (.int (nI u)), some (.int (nI (amx f k))), some (.int (nI (f (amx f k)))), some (.int (nI (k + 1))), o] [] (wS, I5, J, wP t dr (wU 44 t G)) (fun r2 S2 => r2 = some (.int (nI (amx f m))) ∧ PST S2)) m (fun k hk h I5 o f5 => ?_) (fun I5 o f5 => ?_) I5 o f5
        · have hf1 := hfl31 (k + 1)
          have hf2 := hfl31 (amx f k)
          refine stp I5 (k + 1) _ _ f5 (by omega) (fun I6 o f6 => ?_) _
          have hh := h I6 o f6
          rw [show amx f (k + 1) = if f (amx f k) < f (k + 1) then k + 1 else amx f k from rfl] at hh
          simp only [nI_ltI hf2 hf1]
          by_cases e : f (amx f k) < f (k + 1)
          · simp only [if_pos e] at hh ⊢
            exact hh
          · simp only [if_neg e] at hh ⊢
            exact hh
        · have hM5 := MT_58 f5 m1
          rw [xs_223_17, MT_10 hM5, hm]
          simp (disch := first | assumption | omega | decide | exact vp_in_nI (by omega) (by omega) | exact and1_bN _ | (simp only [pk_mul, nI_add, pred_s]; exact vp_in_nI (by omega) (by omega))) only [Bool.false_eq_true, nI_add, pk_mul, nI_ltI, nI_eq, z_eq, z_lt, z_gt, z_bN, bN_z, bN_p, bN_i1, nI_clamp, rng_nI, ↓reduceIte, if_true, if_false, not_true_eq_false, not_false_eq_true, true_and, and_true, and_self, false_and, and_false, Nat.lt_irrefl, xs_223_42, m_say, Option.toList_some, Option.toList_none, List.cons_append, List.nil_append, List.append_nil, xs_223_46]
          have H5 := INV_said58 H2 f5
          first | exact PST_i H5 | exact ⟨trivial, PST_i H5⟩ | exact ⟨rfl, PST_i H5⟩
  · simp (disch := first | assumption | omega | decide | exact vp_in_nI (by omega) (by omega) | exact and1_bN _ | (simp only [pk_mul, nI_add, pred_s]; exact vp_in_nI (by omega) (by omega))) only [xs_109_0, xs_109_4, xs_109_5, c_isMoment ht hT.1, Option.toList_some, Option.toList_none, List.cons_append, List.nil_append, List.append_nil, Bool.false_eq_true, nI_add, pk_mul, nI_ltI, nI_eq, z_eq, z_lt, z_gt, z_bN, bN_z, bN_p, bN_i1, nI_clamp, rng_nI, ↓reduceIte, if_true, if_false, not_true_eq_false, not_false_eq_true, true_and, and_true, and_self, false_and, and_false, hx]
    refine AN_i ?_
    simp (disch := first | assumption | omega | decide | exact vp_in_nI (by omega) (by omega) | exact and1_bN _ | (simp only [pk_mul, nI_add, pred_s]; exact vp_in_nI (by omega) (by omega))) only [xs_223_0, xs_223_3, xs_223_4, m_isTime hM, Option.toList_some, Option.toList_none, List.cons_append, List.nil_append, List.append_nil, Bool.false_eq_true, nI_add, pk_mul, nI_ltI, nI_eq, z_eq, z_lt, z_gt, z_bN, bN_z, bN_p, bN_i1, nI_clamp, rng_nI, ↓reduceIte, if_true, if_false, not_true_eq_false, not_false_eq_true, true_and, and_true, and_self, false_and, and_false, hx]
    first | exact PST_i H | exact ⟨trivial, PST_i H⟩ | exact ⟨rfl, PST_i H⟩
end WORTH
