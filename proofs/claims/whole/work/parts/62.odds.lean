/-! calls: odds, lost, send -/
theorem m1_lL {k : Nat} (h : k < 2 ^ 63) : (-1 : Int64) < lN k := by
  rw [Int64.lt_iff_toInt_lt, pk_lT h]
  have : (-1 : Int64).toInt = -1 := by decide
  omega
def frc (J : Nat → Nat → Int64) (a b : Nat) : Nat → Nat → Int64 := xi_up (xi_up J 0 15 (lN (a / Nat.gcd a b))) 0 16 (lN (b / Nat.gcd a b))
def mfr (J : Nat → Nat → Int64) (a b : Nat) : Nat → Nat → Int64 := xi_up (xi_up J 58 3 (lN (a / Nat.gcd a b))) 58 4 (lN (b / Nat.gcd a b))
def blL (g : Nat → Nat) (o : Option Nat) : Int64 := match o with
  | none => -1
  | some f => lN (g f)
def frO (J : Nat → Nat → Int64) (g : Nat → Nat) (w : Nat) (o : Option Nat) : Nat → Nat → Int64 := match o with
  | none => J
  | some f => frc J (g f) w
section ODDS
variable {scr : xi_X} {d : Nat} {Q : Option Value → xi_S → Prop} {I I2 I3 I4 : Nat → Nat → Int32} {J J2 : Nat → Nat → Int64} {t dr : Nat} {G G2 : Nat → Nat} {T : TN} {v v2 : Nat} {bk bk2 : Bool} {pre pre2 : List Nat} {ss ss2 : List SGT}
theorem INV_47 (H : INV I J t dr G T v bk pre ss) (h : ∀ k, k ≠ 47 → J2 k = J k) : INV I J2 t dr (wU 46 t G) T v bk pre ss := by
  refine INV_liv H (LIV_refl I) ?_ (by simp [wU])
  have := H.2.2.2.2.2.2.2.1
  unfold IA at this ⊢
  rw [h 0 (by decide), h 58 (by decide)]
  exact this
theorem INV_frc (H : INV I J t dr G T v bk pre ss) (a b : Nat) : INV I (mfr (frc J a b) a b) t dr G T v bk pre ss := by
  refine INV_liv H (LIV_refl I) ⟨H.2.2.2.2.2.2.2.1.1, ?_, ?_⟩ rfl
  · unfold mfr frc
    rw [xu_nc (by decide), xu_nc (by decide), xu_nj (by decide), xu_eq, xu_nj (by decide), xu_eq]
  · unfold mfr frc
    rw [xu_nc (by decide), xu_nc (by decide), xu_eq, xu_eq]
theorem m_chanceU (hM : MT I T) {x y u : Nat} (hx : x < tN T) (hy : y < tN T) (hu : u ≤ tH T) : xr scr (d + 10) xc_239 0 [some (.ref 58), some (.int (nI x)), some (.int (nI u)), some (.int (nI y)), none, none, none, none] [] (wS, I, J, wP t dr G) Q = Q (some (.long (lN (chn T (some y) (tH T - u) x)))) (wS, I, J, wP t dr G) := by
  have hh5 := MT_h hM
  obtain ⟨k, hk⟩ : ∃ k, k = tH T - u := ⟨_, rfl⟩
  have := m_chanceOf (scr := scr) (d := d + 5 - k) (I := I) (J := J) (t := t) (dr := dr) (G := G) (T := T) hM hy k x Q hx (by omega)
  rw [show d + 5 - k + k + 5 = d + 10 by omega, show tH T - k = u by omega, hk] at this
  exact this
theorem k_odds (H : INV I J t dr G T v bk pre ss) {x y z : Int32} : xr scr (d + 20) xc_125 0 [some (.ref 0), some (.int x), some (.int y), some (.int z)] [] (wS, I, J, wP t dr G) (AN scr (d + 20) xc_238 [some (.ref 58), some (.int x), some (.int y), some (.int z)]) := by
  have ht := H.1.1
  have hT := H.1.2.2.2.1
  have hM := H.1.2.2.2.2.1
  have hn := TR_n hT.1
  have hh5 := TR_h hT.1
  by_cases hb : rng x (tN T) = true ∧ rng z (tN T) = true ∧ rng y (tH T + 1) = true
  · obtain ⟨hx, hz, hy⟩ := hb
    obtain ⟨x, hx1, rfl⟩ := rng_of hx (by omega)
    obtain ⟨z, hz1, rfl⟩ := rng_of hz (by omega)
    obtain ⟨u, hu1, rfl⟩ := rng_of hy (by omega)
    have hu : u ≤ tH T := by omega
    rw [xs_125_0 ht, c_isOne ht hT.1]
    simp (disch := first | assumption | omega | decide | exact vp_in_nI (by omega) (by omega) | exact and1_bN _ | (simp only [pk_mul, nI_add, pred_s]; exact vp_in_nI (by omega) (by omega))) only [Option.toList_some, Option.toList_none, List.cons_append, List.nil_append, List.append_nil, xs_125_4, Bool.false_eq_true, nI_add, pk_mul, nI_ltI, nI_eq, z_eq, z_lt, z_gt, z_bN, bN_z, bN_p, bN_i1, nI_clamp, rng_nI, ↓reduceIte, if_true, if_false, not_true_eq_false, not_false_eq_true, true_and, and_true, and_self, false_and, and_false, hx1]
    rw [xs_125_5 ht, c_isMoment ht hT.1]
    simp (disch := first | assumption | omega | decide | exact vp_in_nI (by omega) (by omega) | exact and1_bN _ | (simp only [pk_mul, nI_add, pred_s]; exact vp_in_nI (by omega) (by omega))) only [Option.toList_some, Option.toList_none, List.cons_append, List.nil_append, List.append_nil, xs_125_9, Bool.false_eq_true, nI_add, pk_mul, nI_ltI, nI_eq, z_eq, z_lt, z_gt, z_bN, bN_z, bN_p, bN_i1, nI_clamp, rng_nI, ↓reduceIte, if_true, if_false, not_true_eq_false, not_false_eq_true, true_and, and_true, and_self, false_and, and_false, hu1]
    rw [xs_125_10 ht, c_isOne ht hT.1]
    simp (disch := first | assumption | omega | decide | exact vp_in_nI (by omega) (by omega) | exact and1_bN _ | (simp only [pk_mul, nI_add, pred_s]; exact vp_in_nI (by omega) (by omega))) only [Option.toList_some, Option.toList_none, List.cons_append, List.nil_append, List.append_nil, xs_125_14, Bool.false_eq_true, nI_add, pk_mul, nI_ltI, nI_eq, z_eq, z_lt, z_gt, z_bN, bN_z, bN_p, bN_i1, nI_clamp, rng_nI, ↓reduceIte, if_true, if_false, not_true_eq_false, not_false_eq_true, true_and, and_true, and_self, false_and, and_false, hz1]
    rw [xs_125_17]
    refine c_settleC (gl := some z) (d := d + 16) ht hT (fun y h => by injection h with h; omega) hu (fun J2 f2 C2 => ?_)
    have H2 := INV_47 H f2
    have hc := chn_le T (some z) (tH T - u) x
    have hp := p60 (k := tH T - u) (by omega)
    have hp0 : 0 < 60 ^ (tH T - u) := Nat.pow_pos (by decide)
    simp (disch := first | assumption | omega | decide | exact vp_in_nI (by omega) (by omega) | exact and1_bN _ | (simp only [pk_mul, nI_add, pred_s]; exact vp_in_nI (by omega) (by omega))) only [Option.toList_some, Option.toList_none, List.cons_append, List.nil_append, List.append_nil, xs_125_24]
    rw [c_shareOf (gl := some z) (d := d + 18) ht wU_eq hT.1 hx1 hu (C2 u (Nat.le_refl _) hu)]
    simp (disch := first | assumption | omega | decide | exact vp_in_nI (by omega) (by omega) | exact and1_bN _ | (simp only [pk_mul, nI_add, pred_s]; exact vp_in_nI (by omega) (by omega))) only [Option.toList_some, Option.toList_none, List.cons_append, List.nil_append, List.append_nil, xs_125_30]
    rw [c_whole ht wU_eq hT.1 hu]
    simp (disch := first | assumption | omega | decide | exact vp_in_nI (by omega) (by omega) | exact and1_bN _ | (simp only [pk_mul, nI_add, pred_s]; exact vp_in_nI (by omega) (by omega))) only [Option.toList_some, Option.toList_none, List.cons_append, List.nil_append, List.append_nil, xs_125_34]
    rw [c_tellFraction (d := d + 18) (by omega) (by omega) hp0]
    simp (disch := first | assumption | omega | decide | exact vp_in_nI (by omega) (by omega) | exact and1_bN _ | (simp only [pk_mul, nI_add, pred_s]; exact vp_in_nI (by omega) (by omega))) only [Option.toList_some, Option.toList_none, List.cons_append, List.nil_append, List.append_nil, xs_125_35]
    refine AN_i ?_
    simp (disch := first | assumption | omega | decide | exact vp_in_nI (by omega) (by omega) | exact and1_bN _ | (simp only [pk_mul, nI_add, pred_s]; exact vp_in_nI (by omega) (by omega))) only [xs_238_0, m_areTwo hM, Option.toList_some, Option.toList_none, List.cons_append, List.nil_append, List.append_nil, xs_238_4, Bool.false_eq_true, nI_add, pk_mul, nI_ltI, nI_eq, z_eq, z_lt, z_gt, z_bN, bN_z, bN_p, bN_i1, nI_clamp, rng_nI, ↓reduceIte, if_true, if_false, not_true_eq_false, not_false_eq_true, true_and, and_true, and_self, false_and, and_false, hx1, hz1, xs_238_5, m_isTime hM, xs_238_8, hu1, xs_238_11]
    rw [m_chanceU (d := d + 9) hM hx1 hz1 hu]
    simp (disch := first | assumption | omega | decide | exact vp_in_nI (by omega) (by omega) | exact and1_bN _ | (simp only [pk_mul, nI_add, pred_s]; exact vp_in_nI (by omega) (by omega))) only [Option.toList_some, Option.toList_none, List.cons_append, List.nil_append, List.append_nil, xs_238_17, m_wholeFrom hM hu, xs_238_20]
    rw [m_part (by omega) (by omega) hp0]
    simp (disch := first | assumption | omega | decide | exact vp_in_nI (by omega) (by omega) | exact and1_bN _ | (simp only [pk_mul, nI_add, pred_s]; exact vp_in_nI (by omega) (by omega))) only [Option.toList_some, Option.toList_none, List.cons_append, List.nil_append, List.append_nil, xs_238_22]
    have H5 := INV_frc H2 (chn T (some z) (tH T - u) x) (60 ^ (tH T - u))
    first | exact PST_i H5 | exact ⟨trivial, PST_i H5⟩ | exact ⟨rfl, PST_i H5⟩
  · have mbad : AN scr (d + 20) xc_238 [some (.ref 58), some (.int x), some (.int y), some (.int z)] (some (.int (-1))) (wS, I, J, wP t dr G) := by
      refine AN_i ?_
      simp (disch := first | assumption | omega | decide | exact vp_in_nI (by omega) (by omega) | exact and1_bN _ | (simp only [pk_mul, nI_add, pred_s]; exact vp_in_nI (by omega) (by omega))) only [xs_238_0, m_areTwo hM, Option.toList_some, Option.toList_none, List.cons_append, List.nil_append, List.append_nil, xs_238_4, Bool.false_eq_true, nI_add, pk_mul, nI_ltI, nI_eq, z_eq, z_lt, z_gt, z_bN, bN_z, bN_p, bN_i1, nI_clamp, rng_nI, ↓reduceIte, if_true, if_false, not_true_eq_false, not_false_eq_true, true_and, and_true, and_self, false_and, and_false]
      by_cases h1 : rng x (tN T) = true ∧ rng z (tN T) = true
      · have hy : ¬ rng y (tH T + 1) = true := fun h => hb ⟨h1.1, h1.2, h⟩
        simp (disch := first | assumption | omega | decide | exact vp_in_nI (by omega) (by omega) | exact and1_bN _ | (simp only [pk_mul, nI_add, pred_s]; exact vp_in_nI (by omega) (by omega))) only [h1.1, h1.2, Bool.false_eq_true, nI_add, pk_mul, nI_ltI, nI_eq, z_eq, z_lt, z_gt, z_bN, bN_z, bN_p, bN_i1, nI_clamp, rng_nI, ↓reduceIte, if_true, if_false, not_true_eq_false, not_false_eq_true, true_and, and_true, and_self, false_and, and_false, xs_238_5, m_isTime hM, Option.toList_some, Option.toList_none, List.cons_append, List.nil_append, List.append_nil, xs_238_8, hy, xs_238_9]
        first | exact PST_i H | exact ⟨trivial, PST_i H⟩ | exact ⟨rfl, PST_i H⟩
      · rw [if_pos h1, xs_238_9]
        first | exact PST_i H | exact ⟨trivial, PST_i H⟩ | exact ⟨rfl, PST_i H⟩
    rw [xs_125_0 ht, c_isOne ht hT.1]
    by_cases hx : rng x (tN T) = true
    · simp (disch := first | assumption | omega | decide | exact vp_in_nI (by omega) (by omega) | exact and1_bN _ | (simp only [pk_mul, nI_add, pred_s]; exact vp_in_nI (by omega) (by omega))) only [Option.toList_some, Option.toList_none, List.cons_append, List.nil_append, List.append_nil, xs_125_4, Bool.false_eq_true, nI_add, pk_mul, nI_ltI, nI_eq, z_eq, z_lt, z_gt, z_bN, bN_z, bN_p, bN_i1, nI_clamp, rng_nI, ↓reduceIte, if_true, if_false, not_true_eq_false, not_false_eq_true, true_and, and_true, and_self, false_and, and_false, hx]
      rw [xs_125_5 ht, c_isMoment ht hT.1]
      by_cases hy : rng y (tH T + 1) = true
      · simp (disch := first | assumption | omega | decide | exact vp_in_nI (by omega) (by omega) | exact and1_bN _ | (simp only [pk_mul, nI_add, pred_s]; exact vp_in_nI (by omega) (by omega))) only [Option.toList_some, Option.toList_none, List.cons_append, List.nil_append, List.append_nil, xs_125_9, Bool.false_eq_true, nI_add, pk_mul, nI_ltI, nI_eq, z_eq, z_lt, z_gt, z_bN, bN_z, bN_p, bN_i1, nI_clamp, rng_nI, ↓reduceIte, if_true, if_false, not_true_eq_false, not_false_eq_true, true_and, and_true, and_self, false_and, and_false, hy]
        rw [xs_125_10 ht, c_isOne ht hT.1]
        have hz : ¬ rng z (tN T) = true := fun h => hb ⟨hx, h, hy⟩
        simp (disch := first | assumption | omega | decide | exact vp_in_nI (by omega) (by omega) | exact and1_bN _ | (simp only [pk_mul, nI_add, pred_s]; exact vp_in_nI (by omega) (by omega))) only [Option.toList_some, Option.toList_none, List.cons_append, List.nil_append, List.append_nil, xs_125_14, Bool.false_eq_true, nI_add, pk_mul, nI_ltI, nI_eq, z_eq, z_lt, z_gt, z_bN, bN_z, bN_p, bN_i1, nI_clamp, rng_nI, ↓reduceIte, if_true, if_false, not_true_eq_false, not_false_eq_true, true_and, and_true, and_self, false_and, and_false, hz, xs_125_15]
        exact mbad
      · simp (disch := first | assumption | omega | decide | exact vp_in_nI (by omega) (by omega) | exact and1_bN _ | (simp only [pk_mul, nI_add, pred_s]; exact vp_in_nI (by omega) (by omega))) only [Option.toList_some, Option.toList_none, List.cons_append, List.nil_append, List.append_nil, xs_125_9, Bool.false_eq_true, nI_add, pk_mul, nI_ltI, nI_eq, z_eq, z_lt, z_gt, z_bN, bN_z, bN_p, bN_i1, nI_clamp, rng_nI, ↓reduceIte, if_true, if_false, not_true_eq_false, not_false_eq_true, true_and, and_true, and_self, false_and, and_false, hy, xs_125_15]
        exact mbad
    · simp (disch := first | assumption | omega | decide | exact vp_in_nI (by omega) (by omega) | exact and1_bN _ | (simp only [pk_mul, nI_add, pred_s]; exact vp_in_nI (by omega) (by omega))) only [Option.toList_some, Option.toList_none, List.cons_append, List.nil_append, List.append_nil, xs_125_4, Bool.false_eq_true, nI_add, pk_mul, nI_ltI, nI_eq, z_eq, z_lt, z_gt, z_bN, bN_z, bN_p, bN_i1, nI_clamp, rng_nI, ↓reduceIte, if_true, if_false, not_true_eq_false, not_false_eq_true, true_and, and_true, and_self, false_and, and_false, hx, xs_125_15]
      exact mbad
theorem smg_mono (g : Nat → Nat) {m n : Nat} (h : m ≤ n) : smg g m ≤ smg g n := by
  induction n with
  | zero => rw [Nat.le_zero.mp h]; exact Nat.le_refl _
  | succ n ih =>
    by_cases e : m = n + 1
    · rw [e]; exact Nat.le_refl _
    · have := ih (by omega)
      rw [smg_s]
      omega
theorem k_lost (H : INV I J t dr G T v bk pre ss) {x y : Int32} : xr scr (d + 20) xc_132 0 [some (.ref 0), some (.int x), some (.int y)] [] (wS, I, J, wP t dr G) (AN scr (d + 20) xc_242 [some (.ref 58), some (.int x), some (.int y), none, none, none]) := by
  have ht := H.1.1
  have hT := H.1.2.2.2.1
  have hM := H.1.2.2.2.2.1
  have hn := TR_n hT.1
  have hh5 := TR_h hT.1
  by_cases hx : rng x (tN T) = true
  · by_cases hy : rng y (tH T + 1) = true
    · obtain ⟨x, hx1, rfl⟩ := rng_of hx (by omega)
      obtain ⟨u, hu1, rfl⟩ := rng_of hy (by omega)
      have hu : u ≤ tH T := by omega
      rw [xs_132_0 ht, c_isOne ht hT.1]
      simp (disch := first | assumption | omega | decide | exact vp_in_nI (by omega) (by omega) | exact and1_bN _ | (simp only [pk_mul, nI_add, pred_s]; exact vp_in_nI (by omega) (by omega))) only [Option.toList_some, Option.toList_none, List.cons_append, List.nil_append, List.append_nil, xs_132_4, Bool.false_eq_true, nI_add, pk_mul, nI_ltI, nI_eq, z_eq, z_lt, z_gt, z_bN, bN_z, bN_p, bN_i1, nI_clamp, rng_nI, ↓reduceIte, if_true, if_false, not_true_eq_false, not_false_eq_true, true_and, and_true, and_self, false_and, and_false, hx1]
      rw [xs_132_5 ht, c_isMoment ht hT.1]
      simp (disch := first | assumption | omega | decide | exact vp_in_nI (by omega) (by omega) | exact and1_bN _ | (simp only [pk_mul, nI_add, pred_s]; exact vp_in_nI (by omega) (by omega))) only [Option.toList_some, Option.toList_none, List.cons_append, List.nil_append, List.append_nil, xs_132_9, Bool.false_eq_true, nI_add, pk_mul, nI_ltI, nI_eq, z_eq, z_lt, z_gt, z_bN, bN_z, bN_p, bN_i1, nI_clamp, rng_nI, ↓reduceIte, if_true, if_false, not_true_eq_false, not_false_eq_true, true_and, and_true, and_self, false_and, and_false, hu1]
      rw [xs_132_12]
      refine c_settleC (gl := none) (d := d + 16) ht hT (fun y h => by cases h) hu (fun J2 f2 C2 => ?_)
      have H2 := INV_47 H f2
      have hc := chn_le T none (tH T - u) x
      have hp := p60 (k := tH T - u) (by omega)
      have hp0 : 0 < 60 ^ (tH T - u) := Nat.pow_pos (by decide)
      have hsum := chn_sum T hn (tH T - u) x hx1
      obtain ⟨g, hg⟩ : ∃ g : Nat → Nat, g = fun y => chn T (some y) (tH T - u) x := ⟨_, rfl⟩
      have hge : ∀ y, chn T (some y) (tH T - u) x = g y := fun y => by rw [hg]
      rw [← hg] at hsum
      simp (disch := first | assumption | omega | decide | exact vp_in_nI (by omega) (by omega) | exact and1_bN _ | (simp only [pk_mul, nI_add, pred_s]; exact vp_in_nI (by omega) (by omega))) only [Option.toList_some, Option.toList_none, List.cons_append, List.nil_append, List.append_nil, xs_132_19]
      rw [c_shareOf (gl := none) (d := d + 18) ht wU_eq hT.1 hx1 hu (C2 u (Nat.le_refl _) hu)]
      simp (disch := first | assumption | omega | decide | exact vp_in_nI (by omega) (by omega) | exact and1_bN _ | (simp only [pk_mul, nI_add, pred_s]; exact vp_in_nI (by omega) (by omega))) only [Option.toList_some, Option.toList_none, List.cons_append, List.nil_append, List.append_nil, xs_132_25]
      rw [c_whole ht wU_eq hT.1 hu]
      simp (disch := first | assumption | omega | decide | exact vp_in_nI (by omega) (by omega) | exact and1_bN _ | (simp only [pk_mul, nI_add, pred_s]; exact vp_in_nI (by omega) (by omega))) only [Option.toList_some, Option.toList_none, List.cons_append, List.nil_append, List.append_nil, xs_132_29]
      rw [c_tellFraction (d := d + 18) (by omega) (by omega) hp0]
      simp (disch := first | assumption | omega | decide | exact vp_in_nI (by omega) (by omega) | exact and1_bN _ | (simp only [pk_mul, nI_add, pred_s]; exact vp_in_nI (by omega) (by omega))) only [Option.toList_some, Option.toList_none, List.cons_append, List.nil_append, List.append_nil, xs_132_30]
      refine AN_i ?_
      simp (disch := first | assumption | omega | decide | exact vp_in_nI (by omega) (by omega) | exact and1_bN _ | (simp only [pk_mul, nI_add, pred_s]; exact vp_in_nI (by omega) (by omega))) only [xs_242_0, m_isOne hM, Option.toList_some, Option.toList_none, List.cons_append, List.nil_append, List.append_nil, xs_242_3, Bool.false_eq_true, nI_add, pk_mul, nI_ltI, nI_eq, z_eq, z_lt, z_gt, z_bN, bN_z, bN_p, bN_i1, nI_clamp, rng_nI, ↓reduceIte, if_true, if_false, not_true_eq_false, not_false_eq_true, true_and, and_true, and_self, false_and, and_false, hx1, xs_242_4, m_isTime hM, xs_242_7, hu1, xs_242_10, m_wholeFrom hM hu, xs_242_13]
      obtain ⟨J3, hJ3⟩ : ∃ J3, J3 = xi_up (xi_up J2 0 15 (lN (chn T none (tH T - u) x / Nat.gcd (chn T none (tH T - u) x) (60 ^ (tH T - u))))) 0 16 (lN (60 ^ (tH T - u) / Nat.gcd (chn T none (tH T - u) x) (60 ^ (tH T - u)))) := ⟨_, rfl⟩
      rw [← hJ3]
      refine up_0 (P := fun i => xr scr (d + 20) xc_242 16 [some (.ref 58), some (.int (nI x)), some (.int (nI u)), some (.long (lN (60 ^ (tH T - u) - smg g i))), none, some (.int (nI i))] [] (wS, I, J3, wP t dr (wU 46 t G)) (fun r2 S2 => r2 = some (.int (nI 1)) ∧ PST S2)) (tN T) (fun i hi h => ?_) ?_
      · have hm := smg_mono g (show i + 1 ≤ tN T by omega)
        rw [smg_s] at h hm
        rw [xs_242_16, MT_10 hM, if_pos ((nI_ltI (by omega) (by omega)).mpr hi), xs_242_20, m_chanceU (d := d + 9) hM hx1 hi hu, hge]
        simp (disch := first | assumption | omega | decide | exact vp_in_nI (by omega) (by omega) | exact and1_bN _ | (simp only [pk_mul, nI_add, pred_s]; exact vp_in_nI (by omega) (by omega))) only [Option.toList_some, Option.toList_none, List.cons_append, List.nil_append, List.append_nil, xs_242_26]
        rw [lN_sub (by omega), Nat.sub_sub, nI_add]
        exact h
      · rw [xs_242_16, MT_10 hM]
        simp (disch := first | assumption | omega | decide | exact vp_in_nI (by omega) (by omega) | exact and1_bN _ | (simp only [pk_mul, nI_add, pred_s]; exact vp_in_nI (by omega) (by omega))) only [Bool.false_eq_true, nI_add, pk_mul, nI_ltI, nI_eq, z_eq, z_lt, z_gt, z_bN, bN_z, bN_p, bN_i1, nI_clamp, rng_nI, ↓reduceIte, if_true, if_false, not_true_eq_false, not_false_eq_true, true_and, and_true, and_self, false_and, and_false, Nat.lt_irrefl, xs_242_30, m_wholeFrom hM hu, Option.toList_some, Option.toList_none, List.cons_append, List.nil_append, List.append_nil, xs_242_35]
        rw [show 60 ^ (tH T - u) - smg g (tN T) = chn T none (tH T - u) x by omega, m_part (by omega) (by omega) hp0]
        simp (disch := first | assumption | omega | decide | exact vp_in_nI (by omega) (by omega) | exact and1_bN _ | (simp only [pk_mul, nI_add, pred_s]; exact vp_in_nI (by omega) (by omega))) only [Option.toList_some, Option.toList_none, List.cons_append, List.nil_append, List.append_nil, xs_242_37]
        rw [hJ3]
        have H5 := INV_frc H2 (chn T none (tH T - u) x) (60 ^ (tH T - u))
        first | exact PST_i H5 | exact ⟨trivial, PST_i H5⟩ | exact ⟨rfl, PST_i H5⟩
    · rw [xs_132_0 ht, c_isOne ht hT.1]
      simp (disch := first | assumption | omega | decide | exact vp_in_nI (by omega) (by omega) | exact and1_bN _ | (simp only [pk_mul, nI_add, pred_s]; exact vp_in_nI (by omega) (by omega))) only [Option.toList_some, Option.toList_none, List.cons_append, List.nil_append, List.append_nil, xs_132_4, Bool.false_eq_true, nI_add, pk_mul, nI_ltI, nI_eq, z_eq, z_lt, z_gt, z_bN, bN_z, bN_p, bN_i1, nI_clamp, rng_nI, ↓reduceIte, if_true, if_false, not_true_eq_false, not_false_eq_true, true_and, and_true, and_self, false_and, and_false, hx]
      rw [xs_132_5 ht, c_isMoment ht hT.1]
      simp (disch := first | assumption | omega | decide | exact vp_in_nI (by omega) (by omega) | exact and1_bN _ | (simp only [pk_mul, nI_add, pred_s]; exact vp_in_nI (by omega) (by omega))) only [Option.toList_some, Option.toList_none, List.cons_append, List.nil_append, List.append_nil, xs_132_9, Bool.false_eq_true, nI_add, pk_mul, nI_ltI, nI_eq, z_eq, z_lt, z_gt, z_bN, bN_z, bN_p, bN_i1, nI_clamp, rng_nI, ↓reduceIte, if_true, if_false, not_true_eq_false, not_false_eq_true, true_and, and_true, and_self, false_and, and_false, hy, xs_132_10]
      refine AN_i ?_
      simp (disch := first | assumption | omega | decide | exact vp_in_nI (by omega) (by omega) | exact and1_bN _ | (simp only [pk_mul, nI_add, pred_s]; exact vp_in_nI (by omega) (by omega))) only [xs_242_0, m_isOne hM, Option.toList_some, Option.toList_none, List.cons_append, List.nil_append, List.append_nil, xs_242_3, Bool.false_eq_true, nI_add, pk_mul, nI_ltI, nI_eq, z_eq, z_lt, z_gt, z_bN, bN_z, bN_p, bN_i1, nI_clamp, rng_nI, ↓reduceIte, if_true, if_false, not_true_eq_false, not_false_eq_true, true_and, and_true, and_self, false_and, and_false, hx, xs_242_4, m_isTime hM, xs_242_7, hy, xs_242_8]
      first | exact PST_i H | exact ⟨trivial, PST_i H⟩ | exact ⟨rfl, PST_i H⟩
  · rw [xs_132_0 ht, c_isOne ht hT.1]
    simp (disch := first | assumption | omega | decide | exact vp_in_nI (by omega) (by omega) | exact and1_bN _ | (simp only [pk_mul, nI_add, pred_s]; exact vp_in_nI (by omega) (by omega))) only [Option.toList_some, Option.toList_none, List.cons_append, List.nil_append, List.append_nil, xs_132_4, Bool.false_eq_true, nI_add, pk_mul, nI_ltI, nI_eq, z_eq, z_lt, z_gt, z_bN, bN_z, bN_p, bN_i1, nI_clamp, rng_nI, ↓reduceIte, if_true, if_false, not_true_eq_false, not_false_eq_true, true_and, and_true, and_self, false_and, and_false, hx, xs_132_10]
    refine AN_i ?_
    simp (disch := first | assumption | omega | decide | exact vp_in_nI (by omega) (by omega) | exact and1_bN _ | (simp only [pk_mul, nI_add, pred_s]; exact vp_in_nI (by omega) (by omega))) only [xs_242_0, m_isOne hM, Option.toList_some, Option.toList_none, List.cons_append, List.nil_append, List.append_nil, xs_242_3, Bool.false_eq_true, nI_add, pk_mul, nI_ltI, nI_eq, z_eq, z_lt, z_gt, z_bN, bN_z, bN_p, bN_i1, nI_clamp, rng_nI, ↓reduceIte, if_true, if_false, not_true_eq_false, not_false_eq_true, true_and, and_true, and_self, false_and, and_false, hx, xs_242_8]
    first | exact PST_i H | exact ⟨trivial, PST_i H⟩ | exact ⟨rfl, PST_i H⟩
theorem k_send (H : INV I J t dr G T v bk pre ss) {x y z : Int32} : xr scr (d + 20) xc_133 0 [some (.ref 0), some (.int x), some (.int y), some (.int z), none, none, none, none] [] (wS, I, J, wP t dr G) (AN scr (d + 20) xc_243 [some (.ref 58), some (.int x), some (.int y), some (.int z), none, none, none, none, none, none]) := by
  have ht := H.1.1
  have hT := H.1.2.2.2.1
  have hM := H.1.2.2.2.2.1
  have hn := TR_n hT.1
  have hh5 := TR_h hT.1
  by_cases hb : rng x (tN T) = true ∧ rng z (tN T) = true ∧ rng y (tH T) = true
  · obtain ⟨hx, hz, hy⟩ := hb
    obtain ⟨x, hx1, rfl⟩ := rng_of hx (by omega)
    obtain ⟨z, hz1, rfl⟩ := rng_of hz (by omega)
    obtain ⟨u, hu1, rfl⟩ := rng_of hy (by omega)
    have hu : u + 1 ≤ tH T := by omega
    obtain ⟨p, hp⟩ : ∃ p : Nat → Bool, p = fun i => mayB T x i u := ⟨_, rfl⟩
    have hpe : ∀ i, mayB T x i u = p i := fun i => by rw [hp]
    obtain ⟨g, hg⟩ : ∃ g : Nat → Nat, g = fun i => chn T (some z) (tH T - (u + 1)) i := ⟨_, rfl⟩
    have hge : ∀ i, chn T (some z) (tH T - (u + 1)) i = g i := fun i => by rw [hg]
    have hp6 := p60 (k := tH T - (u + 1)) (by omega)
    have hp0 : 0 < 60 ^ (tH T - (u + 1)) := Nat.pow_pos (by decide)
    have hgl : ∀ i, g i ≤ 60 ^ (tH T - (u + 1)) := fun i => by rw [← hge]; exact chn_le T _ _ i
    have hg63 : ∀ i, g i < 2 ^ 63 := fun i => by have := hgl i; omega
    have hms : mset T x u = bs (tN T) p := by rw [hp]; rfl
    have hbl : ∀ i f, bst p g i = some f → f < i := by
      intro i
      induction i with
      | zero => intro f h; exact absurd h (by simp [bst])
      | succ i ih =>
        intro f h
        rw [bst_s] at h
        cases e : bst p g i with
        | none =>
          simp only [e] at h
          split at h
          · injection h with h; omega
          · exact absurd h (by simp)
        | some f2 =>
          have := ih f2 e
          simp only [e] at h
          split at h
          · injection h with h; omega
          · injection h with h; omega
    rw [xs_133_0 ht, c_isOne ht hT.1]
    simp (disch := first | assumption | omega | decide | exact vp_in_nI (by omega) (by omega) | exact and1_bN _ | (simp only [pk_mul, nI_add, pred_s]; exact vp_in_nI (by omega) (by omega))) only [Option.toList_some, Option.toList_none, List.cons_append, List.nil_append, List.append_nil, xs_133_4, Bool.false_eq_true, nI_add, pk_mul, nI_ltI, nI_eq, z_eq, z_lt, z_gt, z_bN, bN_z, bN_p, bN_i1, nI_clamp, rng_nI, ↓reduceIte, if_true, if_false, not_true_eq_false, not_false_eq_true, true_and, and_true, and_self, false_and, and_false, hx1]
    rw [xs_133_5 ht, c_isHour ht hT.1]
    simp (disch := first | assumption | omega | decide | exact vp_in_nI (by omega) (by omega) | exact and1_bN _ | (simp only [pk_mul, nI_add, pred_s]; exact vp_in_nI (by omega) (by omega))) only [Option.toList_some, Option.toList_none, List.cons_append, List.nil_append, List.append_nil, xs_133_9, Bool.false_eq_true, nI_add, pk_mul, nI_ltI, nI_eq, z_eq, z_lt, z_gt, z_bN, bN_z, bN_p, bN_i1, nI_clamp, rng_nI, ↓reduceIte, if_true, if_false, not_true_eq_false, not_false_eq_true, true_and, and_true, and_self, false_and, and_false, hu1]
    rw [xs_133_10 ht, c_isOne ht hT.1]
    simp (disch := first | assumption | omega | decide | exact vp_in_nI (by omega) (by omega) | exact and1_bN _ | (simp only [pk_mul, nI_add, pred_s]; exact vp_in_nI (by omega) (by omega))) only [Option.toList_some, Option.toList_none, List.cons_append, List.nil_append, List.append_nil, xs_133_14, Bool.false_eq_true, nI_add, pk_mul, nI_ltI, nI_eq, z_eq, z_lt, z_gt, z_bN, bN_z, bN_p, bN_i1, nI_clamp, rng_nI, ↓reduceIte, if_true, if_false, not_true_eq_false, not_false_eq_true, true_and, and_true, and_self, false_and, and_false, hz1]
    rw [xs_133_17, nI_add]
    refine c_settleC (gl := some z) (d := d + 16) ht hT (fun y h => by injection h with h; omega) hu (fun J2 f2 C2 => ?_)
    have H2 := INV_47 H f2
    simp (disch := first | assumption | omega | decide | exact vp_in_nI (by omega) (by omega) | exact and1_bN _ | (simp only [pk_mul, nI_add, pred_s]; exact vp_in_nI (by omega) (by omega))) only [Option.toList_some, Option.toList_none, List.cons_append, List.nil_append, List.append_nil]
    rw [xs_133_26 ht, c_takersOf ht hT hx1 hu1, hms]
    simp (disch := first | assumption | omega | decide | exact vp_in_nI (by omega) (by omega) | exact and1_bN _ | (simp only [pk_mul, nI_add, pred_s]; exact vp_in_nI (by omega) (by omega))) only [Option.toList_some, Option.toList_none, List.cons_append, List.nil_append, List.append_nil]
    rw [xs_133_31]
    have cl : ∀ y, y < tN T → ∀ Q, xr scr (d + 19) xc_129 0 [some (.ref 46), some (.int (nI y)), some (.int (nI (u + 1)))] [] (wS, I, J2, wP t dr (wU 46 t G)) Q = Q (some (.long (lN (g y)))) (wS, I, J2, wP t dr (wU 46 t G)) := fun y hy Q => by
      rw [← hge]
      exact c_shareOf (gl := some z) (d := d + 18) ht wU_eq hT.1 hy hu (C2 (u + 1) (Nat.le_refl _) hu)
    -- the reference
    have mref : ∀ o : Option Nat, bst p g (tN T) = o → AN scr (d + 20) xc_243 [some (.ref 58), some (.int (nI x)), some (.int (nI u)), some (.int (nI z)), none, none, none, none, none, none] (some (.int (glI o))) (wS, I, frO J2 g (60 ^ (tH T - (u + 1))) o, wP t dr (wU 46 t G)) := by
      intro o ho
      obtain ⟨J3, hJ3⟩ : ∃ J3, J3 = frO J2 g (60 ^ (tH T - (u + 1))) o := ⟨_, rfl⟩
      rw [← hJ3]
      refine AN_i ?_
      simp (disch := first | assumption | omega | decide | exact vp_in_nI (by omega) (by omega) | exact and1_bN _ | (simp only [pk_mul, nI_add, pred_s]; exact vp_in_nI (by omega) (by omega))) only [xs_243_0, m_areTwo hM, Option.toList_some, Option.toList_none, List.cons_append, List.nil_append, List.append_nil, xs_243_4, Bool.false_eq_true, nI_add, pk_mul, nI_ltI, nI_eq, z_eq, z_lt, z_gt, z_bN, bN_z, bN_p, bN_i1, nI_clamp, rng_nI, ↓reduceIte, if_true, if_false, not_true_eq_false, not_false_eq_true, true_and, and_true, and_self, false_and, and_false, hx1, hz1, xs_243_5, m_isHour hM, xs_243_8, hu1]
      rw [xs_243_11]
      refine up_0 (P := fun i => ∀ o8 : Option Value, xr scr (d + 20) xc_243 17 [some (.ref 58), some (.int (nI x)), some (.int (nI u)), some (.int (nI z)), some (.int (glI (bst p g i))), some (.long (blL g (bst p g i))), none, some (.int (nI i)), o8, none] [] (wS, I, J3, wP t dr (wU 46 t G)) (fun r2 S2 => r2 = some (.int (glI o)) ∧ PST S2)) (tN T) (fun i hi h o8 => ?_) (fun o8 => ?_) none
      · have hh := h
        rw [bst_s] at hh
        have hg1 := hg63 i
        rw [xs_243_17, MT_10 hM, if_pos ((nI_ltI (by omega) (by omega)).mpr hi), xs_243_21, m_mayGive (d := d + 16) hM hx1 hi hu1, hpe]
        by_cases hpi : p i = true
        · have n10 : ¬ nI 1 = 0 := by decide
          rw [bN_t hpi]
          simp (disch := first | assumption | omega | decide | exact vp_in_nI (by omega) (by omega) | exact and1_bN _ | (simp only [pk_mul, nI_add, pred_s]; exact vp_in_nI (by omega) (by omega))) only [Option.toList_some, Option.toList_none, List.cons_append, List.nil_append, List.append_nil, xs_243_26, n10, ↓reduceIte]
          rw [xs_243_27, nI_add, m_chanceU (d := d + 9) hM hi hz1 hu, hge]
          simp (disch := first | assumption | omega | decide | exact vp_in_nI (by omega) (by omega) | exact and1_bN _ | (simp only [pk_mul, nI_add, pred_s]; exact vp_in_nI (by omega) (by omega))) only [Option.toList_some, Option.toList_none, List.cons_append, List.nil_append, List.append_nil, xs_243_34, lg_cmp_gt, xs_243_39, xs_243_41, xs_243_42, xs_243_47, xs_243_49, xs_243_50, xs_243_51, nI_add]
          cases hbs : bst p g i with
          | none =>
            have hm := m1_lL hg1
            simp only [hbs, if_pos hpi] at hh
            rw [show blL g none = -1 from rfl, if_pos hm, if_pos hm]
            exact hh _
          | some f =>
            simp only [hbs, hpi, true_and] at hh
            rw [show blL g (some f) = lN (g f) from rfl]
            simp only [pk_lLT (hg63 f) hg1]
            by_cases e : g f < g i
            · simp only [if_pos e] at hh ⊢
              exact hh _
            · simp only [if_neg e] at hh ⊢
              exact hh _
        · rw [bN_f hpi]
          simp (disch := first | assumption | omega | decide | exact vp_in_nI (by omega) (by omega) | exact and1_bN _ | (simp only [pk_mul, nI_add, pred_s]; exact vp_in_nI (by omega) (by omega))) only [Option.toList_some, Option.toList_none, List.cons_append, List.nil_append, List.append_nil, xs_243_26, nI_0, ↓reduceIte, xs_243_51, nI_add]
          cases hbs : bst p g i with
          | none =>
            simp only [hbs, if_neg hpi] at hh
            exact hh _
          | some f =>
            simp only [hbs, if_neg (fun h : p i = true ∧ g f < g i => hpi h.1)] at hh
            exact hh _
      · rw [xs_243_17, MT_10 hM]
        simp (disch := first | assumption | omega | decide | exact vp_in_nI (by omega) (by omega) | exact and1_bN _ | (simp only [pk_mul, nI_add, pred_s]; exact vp_in_nI (by omega) (by omega))) only [Bool.false_eq_true, nI_add, pk_mul, nI_ltI, nI_eq, z_eq, z_lt, z_gt, z_bN, bN_z, bN_p, bN_i1, nI_clamp, rng_nI, ↓reduceIte, if_true, if_false, not_true_eq_false, not_false_eq_true, true_and, and_true, and_self, false_and, and_false, Nat.lt_irrefl]
        rw [ho]
        cases o with
        | none =>
          rw [show glI none = -9 from rfl, xs_243_53, if_pos rfl, xs_243_56, xs_243_67, hJ3]
          exact ⟨rfl, PST_i H2⟩
        | some f =>
          have hf := hbl _ f ho
          have hgf := hgl f
          rw [show glI (some f) = nI f from rfl, xs_243_53, if_neg (fun e => (m9_ne (by omega)).mp e), xs_243_58, nI_add, m_wholeFrom hM hu, show blL g (some f) = lN (g f) from rfl]
          simp (disch := first | assumption | omega | decide | exact vp_in_nI (by omega) (by omega) | exact and1_bN _ | (simp only [pk_mul, nI_add, pred_s]; exact vp_in_nI (by omega) (by omega))) only [Option.toList_some, Option.toList_none, List.cons_append, List.nil_append, List.append_nil, xs_243_65]
          rw [m_part (by omega) (by omega) hp0]
          simp (disch := first | assumption | omega | decide | exact vp_in_nI (by omega) (by omega) | exact and1_bN _ | (simp only [pk_mul, nI_add, pred_s]; exact vp_in_nI (by omega) (by omega))) only [Option.toList_some, Option.toList_none, List.cons_append, List.nil_append, List.append_nil, xs_243_67]
          rw [hJ3]
          have H5 := INV_frc H2 (g f) (60 ^ (tH T - (u + 1)))
          first | exact PST_i H5 | exact ⟨trivial, PST_i H5⟩ | exact ⟨rfl, PST_i H5⟩
    refine up_0 (P := fun i => ∀ o7 : Option Value, xr scr (d + 20) xc_133 36 [some (.ref 0), some (.int (nI x)), some (.int (nI u)), some (.int (nI z)), some (.int (nI (bs (tN T) p))), some (.int (glI (bst p g i))), some (.int (nI i)), o7] [] (wS, I, J2, wP t dr (wU 46 t G)) (AN scr (d + 20) xc_243 [some (.ref 58), some (.int (nI x)), some (.int (nI u)), some (.int (nI z)), none, none, none, none, none, none])) (tN T) (fun i hi h o7 => ?_) (fun o7 => ?_) none
    · have hh := h
      rw [bst_s] at hh
      have hg1 := hg63 i
      have hi8 : i < 8 := by omega
      rw [xs_133_36 ht, TR_1 hT.1, if_pos ((nI_ltI (by omega) (by omega)).mpr hi), xs_133_41, sb_t hn p hi8]
      by_cases hpi : p i = true
      · have n10 : ¬ nI 1 = 0 := by decide
        rw [bN_t ⟨hi, hpi⟩, if_neg n10, xs_133_47, xs_133_50, if_neg n10, xs_133_53]
        cases hbs : bst p g i with
        | none =>
          simp only [hbs, if_pos hpi] at hh
          rw [show glI none = -9 from rfl, if_pos rfl, xs_133_72, xs_133_74, nI_add]
          exact hh _
        | some f =>
          have hf := hbl _ f hbs
          have hfn : f < tN T := by omega
          simp only [hbs, hpi, true_and] at hh
          rw [show glI (some f) = nI f from rfl, if_neg (fun e => (m9_ne (by omega)).mp e), xs_133_56, nI_add, cl i hi]
          simp (disch := first | assumption | omega | decide | exact vp_in_nI (by omega) (by omega) | exact and1_bN _ | (simp only [pk_mul, nI_add, pred_s]; exact vp_in_nI (by omega) (by omega))) only [Option.toList_some, Option.toList_none, List.cons_append, List.nil_append, List.append_nil]
          rw [xs_133_63, nI_add, cl f hfn]
          simp (disch := first | assumption | omega | decide | exact vp_in_nI (by omega) (by omega) | exact and1_bN _ | (simp only [pk_mul, nI_add, pred_s]; exact vp_in_nI (by omega) (by omega))) only [Option.toList_some, Option.toList_none, List.cons_append, List.nil_append, List.append_nil, xs_133_70, lg_cmp_gt, pk_lLT (hg63 f) hg1, xs_133_72, xs_133_74, nI_add]
          by_cases e : g f < g i
          · simp only [if_pos e] at hh ⊢
            exact hh _
          · simp only [if_neg e] at hh ⊢
            exact hh _
      · rw [bN_f (fun h => hpi h.2), if_pos nI_0, xs_133_49, xs_133_50, if_pos nI_0, xs_133_74, nI_add]
        cases hbs : bst p g i with
        | none =>
          simp only [hbs, if_neg hpi] at hh
          exact hh _
        | some f =>
          simp only [hbs, if_neg (fun h : p i = true ∧ g f < g i => hpi h.1)] at hh
          exact hh _
    · have hm := mref _ rfl
      rw [xs_133_36 ht, TR_1 hT.1]
      simp (disch := first | assumption | omega | decide | exact vp_in_nI (by omega) (by omega) | exact and1_bN _ | (simp only [pk_mul, nI_add, pred_s]; exact vp_in_nI (by omega) (by omega))) only [Bool.false_eq_true, nI_add, pk_mul, nI_ltI, nI_eq, z_eq, z_lt, z_gt, z_bN, bN_z, bN_p, bN_i1, nI_clamp, rng_nI, ↓reduceIte, if_true, if_false, not_true_eq_false, not_false_eq_true, true_and, and_true, and_self, false_and, and_false, Nat.lt_irrefl]
      cases hbs : bst p g (tN T) with
      | none =>
        rw [hbs] at hm
        rw [show glI none = -9 from rfl, xs_133_76, if_pos rfl, xs_133_94]
        exact hm
      | some f =>
        have hf := hbl _ f hbs
        have hgf := hgl f
        rw [hbs] at hm
        rw [show glI (some f) = nI f from rfl] at hm ⊢
        rw [xs_133_76, if_neg (fun e => (m9_ne (by omega)).mp e), xs_133_79, nI_add, cl f hf]
        simp (disch := first | assumption | omega | decide | exact vp_in_nI (by omega) (by omega) | exact and1_bN _ | (simp only [pk_mul, nI_add, pred_s]; exact vp_in_nI (by omega) (by omega))) only [Option.toList_some, Option.toList_none, List.cons_append, List.nil_append, List.append_nil]
        rw [xs_133_87, nI_add, c_whole ht wU_eq hT.1 hu]
        simp (disch := first | assumption | omega | decide | exact vp_in_nI (by omega) (by omega) | exact and1_bN _ | (simp only [pk_mul, nI_add, pred_s]; exact vp_in_nI (by omega) (by omega))) only [Option.toList_some, Option.toList_none, List.cons_append, List.nil_append, List.append_nil]
        rw [xs_133_93, c_tellFraction (d := d + 18) (by omega) (by omega) hp0]
        simp (disch := first | assumption | omega | decide | exact vp_in_nI (by omega) (by omega) | exact and1_bN _ | (simp only [pk_mul, nI_add, pred_s]; exact vp_in_nI (by omega) (by omega))) only [Option.toList_some, Option.toList_none, List.cons_append, List.nil_append, List.append_nil]
        rw [xs_133_94]
        exact hm
  · have mbad : AN scr (d + 20) xc_243 [some (.ref 58), some (.int x), some (.int y), some (.int z), none, none, none, none, none, none] (some (.int (-1))) (wS, I, J, wP t dr G) := by
      refine AN_i ?_
      simp (disch := first | assumption | omega | decide | exact vp_in_nI (by omega) (by omega) | exact and1_bN _ | (simp only [pk_mul, nI_add, pred_s]; exact vp_in_nI (by omega) (by omega))) only [xs_243_0, m_areTwo hM, Option.toList_some, Option.toList_none, List.cons_append, List.nil_append, List.append_nil, xs_243_4, Bool.false_eq_true, nI_add, pk_mul, nI_ltI, nI_eq, z_eq, z_lt, z_gt, z_bN, bN_z, bN_p, bN_i1, nI_clamp, rng_nI, ↓reduceIte, if_true, if_false, not_true_eq_false, not_false_eq_true, true_and, and_true, and_self, false_and, and_false]
      by_cases h1 : rng x (tN T) = true ∧ rng z (tN T) = true
      · have hy : ¬ rng y (tH T) = true := fun h => hb ⟨h1.1, h1.2, h⟩
        simp (disch := first | assumption | omega | decide | exact vp_in_nI (by omega) (by omega) | exact and1_bN _ | (simp only [pk_mul, nI_add, pred_s]; exact vp_in_nI (by omega) (by omega))) only [h1.1, h1.2, Bool.false_eq_true, nI_add, pk_mul, nI_ltI, nI_eq, z_eq, z_lt, z_gt, z_bN, bN_z, bN_p, bN_i1, nI_clamp, rng_nI, ↓reduceIte, if_true, if_false, not_true_eq_false, not_false_eq_true, true_and, and_true, and_self, false_and, and_false, xs_243_5, m_isHour hM, Option.toList_some, Option.toList_none, List.cons_append, List.nil_append, List.append_nil, xs_243_8, hy, xs_243_9]
        first | exact PST_i H | exact ⟨trivial, PST_i H⟩ | exact ⟨rfl, PST_i H⟩
      · rw [if_pos h1, xs_243_9]
        first | exact PST_i H | exact ⟨trivial, PST_i H⟩ | exact ⟨rfl, PST_i H⟩
    rw [xs_133_0 ht, c_isOne ht hT.1]
    by_cases hx : rng x (tN T) = true
    · simp (disch := first | assumption | omega | decide | exact vp_in_nI (by omega) (by omega) | exact and1_bN _ | (simp only [pk_mul, nI_add, pred_s]; exact vp_in_nI (by omega) (by omega))) only [Option.toList_some, Option.toList_none, List.cons_append, List.nil_append, List.append_nil, xs_133_4, Bool.false_eq_true, nI_add, pk_mul, nI_ltI, nI_eq, z_eq, z_lt, z_gt, z_bN, bN_z, bN_p, bN_i1, nI_clamp, rng_nI, ↓reduceIte, if_true, if_false, not_true_eq_false, not_false_eq_true, true_and, and_true, and_self, false_and, and_false, hx]
      rw [xs_133_5 ht, c_isHour ht hT.1]
      by_cases hy : rng y (tH T) = true
      · simp (disch := first | assumption | omega | decide | exact vp_in_nI (by omega) (by omega) | exact and1_bN _ | (simp only [pk_mul, nI_add, pred_s]; exact vp_in_nI (by omega) (by omega))) only [Option.toList_some, Option.toList_none, List.cons_append, List.nil_append, List.append_nil, xs_133_9, Bool.false_eq_true, nI_add, pk_mul, nI_ltI, nI_eq, z_eq, z_lt, z_gt, z_bN, bN_z, bN_p, bN_i1, nI_clamp, rng_nI, ↓reduceIte, if_true, if_false, not_true_eq_false, not_false_eq_true, true_and, and_true, and_self, false_and, and_false, hy]
        rw [xs_133_10 ht, c_isOne ht hT.1]
        have hz : ¬ rng z (tN T) = true := fun h => hb ⟨hx, h, hy⟩
        simp (disch := first | assumption | omega | decide | exact vp_in_nI (by omega) (by omega) | exact and1_bN _ | (simp only [pk_mul, nI_add, pred_s]; exact vp_in_nI (by omega) (by omega))) only [Option.toList_some, Option.toList_none, List.cons_append, List.nil_append, List.append_nil, xs_133_14, Bool.false_eq_true, nI_add, pk_mul, nI_ltI, nI_eq, z_eq, z_lt, z_gt, z_bN, bN_z, bN_p, bN_i1, nI_clamp, rng_nI, ↓reduceIte, if_true, if_false, not_true_eq_false, not_false_eq_true, true_and, and_true, and_self, false_and, and_false, hz, xs_133_15]
        exact mbad
      · simp (disch := first | assumption | omega | decide | exact vp_in_nI (by omega) (by omega) | exact and1_bN _ | (simp only [pk_mul, nI_add, pred_s]; exact vp_in_nI (by omega) (by omega))) only [Option.toList_some, Option.toList_none, List.cons_append, List.nil_append, List.append_nil, xs_133_9, Bool.false_eq_true, nI_add, pk_mul, nI_ltI, nI_eq, z_eq, z_lt, z_gt, z_bN, bN_z, bN_p, bN_i1, nI_clamp, rng_nI, ↓reduceIte, if_true, if_false, not_true_eq_false, not_false_eq_true, true_and, and_true, and_self, false_and, and_false, hy, xs_133_15]
        exact mbad
    · simp (disch := first | assumption | omega | decide | exact vp_in_nI (by omega) (by omega) | exact and1_bN _ | (simp only [pk_mul, nI_add, pred_s]; exact vp_in_nI (by omega) (by omega))) only [Option.toList_some, Option.toList_none, List.cons_append, List.nil_append, List.append_nil, xs_133_4, Bool.false_eq_true, nI_add, pk_mul, nI_ltI, nI_eq, z_eq, z_lt, z_gt, z_bN, bN_z, bN_p, bN_i1, nI_clamp, rng_nI, ↓reduceIte, if_true, if_false, not_true_eq_false, not_false_eq_true, true_and, and_true, and_self, false_and, and_false, hx, xs_133_15]
      exact mbad
end ODDS
