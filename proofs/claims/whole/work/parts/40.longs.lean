/-! sets that KEEP it -/
def mxf (p : Nat → Bool) (g : Nat → Nat) : Nat → Nat
  | 0 => 0
  | i + 1 => if p i = true then max (mxf p g i) (1 + g i) else mxf p g i
theorem mxf_s (p : Nat → Bool) (g : Nat → Nat) (i : Nat) : mxf p g (i + 1) = if p i = true then max (mxf p g i) (1 + g i) else mxf p g i := rfl
theorem mxf_ge {p : Nat → Bool} {g : Nat → Nat} {m n : Nat} : m + 1 ≤ mxf p g n ↔ ∃ y, y < n ∧ p y = true ∧ m ≤ g y := by
  induction n with
  | zero => exact ⟨fun h => absurd h (Nat.not_succ_le_zero _), fun ⟨y, hy, _⟩ => absurd hy (Nat.not_lt_zero _)⟩
  | succ n ih =>
    rw [mxf_s]
    constructor
    · intro h
      by_cases hp : p n = true
      · rw [if_pos hp] at h
        by_cases h2 : m + 1 ≤ mxf p g n
        · obtain ⟨y, a, b, c⟩ := ih.mp h2
          exact ⟨y, by omega, b, c⟩
        · exact ⟨n, Nat.lt_succ_self _, hp, by omega⟩
      · rw [if_neg hp] at h
        obtain ⟨y, a, b, c⟩ := ih.mp h
        exact ⟨y, by omega, b, c⟩
    · rintro ⟨y, a, b, c⟩
      by_cases e : y = n
      · subst e
        rw [if_pos b]
        omega
      · have h2 := ih.mpr ⟨y, by omega, b, c⟩
        split <;> omega
theorem mxf_le {p : Nat → Bool} {g : Nat → Nat} {B n : Nat} (h : ∀ y, g y ≤ B) : mxf p g n ≤ B + 1 := by
  induction n with
  | zero => exact Nat.zero_le _
  | succ n ih =>
    rw [mxf_s]
    have := h n
    split <;> omega
def lng (T : TN) (q : Nat → Bool) : Nat → Nat → Nat
  | 0, _ => 0
  | k + 1, x => mxf (fun y => q y && mayB T x y (tH T - (k + 1))) (lng T q k) (tN T)
theorem lng_le (T : TN) (q : Nat → Bool) : ∀ k x, lng T q k x ≤ k
  | 0, _ => Nat.le_refl 0
  | k + 1, x => mxf_le (lng_le T q k)
theorem kpB_lng (T : TN) (q : Nat → Bool) : ∀ (m u x : Nat), m + u ≤ tH T → kpB T q m u x = (q x && decide (m ≤ lng T q (tH T - u) x))
  | 0, u, x, h => by simp [kpB]
  | m + 1, u, x, h => by
    obtain ⟨k, hk⟩ : ∃ k, tH T - u = k + 1 := ⟨tH T - u - 1, by omega⟩
    have hk2 : tH T - (u + 1) = k := by omega
    have hk3 : tH T - (k + 1) = u := by omega
    show gvB T (kpB T q m (u + 1)) q u x = _
    unfold gvB
    congr 1
    rw [hk, Bool.eq_iff_iff, exB_iff, decide_eq_true_eq]
    unfold lng
    rw [mxf_ge]
    constructor
    · rintro ⟨y, hy, h2⟩
      rw [kpB_lng T q m (u + 1) y (by omega), hk2] at h2
      simp only [Bool.and_eq_true, decide_eq_true_eq] at h2
      exact ⟨y, hy, by rw [hk3]; simp only [Bool.and_eq_true]; exact ⟨h2.2.1, h2.1⟩, h2.2.2⟩
    · rintro ⟨y, hy, h2, h3⟩
      refine ⟨y, hy, ?_⟩
      rw [kpB_lng T q m (u + 1) y (by omega), hk2]
      rw [hk3] at h2
      simp only [Bool.and_eq_true, decide_eq_true_eq] at h2 ⊢
      exact ⟨h2.2, h2.1, h3⟩
def kmx (q : Nat → Bool) (g : Nat → Nat) : Nat → Nat
  | 0 => 0
  | i + 1 => if q i = true then max (kmx q g i) (g i + 1) else kmx q g i
theorem kmx_s (q : Nat → Bool) (g : Nat → Nat) (i : Nat) : kmx q g (i + 1) = if q i = true then max (kmx q g i) (g i + 1) else kmx q g i := rfl
theorem kmx_ge {q : Nat → Bool} {g : Nat → Nat} {m n : Nat} : m + 1 ≤ kmx q g n ↔ ∃ y, y < n ∧ q y = true ∧ m ≤ g y := by
  induction n with
  | zero => exact ⟨fun h => absurd h (Nat.not_succ_le_zero _), fun ⟨y, hy, _⟩ => absurd hy (Nat.not_lt_zero _)⟩
  | succ n ih =>
    rw [kmx_s]
    constructor
    · intro h
      by_cases hp : q n = true
      · rw [if_pos hp] at h
        by_cases h2 : m + 1 ≤ kmx q g n
        · obtain ⟨y, a, b, c⟩ := ih.mp h2
          exact ⟨y, by omega, b, c⟩
        · exact ⟨n, Nat.lt_succ_self _, hp, by omega⟩
      · rw [if_neg hp] at h
        obtain ⟨y, a, b, c⟩ := ih.mp h
        exact ⟨y, by omega, b, c⟩
    · rintro ⟨y, a, b, c⟩
      by_cases e : y = n
      · subst e
        rw [if_pos b]
        omega
      · have h2 := ih.mpr ⟨y, by omega, b, c⟩
        split <;> omega
theorem kmx_le {q : Nat → Bool} {g : Nat → Nat} {B n : Nat} (h : ∀ y, g y ≤ B) : kmx q g n ≤ B + 1 := by
  induction n with
  | zero => exact Nat.zero_le _
  | succ n ih =>
    rw [kmx_s]
    have := h n
    split <;> omega
def kst (q : Nat → Bool) (g : Nat → Nat) (m : Nat) (x : Nat) : Bool := q x && decide (g x + 1 = m)
theorem kst_s (q : Nat → Bool) (g : Nat → Nat) (i : Nat) : bs (i + 1) (kst q g (kmx q g (i + 1))) = if q i = true then (if kmx q g i ≤ g i then 2 ^ i else if g i + 1 = kmx q g i then bs i (kst q g (kmx q g i)) + 2 ^ i else bs i (kst q g (kmx q g i))) else bs i (kst q g (kmx q g i)) := by
  rw [bs_s, kmx_s]
  by_cases hq : q i = true
  · rw [if_pos hq, if_pos hq]
    by_cases h1 : kmx q g i ≤ g i
    · rw [if_pos h1, show max (kmx q g i) (g i + 1) = g i + 1 by omega, if_pos (by unfold kst; rw [hq]; simp)]
      have : bs i (kst q g (g i + 1)) = 0 := bs_z.mpr (fun x hx => by
        unfold kst
        by_cases hqx : q x = true
        · have h2 := kmx_ge.mpr ⟨x, hx, hqx, Nat.le_refl (g x)⟩
          rw [decide_eq_false (by omega), Bool.and_false]
        · rw [Bool.eq_false_iff.mpr hqx, Bool.false_and])
      rw [this, Nat.zero_add]
    · rw [if_neg h1, show max (kmx q g i) (g i + 1) = kmx q g i by omega]
      by_cases h2 : g i + 1 = kmx q g i
      · rw [if_pos h2, if_pos (by unfold kst; rw [hq, decide_eq_true h2]; rfl)]
      · rw [if_neg h2, if_neg (by unfold kst; rw [decide_eq_false h2, Bool.and_false]; decide), Nat.add_zero]
  · rw [if_neg hq, if_neg hq, if_neg (by unfold kst; rw [Bool.eq_false_iff.mpr hq, Bool.false_and]; decide), Nat.add_zero]
theorem cmpm {a b : Nat} (ha : a < 2 ^ 30) (hb : b < 2 ^ 30) : nI a - nI 1 < nI b ↔ a ≤ b := by
  cases a with
  | zero => exact ⟨fun _ => Nat.zero_le _, fun _ => by rw [m1_nI]; exact lt_m1 (by omega)⟩
  | succ a => rw [pred_s, nI_ltI (by omega) (by omega)]; omega
section LONGS
variable {scr : xi_X} {d : Nat} {Q : Option Value → xi_S → Prop} {I : Nat → Nat → Int32} {J : Nat → Nat → Int64} {t dr : Nat} {G : Nat → Nat} {T : TN}
theorem m_longOf (hM : MT I T) (q : Nat → Bool) : ∀ (k x : Nat) (Q : Option Value → xi_S → Prop), x < tN T → k ≤ tH T → xr scr (d + k + 4) xc_228 0 [some (.ref 58), some (.int (nI (bs (tN T) q))), some (.int (nI x)), some (.int (nI (tH T - k))), none, none, none] [] (wS, I, J, wP t dr G) Q = Q (some (.int (nI (lng T q k x)))) (wS, I, J, wP t dr G)
  | 0, x, Q, hx, hk => by
    have hn := MT_n hM
    have hh5 := MT_h hM
    have h0 : 0 < tN T := by omega
    simp (disch := first | assumption | omega | decide | exact vp_in_nI (by omega) (by omega) | exact and1_bN _ | (simp only [pk_mul, nI_add, pred_s]; exact vp_in_nI (by omega) (by omega))) only [xs_228_0, xs_228_4, MT_10 hM, nI_add, pk_mul, nI_ltI, nI_eq, z_eq, z_lt, z_gt, z_bN, bN_z, bN_p, bN_i1, nI_clamp, rng_nI, ↓reduceIte, if_true, if_false, not_true_eq_false, not_false_eq_true, true_and, and_true, and_self, false_and, and_false, h0, xs_228_8, MT_11 hM, Nat.sub_zero, Nat.lt_irrefl, xs_228_41]
    rfl
  | k + 1, x, Q, hx, hk => by
    have hn := MT_n hM
    have hh5 := MT_h hM
    obtain ⟨u, hu⟩ : ∃ u, u = tH T - (k + 1) := ⟨_, rfl⟩
    have hult : u < tH T := by omega
    have hu1 : u + 1 = tH T - k := by omega
    obtain ⟨p, hp⟩ : ∃ p, p = fun y => q y && mayB T x y u := ⟨_, rfl⟩
    obtain ⟨g, hg⟩ : ∃ g, g = lng T q k := ⟨_, rfl⟩
    have ev : lng T q (k + 1) x = mxf p g (tN T) := by rw [hp, hg, hu]; rfl
    have hgb : ∀ y, g y ≤ k := fun y => by rw [hg]; exact lng_le T q k y
    rw [ev, ← hu, xs_228_0]
    refine up_0 (P := fun y => ∀ o6 : Option Value, xr scr (d + (k + 1) + 4) xc_228 4 [some (.ref 58), some (.int (nI (bs (tN T) q))), some (.int (nI x)), some (.int (nI u)), some (.int (nI (mxf p g y))), some (.int (nI y)), o6] [] (wS, I, J, wP t dr G) Q = Q (some (.int (nI (mxf p g (tN T))))) (wS, I, J, wP t dr G)) (tN T) (fun y hy h o6 => ?_) (fun o6 => ?_) none
    · have hy8 : y < 8 := by omega
      have hm := mxf_le (p := p) (n := y) hgb
      rw [xs_228_4, MT_10 hM]
      simp (disch := first | assumption | omega | decide | exact vp_in_nI (by omega) (by omega) | exact and1_bN _ | (simp only [pk_mul, nI_add, pred_s]; exact vp_in_nI (by omega) (by omega))) only [nI_add, pk_mul, nI_ltI, nI_eq, z_eq, z_lt, z_gt, z_bN, bN_z, bN_p, bN_i1, nI_clamp, rng_nI, ↓reduceIte, if_true, if_false, not_true_eq_false, not_false_eq_true, true_and, and_true, and_self, false_and, and_false, hy, xs_228_8, MT_11 hM, hult, xs_228_12, m_has hn q hy8, Option.toList_some, Option.toList_none, List.cons_append, List.nil_append, List.append_nil, xs_228_15]
      have hpy : p y = (q y && mayB T x y u) := by rw [hp]
      rw [mxf_s, hpy] at h
      by_cases hq : q y = true
      · rw [if_neg (fun e => e hq), xs_228_16]
        simp (disch := first | assumption | omega | decide | exact vp_in_nI (by omega) (by omega) | exact and1_bN _ | (simp only [pk_mul, nI_add, pred_s]; exact vp_in_nI (by omega) (by omega))) only [m_mayGive hM hx hy hult, Option.toList_some, Option.toList_none, List.cons_append, List.nil_append, List.append_nil, xs_228_21, nI_add, pk_mul, nI_ltI, nI_eq, z_eq, z_lt, z_gt, z_bN, bN_z, bN_p, bN_i1, nI_clamp, rng_nI, ↓reduceIte, if_true, if_false, not_true_eq_false, not_false_eq_true, true_and, and_true, and_self, false_and, and_false]
        by_cases hm2 : mayB T x y u = true
        · rw [if_neg (fun e => e hm2), xs_228_22, nI_add, hu1, show d + (k + 1) + 3 = d + k + 4 by omega, m_longOf hM q k y _ hy (by omega), ← hg]
          have hgy := hgb y
          rw [if_pos (by rw [hq, hm2]; rfl)] at h
          simp (disch := first | assumption | omega | decide | exact vp_in_nI (by omega) (by omega) | exact and1_bN _ | (simp only [pk_mul, nI_add, pred_s]; exact vp_in_nI (by omega) (by omega))) only [Option.toList_some, Option.toList_none, List.cons_append, List.nil_append, List.append_nil, xs_228_30, nI_add, pk_mul, nI_ltI, nI_eq, z_eq, z_lt, z_gt, z_bN, bN_z, bN_p, bN_i1, nI_clamp, rng_nI, ↓reduceIte, if_true, if_false, not_true_eq_false, not_false_eq_true, true_and, and_true, and_self, false_and, and_false]
          by_cases hlt : mxf p g y < 1 + g y
          · rw [if_pos hlt]
            rw [show max (mxf p g y) (1 + g y) = 1 + g y by omega] at h
            simp (disch := first | assumption | omega | decide | exact vp_in_nI (by omega) (by omega) | exact and1_bN _ | (simp only [pk_mul, nI_add, pred_s]; exact vp_in_nI (by omega) (by omega))) only [xs_228_35, xs_228_38, xs_228_39, nI_add, pk_mul, nI_ltI, nI_eq, z_eq, z_lt, z_gt, z_bN, bN_z, bN_p, bN_i1, nI_clamp, rng_nI, ↓reduceIte, if_true, if_false, not_true_eq_false, not_false_eq_true, true_and, and_true, and_self, false_and, and_false]
            exact h _
          · rw [if_neg hlt]
            rw [show max (mxf p g y) (1 + g y) = mxf p g y by omega] at h
            simp (disch := first | assumption | omega | decide | exact vp_in_nI (by omega) (by omega) | exact and1_bN _ | (simp only [pk_mul, nI_add, pred_s]; exact vp_in_nI (by omega) (by omega))) only [xs_228_37, xs_228_38, xs_228_39, nI_add, pk_mul, nI_ltI, nI_eq, z_eq, z_lt, z_gt, z_bN, bN_z, bN_p, bN_i1, nI_clamp, rng_nI, ↓reduceIte, if_true, if_false, not_true_eq_false, not_false_eq_true, true_and, and_true, and_self, false_and, and_false]
            exact h _
        · rw [if_pos hm2, xs_228_39, nI_add]
          rw [if_neg (by rw [Bool.eq_false_iff.mpr hm2, Bool.and_false]; decide)] at h
          exact h _
      · rw [if_pos hq, xs_228_39, nI_add]
        rw [if_neg (by rw [Bool.eq_false_iff.mpr hq, Bool.false_and]; decide)] at h
        exact h _
    · rw [xs_228_4, MT_10 hM]
      simp (disch := first | assumption | omega | decide | exact vp_in_nI (by omega) (by omega) | exact and1_bN _ | (simp only [pk_mul, nI_add, pred_s]; exact vp_in_nI (by omega) (by omega))) only [nI_add, pk_mul, nI_ltI, nI_eq, z_eq, z_lt, z_gt, z_bN, bN_z, bN_p, bN_i1, nI_clamp, rng_nI, ↓reduceIte, if_true, if_false, not_true_eq_false, not_false_eq_true, true_and, and_true, and_self, false_and, and_false, Nat.lt_irrefl, xs_228_41]
theorem m_keepsOf (hM : MT I T) (q : Nat → Bool) {k : Nat} (hk : k ≤ tH T) (hq : ∀ I2 : Nat → Nat → Int32, (∀ c, c ≠ 58 → I2 c = I c) → (∀ j, j ≠ 30 → I2 58 j = I 58 j) → I2 58 30 = nI (bs (tN T) (kst q (lng T q k) (kmx q (lng T q k) (tN T)))) → Q (some (.int (nI (kmx q (lng T q k) (tN T)) - nI 1))) (wS, I2, J, wP t dr G)) : xr scr (d + k + 5) xc_226 0 [some (.ref 58), some (.int (nI (bs (tN T) q))), some (.int (nI (tH T - k))), none, none, none] [] (wS, I, J, wP t dr G) Q := by
  have hn := MT_n hM
  have hh5 := MT_h hM
  obtain ⟨g, hg⟩ : ∃ g, g = lng T q k := ⟨_, rfl⟩
  have hgb : ∀ y, g y ≤ k := fun y => by rw [hg]; exact lng_le T q k y
  rw [← hg] at hq
  rw [xs_226_0]
  refine up_0 (P := fun y => ∀ (I2 : Nat → Nat → Int32) (o5 : Option Value), (∀ c, c ≠ 58 → I2 c = I c) → (∀ j, j ≠ 30 → I2 58 j = I 58 j) → I2 58 30 = nI (bs y (kst q g (kmx q g y))) → xr scr (d + k + 5) xc_226 7 [some (.ref 58), some (.int (nI (bs (tN T) q))), some (.int (nI (tH T - k))), some (.int (nI (kmx q g y) - nI 1)), some (.int (nI y)), o5] [] (wS, I2, J, wP t dr G) Q) (tN T) (fun y hy h I2 o5 f2 g2 s2 => ?_) (fun I2 o5 f2 g2 s2 => ?_) _ none (fun c hc => by rw [xu_fr hc]) (fun j hj => by rw [xu_nj hj]) (by rw [xu_eq]; rfl)
  · have hM2 : MT I2 T := MT_fr hM (g2 10 (by decide)) (g2 11 (by decide)) (f2 65 (by decide))
    have hy8 : y < 8 := by omega
    have hgy := hgb y
    have hkm := kmx_le (q := q) (n := y) hgb
    rw [kst_s] at h
    rw [kmx_s] at h
    rw [xs_226_7, MT_10 hM2]
    simp (disch := first | assumption | omega | decide | exact vp_in_nI (by omega) (by omega) | exact and1_bN _ | (simp only [pk_mul, nI_add, pred_s]; exact vp_in_nI (by omega) (by omega))) only [nI_add, pk_mul, nI_ltI, nI_eq, z_eq, z_lt, z_gt, z_bN, bN_z, bN_p, bN_i1, nI_clamp, rng_nI, ↓reduceIte, if_true, if_false, not_true_eq_false, not_false_eq_true, true_and, and_true, and_self, false_and, and_false, hy, xs_226_11, m_has hn q hy8, Option.toList_some, Option.toList_none, List.cons_append, List.nil_append, List.append_nil, xs_226_14]
    by_cases hqy : q y = true
    · rw [if_neg (fun e => e hqy), xs_226_15, m_longOf hM2 q k y _ hy hk, ← hg]
      rw [if_pos hqy, if_pos hqy] at h
      simp (disch := first | assumption | omega | decide | exact vp_in_nI (by omega) (by omega) | exact and1_bN _ | (simp only [pk_mul, nI_add, pred_s]; exact vp_in_nI (by omega) (by omega))) only [Option.toList_some, Option.toList_none, List.cons_append, List.nil_append, List.append_nil, xs_226_20, cmpm]
      by_cases h1 : kmx q g y ≤ g y
      · rw [if_pos h1, xs_226_25]
        rw [if_pos h1, show max (kmx q g y) (g y + 1) = g y + 1 by omega, pred_s] at h
        simp (disch := first | assumption | omega | decide | exact vp_in_nI (by omega) (by omega) | exact and1_bN _ | (simp only [pk_mul, nI_add, pred_s]; exact vp_in_nI (by omega) (by omega))) only [xs_226_29, cmpm]
        rw [if_pos h1]
        simp (disch := first | assumption | omega | decide | exact vp_in_nI (by omega) (by omega) | exact and1_bN _ | (simp only [pk_mul, nI_add, pred_s]; exact vp_in_nI (by omega) (by omega))) only [xs_226_33, xs_226_36, ↓reduceIte, xs_226_43, xs_226_48, xu_eq, sb_one, sb_or, Nat.zero_or, xs_226_50, nI_add]
        exact h _ _ (fun c hc => by rw [xu_fr hc, xu_fr hc, f2 c hc]) (fun j hj => by rw [xu_nj hj, xu_nj hj, g2 j hj]) (by rw [xu_eq])
      · rw [if_neg h1, xs_226_27, s2]
        rw [if_neg h1, show max (kmx q g y) (g y + 1) = kmx q g y by omega] at h
        simp (disch := first | assumption | omega | decide | exact vp_in_nI (by omega) (by omega) | exact and1_bN _ | (simp only [pk_mul, nI_add, pred_s]; exact vp_in_nI (by omega) (by omega))) only [xs_226_29, cmpm]
        rw [if_neg h1]
        obtain ⟨m, hm⟩ : ∃ m, kmx q g y = m + 1 := ⟨kmx q g y - 1, by omega⟩
        have he : (nI (g y) = nI (kmx q g y) - nI 1) ↔ g y + 1 = kmx q g y := by
          rw [hm, pred_s, nI_eq (by omega) (by omega)]
          omega
        simp (disch := first | assumption | omega | decide | exact vp_in_nI (by omega) (by omega) | exact and1_bN _ | (simp only [pk_mul, nI_add, pred_s]; exact vp_in_nI (by omega) (by omega))) only [xs_226_35, xs_226_36, he, xu_eq]
        by_cases h3 : g y + 1 = kmx q g y
        · rw [if_pos h3] at h ⊢
          simp (disch := first | assumption | omega | decide | exact vp_in_nI (by omega) (by omega) | exact and1_bN _ | (simp only [pk_mul, nI_add, pred_s]; exact vp_in_nI (by omega) (by omega))) only [xs_226_43, xs_226_48, sb_one, sb_or, bs_put, xs_226_50, nI_add]
          exact h _ _ (fun c hc => by rw [xu_fr hc, xu_fr hc, f2 c hc]) (fun j hj => by rw [xu_nj hj, xu_nj hj, g2 j hj]) (by rw [xu_eq])
        · rw [if_neg h3] at h ⊢
          simp (disch := first | assumption | omega | decide | exact vp_in_nI (by omega) (by omega) | exact and1_bN _ | (simp only [pk_mul, nI_add, pred_s]; exact vp_in_nI (by omega) (by omega))) only [xs_226_47, xs_226_48, sb_or, Nat.or_zero, xs_226_50, nI_add]
          exact h _ _ (fun c hc => by rw [xu_fr hc, xu_fr hc, f2 c hc]) (fun j hj => by rw [xu_nj hj, xu_nj hj, g2 j hj]) (by rw [xu_eq])
    · rw [if_pos hqy, xs_226_50, nI_add]
      rw [if_neg hqy, if_neg hqy] at h
      exact h I2 _ f2 g2 s2
  · have hM2 : MT I2 T := MT_fr hM (g2 10 (by decide)) (g2 11 (by decide)) (f2 65 (by decide))
    rw [xs_226_7, MT_10 hM2]
    simp (disch := first | assumption | omega | decide | exact vp_in_nI (by omega) (by omega) | exact and1_bN _ | (simp only [pk_mul, nI_add, pred_s]; exact vp_in_nI (by omega) (by omega))) only [nI_add, pk_mul, nI_ltI, nI_eq, z_eq, z_lt, z_gt, z_bN, bN_z, bN_p, bN_i1, nI_clamp, rng_nI, ↓reduceIte, if_true, if_false, not_true_eq_false, not_false_eq_true, true_and, and_true, and_self, false_and, and_false, Nat.lt_irrefl, xs_226_52]
    exact hq I2 f2 g2 s2
end LONGS
