/-! WORTH -/
/-- the first of those below i at which g is greatest -/
def bst (p : Nat → Bool) (g : Nat → Nat) : Nat → Option Nat
  | 0 => none
  | i + 1 => match bst p g i with
    | none => if p i = true then some i else none
    | some f => if p i = true ∧ g f < g i then some i else some f
def bvl (g : Nat → Nat) (o : Option Nat) : Nat := match o with
  | none => 0
  | some f => g f
theorem bst_s (p : Nat → Bool) (g : Nat → Nat) (i : Nat) : bst p g (i + 1) = match bst p g i with
    | none => if p i = true then some i else none
    | some f => if p i = true ∧ g f < g i then some i else some f := rfl
theorem bst_lt {p : Nat → Bool} {g : Nat → Nat} {i f : Nat} (h : bst p g i = some f) : f < i ∧ p f = true := by
  induction i with
  | zero => cases h
  | succ i ih =>
    rw [bst_s] at h
    cases hb : bst p g i with
    | none =>
      rw [hb] at h
      simp only at h
      by_cases hp : p i = true
      · rw [if_pos hp] at h; cases h; exact ⟨Nat.lt_succ_self _, hp⟩
      · rw [if_neg hp] at h; cases h
    | some f2 =>
      rw [hb] at h
      simp only at h
      by_cases hp : p i = true ∧ g f2 < g i
      · rw [if_pos hp] at h; cases h; exact ⟨Nat.lt_succ_self _, hp.1⟩
      · rw [if_neg hp] at h; cases h; have := ih hb; exact ⟨by omega, this.2⟩
theorem bst_c {p p2 : Nat → Bool} {g g2 : Nat → Nat} {n : Nat} (h : ∀ y, y < n → p y = p2 y) (h2 : ∀ y, y < n → p y = true → g y = g2 y) : bst p g n = bst p2 g2 n := by
  induction n with
  | zero => rfl
  | succ n ih =>
    have e := ih (fun y hy => h y (by omega)) (fun y hy => h2 y (by omega))
    rw [bst_s, bst_s, ← e]
    cases hb : bst p g n with
    | none => simp only [h n (by omega)]
    | some f =>
      have hf := bst_lt hb
      have e2 := h2 f (by omega) hf.2
      simp only [← h n (by omega), ← e2]
      by_cases hp : p n = true
      · rw [h2 n (by omega) hp]
      · simp only [hp, Bool.false_eq_true, false_and, ↓reduceIte]
def wor (T : TN) : Nat → Nat → Nat
  | 0, _ => 9
  | k + 1, x => bvl (fun y => wor T k y - tF T y) (bst (fun y => mayB T x y (tH T - (k + 1))) (fun y => wor T k y - tF T y) (tN T))
def wto (T : TN) (k x : Nat) : Option Nat := match k with
  | 0 => none
  | k + 1 => bst (fun y => mayB T x y (tH T - (k + 1))) (fun y => wor T k y - tF T y) (tN T)
theorem wor_le (T : TN) : ∀ k x, wor T k x ≤ 9
  | 0, _ => Nat.le_refl 9
  | k + 1, x => by
    unfold wor bvl
    split
    · omega
    · rename_i f _
      have := wor_le T k f
      show wor T k f - tF T f ≤ 9
      omega
theorem subs {a b : Nat} (ha : a < 2 ^ 30) (hb : b < 2 ^ 30) : (if nI 0 < nI a - nI b then nI a - nI b else nI 0) = nI (a - b) := by
  by_cases h : b ≤ a
  · rw [pk_sub h]
    by_cases h2 : 0 < a - b
    · rw [if_pos ((nI_ltI (by decide) (by omega)).mpr h2)]
    · rw [if_neg (fun e => h2 ((nI_ltI (by decide) (by omega)).mp e)), show a - b = 0 by omega]
  · rw [if_neg, show a - b = 0 by omega]
    intro e
    have h3 := pk_sneg hb (show a < b by omega)
    rw [nI_0] at e
    rw [Int32.lt_iff_toInt_lt] at e h3
    omega
section VALUES
variable {scr : xi_X} {d : Nat} {Q : Option Value → xi_S → Prop} {I : Nat → Nat → Int32} {J : Nat → Nat → Int64} {t dr : Nat} {G : Nat → Nat} {T : TN}
/-- the table of a HOUR is right -/
def WT (I : Nat → Nat → Int32) (T : TN) (u : Nat) : Prop := ∀ x, x < tN T → I 45 (u * 7 + x) = nI (wor T (tH T - u) x)
theorem c_valueTo (ht : tw t) (hG : G 44 = t) (hT : TR I t T) {x u : Nat} (hx : x < tN T) (hu : u ≤ tH T) (hW : WT I T u) : xr scr (d + 1) xc_107 0 [some (.ref 44), some (.int (nI x)), some (.int (nI u))] [] (wS, I, J, wP t dr G) Q = Q (some (.int (nI (wor T (tH T - u) x)))) (wS, I, J, wP t dr G) := by
  have hn := TR_n hT
  have hh5 := TR_h hT
  have htG : tw (G 44) := by rw [hG]; exact ht
  have hTG : TR I (G 44) T := by rw [hG]; exact hT
  have h1 := hW x hx
  have hu1 : u < tH T + 1 := by omega
  simp (disch := first | assumption | omega | decide | exact vp_in_nI (by omega) (by omega) | exact and1_bN _ | (simp only [pk_mul, nI_add, pred_s]; exact vp_in_nI (by omega) (by omega))) only [xs_107_0, xs_107_4, xs_107_5, xs_107_9, xs_107_10, xs_107_19, xs_107_20, c_isMoment htG hTG, c_isOne htG hTG, Option.toList_some, Option.toList_none, List.cons_append, List.nil_append, List.append_nil, nI_add, pk_mul, nI_ltI, nI_eq, z_eq, z_lt, z_gt, z_bN, bN_z, bN_p, bN_i1, nI_clamp, rng_nI, ↓reduceIte, if_true, if_false, not_true_eq_false, not_false_eq_true, true_and, and_true, and_self, false_and, and_false, hu1, hx, h1]
theorem c_valueByGiving (ht : tw t) (hG : G 44 = t) (hT : TR I t T) {y u : Nat} (hy : y < tN T) (hu : u < tH T) (hW : WT I T (u + 1)) : xr scr (d + 2) xc_106 0 [some (.ref 44), some (.int (nI y)), some (.int (nI u))] [] (wS, I, J, wP t dr G) Q = Q (some (.int (nI (wor T (tH T - (u + 1)) y - tF T y)))) (wS, I, J, wP t dr G) := by
  have htG : tw (G 44) := by rw [hG]; exact ht
  have hTG : TR I (G 44) T := by rw [hG]; exact hT
  have hf := TR_f9 hT hy
  have hw := wor_le T (tH T - (u + 1)) y
  have hu1 : u + 1 ≤ tH T := by omega
  simp (disch := first | assumption | omega | decide | exact vp_in_nI (by omega) (by omega) | exact and1_bN _ | (simp only [pk_mul, nI_add, pred_s]; exact vp_in_nI (by omega) (by omega))) only [xs_106_0, xs_106_7, xs_106_11, nI_add, c_valueTo ht hG hT hy hu1 hW, c_feeOf htG hTG hy, Option.toList_some, Option.toList_none, List.cons_append, List.nil_append, List.append_nil, subs]
theorem c_bestTaker (ht : tw t) (hG : G 44 = t) (hT : TT I t T) {x u : Nat} (hx : x < tN T) (hu : u ≤ tH T) (hW : u < tH T → WT I T (u + 1)) : xr scr (d + 3) xc_105 0 [some (.ref 44), some (.int (nI x)), some (.int (nI u)), none, none, none, none] [] (wS, I, J, wP t dr G) Q = Q (some (.int (glI (wto T (tH T - u) x)))) (wS, I, J, wP t dr G) := by
  have hn := TR_n hT.1
  have hh5 := TR_h hT.1
  have htG : tw (G 44) := by rw [hG]; exact ht
  have hTG : TT I (G 44) T := by rw [hG]; exact hT
  have g1 : I (G 44) 1 = nI (tN T) := TR_1 hTG.1
  rw [xs_105_0 htG]
  by_cases hlt : u < tH T
  · have hW1 := hW hlt
    obtain ⟨k, hk⟩ : ∃ k, tH T - u = k + 1 := ⟨tH T - u - 1, by omega⟩
    have hk2 : tH T - (u + 1) = k := by omega
    have hk3 : tH T - (k + 1) = u := by omega
    have ew : wto T (tH T - u) x = bst (fun y => mayB T x y u) (fun y => wor T k y - tF T y) (tN T) := by
      rw [hk]
      show bst (fun y => mayB T x y (tH T - (k + 1))) _ _ = _
      rw [hk3]
    rw [ew]
    obtain ⟨p, hp⟩ : ∃ p, p = fun y => mayB T x y u := ⟨_, rfl⟩
    obtain ⟨g, hg⟩ : ∃ g, g = fun y => wor T k y - tF T y := ⟨_, rfl⟩
    have hvg : ∀ y, y < tN T → ∀ (d : Nat) (Q2 : Option Value → xi_S → Prop), xr scr (d + 2) xc_106 0 [some (.ref 44), some (.int (nI y)), some (.int (nI u))] [] (wS, I, J, wP t dr G) Q2 = Q2 (some (.int (nI (g y)))) (wS, I, J, wP t dr G) := fun y hy d Q2 => by
      rw [c_valueByGiving ht hG hT.1 hy hlt hW1, hk2, hg]
    have hgb : ∀ y, g y ≤ 9 := fun y => by rw [hg]; have := wor_le T k y; show wor T k y - tF T y ≤ 9; omega
    simp (disch := first | assumption | omega | decide | exact vp_in_nI (by omega) (by omega) | exact and1_bN _ | (simp only [pk_mul, nI_add, pred_s]; exact vp_in_nI (by omega) (by omega))) only [c_takersOf htG hTG hx hlt, Option.toList_some, Option.toList_none, List.cons_append, List.nil_append, List.append_nil, xs_105_5, mset]
    rw [← hp, ← hg]
    refine up_0 (P := fun y => ∀ o6 : Option Value, xr scr (d + 3) xc_105 10 [some (.ref 44), some (.int (nI x)), some (.int (nI u)), some (.int (nI (bs (tN T) p))), some (.int (glI (bst p g y))), some (.int (nI y)), o6] [] (wS, I, J, wP t dr G) Q = Q (some (.int (glI (bst p g (tN T))))) (wS, I, J, wP t dr G)) (tN T) (fun y hy h o6 => ?_) (fun o6 => ?_) none
    · have hy8 : y < 8 := by omega
      rw [xs_105_10 htG, g1]
      simp (disch := first | assumption | omega | decide | exact vp_in_nI (by omega) (by omega) | exact and1_bN _ | (simp only [pk_mul, nI_add, pred_s]; exact vp_in_nI (by omega) (by omega))) only [nI_add, pk_mul, nI_ltI, nI_eq, z_eq, z_lt, z_gt, z_bN, bN_z, bN_p, bN_i1, nI_clamp, rng_nI, ↓reduceIte, if_true, if_false, not_true_eq_false, not_false_eq_true, true_and, and_true, and_self, false_and, and_false, hy, xs_105_15, sb_t]
      rw [bst_s] at h
      by_cases hpy : p y = true
      · simp (disch := first | assumption | omega | decide | exact vp_in_nI (by omega) (by omega) | exact and1_bN _ | (simp only [pk_mul, nI_add, pred_s]; exact vp_in_nI (by omega) (by omega))) only [hpy, nI_add, pk_mul, nI_ltI, nI_eq, z_eq, z_lt, z_gt, z_bN, bN_z, bN_p, bN_i1, nI_clamp, rng_nI, ↓reduceIte, if_true, if_false, not_true_eq_false, not_false_eq_true, true_and, and_true, and_self, false_and, and_false, xs_105_21, xs_105_24, Nat.one_ne_zero, xs_105_27]
        cases hb : bst p g y with
        | none =>
          rw [hb] at h
          simp only [hpy, ↓reduceIte] at h
          rw [show glI none = -9 from rfl, if_pos rfl]
          simp (disch := first | assumption | omega | decide | exact vp_in_nI (by omega) (by omega) | exact and1_bN _ | (simp only [pk_mul, nI_add, pred_s]; exact vp_in_nI (by omega) (by omega))) only [xs_105_39, xs_105_41, nI_add, pk_mul, nI_ltI, nI_eq, z_eq, z_lt, z_gt, z_bN, bN_z, bN_p, bN_i1, nI_clamp, rng_nI, ↓reduceIte, if_true, if_false, not_true_eq_false, not_false_eq_true, true_and, and_true, and_self, false_and, and_false]
          exact h _
        | some f =>
          have hf := (bst_lt hb).1
          rw [hb] at h
          simp only [hpy, true_and] at h
          rw [show glI (some f) = nI f from rfl, if_neg (fun e => (m9_ne (by omega)).mp e)]
          have b1 := hgb y
          have b2 := hgb f
          have hfn : f < tN T := by omega
          simp (disch := first | assumption | omega | decide | exact vp_in_nI (by omega) (by omega) | exact and1_bN _ | (simp only [pk_mul, nI_add, pred_s]; exact vp_in_nI (by omega) (by omega))) only [xs_105_30, xs_105_34, xs_105_38, hvg y hy, hvg f hfn, Option.toList_some, Option.toList_none, List.cons_append, List.nil_append, List.append_nil, nI_add, pk_mul, nI_ltI, nI_eq, z_eq, z_lt, z_gt, z_bN, bN_z, bN_p, bN_i1, nI_clamp, rng_nI, ↓reduceIte, if_true, if_false, not_true_eq_false, not_false_eq_true, true_and, and_true, and_self, false_and, and_false]
          by_cases hlt2 : g f < g y
          · rw [if_pos hlt2] at h ⊢
            simp (disch := first | assumption | omega | decide | exact vp_in_nI (by omega) (by omega) | exact and1_bN _ | (simp only [pk_mul, nI_add, pred_s]; exact vp_in_nI (by omega) (by omega))) only [xs_105_39, xs_105_41, nI_add, pk_mul, nI_ltI, nI_eq, z_eq, z_lt, z_gt, z_bN, bN_z, bN_p, bN_i1, nI_clamp, rng_nI, ↓reduceIte, if_true, if_false, not_true_eq_false, not_false_eq_true, true_and, and_true, and_self, false_and, and_false]
            exact h _
          · rw [if_neg hlt2] at h ⊢
            simp (disch := first | assumption | omega | decide | exact vp_in_nI (by omega) (by omega) | exact and1_bN _ | (simp only [pk_mul, nI_add, pred_s]; exact vp_in_nI (by omega) (by omega))) only [xs_105_41, nI_add, pk_mul, nI_ltI, nI_eq, z_eq, z_lt, z_gt, z_bN, bN_z, bN_p, bN_i1, nI_clamp, rng_nI, ↓reduceIte, if_true, if_false, not_true_eq_false, not_false_eq_true, true_and, and_true, and_self, false_and, and_false]
            exact h _
      · simp (disch := first | assumption | omega | decide | exact vp_in_nI (by omega) (by omega) | exact and1_bN _ | (simp only [pk_mul, nI_add, pred_s]; exact vp_in_nI (by omega) (by omega))) only [hpy, nI_add, pk_mul, nI_ltI, nI_eq, z_eq, z_lt, z_gt, z_bN, bN_z, bN_p, bN_i1, nI_clamp, rng_nI, ↓reduceIte, if_true, if_false, not_true_eq_false, not_false_eq_true, true_and, and_true, and_self, false_and, and_false, xs_105_23, xs_105_24, Bool.false_eq_true, xs_105_41]
        cases hb : bst p g y with
        | none =>
          rw [hb] at h
          simp only [hpy, Bool.false_eq_true, ↓reduceIte] at h
          exact h _
        | some f =>
          rw [hb] at h
          simp only [hpy, Bool.false_eq_true, false_and, ↓reduceIte] at h
          exact h _
    · rw [xs_105_10 htG, g1]
      simp (disch := first | assumption | omega | decide | exact vp_in_nI (by omega) (by omega) | exact and1_bN _ | (simp only [pk_mul, nI_add, pred_s]; exact vp_in_nI (by omega) (by omega))) only [nI_add, pk_mul, nI_ltI, nI_eq, z_eq, z_lt, z_gt, z_bN, bN_z, bN_p, bN_i1, nI_clamp, rng_nI, ↓reduceIte, if_true, if_false, not_true_eq_false, not_false_eq_true, true_and, and_true, and_self, false_and, and_false, Nat.lt_irrefl, xs_105_43]
  · have e : u = tH T := by omega
    subst e
    rw [Nat.sub_self]
    simp (disch := first | assumption | omega | decide | exact vp_in_nI (by omega) (by omega) | exact and1_bN _ | (simp only [pk_mul, nI_add, pred_s]; exact vp_in_nI (by omega) (by omega))) only [c_takersOf_m htG hTG.1 hx, Option.toList_some, Option.toList_none, List.cons_append, List.nil_append, List.append_nil, xs_105_5]
    refine up_0 (P := fun y => ∀ o6 : Option Value, xr scr (d + 3) xc_105 10 [some (.ref 44), some (.int (nI x)), some (.int (nI (tH T))), some (.int (nI 0)), some (.int (-9)), some (.int (nI y)), o6] [] (wS, I, J, wP t dr G) Q = Q (some (.int (-9))) (wS, I, J, wP t dr G)) (tN T) (fun y hy h o6 => ?_) (fun o6 => ?_) none
    · have hy8 : y < 8 := by omega
      have hz := sb_t hn (fun _ => false) hy8
      rw [bs_0] at hz
      rw [xs_105_10 htG, g1]
      simp (disch := first | assumption | omega | decide | exact vp_in_nI (by omega) (by omega) | exact and1_bN _ | (simp only [pk_mul, nI_add, pred_s]; exact vp_in_nI (by omega) (by omega))) only [nI_add, pk_mul, nI_ltI, nI_eq, z_eq, z_lt, z_gt, z_bN, bN_z, bN_p, bN_i1, nI_clamp, rng_nI, ↓reduceIte, if_true, if_false, not_true_eq_false, not_false_eq_true, true_and, and_true, and_self, false_and, and_false, hy, xs_105_15, hz, Bool.false_eq_true, xs_105_23, xs_105_24, xs_105_41]
      exact h _
    · rw [xs_105_10 htG, g1]
      simp (disch := first | assumption | omega | decide | exact vp_in_nI (by omega) (by omega) | exact and1_bN _ | (simp only [pk_mul, nI_add, pred_s]; exact vp_in_nI (by omega) (by omega))) only [nI_add, pk_mul, nI_ltI, nI_eq, z_eq, z_lt, z_gt, z_bN, bN_z, bN_p, bN_i1, nI_clamp, rng_nI, ↓reduceIte, if_true, if_false, not_true_eq_false, not_false_eq_true, true_and, and_true, and_self, false_and, and_false, Nat.lt_irrefl, xs_105_43]
/-- settle makes the tables of the HOURS from f on -/
theorem c_settleV (ht : tw t) (hT : TT I t T) {f : Nat} (hf : f ≤ tH T) (hq : ∀ I2 : Nat → Nat → Int32, (∀ k, k ≠ 45 → I2 k = I k) → (∀ u, f ≤ u → u ≤ tH T → WT I2 T u) → Q none (wS, I2, J, wP t dr (wU 44 t G))) : xr scr (d + 4) xc_104 0 [some (.ref 44), some (.ref t), some (.int (nI f)), none, none, none, none] [] (wS, I, J, wP t dr G) Q := by
  have hn := TR_n hT.1
  have hh5 := TR_h hT.1
  have ht' : t = 15 ∨ t = 20 := ht
  obtain ⟨G2, hG2⟩ : ∃ G2, G2 = wU 44 t G := ⟨_, rfl⟩
  have hGw : G2 44 = t := by rw [hG2]; exact wU_eq
  have htG : tw (G2 44) := by rw [hGw]; exact ht
  rw [xs_104_0 ht, TR_0 hT.1, ← hG2]
  rw [← hG2] at hq
  have TTf : ∀ I2 : Nat → Nat → Int32, (∀ k, k ≠ 45 → I2 k = I k) → TT I2 t T := fun I2 h => TT_fr hT (h _ (by omega)) (h _ (by omega)) (h _ (by omega)) (h _ (by omega)) (h _ (by omega))
  have key : ∀ k, k ≤ tH T + 1 - f → ∀ I2 : Nat → Nat → Int32, (∀ k, k ≠ 45 → I2 k = I k) → (∀ u, f + k ≤ u → u ≤ tH T → WT I2 T u) → ∀ o4 o5 o6 : Option Value, xr scr (d + 4) xc_104 7 [some (.ref 44), some (.ref t), some (.int (nI f)), some (.int (nI (f + k) - nI 1)), o4, o5, o6] [] (wS, I2, J, wP t dr G2) Q := by
    intro k
    induction k with
    | zero =>
      intro _ I2 f2 w2 o4 o5 o6
      simp (disch := first | assumption | omega | decide | exact vp_in_nI (by omega) (by omega) | exact and1_bN _ | (simp only [pk_mul, nI_add, pred_s]; exact vp_in_nI (by omega) (by omega))) only [xs_104_7, Nat.add_zero, pred_lt, ↓reduceIte, xs_104_54]
      exact hq I2 f2 (fun u h1 h2 => w2 u (by omega) h2)
    | succ k ih =>
      intro hk I2 f2 w2 o4 o5 o6
      have hnl : ¬ f + k < f := by omega
      rw [show f + (k + 1) = f + k + 1 by omega, pred_s]
      simp (disch := first | assumption | omega | decide | exact vp_in_nI (by omega) (by omega) | exact and1_bN _ | (simp only [pk_mul, nI_add, pred_s]; exact vp_in_nI (by omega) (by omega))) only [xs_104_7, xs_104_10, xs_104_12, nI_add, pk_mul, nI_ltI, nI_eq, z_eq, z_lt, z_gt, z_bN, bN_z, bN_p, bN_i1, nI_clamp, rng_nI, ↓reduceIte, if_true, if_false, not_true_eq_false, not_false_eq_true, true_and, and_true, and_self, false_and, and_false, hnl]
      obtain ⟨u, hu⟩ : ∃ u, u = f + k := ⟨_, rfl⟩
      rw [show f + (k + 1) = f + k + 1 by omega] at w2
      rw [← hu] at w2 ih ⊢
      have huh : u ≤ tH T := by omega
      refine up_0 (P := fun x => ∀ I3 : Nat → Nat → Int32, (∀ k, k ≠ 45 → I3 k = I k) → (∀ u2, u + 1 ≤ u2 → u2 ≤ tH T → WT I3 T u2) → (∀ z, z < x → z < tN T → I3 45 (u * 7 + z) = nI (wor T (tH T - u) z)) → ∀ o5 o6 : Option Value, xr scr (d + 4) xc_104 14 [some (.ref 44), some (.ref t), some (.int (nI f)), some (.int (nI u)), some (.int (nI x)), o5, o6] [] (wS, I3, J, wP t dr G2) Q) (tN T) (fun x hx h I3 f3 w3 z3 o5 o6 => ?_) (fun I3 f3 w3 z3 o5 o6 => ?_) I2 f2 (fun u2 h1 h2 => w2 u2 (by omega) h2) (fun z hz => absurd hz (Nat.not_lt_zero _)) o5 o6
      · have hT3 := TTf I3 f3
        have g1 : I3 (G2 44) 1 = nI (tN T) := by rw [hGw]; exact TR_1 hT3.1
        have g0 : I3 (G2 44) 0 = nI (tH T) := by rw [hGw]; exact TR_0 hT3.1
        rw [xs_104_14 htG, g1]
        simp (disch := first | assumption | omega | decide | exact vp_in_nI (by omega) (by omega) | exact and1_bN _ | (simp only [pk_mul, nI_add, pred_s]; exact vp_in_nI (by omega) (by omega))) only [nI_add, pk_mul, nI_ltI, nI_eq, z_eq, z_lt, z_gt, z_bN, bN_z, bN_p, bN_i1, nI_clamp, rng_nI, ↓reduceIte, if_true, if_false, not_true_eq_false, not_false_eq_true, true_and, and_true, and_self, false_and, and_false, hx, xs_104_19, c_bestTaker ht hGw hT3 hx huh (fun h => w3 (u + 1) (Nat.le_refl _) h), Option.toList_some, Option.toList_none, List.cons_append, List.nil_append, List.append_nil, xs_104_23]
        have fin : ∀ (m : Int32) (o5 : Int32), (u < tH T → m = nI (wor T (tH T - u) x)) → xr scr (d + 4) xc_104 33 [some (.ref 44), some (.ref t), some (.int (nI f)), some (.int (nI u)), some (.int (nI x)), some (.int o5), o6] [.int m] (wS, I3, J, wP t dr G2) Q := by
          intro m o5 hm
          have last : ∀ m : Int32, m = nI (wor T (tH T - u) x) → ∀ o6 : Int32, xr scr (d + 4) xc_104 49 [some (.ref 44), some (.ref t), some (.int (nI f)), some (.int (nI u)), some (.int (nI x)), some (.int o5), some (.int o6)] [.int m, .int (nI (u * 7 + x)), .ref 45] (wS, I3, J, wP t dr G2) Q := by
            intro m hm o6
            rw [xs_104_49 (vp_in_nI (by omega) (by omega)), nI_clamp (by omega), nI_add, hm]
            refine h _ (fun k hk => by rw [xu_fr hk, f3 k hk]) (fun u2 h1 h2 z hz => ?_) (fun z hz hzn => ?_) _ _
            · rw [xu_nj (by omega), w3 u2 h1 h2 z hz]
            · rw [xu_at]
              by_cases e : z = x
              · rw [if_pos (by rw [e]), e]
              · rw [if_neg (by omega), z3 z (by omega) hzn]
          rw [xs_104_33 htG, g0]
          simp (disch := first | assumption | omega | decide | exact vp_in_nI (by omega) (by omega) | exact and1_bN _ | (simp only [pk_mul, nI_add, pred_s]; exact vp_in_nI (by omega) (by omega))) only [nI_add, pk_mul, nI_ltI, nI_eq, z_eq, z_lt, z_gt, z_bN, bN_z, bN_p, bN_i1, nI_clamp, rng_nI, ↓reduceIte, if_true, if_false, not_true_eq_false, not_false_eq_true, true_and, and_true, and_self, false_and, and_false]
          by_cases e : u = tH T
          · rw [if_pos e, xs_104_46]
            refine last _ ?_ _
            rw [e, Nat.sub_self]
            rfl
          · rw [if_neg e, xs_104_48]
            exact last _ (hm (by omega)) _
        by_cases e : u = tH T
        · rw [e, Nat.sub_self, ← e, show glI (wto T 0 x) = -9 from rfl, if_pos rfl, xs_104_27]
          exact fin _ _ (fun h => absurd h (by omega))
        · obtain ⟨k2, hk2⟩ : ∃ k2, tH T - u = k2 + 1 := ⟨tH T - u - 1, by omega⟩
          have hk3 : tH T - (u + 1) = k2 := by omega
          have ev : wor T (tH T - u) x = bvl (fun y => wor T k2 y - tF T y) (wto T (tH T - u) x) := by rw [hk2]; rfl
          cases hb : wto T (tH T - u) x with
          | none =>
            rw [show glI none = -9 from rfl, if_pos rfl, xs_104_27]
            refine fin _ _ (fun _ => ?_)
            rw [ev, hb]
            rfl
          | some y =>
            have hy : y < tN T := by
              rw [hk2] at hb
              exact (bst_lt hb).1
            rw [show glI (some y) = nI y from rfl, if_neg (fun e => (m9_ne (by omega)).mp e), xs_104_29]
            have hult : u < tH T := by omega
            simp (disch := first | assumption | omega | decide | exact vp_in_nI (by omega) (by omega) | exact and1_bN _ | (simp only [pk_mul, nI_add, pred_s]; exact vp_in_nI (by omega) (by omega))) only [c_valueByGiving ht hGw hT3.1 hy hult (w3 (u + 1) (Nat.le_refl _) hult), Option.toList_some, Option.toList_none, List.cons_append, List.nil_append, List.append_nil]
            refine fin _ _ (fun _ => ?_)
            rw [ev, hb, hk3]
            rfl
      · have hT3 := TTf I3 f3
        have g1 : I3 (G2 44) 1 = nI (tN T) := by rw [hGw]; exact TR_1 hT3.1
        rw [xs_104_14 htG, g1]
        simp (disch := first | assumption | omega | decide | exact vp_in_nI (by omega) (by omega) | exact and1_bN _ | (simp only [pk_mul, nI_add, pred_s]; exact vp_in_nI (by omega) (by omega))) only [nI_add, pk_mul, nI_ltI, nI_eq, z_eq, z_lt, z_gt, z_bN, bN_z, bN_p, bN_i1, nI_clamp, rng_nI, ↓reduceIte, if_true, if_false, not_true_eq_false, not_false_eq_true, true_and, and_true, and_self, false_and, and_false, Nat.lt_irrefl, xs_104_52, add_m1]
        refine ih (by omega) I3 f3 (fun u2 h1 h2 z hz => ?_) _ _ _
        by_cases e : u2 = u
        · rw [e]; exact z3 z hz hz
        · exact w3 u2 (by omega) h2 z hz
  have := key (tH T + 1 - f) (Nat.le_refl _) I (fun _ _ => rfl) (fun u h1 h2 => by omega) none none none
  rw [show f + (tH T + 1 - f) = tH T + 1 by omega, pred_s] at this
  exact this
theorem m_worthOf : ∀ (k x : Nat) (I : Nat → Nat → Int32) (Q : Option Value → xi_S → Prop), MT I T → x < tN T → k ≤ tH T → (∀ I2 : Nat → Nat → Int32, (∀ c, c ≠ 58 → I2 c = I c) → (∀ j, j ≠ 29 → I2 58 j = I 58 j) → I2 58 29 = glI (wto T k x) → Q (some (.int (nI (wor T k x)))) (wS, I2, J, wP t dr G)) → xr scr (d + k + 4) xc_222 0 [some (.ref 58), some (.int (nI x)), some (.int (nI (tH T - k))), none, none, none, none, none] [] (wS, I, J, wP t dr G) Q
  | 0, x, I, Q, hM, hx, hk, hq => by
    rw [xs_222_0, MT_11 hM, Nat.sub_zero, if_pos rfl, xs_222_7]
    exact hq _ (fun c hc => by rw [xu_fr hc]) (fun j hj => by rw [xu_nj hj]) (by rw [xu_eq]; rfl)
  | k + 1, x, I, Q, hM, hx, hk, hq => by
    have hn := MT_n hM
    have hh5 := MT_h hM
    obtain ⟨u, hu⟩ : ∃ u, u = tH T - (k + 1) := ⟨_, rfl⟩
    have hult : u < tH T := by omega
    have hu1 : u + 1 = tH T - k := by omega
    obtain ⟨p, hp⟩ : ∃ p, p = fun y => mayB T x y u := ⟨_, rfl⟩
    obtain ⟨g, hg⟩ : ∃ g, g = fun y => wor T k y - tF T y := ⟨_, rfl⟩
    have ew : wto T (k + 1) x = bst p g (tN T) := by rw [hp, hg, hu]; rfl
    have ev : wor T (k + 1) x = bvl g (bst p g (tN T)) := by rw [hp, hg, hu]; rfl
    have hgb : ∀ y, g y ≤ 9 := fun y => by rw [hg]; have := wor_le T k y; show wor T k y - tF T y ≤ 9; omega
    rw [ew, ev] at hq
    rw [← hu, xs_222_0, MT_11 hM]
    have e1 : ¬ u = tH T := by omega
    simp (disch := first | assumption | omega | decide | exact vp_in_nI (by omega) (by omega) | exact and1_bN _ | (simp only [pk_mul, nI_add, pred_s]; exact vp_in_nI (by omega) (by omega))) only [nI_add, pk_mul, nI_ltI, nI_eq, z_eq, z_lt, z_gt, z_bN, bN_z, bN_p, bN_i1, nI_clamp, rng_nI, ↓reduceIte, if_true, if_false, not_true_eq_false, not_false_eq_true, true_and, and_true, and_self, false_and, and_false, e1, xs_222_9]
    refine up_0 (P := fun y => ∀ (I2 : Nat → Nat → Int32) (o6 o7 : Option Value), (∀ c, c ≠ 58 → I2 c = I c) → (∀ j, j ≠ 29 → I2 58 j = I 58 j) → xr scr (d + (k + 1) + 4) xc_222 15 [some (.ref 58), some (.int (nI x)), some (.int (nI u)), some (.int (glI (bst p g y))), some (.int (nI (bvl g (bst p g y)))), some (.int (nI y)), o6, o7] [] (wS, I2, J, wP t dr G) Q) (tN T) (fun y hy h I2 o6 o7 f2 g2 => ?_) (fun I2 o6 o7 f2 g2 => ?_) _ none none (fun c hc => by rw [xu_fr hc]) (fun j hj => by rw [xu_nj hj])
    · have hM2 : MT I2 T := MT_fr hM (g2 10 (by decide)) (g2 11 (by decide)) (f2 65 (by decide))
      rw [xs_222_15, MT_10 hM2]
      simp (disch := first | assumption | omega | decide | exact vp_in_nI (by omega) (by omega) | exact and1_bN _ | (simp only [pk_mul, nI_add, pred_s]; exact vp_in_nI (by omega) (by omega))) only [nI_add, pk_mul, nI_ltI, nI_eq, z_eq, z_lt, z_gt, z_bN, bN_z, bN_p, bN_i1, nI_clamp, rng_nI, ↓reduceIte, if_true, if_false, not_true_eq_false, not_false_eq_true, true_and, and_true, and_self, false_and, and_false, hy, xs_222_19, m_mayGive hM2 hx hy hult, Option.toList_some, Option.toList_none, List.cons_append, List.nil_append, List.append_nil, xs_222_24]
      have hpy : p y = mayB T x y u := by rw [hp]
      rw [← hpy]
      rw [bst_s] at h
      by_cases hb : p y = true
      · rw [if_neg (fun e => e hb), xs_222_25, nI_add, hu1, show d + (k + 1) + 3 = d + k + 4 by omega]
        refine m_worthOf k y I2 _ hM2 hy (by omega) (fun I3 f3 g3 s3 => ?_)
        have hM3 : MT I3 T := MT_fr hM2 (g3 10 (by decide)) (g3 11 (by decide)) (f3 65 (by decide))
        have hf9 := MT_f9 hM3 hy
        have hw9 := wor_le T k y
        have hgy : wor T k y - tF T y = g y := by rw [hg]
        simp (disch := first | assumption | omega | decide | exact vp_in_nI (by omega) (by omega) | exact and1_bN _ | (simp only [pk_mul, nI_add, pred_s]; exact vp_in_nI (by omega) (by omega))) only [Option.toList_some, Option.toList_none, List.cons_append, List.nil_append, List.append_nil, xs_222_31, m_of, MT_f hM3 hy]
        have val : ∀ o6 : Int32, xr scr (d + k + 4 + 1) xc_222 42 [some (.ref 58), some (.int (nI x)), some (.int (nI u)), some (.int (glI (bst p g y))), some (.int (nI (bvl g (bst p g y)))), some (.int (nI y)), some (.int o6), o7] [.int (nI (g y))] (wS, I3, J, wP t dr G) Q := by
          intro o6
          have b1 := hgb y
          simp (disch := first | assumption | omega | decide | exact vp_in_nI (by omega) (by omega) | exact and1_bN _ | (simp only [pk_mul, nI_add, pred_s]; exact vp_in_nI (by omega) (by omega))) only [xs_222_42]
          cases hc : bst p g y with
          | none =>
            rw [hc] at h
            simp only [hb, ↓reduceIte] at h
            rw [show glI none = -9 from rfl, if_pos rfl]
            simp (disch := first | assumption | omega | decide | exact vp_in_nI (by omega) (by omega) | exact and1_bN _ | (simp only [pk_mul, nI_add, pred_s]; exact vp_in_nI (by omega) (by omega))) only [xs_222_49, xs_222_52, xs_222_55, xs_222_58, xs_222_61, xs_222_64, xs_222_65, nI_add, pk_mul, nI_ltI, nI_eq, z_eq, z_lt, z_gt, z_bN, bN_z, bN_p, bN_i1, nI_clamp, rng_nI, ↓reduceIte, if_true, if_false, not_true_eq_false, not_false_eq_true, true_and, and_true, and_self, false_and, and_false, Nat.one_ne_zero]
            exact h I3 _ _ (fun c hc => by rw [f3 c hc, f2 c hc]) (fun j hj => by rw [g3 j hj, g2 j hj])
          | some f =>
            have hf := (bst_lt hc).1
            have b2 := hgb f
            rw [hc] at h
            simp only [hb, true_and] at h
            rw [show glI (some f) = nI f from rfl, if_neg (fun e => (m9_ne (by omega)).mp e), show bvl g (some f) = g f from rfl]
            simp (disch := first | assumption | omega | decide | exact vp_in_nI (by omega) (by omega) | exact and1_bN _ | (simp only [pk_mul, nI_add, pred_s]; exact vp_in_nI (by omega) (by omega))) only [xs_222_46, nI_add, pk_mul, nI_ltI, nI_eq, z_eq, z_lt, z_gt, z_bN, bN_z, bN_p, bN_i1, nI_clamp, rng_nI, ↓reduceIte, if_true, if_false, not_true_eq_false, not_false_eq_true, true_and, and_true, and_self, false_and, and_false]
            by_cases hlt : g f < g y
            · rw [if_pos hlt] at h ⊢
              simp (disch := first | assumption | omega | decide | exact vp_in_nI (by omega) (by omega) | exact and1_bN _ | (simp only [pk_mul, nI_add, pred_s]; exact vp_in_nI (by omega) (by omega))) only [xs_222_49, xs_222_52, xs_222_55, xs_222_58, xs_222_61, xs_222_64, xs_222_65, nI_add, pk_mul, nI_ltI, nI_eq, z_eq, z_lt, z_gt, z_bN, bN_z, bN_p, bN_i1, nI_clamp, rng_nI, ↓reduceIte, if_true, if_false, not_true_eq_false, not_false_eq_true, true_and, and_true, and_self, false_and, and_false, Nat.one_ne_zero]
              exact h I3 _ _ (fun c hc => by rw [f3 c hc, f2 c hc]) (fun j hj => by rw [g3 j hj, g2 j hj])
            · rw [if_neg hlt] at h ⊢
              simp (disch := first | assumption | omega | decide | exact vp_in_nI (by omega) (by omega) | exact and1_bN _ | (simp only [pk_mul, nI_add, pred_s]; exact vp_in_nI (by omega) (by omega))) only [xs_222_51, xs_222_52, xs_222_57, xs_222_58, xs_222_63, xs_222_64, xs_222_65, nI_add, pk_mul, nI_ltI, nI_eq, z_eq, z_lt, z_gt, z_bN, bN_z, bN_p, bN_i1, nI_clamp, rng_nI, ↓reduceIte, if_true, if_false, not_true_eq_false, not_false_eq_true, true_and, and_true, and_self, false_and, and_false]
              exact h I3 _ _ (fun c hc => by rw [f3 c hc, f2 c hc]) (fun j hj => by rw [g3 j hj, g2 j hj])
        by_cases hle : tF T y ≤ wor T k y
        · simp (disch := first | assumption | omega | decide | exact vp_in_nI (by omega) (by omega) | exact and1_bN _ | (simp only [pk_mul, nI_add, pred_s]; exact vp_in_nI (by omega) (by omega))) only [pk_sub, xs_222_35, nI_add, pk_mul, nI_ltI, nI_eq, z_eq, z_lt, z_gt, z_bN, bN_z, bN_p, bN_i1, nI_clamp, rng_nI, ↓reduceIte, if_true, if_false, not_true_eq_false, not_false_eq_true, true_and, and_true, and_self, false_and, and_false, hgy, xs_222_41]
          exact val _
        · have hneg := pk_sneg (show tF T y < 2 ^ 30 by omega) (show wor T k y < tF T y by omega)
          simp (disch := first | assumption | omega | decide | exact vp_in_nI (by omega) (by omega) | exact and1_bN _ | (simp only [pk_mul, nI_add, pred_s]; exact vp_in_nI (by omega) (by omega))) only [xs_222_35, hneg, ↓reduceIte, xs_222_39]
          have h0 : g y = 0 := by rw [← hgy]; omega
          have := val (nI (wor T k y) - nI (tF T y))
          rw [h0] at this
          exact this
      · rw [if_pos hb, xs_222_65, nI_add]
        cases hc : bst p g y with
        | none =>
          rw [hc] at h
          simp only [hb, Bool.false_eq_true, ↓reduceIte] at h
          exact h I2 _ _ f2 g2
        | some f =>
          rw [hc] at h
          simp only [hb, Bool.false_eq_true, false_and, ↓reduceIte] at h
          exact h I2 _ _ f2 g2
    · have hM2 : MT I2 T := MT_fr hM (g2 10 (by decide)) (g2 11 (by decide)) (f2 65 (by decide))
      rw [xs_222_15, MT_10 hM2]
      simp (disch := first | assumption | omega | decide | exact vp_in_nI (by omega) (by omega) | exact and1_bN _ | (simp only [pk_mul, nI_add, pred_s]; exact vp_in_nI (by omega) (by omega))) only [nI_add, pk_mul, nI_ltI, nI_eq, z_eq, z_lt, z_gt, z_bN, bN_z, bN_p, bN_i1, nI_clamp, rng_nI, ↓reduceIte, if_true, if_false, not_true_eq_false, not_false_eq_true, true_and, and_true, and_self, false_and, and_false, Nat.lt_irrefl, xs_222_67]
      exact hq _ (fun c hc => by rw [xu_fr hc, f2 c hc]) (fun j hj => by rw [xu_nj hj, g2 j hj]) (by rw [xu_eq])
end VALUES
