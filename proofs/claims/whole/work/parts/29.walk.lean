/-! THE WALK: its state behind a prefix of hands -/
def WK (I : Nat → Nat → Int32) (w : Nat) (T : TN) (v : Nat) (bk fo : Bool) (C : Nat → Nat → Bool) (pre : List Nat) : Prop :=
  I w 0 = nI (bN (fo = true)) ∧ I w 4 = nI (bN (bk = true)) ∧ I w 5 = nI (bs (tN T) (fun x => decide (lim T v x ≤ pre.count x))) ∧
  (∀ x, x < tN T → I (w + 1) x = nI (lim T v x) ∧ I (w + 2) x = nI (pre.count x)) ∧
  (∀ i, i < pre.length → I (w + 3) i = nI (pre.getD i 0)) ∧ (∀ i, i ≤ tH T → I (w + 4) i = nI (bs (tN T) (C i)))
def TL (I : Nat → Nat → Int32) (w : Nat) (T : TN) (tal : Nat → Nat → Nat) (cm : Nat → Bool) : Prop :=
  (∀ i, i ≤ tH T → ∀ x, x < tN T → I (w + 5) (i * 7 + x) = nI (tal i x)) ∧ I w 2 = nI (bs (tN T) cm)
/-- what take and untake leave -/
def FrT (I I2 : Nat → Nat → Int32) (w : Nat) : Prop := (∀ k, k ≠ w → k ≠ w + 2 → k ≠ w + 3 → I2 k = I k) ∧ (∀ j, j ≠ 5 → I2 w j = I w j)
/-- what the search leaves -/
def FrW (I I2 : Nat → Nat → Int32) (w : Nat) : Prop := (∀ k, k ≠ w → k ≠ w + 2 → k ≠ w + 3 → k ≠ w + 5 → I2 k = I k) ∧ (∀ j, j ≠ 2 → j ≠ 5 → I2 w j = I w j)
theorem FrT_refl (I : Nat → Nat → Int32) (w : Nat) : FrT I I w := ⟨fun _ _ _ _ => rfl, fun _ _ => rfl⟩
theorem FrT_trans {I I2 I3 : Nat → Nat → Int32} {w : Nat} (h : FrT I I2 w) (h2 : FrT I2 I3 w) : FrT I I3 w := ⟨fun k a b c => (h2.1 k a b c).trans (h.1 k a b c), fun j a => (h2.2 j a).trans (h.2 j a)⟩
theorem FrW_refl (I : Nat → Nat → Int32) (w : Nat) : FrW I I w := ⟨fun _ _ _ _ _ => rfl, fun _ _ _ => rfl⟩
theorem FrW_trans {I I2 I3 : Nat → Nat → Int32} {w : Nat} (h : FrW I I2 w) (h2 : FrW I2 I3 w) : FrW I I3 w := ⟨fun k a b c d => (h2.1 k a b c d).trans (h.1 k a b c d), fun j a b => (h2.2 j a b).trans (h.2 j a b)⟩
theorem FrT_W {I I2 : Nat → Nat → Int32} {w : Nat} (h : FrT I I2 w) : FrW I I2 w := ⟨fun k a b c _ => h.1 k a b c, fun j _ b => h.2 j b⟩
theorem TL_frT {I I2 : Nat → Nat → Int32} {w : Nat} {T : TN} {tal : Nat → Nat → Nat} {cm : Nat → Bool} (h : FrT I I2 w) (h2 : TL I w T tal cm) : TL I2 w T tal cm := by
  unfold TL at h2 ⊢
  rw [h.1 (w + 5) (by omega) (by omega) (by omega), h.2 2 (by omega)]
  exact h2
theorem TT_frW {I I2 : Nat → Nat → Int32} {w t : Nat} {T : TN} (hw : wk w) (ht : tw t) (h : FrW I I2 w) (h2 : TT I t T) : TT I2 t T := by
  have hw' : w = 32 ∨ w = 38 := hw
  have ht' : t = 15 ∨ t = 20 := ht
  exact TT_fr h2 (h.1 _ (by omega) (by omega) (by omega) (by omega)) (h.1 _ (by omega) (by omega) (by omega) (by omega)) (h.1 _ (by omega) (by omega) (by omega) (by omega)) (h.1 _ (by omega) (by omega) (by omega) (by omega)) (h.1 _ (by omega) (by omega) (by omega) (by omega))
theorem count_app (pre : List Nat) (x z : Nat) : (pre ++ [x]).count z = pre.count z + bN (z = x) := by
  rw [List.count_append]
  congr 1
  by_cases h : z = x
  · subst h; rw [bN_t rfl]; simp
  · rw [bN_f h, List.count_singleton]
    have : ¬ x = z := fun e => h e.symm
    simp [this]
theorem lim_le (T : TN) (v x : Nat) : lim T v x ≤ v + 2 := by unfold lim; have := xtr_le (tK T x); omega
theorem up_ua {α : Type} {f : Nat → Nat → α} {a j : Nat} {g : Nat → α} {v : α} : xi_up (xi_ua f a g) a j v = xi_ua f a (fun b => if b = j then v else g b) := by
  funext k
  by_cases h : k = a
  · subst h
    rw [xa_eq]
    funext b
    rw [xu_at, xa_eq]
  · rw [xu_fr h, xa_fr h, xa_fr h]
def agn (T : TN) (v : Nat) (bk : Bool) (pre : List Nat) (y : Nat) : Nat :=
  if mayB T (pre.getD (pre.length - 1) 0) y (pre.length - 1) = true then (if (bk && decide (1 < pre.length) && decide (pre.getD (pre.length - 2) 0 = y)) = true then 2 else if pre.count y < lim T v y then 0 else 3) else 1
theorem agn_ok {T : TN} {v : Nat} {bk : Bool} {pre : List Nat} {y : Nat} : agn T v bk pre y = 0 ↔ okB T v bk pre y = true := by
  unfold agn okB
  by_cases h1 : mayB T (pre.getD (pre.length - 1) 0) y (pre.length - 1) = true
  · rw [if_pos h1, h1]
    by_cases h2 : (bk && decide (1 < pre.length) && decide (pre.getD (pre.length - 2) 0 = y)) = true
    · rw [if_pos h2, h2]; simp
    · rw [if_neg h2]
      have h3 : (bk && decide (1 < pre.length) && decide (pre.getD (pre.length - 2) 0 = y)) = false := by simpa using h2
      rw [h3]
      by_cases h4 : pre.count y < lim T v y <;> simp [h4]
  · rw [if_neg h1, Bool.eq_false_iff.mpr h1]
    simp
theorem agn_lt (T : TN) (v : Nat) (bk : Bool) (pre : List Nat) (y : Nat) : agn T v bk pre y < 4 := by
  unfold agn
  split
  · split
    · omega
    · split <;> omega
  · omega
section WALK
variable {scr : xi_X} {d : Nat} {Q : Option Value → xi_S → Prop} {I : Nat → Nat → Int32} {J : Nat → Nat → Int64} {t dr : Nat} {G : Nat → Nat} {w : Nat} {T : TN} {v : Nat} {bk fo : Bool} {C : Nat → Nat → Bool} {pre : List Nat}
theorem c_fill {a n : Nat} {x : Int32} (hs : wS[a]? = some (9, n)) (hn : n < 2 ^ 31) : xr scr d xc_8 0 [some (.ref a), some (.int x), none, none] [] (wS, I, J, wP t dr G) Q = Q none (wS, xi_ua I a (fun j => if j < n then x else I a j), J, wP t dr G) := by
  rw [xs_8_0 hs]
  have e : I = xi_ua I a (fun j => if j < 0 then x else I a j) := by
    funext k
    by_cases h : k = a
    · subst h; rw [xa_eq]; rfl
    · rw [xa_fr h]
  rw [show (xr scr d xc_8 5 [some (.ref a), some (.int x), some (.int (nI 0)), some (.int (nI n))] [] (wS, I, J, wP t dr G) Q) = (xr scr d xc_8 5 [some (.ref a), some (.int x), some (.int (nI 0)), some (.int (nI n))] [] (wS, xi_ua I a (fun j => if j < 0 then x else I a j), J, wP t dr G) Q) by rw [← e]]
  refine up_0 (P := fun i => xr scr d xc_8 5 [some (.ref a), some (.int x), some (.int (nI i)), some (.int (nI n))] [] (wS, xi_ua I a (fun j => if j < i then x else I a j), J, wP t dr G) Q = Q none (wS, xi_ua I a (fun j => if j < n then x else I a j), J, wP t dr G)) n (fun i hi h => ?_) ?_
  · rw [xs_8_5]
    simp (disch := first | assumption | omega | decide | exact vp_in_nI (by omega) (by omega) | exact and1_bN _ | (simp only [pk_mul, nI_add, pred_s]; exact vp_in_nI (by omega) (by omega))) only [xs_8_8 hs, nI_add, pk_mul, nI_ltI, nI_eq, z_eq, z_lt, z_gt, z_bN, bN_z, bN_p, nI_clamp, rng_nI, ↓reduceIte, if_true, if_false, not_true_eq_false, not_false_eq_true, true_and, and_true, and_self, false_and, and_false, hi, up_ua]
    have e2 : (fun b => if b = i then x else if b < i then x else I a b) = (fun j => if j < i + 1 then x else I a j) := by
      funext b
      by_cases h1 : b = i
      · rw [if_pos h1, if_pos (by omega)]
      · rw [if_neg h1]
        by_cases h2 : b < i
        · rw [if_pos h2, if_pos (by omega)]
        · rw [if_neg h2, if_neg (by omega)]
    rw [e2]
    exact h
  · rw [xs_8_5]
    simp (disch := first | assumption | omega | decide | exact vp_in_nI (by omega) (by omega) | exact and1_bN _ | (simp only [pk_mul, nI_add, pred_s]; exact vp_in_nI (by omega) (by omega))) only [xs_8_14, nI_add, pk_mul, nI_ltI, nI_eq, z_eq, z_lt, z_gt, z_bN, bN_z, bN_p, nI_clamp, rng_nI, ↓reduceIte, if_true, if_false, not_true_eq_false, not_false_eq_true, true_and, and_true, and_self, false_and, and_false, Nat.lt_irrefl]
theorem c_take (hw : wk w) (ht : tw t) (hG : G w = t) (hT : TT I t T) (hv : v ≤ 5) (W : WK I w T v bk fo C pre) {x : Nat} (hx : x < tN T) (hl : pre.length < 6) (hq : ∀ I2 : Nat → Nat → Int32, FrT I I2 w → WK I2 w T v bk fo C (pre ++ [x]) → Q none (wS, I2, J, wP t dr G)) : xr scr (d + 1) xc_66 0 [some (.ref w), some (.int (nI pre.length)), some (.int (nI x))] [] (wS, I, J, wP t dr G) Q := by
  have hn := TR_n hT.1
  have htG : tw (G w) := by rw [hG]; exact ht
  have hTG : TR I (G w) T := by rw [hG]; exact hT.1
  have hc : pre.count x ≤ pre.length := List.count_le_length
  have hm := lim_le T v x
  obtain ⟨w0, w4, w5, w12, w3, wC⟩ := W
  have f1 := (w12 x hx).1
  have f2 := (w12 x hx).2
  simp (disch := first | assumption | omega | decide | exact vp_in_nI (by omega) (by omega) | exact and1_bN _ | (simp only [pk_mul, nI_add, pred_s]; exact vp_in_nI (by omega) (by omega))) only [xs_66_0, xs_66_2, xs_66_5, xs_66_9, xs_66_10, xs_66_11, xs_66_33, xs_66_41, c_isOne htG hTG, Option.toList_some, Option.toList_none, List.cons_append, List.nil_append, List.append_nil, nI_add, pk_mul, nI_ltI, nI_eq, z_eq, z_lt, z_gt, z_bN, bN_z, bN_p, nI_clamp, rng_nI, ↓reduceIte, if_true, if_false, not_true_eq_false, not_false_eq_true, true_and, and_true, and_self, false_and, and_false, hx, hl, xu_eq, xu_nc, f1, f2]
  have hh : ∀ z, z < tN T → z ≠ x → (pre ++ [x]).count z = pre.count z := fun z _ hz => by rw [count_app, bN_f hz]; rfl
  have hxx : (pre ++ [x]).count x = pre.count x + 1 := by rw [count_app, bN_t rfl]
  have g : ∀ I2 : Nat → Nat → Int32, (∀ k, k ≠ w → k ≠ w + 2 → k ≠ w + 3 → I2 k = I k) → (∀ j, j ≠ 5 → I2 w j = I w j) → I2 w 5 = nI (bs (tN T) (fun x_1 => decide (lim T v x_1 ≤ (pre ++ [x]).count x_1))) → (∀ j, I2 (w + 2) j = if j = x then nI (pre.count x + 1) else I (w + 2) j) → (∀ j, I2 (w + 3) j = if j = pre.length then nI x else I (w + 3) j) → Q none (wS, I2, J, wP t dr G) := by
    intro I2 h1 h2 h3 h4 h5
    refine hq I2 ⟨h1, h2⟩ ⟨by rw [h2 0 (by omega), w0], by rw [h2 4 (by omega), w4], h3, fun z hz => ⟨by rw [h1 (w + 1) (by omega) (by omega) (by omega)]; exact (w12 z hz).1, ?_⟩, fun i hi => ?_, fun i hi => by rw [h1 (w + 4) (by omega) (by omega) (by omega)]; exact wC i hi⟩
    · rw [h4]
      by_cases e : z = x
      · rw [if_pos e, e, hxx]
      · rw [if_neg e, hh z hz e]; exact (w12 z hz).2
    · rw [h5]
      by_cases e : i = pre.length
      · rw [if_pos e, e, getD_last]
      · rw [if_neg e, getD_app (by simp at hi; omega)]
        exact w3 i (by simp at hi; omega)
  by_cases hb : pre.count x + 1 < lim T v x
  · rw [if_pos hb]
    refine g _ (fun k a b c => ?_) (fun j hj => ?_) ?_ (fun j => ?_) (fun j => ?_)
    · rw [xu_fr b, xu_fr c]
    · rw [xu_nc (by omega), xu_nc (by omega)]
    · rw [xu_nc (by omega), xu_nc (by omega), w5]
      congr 1
      refine bs_c (fun z hz => ?_)
      by_cases e : z = x
      · rw [e, hxx]
        have a1 : ¬ lim T v x ≤ pre.count x := by omega
        have a2 : ¬ lim T v x ≤ pre.count x + 1 := by omega
        simp [a1, a2]
      · rw [hh z hz e]
    · rw [xu_at, xu_nc (by omega)]
    · rw [xu_nc (by omega), xu_at]
  · rw [if_neg hb]
    refine g _ (fun k a b c => ?_) (fun j hj => ?_) ?_ (fun j => ?_) (fun j => ?_)
    · rw [xu_fr a, xu_fr b, xu_fr c]
    · rw [xu_nj hj, xu_nc (by omega), xu_nc (by omega)]
    · rw [xu_eq, w5, sb_one x (by omega), sb_or, bs_one hx, bs_or]
      congr 1
      refine bs_c (fun z hz => ?_)
      by_cases e : z = x
      · rw [e, hxx]
        have a2 : lim T v x ≤ pre.count x + 1 := by omega
        simp [a2]
      · rw [hh z hz e]
        simp [e]
    · rw [xu_nc (by omega), xu_at, xu_nc (by omega)]
    · rw [xu_nc (by omega), xu_nc (by omega), xu_at]
theorem c_untake (hw : wk w) (ht : tw t) (hG : G w = t) (hT : TT I t T) (hv : v ≤ 5) {x : Nat} (hx : x < tN T) (hl : pre.length < 6) (W : WK I w T v bk fo C (pre ++ [x])) (hq : ∀ I2 : Nat → Nat → Int32, FrT I I2 w → I2 (w + 3) = I (w + 3) → WK I2 w T v bk fo C pre → Q none (wS, I2, J, wP t dr G)) : xr scr (d + 1) xc_82 0 [some (.ref w), some (.int (nI x))] [] (wS, I, J, wP t dr G) Q := by
  have hn := TR_n hT.1
  have htG : tw (G w) := by rw [hG]; exact ht
  have hTG : TR I (G w) T := by rw [hG]; exact hT.1
  have hc : pre.count x ≤ pre.length := List.count_le_length
  have hm := lim_le T v x
  obtain ⟨w0, w4, w5, w12, w3, wC⟩ := W
  have hh : ∀ z, z < tN T → z ≠ x → (pre ++ [x]).count z = pre.count z := fun z _ hz => by rw [count_app, bN_f hz]; rfl
  have hxx : (pre ++ [x]).count x = pre.count x + 1 := by rw [count_app, bN_t rfl]
  have f1 := (w12 x hx).1
  have f2 := (w12 x hx).2
  rw [hxx] at f2
  simp (disch := first | assumption | omega | decide | exact vp_in_nI (by omega) (by omega) | exact and1_bN _ | (simp only [pk_mul, nI_add, pred_s]; exact vp_in_nI (by omega) (by omega))) only [xs_82_0, xs_82_4, xs_82_5, xs_82_6, xs_82_23, xs_82_33, c_isOne htG hTG, Option.toList_some, Option.toList_none, List.cons_append, List.nil_append, List.append_nil, nI_add, pk_mul, nI_ltI, nI_eq, z_eq, z_lt, z_gt, z_bN, bN_z, bN_p, nI_clamp, rng_nI, ↓reduceIte, if_true, if_false, not_true_eq_false, not_false_eq_true, true_and, and_true, and_self, false_and, and_false, hx, xu_eq, xu_nc, f1, f2, pred_s]
  have g : ∀ I2 : Nat → Nat → Int32, (∀ k, k ≠ w → k ≠ w + 2 → I2 k = I k) → (∀ j, j ≠ 5 → I2 w j = I w j) → I2 w 5 = nI (bs (tN T) (fun x_1 => decide (lim T v x_1 ≤ pre.count x_1))) → (∀ j, I2 (w + 2) j = if j = x then nI (pre.count x) else I (w + 2) j) → Q none (wS, I2, J, wP t dr G) := by
    intro I2 h1 h2 h3 h4
    refine hq I2 ⟨fun k a b c => h1 k a b, h2⟩ (h1 _ (by omega) (by omega)) ⟨by rw [h2 0 (by omega), w0], by rw [h2 4 (by omega), w4], h3, fun z hz => ⟨by rw [h1 (w + 1) (by omega) (by omega)]; exact (w12 z hz).1, ?_⟩, fun i hi => ?_, fun i hi => by rw [h1 (w + 4) (by omega) (by omega)]; exact wC i hi⟩
    · rw [h4]
      by_cases e : z = x
      · rw [if_pos e, e]
      · rw [if_neg e, ← hh z hz e]; exact (w12 z hz).2
    · rw [h1 (w + 3) (by omega) (by omega), w3 i (by simp; omega), getD_app hi]
  by_cases hb : pre.count x < lim T v x
  · rw [if_pos hb]
    refine g _ (fun k a b => ?_) (fun j hj => ?_) ?_ (fun j => ?_)
    · rw [xu_fr a, xu_fr b]
    · rw [xu_nj hj, xu_nc (by omega)]
    · rw [xu_eq, w5, sb_one x (by omega), bs_one hx, sb_not hn]
      congr 1
      refine bs_c (fun z hz => ?_)
      by_cases e : z = x
      · rw [e]
        have a1 : ¬ lim T v x ≤ pre.count x := by omega
        simp [a1]
      · rw [hh z hz e]
        simp [e]
    · rw [xu_nc (by omega), xu_at]
  · rw [if_neg hb]
    refine g _ (fun k a b => ?_) (fun j hj => ?_) ?_ (fun j => ?_)
    · rw [xu_fr b]
    · rw [xu_nc (by omega)]
    · rw [xu_nc (by omega), w5]
      congr 1
      refine bs_c (fun z hz => ?_)
      by_cases e : z = x
      · rw [e, hxx]
        have a1 : lim T v x ≤ pre.count x := by omega
        have a2 : lim T v x ≤ pre.count x + 1 := by omega
        simp [a1, a2]
      · rw [hh z hz e]
    · rw [xu_at]
/-- the tally of a hand: only the tally changes -/
theorem c_addTo (hw : wk w) (ht : tw t) (hG : G w = t) (hT : TT I t T) {i x : Nat} {g : Int32} (hi : i < 6) (hx : x < tN T) : xr scr (d + 1) xc_83 0 [some (.ref w), some (.int (nI i)), some (.int (nI x)), some (.int g)] [] (wS, I, J, wP t dr G) Q = Q none (wS, xi_up I (w + 5) (i * 7 + x) (I (w + 5) (i * 7 + x) + g), J, wP t dr G) := by
  have hn := TR_n hT.1
  have htG : tw (G w) := by rw [hG]; exact ht
  have hTG : TR I (G w) T := by rw [hG]; exact hT.1
  have hm : i * 7 + x < 42 := by omega
  simp (disch := first | assumption | omega | decide | exact vp_in_nI (by omega) (by omega) | exact and1_bN _ | (simp only [pk_mul, nI_add, pred_s]; exact vp_in_nI (by omega) (by omega))) only [xs_83_0, xs_83_2, xs_83_5, xs_83_9, xs_83_10, xs_83_22, c_isOne htG hTG, Option.toList_some, Option.toList_none, List.cons_append, List.nil_append, List.append_nil, nI_add, pk_mul, nI_ltI, nI_eq, z_eq, z_lt, z_gt, z_bN, bN_z, bN_p, nI_clamp, rng_nI, ↓reduceIte, if_true, if_false, not_true_eq_false, not_false_eq_true, true_and, and_true, and_self, false_and, and_false, hi, hx]
end WALK
