/-! rows in the reference -/
theorem bN_i1 (p : Prop) [Decidable p] : nI (bN p) = nI 1 ↔ p := by
  unfold bN
  by_cases h : p
  · rw [if_pos h]; exact ⟨fun _ => h, fun _ => rfl⟩
  · rw [if_neg h]; exact ⟨fun e => absurd e (by decide), fun e => absurd e h⟩
theorem bN_ii (p q : Prop) [Decidable p] [Decidable q] : nI (bN p) = nI (bN q) ↔ (p ↔ q) := by
  unfold bN
  by_cases h : p <;> by_cases h2 : q
  · rw [if_pos h, if_pos h2]; simp [h, h2]
  · rw [if_pos h, if_neg h2]; simp [h, h2]; decide
  · rw [if_neg h, if_pos h2]; simp [h, h2]; decide
  · rw [if_neg h, if_neg h2]; simp [h, h2]
def HD (I : Nat → Nat → Int32) (pre : List Nat) : Prop := ∀ i, i < pre.length → I 66 i = nI (pre.getD i 0)
def MV (I : Nat → Nat → Int32) (v : Nat) (bk : Bool) : Prop := I 58 16 = nI v ∧ I 58 17 = nI (bN (bk = true))
/-- what the reference's search may change -/
def FrM (I I2 : Nat → Nat → Int32) : Prop := (∀ k, k ≠ 58 → k ≠ 66 → k ≠ 68 → k ≠ 69 → I2 k = I k) ∧ (∀ j, j ≠ 21 → j ≠ 22 → j ≠ 24 → j ≠ 27 → I2 58 j = I 58 j)
theorem FrM_refl (I : Nat → Nat → Int32) : FrM I I := ⟨fun _ _ _ _ _ => rfl, fun _ _ _ _ _ => rfl⟩
theorem FrM_trans {I I2 I3 : Nat → Nat → Int32} (h : FrM I I2) (h2 : FrM I2 I3) : FrM I I3 := ⟨fun k a b c e => (h2.1 k a b c e).trans (h.1 k a b c e), fun j a b c e => (h2.2 j a b c e).trans (h.2 j a b c e)⟩
theorem MT_frM {I I2 : Nat → Nat → Int32} {T : TN} (h : FrM I I2) (h2 : MT I T) : MT I2 T := MT_fr h2 (h.2 10 (by decide) (by decide) (by decide) (by decide)) (h.2 11 (by decide) (by decide) (by decide) (by decide)) (h.1 65 (by decide) (by decide) (by decide) (by decide))
theorem MV_frM {I I2 : Nat → Nat → Int32} {v : Nat} {bk : Bool} (h : FrM I I2) (h2 : MV I v bk) : MV I2 v bk := ⟨(h.2 16 (by decide) (by decide) (by decide) (by decide)).trans h2.1, (h.2 17 (by decide) (by decide) (by decide) (by decide)).trans h2.2⟩
abbrev SGT : Type := Nat × Nat × Bool
def sgB (ss : List SGT) (i y : Nat) : Bool := ss.all (fun s => !(s.1 == i) || ((y == s.2.1) == s.2.2))
def SG (I : Nat → Nat → Int32) (ss : List SGT) : Prop := I 58 32 = nI ss.length ∧ ss.length ≤ 8 ∧ ∀ k (hk : k < ss.length), I 71 (3 * k) = nI ss[k].1 ∧ I 71 (3 * k + 1) = nI ss[k].2.1 ∧ I 71 (3 * k + 2) = nI (bN (ss[k].2.2 = true)) ∧ ss[k].1 ≤ 5 ∧ ss[k].2.1 < 7
theorem SG_frM {I I2 : Nat → Nat → Int32} {ss : List SGT} (h : FrM I I2) (h2 : SG I ss) : SG I2 ss := by
  unfold SG at h2 ⊢
  rw [h.2 32 (by decide) (by decide) (by decide) (by decide), h.1 71 (by decide) (by decide) (by decide) (by decide)]
  exact h2
def pasB (gl : Option Nat) (h : Nat) (r : List Nat) : Bool := match gl with
  | none => true
  | some y => r.getD h 0 == y
def glI (gl : Option Nat) : Int32 := match gl with
  | none => -9
  | some y => nI y
def MRS (I : Nat → Nat → Int32) (T : TN) (R E : List (List Nat)) : Prop :=
  I 58 21 = nI R.length ∧ I 58 22 = nI (bs (tN T) (fun x => E.any (fun r => r.getD (tH T) 0 == x))) ∧ I 58 24 = nI (bs (tN T) (alR R)) ∧ I 58 27 = nI (bs (tN T) (fun x => R.any (fun r => r.getD 0 0 == x))) ∧
  (∀ i, i ≤ tH T → ∀ x, x < tN T → I 69 (7 * i + x) = nI (ctR R i x)) ∧ (∀ r M, R = r :: M → ∀ i, i ≤ tH T → I 68 i = nI (r.getD i 0))
section MROWS
variable {scr : xi_X} {d : Nat} {Q : Option Value → xi_S → Prop} {I : Nat → Nat → Int32} {J : Nat → Nat → Int64} {t dr : Nat} {G : Nat → Nat} {T : TN} {v : Nat} {bk : Bool} {C : Nat → Nat → Bool} {pre : List Nat}
theorem m_oftenIn (hp : HD I pre) (hin : inP 7 pre) {u y : Nat} (hu : pre.length = u + 1) (hu6 : u < 6) (hy : y < 7) : xr scr d xc_198 0 [some (.ref 58), some (.int (nI y)), some (.int (nI u)), none, none] [] (wS, I, J, wP t dr G) Q = Q (some (.int (nI (pre.count y)))) (wS, I, J, wP t dr G) := by
  rw [xs_198_0]
  refine up_0 (P := fun x => xr scr d xc_198 4 [some (.ref 58), some (.int (nI y)), some (.int (nI u)), some (.int (nI ((pre.take x).count y))), some (.int (nI x))] [] (wS, I, J, wP t dr G) Q = Q (some (.int (nI (pre.count y)))) (wS, I, J, wP t dr G)) (u + 1) (fun x hx h => ?_) ?_
  · have h1 : ¬ u < x := by omega
    have h3 := hp x (by omega)
    have h4 : pre.getD x 0 < 7 := inP_get hin (by omega)
    rw [xs_198_4]
    simp (disch := first | assumption | omega | decide | exact vp_in_nI (by omega) (by omega) | exact and1_bN _ | (simp only [pk_mul, nI_add, pred_s]; exact vp_in_nI (by omega) (by omega))) only [xs_198_0, xs_198_7, xs_198_14, xs_198_16, xs_198_17, xs_198_21, nI_add, pk_mul, nI_ltI, nI_eq, z_eq, z_lt, z_gt, z_bN, bN_z, bN_p, bN_i1, nI_clamp, rng_nI, ↓reduceIte, if_true, if_false, not_true_eq_false, not_false_eq_true, true_and, and_true, and_self, false_and, and_false, h1, h3]
    rw [take_s (by omega), count_app] at h
    by_cases e : pre.getD x 0 = y
    · rw [bN_t e.symm] at h
      rw [if_pos e]
      exact h
    · rw [bN_f (fun e2 => e e2.symm)] at h
      rw [if_neg e]
      exact h
  · have h1 : u < u + 1 := by omega
    rw [xs_198_4]
    simp (disch := first | assumption | omega | decide | exact vp_in_nI (by omega) (by omega) | exact and1_bN _ | (simp only [pk_mul, nI_add, pred_s]; exact vp_in_nI (by omega) (by omega))) only [xs_198_21, nI_add, pk_mul, nI_ltI, nI_eq, z_eq, z_lt, z_gt, z_bN, bN_z, bN_p, bN_i1, nI_clamp, rng_nI, ↓reduceIte, if_true, if_false, not_true_eq_false, not_false_eq_true, true_and, and_true, and_self, false_and, and_false, h1]
    rw [List.take_of_length_le (by omega)]
theorem m_mostOf (hM : MT I T) (hV : I 58 16 = nI v) {x : Nat} (hx : x < tN T) : xr scr (d + 1) xc_181 0 [some (.ref 58), some (.int (nI x))] [] (wS, I, J, wP t dr G) Q = Q (some (.int (nI (lim T v x)))) (wS, I, J, wP t dr G) := by
  have hn := MT_n hM
  have hk := MT_k5 hM hx
  simp (disch := first | assumption | omega | decide | exact vp_in_nI (by omega) (by omega) | exact and1_bN _ | (simp only [pk_mul, nI_add, pred_s]; exact vp_in_nI (by omega) (by omega))) only [xs_181_0, xs_181_6, xs_181_8, xs_181_10, xs_181_14, xs_181_16, xs_181_18, xs_181_19, m_of, MT_k hM hx, hV, Option.toList_some, Option.toList_none, List.cons_append, List.nil_append, List.append_nil, nI_add, pk_mul, nI_ltI, nI_eq, z_eq, z_lt, z_gt, z_bN, bN_z, bN_p, bN_i1, nI_clamp, rng_nI, ↓reduceIte, if_true, if_false, not_true_eq_false, not_false_eq_true, true_and, and_true, and_self, false_and, and_false]
  unfold lim xtr
  by_cases h3 : tK T x = 3
  · rw [if_pos h3, if_pos h3]
  · rw [if_neg h3, if_neg h3]
    by_cases h5 : tK T x = 5
    · rw [if_pos h5, if_pos h5]
    · rw [if_neg h5, if_neg h5]
theorem m_against (hM : MT I T) (hV : MV I v bk) (hv : v ≤ 5) (hp : HD I pre) (hin : inP (tN T) pre) {u y : Nat} (hu : pre.length = u + 1) (hh : u < tH T) (hy : y < tN T) : xr scr (d + 4) xc_197 0 [some (.ref 58), some (.int (nI u)), some (.int (nI y))] [] (wS, I, J, wP t dr G) Q = Q (some (.int (nI (agn T v bk pre y)))) (wS, I, J, wP t dr G) := by
  have hn := MT_n hM
  have hh5 := MT_h hM
  have h3 := hp u (by omega)
  have hz : pre.getD u 0 < tN T := inP_get hin (by omega)
  have hin7 : inP 7 pre := fun z hzz => Nat.lt_of_lt_of_le (hin z hzz) hn
  have ho := fun (d : Nat) (Q2 : Option Value → xi_S → Prop) => m_oftenIn (scr := scr) (d := d) (Q := Q2) (J := J) (t := t) (dr := dr) (G := G) hp hin7 hu (by omega) (show y < 7 by omega)
  have hc : pre.count y ≤ pre.length := List.count_le_length
  have hm := lim_le T v y
  unfold agn
  rw [hu, show u + 1 - 1 = u by omega, show u + 1 - 2 = u - 1 by omega]
  have last : xr scr (d + 4) xc_197 27 [some (.ref 58), some (.int (nI u)), some (.int (nI y))] [] (wS, I, J, wP t dr G) Q = Q (some (.int (nI (if pre.count y < lim T v y then 0 else 3)))) (wS, I, J, wP t dr G) := by
    simp (disch := first | assumption | omega | decide | exact vp_in_nI (by omega) (by omega) | exact and1_bN _ | (simp only [pk_mul, nI_add, pred_s]; exact vp_in_nI (by omega) (by omega))) only [xs_197_27, xs_197_31, xs_197_34, xs_197_35, xs_197_37, xs_197_38, ho, m_mostOf hM hV.1 hy, Option.toList_some, Option.toList_none, List.cons_append, List.nil_append, List.append_nil, nI_add, pk_mul, nI_ltI, nI_eq, z_eq, z_lt, z_gt, z_bN, bN_z, bN_p, bN_i1, nI_clamp, rng_nI, ↓reduceIte, if_true, if_false, not_true_eq_false, not_false_eq_true, true_and, and_true, and_self, false_and, and_false]
    by_cases h : pre.count y < lim T v y
    · rw [if_pos h, if_pos h]
    · rw [if_neg h, if_neg h]
  cases u with
  | zero =>
    have h00 : ¬ 0 < 0 := by decide
    have h11 : ¬ 1 < 0 + 1 := by decide
    simp (disch := first | assumption | omega | decide | exact vp_in_nI (by omega) (by omega) | exact and1_bN _ | (simp only [pk_mul, nI_add, pred_s]; exact vp_in_nI (by omega) (by omega))) only [xs_197_0, xs_197_8, xs_197_9, xs_197_11, xs_197_15, h3, m_mayGive hM hz hy hh, hV.2, Option.toList_some, Option.toList_none, List.cons_append, List.nil_append, List.append_nil, nI_add, pk_mul, nI_ltI, nI_eq, z_eq, z_lt, z_gt, z_bN, bN_z, bN_p, bN_i1, nI_clamp, rng_nI, ↓reduceIte, if_true, if_false, not_true_eq_false, not_false_eq_true, true_and, and_true, and_self, false_and, and_false, h00, last, h11, decide_false, Bool.and_false, Bool.false_and, Bool.false_eq_true]
    by_cases h1 : mayB T (pre.getD 0 0) y 0 = true
    · simp only [h1, not_true_eq_false, ↓reduceIte, ite_self]
    · simp only [h1, not_false_eq_true, ↓reduceIte, Bool.false_eq_true]
  | succ u =>
    have h00 : 0 < u + 1 := by omega
    have h11 : 1 < u + 1 + 1 := by omega
    have h4 := hp u (by omega)
    have hz4 : pre.getD u 0 < tN T := inP_get hin (by omega)
    simp (disch := first | assumption | omega | decide | exact vp_in_nI (by omega) (by omega) | exact and1_bN _ | (simp only [pk_mul, nI_add, pred_s]; exact vp_in_nI (by omega) (by omega))) only [xs_197_0, xs_197_8, xs_197_9, xs_197_11, xs_197_15, xs_197_17, xs_197_25, h3, m_mayGive hM hz hy hh, hV.2, Option.toList_some, Option.toList_none, List.cons_append, List.nil_append, List.append_nil, nI_add, pk_mul, nI_ltI, nI_eq, z_eq, z_lt, z_gt, z_bN, bN_z, bN_p, bN_i1, nI_clamp, rng_nI, ↓reduceIte, if_true, if_false, not_true_eq_false, not_false_eq_true, true_and, and_true, and_self, false_and, and_false, h00, h11, pred_s, h4, last, decide_true, Bool.and_true, Bool.and_eq_true, decide_eq_true_eq, show u + 1 - 1 = u from rfl]
    by_cases h1 : mayB T (pre.getD (u + 1) 0) y (u + 1) = true
    · by_cases h2 : bk = true
      · by_cases h5 : pre.getD u 0 = y
        · simp only [h1, h2, h5, not_true_eq_false, ↓reduceIte, and_self]
        · simp only [h1, h2, h5, not_true_eq_false, ↓reduceIte, and_false]
      · simp only [h1, h2, not_true_eq_false, ↓reduceIte, false_and, Bool.false_eq_true]
    · simp only [h1, not_false_eq_true, ↓reduceIte, Bool.false_eq_true]
theorem m_putAside (hq : ∀ I2 : Nat → Nat → Int32, (∀ k, k ≠ 67 → I2 k = I k) → (∀ i, i < 6 → I2 67 i = I 66 i) → Q none (wS, I2, J, wP t dr G)) : xr scr d xc_205 0 [some (.ref 58), none] [] (wS, I, J, wP t dr G) Q := by
  rw [xs_205_0]
  refine up_0 (P := fun x => ∀ I2 : Nat → Nat → Int32, (∀ k, k ≠ 67 → I2 k = I k) → (∀ i, i < x → I2 67 i = I 66 i) → xr scr d xc_205 2 [some (.ref 58), some (.int (nI x))] [] (wS, I2, J, wP t dr G) Q) 6 (fun x hx h I2 f2 h2 => ?_) (fun I2 f2 h2 => ?_) I (fun _ _ => rfl) (fun i hi => absurd hi (Nat.not_lt_zero _))
  · rw [xs_205_2]
    simp (disch := first | assumption | omega | decide | exact vp_in_nI (by omega) (by omega) | exact and1_bN _ | (simp only [pk_mul, nI_add, pred_s]; exact vp_in_nI (by omega) (by omega))) only [xs_205_5, nI_add, pk_mul, nI_ltI, nI_eq, z_eq, z_lt, z_gt, z_bN, bN_z, bN_p, bN_i1, nI_clamp, rng_nI, ↓reduceIte, if_true, if_false, not_true_eq_false, not_false_eq_true, true_and, and_true, and_self, false_and, and_false, hx]
    refine h _ (fun k hk => by rw [xu_fr hk, f2 k hk]) (fun i hi => ?_)
    rw [xu_at, f2 66 (by decide)]
    by_cases e : i = x
    · rw [if_pos e, e]
    · rw [if_neg e, h2 i (by omega)]
  · rw [xs_205_2]
    simp (disch := first | assumption | omega | decide | exact vp_in_nI (by omega) (by omega) | exact and1_bN _ | (simp only [pk_mul, nI_add, pred_s]; exact vp_in_nI (by omega) (by omega))) only [xs_205_15, nI_add, pk_mul, nI_ltI, nI_eq, z_eq, z_lt, z_gt, z_bN, bN_z, bN_p, bN_i1, nI_clamp, rng_nI, ↓reduceIte, if_true, if_false, not_true_eq_false, not_false_eq_true, true_and, and_true, and_self, false_and, and_false, Nat.lt_irrefl]
    exact hq I2 f2 h2
theorem m_comeBack (hq : ∀ I2 : Nat → Nat → Int32, (∀ k, k ≠ 66 → I2 k = I k) → (∀ i, i < 6 → I2 66 i = I 67 i) → Q none (wS, I2, J, wP t dr G)) : xr scr d xc_210 0 [some (.ref 58), none] [] (wS, I, J, wP t dr G) Q := by
  rw [xs_210_0]
  refine up_0 (P := fun x => ∀ I2 : Nat → Nat → Int32, (∀ k, k ≠ 66 → I2 k = I k) → (∀ i, i < x → I2 66 i = I 67 i) → xr scr d xc_210 2 [some (.ref 58), some (.int (nI x))] [] (wS, I2, J, wP t dr G) Q) 6 (fun x hx h I2 f2 h2 => ?_) (fun I2 f2 h2 => ?_) I (fun _ _ => rfl) (fun i hi => absurd hi (Nat.not_lt_zero _))
  · rw [xs_210_2]
    simp (disch := first | assumption | omega | decide | exact vp_in_nI (by omega) (by omega) | exact and1_bN _ | (simp only [pk_mul, nI_add, pred_s]; exact vp_in_nI (by omega) (by omega))) only [xs_210_5, nI_add, pk_mul, nI_ltI, nI_eq, z_eq, z_lt, z_gt, z_bN, bN_z, bN_p, bN_i1, nI_clamp, rng_nI, ↓reduceIte, if_true, if_false, not_true_eq_false, not_false_eq_true, true_and, and_true, and_self, false_and, and_false, hx]
    refine h _ (fun k hk => by rw [xu_fr hk, f2 k hk]) (fun i hi => ?_)
    rw [xu_at, f2 67 (by decide)]
    by_cases e : i = x
    · rw [if_pos e, e]
    · rw [if_neg e, h2 i (by omega)]
  · rw [xs_210_2]
    simp (disch := first | assumption | omega | decide | exact vp_in_nI (by omega) (by omega) | exact and1_bN _ | (simp only [pk_mul, nI_add, pred_s]; exact vp_in_nI (by omega) (by omega))) only [xs_210_15, nI_add, pk_mul, nI_ltI, nI_eq, z_eq, z_lt, z_gt, z_bN, bN_z, bN_p, bN_i1, nI_clamp, rng_nI, ↓reduceIte, if_true, if_false, not_true_eq_false, not_false_eq_true, true_and, and_true, and_self, false_and, and_false, Nat.lt_irrefl]
    exact hq I2 f2 h2
theorem m_wipeRows (hM : MT I T) {g : Int32} (hq : ∀ I2 : Nat → Nat → Int32, (∀ k, k ≠ 58 → k ≠ 69 → I2 k = I k) → (∀ j, j ≠ 21 → j ≠ 22 → j ≠ 23 → j ≠ 24 → j ≠ 27 → I2 58 j = I 58 j) → I2 58 23 = g → MRS I2 T [] [] → Q none (wS, I2, J, wP t dr G)) : xr scr d xc_206 0 [some (.ref 58), some (.int g), none] [] (wS, I, J, wP t dr G) Q := by
  have hn := MT_n hM
  have hh5 := MT_h hM
  simp (disch := first | assumption | omega | decide | exact vp_in_nI (by omega) (by omega) | exact and1_bN _ | (simp only [pk_mul, nI_add, pred_s]; exact vp_in_nI (by omega) (by omega))) only [xs_206_0, MT_10 hM, evr]
  obtain ⟨I1, hI1⟩ : ∃ I1 : Nat → Nat → Int32, I1 = xi_up (xi_up (xi_up (xi_up (xi_up I 58 23 g) 58 21 (nI 0)) 58 22 (nI 0)) 58 27 (nI 0)) 58 24 (nI (2 ^ tN T - 1)) := ⟨_, rfl⟩
  rw [← hI1]
  have f1 : ∀ k, k ≠ 58 → I1 k = I k := fun k hk => by rw [hI1, xu_fr hk, xu_fr hk, xu_fr hk, xu_fr hk, xu_fr hk]
  refine up_0 (P := fun x => ∀ I2 : Nat → Nat → Int32, (∀ k, k ≠ 69 → I2 k = I1 k) → (∀ i, i < x → I2 69 i = nI 0) → xr scr d xc_206 22 [some (.ref 58), some (.int g), some (.int (nI x))] [] (wS, I2, J, wP t dr G) Q) 42 (fun x hx h I2 f2 h2 => ?_) (fun I2 f2 h2 => ?_) I1 (fun _ _ => rfl) (fun i hi => absurd hi (Nat.not_lt_zero _))
  · rw [xs_206_22]
    simp (disch := first | assumption | omega | decide | exact vp_in_nI (by omega) (by omega) | exact and1_bN _ | (simp only [pk_mul, nI_add, pred_s]; exact vp_in_nI (by omega) (by omega))) only [xs_206_25, nI_add, pk_mul, nI_ltI, nI_eq, z_eq, z_lt, z_gt, z_bN, bN_z, bN_p, bN_i1, nI_clamp, rng_nI, ↓reduceIte, if_true, if_false, not_true_eq_false, not_false_eq_true, true_and, and_true, and_self, false_and, and_false, hx]
    refine h _ (fun k hk => by rw [xu_fr hk, f2 k hk]) (fun i hi => ?_)
    rw [xu_at]
    by_cases e : i = x
    · rw [if_pos e]
    · rw [if_neg e, h2 i (by omega)]
  · rw [xs_206_22]
    simp (disch := first | assumption | omega | decide | exact vp_in_nI (by omega) (by omega) | exact and1_bN _ | (simp only [pk_mul, nI_add, pred_s]; exact vp_in_nI (by omega) (by omega))) only [xs_206_32, nI_add, pk_mul, nI_ltI, nI_eq, z_eq, z_lt, z_gt, z_bN, bN_z, bN_p, bN_i1, nI_clamp, rng_nI, ↓reduceIte, if_true, if_false, not_true_eq_false, not_false_eq_true, true_and, and_true, and_self, false_and, and_false, Nat.lt_irrefl]
    have z0 : bs (tN T) (fun x => ([] : List (List Nat)).any (fun r => r.getD (tH T) 0 == x)) = 0 := bs_z.mpr (fun x _ => rfl)
    have z1 : bs (tN T) (fun x => ([] : List (List Nat)).any (fun r => r.getD 0 0 == x)) = 0 := bs_z.mpr (fun x _ => rfl)
    have z2 : bs (tN T) (alR []) = 2 ^ tN T - 1 := by rw [← bs_all]; exact bs_c (fun x _ => rfl)
    refine hq I2 (fun k a b => by rw [f2 k b, f1 k a]) (fun j a b c e f => by rw [f2 58 (by decide), hI1, xu_nj e, xu_nj f, xu_nj b, xu_nj a, xu_nj c]) ?_ ⟨?_, ?_, ?_, ?_, fun i hi x hx => ?_, fun r M hr => by cases hr⟩
    · rw [f2 58 (by decide), hI1]; simp [xi_up]
    · rw [f2 58 (by decide), hI1]; simp [xi_up]
    · rw [f2 58 (by decide), hI1, z0]; simp [xi_up]
    · rw [f2 58 (by decide), hI1, z2]; simp [xi_up]
    · rw [f2 58 (by decide), hI1, z1]; simp [xi_up]
    · rw [h2 _ (by omega)]; rfl
theorem m_fitsSight {ss : List SGT} (hS : SG I ss) (hp : HD I pre) (hin : inP 7 pre) {u : Nat} (hu : pre.length = u + 1) (hu6 : u < 6) : xr scr d xc_208 0 [some (.ref 58), some (.int (nI u)), none, none] [] (wS, I, J, wP t dr G) Q = Q (some (.int (nI (bN (sgB ss u (pre.getD u 0) = true))))) (wS, I, J, wP t dr G) := by
  have h3 := hp u (by omega)
  have hz : pre.getD u 0 < 7 := inP_get hin (by omega)
  have h8 := hS.2.1
  rw [xs_208_0]
  refine up_0 (P := fun x => ∀ o3 : Option Value, xr scr d xc_208 2 [some (.ref 58), some (.int (nI u)), some (.int (nI x)), o3] [] (wS, I, J, wP t dr G) Q = Q (some (.int (nI (bN (sgB (ss.drop x) u (pre.getD u 0) = true))))) (wS, I, J, wP t dr G)) ss.length (fun x hx h o3 => ?_) (fun o3 => ?_) none
  · obtain ⟨s1, s2, s3, s4, s5⟩ := hS.2.2 x hx
    have hd : sgB (ss.drop x) u (pre.getD u 0) = ((!(ss[x].1 == u) || ((pre.getD u 0 == ss[x].2.1) == ss[x].2.2)) && sgB (ss.drop (x + 1)) u (pre.getD u 0)) := by
      unfold sgB
      rw [List.drop_eq_getElem_cons hx, List.all_cons]
    rw [xs_208_2, hS.1]
    simp (disch := first | assumption | omega | decide | exact vp_in_nI (by omega) (by omega) | exact and1_bN _ | (simp only [pk_mul, nI_add, pred_s]; exact vp_in_nI (by omega) (by omega))) only [nI_add, pk_mul, nI_ltI, nI_eq, z_eq, z_lt, z_gt, z_bN, bN_z, bN_p, bN_i1, nI_clamp, rng_nI, ↓reduceIte, if_true, if_false, not_true_eq_false, not_false_eq_true, true_and, and_true, and_self, false_and, and_false, hx]
    -- behind the comparison of the hand
    have cmp : ∀ b : Bool, b = (pre.getD u 0 == ss[x].2.1) → xr scr d xc_208 22 [some (.ref 58), some (.int (nI u)), some (.int (nI x)), o3] [.int (nI (bN (b = true)))] (wS, I, J, wP t dr G) Q = Q (some (.int (nI (bN (sgB (ss.drop x) u (pre.getD u 0) = true))))) (wS, I, J, wP t dr G) := by
      intro b hb
      rw [hd, ← hb]
      simp (disch := first | assumption | omega | decide | exact vp_in_nI (by omega) (by omega) | exact and1_bN _ | (simp only [pk_mul, nI_add, pred_s]; exact vp_in_nI (by omega) (by omega))) only [xs_208_22, xs_208_31, nI_add, pk_mul, nI_ltI, nI_eq, z_eq, z_lt, z_gt, z_bN, bN_z, bN_p, bN_i1, nI_clamp, rng_nI, ↓reduceIte, if_true, if_false, not_true_eq_false, not_false_eq_true, true_and, and_true, and_self, false_and, and_false, s1, s3]
      by_cases a1 : ss[x].1 = u
      · have a1' : (ss[x].1 == u) = true := by simpa using a1
        rw [if_pos a1, a1']
        by_cases a2 : ss[x].2.2 = true
        · rw [if_pos a2, a2]
          cases b with
          | true =>
            simp (disch := first | assumption | omega | decide | exact vp_in_nI (by omega) (by omega) | exact and1_bN _ | (simp only [pk_mul, nI_add, pred_s]; exact vp_in_nI (by omega) (by omega))) only [xs_208_42, xs_208_45, xs_208_48, nI_add, pk_mul, nI_ltI, nI_eq, z_eq, z_lt, z_gt, z_bN, bN_z, bN_p, bN_i1, nI_clamp, rng_nI, ↓reduceIte, if_true, if_false, not_true_eq_false, not_false_eq_true, true_and, and_true, and_self, false_and, and_false, bN_T]
            rw [h]
            rfl
          | false =>
            simp (disch := first | assumption | omega | decide | exact vp_in_nI (by omega) (by omega) | exact and1_bN _ | (simp only [pk_mul, nI_add, pred_s]; exact vp_in_nI (by omega) (by omega))) only [xs_208_42, xs_208_45, xs_208_46, nI_add, pk_mul, nI_ltI, nI_eq, z_eq, z_lt, z_gt, z_bN, bN_z, bN_p, bN_i1, nI_clamp, rng_nI, ↓reduceIte, if_true, if_false, not_true_eq_false, not_false_eq_true, true_and, and_true, and_self, false_and, and_false, Bool.false_eq_true, bN_F]
            rfl
        · rw [if_neg a2, Bool.eq_false_iff.mpr a2]
          cases b with
          | true =>
            simp (disch := first | assumption | omega | decide | exact vp_in_nI (by omega) (by omega) | exact and1_bN _ | (simp only [pk_mul, nI_add, pred_s]; exact vp_in_nI (by omega) (by omega))) only [xs_208_44, xs_208_45, xs_208_46, nI_add, pk_mul, nI_ltI, nI_eq, z_eq, z_lt, z_gt, z_bN, bN_z, bN_p, bN_i1, nI_clamp, rng_nI, ↓reduceIte, if_true, if_false, not_true_eq_false, not_false_eq_true, true_and, and_true, and_self, false_and, and_false, bN_T]
            rfl
          | false =>
            simp (disch := first | assumption | omega | decide | exact vp_in_nI (by omega) (by omega) | exact and1_bN _ | (simp only [pk_mul, nI_add, pred_s]; exact vp_in_nI (by omega) (by omega))) only [xs_208_44, xs_208_45, xs_208_48, nI_add, pk_mul, nI_ltI, nI_eq, z_eq, z_lt, z_gt, z_bN, bN_z, bN_p, bN_i1, nI_clamp, rng_nI, ↓reduceIte, if_true, if_false, not_true_eq_false, not_false_eq_true, true_and, and_true, and_self, false_and, and_false, Bool.false_eq_true, bN_F]
            rw [h]
            rfl
      · have a1' : (ss[x].1 == u) = false := by simpa using a1
        rw [if_neg a1, a1', xs_208_48, nI_add, h]
        rfl
    simp (disch := first | assumption | omega | decide | exact vp_in_nI (by omega) (by omega) | exact and1_bN _ | (simp only [pk_mul, nI_add, pred_s]; exact vp_in_nI (by omega) (by omega))) only [xs_208_6, nI_add, pk_mul, nI_ltI, nI_eq, z_eq, z_lt, z_gt, z_bN, bN_z, bN_p, bN_i1, nI_clamp, rng_nI, ↓reduceIte, if_true, if_false, not_true_eq_false, not_false_eq_true, true_and, and_true, and_self, false_and, and_false, h3, s2]
    by_cases a3 : pre.getD u 0 = ss[x].2.1
    · rw [if_pos a3, xs_208_19]
      have := cmp true (by rw [a3]; simp)
      simpa [bN] using this
    · rw [if_neg a3, xs_208_21]
      have := cmp false (by simpa using a3)
      simpa [bN] using this
  · rw [xs_208_2, hS.1]
    simp (disch := first | assumption | omega | decide | exact vp_in_nI (by omega) (by omega) | exact and1_bN _ | (simp only [pk_mul, nI_add, pred_s]; exact vp_in_nI (by omega) (by omega))) only [xs_208_50, nI_add, pk_mul, nI_ltI, nI_eq, z_eq, z_lt, z_gt, z_bN, bN_z, bN_p, bN_i1, nI_clamp, rng_nI, ↓reduceIte, if_true, if_false, not_true_eq_false, not_false_eq_true, true_and, and_true, and_self, false_and, and_false, Nat.lt_irrefl]
    rw [List.drop_length]
    rfl
end MROWS
