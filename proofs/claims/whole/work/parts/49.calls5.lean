/-! calls: keep, on, sight, forget -/
section CALLS5
variable {scr : xi_X} {d : Nat} {Q : Option Value → xi_S → Prop} {I I2 : Nat → Nat → Int32} {J : Nat → Nat → Int64} {t dr : Nat} {G G2 : Nat → Nat} {T : TN} {v v2 : Nat} {bk bk2 : Bool} {pre pre2 : List Nat} {ss ss2 : List SGT}
theorem c_becomeLike {a b : Nat} (ha : dy a) (hb : dy b) (hab : a ≠ b) (hq : ∀ I2 : Nat → Nat → Int32, (∀ k, k ≠ a → k ≠ a + 1 → I2 k = I k) → I2 a 0 = I b 0 → I2 a 1 = I b 1 → I2 a 2 = I b 2 → (∀ i, i < 6 → I2 (a + 1) i = I (b + 1) i) → Q none (wS, I2, J, wP t dr G)) : xr scr d xc_88 0 [some (.ref a), some (.ref b)] [] (wS, I, J, wP t dr G) Q := by
  have ha' : a = 25 ∨ a = 52 ∨ a = 54 ∨ a = 56 := ha
  have hb' : b = 25 ∨ b = 52 ∨ b = 54 ∨ b = 56 := hb
  have e1 : ∀ (j : Nat) (x : Int32), xi_up I a j x b = I b := fun j x => xu_fr (fun e => hab e.symm)
  rw [xs_88_0 hb ha (by decide) (by decide), e1, xu_fr (fun e => hab e.symm), e1]
  obtain ⟨I1, hI1⟩ : ∃ I1 : Nat → Nat → Int32, I1 = xi_up (xi_up (xi_up I a 0 (I b 0)) a 1 (I b 1)) a 2 (I b 2) := ⟨_, rfl⟩
  rw [← hI1]
  have f1 : ∀ k, k ≠ a → I1 k = I k := fun k h => by rw [hI1, xu_fr h, xu_fr h, xu_fr h]
  refine hq _ (fun k h1 h2 => by rw [xa_fr h2, f1 k h1]) ?_ ?_ ?_ (fun i hi => ?_)
  · rw [xa_fr (by omega), hI1, xu_nj (by decide), xu_nj (by decide), xu_eq]
  · rw [xa_fr (by omega), hI1, xu_nj (by decide), xu_eq]
  · rw [xa_fr (by omega), hI1, xu_eq]
  · rw [xa_eq, nI_clamp (by decide), nI_clamp (by decide)]
    unfold va_cpy
    rw [if_pos (by omega), Nat.zero_add, Nat.sub_zero, f1 (b + 1) (by omega)]
def LVK (I I2 : Nat → Nat → Int32) : Prop := (∀ k, (1 ≤ k ∧ k ≤ 31) ∨ (38 ≤ k ∧ k ≤ 43) ∨ k = 51 ∨ (59 ≤ k ∧ k ≤ 61) ∨ (63 ≤ k ∧ k ≤ 66) ∨ k = 71 → I2 k = I k) ∧ I2 58 = I 58 ∧ I2 0 = I 0
theorem INV_kept (h : INV I J t dr G T v bk pre ss) (L : LVK I I2) (hK : IK I2 T) : INV I2 J t dr G T v bk pre ss := by
  obtain ⟨h1, h2, h3, h4, h5, h6, h7, h8, h9⟩ := h
  obtain ⟨l1, l2, l3⟩ := L
  refine ⟨IT_fr h1 (fun k a b => l1 k (by omega)) (l1 65 (by omega)) (by rw [l2]) (by rw [l2]), IR_fr h2 (fun k a b => l1 k (by omega)) (l1 60 (by omega)) (l1 61 (by omega)), IX_fr h3 (fun k a b => l1 k (by omega)) (l1 63 (by omega)) (l1 64 (by omega)), ID_fr h4 (l1 25 (by omega)) (l1 26 (by omega)) (fun i _ => by rw [l1 66 (by omega)]) (by rw [l2]) (by rw [l2]) (by rw [l2]), hK, IS_fr h6 (by rw [l1 28 (by omega)]) (fun k a b => l1 k (by omega)) (l1 71 (by omega)) (by rw [l2]), IP_fr h7 (by rw [l1 28 (by omega)]) (l1 38 (by omega)) (l1 43 (by omega)) rfl, ?_, IF_fr h9 (by rw [l3]) (by rw [l2]) (l1 51 (by omega)) (l1 59 (by omega))⟩
  unfold IA at h8 ⊢
  rw [l2, l3]
  exact h8
theorem m_keepL {k : Nat} (hk : k < 3) (hq : ∀ I2 : Nat → Nat → Int32, (∀ c, c ≠ 70 → I2 c = I c) → I2 70 (10 * k) = I 58 18 → I2 70 (10 * k + 1) = I 58 16 → I2 70 (10 * k + 2) = I 58 17 → (∀ i, i < 6 → I2 70 (10 * k + 3 + i) = I 66 i) → (∀ j, j < 10 * k ∨ 10 * k + 9 ≤ j → I2 70 j = I 70 j) → Q (some (.int (I 58 18))) (wS, I2, J, wP t dr G)) : xr scr d xc_211 13 [some (.ref 58), some (.int (nI k)), none, none] [] (wS, I, J, wP t dr G) Q := by
  rw [xs_211_13 (by rw [pk_mul]; exact vp_in_nI (by omega) (by omega)) (by rw [pk_mul, nI_add]; exact vp_in_nI (by omega) (by omega)) (by rw [pk_mul, nI_add]; exact vp_in_nI (by omega) (by omega)), pk_mul, nI_add, nI_add, nI_clamp (by omega), nI_clamp (by omega), nI_clamp (by omega)]
  obtain ⟨I1, hI1⟩ : ∃ I1 : Nat → Nat → Int32, I1 = xi_up (xi_up (xi_up I 70 (10 * k) (I 58 18)) 70 (10 * k + 1) (I 58 16)) 70 (10 * k + 2) (I 58 17) := ⟨_, rfl⟩
  rw [← hI1]
  have f1 : ∀ c, c ≠ 70 → I1 c = I c := fun c h => by rw [hI1, xu_fr h, xu_fr h, xu_fr h]
  refine up_0 (P := fun x => ∀ I2 : Nat → Nat → Int32, (∀ c, c ≠ 70 → I2 c = I c) → (∀ i, i < x → I2 70 (10 * k + 3 + i) = I 66 i) → (∀ j, j < 10 * k + 3 ∨ 10 * k + 9 ≤ j → I2 70 j = I1 70 j) → xr scr d xc_211 41 [some (.ref 58), some (.int (nI k)), some (.int (nI (10 * k))), some (.int (nI x))] [] (wS, I2, J, wP t dr G) Q) 6 (fun x hx h I2 f2 a2 b2 => ?_) (fun I2 f2 a2 b2 => ?_) I1 f1 (fun i hi => absurd hi (Nat.not_lt_zero _)) (fun _ _ => rfl)
  · rw [xs_211_41]
    simp (disch := first | assumption | omega | decide | exact vp_in_nI (by omega) (by omega) | exact and1_bN _ | (simp only [pk_mul, nI_add, pred_s]; exact vp_in_nI (by omega) (by omega))) only [nI_add, pk_mul, nI_ltI, nI_eq, z_eq, z_lt, z_gt, z_bN, bN_z, bN_p, bN_i1, nI_clamp, rng_nI, ↓reduceIte, if_true, if_false, not_true_eq_false, not_false_eq_true, true_and, and_true, and_self, false_and, and_false, hx]
    rw [xs_211_44 (vp_in_nI (by omega) (by omega)) (by rw [nI_add, nI_add]; exact vp_in_nI (by omega) (by omega))]
    simp only [nI_add]
    rw [nI_clamp (by omega), nI_clamp (by omega)]
    refine h _ (fun c hc => by rw [xu_fr hc, f2 c hc]) (fun i hi => ?_) (fun j hj => ?_)
    · rw [xu_at, f2 66 (by decide)]
      by_cases e : i = x
      · rw [if_pos (by rw [e]), e]
      · rw [if_neg (by omega), a2 i (by omega)]
    · rw [xu_nj (by omega), b2 j hj]
  · rw [xs_211_41]
    simp (disch := first | assumption | omega | decide | exact vp_in_nI (by omega) (by omega) | exact and1_bN _ | (simp only [pk_mul, nI_add, pred_s]; exact vp_in_nI (by omega) (by omega))) only [nI_add, pk_mul, nI_ltI, nI_eq, z_eq, z_lt, z_gt, z_bN, bN_z, bN_p, bN_i1, nI_clamp, rng_nI, ↓reduceIte, if_true, if_false, not_true_eq_false, not_false_eq_true, true_and, and_true, and_self, false_and, and_false, Nat.lt_irrefl, xs_211_58]
    rw [f2 58 (by decide)]
    refine hq I2 f2 ?_ ?_ ?_ a2 (fun j hj => ?_)
    · rw [b2 _ (by omega), hI1, xu_nj (by omega), xu_nj (by omega), xu_eq]
    · rw [b2 _ (by omega), hI1, xu_nj (by omega), xu_eq]
    · rw [b2 _ (by omega), hI1, xu_eq]
    · rw [b2 _ (by omega), hI1, xu_nj (by omega), xu_nj (by omega), xu_nj (by omega)]
theorem k_keep (H : INV I J t dr G T v bk pre ss) {x : Int32} : xr scr (d + 20) xc_86 0 [some (.ref 0), some (.int x)] [] (wS, I, J, wP t dr G) (AN scr (d + 20) xc_211 [some (.ref 58), some (.int x), none, none]) := by
  have hh5 := TR_h H.1.2.2.2.1.1
  have hD := H.2.2.2.1
  have h10 : ¬ 1 = 0 := by decide
  by_cases hx : rng x 3 = true
  · obtain ⟨hx1, hx2⟩ := (rng_m0 (n := 2) (by decide)).mpr hx
    obtain ⟨k, hk, rfl⟩ := rng_of hx (by decide)
    rcases day_cases hD with ⟨-, h1, h2⟩ | ⟨u, hu, h1, h2, hu2⟩
    · simp (disch := first | assumption | omega | decide | exact vp_in_nI (by omega) (by omega) | exact and1_bN _ | (simp only [pk_mul, nI_add, pred_s]; exact vp_in_nI (by omega) (by omega))) only [xs_86_0, xs_86_2, xs_86_3, xs_86_5, xs_86_8, xs_86_9, xs_86_11, xs_86_18, c_isKept, c_isBegun0 (Or.inl rfl) h1, Option.toList_some, Option.toList_none, List.cons_append, List.nil_append, List.append_nil, nI_add, pk_mul, nI_ltI, nI_eq, z_eq, z_lt, z_gt, z_bN, bN_z, bN_p, bN_i1, nI_clamp, rng_nI, ↓reduceIte, if_true, if_false, not_true_eq_false, not_false_eq_true, true_and, and_true, and_self, false_and, and_false, hk]
      refine AN_i ?_
      simp (disch := first | assumption | omega | decide | exact vp_in_nI (by omega) (by omega) | exact and1_bN _ | (simp only [pk_mul, nI_add, pred_s]; exact vp_in_nI (by omega) (by omega))) only [xs_211_0, xs_211_4, xs_211_5, xs_211_7, xs_211_11, m_in, h2, Option.toList_some, Option.toList_none, List.cons_append, List.nil_append, List.append_nil, nI_add, pk_mul, nI_ltI, nI_eq, z_eq, z_lt, z_gt, z_bN, bN_z, bN_p, bN_i1, nI_clamp, rng_nI, ↓reduceIte, if_true, if_false, not_true_eq_false, not_false_eq_true, true_and, and_true, and_self, false_and, and_false, hx1, hx2]
      first | exact PST_i H | exact ⟨trivial, PST_i H⟩ | exact ⟨rfl, PST_i H⟩
    · have hu31 : u < 2 ^ 31 := by omega
      have hdk : dy (52 + 2 * k) := by omega
      have hcl : (nI k).toNatClampNeg = k := nI_clamp (by omega)
      rw [xs_86_0]
      simp (disch := first | assumption | omega | decide | exact vp_in_nI (by omega) (by omega) | exact and1_bN _ | (simp only [pk_mul, nI_add, pred_s]; exact vp_in_nI (by omega) (by omega))) only [c_isKept, Option.toList_some, Option.toList_none, List.cons_append, List.nil_append, List.append_nil, xs_86_2, nI_add, pk_mul, nI_ltI, nI_eq, z_eq, z_lt, z_gt, z_bN, bN_z, bN_p, bN_i1, nI_clamp, rng_nI, ↓reduceIte, if_true, if_false, not_true_eq_false, not_false_eq_true, true_and, and_true, and_self, false_and, and_false, hk, xs_86_5, c_isBegun1 (Or.inl rfl) h1 hu31, xs_86_8, h10]
      rw [xs_86_11 (vp_in_nI hk (by omega)), hcl]
      refine c_becomeLike hdk (Or.inl rfl) (by omega) (fun I1 f1 s0 s1 s2 s6 => ?_)
      simp (disch := first | assumption | omega | decide | exact vp_in_nI (by omega) (by omega) | exact and1_bN _ | (simp only [pk_mul, nI_add, pred_s]; exact vp_in_nI (by omega) (by omega))) only [Option.toList_some, Option.toList_none, List.cons_append, List.nil_append, List.append_nil, xs_86_18]
      rw [f1 25 (by omega) (by omega), h1]
      refine AN_i ?_
      have e2 : I1 58 18 = nI u := by rw [f1 58 (by omega) (by omega), h2]
      rw [xs_211_0]
      simp (disch := first | assumption | omega | decide | exact vp_in_nI (by omega) (by omega) | exact and1_bN _ | (simp only [pk_mul, nI_add, pred_s]; exact vp_in_nI (by omega) (by omega))) only [m_in, Option.toList_some, Option.toList_none, List.cons_append, List.nil_append, List.append_nil, xs_211_4, hx1, hx2, nI_add, pk_mul, nI_ltI, nI_eq, z_eq, z_lt, z_gt, z_bN, bN_z, bN_p, bN_i1, nI_clamp, rng_nI, ↓reduceIte, if_true, if_false, not_true_eq_false, not_false_eq_true, true_and, and_true, and_self, false_and, and_false, xs_211_7, e2, m9_ne]
      refine m_keepL hk (fun I2 f2 a0 a1 a2 a3 a4 => ?_)
      refine ⟨by rw [e2], PST_i (INV_kept H ⟨fun c hc => by rw [f2 c (by omega), f1 c (by omega) (by omega)], by rw [f2 58 (by decide), f1 58 (by omega) (by omega)], by rw [f2 0 (by decide), f1 0 (by omega) (by omega)]⟩ (fun k2 hk2 => ?_))⟩
      by_cases e : k2 = k
      · subst e
        obtain ⟨b1, b2, b3, b4, b5, b6, b7, b8, b9, b10, b11⟩ := hD
        refine Or.inr ⟨v, bk, pre, fun e => (by rw [e] at hu; cases hu), b1, b2, b6, b7, ?_, ?_, ?_, ?_, ?_, ?_, fun i hi => ?_, fun i hi => ?_⟩
        · rw [f2 _ (by omega), s2, h1, hu]; rfl
        · rw [a0, f1 58 (by omega) (by omega), h2, hu]; rfl
        · rw [f2 _ (by omega), s0, b3]
        · rw [a1, f1 58 (by omega) (by omega), b4.1]
        · rw [f2 _ (by omega), s1, b5]
        · rw [a2, f1 58 (by omega) (by omega), b4.2]
        · rw [f2 _ (by omega), s6 i hi, a3 i hi, f1 66 (by omega) (by omega), b11 i hi]
        · rw [f2 _ (by omega), s6 i (by omega), b10 i hi]
      · have := H.2.2.2.2.1 k2 hk2
        unfold KD at this ⊢
        rw [f2 (52 + 2 * k2) (by omega), f2 (52 + 2 * k2 + 1) (by omega), f1 (52 + 2 * k2) (by omega) (by omega), f1 (52 + 2 * k2 + 1) (by omega) (by omega), a4 (10 * k2) (by omega), a4 (10 * k2 + 1) (by omega), a4 (10 * k2 + 2) (by omega), f1 70 (by omega) (by omega)]
        rcases this with h | ⟨v3, bk3, pre3, b1, b2, b3, b4, b5, b6, b7, b8, b9, b10, b11, b12, b13⟩
        · exact Or.inl h
        · exact Or.inr ⟨v3, bk3, pre3, b1, b2, b3, b4, b5, b6, b7, b8, b9, b10, b11, fun i hi => by rw [a4 _ (by omega), f1 70 (by omega) (by omega)]; exact b12 i hi, b13⟩
  · have hx2 : ¬ (¬ x < nI 0 ∧ ¬ nI 2 < x) := fun e => hx ((rng_m0 (n := 2) (by decide)).mp e)
    simp (disch := first | assumption | omega | decide | exact vp_in_nI (by omega) (by omega) | exact and1_bN _ | (simp only [pk_mul, nI_add, pred_s]; exact vp_in_nI (by omega) (by omega))) only [xs_86_0, xs_86_2, xs_86_3, xs_86_5, xs_86_8, xs_86_9, c_isKept, Option.toList_some, Option.toList_none, List.cons_append, List.nil_append, List.append_nil, nI_add, pk_mul, nI_ltI, nI_eq, z_eq, z_lt, z_gt, z_bN, bN_z, bN_p, bN_i1, nI_clamp, rng_nI, ↓reduceIte, if_true, if_false, not_true_eq_false, not_false_eq_true, true_and, and_true, and_self, false_and, and_false, hx]
    refine AN_i ?_
    simp (disch := first | assumption | omega | decide | exact vp_in_nI (by omega) (by omega) | exact and1_bN _ | (simp only [pk_mul, nI_add, pred_s]; exact vp_in_nI (by omega) (by omega))) only [xs_211_0, xs_211_4, xs_211_5, xs_211_7, xs_211_11, m_in, Option.toList_some, Option.toList_none, List.cons_append, List.nil_append, List.append_nil, nI_add, pk_mul, nI_ltI, nI_eq, z_eq, z_lt, z_gt, z_bN, bN_z, bN_p, bN_i1, nI_clamp, rng_nI, ↓reduceIte, if_true, if_false, not_true_eq_false, not_false_eq_true, true_and, and_true, and_self, false_and, and_false, hx2]
    first | exact PST_i H | exact ⟨trivial, PST_i H⟩ | exact ⟨rfl, PST_i H⟩
theorem m_onL {k : Nat} (hk : k < 3) {y : Int32} (hy : y = nI (10 * k)) (hq : ∀ I2 : Nat → Nat → Int32, (∀ c, c ≠ 58 → c ≠ 66 → I2 c = I c) → (∀ j, j ≠ 16 → j ≠ 17 → j ≠ 18 → I2 58 j = I 58 j) → I2 58 18 = I 70 (10 * k) → I2 58 16 = I 70 (10 * k + 1) → I2 58 17 = I 70 (10 * k + 2) → (∀ i, i < 6 → I2 66 i = I 70 (10 * k + 3 + i)) → Q (some (.int (I 70 (10 * k)))) (wS, I2, J, wP t dr G)) : xr scr d xc_212 21 [some (.ref 58), some (.int (nI k)), some (.int y), none] [] (wS, I, J, wP t dr G) Q := by
  subst hy
  rw [xs_212_21 (vp_in_nI (by omega) (by omega)) (by rw [nI_add]; exact vp_in_nI (by omega) (by omega)) (by rw [nI_add]; exact vp_in_nI (by omega) (by omega)), nI_add, nI_add, nI_clamp (by omega), nI_clamp (by omega), nI_clamp (by omega)]
  obtain ⟨I1, hI1⟩ : ∃ I1 : Nat → Nat → Int32, I1 = xi_up (xi_up (xi_up I 58 18 (I 70 (10 * k))) 58 16 (I 70 (10 * k + 1))) 58 17 (I 70 (10 * k + 2)) := ⟨_, rfl⟩
  rw [← hI1]
  have f1 : ∀ c, c ≠ 58 → I1 c = I c := fun c h => by rw [hI1, xu_fr h, xu_fr h, xu_fr h]
  refine up_0 (P := fun x => ∀ I2 : Nat → Nat → Int32, (∀ c, c ≠ 66 → I2 c = I1 c) → (∀ i, i < x → I2 66 i = I 70 (10 * k + 3 + i)) → xr scr d xc_212 45 [some (.ref 58), some (.int (nI k)), some (.int (nI (10 * k))), some (.int (nI x))] [] (wS, I2, J, wP t dr G) Q) 6 (fun x hx h I2 f2 a2 => ?_) (fun I2 f2 a2 => ?_) I1 (fun _ _ => rfl) (fun i hi => absurd hi (Nat.not_lt_zero _))
  · rw [xs_212_45]
    simp (disch := first | assumption | omega | decide | exact vp_in_nI (by omega) (by omega) | exact and1_bN _ | (simp only [pk_mul, nI_add, pred_s]; exact vp_in_nI (by omega) (by omega))) only [nI_add, pk_mul, nI_ltI, nI_eq, z_eq, z_lt, z_gt, z_bN, bN_z, bN_p, bN_i1, nI_clamp, rng_nI, ↓reduceIte, if_true, if_false, not_true_eq_false, not_false_eq_true, true_and, and_true, and_self, false_and, and_false, hx]
    rw [xs_212_48 (by rw [nI_add, nI_add]; exact vp_in_nI (by omega) (by omega)) (vp_in_nI (by omega) (by omega))]
    simp only [nI_add]
    rw [nI_clamp (by omega), nI_clamp (by omega)]
    refine h _ (fun c hc => by rw [xu_fr hc, f2 c hc]) (fun i hi => ?_)
    rw [xu_at, f2 70 (by decide), f1 70 (by decide)]
    by_cases e : i = x
    · rw [if_pos e, e]
    · rw [if_neg e, a2 i (by omega)]
  · rw [xs_212_45]
    simp (disch := first | assumption | omega | decide | exact vp_in_nI (by omega) (by omega) | exact and1_bN _ | (simp only [pk_mul, nI_add, pred_s]; exact vp_in_nI (by omega) (by omega))) only [nI_add, pk_mul, nI_ltI, nI_eq, z_eq, z_lt, z_gt, z_bN, bN_z, bN_p, bN_i1, nI_clamp, rng_nI, ↓reduceIte, if_true, if_false, not_true_eq_false, not_false_eq_true, true_and, and_true, and_self, false_and, and_false, Nat.lt_irrefl, xs_212_62]
    have s18 : I2 58 18 = I 70 (10 * k) := by rw [f2 58 (by decide), hI1, xu_nj (by decide), xu_nj (by decide), xu_eq]
    rw [s18]
    refine hq I2 (fun c h1 h2 => by rw [f2 c h2, f1 c h1]) (fun j h1 h2 h3 => by rw [f2 58 (by decide), hI1, xu_nj h2, xu_nj h1, xu_nj h3]) s18 ?_ ?_ a2
    · rw [f2 58 (by decide), hI1, xu_nj (by decide), xu_eq]
    · rw [f2 58 (by decide), hI1, xu_eq]
theorem k_on (H : INV I J t dr G T v bk pre ss) {x : Int32} : xr scr (d + 20) xc_89 0 [some (.ref 0), some (.int x)] [] (wS, I, J, wP t dr G) (AN scr (d + 20) xc_212 [some (.ref 58), some (.int x), none, none]) := by
  have hh5 := TR_h H.1.2.2.2.1.1
  have h10 : ¬ 1 = 0 := by decide
  by_cases hx : rng x 3 = true
  · obtain ⟨hx1, hx2⟩ := (rng_m0 (n := 2) (by decide)).mpr hx
    obtain ⟨k, hk, rfl⟩ := rng_of hx (by decide)
    have hdk : dy (52 + 2 * k) := by omega
    have hcl : (nI k).toNatClampNeg = k := nI_clamp (by omega)
    have hcl10 : (nI (10 * k)).toNatClampNeg = 10 * k := nI_clamp (by omega)
    rcases H.2.2.2.2.1 k hk with ⟨h1, h2⟩ | ⟨v3, bk3, pre3, b1, b2, b3, b4, b5, b6, b7, b8, b9, b10, b11, b12, b13⟩
    · rw [xs_89_0]
      simp (disch := first | assumption | omega | decide | exact vp_in_nI (by omega) (by omega) | exact and1_bN _ | (simp only [pk_mul, nI_add, pred_s]; exact vp_in_nI (by omega) (by omega))) only [c_isKept, Option.toList_some, Option.toList_none, List.cons_append, List.nil_append, List.append_nil, xs_89_2, nI_add, pk_mul, nI_ltI, nI_eq, z_eq, z_lt, z_gt, z_bN, bN_z, bN_p, bN_i1, nI_clamp, rng_nI, ↓reduceIte, if_true, if_false, not_true_eq_false, not_false_eq_true, true_and, and_true, and_self, false_and, and_false, hk]
      rw [xs_89_5 (vp_in_nI hk (by omega)), hcl, c_isBegun0 hdk h1]
      have f15 : 1 ≤ 5 := by decide
      simp (disch := first | assumption | omega | decide | exact vp_in_nI (by omega) (by omega) | exact and1_bN _ | (simp only [pk_mul, nI_add, pred_s]; exact vp_in_nI (by omega) (by omega))) only [Option.toList_some, Option.toList_none, List.cons_append, List.nil_append, List.append_nil, xs_89_10, nI_0, ↓reduceIte, xs_89_11, c_found (Nat.le_refl 1) f15, xs_89_14]
      refine AN_i ?_
      rw [xs_212_0]
      simp (disch := first | assumption | omega | decide | exact vp_in_nI (by omega) (by omega) | exact and1_bN _ | (simp only [pk_mul, nI_add, pred_s]; exact vp_in_nI (by omega) (by omega))) only [m_in, Option.toList_some, Option.toList_none, List.cons_append, List.nil_append, List.append_nil, xs_212_4, hx1, hx2, nI_add, pk_mul, nI_ltI, nI_eq, z_eq, z_lt, z_gt, z_bN, bN_z, bN_p, bN_i1, nI_clamp, rng_nI, ↓reduceIte, if_true, if_false, not_true_eq_false, not_false_eq_true, true_and, and_true, and_self, false_and, and_false]
      have e2 : fnd I 1 70 (10 * k) = -9 := by unfold fnd; rw [xu_nc (by decide), xu_nc (by decide), h2]
      rw [xs_212_7 (by rw [pk_mul]; exact vp_in_nI (by omega) (by omega)), pk_mul, hcl10, e2, if_pos rfl]
      simp (disch := first | assumption | omega | decide | exact vp_in_nI (by omega) (by omega) | exact and1_bN _ | (simp only [pk_mul, nI_add, pred_s]; exact vp_in_nI (by omega) (by omega))) only [xs_212_17, m_meet f15, Option.toList_some, Option.toList_none, List.cons_append, List.nil_append, List.append_nil, xs_212_20]
      have H2 := fnd_inv (f := 1) (by decide) H
      first | exact PST_i H2 | exact ⟨trivial, PST_i H2⟩ | exact ⟨rfl, PST_i H2⟩
    · have hl : ∃ u, pre3.length = u + 1 := by
        cases pre3 with
        | nil => exact absurd rfl b1
        | cons a l => exact ⟨l.length, rfl⟩
      obtain ⟨u, hu⟩ := hl
      have hpu : pre3.length - 1 = u := by omega
      rw [hpu] at b6 b7
      have hu31 : u < 2 ^ 31 := by omega
      rw [xs_89_0]
      simp (disch := first | assumption | omega | decide | exact vp_in_nI (by omega) (by omega) | exact and1_bN _ | (simp only [pk_mul, nI_add, pred_s]; exact vp_in_nI (by omega) (by omega))) only [c_isKept, Option.toList_some, Option.toList_none, List.cons_append, List.nil_append, List.append_nil, xs_89_2, nI_add, pk_mul, nI_ltI, nI_eq, z_eq, z_lt, z_gt, z_bN, bN_z, bN_p, bN_i1, nI_clamp, rng_nI, ↓reduceIte, if_true, if_false, not_true_eq_false, not_false_eq_true, true_and, and_true, and_self, false_and, and_false, hk]
      rw [xs_89_5 (vp_in_nI hk (by omega)), hcl, c_isBegun1 hdk b6 hu31]
      simp (disch := first | assumption | omega | decide | exact vp_in_nI (by omega) (by omega) | exact and1_bN _ | (simp only [pk_mul, nI_add, pred_s]; exact vp_in_nI (by omega) (by omega))) only [Option.toList_some, Option.toList_none, List.cons_append, List.nil_append, List.append_nil, xs_89_10, nI_add, pk_mul, nI_ltI, nI_eq, z_eq, z_lt, z_gt, z_bN, bN_z, bN_p, bN_i1, nI_clamp, rng_nI, ↓reduceIte, if_true, if_false, not_true_eq_false, not_false_eq_true, true_and, and_true, and_self, false_and, and_false, h10]
      rw [xs_89_15 (vp_in_nI hk (by omega)), hcl]
      refine c_becomeLike (Or.inl rfl) hdk (by omega) (fun I1 f1 s0 s1 s2 s6 => ?_)
      simp (disch := first | assumption | omega | decide | exact vp_in_nI (by omega) (by omega) | exact and1_bN _ | (simp only [pk_mul, nI_add, pred_s]; exact vp_in_nI (by omega) (by omega))) only [Option.toList_some, Option.toList_none, List.cons_append, List.nil_append, List.append_nil, xs_89_22]
      rw [s2, b6]
      refine AN_i ?_
      obtain ⟨I3, hI3⟩ : ∃ I3 : Nat → Nat → Int32, I3 = xi_up I1 28 1 (nI 0) := ⟨_, rfl⟩
      rw [← hI3]
      have f3 : ∀ c, c ≠ 25 → c ≠ 26 → c ≠ 28 → I3 c = I c := fun c a b e => by rw [hI3, xu_fr e, f1 c a (by omega)]
      have e2 : I3 70 (10 * k) = nI u := by rw [f3 70 (by decide) (by decide) (by decide), b7]
      rw [xs_212_0]
      simp (disch := first | assumption | omega | decide | exact vp_in_nI (by omega) (by omega) | exact and1_bN _ | (simp only [pk_mul, nI_add, pred_s]; exact vp_in_nI (by omega) (by omega))) only [m_in, Option.toList_some, Option.toList_none, List.cons_append, List.nil_append, List.append_nil, xs_212_4, hx1, hx2, nI_add, pk_mul, nI_ltI, nI_eq, z_eq, z_lt, z_gt, z_bN, bN_z, bN_p, bN_i1, nI_clamp, rng_nI, ↓reduceIte, if_true, if_false, not_true_eq_false, not_false_eq_true, true_and, and_true, and_self, false_and, and_false]
      rw [xs_212_7 (by rw [pk_mul]; exact vp_in_nI (by omega) (by omega)), pk_mul, hcl10, e2, if_neg (fun e => (m9_ne hu31).mp e)]
      refine m_onL hk rfl (fun I2 f2 g2 c18 c16 c17 c66 => ?_)
      have i70 : I3 70 = I 70 := f3 70 (by decide) (by decide) (by decide)
      rw [i70] at c18 c16 c17 c66
      have i2_25 : I2 25 = I1 25 := by rw [f2 25 (by decide) (by decide), hI3, xu_fr (by decide)]
      have i2_26 : I2 26 = I1 26 := by rw [f2 26 (by decide) (by decide), hI3, xu_fr (by decide)]
      refine ⟨by rw [e2], PST_i (INV_day (v2 := v3) (bk2 := bk3) (pre2 := pre3) H ⟨fun c hc => by rw [f2 c (by omega) (by omega), f3 c (by omega) (by omega) (by omega)], by rw [f2 28 (by decide) (by decide), hI3, xu_nj (by decide), f1 28 (by decide) (by decide)], fun j hj => by rw [g2 j (by omega) (by omega) (by omega), f3 58 (by decide) (by decide) (by decide)], by rw [f2 0 (by decide) (by decide), f3 0 (by decide) (by decide) (by decide)]⟩ ⟨b2, b3, by rw [i2_25, s0, b8], ⟨by rw [c16, b9], by rw [c17, b11]⟩, by rw [i2_25, s1, b10], b4, b5, fun e => absurd e b1, fun u2 hu2 => ?_, fun i hi => by rw [i2_26, s6 i (by omega), b13 i hi], fun i hi => by rw [i2_26, s6 i hi, c66 i hi, b12 i hi]⟩ (Or.inl (by rw [f2 28 (by decide) (by decide), hI3, xu_eq])))⟩
      have : u2 = u := by omega
      rw [this, i2_25, s2, b6, c18, b7]
      exact ⟨rfl, rfl⟩
  · have hx2 : ¬ (¬ x < nI 0 ∧ ¬ nI 2 < x) := fun e => hx ((rng_m0 (n := 2) (by decide)).mp e)
    simp (disch := first | assumption | omega | decide | exact vp_in_nI (by omega) (by omega) | exact and1_bN _ | (simp only [pk_mul, nI_add, pred_s]; exact vp_in_nI (by omega) (by omega))) only [xs_89_0, xs_89_2, xs_89_3, c_isKept, Option.toList_some, Option.toList_none, List.cons_append, List.nil_append, List.append_nil, nI_add, pk_mul, nI_ltI, nI_eq, z_eq, z_lt, z_gt, z_bN, bN_z, bN_p, bN_i1, nI_clamp, rng_nI, ↓reduceIte, if_true, if_false, not_true_eq_false, not_false_eq_true, true_and, and_true, and_self, false_and, and_false, hx]
    refine AN_i ?_
    simp (disch := first | assumption | omega | decide | exact vp_in_nI (by omega) (by omega) | exact and1_bN _ | (simp only [pk_mul, nI_add, pred_s]; exact vp_in_nI (by omega) (by omega))) only [xs_212_0, xs_212_4, xs_212_5, m_in, Option.toList_some, Option.toList_none, List.cons_append, List.nil_append, List.append_nil, nI_add, pk_mul, nI_ltI, nI_eq, z_eq, z_lt, z_gt, z_bN, bN_z, bN_p, bN_i1, nI_clamp, rng_nI, ↓reduceIte, if_true, if_false, not_true_eq_false, not_false_eq_true, true_and, and_true, and_self, false_and, and_false, hx2]
    first | exact PST_i H | exact ⟨trivial, PST_i H⟩ | exact ⟨rfl, PST_i H⟩
end CALLS5
