/-! calls: keeps, fewest -/
theorem p2_s {n : Nat} (h : n ≤ 7) : ∃ e, 2 ^ n = e + 1 ∧ e < 128 := by
  have h1 : 2 ^ n ≤ 2 ^ 7 := Nat.pow_le_pow_right (by decide) h
  have h2 : 0 < 2 ^ n := Nat.two_pow_pos n
  exact ⟨2 ^ n - 1, by omega, by omega⟩
/-- how many hands pass on at most -/
def kmT (T : TN) (b k : Nat) : Nat := kmx (fun x => b.testBit x) (lng T (fun x => b.testBit x) k) (tN T)
theorem kmT_le (T : TN) (b k : Nat) : kmT T b k ≤ k + 1 := kmx_le (lng_le T _ k)
theorem kmT_pos {T : TN} {b k : Nat} (h0 : b ≠ 0) (hb : b < 2 ^ tN T) : 1 ≤ kmT T b k := by
  by_cases h : 0 + 1 ≤ kmT T b k
  · exact h
  · exfalso
    apply h0
    rw [bs_of hb]
    refine bs_z.mpr (fun x hx => ?_)
    by_cases e : b.testBit x = true
    · exact absurd (kmx_ge.mpr ⟨x, hx, e, Nat.zero_le _⟩) h
    · exact Bool.eq_false_iff.mpr e
theorem kp_z {T : TN} {b m u : Nat} (h : m + u ≤ tH T) : bs (tN T) (kpB T (fun x => b.testBit x) m u) = 0 ↔ kmT T b (tH T - u) ≤ m := by
  constructor
  · intro hz
    by_cases e : m + 1 ≤ kmT T b (tH T - u)
    · exfalso
      obtain ⟨y, hy, h1, h2⟩ := kmx_ge.mp e
      have := bs_z.mp hz y hy
      rw [kpB_lng T _ m u y h, h1, decide_eq_true h2] at this
      exact absurd this (by decide)
    · omega
  · intro hm
    refine bs_z.mpr (fun y hy => ?_)
    rw [kpB_lng T _ m u y h]
    by_cases e : b.testBit y = true ∧ m ≤ lng T (fun x => b.testBit x) (tH T - u) y
    · exfalso
      have : m + 1 ≤ kmT T b (tH T - u) := kmx_ge.mpr ⟨y, hy, e.1, e.2⟩
      omega
    · rw [Bool.and_eq_false_iff, decide_eq_false_iff_not]
      by_cases e1 : b.testBit y = true
      · exact Or.inr (fun e2 => e ⟨e1, e2⟩)
      · exact Or.inl (Bool.eq_false_iff.mpr e1)
theorem kp_kst {T : TN} {b m u : Nat} (h : m + u ≤ tH T) (hm : kmT T b (tH T - u) = m + 1) : bs (tN T) (kpB T (fun x => b.testBit x) m u) = bs (tN T) (kst (fun x => b.testBit x) (lng T (fun x => b.testBit x) (tH T - u)) (kmT T b (tH T - u))) := by
  refine bs_c (fun y hy => ?_)
  rw [kpB_lng T _ m u y h, hm]
  unfold kst
  by_cases e1 : b.testBit y = true
  · congr 1
    rw [Bool.eq_iff_iff, decide_eq_true_eq, decide_eq_true_eq]
    have : lng T (fun x => b.testBit x) (tH T - u) y + 1 ≤ kmT T b (tH T - u) := kmx_ge.mpr ⟨y, hy, e1, Nat.le_refl _⟩
    omega
  · show (b.testBit y && _) = (b.testBit y && _)
    rw [Bool.eq_false_iff.mpr e1, Bool.false_and, Bool.false_and]
section KEEPS
variable {scr : xi_X} {d : Nat} {Q : Option Value → xi_S → Prop} {I I2 I3 I4 : Nat → Nat → Int32} {J J2 : Nat → Nat → Int64} {t dr : Nat} {G G2 : Nat → Nat} {T : TN} {v v2 : Nat} {bk bk2 : Bool} {pre pre2 : List Nat} {ss ss2 : List SGT}
theorem m_isSet (hM : MT I T) {x : Int32} : xr scr (d + 1) xc_225 0 [some (.ref 58), some (.int x)] [] (wS, I, J, wP t dr G) Q = Q (some (.int (nI (bN (rng x (2 ^ tN T) = true))))) (wS, I, J, wP t dr G) := by
  have hn := MT_n hM
  obtain ⟨e, he, he2⟩ := p2_s hn
  rw [xs_225_0, MT_10 hM, evr _ hn, he, Nat.add_sub_cancel]
  simp (disch := first | assumption | omega | decide | exact vp_in_nI (by omega) (by omega) | exact and1_bN _ | (simp only [pk_mul, nI_add, pred_s]; exact vp_in_nI (by omega) (by omega))) only [m_in, Option.toList_some, Option.toList_none, List.cons_append, List.nil_append, List.append_nil, xs_225_9]
  rw [bN_c (rng_m0 (by omega))]
theorem c_keepersT (ht : tw t) (hT : TT I t T) {b f w : Nat} (hb : b < 2 ^ tN T) (hf : f ≤ w) (hw : w ≤ tH T) : xr scr (d + 2) xc_111 0 [some (.ref t), some (.int (nI b)), some (.int (nI f)), some (.int (nI w)), none, none] [] (wS, I, J, wP t dr G) Q = Q (some (.int (nI (bs (tN T) (kpB T (fun x => b.testBit x) (w - f) f))))) (wS, I, J, wP t dr G) := by
  have := c_keepersOf (scr := scr) (d := d) (J := J) (dr := dr) (G := G) (Q := Q) (t := t) ht hT (fun x => b.testBit x) hf hw
  rw [← bs_of hb] at this
  exact this
theorem m_keepsT (hM : MT I T) {b u : Nat} (hb : b < 2 ^ tN T) (hu : u ≤ tH T) (hq : ∀ I2 : Nat → Nat → Int32, Fr58 (fun j => j = 29 ∨ j = 30) I I2 → I2 58 30 = nI (bs (tN T) (kst (fun x => b.testBit x) (lng T (fun x => b.testBit x) (tH T - u)) (kmT T b (tH T - u)))) → Q (some (.int (nI (kmT T b (tH T - u)) - nI 1))) (wS, I2, J, wP t dr G)) : xr scr (d + 10) xc_226 0 [some (.ref 58), some (.int (nI b)), some (.int (nI u)), none, none, none] [] (wS, I, J, wP t dr G) Q := by
  have hh5 := MT_h hM
  obtain ⟨k, hk⟩ : ∃ k, k = tH T - u := ⟨_, rfl⟩
  have := m_keepsOf (scr := scr) (d := d + 5 - k) (J := J) (t := t) (dr := dr) (G := G) (T := T) (Q := Q) hM (fun x => b.testBit x) (k := k) (by omega) (fun I2 f2 g2 h2 => by rw [hk] at h2 ⊢; exact hq I2 ⟨f2, fun j hj => g2 j (by omega)⟩ h2)
  rw [show d + 5 - k + k + 5 = d + 10 by omega, show tH T - k = u by omega, ← bs_of hb] at this
  exact this
theorem k_keeps (H : INV I J t dr G T v bk pre ss) {x y : Int32} : xr scr (d + 20) xc_110 0 [some (.ref 0), some (.int x), some (.int y), none] [] (wS, I, J, wP t dr G) (AN scr (d + 20) xc_224 [some (.ref 58), some (.int x), some (.int y), none]) := by
  have ht := H.1.1
  have hT := H.1.2.2.2.1
  have hM := H.1.2.2.2.2.1
  have hn := TR_n hT.1
  have hh5 := TR_h hT.1
  obtain ⟨e, he, he2⟩ := p2_s hn
  have hrx := rng_s (x := x) (n := e) (by omega)
  rw [← he] at hrx
  have mbad : ¬ (rng x (2 ^ tN T) = true ∧ rng y (tH T + 1) = true) → AN scr (d + 20) xc_224 [some (.ref 58), some (.int x), some (.int y), none] (some (.int (-1))) (wS, I, J, wP t dr G) := by
    intro h
    refine AN_i ?_
    by_cases hx : rng x (2 ^ tN T) = true
    · have hy : ¬ rng y (tH T + 1) = true := fun h2 => h ⟨hx, h2⟩
      simp (disch := first | assumption | omega | decide | exact vp_in_nI (by omega) (by omega) | exact and1_bN _ | (simp only [pk_mul, nI_add, pred_s]; exact vp_in_nI (by omega) (by omega))) only [xs_224_0, m_isSet hM, Option.toList_some, Option.toList_none, List.cons_append, List.nil_append, List.append_nil, xs_224_3, Bool.false_eq_true, nI_add, pk_mul, nI_ltI, nI_eq, z_eq, z_lt, z_gt, z_bN, bN_z, bN_p, bN_i1, nI_clamp, rng_nI, ↓reduceIte, if_true, if_false, not_true_eq_false, not_false_eq_true, true_and, and_true, and_self, false_and, and_false, hx, xs_224_4, m_isTime hM, xs_224_7, hy, xs_224_8]
      first | exact PST_i H | exact ⟨trivial, PST_i H⟩ | exact ⟨rfl, PST_i H⟩
    · simp (disch := first | assumption | omega | decide | exact vp_in_nI (by omega) (by omega) | exact and1_bN _ | (simp only [pk_mul, nI_add, pred_s]; exact vp_in_nI (by omega) (by omega))) only [xs_224_0, m_isSet hM, Option.toList_some, Option.toList_none, List.cons_append, List.nil_append, List.append_nil, xs_224_3, Bool.false_eq_true, nI_add, pk_mul, nI_ltI, nI_eq, z_eq, z_lt, z_gt, z_bN, bN_z, bN_p, bN_i1, nI_clamp, rng_nI, ↓reduceIte, if_true, if_false, not_true_eq_false, not_false_eq_true, true_and, and_true, and_self, false_and, and_false, hx, xs_224_8]
      first | exact PST_i H | exact ⟨trivial, PST_i H⟩ | exact ⟨rfl, PST_i H⟩
  rw [xs_110_0]
  by_cases h1 : x < 0
  · rw [if_pos h1, xs_110_12]
    exact mbad (fun h => (hrx.mp h.1).1 h1)
  · rw [if_neg h1, xs_110_2 ht, c_everyone ht hT.1, bs_all, he, Nat.add_sub_cancel]
    simp (disch := first | assumption | omega | decide | exact vp_in_nI (by omega) (by omega) | exact and1_bN _ | (simp only [pk_mul, nI_add, pred_s]; exact vp_in_nI (by omega) (by omega))) only [Option.toList_some, Option.toList_none, List.cons_append, List.nil_append, List.append_nil, xs_110_6]
    by_cases h2 : nI e < x
    · rw [if_pos h2, xs_110_12]
      exact mbad (fun h => (hrx.mp h.1).2 h2)
    · have hx := hrx.mpr ⟨h1, h2⟩
      rw [if_neg h2, xs_110_7 ht, c_isMoment ht hT.1]
      by_cases hy : rng y (tH T + 1) = true
      · obtain ⟨b, hb, rfl⟩ := rng_of hx (by omega)
        obtain ⟨u, hu1, rfl⟩ := rng_of hy (by omega)
        have hu : u ≤ tH T := by omega
        have hb31 : b < 2 ^ 31 := by omega
        have hb128 : 2 ^ tN T < 2 ^ 31 := by omega
        simp (disch := first | assumption | omega | decide | exact vp_in_nI (by omega) (by omega) | exact and1_bN _ | (simp only [pk_mul, nI_add, pred_s]; exact vp_in_nI (by omega) (by omega))) only [Option.toList_some, Option.toList_none, List.cons_append, List.nil_append, List.append_nil, xs_110_11, Bool.false_eq_true, nI_add, pk_mul, nI_ltI, nI_eq, z_eq, z_lt, z_gt, z_bN, bN_z, bN_p, bN_i1, nI_clamp, rng_nI, ↓reduceIte, if_true, if_false, not_true_eq_false, not_false_eq_true, true_and, and_true, and_self, false_and, and_false, hu1, xs_110_14]
        by_cases h0 : b = 0
        · rw [if_pos h0, xs_110_16]
          refine AN_i ?_
          have hb0 : 0 < 2 ^ tN T := Nat.two_pow_pos _
          simp (disch := first | assumption | omega | decide | exact vp_in_nI (by omega) (by omega) | exact and1_bN _ | (simp only [pk_mul, nI_add, pred_s]; exact vp_in_nI (by omega) (by omega))) only [xs_224_0, m_isSet hM, Option.toList_some, Option.toList_none, List.cons_append, List.nil_append, List.append_nil, xs_224_3, Bool.false_eq_true, nI_add, pk_mul, nI_ltI, nI_eq, z_eq, z_lt, z_gt, z_bN, bN_z, bN_p, bN_i1, nI_clamp, rng_nI, ↓reduceIte, if_true, if_false, not_true_eq_false, not_false_eq_true, true_and, and_true, and_self, false_and, and_false, hb0, xs_224_4, m_isTime hM, xs_224_7, hu1, xs_224_10, h0, xs_224_12]
          first | exact PST_i H | exact ⟨trivial, PST_i H⟩ | exact ⟨rfl, PST_i H⟩
        · obtain ⟨mm, hmm⟩ : ∃ mm, kmT T b (tH T - u) = mm + 1 := ⟨kmT T b (tH T - u) - 1, by have := kmT_pos (k := tH T - u) h0 hb; omega⟩
          have hk := kmT_le T b (tH T - u)
          rw [if_neg h0, xs_110_18 ht, TR_0 hT.1]
          have cl : ∀ w, u ≤ w → w ≤ tH T → ∀ Q, xr scr (d + 19) xc_111 0 [some (.ref t), some (.int (nI b)), some (.int (nI u)), some (.int (nI w)), none, none] [] (wS, I, J, wP t dr G) Q = Q (some (.int (nI (bs (tN T) (kpB T (fun x => b.testBit x) (w - u) u))))) (wS, I, J, wP t dr G) := fun w h1 h2 Q => c_keepersT (d := d + 17) ht hT hb h1 h2
          have last : xr scr (d + 20) xc_110 34 [some (.ref 0), some (.int (nI b)), some (.int (nI u)), some (.int (nI (u + mm)))] [] (wS, I, J, wP t dr G) (AN scr (d + 20) xc_224 [some (.ref 58), some (.int (nI b)), some (.int (nI u)), none]) := by
            rw [xs_110_34 ht, cl (u + mm) (by omega) (by omega), Nat.add_sub_cancel_left, kp_kst (by omega) hmm]
            simp (disch := first | assumption | omega | decide | exact vp_in_nI (by omega) (by omega) | exact and1_bN _ | (simp only [pk_mul, nI_add, pred_s]; exact vp_in_nI (by omega) (by omega))) only [Option.toList_some, Option.toList_none, List.cons_append, List.nil_append, List.append_nil, xs_110_41]
            rw [pk_sub (by omega), Nat.add_sub_cancel_left]
            refine AN_i ?_
            obtain ⟨q, hq⟩ : ∃ q, q = nI (bs (tN T) (kst (fun x => b.testBit x) (lng T (fun x => b.testBit x) (tH T - u)) (kmT T b (tH T - u)))) := ⟨_, rfl⟩
            rw [← hq]
            obtain ⟨m1, m2, m3⟩ := INV_m (I3 := xi_up I 0 14 q) H (fun k a b => xu_fr a)
            simp (disch := first | assumption | omega | decide | exact vp_in_nI (by omega) (by omega) | exact and1_bN _ | (simp only [pk_mul, nI_add, pred_s]; exact vp_in_nI (by omega) (by omega))) only [xs_224_0, m_isSet m1, Option.toList_some, Option.toList_none, List.cons_append, List.nil_append, List.append_nil, xs_224_3, Bool.false_eq_true, nI_add, pk_mul, nI_ltI, nI_eq, z_eq, z_lt, z_gt, z_bN, bN_z, bN_p, bN_i1, nI_clamp, rng_nI, ↓reduceIte, if_true, if_false, not_true_eq_false, not_false_eq_true, true_and, and_true, and_self, false_and, and_false, hb, xs_224_4, m_isTime m1, xs_224_7, hu1, xs_224_10, h0]
            rw [xs_224_14]
            refine m_keepsT (d := d + 9) m1 hb hu (fun I4 f4 h4 => ?_)
            rw [← hq] at h4
            rw [hmm, pred_s]
            simp (disch := first | assumption | omega | decide | exact vp_in_nI (by omega) (by omega) | exact and1_bN _ | (simp only [pk_mul, nI_add, pred_s]; exact vp_in_nI (by omega) (by omega))) only [Option.toList_some, Option.toList_none, List.cons_append, List.nil_append, List.append_nil, xs_224_18, h4, m_say, xs_224_24]
            have H5 := INV_said58 H f4
            first | exact PST_i H5 | exact ⟨trivial, PST_i H5⟩ | exact ⟨rfl, PST_i H5⟩
          have key : ∀ e, u + mm + e ≤ tH T → xr scr (d + 20) xc_110 22 [some (.ref 0), some (.int (nI b)), some (.int (nI u)), some (.int (nI (u + mm + e)))] [] (wS, I, J, wP t dr G) (AN scr (d + 20) xc_224 [some (.ref 58), some (.int (nI b)), some (.int (nI u)), none]) := by
            intro e
            induction e with
            | zero =>
              intro hle
              show xr scr (d + 20) xc_110 22 [some (.ref 0), some (.int (nI b)), some (.int (nI u)), some (.int (nI (u + mm)))] [] (wS, I, J, wP t dr G) (AN scr (d + 20) xc_224 [some (.ref 58), some (.int (nI b)), some (.int (nI u)), none])
              have hbz := bs_lt7 hn (kpB T (fun x => b.testBit x) mm u)
              have hz : ¬ bs (tN T) (kpB T (fun x => b.testBit x) mm u) = 0 := fun h => by
                have := (kp_z (by omega)).mp h
                omega
              rw [xs_110_22]
              split
              · rw [xs_110_25 ht, cl (u + mm) (by omega) (by omega), Nat.add_sub_cancel_left]
                simp (disch := first | assumption | omega | decide | exact vp_in_nI (by omega) (by omega) | exact and1_bN _ | (simp only [pk_mul, nI_add, pred_s]; exact vp_in_nI (by omega) (by omega))) only [Option.toList_some, Option.toList_none, List.cons_append, List.nil_append, List.append_nil, xs_110_31, Bool.false_eq_true, nI_add, pk_mul, nI_ltI, nI_eq, z_eq, z_lt, z_gt, z_bN, bN_z, bN_p, bN_i1, nI_clamp, rng_nI, ↓reduceIte, if_true, if_false, not_true_eq_false, not_false_eq_true, true_and, and_true, and_self, false_and, and_false, hz]
                exact last
              · exact last
            | succ e ih =>
              intro hle
              have hlt : u < u + mm + (e + 1) := by omega
              have hz : bs (tN T) (kpB T (fun x => b.testBit x) (u + mm + (e + 1) - u) u) = 0 := (kp_z (by omega)).mpr (by omega)
              rw [xs_110_22, if_pos ((nI_ltI (by omega) (by omega)).mpr hlt), xs_110_25 ht, cl _ (by omega) (by omega), hz]
              simp (disch := first | assumption | omega | decide | exact vp_in_nI (by omega) (by omega) | exact and1_bN _ | (simp only [pk_mul, nI_add, pred_s]; exact vp_in_nI (by omega) (by omega))) only [Option.toList_some, Option.toList_none, List.cons_append, List.nil_append, List.append_nil, xs_110_31, nI_0, ↓reduceIte, xs_110_32]
              rw [add_m1, show u + mm + (e + 1) = u + mm + e + 1 by omega, pred_s]
              exact ih (by omega)
          have := key (tH T - u - mm) (by omega)
          rw [show u + mm + (tH T - u - mm) = tH T by omega] at this
          exact this
      · simp (disch := first | assumption | omega | decide | exact vp_in_nI (by omega) (by omega) | exact and1_bN _ | (simp only [pk_mul, nI_add, pred_s]; exact vp_in_nI (by omega) (by omega))) only [Option.toList_some, Option.toList_none, List.cons_append, List.nil_append, List.append_nil, xs_110_11, Bool.false_eq_true, nI_add, pk_mul, nI_ltI, nI_eq, z_eq, z_lt, z_gt, z_bN, bN_z, bN_p, bN_i1, nI_clamp, rng_nI, ↓reduceIte, if_true, if_false, not_true_eq_false, not_false_eq_true, true_and, and_true, and_self, false_and, and_false, hy, xs_110_12]
        exact mbad (fun h => hy h.2)
/-- the smallest set of 1..b, the first of them, at which p holds -/
def fwb (p : Nat → Bool) (s : Nat → Nat) : Nat → Option Nat
  | 0 => none
  | b + 1 => match fwb p s b with
    | none => if p (b + 1) = true then some (b + 1) else none
    | some f => if s (b + 1) < s f ∧ p (b + 1) = true then some (b + 1) else some f
theorem fwb_s (p : Nat → Bool) (s : Nat → Nat) (b : Nat) : fwb p s (b + 1) = match fwb p s b with
    | none => if p (b + 1) = true then some (b + 1) else none
    | some f => if s (b + 1) < s f ∧ p (b + 1) = true then some (b + 1) else some f := rfl
theorem fwb_le {p : Nat → Bool} {s : Nat → Nat} {b f : Nat} (h : fwb p s b = some f) : 1 ≤ f ∧ f ≤ b := by
  induction b generalizing f with
  | zero => exact absurd h (by simp [fwb])
  | succ b ih =>
    rw [fwb_s] at h
    cases e : fwb p s b with
    | none =>
      simp only [e] at h
      split at h
      · injection h with h; omega
      · exact absurd h (by simp)
    | some g =>
      have := ih e
      simp only [e] at h
      split at h
      · injection h with h; omega
      · injection h with h; omega
theorem k_fewest (H : INV I J t dr G T v bk pre ss) {x : Int32} : xr scr (d + 20) xc_112 0 [some (.ref 0), some (.int x), none, none, none] [] (wS, I, J, wP t dr G) (AN scr (d + 20) xc_229 [some (.ref 58), some (.int x), none, none]) := by
  have ht := H.1.1
  have hT := H.1.2.2.2.1
  have hM := H.1.2.2.2.2.1
  have hn := TR_n hT.1
  have hh5 := TR_h hT.1
  obtain ⟨e, he, he2⟩ := p2_s hn
  by_cases hx : rng x (tH T + 1) = true
  · obtain ⟨u, hu1, rfl⟩ := rng_of hx (by omega)
    have hu : u ≤ tH T := by omega
    obtain ⟨siz, hsiz⟩ : ∃ siz : Nat → Nat, siz = fun b => cnt 7 (fun y => b.testBit y) := ⟨_, rfl⟩
    have hse : ∀ b, cnt 7 (fun y => b.testBit y) = siz b := fun b => by rw [hsiz]
    have hsl : ∀ b, siz b < 2 ^ 31 := fun b => by have := cnt_le 7 (fun y => b.testBit y); rw [hse] at this; omega
    obtain ⟨p, hp⟩ : ∃ p : Nat → Bool, p = fun b => decide (tH T - u + 1 ≤ kmT T b (tH T - u)) := ⟨_, rfl⟩
    have hps : ∀ b, p b = true ↔ tH T - u + 1 ≤ kmT T b (tH T - u) := fun b => by rw [hp]; exact decide_eq_true_iff
    have cb : ∀ (b : Nat) (I1 : Nat → Nat → Int32) (Q : Option Value → xi_S → Prop), b < 128 → xr scr (d + 19) xc_59 0 [some (.int (nI b))] [] (wS, I1, J, wP t dr G) Q = Q (some (.int (nI (siz b)))) (wS, I1, J, wP t dr G) := fun b I1 Q hb => by rw [← hse]; exact c_bitCount hb
    have mb : ∀ (b : Nat) (I1 : Nat → Nat → Int32) (Q : Option Value → xi_S → Prop), b < 128 → xr scr (d + 19) xc_195 0 [some (.int (nI b)), none, none] [] (wS, I1, J, wP t dr G) Q = Q (some (.int (nI (siz b)))) (wS, I1, J, wP t dr G) := fun b I1 Q hb => by rw [← hse]; exact m_sizeOf hb
    rw [xs_112_0 ht, c_isMoment ht hT.1]
    simp (disch := first | assumption | omega | decide | exact vp_in_nI (by omega) (by omega) | exact and1_bN _ | (simp only [pk_mul, nI_add, pred_s]; exact vp_in_nI (by omega) (by omega))) only [Option.toList_some, Option.toList_none, List.cons_append, List.nil_append, List.append_nil, xs_112_4, Bool.false_eq_true, nI_add, pk_mul, nI_ltI, nI_eq, z_eq, z_lt, z_gt, z_bN, bN_z, bN_p, bN_i1, nI_clamp, rng_nI, ↓reduceIte, if_true, if_false, not_true_eq_false, not_false_eq_true, true_and, and_true, and_self, false_and, and_false, hu1]
    rw [xs_112_7]
    have mref : ∀ (q : Nat), (fwb p siz e).getD 0 = q → AN scr (d + 20) xc_229 [some (.ref 58), some (.int (nI u)), none, none] (some (.int (if q = 0 then -9 else nI (siz q)))) (wS, if q = 0 then I else xi_up I 0 14 (nI q), J, wP t dr G) := by
      intro q hq
      obtain ⟨I3, hI3⟩ : ∃ I3, I3 = if q = 0 then I else xi_up I 0 14 (nI q) := ⟨_, rfl⟩
      rw [← hI3]
      have hf3 : ∀ k, k ≠ 0 → I3 k = I k := fun k hk => by
        rw [hI3]
        split
        · rfl
        · exact xu_fr hk
      obtain ⟨m1, m2, m3⟩ := INV_m (I3 := I3) H (fun k a b => hf3 k a)
      have eT : (if q = 0 then (-9 : Int32) else nI (siz q)) = if q = 0 then -9 else nI (siz q) := rfl
      obtain ⟨z, hz⟩ : ∃ z, z = if q = 0 then (-9 : Int32) else nI (siz q) := ⟨_, rfl⟩
      rw [← hz]
      refine AN_i ?_
      simp (disch := first | assumption | omega | decide | exact vp_in_nI (by omega) (by omega) | exact and1_bN _ | (simp only [pk_mul, nI_add, pred_s]; exact vp_in_nI (by omega) (by omega))) only [xs_229_0, m_isTime m1, Option.toList_some, Option.toList_none, List.cons_append, List.nil_append, List.append_nil, xs_229_3, Bool.false_eq_true, nI_add, pk_mul, nI_ltI, nI_eq, z_eq, z_lt, z_gt, z_bN, bN_z, bN_p, bN_i1, nI_clamp, rng_nI, ↓reduceIte, if_true, if_false, not_true_eq_false, not_false_eq_true, true_and, and_true, and_self, false_and, and_false, hu1]
      rw [xs_229_6]
      refine up_0 (P := fun b => ∀ (I4 : Nat → Nat → Int32), Fr58 (fun j => j = 29 ∨ j = 30) I3 I4 → xr scr (d + 20) xc_229 10 [some (.ref 58), some (.int (nI u)), some (.int (glI (fwb p siz b))), some (.int (nI (b + 1)))] [] (wS, I4, J, wP t dr G) (fun r2 S2 => r2 = some (.int z) ∧ PST S2)) e (fun b hb h I4 f4 => ?_) (fun I4 f4 => ?_) I3 Fr58_refl
      · have hM4 := MT_58 f4 m1
        have hb1 : b + 1 < e + 1 := by omega
        have hb128 : b + 1 < 128 := by omega
        have hbn : b + 1 < 2 ^ tN T := by omega
        have hkm := kmT_le T (b + 1) (tH T - u)
        have hkp := kmT_pos (k := tH T - u) (b := b + 1) (by omega) hbn
        rw [xs_229_10, MT_10 hM4, sb_one _ (by omega), he, if_pos ((nI_ltI (by omega) (by omega)).mpr hb1)]
        have kp : ∀ x2 : Int32, (∀ I5, Fr58 (fun j => j = 29 ∨ j = 30) I3 I5 → xr scr (d + 20) xc_229 35 [some (.ref 58), some (.int (nI u)), some (.int (if p (b + 1) = true then nI (b + 1) else x2)), some (.int (nI (b + 1)))] [] (wS, I5, J, wP t dr G) (fun r2 S2 => r2 = some (.int z) ∧ PST S2)) → xr scr (d + 20) xc_229 24 [some (.ref 58), some (.int (nI u)), some (.int x2), some (.int (nI (b + 1)))] [] (wS, I4, J, wP t dr G) (fun r2 S2 => r2 = some (.int z) ∧ PST S2) := by
          intro x2 hq2
          rw [xs_229_24]
          refine m_keepsT (d := d + 9) hM4 hbn hu (fun I5 f5 h5 => ?_)
          have f35 := Fr58_trans f4 f5
          have hM5 := MT_58 f35 m1
          obtain ⟨km, hkm2⟩ : ∃ km, kmT T (b + 1) (tH T - u) = km + 1 := ⟨_, (Nat.sub_add_cancel hkp).symm⟩
          have hpe : (km = tH T - u) ↔ p (b + 1) = true := by rw [hps]; omega
          rw [hkm2, pred_s]
          simp (disch := first | assumption | omega | decide | exact vp_in_nI (by omega) (by omega) | exact and1_bN _ | (simp only [pk_mul, nI_add, pred_s]; exact vp_in_nI (by omega) (by omega))) only [Option.toList_some, Option.toList_none, List.cons_append, List.nil_append, List.append_nil, xs_229_28, MT_11 hM5]
          rw [pk_sub hu]
          simp (disch := first | assumption | omega | decide | exact vp_in_nI (by omega) (by omega) | exact and1_bN _ | (simp only [pk_mul, nI_add, pred_s]; exact vp_in_nI (by omega) (by omega))) only [Bool.false_eq_true, nI_add, pk_mul, nI_ltI, nI_eq, z_eq, z_lt, z_gt, z_bN, bN_z, bN_p, bN_i1, nI_clamp, rng_nI, ↓reduceIte, if_true, if_false, not_true_eq_false, not_false_eq_true, true_and, and_true, and_self, false_and, and_false, hpe, xs_229_33]
          have := hq2 I5 f35
          by_cases e1 : p (b + 1) = true
          · simp only [if_pos e1] at this ⊢
            exact this
          · simp only [if_neg e1] at this ⊢
            exact this
        have hh : ∀ I5, Fr58 (fun j => j = 29 ∨ j = 30) I3 I5 → xr scr (d + 20) xc_229 35 [some (.ref 58), some (.int (nI u)), some (.int (glI (fwb p siz (b + 1)))), some (.int (nI (b + 1)))] [] (wS, I5, J, wP t dr G) (fun r2 S2 => r2 = some (.int z) ∧ PST S2) := fun I5 f5 => by
          rw [xs_229_35, nI_add]
          exact h I5 f5
        rw [fwb_s] at hh
        cases hfb : fwb p siz b with
        | none =>
          rw [hfb] at hh
          rw [show glI none = -9 from rfl, xs_229_16, if_pos rfl]
          refine kp _ (fun I5 f5 => ?_)
          have := hh I5 f5
          by_cases e1 : p (b + 1) = true
          · simp only [if_pos e1] at this ⊢
            exact this
          · simp only [if_neg e1] at this ⊢
            exact this
        | some f =>
          have hf := fwb_le hfb
          have hf128 : f < 128 := by omega
          have hs1 := hsl f
          have hs2 := hsl (b + 1)
          rw [hfb] at hh
          rw [show glI (some f) = nI f from rfl, xs_229_16, if_neg (fun e => (m9_ne (by omega)).mp e)]
          simp (disch := first | assumption | omega | decide | exact vp_in_nI (by omega) (by omega) | exact and1_bN _ | (simp only [pk_mul, nI_add, pred_s]; exact vp_in_nI (by omega) (by omega))) only [xs_229_19, mb, Option.toList_some, Option.toList_none, List.cons_append, List.nil_append, List.append_nil, xs_229_21, xs_229_23, Bool.false_eq_true, nI_add, pk_mul, nI_ltI, nI_eq, z_eq, z_lt, z_gt, z_bN, bN_z, bN_p, bN_i1, nI_clamp, rng_nI, ↓reduceIte, if_true, if_false, not_true_eq_false, not_false_eq_true, true_and, and_true, and_self, false_and, and_false]
          by_cases e2 : siz (b + 1) < siz f
          · rw [if_pos e2]
            refine kp _ (fun I5 f5 => ?_)
            have := hh I5 f5
            by_cases e1 : p (b + 1) = true
            · simp only [if_pos e1, if_pos (And.intro e2 e1)] at this ⊢
              exact this
            · simp only [if_neg e1, if_neg (fun h : siz (b + 1) < siz f ∧ p (b + 1) = true => e1 h.2)] at this ⊢
              exact this
          · rw [if_neg e2]
            have := hh I4 f4
            simp only [if_neg (fun h : siz (b + 1) < siz f ∧ p (b + 1) = true => e2 h.1)] at this
            exact this
      · have hM4 := MT_58 f4 m1
        rw [xs_229_10, MT_10 hM4, sb_one _ (by omega), he]
        simp (disch := first | assumption | omega | decide | exact vp_in_nI (by omega) (by omega) | exact and1_bN _ | (simp only [pk_mul, nI_add, pred_s]; exact vp_in_nI (by omega) (by omega))) only [Bool.false_eq_true, nI_add, pk_mul, nI_ltI, nI_eq, z_eq, z_lt, z_gt, z_bN, bN_z, bN_p, bN_i1, nI_clamp, rng_nI, ↓reduceIte, if_true, if_false, not_true_eq_false, not_false_eq_true, true_and, and_true, and_self, false_and, and_false, Nat.lt_irrefl]
        cases hfb : fwb p siz e with
        | none =>
          rw [hfb] at hq
          have hq0 : q = 0 := hq.symm
          rw [if_pos hq0] at hI3 hz
          rw [hI3] at f4
          rw [show glI none = -9 from rfl, xs_229_37, if_pos rfl, xs_229_40, xs_229_47, hz]
          exact ⟨rfl, PST_i (INV_liv H (LIV_58 f4) (by
            have := H.2.2.2.2.2.2.2.1
            unfold IA at this ⊢
            rw [f4.1 0 (by decide), f4.2 2 (by omega)]
            exact this) rfl)⟩
        | some f =>
          have hf := fwb_le hfb
          have hf128 : f < 128 := by omega
          rw [hfb] at hq
          have hq0 : f = q := hq
          subst hq0
          have hf0 : ¬ f = 0 := by omega
          rw [if_neg hf0] at hI3 hz
          rw [hI3] at f4
          rw [show glI (some f) = nI f from rfl, xs_229_37, if_neg (fun e => (m9_ne (by omega)).mp e)]
          simp (disch := first | assumption | omega | decide | exact vp_in_nI (by omega) (by omega) | exact and1_bN _ | (simp only [pk_mul, nI_add, pred_s]; exact vp_in_nI (by omega) (by omega))) only [xs_229_42, mb, Option.toList_some, Option.toList_none, List.cons_append, List.nil_append, List.append_nil, xs_229_46, m_say, xs_229_47]
          rw [hz]
          exact ⟨rfl, PST_i (INV_said58 H f4)⟩
    refine up_0 (P := fun b => ∀ o, xr scr (d + 20) xc_112 11 [some (.ref 0), some (.int (nI u)), some (.int (nI ((fwb p siz b).getD 0))), some (.int (nI (b + 1))), o] [] (wS, I, J, wP t dr G) (AN scr (d + 20) xc_229 [some (.ref 58), some (.int (nI u)), none, none])) e (fun b hb h o => ?_) (fun o => ?_) none
    · have hb128 : b + 1 < 128 := by omega
      have hbn : b + 1 < 2 ^ tN T := by omega
      have hnl : ¬ e < b + 1 := by omega
      have hzz := kp_z (T := T) (b := b + 1) (m := tH T - u) (u := u) (by omega)
      have hb7 := bs_lt7 hn (kpB T (fun x => (b + 1).testBit x) (tH T - u) u)
      have hpz : bs (tN T) (kpB T (fun x => (b + 1).testBit x) (tH T - u) u) = 0 ↔ ¬ p (b + 1) = true := by rw [hzz, hps]; omega
      rw [xs_112_11 ht, c_everyone ht hT.1, bs_all, he, Nat.add_sub_cancel]
      simp (disch := first | assumption | omega | decide | exact vp_in_nI (by omega) (by omega) | exact and1_bN _ | (simp only [pk_mul, nI_add, pred_s]; exact vp_in_nI (by omega) (by omega))) only [Option.toList_some, Option.toList_none, List.cons_append, List.nil_append, List.append_nil, xs_112_15, Bool.false_eq_true, nI_add, pk_mul, nI_ltI, nI_eq, z_eq, z_lt, z_gt, z_bN, bN_z, bN_p, bN_i1, nI_clamp, rng_nI, ↓reduceIte, if_true, if_false, not_true_eq_false, not_false_eq_true, true_and, and_true, and_self, false_and, and_false, hnl]
      have kp : ∀ x2 : Int32, (∀ o, xr scr (d + 20) xc_112 40 [some (.ref 0), some (.int (nI u)), some (.int (if p (b + 1) = true then nI (b + 1) else x2)), some (.int (nI (b + 1))), some (.int o)] [] (wS, I, J, wP t dr G) (AN scr (d + 20) xc_229 [some (.ref 58), some (.int (nI u)), none, none])) → ∀ o, xr scr (d + 20) xc_112 26 [some (.ref 0), some (.int (nI u)), some (.int x2), some (.int (nI (b + 1))), o] [.int (nI 1)] (wS, I, J, wP t dr G) (AN scr (d + 20) xc_229 [some (.ref 58), some (.int (nI u)), none, none]) := by
        intro x2 hq2 o
        have h10 : ¬ nI 1 = 0 := by decide
        rw [xs_112_26, if_neg h10, xs_112_29 ht, TR_0 hT.1, c_keepersT (d := d + 17) ht hT hbn hu (Nat.le_refl _)]
        simp (disch := first | assumption | omega | decide | exact vp_in_nI (by omega) (by omega) | exact and1_bN _ | (simp only [pk_mul, nI_add, pred_s]; exact vp_in_nI (by omega) (by omega))) only [Option.toList_some, Option.toList_none, List.cons_append, List.nil_append, List.append_nil, xs_112_37, Bool.false_eq_true, nI_add, pk_mul, nI_ltI, nI_eq, z_eq, z_lt, z_gt, z_bN, bN_z, bN_p, bN_i1, nI_clamp, rng_nI, ↓reduceIte, if_true, if_false, not_true_eq_false, not_false_eq_true, true_and, and_true, and_self, false_and, and_false, hpz, xs_112_38]
        have := hq2 (nI 1)
        by_cases e1 : p (b + 1) = true
        · simp only [if_pos e1] at this
          rw [if_neg (fun h => h e1)]
          exact this
        · simp only [if_neg e1] at this
          rw [if_pos e1]
          exact this
      have hh : ∀ o, xr scr (d + 20) xc_112 40 [some (.ref 0), some (.int (nI u)), some (.int (nI ((fwb p siz (b + 1)).getD 0))), some (.int (nI (b + 1))), some (.int o)] [] (wS, I, J, wP t dr G) (AN scr (d + 20) xc_229 [some (.ref 58), some (.int (nI u)), none, none]) := fun o => by
        rw [xs_112_40, nI_add]
        exact h (some (.int o))
      rw [fwb_s] at hh
      cases hfb : fwb p siz b with
      | none =>
        rw [hfb] at hh
        rw [show (none : Option Nat).getD 0 = 0 from rfl, xs_112_16, if_pos nI_0, xs_112_23]
        refine kp _ (fun o => ?_) _
        have := hh o
        by_cases e1 : p (b + 1) = true
        · simp only [if_pos e1] at this ⊢
          exact this
        · simp only [if_neg e1] at this ⊢
          exact this
      | some f =>
        have hf := fwb_le hfb
        have hf128 : f < 128 := by omega
        have hf0 : ¬ f = 0 := by omega
        have hs1 := hsl f
        have hs2 := hsl (b + 1)
        rw [hfb] at hh
        rw [show (some f).getD 0 = f from rfl, xs_112_16]
        simp (disch := first | assumption | omega | decide | exact vp_in_nI (by omega) (by omega) | exact and1_bN _ | (simp only [pk_mul, nI_add, pred_s]; exact vp_in_nI (by omega) (by omega))) only [Bool.false_eq_true, nI_add, pk_mul, nI_ltI, nI_eq, z_eq, z_lt, z_gt, z_bN, bN_z, bN_p, bN_i1, nI_clamp, rng_nI, ↓reduceIte, if_true, if_false, not_true_eq_false, not_false_eq_true, true_and, and_true, and_self, false_and, and_false, hf0, xs_112_18, cb, Option.toList_some, Option.toList_none, List.cons_append, List.nil_append, List.append_nil, xs_112_20, xs_112_22]
        by_cases e2 : siz (b + 1) < siz f
        · rw [if_pos e2, xs_112_23]
          refine kp _ (fun o => ?_) _
          have := hh o
          by_cases e1 : p (b + 1) = true
          · simp only [if_pos e1, if_pos (And.intro e2 e1)] at this ⊢
            exact this
          · simp only [if_neg e1, if_neg (fun h : siz (b + 1) < siz f ∧ p (b + 1) = true => e1 h.2)] at this ⊢
            exact this
        · have h00 : nI 0 = 0 := nI_0
          rw [if_neg e2, xs_112_25, xs_112_26, if_pos nI_0]
          have := hh (nI 0)
          simp only [if_neg (fun h : siz (b + 1) < siz f ∧ p (b + 1) = true => e2 h.1)] at this
          exact this
    · have hlt : e < e + 1 := Nat.lt_succ_self _
      rw [xs_112_11 ht, c_everyone ht hT.1, bs_all, he, Nat.add_sub_cancel]
      simp (disch := first | assumption | omega | decide | exact vp_in_nI (by omega) (by omega) | exact and1_bN _ | (simp only [pk_mul, nI_add, pred_s]; exact vp_in_nI (by omega) (by omega))) only [Option.toList_some, Option.toList_none, List.cons_append, List.nil_append, List.append_nil, xs_112_15, Bool.false_eq_true, nI_add, pk_mul, nI_ltI, nI_eq, z_eq, z_lt, z_gt, z_bN, bN_z, bN_p, bN_i1, nI_clamp, rng_nI, ↓reduceIte, if_true, if_false, not_true_eq_false, not_false_eq_true, true_and, and_true, and_self, false_and, and_false, hlt]
      have := mref _ rfl
      cases hfb : fwb p siz e with
      | none =>
        rw [hfb] at this
        rw [show (none : Option Nat).getD 0 = 0 from rfl, xs_112_42, if_pos nI_0, xs_112_44]
        exact this
      | some f =>
        have hf := fwb_le hfb
        have hf128 : f < 128 := by omega
        have hf0 : ¬ f = 0 := by omega
        rw [hfb] at this
        rw [show (some f).getD 0 = f from rfl] at this ⊢
        rw [if_neg hf0, if_neg hf0] at this
        simp (disch := first | assumption | omega | decide | exact vp_in_nI (by omega) (by omega) | exact and1_bN _ | (simp only [pk_mul, nI_add, pred_s]; exact vp_in_nI (by omega) (by omega))) only [xs_112_42, Bool.false_eq_true, nI_add, pk_mul, nI_ltI, nI_eq, z_eq, z_lt, z_gt, z_bN, bN_z, bN_p, bN_i1, nI_clamp, rng_nI, ↓reduceIte, if_true, if_false, not_true_eq_false, not_false_eq_true, true_and, and_true, and_self, false_and, and_false, hf0, xs_112_46, cb, Option.toList_some, Option.toList_none, List.cons_append, List.nil_append, List.append_nil, xs_112_51]
        exact this
  · rw [xs_112_0 ht, c_isMoment ht hT.1]
    simp (disch := first | assumption | omega | decide | exact vp_in_nI (by omega) (by omega) | exact and1_bN _ | (simp only [pk_mul, nI_add, pred_s]; exact vp_in_nI (by omega) (by omega))) only [Option.toList_some, Option.toList_none, List.cons_append, List.nil_append, List.append_nil, xs_112_4, Bool.false_eq_true, nI_add, pk_mul, nI_ltI, nI_eq, z_eq, z_lt, z_gt, z_bN, bN_z, bN_p, bN_i1, nI_clamp, rng_nI, ↓reduceIte, if_true, if_false, not_true_eq_false, not_false_eq_true, true_and, and_true, and_self, false_and, and_false, hx, xs_112_5]
    refine AN_i ?_
    simp (disch := first | assumption | omega | decide | exact vp_in_nI (by omega) (by omega) | exact and1_bN _ | (simp only [pk_mul, nI_add, pred_s]; exact vp_in_nI (by omega) (by omega))) only [xs_229_0, m_isTime hM, Option.toList_some, Option.toList_none, List.cons_append, List.nil_append, List.append_nil, xs_229_3, Bool.false_eq_true, nI_add, pk_mul, nI_ltI, nI_eq, z_eq, z_lt, z_gt, z_bN, bN_z, bN_p, bN_i1, nI_clamp, rng_nI, ↓reduceIte, if_true, if_false, not_true_eq_false, not_false_eq_true, true_and, and_true, and_self, false_and, and_false, hx, xs_229_4]
    first | exact PST_i H | exact ⟨trivial, PST_i H⟩ | exact ⟨rfl, PST_i H⟩
end KEEPS
