/-! calls: where, ask -/
theorem n4z : ¬ (-4 : Int32) = 0 := by decide
theorem n4l : (-4 : Int32) < 0 := by decide
theorem n1l2 : (-1 : Int32) < 0 := by decide
theorem one4b : 1 ≤ 4 := by decide
theorem four5b : 4 ≤ 5 := by decide
theorem xu_xu {α : Type} {f : Nat → Nat → α} {k j : Nat} {a b : α} : xi_up (xi_up f k j a) k j b = xi_up f k j b := by
  funext x y
  by_cases h : x = k
  · subst h
    rw [xu_at, xu_at, xu_at]
    split <;> rfl
  · rw [xu_nc h, xu_nc h, xu_nc h]
/-- the first of 0..k at which f is least -/
def amn (f : Nat → Nat) : Nat → Nat
  | 0 => 0
  | k + 1 => if f (k + 1) < f (amn f k) then k + 1 else amn f k
theorem amn_le (f : Nat → Nat) (k : Nat) : amn f k ≤ k := by
  induction k with
  | zero => exact Nat.le_refl _
  | succ k ih =>
    show (if f (k + 1) < f (amn f k) then k + 1 else amn f k) ≤ k + 1
    split <;> omega
section WHERE
variable {scr : xi_X} {d : Nat} {Q : Option Value → xi_S → Prop} {I I2 I3 I4 : Nat → Nat → Int32} {J J2 : Nat → Nat → Int64} {t dr : Nat} {G G2 : Nat → Nat} {T : TN} {v v2 : Nat} {bk bk2 : Bool} {pre pre2 : List Nat} {ss ss2 : List SGT}
theorem INV_m (H : INV I J t dr G T v bk pre ss) (hf : ∀ k, k ≠ 0 → k ≠ 51 → I3 k = I k) : MT I3 T ∧ MV I3 v bk ∧ SG I3 ss := by
  refine ⟨MT_fr H.1.2.2.2.2.1 (by rw [hf 58 (by decide) (by decide)]) (by rw [hf 58 (by decide) (by decide)]) (hf 65 (by decide) (by decide)), MV_fr H.2.2.2.1.2.2.2.1 (by rw [hf 58 (by decide) (by decide)]) (by rw [hf 58 (by decide) (by decide)]), ?_⟩
  have := H.2.2.2.2.2.1.1
  unfold SG at this ⊢
  rw [hf 58 (by decide) (by decide), hf 71 (by decide) (by decide)]
  exact this
theorem INV_said (H : INV I J t dr G T v bk pre ss) {q : Int32} (L : LIV (xi_up I 0 14 q) I4) (h14 : I4 0 14 = q) : INV (xi_up I4 58 2 q) J t dr G T v bk pre ss := by
  refine INV_liv H ⟨fun k hk => ?_, fun i hi => ?_, fun j hj => ?_, fun j hj => ?_⟩ ⟨?_, H.2.2.2.2.2.2.2.1.2⟩ rfl
  · by_cases e : k = 58
    · omega
    · rw [xu_fr e, L.1 k hk, xu_fr (by omega)]
  · rw [xu_nc (by decide), L.2.1 i hi, xu_nc (by decide)]
  · rw [xu_nj (by omega), L.2.2.1 j hj, xu_nc (by decide)]
  · rw [xu_nc (by decide), L.2.2.2 j hj, xu_nj hj]
  · rw [xu_nc (by decide), xu_eq, h14]
theorem INV_saidS (H : INV I J t dr G T v bk pre ss) {q : Int32} (F : FrS (xi_up I 0 14 q) I4) : INV (xi_up I4 58 2 q) J t dr G T v bk pre ss := INV_said H (LIV_S F) (by rw [F.1 0 (by decide) (by decide) (by decide) (by decide) (by decide), xu_eq])
theorem INV_foundS (H : INV I J t dr G T v bk pre ss) {f : Nat} (hf : f < 6) (F : FrS (fnd I f) I4) : INV (mmt I4 f) J t dr G T v bk pre ss := by
  refine INV_S (fnd_inv hf H) ⟨fun k a b c e h => ?_, fun j a b c e h => ?_, fun i hi => ?_⟩
  · have f1 := F.1 k a b c e h
    unfold mmt
    by_cases e59 : k = 59
    · subst e59
      funext j
      rw [xu_at, xu_at, xu_nc (by decide), xu_nc (by decide), f1]
    · rw [xu_fr e59, xu_fr e59, xu_fr a, xu_fr a, f1]
  · unfold mmt
    rw [xu_nc (k := 59) (by decide), xu_nc (k := 59) (by decide), xu_at, xu_at, F.2.1 j a b c e h]
  · unfold mmt
    rw [xu_nc (by decide), xu_nc (by decide), xu_nc (by decide), xu_nc (by decide), F.2.2 i hi]
theorem c_refusePast (H : INV I J t dr G T v bk pre ss) {i : Nat} (hi : i ≤ tH T) (h1 : 1 ≤ tH T) (hno : RWS T v bk (sgB ss) = [] → ∀ (I2 : Nat → Nat → Int32) (G2 : Nat → Nat), INV I2 J t dr G2 T v bk pre ss → Q (some (.int (-3))) (wS, fnd I2 4, J, wP t dr G2)) (hyes : RWS T v bk (sgB ss) ≠ [] → ∀ (I2 : Nat → Nat → Int32) (G2 : Nat → Nat), INV I2 J t dr G2 T v bk pre ss → G2 38 = t → WR I2 38 T (RWS T v bk (sgB ss)) → Q (some (.int (nI 0))) (wS, I2, J, wP t dr G2)) : xr scr (d + 12) xc_122 0 [some (.ref 0), some (.int (nI i))] [] (wS, I, J, wP t dr G) Q := by
  have ht := H.1.1
  have hT := H.1.2.2.2.1
  have hn := TR_n hT.1
  have hh5 := TR_h hT.1
  have hi1 : i < tH T + 1 := by omega
  have h0 : ¬ tH T = 0 := by omega
  rw [xs_122_0 ht]
  simp (disch := first | assumption | omega | decide | exact vp_in_nI (by omega) (by omega) | exact and1_bN _ | (simp only [pk_mul, nI_add, pred_s]; exact vp_in_nI (by omega) (by omega))) only [c_isMoment ht hT.1, Option.toList_some, Option.toList_none, List.cons_append, List.nil_append, List.append_nil, xs_122_4, Bool.false_eq_true, nI_add, pk_mul, nI_ltI, nI_eq, z_eq, z_lt, z_gt, z_bN, bN_z, bN_p, bN_i1, nI_clamp, rng_nI, ↓reduceIte, if_true, if_false, not_true_eq_false, not_false_eq_true, true_and, and_true, and_self, false_and, and_false, hi1]
  rw [xs_122_7 ht, TR_0 hT.1]
  simp (disch := first | assumption | omega | decide | exact vp_in_nI (by omega) (by omega) | exact and1_bN _ | (simp only [pk_mul, nI_add, pred_s]; exact vp_in_nI (by omega) (by omega))) only [Bool.false_eq_true, nI_add, pk_mul, nI_ltI, nI_eq, z_eq, z_lt, z_gt, z_bN, bN_z, bN_p, bN_i1, nI_clamp, rng_nI, ↓reduceIte, if_true, if_false, not_true_eq_false, not_false_eq_true, true_and, and_true, and_self, false_and, and_false, h0]
  rw [xs_122_13]
  refine c_seekPast (d := d + 1) H h1 (fun I2 G2 H2 hG R2 => ?_)
  have hlen : (RWS T v bk (sgB ss)).length ≤ 117649 := RWS_len T v bk (sgB ss) hn hh5
  simp (disch := first | assumption | omega | decide | exact vp_in_nI (by omega) (by omega) | exact and1_bN _ | (simp only [pk_mul, nI_add, pred_s]; exact vp_in_nI (by omega) (by omega))) only [Option.toList_some, Option.toList_none, List.cons_append, List.nil_append, List.append_nil, xs_122_15, R2.2.1, Bool.false_eq_true, nI_add, pk_mul, nI_ltI, nI_eq, z_eq, z_lt, z_gt, z_bN, bN_z, bN_p, bN_i1, nI_clamp, rng_nI, ↓reduceIte, if_true, if_false, not_true_eq_false, not_false_eq_true, true_and, and_true, and_self, false_and, and_false, List.length_eq_zero_iff]
  by_cases hL : RWS T v bk (sgB ss) = []
  · rw [if_pos hL]
    simp (disch := first | assumption | omega | decide | exact vp_in_nI (by omega) (by omega) | exact and1_bN _ | (simp only [pk_mul, nI_add, pred_s]; exact vp_in_nI (by omega) (by omega))) only [xs_122_19, c_found one4b four5b, Option.toList_some, Option.toList_none, List.cons_append, List.nil_append, List.append_nil, xs_122_22, xs_122_24]
    exact hno hL I2 G2 H2
  · rw [if_neg hL]
    simp (disch := first | assumption | omega | decide | exact vp_in_nI (by omega) (by omega) | exact and1_bN _ | (simp only [pk_mul, nI_add, pred_s]; exact vp_in_nI (by omega) (by omega))) only [xs_122_23, xs_122_24]
    exact hyes hL I2 G2 H2 hG R2
theorem m_askedFits (hM : MT I T) (hV : MV I v bk) (hv : v ≤ 5) (hS : SG I ss) {i : Nat} (hi : i ≤ tH T) (h1 : 1 ≤ tH T) (hno : RWS T v bk (sgB ss) = [] → ∀ I2 : Nat → Nat → Int32, FrS I I2 → Q (some (.int (-3))) (wS, mmt I2 4, J, wP t dr G)) (hyes : RWS T v bk (sgB ss) ≠ [] → ∀ I2 : Nat → Nat → Int32, FrS I I2 → MRS I2 T (RWS T v bk (sgB ss)) (RWS T v bk (sgB ss)) → Q (some (.int (nI 0))) (wS, I2, J, wP t dr G)) : xr scr (d + 14) xc_236 0 [some (.ref 58), some (.int (nI i))] [] (wS, I, J, wP t dr G) Q := by
  have hn := MT_n hM
  have hh5 := MT_h hM
  have hi1 : i < tH T + 1 := by omega
  have h0 : ¬ tH T = 0 := by omega
  have hlen : (RWS T v bk (sgB ss)).length ≤ 117649 := RWS_len T v bk (sgB ss) hn hh5
  simp (disch := first | assumption | omega | decide | exact vp_in_nI (by omega) (by omega) | exact and1_bN _ | (simp only [pk_mul, nI_add, pred_s]; exact vp_in_nI (by omega) (by omega))) only [xs_236_0, m_isTime hM, Option.toList_some, Option.toList_none, List.cons_append, List.nil_append, List.append_nil, xs_236_3, Bool.false_eq_true, nI_add, pk_mul, nI_ltI, nI_eq, z_eq, z_lt, z_gt, z_bN, bN_z, bN_p, bN_i1, nI_clamp, rng_nI, ↓reduceIte, if_true, if_false, not_true_eq_false, not_false_eq_true, true_and, and_true, and_self, false_and, and_false, hi1, xs_236_6, MT_11 hM, h0]
  rw [xs_236_11]
  refine m_setFits (d := d + 1) hM hV hv hS (fun I2 F R => ?_)
  simp (disch := first | assumption | omega | decide | exact vp_in_nI (by omega) (by omega) | exact and1_bN _ | (simp only [pk_mul, nI_add, pred_s]; exact vp_in_nI (by omega) (by omega))) only [Option.toList_some, Option.toList_none, List.cons_append, List.nil_append, List.append_nil, xs_236_13, R.1, Bool.false_eq_true, nI_add, pk_mul, nI_ltI, nI_eq, z_eq, z_lt, z_gt, z_bN, bN_z, bN_p, bN_i1, nI_clamp, rng_nI, ↓reduceIte, if_true, if_false, not_true_eq_false, not_false_eq_true, true_and, and_true, and_self, false_and, and_false, List.length_eq_zero_iff]
  by_cases hL : RWS T v bk (sgB ss) = []
  · rw [if_pos hL]
    simp (disch := first | assumption | omega | decide | exact vp_in_nI (by omega) (by omega) | exact and1_bN _ | (simp only [pk_mul, nI_add, pred_s]; exact vp_in_nI (by omega) (by omega))) only [xs_236_16, m_meet four5b, Option.toList_some, Option.toList_none, List.cons_append, List.nil_append, List.append_nil, xs_236_19, xs_236_21]
    exact hno hL I2 F
  · rw [if_neg hL]
    simp (disch := first | assumption | omega | decide | exact vp_in_nI (by omega) (by omega) | exact and1_bN _ | (simp only [pk_mul, nI_add, pred_s]; exact vp_in_nI (by omega) (by omega))) only [xs_236_20, xs_236_21]
    exact hyes hL I2 F R
theorem c_refuse0 (H : INV I J t dr G T v bk pre ss) {x : Int32} (h : ¬ rng x (tH T + 1) = true) : xr scr (d + 12) xc_122 0 [some (.ref 0), some (.int x)] [] (wS, I, J, wP t dr G) Q = Q (some (.int (-1))) (wS, I, J, wP t dr G) := by
  have ht := H.1.1
  have hT := H.1.2.2.2.1
  rw [xs_122_0 ht]
  simp (disch := first | assumption | omega | decide | exact vp_in_nI (by omega) (by omega) | exact and1_bN _ | (simp only [pk_mul, nI_add, pred_s]; exact vp_in_nI (by omega) (by omega))) only [c_isMoment ht hT.1, Option.toList_some, Option.toList_none, List.cons_append, List.nil_append, List.append_nil, xs_122_4, Bool.false_eq_true, nI_add, pk_mul, nI_ltI, nI_eq, z_eq, z_lt, z_gt, z_bN, bN_z, bN_p, bN_i1, nI_clamp, rng_nI, ↓reduceIte, if_true, if_false, not_true_eq_false, not_false_eq_true, true_and, and_true, and_self, false_and, and_false, h, xs_122_5]
theorem c_refuse1 (H : INV I J t dr G T v bk pre ss) {x : Int32} (h : rng x (tH T + 1) = true) (h0 : tH T = 0) : xr scr (d + 12) xc_122 0 [some (.ref 0), some (.int x)] [] (wS, I, J, wP t dr G) Q = Q (some (.int (-4))) (wS, I, J, wP t dr G) := by
  have ht := H.1.1
  have hT := H.1.2.2.2.1
  rw [xs_122_0 ht]
  simp (disch := first | assumption | omega | decide | exact vp_in_nI (by omega) (by omega) | exact and1_bN _ | (simp only [pk_mul, nI_add, pred_s]; exact vp_in_nI (by omega) (by omega))) only [c_isMoment ht hT.1, Option.toList_some, Option.toList_none, List.cons_append, List.nil_append, List.append_nil, xs_122_4, Bool.false_eq_true, nI_add, pk_mul, nI_ltI, nI_eq, z_eq, z_lt, z_gt, z_bN, bN_z, bN_p, bN_i1, nI_clamp, rng_nI, ↓reduceIte, if_true, if_false, not_true_eq_false, not_false_eq_true, true_and, and_true, and_self, false_and, and_false, h]
  rw [xs_122_7 ht, TR_0 hT.1, h0, if_pos nI_0, xs_122_11]
theorem m_asked0 (hM : MT I T) {x : Int32} (h : ¬ rng x (tH T + 1) = true) : xr scr (d + 14) xc_236 0 [some (.ref 58), some (.int x)] [] (wS, I, J, wP t dr G) Q = Q (some (.int (-1))) (wS, I, J, wP t dr G) := by
  simp (disch := first | assumption | omega | decide | exact vp_in_nI (by omega) (by omega) | exact and1_bN _ | (simp only [pk_mul, nI_add, pred_s]; exact vp_in_nI (by omega) (by omega))) only [xs_236_0, m_isTime hM, Option.toList_some, Option.toList_none, List.cons_append, List.nil_append, List.append_nil, xs_236_3, Bool.false_eq_true, nI_add, pk_mul, nI_ltI, nI_eq, z_eq, z_lt, z_gt, z_bN, bN_z, bN_p, bN_i1, nI_clamp, rng_nI, ↓reduceIte, if_true, if_false, not_true_eq_false, not_false_eq_true, true_and, and_true, and_self, false_and, and_false, h, xs_236_4]
theorem m_asked1 (hM : MT I T) {x : Int32} (h : rng x (tH T + 1) = true) (h0 : tH T = 0) : xr scr (d + 14) xc_236 0 [some (.ref 58), some (.int x)] [] (wS, I, J, wP t dr G) Q = Q (some (.int (-4))) (wS, I, J, wP t dr G) := by
  have e11 : I 58 11 = nI 0 := by rw [MT_11 hM, h0]
  simp (disch := first | assumption | omega | decide | exact vp_in_nI (by omega) (by omega) | exact and1_bN _ | (simp only [pk_mul, nI_add, pred_s]; exact vp_in_nI (by omega) (by omega))) only [xs_236_0, m_isTime hM, Option.toList_some, Option.toList_none, List.cons_append, List.nil_append, List.append_nil, xs_236_3, Bool.false_eq_true, nI_add, pk_mul, nI_ltI, nI_eq, z_eq, z_lt, z_gt, z_bN, bN_z, bN_p, bN_i1, nI_clamp, rng_nI, ↓reduceIte, if_true, if_false, not_true_eq_false, not_false_eq_true, true_and, and_true, and_self, false_and, and_false, h, xs_236_6, e11, xs_236_9]
theorem k_where (H : INV I J t dr G T v bk pre ss) {x : Int32} : xr scr (d + 20) xc_121 0 [some (.ref 0), some (.int x), none, none, none] [] (wS, I, J, wP t dr G) (AN scr (d + 20) xc_235 [some (.ref 58), some (.int x), none, none, none, none]) := by
  have ht := H.1.1
  have hT := H.1.2.2.2.1
  have hM := H.1.2.2.2.2.1
  have hn := TR_n hT.1
  have hh5 := TR_h hT.1
  have hv := H.2.2.2.1.2.1
  by_cases hx : rng x (tH T + 1) = true
  · by_cases h0 : tH T = 0
    · rw [xs_121_0, c_refuse1 (d := d + 7) H hx h0]
      simp (disch := first | assumption | omega | decide | exact vp_in_nI (by omega) (by omega) | exact and1_bN _ | (simp only [pk_mul, nI_add, pred_s]; exact vp_in_nI (by omega) (by omega))) only [Option.toList_some, Option.toList_none, List.cons_append, List.nil_append, List.append_nil, xs_121_3, n4z, ↓reduceIte, xs_121_6]
      refine AN_i ?_
      rw [xs_235_0, m_asked1 (d := d + 5) hM hx h0]
      simp (disch := first | assumption | omega | decide | exact vp_in_nI (by omega) (by omega) | exact and1_bN _ | (simp only [pk_mul, nI_add, pred_s]; exact vp_in_nI (by omega) (by omega))) only [Option.toList_some, Option.toList_none, List.cons_append, List.nil_append, List.append_nil, xs_235_3, n4l, ↓reduceIte, xs_235_6]
      first | exact PST_i H | exact ⟨trivial, PST_i H⟩ | exact ⟨rfl, PST_i H⟩
    · obtain ⟨i, hi1, rfl⟩ := rng_of hx (by omega)
      have hi : i ≤ tH T := by omega
      have h1 : 1 ≤ tH T := by omega
      rw [xs_121_0]
      refine c_refusePast (d := d + 7) H hi h1 (fun hL I2 G2 H2 => ?_) (fun hL I2 G2 H2 hG R2 => ?_)
      · simp (disch := first | assumption | omega | decide | exact vp_in_nI (by omega) (by omega) | exact and1_bN _ | (simp only [pk_mul, nI_add, pred_s]; exact vp_in_nI (by omega) (by omega))) only [Option.toList_some, Option.toList_none, List.cons_append, List.nil_append, List.append_nil, xs_121_3, n3z, ↓reduceIte, xs_121_6]
        refine AN_i ?_
        obtain ⟨m1, m2, m3⟩ := INV_m (I3 := fnd I2 4) H2 (fun k a b => fnd_fr a b)
        rw [xs_235_0]
        refine m_askedFits (d := d + 5) m1 m2 hv m3 hi h1 (fun _ I4 F => ?_) (fun h => absurd hL h)
        simp (disch := first | assumption | omega | decide | exact vp_in_nI (by omega) (by omega) | exact and1_bN _ | (simp only [pk_mul, nI_add, pred_s]; exact vp_in_nI (by omega) (by omega))) only [Option.toList_some, Option.toList_none, List.cons_append, List.nil_append, List.append_nil, xs_235_3, n3l, ↓reduceIte, xs_235_6]
        exact ⟨trivial, PST_i (INV_foundS H2 (by decide) F)⟩
      · obtain ⟨L, hLd⟩ : ∃ L, L = RWS T v bk (sgB ss) := ⟨_, rfl⟩
        have hmem : ∀ r, r ∈ L → r.getD i 0 < tN T := fun r hr => RWS_mem (by rw [← hLd]; exact hr) hi
        have hlen : L.length ≤ 117649 := by rw [hLd]; exact RWS_len T v bk (sgB ss) hn hh5
        rw [← hLd] at R2 hL
        obtain ⟨p, hp⟩ : ∃ p : Nat → Bool, p = fun x => decide (ctR L i x = L.length) := ⟨_, rfl⟩
        have hps : ∀ k, p k = true ↔ ctR L i k = L.length := fun k => by rw [hp]; exact decide_eq_true_iff
        have hT2 := H2.1.2.2.2.1
        obtain ⟨B, hB⟩ : ∃ B, B = bs (tN T) (fun x => decide (0 < ctR L i x)) := ⟨_, rfl⟩
        have hB7 : B < 128 := by rw [hB]; exact bs_lt7 hn _
        simp (disch := first | assumption | omega | decide | exact vp_in_nI (by omega) (by omega) | exact and1_bN _ | (simp only [pk_mul, nI_add, pred_s]; exact vp_in_nI (by omega) (by omega))) only [Option.toList_some, Option.toList_none, List.cons_append, List.nil_append, List.append_nil, xs_121_3, nI_0, ↓reduceIte]
        rw [xs_121_8, c_heldIn (d := d + 17) (w := 38) (Or.inr rfl) ht hG hT2 (R2.1 i hi) hlen hi, ← hB]
        simp (disch := first | assumption | omega | decide | exact vp_in_nI (by omega) (by omega) | exact and1_bN _ | (simp only [pk_mul, nI_add, pred_s]; exact vp_in_nI (by omega) (by omega))) only [Option.toList_some, Option.toList_none, List.cons_append, List.nil_append, List.append_nil, xs_121_12]
        have e1 : ∀ q, xi_up I2 0 14 q t 1 = nI (tN T) := fun q => by
          have ht' : t = 15 ∨ t = 20 := ht
          rw [xu_nc (by omega), TR_1 hT2.1]
        refine up_0 (P := fun k => ∀ o, xr scr (d + 20) xc_121 18 [some (.ref 0), some (.int (nI i)), some (.int o), some (.int (nI B)), some (.int (nI k))] [] (wS, xi_up I2 0 14 (glI (lsv p k)), J, wP t dr G2) (AN scr (d + 20) xc_235 [some (.ref 58), some (.int (nI i)), none, none, none, none])) (tN T) (fun k hk h o => ?_) (fun o => ?_) _
        · rw [xs_121_18 ht, e1]
          have hk31 : k < 31 := by omega
          have hp128 : 2 ^ k < 2 ^ 31 := Nat.pow_lt_pow_right (by decide) hk31
          have hsi := sure_iff hL hmem hk
          rw [← hB] at hsi
          simp (disch := first | assumption | omega | decide | exact vp_in_nI (by omega) (by omega) | exact and1_bN _ | (simp only [pk_mul, nI_add, pred_s]; exact vp_in_nI (by omega) (by omega))) only [Bool.false_eq_true, nI_add, pk_mul, nI_ltI, nI_eq, z_eq, z_lt, z_gt, z_bN, bN_z, bN_p, bN_i1, nI_clamp, rng_nI, ↓reduceIte, if_true, if_false, not_true_eq_false, not_false_eq_true, true_and, and_true, and_self, false_and, and_false, hk, xs_121_23, sb_one, hsi, xs_121_28, xs_121_31, xu_xu]
          have hh := h o
          rw [show lsv p (k + 1) = if p k = true then some k else lsv p k from rfl] at hh
          by_cases e : ctR L i k = L.length
          · rw [if_pos ((hps k).mpr e)] at hh
            rw [if_pos e]
            exact hh
          · rw [if_neg (fun e2 => e ((hps k).mp e2))] at hh
            rw [if_neg e]
            exact hh
        · rw [xs_121_18 ht, e1]
          simp (disch := first | assumption | omega | decide | exact vp_in_nI (by omega) (by omega) | exact and1_bN _ | (simp only [pk_mul, nI_add, pred_s]; exact vp_in_nI (by omega) (by omega))) only [Bool.false_eq_true, nI_add, pk_mul, nI_ltI, nI_eq, z_eq, z_lt, z_gt, z_bN, bN_z, bN_p, bN_i1, nI_clamp, rng_nI, ↓reduceIte, if_true, if_false, not_true_eq_false, not_false_eq_true, true_and, and_true, and_self, false_and, and_false, Nat.lt_irrefl, xs_121_33]
          refine AN_i ?_
          obtain ⟨m1, m2, m3⟩ := INV_m (I3 := xi_up I2 0 14 (glI (lsv p (tN T)))) H2 (fun k a b => xu_fr a)
          rw [xs_235_0]
          refine m_askedFits (d := d + 5) m1 m2 hv m3 hi h1 (fun h => absurd (by rw [hLd]; exact h) hL) (fun _ I4 F R4 => ?_)
          rw [← hLd] at R4
          have hM4 : MT I4 T := MT_fr m1 (F.2.1 10 (by decide) (by decide) (by decide) (by decide) (by decide)) (F.2.1 11 (by decide) (by decide) (by decide) (by decide) (by decide)) (F.1 65 (by decide) (by decide) (by decide) (by decide) (by decide))
          simp (disch := first | assumption | omega | decide | exact vp_in_nI (by omega) (by omega) | exact and1_bN _ | (simp only [pk_mul, nI_add, pred_s]; exact vp_in_nI (by omega) (by omega))) only [Option.toList_some, Option.toList_none, List.cons_append, List.nil_append, List.append_nil, xs_235_3, n0l, ↓reduceIte, xs_235_8]
          refine up_0 (P := fun k => ∀ o, xr scr (d + 20) xc_235 14 [some (.ref 58), some (.int (nI i)), some (.int o), some (.int (nI (bs k (fun x => decide (0 < ctR L i x))))), some (.int (glI (lsv p k))), some (.int (nI k))] [] (wS, I4, J, wP t dr G2) (fun r2 S2 => r2 = some (.int (nI B)) ∧ PST S2)) (tN T) (fun k hk h o => ?_) (fun o => ?_) _
          · have hk31 : k < 31 := by omega
            have hc := ctR_le L i k
            have e69 := R4.2.2.2.2.1 i hi k hk
            have hh := h o
            rw [xs_235_14, MT_10 hM4]
            simp (disch := first | assumption | omega | decide | exact vp_in_nI (by omega) (by omega) | exact and1_bN _ | (simp only [pk_mul, nI_add, pred_s]; exact vp_in_nI (by omega) (by omega))) only [Bool.false_eq_true, nI_add, pk_mul, nI_ltI, nI_eq, z_eq, z_lt, z_gt, z_bN, bN_z, bN_p, bN_i1, nI_clamp, rng_nI, ↓reduceIte, if_true, if_false, not_true_eq_false, not_false_eq_true, true_and, and_true, and_self, false_and, and_false, hk]
            rw [xs_235_18 (by rw [pk_mul, nI_add]; exact vp_in_nI (by omega) (by omega)), pk_mul, nI_add, nI_clamp (by omega), e69]
            simp (disch := first | assumption | omega | decide | exact vp_in_nI (by omega) (by omega) | exact and1_bN _ | (simp only [pk_mul, nI_add, pred_s]; exact vp_in_nI (by omega) (by omega))) only [Bool.false_eq_true, nI_add, pk_mul, nI_ltI, nI_eq, z_eq, z_lt, z_gt, z_bN, bN_z, bN_p, bN_i1, nI_clamp, rng_nI, ↓reduceIte, if_true, if_false, not_true_eq_false, not_false_eq_true, true_and, and_true, and_self, false_and, and_false, xs_235_28, xs_235_32, sb_one]
            have st : ∀ b : Int32, nI (bs k (fun x => decide (0 < ctR L i x))) ||| b = nI (bs (k + 1) (fun x => decide (0 < ctR L i x))) → xr scr (d + 20) xc_235 33 [some (.ref 58), some (.int (nI i)), some (.int o), some (.int (nI (bs k (fun x => decide (0 < ctR L i x))))), some (.int (glI (lsv p k))), some (.int (nI k))] [.int b, .int (nI (bs k (fun x => decide (0 < ctR L i x))))] (wS, I4, J, wP t dr G2) (fun r2 S2 => r2 = some (.int (nI B)) ∧ PST S2) := by
              intro b hb
              rw [xs_235_33 (by rw [pk_mul, nI_add]; exact vp_in_nI (by omega) (by omega)), pk_mul, nI_add, nI_clamp (by omega), e69, R4.1, hb]
              simp (disch := first | assumption | omega | decide | exact vp_in_nI (by omega) (by omega) | exact and1_bN _ | (simp only [pk_mul, nI_add, pred_s]; exact vp_in_nI (by omega) (by omega))) only [Bool.false_eq_true, nI_add, pk_mul, nI_ltI, nI_eq, z_eq, z_lt, z_gt, z_bN, bN_z, bN_p, bN_i1, nI_clamp, rng_nI, ↓reduceIte, if_true, if_false, not_true_eq_false, not_false_eq_true, true_and, and_true, and_self, false_and, and_false, xs_235_46, xs_235_48, xs_235_49]
              rw [show lsv p (k + 1) = if p k = true then some k else lsv p k from rfl] at hh
              by_cases e : ctR L i k = L.length
              · rw [if_pos ((hps k).mpr e)] at hh
                rw [if_pos e]
                exact hh
              · rw [if_neg (fun e2 => e ((hps k).mp e2))] at hh
                rw [if_neg e]
                exact hh
            by_cases hb : 0 < ctR L i k
            · rw [if_pos hb]
              exact st _ (by rw [sb_or, bs_put, bs_s, decide_eq_true hb, if_pos rfl])
            · rw [if_neg hb]
              exact st _ (by rw [sb_or, bs_s, decide_eq_false hb, if_neg (by decide), Nat.or_zero, Nat.add_zero])
          · rw [xs_235_14, MT_10 hM4]
            simp (disch := first | assumption | omega | decide | exact vp_in_nI (by omega) (by omega) | exact and1_bN _ | (simp only [pk_mul, nI_add, pred_s]; exact vp_in_nI (by omega) (by omega))) only [Bool.false_eq_true, nI_add, pk_mul, nI_ltI, nI_eq, z_eq, z_lt, z_gt, z_bN, bN_z, bN_p, bN_i1, nI_clamp, rng_nI, ↓reduceIte, if_true, if_false, not_true_eq_false, not_false_eq_true, true_and, and_true, and_self, false_and, and_false, Nat.lt_irrefl, xs_235_52, m_say, Option.toList_some, Option.toList_none, List.cons_append, List.nil_append, List.append_nil, xs_235_56]
            exact ⟨by rw [hB], PST_i (INV_saidS H2 F)⟩
  · rw [xs_121_0, c_refuse0 (d := d + 7) H hx]
    simp (disch := first | assumption | omega | decide | exact vp_in_nI (by omega) (by omega) | exact and1_bN _ | (simp only [pk_mul, nI_add, pred_s]; exact vp_in_nI (by omega) (by omega))) only [Option.toList_some, Option.toList_none, List.cons_append, List.nil_append, List.append_nil, xs_121_3, n1z, ↓reduceIte, xs_121_6]
    refine AN_i ?_
    rw [xs_235_0, m_asked0 (d := d + 5) hM hx]
    simp (disch := first | assumption | omega | decide | exact vp_in_nI (by omega) (by omega) | exact and1_bN _ | (simp only [pk_mul, nI_add, pred_s]; exact vp_in_nI (by omega) (by omega))) only [Option.toList_some, Option.toList_none, List.cons_append, List.nil_append, List.append_nil, xs_235_3, n1l2, ↓reduceIte, xs_235_6]
    first | exact PST_i H | exact ⟨trivial, PST_i H⟩ | exact ⟨rfl, PST_i H⟩
theorem k_ask (H : INV I J t dr G T v bk pre ss) {x : Int32} : xr scr (d + 20) xc_123 0 [some (.ref 0), some (.int x), none, none, none] [] (wS, I, J, wP t dr G) (AN scr (d + 20) xc_237 [some (.ref 58), some (.int x), none, none, none, none, none, none]) := by
  have ht := H.1.1
  have ht' : t = 15 ∨ t = 20 := ht
  have hT := H.1.2.2.2.1
  have hM := H.1.2.2.2.2.1
  have hn := TR_n hT.1
  have hh5 := TR_h hT.1
  have hv := H.2.2.2.1.2.1
  by_cases hx : rng x (tH T + 1) = true
  · by_cases h0 : tH T = 0
    · rw [xs_123_0, c_refuse1 (d := d + 7) H hx h0]
      simp (disch := first | assumption | omega | decide | exact vp_in_nI (by omega) (by omega) | exact and1_bN _ | (simp only [pk_mul, nI_add, pred_s]; exact vp_in_nI (by omega) (by omega))) only [Option.toList_some, Option.toList_none, List.cons_append, List.nil_append, List.append_nil, xs_123_3, n4z, ↓reduceIte, xs_123_6]
      refine AN_i ?_
      rw [xs_237_0, m_asked1 (d := d + 5) hM hx h0]
      simp (disch := first | assumption | omega | decide | exact vp_in_nI (by omega) (by omega) | exact and1_bN _ | (simp only [pk_mul, nI_add, pred_s]; exact vp_in_nI (by omega) (by omega))) only [Option.toList_some, Option.toList_none, List.cons_append, List.nil_append, List.append_nil, xs_237_3, n4l, ↓reduceIte, xs_237_6]
      first | exact PST_i H | exact ⟨trivial, PST_i H⟩ | exact ⟨rfl, PST_i H⟩
    · obtain ⟨i, hi1, rfl⟩ := rng_of hx (by omega)
      have hi : i ≤ tH T := by omega
      have h1 : 1 ≤ tH T := by omega
      rw [xs_123_0]
      refine c_refusePast (d := d + 7) H hi h1 (fun hL I2 G2 H2 => ?_) (fun hL I2 G2 H2 hG R2 => ?_)
      · simp (disch := first | assumption | omega | decide | exact vp_in_nI (by omega) (by omega) | exact and1_bN _ | (simp only [pk_mul, nI_add, pred_s]; exact vp_in_nI (by omega) (by omega))) only [Option.toList_some, Option.toList_none, List.cons_append, List.nil_append, List.append_nil, xs_123_3, n3z, ↓reduceIte, xs_123_6]
        refine AN_i ?_
        obtain ⟨m1, m2, m3⟩ := INV_m (I3 := fnd I2 4) H2 (fun k a b => fnd_fr a b)
        rw [xs_237_0]
        refine m_askedFits (d := d + 5) m1 m2 hv m3 hi h1 (fun _ I4 F => ?_) (fun h => absurd hL h)
        simp (disch := first | assumption | omega | decide | exact vp_in_nI (by omega) (by omega) | exact and1_bN _ | (simp only [pk_mul, nI_add, pred_s]; exact vp_in_nI (by omega) (by omega))) only [Option.toList_some, Option.toList_none, List.cons_append, List.nil_append, List.append_nil, xs_237_3, n3l, ↓reduceIte, xs_237_6]
        exact ⟨trivial, PST_i (INV_foundS H2 (by decide) F)⟩
      · obtain ⟨L, hLd⟩ : ∃ L, L = RWS T v bk (sgB ss) := ⟨_, rfl⟩
        have hmem : ∀ r, r ∈ L → r.getD i 0 < tN T := fun r hr => RWS_mem (by rw [← hLd]; exact hr) hi
        have hlen : L.length ≤ 117649 := by rw [hLd]; exact RWS_len T v bk (sgB ss) hn hh5
        rw [← hLd] at R2 hL
        obtain ⟨f, hf⟩ : ∃ f : Nat → Nat, f = fun x => max (ctR L i x) (L.length - ctR L i x) := ⟨_, rfl⟩
        have hfe : ∀ x, max (ctR L i x) (L.length - ctR L i x) = f x := fun x => by rw [hf]
        have hfl : ∀ x, f x ≤ L.length := fun x => by
          have := ctR_le L i x
          rw [← hfe]; omega
        have hfl31 : ∀ x, f x < 2 ^ 31 := fun x => by have := hfl x; omega
        have hT2 := H2.1.2.2.2.1
        obtain ⟨m, hm⟩ : ∃ m, tN T = m + 1 := by
          obtain ⟨r, hr⟩ := List.exists_mem_of_ne_nil L hL
          have := hmem r hr
          exact ⟨tN T - 1, by omega⟩
        have cl : ∀ y, y < tN T → ∀ Q, xr scr (d + 19) xc_124 0 [some (.ref 38), some (.int (nI i)), some (.int (nI y)), none] [] (wS, I2, J, wP t dr G2) Q = Q (some (.int (nI (f y)))) (wS, I2, J, wP t dr G2) := fun y hy Q => by
          rw [← hfe]
          exact c_leftAtMost (d := d + 17) (w := 38) (Or.inr rfl) ht hG hT2 R2 hlen hi hy
        simp (disch := first | assumption | omega | decide | exact vp_in_nI (by omega) (by omega) | exact and1_bN _ | (simp only [pk_mul, nI_add, pred_s]; exact vp_in_nI (by omega) (by omega))) only [Option.toList_some, Option.toList_none, List.cons_append, List.nil_append, List.append_nil, xs_123_3, nI_0, ↓reduceIte]
        rw [xs_123_8, ← nI_0]
        refine up_0 (P := fun k => ∀ o, xr scr (d + 20) xc_123 12 [some (.ref 0), some (.int (nI i)), some (.int o), some (.int (nI (amn f k))), some (.int (nI (k + 1)))] [] (wS, I2, J, wP t dr G2) (AN scr (d + 20) xc_237 [some (.ref 58), some (.int (nI i)), none, none, none, none, none, none])) m (fun k hk h o => ?_) (fun o => ?_) _
        · have hk1 : k + 1 < tN T := by omega
          have ha := amn_le f k
          have ha7 : amn f k < tN T := by omega
          have hf1 := hfl31 (k + 1)
          have hf2 := hfl31 (amn f k)
          have hh := h o
          rw [xs_123_12 ht, TR_1 hT2.1]
          simp (disch := first | assumption | omega | decide | exact vp_in_nI (by omega) (by omega) | exact and1_bN _ | (simp only [pk_mul, nI_add, pred_s]; exact vp_in_nI (by omega) (by omega))) only [Bool.false_eq_true, nI_add, pk_mul, nI_ltI, nI_eq, z_eq, z_lt, z_gt, z_bN, bN_z, bN_p, bN_i1, nI_clamp, rng_nI, ↓reduceIte, if_true, if_false, not_true_eq_false, not_false_eq_true, true_and, and_true, and_self, false_and, and_false, hk1, xs_123_17, cl, Option.toList_some, Option.toList_none, List.cons_append, List.nil_append, List.append_nil, xs_123_22, xs_123_27, hfl31, ha7, xs_123_28, xs_123_30]
          rw [show amn f (k + 1) = if f (k + 1) < f (amn f k) then k + 1 else amn f k from rfl] at hh
          by_cases e : f (k + 1) < f (amn f k)
          · rw [if_pos e] at hh ⊢
            exact hh
          · rw [if_neg e] at hh ⊢
            exact hh
        · have ha := amn_le f m
          have ha7 : amn f m < tN T := by omega
          rw [xs_123_12 ht, TR_1 hT2.1, hm]
          simp (disch := first | assumption | omega | decide | exact vp_in_nI (by omega) (by omega) | exact and1_bN _ | (simp only [pk_mul, nI_add, pred_s]; exact vp_in_nI (by omega) (by omega))) only [Bool.false_eq_true, nI_add, pk_mul, nI_ltI, nI_eq, z_eq, z_lt, z_gt, z_bN, bN_z, bN_p, bN_i1, nI_clamp, rng_nI, ↓reduceIte, if_true, if_false, not_true_eq_false, not_false_eq_true, true_and, and_true, and_self, false_and, and_false, Nat.lt_irrefl, xs_123_32, cl, Option.toList_some, Option.toList_none, List.cons_append, List.nil_append, List.append_nil, ha7, xs_123_38]
          refine AN_i ?_
          obtain ⟨m1, m2, m3⟩ := INV_m (I3 := xi_up I2 0 14 (nI (f (amn f m)))) H2 (fun k a b => xu_fr a)
          rw [xs_237_0]
          refine m_askedFits (d := d + 5) m1 m2 hv m3 hi h1 (fun h => absurd (by rw [hLd]; exact h) hL) (fun _ I4 F R4 => ?_)
          rw [← hLd] at R4
          have hM4 : MT I4 T := MT_fr m1 (F.2.1 10 (by decide) (by decide) (by decide) (by decide) (by decide)) (F.2.1 11 (by decide) (by decide) (by decide) (by decide) (by decide)) (F.1 65 (by decide) (by decide) (by decide) (by decide) (by decide))
          simp (disch := first | assumption | omega | decide | exact vp_in_nI (by omega) (by omega) | exact and1_bN _ | (simp only [pk_mul, nI_add, pred_s]; exact vp_in_nI (by omega) (by omega))) only [Option.toList_some, Option.toList_none, List.cons_append, List.nil_append, List.append_nil, xs_237_3, n0l, ↓reduceIte]
          rw [xs_237_8, R4.1, nI_add]
          have stp : ∀ (k a le : Nat) (o : Int32), k < tN T → le < 2 ^ 31 → (∀ o6 o7, xr scr (d + 20) xc_237 17 [some (.ref 58), some (.int (nI i)), some (.int o), some (.int (nI (if f k < le then k else a))), some (.int (nI (if f k < le then f k else le))), some (.int (nI (k + 1))), o6, o7] [] (wS, I4, J, wP t dr G2) (fun r2 S2 => r2 = some (.int (nI (amn f m))) ∧ PST S2)) → ∀ o6 o7, xr scr (d + 20) xc_237 17 [some (.ref 58), some (.int (nI i)), some (.int o), some (.int (nI a)), some (.int (nI le)), some (.int (nI k)), o6, o7] [] (wS, I4, J, wP t dr G2) (fun r2 S2 => r2 = some (.int (nI (amn f m))) ∧ PST S2) := by
            intro k a le o hk hle h o6 o7
            have hc := ctR_le L i k
            have e69 := R4.2.2.2.2.1 i hi k hk
            have hsub : nI L.length - nI (ctR L i k) = nI (L.length - ctR L i k) := pk_sub hc
            rw [xs_237_17, MT_10 hM4]
            simp (disch := first | assumption | omega | decide | exact vp_in_nI (by omega) (by omega) | exact and1_bN _ | (simp only [pk_mul, nI_add, pred_s]; exact vp_in_nI (by omega) (by omega))) only [Bool.false_eq_true, nI_add, pk_mul, nI_ltI, nI_eq, z_eq, z_lt, z_gt, z_bN, bN_z, bN_p, bN_i1, nI_clamp, rng_nI, ↓reduceIte, if_true, if_false, not_true_eq_false, not_false_eq_true, true_and, and_true, and_self, false_and, and_false, hk]
            rw [xs_237_21 (by rw [pk_mul, nI_add]; exact vp_in_nI (by omega) (by omega)), pk_mul, nI_add, nI_clamp (by omega), e69, R4.1, hsub]
            simp (disch := first | assumption | omega | decide | exact vp_in_nI (by omega) (by omega) | exact and1_bN _ | (simp only [pk_mul, nI_add, pred_s]; exact vp_in_nI (by omega) (by omega))) only [Bool.false_eq_true, nI_add, pk_mul, nI_ltI, nI_eq, z_eq, z_lt, z_gt, z_bN, bN_z, bN_p, bN_i1, nI_clamp, rng_nI, ↓reduceIte, if_true, if_false, not_true_eq_false, not_false_eq_true, true_and, and_true, and_self, false_and, and_false, xs_237_36, xs_237_38, hsub, R4.1]
            have st : ∀ (y : Nat) (o6 o7), y = f k → xr scr (d + 20) xc_237 42 [some (.ref 58), some (.int (nI i)), some (.int o), some (.int (nI a)), some (.int (nI le)), some (.int (nI k)), some (.int o6), o7] [.int (nI y)] (wS, I4, J, wP t dr G2) (fun r2 S2 => r2 = some (.int (nI (amn f m))) ∧ PST S2) := by
              intro y o6 o7 hy
              subst hy
              have hf1 := hfl31 k
              rw [xs_237_42]
              simp (disch := first | assumption | omega | decide | exact vp_in_nI (by omega) (by omega) | exact and1_bN _ | (simp only [pk_mul, nI_add, pred_s]; exact vp_in_nI (by omega) (by omega))) only [Bool.false_eq_true, nI_add, pk_mul, nI_ltI, nI_eq, z_eq, z_lt, z_gt, z_bN, bN_z, bN_p, bN_i1, nI_clamp, rng_nI, ↓reduceIte, if_true, if_false, not_true_eq_false, not_false_eq_true, true_and, and_true, and_self, false_and, and_false, xs_237_46, xs_237_48, xs_237_49, xs_237_53, xs_237_55, xs_237_56]
              by_cases e : f k < le
              · simp only [if_pos e] at h ⊢
                exact h _ _
              · simp only [if_neg e] at h ⊢
                exact h _ _
            by_cases e : L.length - ctR L i k < ctR L i k
            · rw [if_pos e]
              exact st _ _ _ (by rw [← hfe]; omega)
            · rw [if_neg e]
              exact st _ _ _ (by rw [← hfe]; omega)
          refine stp 0 0 (L.length + 1) _ (by omega) (by omega) ?_ _ _
          have hf0 : f 0 < L.length + 1 := by have := hfl 0; omega
          simp only [if_pos hf0]
          refine up_0 (P := fun k => ∀ o o6 o7, xr scr (d + 20) xc_237 17 [some (.ref 58), some (.int (nI i)), some (.int o), some (.int (nI (amn f k))), some (.int (nI (f (amn f k)))), some (.int (nI (k + 1))), o6, o7] [] (wS, I4, J, wP t dr G2) (fun r2 S2 => r2 = some (.int (nI (amn f m))) ∧ PST S2)) m (fun k hk h o => ?_) (fun o o6 o7 => ?_) _
          · have hh := h o
            refine stp (k + 1) _ _ _ (by omega) (hfl31 _) ?_
            rw [show amn f (k + 1) = if f (k + 1) < f (amn f k) then k + 1 else amn f k from rfl] at hh
            by_cases e : f (k + 1) < f (amn f k)
            · simp only [if_pos e] at hh ⊢
              exact hh
            · simp only [if_neg e] at hh ⊢
              exact hh
          · rw [xs_237_17, MT_10 hM4, hm]
            simp (disch := first | assumption | omega | decide | exact vp_in_nI (by omega) (by omega) | exact and1_bN _ | (simp only [pk_mul, nI_add, pred_s]; exact vp_in_nI (by omega) (by omega))) only [Bool.false_eq_true, nI_add, pk_mul, nI_ltI, nI_eq, z_eq, z_lt, z_gt, z_bN, bN_z, bN_p, bN_i1, nI_clamp, rng_nI, ↓reduceIte, if_true, if_false, not_true_eq_false, not_false_eq_true, true_and, and_true, and_self, false_and, and_false, Nat.lt_irrefl, xs_237_59, m_say, Option.toList_some, Option.toList_none, List.cons_append, List.nil_append, List.append_nil, xs_237_63]
            exact PST_i (INV_saidS H2 F)
  · rw [xs_123_0, c_refuse0 (d := d + 7) H hx]
    simp (disch := first | assumption | omega | decide | exact vp_in_nI (by omega) (by omega) | exact and1_bN _ | (simp only [pk_mul, nI_add, pred_s]; exact vp_in_nI (by omega) (by omega))) only [Option.toList_some, Option.toList_none, List.cons_append, List.nil_append, List.append_nil, xs_123_3, n1z, ↓reduceIte, xs_123_6]
    refine AN_i ?_
    rw [xs_237_0, m_asked0 (d := d + 5) hM hx]
    simp (disch := first | assumption | omega | decide | exact vp_in_nI (by omega) (by omega) | exact and1_bN _ | (simp only [pk_mul, nI_add, pred_s]; exact vp_in_nI (by omega) (by omega))) only [Option.toList_some, Option.toList_none, List.cons_append, List.nil_append, List.append_nil, xs_237_3, n1l2, ↓reduceIte, xs_237_6]
    first | exact PST_i H | exact ⟨trivial, PST_i H⟩ | exact ⟨rfl, PST_i H⟩
end WHERE
