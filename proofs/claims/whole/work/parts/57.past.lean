/-! calls: fits, where, ask -/
section PAST
variable {scr : xi_X} {d : Nat} {Q : Option Value → xi_S → Prop} {I I2 : Nat → Nat → Int32} {J J2 : Nat → Nat → Int64} {t dr : Nat} {G G2 : Nat → Nat} {T : TN} {v v2 : Nat} {bk bk2 : Bool} {pre pre2 : List Nat} {ss ss2 : List SGT}
theorem sgB_take {k : Nat} (hk : k < ss.length) (i z : Nat) : sgB (ss.take (k + 1)) i z = (sgB (ss.take k) i z && (!(ss[k].1 == i) || ((z == ss[k].2.1) == ss[k].2.2))) := by
  unfold sgB
  rw [List.take_succ, List.getElem?_eq_getElem hk, List.all_append]
  simp
theorem INV_past {I2 : Nat → Nat → Int32} {G2 : Nat → Nat} (H : INV I J t dr G T v bk pre ss) (hc : ∀ k, k ≠ 28 → (k < 38 ∨ 43 < k) → I2 k = I k) (h28 : I2 28 0 = I 28 0) (hP : IP I2 G2 t T v bk ss) : INV I2 J t dr G2 T v bk pre ss := by
  obtain ⟨h1, h2, h3, h4, h5, h6, -, h8, h9⟩ := H
  refine ⟨IT_fr h1 (fun k a b => hc k (by omega) (by omega)) (hc 65 (by omega) (by omega)) (by rw [hc 58 (by omega) (by omega)]) (by rw [hc 58 (by omega) (by omega)]), IR_fr h2 (fun k a b => hc k (by omega) (by omega)) (hc 60 (by omega) (by omega)) (hc 61 (by omega) (by omega)), IX_fr h3 (fun k a b => hc k (by omega) (by omega)) (hc 63 (by omega) (by omega)) (hc 64 (by omega) (by omega)), ID_fr h4 (hc 25 (by omega) (by omega)) (hc 26 (by omega) (by omega)) (fun i _ => by rw [hc 66 (by omega) (by omega)]) (by rw [hc 58 (by omega) (by omega)]) (by rw [hc 58 (by omega) (by omega)]) (by rw [hc 58 (by omega) (by omega)]), IK_fr h5 (fun k a b => hc k (by omega) (by omega)) (hc 70 (by omega) (by omega)), IS_fr h6 h28 (fun k a b => hc k (by omega) (by omega)) (hc 71 (by omega) (by omega)) (by rw [hc 58 (by omega) (by omega)]), hP, IA_fr h8 (by rw [hc 0 (by omega) (by omega)]) (by rw [hc 58 (by omega) (by omega)]), IF_fr h9 (by rw [hc 0 (by omega) (by omega)]) (by rw [hc 58 (by omega) (by omega)]) (hc 51 (by omega) (by omega)) (hc 59 (by omega) (by omega))⟩
theorem c_seekPast (H : INV I J t dr G T v bk pre ss) (hh1 : 1 ≤ tH T) (hq : ∀ (I2 : Nat → Nat → Int32) (G2 : Nat → Nat), INV I2 J t dr G2 T v bk pre ss → G2 38 = t → WR I2 38 T (RWS T v bk (sgB ss)) → Q none (wS, I2, J, wP t dr G2)) : xr scr (d + 10) xc_120 0 [some (.ref 0), none, none] [] (wS, I, J, wP t dr G) Q := by
  have ht := H.1.1
  have ht' : t = 15 ∨ t = 20 := ht
  have hT := H.1.2.2.2.1
  have hn := TR_n hT.1
  have hh5 := TR_h hT.1
  have hD := H.2.2.2.1
  have hS := H.2.2.2.2.2.1
  rw [xs_120_0]
  rcases H.2.2.2.2.2.2.1 with hk | ⟨hk, hG, hW⟩
  · rw [hk, if_pos nI_0, xs_120_5, hD.2.2.1, hD.2.2.2.2.1]
    refine c_prepare (w := 38) (d := d + 5) (Or.inr rfl) ht hT hD.1 hD.2.1 (fun I1 f1 W1 T1 s1 => ?_)
    simp (disch := first | assumption | omega | decide | exact vp_in_nI (by omega) (by omega) | exact and1_bN _ | (simp only [pk_mul, nI_add, pred_s]; exact vp_in_nI (by omega) (by omega))) only [Option.toList_some, Option.toList_none, List.cons_append, List.nil_append, List.append_nil, xs_120_16]
    have h8 := hS.1.2.1
    refine up_0 (P := fun k => ∀ (I2 : Nat → Nat → Int32) (o2 : Option Value), (∀ c, c ≠ 42 → I2 c = I1 c) → WK I2 38 T v bk false (sgB (ss.take k)) [] → xr scr (d + 10) xc_120 18 [some (.ref 0), some (.int (nI k)), o2] [] (wS, I2, J, wP t dr (wU 38 t G)) Q) ss.length (fun k hk2 h I2 o2 f2 W2 => ?_) (fun I2 o2 f2 W2 => ?_) I1 none (fun _ _ => rfl) W1
    · have g : ∀ c, c < 38 ∨ 43 < c → I2 c = I c := fun c hc => by rw [f2 c (by omega), f1 c (by omega)]
      have e28 : I2 28 0 = nI ss.length := by rw [g 28 (by omega), hS.2.1]
      obtain ⟨a1, a2, a3, a4, a5⟩ := hS.2.2 k hk2
      have hk8 : k < 8 := by omega
      have hcl : (nI k).toNatClampNeg = k := nI_clamp (by omega)
      have e29 : I2 29 k = nI ss[k].1 := by rw [g 29 (by omega), a1]
      have e30 : I2 30 k = nI ss[k].2.1 := by rw [g 30 (by omega), a2]
      have e31 : I2 31 k = nI (bN (ss[k].2.2 = true)) := by rw [g 31 (by omega), a3]
      rw [xs_120_18, e28]
      simp (disch := first | assumption | omega | decide | exact vp_in_nI (by omega) (by omega) | exact and1_bN _ | (simp only [pk_mul, nI_add, pred_s]; exact vp_in_nI (by omega) (by omega))) only [Bool.false_eq_true, nI_add, pk_mul, nI_ltI, nI_eq, z_eq, z_lt, z_gt, z_bN, bN_z, bN_p, bN_i1, nI_clamp, rng_nI, ↓reduceIte, if_true, if_false, not_true_eq_false, not_false_eq_true, true_and, and_true, and_self, false_and, and_false, hk2, xs_120_23, hk8]
      rw [xs_120_26 (vp_in_nI hk8 (by omega)), hcl, e29, e30, e31]
      have fin : ∀ (b : Int32) (o : Int32), nI (bs (tN T) (sgB (ss.take k) ss[k].1)) &&& b = nI (bs (tN T) (fun z => sgB (ss.take k) ss[k].1 z && ((z == ss[k].2.1) == ss[k].2.2))) → xr scr (d + 10) xc_120 53 [some (.ref 0), some (.int (nI k)), some (.int o)] [.int b, .int (nI ss[k].1), .ref 38] (wS, I2, J, wP t dr (wU 38 t G)) Q := by
        intro b o hb
        rw [xs_120_53]
        refine c_narrow (w := 38) (Or.inr rfl) W2 a4 hh5 hb (fun I3 f3 W3 => ?_)
        simp (disch := first | assumption | omega | decide | exact vp_in_nI (by omega) (by omega) | exact and1_bN _ | (simp only [pk_mul, nI_add, pred_s]; exact vp_in_nI (by omega) (by omega))) only [Option.toList_some, Option.toList_none, List.cons_append, List.nil_append, List.append_nil, xs_120_54, Bool.false_eq_true, nI_add, pk_mul, nI_ltI, nI_eq, z_eq, z_lt, z_gt, z_bN, bN_z, bN_p, bN_i1, nI_clamp, rng_nI, ↓reduceIte, if_true, if_false, not_true_eq_false, not_false_eq_true, true_and, and_true, and_self, false_and, and_false]
        refine h I3 _ (fun c hc => by rw [f3 c hc, f2 c hc]) ?_
        have : (fun i2 => if i2 = ss[k].1 then (fun z => sgB (ss.take k) ss[k].1 z && ((z == ss[k].2.1) == ss[k].2.2)) else sgB (ss.take k) i2) = sgB (ss.take (k + 1)) := by
          funext i z
          rw [sgB_take hk2]
          by_cases e : i = ss[k].1
          · rw [if_pos e, e]
            simp
          · have e2 : (ss[k].1 == i) = false := by
              rw [beq_eq_false_iff_ne]
              exact fun e3 => e e3.symm
            rw [if_neg e, e2]
            simp
        rw [← this]
        exact W3
      by_cases hb : ss[k].2.2 = true
      · rw [if_pos ((bN_i1 _).mpr hb), xs_120_48]
        refine fin _ _ ?_
        rw [sb_one _ (by omega), sb_and, bs_one a5, bs_and]
        congr 1
        exact bs_c (fun z _ => by rw [hb]; cases (z == ss[k].2.1) <;> simp)
      · rw [if_neg (fun e => hb ((bN_i1 _).mp e)), xs_120_50]
        refine fin _ _ ?_
        rw [sb_one _ (by omega), bs_one a5, sb_not hn]
        congr 1
        exact bs_c (fun z _ => by rw [Bool.eq_false_iff.mpr hb]; cases (z == ss[k].2.1) <;> simp)
    · have g : ∀ c, c < 38 ∨ 43 < c → I2 c = I c := fun c hc => by rw [f2 c (by omega), f1 c (by omega)]
      have e28 : I2 28 0 = nI ss.length := by rw [g 28 (by omega), hS.2.1]
      have hT2 : TT I2 t T := TT_fr hT (g _ (by omega)) (g _ (by omega)) (g _ (by omega)) (g _ (by omega)) (g _ (by omega))
      have T2 : TL I2 38 T (fun _ _ => 0) (fun _ => true) := by
        unfold TL at T1 ⊢
        rw [f2 (38 + 5) (by decide), f2 38 (by decide)]
        exact T1
      rw [List.take_length] at W2
      rw [xs_120_18, e28]
      simp (disch := first | assumption | omega | decide | exact vp_in_nI (by omega) (by omega) | exact and1_bN _ | (simp only [pk_mul, nI_add, pred_s]; exact vp_in_nI (by omega) (by omega))) only [Bool.false_eq_true, nI_add, pk_mul, nI_ltI, nI_eq, z_eq, z_lt, z_gt, z_bN, bN_z, bN_p, bN_i1, nI_clamp, rng_nI, ↓reduceIte, if_true, if_false, not_true_eq_false, not_false_eq_true, true_and, and_true, and_self, false_and, and_false, Nat.lt_irrefl]
      rw [xs_120_56]
      refine c_countAll (w := 38) (Or.inr rfl) ht wU_eq hT2 hD.2.1 hh1 W2 T2 (by rw [f2 38 (by decide), s1]) (fun I3 f3 R3 H3 => ?_)
      rw [tk_f] at R3
      simp (disch := first | assumption | omega | decide | exact vp_in_nI (by omega) (by omega) | exact and1_bN _ | (simp only [pk_mul, nI_add, pred_s]; exact vp_in_nI (by omega) (by omega))) only [Option.toList_some, Option.toList_none, List.cons_append, List.nil_append, List.append_nil, xs_120_59]
      have R4 : WR (xi_up I3 28 1 (nI 1)) 38 T (RWS T v bk (sgB ss)) := WR_fr R3 (by rw [xu_fr (by decide)]) (by rw [xu_fr (by decide)])
      exact hq _ _ (INV_past H (fun c h1 h2 => by rw [xu_fr h1, f3 c (by omega), g c h2]) (by rw [xu_nj (by decide), f3 28 (by omega), g 28 (by omega)]) (Or.inr ⟨by rw [xu_eq], wU_eq, R4⟩)) wU_eq R4
  · have h1 : ¬ nI 1 = 0 := by decide
    rw [hk, if_neg h1, xs_120_4]
    exact hq I G H hG hW
theorem k_fits (H : INV I J t dr G T v bk pre ss) : xr scr (d + 20) xc_119 0 [some (.ref 0)] [] (wS, I, J, wP t dr G) (AN scr (d + 20) xc_233 [some (.ref 58)]) := by
  have ht := H.1.1
  have hT := H.1.2.2.2.1
  have hM := H.1.2.2.2.2.1
  have hn := TR_n hT.1
  have hh5 := TR_h hT.1
  rw [xs_119_0 ht, TR_0 hT.1]
  by_cases h0 : tH T = 0
  · rw [h0, if_pos nI_0, xs_119_4]
    refine AN_i ?_
    have e11 : I 58 11 = nI 0 := by rw [MT_11 hM, h0]
    rw [xs_233_0, e11, if_pos nI_0, xs_233_3]
    first | exact PST_i H | exact ⟨trivial, PST_i H⟩ | exact ⟨rfl, PST_i H⟩
  · have hz : ¬ nI (tH T) = 0 := nI_ne0 (by omega) (by omega)
    rw [if_neg hz, xs_119_6]
    refine c_seekPast (d := d + 9) H (by omega) (fun I2 G2 H2 hG R2 => ?_)
    obtain ⟨L, hL⟩ : ∃ L, L = RWS T v bk (sgB ss) := ⟨_, rfl⟩
    have hlen : L.length ≤ 117649 := by rw [hL]; exact RWS_len T v bk (sgB ss) hn hh5
    rw [← hL] at R2
    simp (disch := first | assumption | omega | decide | exact vp_in_nI (by omega) (by omega) | exact and1_bN _ | (simp only [pk_mul, nI_add, pred_s]; exact vp_in_nI (by omega) (by omega))) only [Option.toList_some, Option.toList_none, List.cons_append, List.nil_append, List.append_nil, xs_119_8, c_heldIn (w := 38) (Or.inr rfl) ht hG H2.1.2.2.2.1 (R2.1 0 (Nat.zero_le _)) hlen (Nat.zero_le _), xs_119_13]
    obtain ⟨q, hq⟩ : ∃ q, q = nI (bs (tN T) (fun x => decide (0 < ctR L 0 x))) := ⟨_, rfl⟩
    rw [← hq, R2.2.1]
    refine AN_i ?_
    have f3 : ∀ k, k ≠ 0 → xi_up I2 0 14 q k = I2 k := fun k hk => xu_fr hk
    have hM3 : MT (xi_up I2 0 14 q) T := MT_fr H2.1.2.2.2.2.1 (by rw [f3 58 (by decide)]) (by rw [f3 58 (by decide)]) (f3 65 (by decide))
    have hV3 : MV (xi_up I2 0 14 q) v bk := MV_fr H2.2.2.2.1.2.2.2.1 (by rw [f3 58 (by decide)]) (by rw [f3 58 (by decide)])
    have hS3 : SG (xi_up I2 0 14 q) ss := by
      have := H2.2.2.2.2.2.1.1
      unfold SG at this ⊢
      rw [f3 58 (by decide), f3 71 (by decide)]
      exact this
    rw [xs_233_0, MT_11 hM3, if_neg hz, xs_233_5]
    refine m_setFits (d := d + 7) hM3 hV3 H2.2.2.2.1.2.1 hS3 (fun I4 F R4 => ?_)
    rw [← hL] at R4
    have r27 : I4 58 27 = q := by
      rw [R4.2.2.2.1, hq]
      congr 1
      exact bs_c (fun x _ => (ctR_any L 0 x).symm)
    simp (disch := first | assumption | omega | decide | exact vp_in_nI (by omega) (by omega) | exact and1_bN _ | (simp only [pk_mul, nI_add, pred_s]; exact vp_in_nI (by omega) (by omega))) only [Option.toList_some, Option.toList_none, List.cons_append, List.nil_append, List.append_nil, xs_233_7, R4.1, r27, m_say, xs_233_13]
    have F2 := LIV_S F
    refine ⟨trivial, PST_i (INV_liv H2 ⟨fun k hk => ?_, fun i hi => ?_, fun j hj => ?_, fun j hj => ?_⟩ ⟨?_, H2.2.2.2.2.2.2.2.1.2⟩ rfl)⟩
    · rw [xu_fr (by omega), F2.1 k hk, f3 k (by omega)]
    · rw [xu_nc (by decide), F2.2.1 i hi, f3 66 (by decide)]
    · rw [xu_nj (by omega), F2.2.2.1 j hj, f3 58 (by decide)]
    · rw [xu_nc (by decide), F2.2.2.2 j hj, xu_nj hj]
    · rw [xu_nc (by decide), xu_eq, F.1 0 (by decide) (by decide) (by decide) (by decide) (by decide), xu_eq]
/-- the last x below n at which p holds -/
def lsv (p : Nat → Bool) : Nat → Option Nat
  | 0 => none
  | i + 1 => if p i = true then some i else lsv p i
theorem lsv_c {p q : Nat → Bool} {n : Nat} (h : ∀ x, x < n → p x = q x) : lsv p n = lsv q n := by
  induction n with
  | zero => rfl
  | succ n ih =>
    show (if p n = true then some n else lsv p n) = if q n = true then some n else lsv q n
    rw [h n (by omega), ih (fun x hx => h x (by omega))]
theorem sure_iff {L : List (List Nat)} {n i x : Nat} (hL : L ≠ []) (hr : ∀ r, r ∈ L → r.getD i 0 < n) (hx : x < n) : bs n (fun z => decide (0 < ctR L i z)) = 2 ^ x ↔ ctR L i x = L.length := by
  constructor
  · intro h
    refine List.countP_eq_length.mpr (fun r hrL => ?_)
    simp only [beq_iff_eq]
    have hz := hr r hrL
    have hp : 0 < ctR L i (r.getD i 0) := List.countP_pos_iff.mpr ⟨r, hrL, by simp⟩
    have hb := bs_bit n (fun z => decide (0 < ctR L i z)) (r.getD i 0)
    rw [h, Nat.testBit_two_pow] at hb
    simp only [hz, hp, decide_true, Bool.and_self, decide_eq_true_eq] at hb
    exact hb.symm
  · intro h
    have hall := List.countP_eq_length.mp h
    rw [bs_one hx]
    refine bs_c (fun z hz => ?_)
    by_cases e : z = x
    · rw [e]
      have hpos : 0 < ctR L i x := by rw [h]; exact List.length_pos_iff.mpr hL
      rw [decide_eq_true hpos]
      simp
    · have h0 : ctR L i z = 0 := List.countP_eq_zero.mpr (fun r hrL => by
        have := hall r hrL
        simp only [beq_iff_eq] at this ⊢
        rw [this]
        exact fun e2 => e e2.symm)
      rw [h0]
      simp [e]
theorem RWS_mem {r : List Nat} {C : Nat → Nat → Bool} (h : r ∈ RWS T v bk C) {i : Nat} (hi : i ≤ tH T) : r.getD i 0 < tN T := by
  obtain ⟨x, hx, h2⟩ := rwp_mem.mp h
  by_cases hc : C 0 x = true
  · rw [if_pos hc] at h2
    obtain ⟨e, he, hl, hb⟩ := rws_pre _ _ _ h2
    have hin : inP (tN T) r := by
      intro y hy
      rw [he] at hy
      rcases List.mem_append.mp hy with e2 | e2
      · rw [List.mem_singleton.mp e2]; exact hx
      · exact hb y e2
    exact inP_get hin (by rw [he, List.length_append, hl]; simp; omega)
  · rw [if_neg hc] at h2
    cases h2
end PAST
