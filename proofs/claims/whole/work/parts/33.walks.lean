/-! rowsBehind from a hand, countAll, countOn, prepare, narrow, follow, what is told -/
def FrA (I I2 : Nat → Nat → Int32) (w : Nat) : Prop := ∀ k, k < w ∨ w + 5 < k → I2 k = I k
theorem FrA_W {I I2 : Nat → Nat → Int32} {w : Nat} (h : FrW I I2 w) : FrA I I2 w := fun k hk => h.1 k (by omega) (by omega) (by omega) (by omega)
theorem FrA_trans {I I2 I3 : Nat → Nat → Int32} {w : Nat} (h : FrA I I2 w) (h2 : FrA I2 I3 w) : FrA I I3 w := fun k hk => (h2 k hk).trans (h k hk)
theorem TT_frA {I I2 : Nat → Nat → Int32} {w t : Nat} {T : TN} (hw : wk w) (ht : tw t) (h : FrA I I2 w) (h2 : TT I t T) : TT I2 t T := by
  have hw' : w = 32 ∨ w = 38 := hw
  have ht' : t = 15 ∨ t = 20 := ht
  exact TT_fr h2 (h _ (by omega)) (h _ (by omega)) (h _ (by omega)) (h _ (by omega)) (h _ (by omega))
/-- all rows that fit C -/
def RWS (T : TN) (v : Nat) (bk : Bool) (C : Nat → Nat → Bool) : List (List Nat) := rwp (tN T) (fun x => if C 0 x = true then rws (tN T) (okC T v bk C) (tH T) [x] else [])
def ctR (L : List (List Nat)) (i x : Nat) : Nat := L.countP (fun r => r.getD i 0 == x)
def alR (L : List (List Nat)) (x : Nat) : Bool := L.all (fun r => r.contains x)
def WR (I : Nat → Nat → Int32) (w : Nat) (T : TN) (L : List (List Nat)) : Prop := (∀ i, i ≤ tH T → ∀ x, x < tN T → I (w + 5) (i * 7 + x) = nI (ctR L i x)) ∧ I w 1 = nI L.length ∧ I w 2 = nI (bs (tN T) (alR L))
theorem RWS_len (T : TN) (v : Nat) (bk : Bool) (C : Nat → Nat → Bool) (hn : tN T ≤ 7) (hh : tH T ≤ 5) : (RWS T v bk C).length ≤ 117649 := by
  have h1 : (RWS T v bk C).length ≤ tN T * tN T ^ tH T := rwp_len (fun y _ => by
    split
    · exact rws_len _ _
    · exact Nat.zero_le _)
  have h2 : tN T * tN T ^ tH T ≤ 7 * 7 ^ 5 := Nat.mul_le_mul hn (Nat.le_trans (Nat.pow_le_pow_left hn _) (Nat.pow_le_pow_right (by decide) hh))
  omega
theorem ctR_le (L : List (List Nat)) (i x : Nat) : ctR L i x ≤ L.length := List.countP_le_length
section WALKS
variable {scr : xi_X} {d : Nat} {Q : Option Value → xi_S → Prop} {I : Nat → Nat → Int32} {J : Nat → Nat → Int64} {t dr : Nat} {G : Nat → Nat} {w : Nat} {T : TN} {v : Nat} {bk fo : Bool} {C : Nat → Nat → Bool} {pre : List Nat} {tal : Nat → Nat → Nat} {cm : Nat → Bool}
/-- a hand's own tally, told behind its rows -/
theorem addT_own {I2 I3 : Nat → Nat → Int32} {n h u z : Nat} {B : List (List Nat)} (h2 : ∀ i, i ≤ h → ∀ x, x < n → I2 (w + 5) (i * 7 + x) = nI (addT tal (u + 1) B i x)) (hn : n ≤ 7) (hz : z < n) (hBm : ∀ r, r ∈ B → r.getD u 0 = z) (h3 : ∀ j, I3 (w + 5) j = if j = u * 7 + z then nI (addT tal (u + 1) B u z + B.length) else I2 (w + 5) j) : ∀ i, i ≤ h → ∀ x, x < n → I3 (w + 5) (i * 7 + x) = nI (addT tal u B i x) := by
  intro i hi x hx
  rw [h3]
  have eA := addT_up (tal := tal) (A := []) hBm i x
  rw [addT_nil, List.nil_append] at eA
  rw [← eA]
  by_cases e : i = u ∧ x = z
  · rw [if_pos e, if_pos (by rw [e.1, e.2]), e.1, e.2]
  · rw [if_neg e, if_neg (by omega), h2 i hi x hx]
theorem rws_own {m : Nat} {fo : Bool} {B : List (List Nat)} {u : Nat} (hu : pre.length = u + 1) (hB : B = tk fo (rws (tN T) (okC T v bk C) m pre)) : ∀ r, r ∈ B → r.getD u 0 = pre.getD u 0 := fun r hr => by
  rw [hB] at hr
  obtain ⟨e, he, -, -⟩ := rws_pre _ _ _ (tk_mem hr)
  rw [he, getD_appE (by omega)]
theorem c_rowsOf (hw : wk w) (ht : tw t) (hG : G w = t) (hT : TT I t T) (hv : v ≤ 5) (W : WK I w T v bk fo C pre) (hin : inP (tN T) pre) {u : Nat} (hu : pre.length = u + 1) (hh : u ≤ tH T) (hTL : TL I w T tal cm)
    (hq : ∀ (I2 : Nat → Nat → Int32) (B : List (List Nat)), B = tk fo (rws (tN T) (okC T v bk C) (tH T - u) pre) → FrW I I2 w → WK I2 w T v bk fo C pre → (∀ i, i ≤ tH T → ∀ x, x < tN T → I2 (w + 5) (i * 7 + x) = nI (addT tal (u + 1) B i x)) → (u < tH T → I2 w 2 = nI (bs (tN T) (cmG cm (fun z => z == pre.getD u 0) (u + 1) B))) → (fo = true → ∀ r M, rws (tN T) (okC T v bk C) (tH T - u) pre = r :: M → ∀ i, i ≤ tH T → I2 (w + 3) i = nI (r.getD i 0)) → Q (some (.int (nI B.length))) (wS, I2, J, wP t dr G)) :
    xr scr (d + 7) xc_80 0 [some (.ref w), some (.int (nI u)), some (.int (nI (2 ^ pre.getD u 0))), none, none, none, none] [] (wS, I, J, wP t dr G) Q := by
  have hn := TR_n hT.1
  have hh5 := TR_h hT.1
  have htG : tw (G w) := by rw [hG]; exact ht
  have g0 : I (G w) 0 = nI (tH T) := by rw [hG]; exact TR_0 hT.1
  have hz : pre.getD u 0 < tN T := inP_get hin (by omega)
  by_cases hlt : u < tH T
  · obtain ⟨k, hk⟩ : ∃ k, tH T - u = k + 1 := ⟨tH T - u - 1, by omega⟩
    have hk5 : k ≤ 4 := by omega
    rw [bs_one hz, show d + 7 = (d + 5 - k) + k + 2 by omega, show nI u = nI (pre.length - 1) by rw [hu]; rfl]
    refine c_rowsBehind hw ht hG hv k pre I tal cm (fun z => z == pre.getD u 0) _ hT W hin (by omega) (by omega) hTL (fun I2 hR => ?_)
    obtain ⟨f2, W2, T2, H2⟩ := hR
    rw [hu] at T2
    rw [← hk] at T2 H2 ⊢
    exact hq I2 _ rfl f2 W2 T2.1 (fun _ => T2.2) H2
  · have e : u = tH T := by omega
    have eL : rws (tN T) (okC T v bk C) (tH T - u) pre = [pre] := by rw [e, Nat.sub_self]; rfl
    have ek : [pre] = tk fo (rws (tN T) (okC T v bk C) (tH T - u) pre) := by rw [eL]; cases fo <;> rfl
    rw [xs_80_0 hw htG, g0]
    simp (disch := first | assumption | omega | decide | exact vp_in_nI (by omega) (by omega) | exact and1_bN _ | (simp only [pk_mul, nI_add, pred_s]; exact vp_in_nI (by omega) (by omega))) only [xs_80_10, nI_add, pk_mul, nI_ltI, nI_eq, z_eq, z_lt, z_gt, z_bN, bN_z, bN_p, nI_clamp, rng_nI, ↓reduceIte, if_true, if_false, not_true_eq_false, not_false_eq_true, true_and, and_true, and_self, false_and, and_false, hlt, Option.toList_some, Option.toList_none, List.cons_append, List.nil_append, List.append_nil]
    refine hq I [pre] ek (FrW_refl I w) W (fun i hi x hx => ?_) (fun h => absurd h hlt) (fun _ r M hr i hi => ?_)
    · rw [addT, if_neg (by omega), Nat.add_zero]
      exact hTL.1 i hi x hx
    · rw [eL] at hr
      rw [← (List.cons.inj hr).1]
      exact W.2.2.2.2.1 i (by omega)
theorem c_tallyOf (hw : wk w) (ht : tw t) (hG : G w = t) (hT : TT I t T) {L : List (List Nat)} {i x : Nat} (hR : ∀ x, x < tN T → I (w + 5) (i * 7 + x) = nI (ctR L i x)) (hi : i ≤ tH T) (hx : x < tN T) : xr scr (d + 1) xc_85 0 [some (.ref w), some (.int (nI i)), some (.int (nI x)), none] [] (wS, I, J, wP t dr G) Q = Q (some (.int (nI (ctR L i x)))) (wS, I, J, wP t dr G) := by
  have hn := TR_n hT.1
  have hh5 := TR_h hT.1
  have htG : tw (G w) := by rw [hG]; exact ht
  have hTG : TR I (G w) T := by rw [hG]; exact hT.1
  have h6 : i < 6 := by omega
  have t1 := hR x hx
  have hm : i * 7 + x < 42 := by omega
  have h10 : ¬ 1 = 0 := by decide
  simp (disch := first | assumption | omega | decide | exact vp_in_nI (by omega) (by omega) | exact and1_bN _ | (simp only [pk_mul, nI_add, pred_s]; exact vp_in_nI (by omega) (by omega))) only [xs_85_0, xs_85_2, xs_85_5, xs_85_9, xs_85_10, xs_85_12, xs_85_13, xs_85_16, xs_85_25, xs_85_26, c_isOne htG hTG, Option.toList_some, Option.toList_none, List.cons_append, List.nil_append, List.append_nil, nI_add, pk_mul, nI_ltI, nI_eq, z_eq, z_lt, z_gt, z_bN, bN_z, bN_p, nI_clamp, rng_nI, ↓reduceIte, if_true, if_false, not_true_eq_false, not_false_eq_true, true_and, and_true, and_self, false_and, and_false, h6, hx, t1, h10]
theorem c_heldIn (hw : wk w) (ht : tw t) (hG : G w = t) (hT : TT I t T) {L : List (List Nat)} {i : Nat} (hR : ∀ x, x < tN T → I (w + 5) (i * 7 + x) = nI (ctR L i x)) (hL : L.length ≤ 117649) (hi : i ≤ tH T) : xr scr (d + 2) xc_84 0 [some (.ref w), some (.int (nI i)), none, none] [] (wS, I, J, wP t dr G) Q = Q (some (.int (nI (bs (tN T) (fun x => decide (0 < ctR L i x)))))) (wS, I, J, wP t dr G) := by
  have hn := TR_n hT.1
  have hh5 := TR_h hT.1
  have htG : tw (G w) := by rw [hG]; exact ht
  have g1 : I (G w) 1 = nI (tN T) := by rw [hG]; exact TR_1 hT.1
  rw [xs_84_0]
  refine up_0 (P := fun x => xr scr (d + 2) xc_84 4 [some (.ref w), some (.int (nI i)), some (.int (nI (bs x (fun x => decide (0 < ctR L i x))))), some (.int (nI x))] [] (wS, I, J, wP t dr G) Q = Q (some (.int (nI (bs (tN T) (fun x => decide (0 < ctR L i x)))))) (wS, I, J, wP t dr G)) (tN T) (fun x hx h => ?_) ?_
  · rw [xs_84_4 hw htG, g1]
    have hc := ctR_le L i x
    simp (disch := first | assumption | omega | decide | exact vp_in_nI (by omega) (by omega) | exact and1_bN _ | (simp only [pk_mul, nI_add, pred_s]; exact vp_in_nI (by omega) (by omega))) only [xs_84_0, xs_84_9, xs_84_13, xs_84_14, xs_84_20, xs_84_22, c_tallyOf hw ht hG hT hR hi hx, Option.toList_some, Option.toList_none, List.cons_append, List.nil_append, List.append_nil, nI_add, pk_mul, nI_ltI, nI_eq, z_eq, z_lt, z_gt, z_bN, bN_z, bN_p, nI_clamp, rng_nI, ↓reduceIte, if_true, if_false, not_true_eq_false, not_false_eq_true, true_and, and_true, and_self, false_and, and_false, hx, sb_one, sb_or, bs_put]
    by_cases hb : 0 < ctR L i x
    · simp only [bs_s, hb, decide_true, ↓reduceIte] at h
      simp only [hb, ↓reduceIte]
      exact h
    · simp only [bs_s, hb, decide_false, Bool.false_eq_true, ↓reduceIte] at h
      simp only [hb, ↓reduceIte]
      exact h
  · rw [xs_84_4 hw htG, g1]
    simp (disch := first | assumption | omega | decide | exact vp_in_nI (by omega) (by omega) | exact and1_bN _ | (simp only [pk_mul, nI_add, pred_s]; exact vp_in_nI (by omega) (by omega))) only [xs_84_0, xs_84_9, xs_84_13, xs_84_14, xs_84_20, xs_84_22, nI_add, pk_mul, nI_ltI, nI_eq, z_eq, z_lt, z_gt, z_bN, bN_z, bN_p, nI_clamp, rng_nI, ↓reduceIte, if_true, if_false, not_true_eq_false, not_false_eq_true, true_and, and_true, and_self, false_and, and_false, Nat.lt_irrefl]
theorem c_leftAtMost (hw : wk w) (ht : tw t) (hG : G w = t) (hT : TT I t T) {L : List (List Nat)} (hR : WR I w T L) (hL : L.length ≤ 117649) {i x : Nat} (hi : i ≤ tH T) (hx : x < tN T) : xr scr (d + 2) xc_124 0 [some (.ref w), some (.int (nI i)), some (.int (nI x)), none] [] (wS, I, J, wP t dr G) Q = Q (some (.int (nI (max (ctR L i x) (L.length - ctR L i x))))) (wS, I, J, wP t dr G) := by
  have hc := ctR_le L i x
  simp (disch := first | assumption | omega | decide | exact vp_in_nI (by omega) (by omega) | exact and1_bN _ | (simp only [pk_mul, nI_add, pred_s]; exact vp_in_nI (by omega) (by omega))) only [xs_124_0, xs_124_4, c_tallyOf hw ht hG hT (hR.1 i hi) hi hx, Option.toList_some, Option.toList_none, List.cons_append, List.nil_append, List.append_nil, nI_add, pk_mul, nI_ltI, nI_eq, z_eq, z_lt, z_gt, z_bN, bN_z, bN_p, nI_clamp, rng_nI, ↓reduceIte, if_true, if_false, not_true_eq_false, not_false_eq_true, true_and, and_true, and_self, false_and, and_false, hR.2.1, pk_sub]
  rw [Nat.max_def]
  by_cases h : ctR L i x < L.length - ctR L i x
  · rw [if_pos h, if_pos (by omega)]
  · rw [if_neg h]
    by_cases h2 : ctR L i x ≤ L.length - ctR L i x
    · rw [if_pos h2, show L.length - ctR L i x = ctR L i x by omega]
    · rw [if_neg h2]
end WALKS
