/-! THE SEARCH through rows of hands -/
def addT (tal : Nat → Nat → Nat) (lo : Nat) (L : List (List Nat)) (i x : Nat) : Nat := tal i x + (if lo ≤ i then L.countP (fun r => r.getD i 0 == x) else 0)
def cmG (cm sn : Nat → Bool) (lo : Nat) (L : List (List Nat)) (x : Nat) : Bool := cm x && L.all (fun r => sn x || (r.drop lo).contains x)
theorem addT_nil (tal : Nat → Nat → Nat) (lo : Nat) : addT tal lo [] = tal := by
  funext i x
  unfold addT
  split <;> rfl
theorem cmG_nil (cm sn : Nat → Bool) (lo : Nat) : cmG cm sn lo [] = cm := by
  funext x
  unfold cmG
  simp
theorem cmG_app (cm sn : Nat → Bool) (lo : Nat) (A B : List (List Nat)) : cmG (cmG cm sn lo A) sn lo B = cmG cm sn lo (A ++ B) := by
  funext x
  unfold cmG
  rw [List.all_append, Bool.and_assoc]
theorem cmG_up (cm sn : Nat → Bool) (lo x : Nat) (A B : List (List Nat)) (h : ∀ r, r ∈ B → r.drop lo = x :: r.drop (lo + 1)) : cmG (cmG cm sn lo A) (fun z => sn z || z == x) (lo + 1) B = cmG cm sn lo (A ++ B) := by
  rw [← cmG_app]
  funext z
  show (cmG cm sn lo A z && B.all (fun r => (sn z || z == x) || (r.drop (lo + 1)).contains z)) = (cmG cm sn lo A z && B.all (fun r => sn z || (r.drop lo).contains z))
  congr 1
  have : ∀ L : List (List Nat), (∀ r, r ∈ L → r.drop lo = x :: r.drop (lo + 1)) → L.all (fun r => (sn z || z == x) || (r.drop (lo + 1)).contains z) = L.all (fun r => sn z || (r.drop lo).contains z) := by
    intro L hL
    induction L with
    | nil => rfl
    | cons r L ih =>
      rw [List.all_cons, List.all_cons, ih (fun r2 h2 => hL r2 (List.mem_cons_of_mem _ h2)), hL r List.mem_cons_self, List.contains_cons, Bool.or_assoc]
  exact this B h
theorem tk_f (L : List (List Nat)) : tk false L = L := rfl
theorem tk_t (r : List Nat) (M : List (List Nat)) : tk true (r :: M) = [r] := rfl
theorem tk_nil (fo : Bool) : tk fo [] = [] := by cases fo <;> rfl
theorem tk_mem {fo : Bool} {L : List (List Nat)} {r : List Nat} (h : r ∈ tk fo L) : r ∈ L := by
  cases fo with
  | false => exact h
  | true => exact List.mem_of_mem_take h
theorem tk_ne {fo : Bool} {L : List (List Nat)} (h : tk fo L = []) : L = [] := by
  cases fo with
  | false => exact h
  | true =>
    cases L with
    | nil => rfl
    | cons r M => cases h
theorem tk_app {A B : List (List Nat)} (h : B ≠ []) (M : List (List Nat)) (hA : A = []) : tk true (A ++ B ++ M) = tk true B := by
  subst hA
  cases B with
  | nil => exact absurd rfl h
  | cons r B => rfl
/-- tallies behind a child's rows, the child's own hand added -/
theorem addT_up {tal : Nat → Nat → Nat} {lo x : Nat} {A B : List (List Nat)} (h : ∀ r, r ∈ B → r.getD lo 0 = x) (i z : Nat) : (if i = lo ∧ z = x then addT (addT tal lo A) (lo + 1) B i z + B.length else addT (addT tal lo A) (lo + 1) B i z) = addT tal lo (A ++ B) i z := by
  unfold addT
  rw [List.countP_append]
  by_cases e : i = lo
  · subst e
    rw [if_neg (show ¬ i + 1 ≤ i by omega), if_pos (Nat.le_refl i), if_pos (Nat.le_refl i)]
    by_cases ez : z = x
    · subst ez
      rw [if_pos ⟨rfl, rfl⟩, show B.countP (fun r => r.getD i 0 == z) = B.length from List.countP_eq_length.mpr (fun r hr => by simp only [beq_iff_eq]; exact h r hr)]
      omega
    · rw [if_neg (fun e => ez e.2), show B.countP (fun r => r.getD i 0 == z) = 0 from List.countP_eq_zero.mpr (fun r hr => by
        simp only [beq_iff_eq]
        intro e
        exact ez ((h r hr).symm.trans e).symm)]
      omega
  · rw [if_neg (fun h => e h.1)]
    by_cases h1 : lo ≤ i
    · rw [if_pos (show lo + 1 ≤ i by omega), if_pos h1, if_pos h1]; omega
    · rw [if_neg (show ¬ lo + 1 ≤ i by omega), if_neg h1, if_neg h1]
def RS (I I2 : Nat → Nat → Int32) (w : Nat) (T : TN) (v : Nat) (bk fo : Bool) (C : Nat → Nat → Bool) (pre : List Nat) (tal : Nat → Nat → Nat) (cm sn : Nat → Bool) (L : List (List Nat)) : Prop :=
  FrW I I2 w ∧ WK I2 w T v bk fo C pre ∧ TL I2 w T (addT tal pre.length (tk fo L)) (cmG cm sn pre.length (tk fo L)) ∧ (fo = true → ∀ r M, L = r :: M → ∀ i, i ≤ tH T → I2 (w + 3) i = nI (r.getD i 0))
theorem WK_frW {I I2 : Nat → Nat → Int32} {w : Nat} {T : TN} {v : Nat} {bk fo : Bool} {C : Nat → Nat → Bool} {pre : List Nat} (W : WK I w T v bk fo C pre) (h : FrW I I2 w) (h5 : I2 w 5 = I w 5) (h2 : I2 (w + 2) = I (w + 2)) (h3 : ∀ i, i < pre.length → I2 (w + 3) i = I (w + 3) i) : WK I2 w T v bk fo C pre := by
  obtain ⟨w0, w4, w5, w12, w3, wC⟩ := W
  refine ⟨by rw [h.2 0 (by omega) (by omega), w0], by rw [h.2 4 (by omega) (by omega), w4], by rw [h5, w5], ?_, fun i hi => by rw [h3 i hi, w3 i hi], by rw [h.1 (w + 4) (by omega) (by omega) (by omega) (by omega)]; exact wC⟩
  rw [h.1 (w + 1) (by omega) (by omega) (by omega) (by omega), h2]
  exact w12
section SEARCH
variable {scr : xi_X} {d : Nat} {Q : Option Value → xi_S → Prop} {I : Nat → Nat → Int32} {J : Nat → Nat → Int64} {t dr : Nat} {G : Nat → Nat} {w : Nat} {T : TN} {v : Nat} {bk fo : Bool} {C : Nat → Nat → Bool} {pre : List Nat} {tal : Nat → Nat → Nat} {cm : Nat → Bool}
theorem c_rowsEnding (hw : wk w) (ht : tw t) (hG : G w = t) (hT : TT I t T) (W : WK I w T v bk fo C pre) (hl : pre.length = tH T) (hTL : TL I w T tal cm) (sn : Nat → Bool)
    (hq : ∀ I2 : Nat → Nat → Int32, RS I I2 w T v bk fo C pre tal cm sn (rws (tN T) (okC T v bk C) 1 pre) → Q (some (.int (nI (tk fo (rws (tN T) (okC T v bk C) 1 pre)).length))) (wS, I2, J, wP t dr G)) :
    xr scr (d + 1) xc_81 0 [some (.ref w), some (.int (nI (bs (tN T) (okC T v bk C pre)))), some (.int (nI (bs (tN T) sn))), none, none] [] (wS, I, J, wP t dr G) Q := by
  have hn := TR_n hT.1
  have hh5 := TR_h hT.1
  have htG : tw (G w) := by rw [hG]; exact ht
  have h0 : I (G w) 0 = nI (tH T) := by rw [hG]; exact TR_0 hT.1
  obtain ⟨F, hF⟩ : ∃ F : Nat → List (List Nat), F = rwF (tN T) (okC T v bk C) 0 pre := ⟨_, rfl⟩
  have hFt : ∀ y, okC T v bk C pre y = true → F y = [pre ++ [y]] := fun y hy => by rw [hF]; exact if_pos hy
  have hFf : ∀ y, ¬ okC T v bk C pre y = true → F y = [] := fun y hy => by rw [hF]; exact if_neg hy
  have hL : rws (tN T) (okC T v bk C) 1 pre = rwp (tN T) F := by rw [hF]; rfl
  have hlen : ∀ x, (rwp x F).length = cnt x (okC T v bk C pre) := fun x => by
    induction x with
    | zero => rfl
    | succ x ih =>
      rw [rwp_s, List.length_append, ih, cnt_s]
      by_cases h : okC T v bk C pre x = true
      · rw [hFt x h, bN_t h]; rfl
      · rw [hFf x h, bN_f h]; rfl
  rw [hL] at hq
  rw [xs_81_0 hw htG, h0]
  refine up_0 (P := fun x => ∀ I2 : Nat → Nat → Int32, FrW I I2 w → WK I2 w T v bk fo C pre → TL I2 w T (addT tal pre.length (rwp x F)) (cmG cm sn pre.length (rwp x F)) → (fo = true → rwp x F = []) → xr scr (d + 1) xc_81 6 [some (.ref w), some (.int (nI (bs (tN T) (okC T v bk C pre)))), some (.int (nI (bs (tN T) sn))), some (.int (nI (tH T))), some (.int (nI x))] [] (wS, I2, J, wP t dr G) Q) (tN T) (fun x hx h I2 hf W2 hTL2 hfo => ?_) (fun I2 hf W2 hTL2 hfo => ?_) I (FrW_refl I w) W (by rw [rwp_0, addT_nil, cmG_nil]; exact hTL) (fun _ => rfl)
  · have h1 : I2 (G w) 1 = nI (tN T) := by rw [hG]; exact TR_1 (TT_frW hw ht hf hT).1
    have hx8 : x < 8 := by omega
    have hh6 : tH T < 6 := by omega
    have hvp : tH T * 7 + x < 42 := by omega
    have w20 := W2.1
    rw [xs_81_6 hw htG, h1]
    simp (disch := first | assumption | omega | decide | exact vp_in_nI (by omega) (by omega) | exact and1_bN _ | (simp only [pk_mul, nI_add, pred_s]; exact vp_in_nI (by omega) (by omega))) only [xs_81_11, xs_81_14, nI_add, pk_mul, nI_ltI, nI_eq, z_eq, z_lt, z_gt, z_bN, bN_z, bN_p, nI_clamp, rng_nI, ↓reduceIte, if_true, if_false, not_true_eq_false, not_false_eq_true, true_and, and_true, and_self, false_and, and_false, hx, hx8, hh6, sb_t]
    by_cases hb : okC T v bk C pre x = true
    · simp only [hb, not_true_eq_false, ↓reduceIte]
      have t2 := hTL2.1 (tH T) (Nat.le_refl _) x hx
      have tc := hTL2.2
      rw [xs_81_20 hw (vp_in_nI (by omega) (by omega)) (by simp only [pk_mul, nI_add]; exact vp_in_nI (by omega) (by omega))]
      simp (disch := first | assumption | omega | decide | exact vp_in_nI (by omega) (by omega) | exact and1_bN _ | (simp only [pk_mul, nI_add, pred_s]; exact vp_in_nI (by omega) (by omega))) only [nI_add, pk_mul, nI_ltI, nI_eq, z_eq, z_lt, z_gt, z_bN, bN_z, bN_p, nI_clamp, rng_nI, ↓reduceIte, if_true, if_false, not_true_eq_false, not_false_eq_true, true_and, and_true, and_self, false_and, and_false, xu_nj, xu_nc, xu_eq, w20, t2, tc, sb_one, sb_or, sb_and, bs_one hx, bs_or, bs_and]
      have e1 : bs (tN T) (fun z => cmG cm sn pre.length (rwp x F) z && (sn z || z == x)) = bs (tN T) (cmG cm sn pre.length (rwp (x + 1) F)) := by
        refine bs_c (fun z _ => ?_)
        rw [rwp_s, ← cmG_app, hFt x hb]
        show _ = (cmG cm sn pre.length (rwp x F) z && [pre ++ [x]].all (fun r => sn z || (r.drop pre.length).contains z))
        rw [List.all_cons, List.all_nil, Bool.and_true, List.drop_left, List.contains_cons, List.contains_nil, Bool.or_false]
      rw [e1]
      have e2 : ∀ i z, i ≤ tH T → z < tN T → addT tal pre.length (rwp (x + 1) F) i z = if i = tH T ∧ z = x then addT tal pre.length (rwp x F) i z + 1 else addT tal pre.length (rwp x F) i z := by
        intro i z hi hz
        rw [rwp_s, hFt x hb, ← addT_up (x := x) (fun r hr => by rw [List.mem_singleton.mp hr, getD_last]), hl]
        have : addT (addT tal (tH T) (rwp x F)) (tH T + 1) [pre ++ [x]] i z = addT tal (tH T) (rwp x F) i z := by
          rw [addT, if_neg (by omega), Nat.add_zero]
        rw [this]
        rfl
      obtain ⟨I3, hI3⟩ : ∃ I3 : Nat → Nat → Int32, I3 = xi_up (xi_up (xi_up I2 (w + 3) (tH T) (nI x)) (w + 5) (tH T * 7 + x) (nI (addT tal pre.length (rwp x F) (tH T) x + 1))) w 2 (nI (bs (tN T) (cmG cm sn pre.length (rwp (x + 1) F)))) := ⟨_, rfl⟩
      rw [← hI3]
      have f3 : FrW I2 I3 w := ⟨fun k a b c e => by rw [hI3, xu_fr a, xu_fr e, xu_fr c], fun j a b => by rw [hI3, xu_nj a, xu_nc (by omega), xu_nc (by omega)]⟩
      have W3 : WK I3 w T v bk fo C pre := WK_frW W2 f3 (by rw [hI3, xu_nj (by omega), xu_nc (by omega), xu_nc (by omega)]) (by rw [hI3, xu_fr (by omega), xu_fr (by omega), xu_fr (by omega)]) (fun i hi => by rw [hI3, xu_nc (by omega), xu_nc (by omega), xu_nj (by omega)])
      have T3 : TL I3 w T (addT tal pre.length (rwp (x + 1) F)) (cmG cm sn pre.length (rwp (x + 1) F)) := ⟨fun i hi z hz => by
        rw [e2 i z hi hz, hI3, xu_nc (by omega), xu_at]
        by_cases e : i = tH T ∧ z = x
        · rw [if_pos e, if_pos (by rw [e.1, e.2]), e.1, e.2]
        · rw [if_neg e, if_neg (by omega), xu_nc (by omega), hTL2.1 i hi z hz], by rw [hI3, xu_eq]⟩
      cases fo with
      | false =>
        simp (disch := first | assumption | omega | decide | exact vp_in_nI (by omega) (by omega) | exact and1_bN _ | (simp only [pk_mul, nI_add, pred_s]; exact vp_in_nI (by omega) (by omega))) only [nI_add, pk_mul, nI_ltI, nI_eq, z_eq, z_lt, z_gt, z_bN, bN_z, bN_p, nI_clamp, rng_nI, ↓reduceIte, if_true, if_false, not_true_eq_false, not_false_eq_true, true_and, and_true, and_self, false_and, and_false, xs_81_52, Bool.false_eq_true]
        exact h I3 (FrW_trans hf f3) W3 T3 (fun e => by cases e)
      | true =>
        simp (disch := first | assumption | omega | decide | exact vp_in_nI (by omega) (by omega) | exact and1_bN _ | (simp only [pk_mul, nI_add, pred_s]; exact vp_in_nI (by omega) (by omega))) only [nI_add, pk_mul, nI_ltI, nI_eq, z_eq, z_lt, z_gt, z_bN, bN_z, bN_p, nI_clamp, rng_nI, ↓reduceIte, if_true, if_false, not_true_eq_false, not_false_eq_true, true_and, and_true, and_self, false_and, and_false, xs_81_50]
        have hA := hfo rfl
        obtain ⟨M, hM⟩ := rwp_ne hx (by rw [hFt x hb]; exact List.cons_ne_nil _ _) hA
        rw [hFt x hb] at hM
        have ek : tk true (rwp (tN T) F) = [pre ++ [x]] := by rw [hM]; rfl
        have hs : rwp (x + 1) F = [pre ++ [x]] := by rw [rwp_s, hA, hFt x hb]; rfl
        have hq2 := hq I3
        rw [ek] at hq2
        refine hq2 ⟨FrW_trans hf f3, W3, by rw [ek, ← hs]; exact T3, fun _ r M2 hr i hi => ?_⟩
        rw [hM] at hr
        cases hr
        by_cases e : i = tH T
        · rw [e, ← hl, getD_last, hI3, xu_nc (by omega), xu_nc (by omega), hl, xu_eq]
        · rw [getD_app (by omega), hI3, xu_nc (by omega), xu_nc (by omega), xu_nj (by omega), W2.2.2.2.2.1 i (by omega)]
    · simp only [hb, Bool.false_eq_true, not_false_eq_true, ↓reduceIte]
      simp (disch := first | assumption | omega | decide | exact vp_in_nI (by omega) (by omega) | exact and1_bN _ | (simp only [pk_mul, nI_add, pred_s]; exact vp_in_nI (by omega) (by omega))) only [xs_81_52, nI_add, pk_mul, nI_ltI, nI_eq, z_eq, z_lt, z_gt, z_bN, bN_z, bN_p, nI_clamp, rng_nI, ↓reduceIte, if_true, if_false, not_true_eq_false, not_false_eq_true, true_and, and_true, and_self, false_and, and_false]
      have e : rwp (x + 1) F = rwp x F := by rw [rwp_s, hFf x hb, List.append_nil]
      rw [e] at h
      exact h I2 hf W2 hTL2 hfo
  · have h1 : I2 (G w) 1 = nI (tN T) := by rw [hG]; exact TR_1 (TT_frW hw ht hf hT).1
    rw [xs_81_6 hw htG, h1]
    have hb7 : bs (tN T) (okC T v bk C pre) < 128 := bs_lt7 hn _
    simp (disch := first | assumption | omega | decide | exact vp_in_nI (by omega) (by omega) | exact and1_bN _ | (simp only [pk_mul, nI_add, pred_s]; exact vp_in_nI (by omega) (by omega))) only [xs_81_54, xs_81_56, nI_add, pk_mul, nI_ltI, nI_eq, z_eq, z_lt, z_gt, z_bN, bN_z, bN_p, nI_clamp, rng_nI, ↓reduceIte, if_true, if_false, not_true_eq_false, not_false_eq_true, true_and, and_true, and_self, false_and, and_false, Nat.lt_irrefl, c_bitCount, Option.toList_some, Option.toList_none, List.cons_append, List.nil_append, List.append_nil]
    rw [cnt_bs hn, ← hlen]
    have ek : tk fo (rwp (tN T) F) = rwp (tN T) F := by
      cases fo with
      | false => rfl
      | true => rw [hfo rfl]; rfl
    have hq2 := hq I2
    rw [ek] at hq2
    refine hq2 ⟨hf, W2, by rw [ek]; exact hTL2, fun e r M hr => ?_⟩
    rw [hfo e] at hr
    cases hr
end SEARCH
