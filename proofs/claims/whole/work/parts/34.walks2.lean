/-! countAll, countOn, prepare, narrow, follow, copyHands -/
theorem rwp_pref {α : Type} {x n : Nat} (hx : x ≤ n) (F : Nat → List α) : ∃ M, rwp n F = rwp x F ++ M := by
  induction n with
  | zero => exact ⟨[], by rw [show x = 0 by omega]; rfl⟩
  | succ n ih =>
    by_cases e : x = n + 1
    · exact ⟨[], by rw [e, List.append_nil]⟩
    · obtain ⟨M, hM⟩ := ih (by omega)
      exact ⟨M ++ F n, by rw [rwp_s, hM, List.append_assoc]⟩
theorem ctR_app (A B : List (List Nat)) (i x : Nat) : ctR (A ++ B) i x = ctR A i x + ctR B i x := List.countP_append
section WALKS2
variable {scr : xi_X} {d : Nat} {Q : Option Value → xi_S → Prop} {I : Nat → Nat → Int32} {J : Nat → Nat → Int64} {t dr : Nat} {G : Nat → Nat} {w : Nat} {T : TN} {v : Nat} {bk fo : Bool} {C : Nat → Nat → Bool} {pre : List Nat} {tal : Nat → Nat → Nat} {cm : Nat → Bool}
theorem c_countAll (hw : wk w) (ht : tw t) (hG : G w = t) (hT : TT I t T) (hv : v ≤ 5) (hh1 : 1 ≤ tH T) (W : WK I w T v bk fo C []) (hTL : TL I w T (fun _ _ => 0) (fun _ => true)) (h1 : I w 1 = nI 0)
    (hq : ∀ I2 : Nat → Nat → Int32, FrA I I2 w → WR I2 w T (tk fo (RWS T v bk C)) → (fo = true → ∀ r M, RWS T v bk C = r :: M → ∀ i, i ≤ tH T → I2 (w + 3) i = nI (r.getD i 0)) → Q none (wS, I2, J, wP t dr G)) :
    xr scr (d + 9) xc_96 0 [some (.ref w), none, none] [] (wS, I, J, wP t dr G) Q := by
  have hn := TR_n hT.1
  have hh5 := TR_h hT.1
  have hw' : w = 32 ∨ w = 38 := hw
  have ht' : t = 15 ∨ t = 20 := ht
  have htG : tw (G w) := by rw [hG]; exact ht
  obtain ⟨A, hA⟩ : ∃ A, A = acB T C := ⟨_, rfl⟩
  obtain ⟨F, hF⟩ : ∃ F : Nat → List (List Nat), F = fun x => if A 0 x = true then rws (tN T) (okC T v bk A) (tH T) [x] else [] := ⟨_, rfl⟩
  have hFt : ∀ x, A 0 x = true → F x = rws (tN T) (okC T v bk A) (tH T) [x] := fun x hx => by rw [hF]; exact if_pos hx
  have hFf : ∀ x, ¬ A 0 x = true → F x = [] := fun x hx => by rw [hF]; exact if_neg hx
  have hFF : rwp (tN T) F = RWS T v bk C := rwp_c (fun x hx => by
    have hac := rws_ac (T := T) (v := v) (bk := bk) (C := C) (tH T) [x] (by simp) (by simp; omega)
    by_cases a1 : A 0 x = true
    · rw [hFt x a1, hA]
      rw [if_pos (acB_sub (T := T) (C := C) (Nat.zero_le _) (hA ▸ a1))]
      exact hac.1.symm
    · rw [hFf x a1]
      by_cases a2 : C 0 x = true
      · rw [if_pos a2]
        exact (hac.2 (by rw [hA] at a1; simpa using a1) a2).symm
      · rw [if_neg a2])
  rw [← hFF] at hq
  rw [xs_96_0 hw]
  refine c_trim (d := d + 6) hw ht hG hT W (fun I1 f1 W1 => ?_)
  rw [← hA] at W1
  have hT1 : TT I1 t T := TT_fr hT (f1 _ (by omega)) (f1 _ (by omega)) (f1 _ (by omega)) (f1 _ (by omega)) (f1 _ (by omega))
  have fA1 : FrA I I1 w := fun k hk => f1 k (by omega)
  simp (disch := first | assumption | omega | decide | exact vp_in_nI (by omega) (by omega) | exact and1_bN _ | (simp only [pk_mul, nI_add, pred_s]; exact vp_in_nI (by omega) (by omega))) only [Option.toList_some, Option.toList_none, List.cons_append, List.nil_append, List.append_nil, xs_96_2]
  refine up_0 (P := fun x => ∀ (I2 : Nat → Nat → Int32) (o2 : Option Value), FrA I I2 w → WK I2 w T v bk fo A [] → WR I2 w T (tk fo (rwp x F)) → (fo = true → ∀ r M, rwp x F = r :: M → ∀ i, i ≤ tH T → I2 (w + 3) i = nI (r.getD i 0)) → xr scr (d + 9) xc_96 4 [some (.ref w), some (.int (nI x)), o2] [] (wS, I2, J, wP t dr G) Q) (tN T) (fun x hx h I2 o2 f2 W2 R2 H2 => ?_) (fun I2 o2 f2 W2 R2 H2 => ?_) I1 none fA1 W1 ⟨fun i hi x hx => ?_, ?_, ?_⟩ (fun _ r M hr => by cases hr)
  · have hT2 := TT_frA hw ht f2 hT
    have g1 : I2 (G w) 1 = nI (tN T) := by rw [hG]; exact TR_1 hT2.1
    have hx8 : x < 8 := by omega
    have w0 := W2.1
    have wC0 := W2.2.2.2.2.2 0 (Nat.zero_le _)
    have hlen : (tk fo (rwp x F)).length < 2 ^ 31 := by
      obtain ⟨M, hM⟩ := rwp_pref (Nat.le_of_lt hx) F
      have h3 := RWS_len T v bk C hn hh5
      rw [← hFF, hM, List.length_append] at h3
      have h4 : (tk fo (rwp x F)).length ≤ (rwp x F).length := by
        cases fo with
        | false => exact Nat.le_refl _
        | true => exact List.length_take_le' _ _
      omega
    -- the road on
    have go : (fo = true → rwp x F = []) → xr scr (d + 9) xc_96 15 [some (.ref w), some (.int (nI x)), o2] [] (wS, I2, J, wP t dr G) Q := by
      intro hfo
      rw [xs_96_15 hw (vp_in_nI (by omega) (by omega)), nI_clamp (by omega), wC0]
      simp (disch := first | assumption | omega | decide | exact vp_in_nI (by omega) (by omega) | exact and1_bN _ | (simp only [pk_mul, nI_add, pred_s]; exact vp_in_nI (by omega) (by omega))) only [sb_t, nI_add, pk_mul, nI_ltI, nI_eq, z_eq, z_lt, z_gt, z_bN, bN_z, bN_p, nI_clamp, rng_nI, ↓reduceIte, if_true, if_false, not_true_eq_false, not_false_eq_true, true_and, and_true, and_self, false_and, and_false, hx]
      by_cases hb : A 0 x = true
      · simp only [hb, not_true_eq_false, ↓reduceIte]
        rw [xs_96_24 hw]
        refine c_take (pre := []) (d := d + 7) hw ht hG hT2 hv W2 hx (by simp) (fun I3 f3 W3 => ?_)
        have hT3 := TT_frW hw ht (FrT_W f3) hT2
        simp (disch := first | assumption | omega | decide | exact vp_in_nI (by omega) (by omega) | exact and1_bN _ | (simp only [pk_mul, nI_add, pred_s]; exact vp_in_nI (by omega) (by omega))) only [Option.toList_some, Option.toList_none, List.cons_append, List.nil_append, List.append_nil]
        have t3 : TL I3 w T (ctR (tk fo (rwp x F))) (alR (tk fo (rwp x F))) := TL_frT f3 ⟨R2.1, R2.2.2⟩
        simp (disch := first | assumption | omega | decide | exact vp_in_nI (by omega) (by omega) | exact and1_bN _ | (simp only [pk_mul, nI_add, pred_s]; exact vp_in_nI (by omega) (by omega))) only [xs_96_28, sb_one]
        have hin1 : inP (tN T) [x] := by intro y hy; rw [List.mem_singleton.mp hy]; exact hx
        refine c_rowsOf (pre := [x]) (u := 0) (d := d + 1) hw ht hG hT3 hv W3 hin1 rfl (Nat.zero_le _) t3 (fun I4 B hB f4 W4 T4 c4 H4 => ?_)
        have hT4 := TT_frW hw ht f4 hT3
        have hBo := rws_own (pre := [x]) (u := 0) rfl hB
        rw [Nat.sub_zero, ← hFt x hb] at hB H4
        have c4 := c4 (by omega)
        have hBx : ∀ r, r ∈ B → ∃ e, r = x :: e := fun r hr => by
          rw [hB, hFt x hb] at hr
          obtain ⟨e, he, -, -⟩ := rws_pre _ _ _ (tk_mem hr)
          exact ⟨e, he⟩
        have ekB : tk fo (rwp (x + 1) F) = tk fo (rwp x F) ++ B := by
          rw [rwp_s, hB]
          cases fo with
          | false => rfl
          | true => rw [hfo rfl]; rfl
        have w31 : I3 w 1 = nI (tk fo (rwp x F)).length := by rw [f3.2 1 (by omega), R2.2.1]
        simp (disch := first | assumption | omega | decide | exact vp_in_nI (by omega) (by omega) | exact and1_bN _ | (simp only [pk_mul, nI_add, pred_s]; exact vp_in_nI (by omega) (by omega))) only [Option.toList_some, Option.toList_none, List.cons_append, List.nil_append, List.append_nil, xs_96_34]
        refine c_untake (pre := []) (d := d + 7) hw ht hG hT4 hv hx (by simp) W4 (fun I5 f5 h53 W5 => ?_)
        have hT5 := TT_frW hw ht (FrT_W f5) hT4
        simp (disch := first | assumption | omega | decide | exact vp_in_nI (by omega) (by omega) | exact and1_bN _ | (simp only [pk_mul, nI_add, pred_s]; exact vp_in_nI (by omega) (by omega))) only [Option.toList_some, Option.toList_none, List.cons_append, List.nil_append, List.append_nil, xs_96_38]
        have t5 : I5 (w + 5) (0 * 7 + x) = nI (addT (ctR (tk fo (rwp x F))) (0 + 1) B 0 x) := by rw [f5.1 (w + 5) (by omega) (by omega) (by omega), T4 0 (Nat.zero_le _) x hx]
        rw [c_addTo (i := 0) hw ht hG hT5 (by omega) hx, t5, nI_add]
        obtain ⟨I7, hI7⟩ : ∃ I7 : Nat → Nat → Int32, I7 = xi_up I5 (w + 5) (0 * 7 + x) (nI (addT (ctR (tk fo (rwp x F))) (0 + 1) B 0 x + B.length)) := ⟨_, rfl⟩
        rw [← hI7]
        have T7 : ∀ i, i ≤ tH T → ∀ z, z < tN T → I7 (w + 5) (i * 7 + z) = nI (addT (ctR (tk fo (rwp x F))) 0 B i z) := addT_own (I2 := I4) T4 hn hx hBo (fun j => by
          rw [hI7, xu_at, f5.1 (w + 5) (by omega) (by omega) (by omega)])
        have w71 : I7 w 1 = nI (tk fo (rwp x F)).length := by rw [hI7, xu_nc (by omega), f5.2 1 (by omega), f4.2 1 (by omega) (by omega), w31]
        have f57 : FrW I5 I7 w := ⟨fun k a b c e => by rw [hI7, xu_fr e], fun j a b => by rw [hI7, xu_nc (by omega)]⟩
        have W7 : WK I7 w T v bk fo A [] := WK_frW W5 f57 (by rw [hI7, xu_nc (by omega)]) (by rw [hI7, xu_fr (by omega)]) (fun i hi => by rw [hI7, xu_nc (by omega)])
        simp (disch := first | assumption | omega | decide | exact vp_in_nI (by omega) (by omega) | exact and1_bN _ | (simp only [pk_mul, nI_add, pred_s]; exact vp_in_nI (by omega) (by omega))) only [Option.toList_some, Option.toList_none, List.cons_append, List.nil_append, List.append_nil]
        rw [xs_96_43 hw, w71, nI_add, ← List.length_append, ← ekB]
        obtain ⟨I6, hI6⟩ : ∃ I6 : Nat → Nat → Int32, I6 = xi_up I7 w 1 (nI (tk fo (rwp (x + 1) F)).length) := ⟨_, rfl⟩
        rw [← hI6]
        have W6 : WK I6 w T v bk fo A [] := by
          obtain ⟨a0, a4, a5, a12, a3, aC⟩ := W7
          refine ⟨by rw [hI6, xu_nj (by omega), a0], by rw [hI6, xu_nj (by omega), a4], by rw [hI6, xu_nj (by omega), a5], fun z hz => ?_, fun i hi => ?_, fun i hi => ?_⟩
          · rw [hI6, xu_nc (by omega), xu_nc (by omega)]; exact a12 z hz
          · rw [hI6, xu_nc (by omega)]; exact a3 i hi
          · rw [hI6, xu_nc (by omega)]; exact aC i hi
        simp (disch := first | assumption | omega | decide | exact vp_in_nI (by omega) (by omega) | exact and1_bN _ | (simp only [pk_mul, nI_add, pred_s]; exact vp_in_nI (by omega) (by omega))) only [Option.toList_some, Option.toList_none, List.cons_append, List.nil_append, List.append_nil, xs_96_49, nI_add, pk_mul, nI_ltI, nI_eq, z_eq, z_lt, z_gt, z_bN, bN_z, bN_p, nI_clamp, rng_nI, ↓reduceIte, if_true, if_false, not_true_eq_false, not_false_eq_true, true_and, and_true, and_self, false_and, and_false]
        have fr46 : ∀ k, k < w ∨ w + 5 < k → I6 k = I2 k := fun k hk => by
          rw [hI6, xu_fr (by omega), hI7, xu_fr (by omega), f5.1 k (by omega) (by omega) (by omega), f4.1 k (by omega) (by omega) (by omega) (by omega), f3.1 k (by omega) (by omega) (by omega)]
        refine h I6 _ (fun k hk => (fr46 k hk).trans (f2 k hk)) W6 ⟨fun i hi z hz => ?_, ?_, ?_⟩ (fun e r M hr i hi => ?_)
        · rw [hI6, xu_nc (by omega), T7 i hi z hz, ekB, ctR_app, addT, if_pos (Nat.zero_le _)]
          rfl
        · rw [hI6, xu_eq]
        · rw [hI6, xu_nj (by omega), hI7, xu_nc (by omega), f5.2 2 (by omega), c4, ekB]
          congr 1
          refine bs_c (fun z _ => ?_)
          unfold cmG alR
          rw [List.all_append]
          congr 1
          have : ∀ L : List (List Nat), (∀ r, r ∈ L → ∃ e, r = x :: e) → L.all (fun r => (z == ([x] : List Nat).getD 0 0) || (r.drop (0 + 1)).contains z) = L.all (fun r => r.contains z) := by
            intro L hL
            induction L with
            | nil => rfl
            | cons r L ih =>
              obtain ⟨e, he⟩ := hL r List.mem_cons_self
              rw [List.all_cons, List.all_cons, ih (fun r2 h2 => hL r2 (List.mem_cons_of_mem _ h2)), he, List.contains_cons]
              rfl
          exact this B hBx
        · rw [hI6, xu_nc (by omega), hI7, xu_nc (by omega), h53]
          refine H4 e r M ?_ i hi
          rw [← hr, rwp_s, hfo e]
          rfl
      · simp only [hb, Bool.false_eq_true, not_false_eq_true, ↓reduceIte]
        have e : rwp (x + 1) F = rwp x F := by rw [rwp_s, hFf x hb, List.append_nil]
        rw [e] at h
        simp (disch := first | assumption | omega | decide | exact vp_in_nI (by omega) (by omega) | exact and1_bN _ | (simp only [pk_mul, nI_add, pred_s]; exact vp_in_nI (by omega) (by omega))) only [xs_96_49, nI_add, pk_mul, nI_ltI, nI_eq, z_eq, z_lt, z_gt, z_bN, bN_z, bN_p, nI_clamp, rng_nI, ↓reduceIte, if_true, if_false, not_true_eq_false, not_false_eq_true, true_and, and_true, and_self, false_and, and_false]
        exact h I2 _ f2 W2 R2 H2
    rw [xs_96_4 hw htG, g1]
    cases fo with
    | false =>
      simp (disch := first | assumption | omega | decide | exact vp_in_nI (by omega) (by omega) | exact and1_bN _ | (simp only [pk_mul, nI_add, pred_s]; exact vp_in_nI (by omega) (by omega))) only [xs_96_9, w0, nI_add, pk_mul, nI_ltI, nI_eq, z_eq, z_lt, z_gt, z_bN, bN_z, bN_p, nI_clamp, rng_nI, ↓reduceIte, if_true, if_false, not_true_eq_false, not_false_eq_true, true_and, and_true, and_self, false_and, and_false, hx, Bool.false_eq_true]
      exact go (fun e => by cases e)
    | true =>
      simp (disch := first | assumption | omega | decide | exact vp_in_nI (by omega) (by omega) | exact and1_bN _ | (simp only [pk_mul, nI_add, pred_s]; exact vp_in_nI (by omega) (by omega))) only [xs_96_9, xs_96_12, w0, R2.2.1, nI_add, pk_mul, nI_ltI, nI_eq, z_eq, z_lt, z_gt, z_bN, bN_z, bN_p, nI_clamp, rng_nI, ↓reduceIte, if_true, if_false, not_true_eq_false, not_false_eq_true, true_and, and_true, and_self, false_and, and_false, hx]
      by_cases hp : rwp x F = []
      · rw [hp]
        simp (disch := first | assumption | omega | decide | exact vp_in_nI (by omega) (by omega) | exact and1_bN _ | (simp only [pk_mul, nI_add, pred_s]; exact vp_in_nI (by omega) (by omega))) only [tk_nil, List.length_nil, Nat.lt_irrefl, ↓reduceIte]
        exact go (fun _ => hp)
      · cases hc : rwp x F with
        | nil => exact absurd hc hp
        | cons r M =>
          simp (disch := first | assumption | omega | decide | exact vp_in_nI (by omega) (by omega) | exact and1_bN _ | (simp only [pk_mul, nI_add, pred_s]; exact vp_in_nI (by omega) (by omega))) only [tk_t, List.length_cons, List.length_nil, Nat.zero_lt_succ, ↓reduceIte, xs_96_51]
          obtain ⟨M2, hM2⟩ := rwp_pref (Nat.le_of_lt hx) F
          rw [hc] at hM2 R2 H2
          have hq2 := hq I2
          rw [hM2] at hq2
          refine hq2 f2 R2 (fun e r2 M3 hr i hi => H2 e r2 M ?_ i hi)
          rw [List.cons_append] at hr
          rw [(List.cons.inj hr).1]
  · have hT2 := TT_frA hw ht f2 hT
    have g1 : I2 (G w) 1 = nI (tN T) := by rw [hG]; exact TR_1 hT2.1
    rw [xs_96_4 hw htG, g1]
    simp (disch := first | assumption | omega | decide | exact vp_in_nI (by omega) (by omega) | exact and1_bN _ | (simp only [pk_mul, nI_add, pred_s]; exact vp_in_nI (by omega) (by omega))) only [xs_96_51, nI_add, pk_mul, nI_ltI, nI_eq, z_eq, z_lt, z_gt, z_bN, bN_z, bN_p, nI_clamp, rng_nI, ↓reduceIte, if_true, if_false, not_true_eq_false, not_false_eq_true, true_and, and_true, and_self, false_and, and_false, Nat.lt_irrefl]
    exact hq I2 f2 R2 H2
  · rw [rwp_0, tk_nil, f1 (w + 5) (by omega), hTL.1 i hi x hx]
    rfl
  · rw [rwp_0, tk_nil, f1 w (by omega), h1]
    rfl
  · rw [rwp_0, tk_nil, f1 w (by omega), hTL.2]
    rfl
theorem c_countOn (hw : wk w) (ht : tw t) (hG : G w = t) (hT : TT I t T) (hv : v ≤ 5) (W : WK I w T v bk false (fun _ _ => true) pre) (hin : inP (tN T) pre) {u : Nat} (hu : pre.length = u + 1) (hh : u ≤ tH T) (hTL : TL I w T (fun _ _ => 0) cm)
    (hq : ∀ I2 : Nat → Nat → Int32, FrA I I2 w → (∀ x, x < tN T → I2 (w + 5) (tH T * 7 + x) = nI (ctR (rws (tN T) (okC T v bk (fun _ _ => true)) (tH T - u) pre) (tH T) x)) → Q (some (.int (nI (rws (tN T) (okC T v bk (fun _ _ => true)) (tH T - u) pre).length))) (wS, I2, J, wP t dr G)) :
    xr scr (d + 9) xc_77 0 [some (.ref w), some (.int (nI u)), none] [] (wS, I, J, wP t dr G) Q := by
  have hw' : w = 32 ∨ w = 38 := hw
  have ht' : t = 15 ∨ t = 20 := ht
  have hac := (rws_ac (T := T) (v := v) (bk := bk) (C := fun _ _ => true) (tH T - u) pre (by omega) (by omega)).1
  have hn := TR_n hT.1
  have hh5 := TR_h hT.1
  have hu6 : u < 6 := by omega
  have hz : pre.getD u 0 < tN T := inP_get hin (by omega)
  simp (disch := first | assumption | omega | decide | exact vp_in_nI (by omega) (by omega) | exact and1_bN _ | (simp only [pk_mul, nI_add, pred_s]; exact vp_in_nI (by omega) (by omega))) only [xs_77_0, xs_77_2, nI_add, pk_mul, nI_ltI, nI_eq, z_eq, z_lt, z_gt, z_bN, bN_z, bN_p, nI_clamp, rng_nI, ↓reduceIte, if_true, if_false, not_true_eq_false, not_false_eq_true, true_and, and_true, and_self, false_and, and_false, hu6]
  rw [xs_77_7 hw]
  refine c_trim (d := d + 6) hw ht hG hT W (fun I1 f1 W1 => ?_)
  have hT1 : TT I1 t T := TT_fr hT (f1 _ (by omega)) (f1 _ (by omega)) (f1 _ (by omega)) (f1 _ (by omega)) (f1 _ (by omega))
  simp (disch := first | assumption | omega | decide | exact vp_in_nI (by omega) (by omega) | exact and1_bN _ | (simp only [pk_mul, nI_add, pred_s]; exact vp_in_nI (by omega) (by omega))) only [Option.toList_some, Option.toList_none, List.cons_append, List.nil_append, List.append_nil]
  have t1 : TL I1 w T (fun _ _ => 0) cm := by
    unfold TL at hTL ⊢
    rw [f1 (w + 5) (by omega), f1 w (by omega)]
    exact hTL
  have h13 := W1.2.2.2.2.1 u (by omega)
  rw [xs_77_9 hw (vp_in_nI (by omega) (by omega)), nI_clamp (by omega), h13, sb_one _ (by omega)]
  refine c_rowsOf (d := d + 1) hw ht hG hT1 hv W1 hin hu hh t1 (fun I2 B hB f2 W2 T2 c2 H2 => ?_)
  have hT2 := TT_frW hw ht f2 hT1
  have h23 := W2.2.2.2.2.1 u (by omega)
  simp (disch := first | assumption | omega | decide | exact vp_in_nI (by omega) (by omega) | exact and1_bN _ | (simp only [pk_mul, nI_add, pred_s]; exact vp_in_nI (by omega) (by omega))) only [Option.toList_some, Option.toList_none, List.cons_append, List.nil_append, List.append_nil]
  rw [xs_77_18 hw (vp_in_nI (by omega) (by omega)), nI_clamp (by omega), h23, c_addTo hw ht hG hT2 hu6 hz, T2 u hh _ hz, nI_add]
  have hBo := rws_own hu hB
  have eB : B = rws (tN T) (okC T v bk (fun _ _ => true)) (tH T - u) pre := by rw [hB, tk_f, ← hac]
  simp (disch := first | assumption | omega | decide | exact vp_in_nI (by omega) (by omega) | exact and1_bN _ | (simp only [pk_mul, nI_add, pred_s]; exact vp_in_nI (by omega) (by omega))) only [Option.toList_some, Option.toList_none, List.cons_append, List.nil_append, List.append_nil, xs_77_27]
  have T3 := addT_own (I3 := xi_up I2 (w + 5) (u * 7 + pre.getD u 0) (nI (addT (fun _ _ => 0) (u + 1) B u (pre.getD u 0) + B.length))) T2 hn hz hBo (fun j => by rw [xu_at])
  rw [eB] at T3 ⊢
  refine hq _ (fun k hk => by rw [xu_fr (by omega), f2.1 k (by omega) (by omega) (by omega) (by omega), f1 k (by omega)]) (fun x hx => ?_)
  rw [T3 (tH T) (Nat.le_refl _) x hx, addT, if_pos hh, Nat.zero_add]
  rfl
end WALKS2
