/-! THE LAW: a call on both sides, and the loop -/
section LAW
variable {scr : xi_X} {d : Nat} {Q : Option Value → xi_S → Prop} {I : Nat → Nat → Int32} {J : Nat → Nat → Int64} {t dr : Nat} {G : Nat → Nat} {T : TN} {v : Nat} {bk : Bool} {pre : List Nat} {ss : List SGT} {x : Nat}
theorem xl_0 (H : INV I J t dr G T v bk pre ss) (hx : x + 6 ≤ scr.1) (hL : scr.1 ≤ 3072) (hq : ∀ S2, PST S2 → xr scr (d + 21) xc_257 1129 [some (.ref 1000002), some (.ref 0), some (.ref 58), some (.int (nI x))] [] S2 Q) : xr scr (d + 21) xc_257 22 [some (.ref 1000002), some (.ref 0), some (.ref 58), some (.int (nI x))] [] (wS, I, J, wP t dr G) Q := by
  have hv : ∀ k, 1 ≤ k → k < 6 → vp_in (nI x + nI k) scr.1 := fun k _ hk => by rw [nI_add]; exact vp_in_nI (by omega) (by omega)
  rw [xs_257_22 (hv 1 (by decide) (by decide)) (hv 2 (by decide) (by decide))]
  refine xr_wI (by rfl) (k_row (d := d) H) (fun u S1 h => ?_)
  obtain ⟨w, I1, J1, t1, dr1, G1, -, hw, rfl, h2⟩ := h
  cases hw
  simp only [Option.toList_some, Option.toList_none, List.cons_append, List.nil_append, List.append_nil]
  rw [xs_257_34 (hv 1 (by decide) (by decide)) (hv 2 (by decide) (by decide))]
  refine xr_w h2 (fun r S2 h3 => ?_)
  obtain ⟨rfl, I2, J2, t2, dr2, G2, T2, v2, bk2, pre2, ss2, rfl, H2⟩ := h3
  simp only [Option.toList_some, Option.toList_none, List.cons_append, List.nil_append, List.append_nil]
  rw [xs_257_46, if_pos rfl]
  exact hq _ (PST_i H2)
theorem xl_1 (H : INV I J t dr G T v bk pre ss) (hx : x + 6 ≤ scr.1) (hL : scr.1 ≤ 3072) (hq : ∀ S2, PST S2 → xr scr (d + 21) xc_257 1129 [some (.ref 1000002), some (.ref 0), some (.ref 58), some (.int (nI x))] [] S2 Q) : xr scr (d + 21) xc_257 49 [some (.ref 1000002), some (.ref 0), some (.ref 58), some (.int (nI x))] [] (wS, I, J, wP t dr G) Q := by
  have hv : ∀ k, 1 ≤ k → k < 6 → vp_in (nI x + nI k) scr.1 := fun k _ hk => by rw [nI_add]; exact vp_in_nI (by omega) (by omega)
  rw [xs_257_49 (hv 1 (by decide) (by decide)) (hv 2 (by decide) (by decide)) (hv 3 (by decide) (by decide))]
  refine xr_wI (by rfl) (k_lay (d := d) H) (fun u S1 h => ?_)
  obtain ⟨w, I1, J1, t1, dr1, G1, -, hw, rfl, h2⟩ := h
  cases hw
  simp only [Option.toList_some, Option.toList_none, List.cons_append, List.nil_append, List.append_nil]
  rw [xs_257_66 (hv 1 (by decide) (by decide)) (hv 2 (by decide) (by decide)) (hv 3 (by decide) (by decide))]
  refine xr_w h2 (fun r S2 h3 => ?_)
  obtain ⟨rfl, I2, J2, t2, dr2, G2, T2, v2, bk2, pre2, ss2, rfl, H2⟩ := h3
  simp only [Option.toList_some, Option.toList_none, List.cons_append, List.nil_append, List.append_nil]
  rw [xs_257_83, if_pos rfl]
  exact hq _ (PST_i H2)
theorem xl_2 (H : INV I J t dr G T v bk pre ss) (hx : x + 6 ≤ scr.1) (hL : scr.1 ≤ 3072) (hq : ∀ S2, PST S2 → xr scr (d + 21) xc_257 1129 [some (.ref 1000002), some (.ref 0), some (.ref 58), some (.int (nI x))] [] S2 Q) : xr scr (d + 21) xc_257 86 [some (.ref 1000002), some (.ref 0), some (.ref 58), some (.int (nI x))] [] (wS, I, J, wP t dr G) Q := by
  have hv : ∀ k, 1 ≤ k → k < 6 → vp_in (nI x + nI k) scr.1 := fun k _ hk => by rw [nI_add]; exact vp_in_nI (by omega) (by omega)
  rw [xs_257_86 (hv 1 (by decide) (by decide)) (hv 2 (by decide) (by decide))]
  refine xr_wI (by rfl) (k_at (d := d) H) (fun u S1 h => ?_)
  obtain ⟨w, I1, J1, t1, dr1, G1, -, hw, rfl, h2⟩ := h
  cases hw
  simp only [Option.toList_some, Option.toList_none, List.cons_append, List.nil_append, List.append_nil]
  rw [xs_257_98 (hv 1 (by decide) (by decide)) (hv 2 (by decide) (by decide))]
  refine xr_w h2 (fun r S2 h3 => ?_)
  obtain ⟨rfl, I2, J2, t2, dr2, G2, T2, v2, bk2, pre2, ss2, rfl, H2⟩ := h3
  simp only [Option.toList_some, Option.toList_none, List.cons_append, List.nil_append, List.append_nil]
  rw [xs_257_110, if_pos rfl]
  exact hq _ (PST_i H2)
theorem xl_3 (H : INV I J t dr G T v bk pre ss) (hx : x + 6 ≤ scr.1) (hL : scr.1 ≤ 3072) (hq : ∀ S2, PST S2 → xr scr (d + 21) xc_257 1129 [some (.ref 1000002), some (.ref 0), some (.ref 58), some (.int (nI x))] [] S2 Q) : xr scr (d + 21) xc_257 113 [some (.ref 1000002), some (.ref 0), some (.ref 58), some (.int (nI x))] [] (wS, I, J, wP t dr G) Q := by
  have hv : ∀ k, 1 ≤ k → k < 6 → vp_in (nI x + nI k) scr.1 := fun k _ hk => by rw [nI_add]; exact vp_in_nI (by omega) (by omega)
  rw [xs_257_113 (hv 1 (by decide) (by decide))]
  refine xr_wI (by rfl) (k_tear (d := d) H) (fun u S1 h => ?_)
  obtain ⟨w, I1, J1, t1, dr1, G1, -, hw, rfl, h2⟩ := h
  cases hw
  simp only [Option.toList_some, Option.toList_none, List.cons_append, List.nil_append, List.append_nil]
  rw [xs_257_120 (hv 1 (by decide) (by decide))]
  refine xr_w h2 (fun r S2 h3 => ?_)
  obtain ⟨rfl, I2, J2, t2, dr2, G2, T2, v2, bk2, pre2, ss2, rfl, H2⟩ := h3
  simp only [Option.toList_some, Option.toList_none, List.cons_append, List.nil_append, List.append_nil]
  rw [xs_257_127, if_pos rfl]
  exact hq _ (PST_i H2)
theorem xl_4 (H : INV I J t dr G T v bk pre ss) (hx : x + 6 ≤ scr.1) (hL : scr.1 ≤ 3072) (hq : ∀ S2, PST S2 → xr scr (d + 21) xc_257 1129 [some (.ref 1000002), some (.ref 0), some (.ref 58), some (.int (nI x))] [] S2 Q) : xr scr (d + 21) xc_257 130 [some (.ref 1000002), some (.ref 0), some (.ref 58), some (.int (nI x))] [] (wS, I, J, wP t dr G) Q := by
  have hv : ∀ k, 1 ≤ k → k < 6 → vp_in (nI x + nI k) scr.1 := fun k _ hk => by rw [nI_add]; exact vp_in_nI (by omega) (by omega)
  rw [xs_257_130 (hv 1 (by decide) (by decide)) (hv 2 (by decide) (by decide)) (hv 3 (by decide) (by decide)) (hv 4 (by decide) (by decide)) (hv 5 (by decide) (by decide))]
  refine xr_wI (by rfl) (k_copy (d := d) H) (fun u S1 h => ?_)
  obtain ⟨w, I1, J1, t1, dr1, G1, -, hw, rfl, h2⟩ := h
  cases hw
  simp only [Option.toList_some, Option.toList_none, List.cons_append, List.nil_append, List.append_nil]
  rw [xs_257_157 (hv 1 (by decide) (by decide)) (hv 2 (by decide) (by decide)) (hv 3 (by decide) (by decide)) (hv 4 (by decide) (by decide)) (hv 5 (by decide) (by decide))]
  refine xr_w h2 (fun r S2 h3 => ?_)
  obtain ⟨rfl, I2, J2, t2, dr2, G2, T2, v2, bk2, pre2, ss2, rfl, H2⟩ := h3
  simp only [Option.toList_some, Option.toList_none, List.cons_append, List.nil_append, List.append_nil]
  rw [xs_257_184, if_pos rfl]
  exact hq _ (PST_i H2)
theorem xl_5 (H : INV I J t dr G T v bk pre ss) (hx : x + 6 ≤ scr.1) (hL : scr.1 ≤ 3072) (hq : ∀ S2, PST S2 → xr scr (d + 21) xc_257 1129 [some (.ref 1000002), some (.ref 0), some (.ref 58), some (.int (nI x))] [] S2 Q) : xr scr (d + 21) xc_257 187 [some (.ref 1000002), some (.ref 0), some (.ref 58), some (.int (nI x))] [] (wS, I, J, wP t dr G) Q := by
  have hv : ∀ k, 1 ≤ k → k < 6 → vp_in (nI x + nI k) scr.1 := fun k _ hk => by rw [nI_add]; exact vp_in_nI (by omega) (by omega)
  rw [xs_257_187 (hv 1 (by decide) (by decide))]
  refine xr_wI (by rfl) (k_mean (d := d) H) (fun u S1 h => ?_)
  obtain ⟨w, I1, J1, t1, dr1, G1, -, hw, rfl, h2⟩ := h
  cases hw
  simp only [Option.toList_some, Option.toList_none, List.cons_append, List.nil_append, List.append_nil]
  rw [xs_257_194 (hv 1 (by decide) (by decide))]
  refine xr_w h2 (fun r S2 h3 => ?_)
  obtain ⟨rfl, I2, J2, t2, dr2, G2, T2, v2, bk2, pre2, ss2, rfl, H2⟩ := h3
  simp only [Option.toList_some, Option.toList_none, List.cons_append, List.nil_append, List.append_nil]
  rw [xs_257_201, if_pos rfl]
  exact hq _ (PST_i H2)
theorem xl_6 (H : INV I J t dr G T v bk pre ss) (hx : x + 6 ≤ scr.1) (hL : scr.1 ≤ 3072) (hq : ∀ S2, PST S2 → xr scr (d + 21) xc_257 1129 [some (.ref 1000002), some (.ref 0), some (.ref 58), some (.int (nI x))] [] S2 Q) : xr scr (d + 21) xc_257 204 [some (.ref 1000002), some (.ref 0), some (.ref 58), some (.int (nI x))] [] (wS, I, J, wP t dr G) Q := by
  have hv : ∀ k, 1 ≤ k → k < 6 → vp_in (nI x + nI k) scr.1 := fun k _ hk => by rw [nI_add]; exact vp_in_nI (by omega) (by omega)
  rw [xs_257_204 (hv 1 (by decide) (by decide)) (hv 2 (by decide) (by decide))]
  refine xr_wI (by rfl) (k_text (d := d) H) (fun u S1 h => ?_)
  obtain ⟨w, I1, J1, t1, dr1, G1, -, hw, rfl, h2⟩ := h
  cases hw
  simp only [Option.toList_some, Option.toList_none, List.cons_append, List.nil_append, List.append_nil]
  rw [xs_257_216 (hv 1 (by decide) (by decide)) (hv 2 (by decide) (by decide))]
  refine xr_w h2 (fun r S2 h3 => ?_)
  obtain ⟨rfl, I2, J2, t2, dr2, G2, T2, v2, bk2, pre2, ss2, rfl, H2⟩ := h3
  simp only [Option.toList_some, Option.toList_none, List.cons_append, List.nil_append, List.append_nil]
  rw [xs_257_228, if_pos rfl]
  exact hq _ (PST_i H2)
theorem xl_7 (H : INV I J t dr G T v bk pre ss) (hx : x + 6 ≤ scr.1) (hL : scr.1 ≤ 3072) (hq : ∀ S2, PST S2 → xr scr (d + 21) xc_257 1129 [some (.ref 1000002), some (.ref 0), some (.ref 58), some (.int (nI x))] [] S2 Q) : xr scr (d + 21) xc_257 231 [some (.ref 1000002), some (.ref 0), some (.ref 58), some (.int (nI x))] [] (wS, I, J, wP t dr G) Q := by
  have hv : ∀ k, 1 ≤ k → k < 6 → vp_in (nI x + nI k) scr.1 := fun k _ hk => by rw [nI_add]; exact vp_in_nI (by omega) (by omega)
  rw [xs_257_231 (hv 1 (by decide) (by decide)) (hv 2 (by decide) (by decide)) (hv 3 (by decide) (by decide))]
  refine xr_wI (by rfl) (k_put (d := d) H) (fun u S1 h => ?_)
  obtain ⟨w, I1, J1, t1, dr1, G1, -, hw, rfl, h2⟩ := h
  cases hw
  simp only [Option.toList_some, Option.toList_none, List.cons_append, List.nil_append, List.append_nil]
  rw [xs_257_248 (hv 1 (by decide) (by decide)) (hv 2 (by decide) (by decide)) (hv 3 (by decide) (by decide))]
  refine xr_w h2 (fun r S2 h3 => ?_)
  obtain ⟨rfl, I2, J2, t2, dr2, G2, T2, v2, bk2, pre2, ss2, rfl, H2⟩ := h3
  simp only [Option.toList_some, Option.toList_none, List.cons_append, List.nil_append, List.append_nil]
  rw [xs_257_265, if_pos rfl]
  exact hq _ (PST_i H2)
theorem xl_8 (H : INV I J t dr G T v bk pre ss) (hx : x + 6 ≤ scr.1) (hL : scr.1 ≤ 3072) (hq : ∀ S2, PST S2 → xr scr (d + 21) xc_257 1129 [some (.ref 1000002), some (.ref 0), some (.ref 58), some (.int (nI x))] [] S2 Q) : xr scr (d + 21) xc_257 268 [some (.ref 1000002), some (.ref 0), some (.ref 58), some (.int (nI x))] [] (wS, I, J, wP t dr G) Q := by
  have hv : ∀ k, 1 ≤ k → k < 6 → vp_in (nI x + nI k) scr.1 := fun k _ hk => by rw [nI_add]; exact vp_in_nI (by omega) (by omega)
  rw [xs_257_268 (hv 1 (by decide) (by decide))]
  refine xr_wI (by rfl) (k_fault (d := d) H) (fun u S1 h => ?_)
  obtain ⟨w, I1, J1, t1, dr1, G1, -, hw, rfl, h2⟩ := h
  cases hw
  simp only [Option.toList_some, Option.toList_none, List.cons_append, List.nil_append, List.append_nil]
  rw [xs_257_275 (hv 1 (by decide) (by decide))]
  refine xr_w h2 (fun r S2 h3 => ?_)
  obtain ⟨rfl, I2, J2, t2, dr2, G2, T2, v2, bk2, pre2, ss2, rfl, H2⟩ := h3
  simp only [Option.toList_some, Option.toList_none, List.cons_append, List.nil_append, List.append_nil]
  rw [xs_257_282, if_pos rfl]
  exact hq _ (PST_i H2)
theorem xl_9 (H : INV I J t dr G T v bk pre ss) (hx : x + 6 ≤ scr.1) (hL : scr.1 ≤ 3072) (hq : ∀ S2, PST S2 → xr scr (d + 21) xc_257 1129 [some (.ref 1000002), some (.ref 0), some (.ref 58), some (.int (nI x))] [] S2 Q) : xr scr (d + 21) xc_257 285 [some (.ref 1000002), some (.ref 0), some (.ref 58), some (.int (nI x))] [] (wS, I, J, wP t dr G) Q := by
  have hv : ∀ k, 1 ≤ k → k < 6 → vp_in (nI x + nI k) scr.1 := fun k _ hk => by rw [nI_add]; exact vp_in_nI (by omega) (by omega)
  rw [xs_257_285 (hv 1 (by decide) (by decide))]
  refine xr_wI (by rfl) (k_town (d := d) H) (fun u S1 h => ?_)
  obtain ⟨w, I1, J1, t1, dr1, G1, -, hw, rfl, h2⟩ := h
  cases hw
  simp only [Option.toList_some, Option.toList_none, List.cons_append, List.nil_append, List.append_nil]
  rw [xs_257_292 (hv 1 (by decide) (by decide))]
  refine xr_w h2 (fun r S2 h3 => ?_)
  obtain ⟨rfl, I2, J2, t2, dr2, G2, T2, v2, bk2, pre2, ss2, rfl, H2⟩ := h3
  simp only [Option.toList_some, Option.toList_none, List.cons_append, List.nil_append, List.append_nil]
  rw [xs_257_299, if_pos rfl]
  exact hq _ (PST_i H2)
theorem xl_10 (H : INV I J t dr G T v bk pre ss) (hx : x + 6 ≤ scr.1) (hL : scr.1 ≤ 3072) (hq : ∀ S2, PST S2 → xr scr (d + 21) xc_257 1129 [some (.ref 1000002), some (.ref 0), some (.ref 58), some (.int (nI x))] [] S2 Q) : xr scr (d + 21) xc_257 302 [some (.ref 1000002), some (.ref 0), some (.ref 58), some (.int (nI x))] [] (wS, I, J, wP t dr G) Q := by
  have hv : ∀ k, 1 ≤ k → k < 6 → vp_in (nI x + nI k) scr.1 := fun k _ hk => by rw [nI_add]; exact vp_in_nI (by omega) (by omega)
  rw [xs_257_302 (hv 1 (by decide) (by decide)) (hv 2 (by decide) (by decide))]
  refine xr_wI (by rfl) (k_person (d := d) H) (fun u S1 h => ?_)
  obtain ⟨w, I1, J1, t1, dr1, G1, -, hw, rfl, h2⟩ := h
  cases hw
  simp only [Option.toList_some, Option.toList_none, List.cons_append, List.nil_append, List.append_nil]
  rw [xs_257_314 (hv 1 (by decide) (by decide)) (hv 2 (by decide) (by decide))]
  refine xr_w h2 (fun r S2 h3 => ?_)
  obtain ⟨rfl, I2, J2, t2, dr2, G2, T2, v2, bk2, pre2, ss2, rfl, H2⟩ := h3
  simp only [Option.toList_some, Option.toList_none, List.cons_append, List.nil_append, List.append_nil]
  rw [xs_257_326, if_pos rfl]
  exact hq _ (PST_i H2)
theorem xl_11 (H : INV I J t dr G T v bk pre ss) (hx : x + 6 ≤ scr.1) (hL : scr.1 ≤ 3072) (hq : ∀ S2, PST S2 → xr scr (d + 21) xc_257 1129 [some (.ref 1000002), some (.ref 0), some (.ref 58), some (.int (nI x))] [] S2 Q) : xr scr (d + 21) xc_257 329 [some (.ref 1000002), some (.ref 0), some (.ref 58), some (.int (nI x))] [] (wS, I, J, wP t dr G) Q := by
  have hv : ∀ k, 1 ≤ k → k < 6 → vp_in (nI x + nI k) scr.1 := fun k _ hk => by rw [nI_add]; exact vp_in_nI (by omega) (by omega)
  rw [xs_257_329 (hv 1 (by decide) (by decide)) (hv 2 (by decide) (by decide))]
  refine xr_wI (by rfl) (k_place (d := d) H) (fun u S1 h => ?_)
  obtain ⟨w, I1, J1, t1, dr1, G1, -, hw, rfl, h2⟩ := h
  cases hw
  simp only [Option.toList_some, Option.toList_none, List.cons_append, List.nil_append, List.append_nil]
  rw [xs_257_341 (hv 1 (by decide) (by decide)) (hv 2 (by decide) (by decide))]
  refine xr_w h2 (fun r S2 h3 => ?_)
  obtain ⟨rfl, I2, J2, t2, dr2, G2, T2, v2, bk2, pre2, ss2, rfl, H2⟩ := h3
  simp only [Option.toList_some, Option.toList_none, List.cons_append, List.nil_append, List.append_nil]
  rw [xs_257_353, if_pos rfl]
  exact hq _ (PST_i H2)
theorem xl_12 (H : INV I J t dr G T v bk pre ss) (hx : x + 6 ≤ scr.1) (hL : scr.1 ≤ 3072) (hq : ∀ S2, PST S2 → xr scr (d + 21) xc_257 1129 [some (.ref 1000002), some (.ref 0), some (.ref 58), some (.int (nI x))] [] S2 Q) : xr scr (d + 21) xc_257 356 [some (.ref 1000002), some (.ref 0), some (.ref 58), some (.int (nI x))] [] (wS, I, J, wP t dr G) Q := by
  have hv : ∀ k, 1 ≤ k → k < 6 → vp_in (nI x + nI k) scr.1 := fun k _ hk => by rw [nI_add]; exact vp_in_nI (by omega) (by omega)
  rw [xs_257_356 (hv 1 (by decide) (by decide)) (hv 2 (by decide) (by decide))]
  refine xr_wI (by rfl) (k_mark (d := d) H) (fun u S1 h => ?_)
  obtain ⟨w, I1, J1, t1, dr1, G1, -, hw, rfl, h2⟩ := h
  cases hw
  simp only [Option.toList_some, Option.toList_none, List.cons_append, List.nil_append, List.append_nil]
  rw [xs_257_368 (hv 1 (by decide) (by decide)) (hv 2 (by decide) (by decide))]
  refine xr_w h2 (fun r S2 h3 => ?_)
  obtain ⟨rfl, I2, J2, t2, dr2, G2, T2, v2, bk2, pre2, ss2, rfl, H2⟩ := h3
  simp only [Option.toList_some, Option.toList_none, List.cons_append, List.nil_append, List.append_nil]
  rw [xs_257_380, if_pos rfl]
  exact hq _ (PST_i H2)
theorem xl_13 (H : INV I J t dr G T v bk pre ss) (hx : x + 6 ≤ scr.1) (hL : scr.1 ≤ 3072) (hq : ∀ S2, PST S2 → xr scr (d + 21) xc_257 1129 [some (.ref 1000002), some (.ref 0), some (.ref 58), some (.int (nI x))] [] S2 Q) : xr scr (d + 21) xc_257 383 [some (.ref 1000002), some (.ref 0), some (.ref 58), some (.int (nI x))] [] (wS, I, J, wP t dr G) Q := by
  have hv : ∀ k, 1 ≤ k → k < 6 → vp_in (nI x + nI k) scr.1 := fun k _ hk => by rw [nI_add]; exact vp_in_nI (by omega) (by omega)
  rw [xs_257_383 (hv 1 (by decide) (by decide))]
  refine xr_wI (by rfl) (k_times (d := d) H) (fun u S1 h => ?_)
  obtain ⟨w, I1, J1, t1, dr1, G1, -, hw, rfl, h2⟩ := h
  cases hw
  simp only [Option.toList_some, Option.toList_none, List.cons_append, List.nil_append, List.append_nil]
  rw [xs_257_390 (hv 1 (by decide) (by decide))]
  refine xr_w h2 (fun r S2 h3 => ?_)
  obtain ⟨rfl, I2, J2, t2, dr2, G2, T2, v2, bk2, pre2, ss2, rfl, H2⟩ := h3
  simp only [Option.toList_some, Option.toList_none, List.cons_append, List.nil_append, List.append_nil]
  rw [xs_257_397, if_pos rfl]
  exact hq _ (PST_i H2)
theorem xl_14 (H : INV I J t dr G T v bk pre ss) (hx : x + 6 ≤ scr.1) (hL : scr.1 ≤ 3072) (hq : ∀ S2, PST S2 → xr scr (d + 21) xc_257 1129 [some (.ref 1000002), some (.ref 0), some (.ref 58), some (.int (nI x))] [] S2 Q) : xr scr (d + 21) xc_257 400 [some (.ref 1000002), some (.ref 0), some (.ref 58), some (.int (nI x))] [] (wS, I, J, wP t dr G) Q := by
  have hv : ∀ k, 1 ≤ k → k < 6 → vp_in (nI x + nI k) scr.1 := fun k _ hk => by rw [nI_add]; exact vp_in_nI (by omega) (by omega)
  rw [xs_257_400 (hv 1 (by decide) (by decide))]
  refine xr_wI (by rfl) (k_back (d := d) H) (fun u S1 h => ?_)
  obtain ⟨w, I1, J1, t1, dr1, G1, -, hw, rfl, h2⟩ := h
  cases hw
  simp only [Option.toList_some, Option.toList_none, List.cons_append, List.nil_append, List.append_nil]
  rw [xs_257_407 (hv 1 (by decide) (by decide))]
  refine xr_w h2 (fun r S2 h3 => ?_)
  obtain ⟨rfl, I2, J2, t2, dr2, G2, T2, v2, bk2, pre2, ss2, rfl, H2⟩ := h3
  simp only [Option.toList_some, Option.toList_none, List.cons_append, List.nil_append, List.append_nil]
  rw [xs_257_414, if_pos rfl]
  exact hq _ (PST_i H2)
theorem xl_15 (H : INV I J t dr G T v bk pre ss) (hx : x + 6 ≤ scr.1) (hL : scr.1 ≤ 3072) (hq : ∀ S2, PST S2 → xr scr (d + 21) xc_257 1129 [some (.ref 1000002), some (.ref 0), some (.ref 58), some (.int (nI x))] [] S2 Q) : xr scr (d + 21) xc_257 417 [some (.ref 1000002), some (.ref 0), some (.ref 58), some (.int (nI x))] [] (wS, I, J, wP t dr G) Q := by
  have hv : ∀ k, 1 ≤ k → k < 6 → vp_in (nI x + nI k) scr.1 := fun k _ hk => by rw [nI_add]; exact vp_in_nI (by omega) (by omega)
  rw [xs_257_417 (hv 1 (by decide) (by decide)) (hv 2 (by decide) (by decide))]
  refine xr_wI (by rfl) (k_may (d := d) H) (fun u S1 h => ?_)
  obtain ⟨w, I1, J1, t1, dr1, G1, -, hw, rfl, h2⟩ := h
  cases hw
  simp only [Option.toList_some, Option.toList_none, List.cons_append, List.nil_append, List.append_nil]
  rw [xs_257_429 (hv 1 (by decide) (by decide)) (hv 2 (by decide) (by decide))]
  refine xr_w h2 (fun r S2 h3 => ?_)
  obtain ⟨rfl, I2, J2, t2, dr2, G2, T2, v2, bk2, pre2, ss2, rfl, H2⟩ := h3
  simp only [Option.toList_some, Option.toList_none, List.cons_append, List.nil_append, List.append_nil]
  rw [xs_257_441, if_pos rfl]
  exact hq _ (PST_i H2)
theorem xl_16 (H : INV I J t dr G T v bk pre ss) (hx : x + 6 ≤ scr.1) (hL : scr.1 ≤ 3072) (hq : ∀ S2, PST S2 → xr scr (d + 21) xc_257 1129 [some (.ref 1000002), some (.ref 0), some (.ref 58), some (.int (nI x))] [] S2 Q) : xr scr (d + 21) xc_257 444 [some (.ref 1000002), some (.ref 0), some (.ref 58), some (.int (nI x))] [] (wS, I, J, wP t dr G) Q := by
  have hv : ∀ k, 1 ≤ k → k < 6 → vp_in (nI x + nI k) scr.1 := fun k _ hk => by rw [nI_add]; exact vp_in_nI (by omega) (by omega)
  rw [xs_257_444 (hv 1 (by decide) (by decide))]
  refine xr_wI (by rfl) (k_begin (d := d) H) (fun u S1 h => ?_)
  obtain ⟨w, I1, J1, t1, dr1, G1, -, hw, rfl, h2⟩ := h
  cases hw
  simp only [Option.toList_some, Option.toList_none, List.cons_append, List.nil_append, List.append_nil]
  rw [xs_257_451 (hv 1 (by decide) (by decide))]
  refine xr_w h2 (fun r S2 h3 => ?_)
  obtain ⟨rfl, I2, J2, t2, dr2, G2, T2, v2, bk2, pre2, ss2, rfl, H2⟩ := h3
  simp only [Option.toList_some, Option.toList_none, List.cons_append, List.nil_append, List.append_nil]
  rw [xs_257_458, if_pos rfl]
  exact hq _ (PST_i H2)
theorem xl_17 (H : INV I J t dr G T v bk pre ss) (hx : x + 6 ≤ scr.1) (hL : scr.1 ≤ 3072) (hq : ∀ S2, PST S2 → xr scr (d + 21) xc_257 1129 [some (.ref 1000002), some (.ref 0), some (.ref 58), some (.int (nI x))] [] S2 Q) : xr scr (d + 21) xc_257 461 [some (.ref 1000002), some (.ref 0), some (.ref 58), some (.int (nI x))] [] (wS, I, J, wP t dr G) Q := by
  have hv : ∀ k, 1 ≤ k → k < 6 → vp_in (nI x + nI k) scr.1 := fun k _ hk => by rw [nI_add]; exact vp_in_nI (by omega) (by omega)
  rw [xs_257_461 (hv 1 (by decide) (by decide))]
  refine xr_wI (by rfl) (k_give (d := d) H) (fun u S1 h => ?_)
  obtain ⟨w, I1, J1, t1, dr1, G1, -, hw, rfl, h2⟩ := h
  cases hw
  simp only [Option.toList_some, Option.toList_none, List.cons_append, List.nil_append, List.append_nil]
  rw [xs_257_468 (hv 1 (by decide) (by decide))]
  refine xr_w h2 (fun r S2 h3 => ?_)
  obtain ⟨rfl, I2, J2, t2, dr2, G2, T2, v2, bk2, pre2, ss2, rfl, H2⟩ := h3
  simp only [Option.toList_some, Option.toList_none, List.cons_append, List.nil_append, List.append_nil]
  rw [xs_257_475, if_pos rfl]
  exact hq _ (PST_i H2)
theorem xl_18 (H : INV I J t dr G T v bk pre ss) (hx : x + 6 ≤ scr.1) (hL : scr.1 ≤ 3072) (hq : ∀ S2, PST S2 → xr scr (d + 21) xc_257 1129 [some (.ref 1000002), some (.ref 0), some (.ref 58), some (.int (nI x))] [] S2 Q) : xr scr (d + 21) xc_257 478 [some (.ref 1000002), some (.ref 0), some (.ref 58), some (.int (nI x))] [] (wS, I, J, wP t dr G) Q := by
  have hv : ∀ k, 1 ≤ k → k < 6 → vp_in (nI x + nI k) scr.1 := fun k _ hk => by rw [nI_add]; exact vp_in_nI (by omega) (by omega)
  rw [xs_257_478]
  refine xr_wI (by rfl) (k_undo (d := d) H) (fun u S1 h => ?_)
  obtain ⟨w, I1, J1, t1, dr1, G1, -, hw, rfl, h2⟩ := h
  cases hw
  simp only [Option.toList_some, Option.toList_none, List.cons_append, List.nil_append, List.append_nil]
  rw [xs_257_480]
  refine xr_w h2 (fun r S2 h3 => ?_)
  obtain ⟨rfl, I2, J2, t2, dr2, G2, T2, v2, bk2, pre2, ss2, rfl, H2⟩ := h3
  simp only [Option.toList_some, Option.toList_none, List.cons_append, List.nil_append, List.append_nil]
  rw [xs_257_482, if_pos rfl]
  exact hq _ (PST_i H2)
theorem xl_19 (H : INV I J t dr G T v bk pre ss) (hx : x + 6 ≤ scr.1) (hL : scr.1 ≤ 3072) (hq : ∀ S2, PST S2 → xr scr (d + 21) xc_257 1129 [some (.ref 1000002), some (.ref 0), some (.ref 58), some (.int (nI x))] [] S2 Q) : xr scr (d + 21) xc_257 485 [some (.ref 1000002), some (.ref 0), some (.ref 58), some (.int (nI x))] [] (wS, I, J, wP t dr G) Q := by
  have hv : ∀ k, 1 ≤ k → k < 6 → vp_in (nI x + nI k) scr.1 := fun k _ hk => by rw [nI_add]; exact vp_in_nI (by omega) (by omega)
  rw [xs_257_485]
  refine xr_wI (by rfl) (k_now (d := d) H) (fun u S1 h => ?_)
  obtain ⟨w, I1, J1, t1, dr1, G1, -, hw, rfl, h2⟩ := h
  cases hw
  simp only [Option.toList_some, Option.toList_none, List.cons_append, List.nil_append, List.append_nil]
  rw [xs_257_487]
  refine xr_w h2 (fun r S2 h3 => ?_)
  obtain ⟨rfl, I2, J2, t2, dr2, G2, T2, v2, bk2, pre2, ss2, rfl, H2⟩ := h3
  simp only [Option.toList_some, Option.toList_none, List.cons_append, List.nil_append, List.append_nil]
  rw [xs_257_489, if_pos rfl]
  exact hq _ (PST_i H2)
theorem xl_20 (H : INV I J t dr G T v bk pre ss) (hx : x + 6 ≤ scr.1) (hL : scr.1 ≤ 3072) (hq : ∀ S2, PST S2 → xr scr (d + 21) xc_257 1129 [some (.ref 1000002), some (.ref 0), some (.ref 58), some (.int (nI x))] [] S2 Q) : xr scr (d + 21) xc_257 492 [some (.ref 1000002), some (.ref 0), some (.ref 58), some (.int (nI x))] [] (wS, I, J, wP t dr G) Q := by
  have hv : ∀ k, 1 ≤ k → k < 6 → vp_in (nI x + nI k) scr.1 := fun k _ hk => by rw [nI_add]; exact vp_in_nI (by omega) (by omega)
  rw [xs_257_492 (hv 1 (by decide) (by decide))]
  refine xr_wI (by rfl) (k_often (d := d) H) (fun u S1 h => ?_)
  obtain ⟨w, I1, J1, t1, dr1, G1, -, hw, rfl, h2⟩ := h
  cases hw
  simp only [Option.toList_some, Option.toList_none, List.cons_append, List.nil_append, List.append_nil]
  rw [xs_257_499 (hv 1 (by decide) (by decide))]
  refine xr_w h2 (fun r S2 h3 => ?_)
  obtain ⟨rfl, I2, J2, t2, dr2, G2, T2, v2, bk2, pre2, ss2, rfl, H2⟩ := h3
  simp only [Option.toList_some, Option.toList_none, List.cons_append, List.nil_append, List.append_nil]
  rw [xs_257_506, if_pos rfl]
  exact hq _ (PST_i H2)
theorem xl_21 (H : INV I J t dr G T v bk pre ss) (hx : x + 6 ≤ scr.1) (hL : scr.1 ≤ 3072) (hq : ∀ S2, PST S2 → xr scr (d + 21) xc_257 1129 [some (.ref 1000002), some (.ref 0), some (.ref 58), some (.int (nI x))] [] S2 Q) : xr scr (d + 21) xc_257 509 [some (.ref 1000002), some (.ref 0), some (.ref 58), some (.int (nI x))] [] (wS, I, J, wP t dr G) Q := by
  have hv : ∀ k, 1 ≤ k → k < 6 → vp_in (nI x + nI k) scr.1 := fun k _ hk => by rw [nI_add]; exact vp_in_nI (by omega) (by omega)
  rw [xs_257_509]
  refine xr_wI (by rfl) (k_can (d := d) H) (fun u S1 h => ?_)
  obtain ⟨w, I1, J1, t1, dr1, G1, -, hw, rfl, h2⟩ := h
  cases hw
  simp only [Option.toList_some, Option.toList_none, List.cons_append, List.nil_append, List.append_nil]
  rw [xs_257_511]
  refine xr_w h2 (fun r S2 h3 => ?_)
  obtain ⟨rfl, I2, J2, t2, dr2, G2, T2, v2, bk2, pre2, ss2, rfl, H2⟩ := h3
  simp only [Option.toList_some, Option.toList_none, List.cons_append, List.nil_append, List.append_nil]
  rw [xs_257_513, if_pos rfl]
  exact hq _ (PST_i H2)
theorem xl_22 (H : INV I J t dr G T v bk pre ss) (hx : x + 6 ≤ scr.1) (hL : scr.1 ≤ 3072) (hq : ∀ S2, PST S2 → xr scr (d + 21) xc_257 1129 [some (.ref 1000002), some (.ref 0), some (.ref 58), some (.int (nI x))] [] S2 Q) : xr scr (d + 21) xc_257 516 [some (.ref 1000002), some (.ref 0), some (.ref 58), some (.int (nI x))] [] (wS, I, J, wP t dr G) Q := by
  have hv : ∀ k, 1 ≤ k → k < 6 → vp_in (nI x + nI k) scr.1 := fun k _ hk => by rw [nI_add]; exact vp_in_nI (by omega) (by omega)
  rw [xs_257_516]
  refine xr_wI (by rfl) (k_ends (d := d) H) (fun u S1 h => ?_)
  obtain ⟨w, I1, J1, t1, dr1, G1, -, hw, rfl, h2⟩ := h
  cases hw
  simp only [Option.toList_some, Option.toList_none, List.cons_append, List.nil_append, List.append_nil]
  rw [xs_257_518]
  refine xr_w h2 (fun r S2 h3 => ?_)
  obtain ⟨rfl, I2, J2, t2, dr2, G2, T2, v2, bk2, pre2, ss2, rfl, H2⟩ := h3
  simp only [Option.toList_some, Option.toList_none, List.cons_append, List.nil_append, List.append_nil]
  rw [xs_257_520, if_pos rfl]
  exact hq _ (PST_i H2)
theorem xl_23 (H : INV I J t dr G T v bk pre ss) (hx : x + 6 ≤ scr.1) (hL : scr.1 ≤ 3072) (hq : ∀ S2, PST S2 → xr scr (d + 21) xc_257 1129 [some (.ref 1000002), some (.ref 0), some (.ref 58), some (.int (nI x))] [] S2 Q) : xr scr (d + 21) xc_257 523 [some (.ref 1000002), some (.ref 0), some (.ref 58), some (.int (nI x))] [] (wS, I, J, wP t dr G) Q := by
  have hv : ∀ k, 1 ≤ k → k < 6 → vp_in (nI x + nI k) scr.1 := fun k _ hk => by rw [nI_add]; exact vp_in_nI (by omega) (by omega)
  rw [xs_257_523 (hv 1 (by decide) (by decide))]
  refine xr_wI (by rfl) (k_keep (d := d) H) (fun u S1 h => ?_)
  obtain ⟨w, I1, J1, t1, dr1, G1, -, hw, rfl, h2⟩ := h
  cases hw
  simp only [Option.toList_some, Option.toList_none, List.cons_append, List.nil_append, List.append_nil]
  rw [xs_257_530 (hv 1 (by decide) (by decide))]
  refine xr_w h2 (fun r S2 h3 => ?_)
  obtain ⟨rfl, I2, J2, t2, dr2, G2, T2, v2, bk2, pre2, ss2, rfl, H2⟩ := h3
  simp only [Option.toList_some, Option.toList_none, List.cons_append, List.nil_append, List.append_nil]
  rw [xs_257_537, if_pos rfl]
  exact hq _ (PST_i H2)
theorem xl_24 (H : INV I J t dr G T v bk pre ss) (hx : x + 6 ≤ scr.1) (hL : scr.1 ≤ 3072) (hq : ∀ S2, PST S2 → xr scr (d + 21) xc_257 1129 [some (.ref 1000002), some (.ref 0), some (.ref 58), some (.int (nI x))] [] S2 Q) : xr scr (d + 21) xc_257 540 [some (.ref 1000002), some (.ref 0), some (.ref 58), some (.int (nI x))] [] (wS, I, J, wP t dr G) Q := by
  have hv : ∀ k, 1 ≤ k → k < 6 → vp_in (nI x + nI k) scr.1 := fun k _ hk => by rw [nI_add]; exact vp_in_nI (by omega) (by omega)
  rw [xs_257_540 (hv 1 (by decide) (by decide))]
  refine xr_wI (by rfl) (k_on (d := d) H) (fun u S1 h => ?_)
  obtain ⟨w, I1, J1, t1, dr1, G1, -, hw, rfl, h2⟩ := h
  cases hw
  simp only [Option.toList_some, Option.toList_none, List.cons_append, List.nil_append, List.append_nil]
  rw [xs_257_547 (hv 1 (by decide) (by decide))]
  refine xr_w h2 (fun r S2 h3 => ?_)
  obtain ⟨rfl, I2, J2, t2, dr2, G2, T2, v2, bk2, pre2, ss2, rfl, H2⟩ := h3
  simp only [Option.toList_some, Option.toList_none, List.cons_append, List.nil_append, List.append_nil]
  rw [xs_257_554, if_pos rfl]
  exact hq _ (PST_i H2)
theorem xl_25 (H : INV I J t dr G T v bk pre ss) (hx : x + 6 ≤ scr.1) (hL : scr.1 ≤ 3072) (hq : ∀ S2, PST S2 → xr scr (d + 21) xc_257 1129 [some (.ref 1000002), some (.ref 0), some (.ref 58), some (.int (nI x))] [] S2 Q) : xr scr (d + 21) xc_257 557 [some (.ref 1000002), some (.ref 0), some (.ref 58), some (.int (nI x))] [] (wS, I, J, wP t dr G) Q := by
  have hv : ∀ k, 1 ≤ k → k < 6 → vp_in (nI x + nI k) scr.1 := fun k _ hk => by rw [nI_add]; exact vp_in_nI (by omega) (by omega)
  rw [xs_257_557 (hv 1 (by decide) (by decide))]
  refine xr_wI (by rfl) (k_judge (d := d) H) (fun u S1 h => ?_)
  obtain ⟨w, I1, J1, t1, dr1, G1, -, hw, rfl, h2⟩ := h
  cases hw
  simp only [Option.toList_some, Option.toList_none, List.cons_append, List.nil_append, List.append_nil]
  rw [xs_257_564 (hv 1 (by decide) (by decide))]
  refine xr_w h2 (fun r S2 h3 => ?_)
  obtain ⟨rfl, I2, J2, t2, dr2, G2, T2, v2, bk2, pre2, ss2, rfl, H2⟩ := h3
  simp only [Option.toList_some, Option.toList_none, List.cons_append, List.nil_append, List.append_nil]
  rw [xs_257_571, if_pos rfl]
  exact hq _ (PST_i H2)
theorem xl_26 (H : INV I J t dr G T v bk pre ss) (hx : x + 6 ≤ scr.1) (hL : scr.1 ≤ 3072) (hq : ∀ S2, PST S2 → xr scr (d + 21) xc_257 1129 [some (.ref 1000002), some (.ref 0), some (.ref 58), some (.int (nI x))] [] S2 Q) : xr scr (d + 21) xc_257 574 [some (.ref 1000002), some (.ref 0), some (.ref 58), some (.int (nI x))] [] (wS, I, J, wP t dr G) Q := by
  have hv : ∀ k, 1 ≤ k → k < 6 → vp_in (nI x + nI k) scr.1 := fun k _ hk => by rw [nI_add]; exact vp_in_nI (by omega) (by omega)
  rw [xs_257_574 (hv 1 (by decide) (by decide)) (hv 2 (by decide) (by decide))]
  refine xr_wI (by rfl) (k_ways (d := d) H) (fun u S1 h => ?_)
  obtain ⟨w, I1, J1, t1, dr1, G1, -, hw, rfl, h2⟩ := h
  cases hw
  simp only [Option.toList_some, Option.toList_none, List.cons_append, List.nil_append, List.append_nil]
  rw [xs_257_586 (hv 1 (by decide) (by decide)) (hv 2 (by decide) (by decide))]
  refine xr_w h2 (fun r S2 h3 => ?_)
  obtain ⟨rfl, I2, J2, t2, dr2, G2, T2, v2, bk2, pre2, ss2, rfl, H2⟩ := h3
  simp only [Option.toList_some, Option.toList_none, List.cons_append, List.nil_append, List.append_nil]
  rw [xs_257_598, if_pos rfl]
  exact hq _ (PST_i H2)
theorem xl_27 (H : INV I J t dr G T v bk pre ss) (hx : x + 6 ≤ scr.1) (hL : scr.1 ≤ 3072) (hq : ∀ S2, PST S2 → xr scr (d + 21) xc_257 1129 [some (.ref 1000002), some (.ref 0), some (.ref 58), some (.int (nI x))] [] S2 Q) : xr scr (d + 21) xc_257 601 [some (.ref 1000002), some (.ref 0), some (.ref 58), some (.int (nI x))] [] (wS, I, J, wP t dr G) Q := by
  have hv : ∀ k, 1 ≤ k → k < 6 → vp_in (nI x + nI k) scr.1 := fun k _ hk => by rw [nI_add]; exact vp_in_nI (by omega) (by omega)
  rw [xs_257_601 (hv 1 (by decide) (by decide)) (hv 2 (by decide) (by decide)) (hv 3 (by decide) (by decide))]
  refine xr_wI (by rfl) (k_way (d := d) H) (fun u S1 h => ?_)
  obtain ⟨w, I1, J1, t1, dr1, G1, -, hw, rfl, h2⟩ := h
  cases hw
  simp only [Option.toList_some, Option.toList_none, List.cons_append, List.nil_append, List.append_nil]
  rw [xs_257_618 (hv 1 (by decide) (by decide)) (hv 2 (by decide) (by decide)) (hv 3 (by decide) (by decide))]
  refine xr_w h2 (fun r S2 h3 => ?_)
  obtain ⟨rfl, I2, J2, t2, dr2, G2, T2, v2, bk2, pre2, ss2, rfl, H2⟩ := h3
  simp only [Option.toList_some, Option.toList_none, List.cons_append, List.nil_append, List.append_nil]
  rw [xs_257_635, if_pos rfl]
  exact hq _ (PST_i H2)
theorem xl_28 (H : INV I J t dr G T v bk pre ss) (hx : x + 6 ≤ scr.1) (hL : scr.1 ≤ 3072) (hq : ∀ S2, PST S2 → xr scr (d + 21) xc_257 1129 [some (.ref 1000002), some (.ref 0), some (.ref 58), some (.int (nI x))] [] S2 Q) : xr scr (d + 21) xc_257 638 [some (.ref 1000002), some (.ref 0), some (.ref 58), some (.int (nI x))] [] (wS, I, J, wP t dr G) Q := by
  have hv : ∀ k, 1 ≤ k → k < 6 → vp_in (nI x + nI k) scr.1 := fun k _ hk => by rw [nI_add]; exact vp_in_nI (by omega) (by omega)
  rw [xs_257_638 (hv 1 (by decide) (by decide)) (hv 2 (by decide) (by decide))]
  refine xr_wI (by rfl) (k_bars (d := d) H) (fun u S1 h => ?_)
  obtain ⟨w, I1, J1, t1, dr1, G1, -, hw, rfl, h2⟩ := h
  cases hw
  simp only [Option.toList_some, Option.toList_none, List.cons_append, List.nil_append, List.append_nil]
  rw [xs_257_650 (hv 1 (by decide) (by decide)) (hv 2 (by decide) (by decide))]
  refine xr_w h2 (fun r S2 h3 => ?_)
  obtain ⟨rfl, I2, J2, t2, dr2, G2, T2, v2, bk2, pre2, ss2, rfl, H2⟩ := h3
  simp only [Option.toList_some, Option.toList_none, List.cons_append, List.nil_append, List.append_nil]
  rw [xs_257_662, if_pos rfl]
  exact hq _ (PST_i H2)
theorem xl_29 (H : INV I J t dr G T v bk pre ss) (hx : x + 6 ≤ scr.1) (hL : scr.1 ≤ 3072) (hq : ∀ S2, PST S2 → xr scr (d + 21) xc_257 1129 [some (.ref 1000002), some (.ref 0), some (.ref 58), some (.int (nI x))] [] S2 Q) : xr scr (d + 21) xc_257 665 [some (.ref 1000002), some (.ref 0), some (.ref 58), some (.int (nI x))] [] (wS, I, J, wP t dr G) Q := by
  have hv : ∀ k, 1 ≤ k → k < 6 → vp_in (nI x + nI k) scr.1 := fun k _ hk => by rw [nI_add]; exact vp_in_nI (by omega) (by omega)
  rw [xs_257_665 (hv 1 (by decide) (by decide)) (hv 2 (by decide) (by decide))]
  refine xr_wI (by rfl) (k_least (d := d) H) (fun u S1 h => ?_)
  obtain ⟨w, I1, J1, t1, dr1, G1, -, hw, rfl, h2⟩ := h
  cases hw
  simp only [Option.toList_some, Option.toList_none, List.cons_append, List.nil_append, List.append_nil]
  rw [xs_257_677 (hv 1 (by decide) (by decide)) (hv 2 (by decide) (by decide))]
  refine xr_w h2 (fun r S2 h3 => ?_)
  obtain ⟨rfl, I2, J2, t2, dr2, G2, T2, v2, bk2, pre2, ss2, rfl, H2⟩ := h3
  simp only [Option.toList_some, Option.toList_none, List.cons_append, List.nil_append, List.append_nil]
  rw [xs_257_689, if_pos rfl]
  exact hq _ (PST_i H2)
theorem xl_30 (H : INV I J t dr G T v bk pre ss) (hx : x + 6 ≤ scr.1) (hL : scr.1 ≤ 3072) (hq : ∀ S2, PST S2 → xr scr (d + 21) xc_257 1129 [some (.ref 1000002), some (.ref 0), some (.ref 58), some (.int (nI x))] [] S2 Q) : xr scr (d + 21) xc_257 692 [some (.ref 1000002), some (.ref 0), some (.ref 58), some (.int (nI x))] [] (wS, I, J, wP t dr G) Q := by
  have hv : ∀ k, 1 ≤ k → k < 6 → vp_in (nI x + nI k) scr.1 := fun k _ hk => by rw [nI_add]; exact vp_in_nI (by omega) (by omega)
  rw [xs_257_692 (hv 1 (by decide) (by decide)) (hv 2 (by decide) (by decide))]
  refine xr_wI (by rfl) (k_worth (d := d) H) (fun u S1 h => ?_)
  obtain ⟨w, I1, J1, t1, dr1, G1, -, hw, rfl, h2⟩ := h
  cases hw
  simp only [Option.toList_some, Option.toList_none, List.cons_append, List.nil_append, List.append_nil]
  rw [xs_257_704 (hv 1 (by decide) (by decide)) (hv 2 (by decide) (by decide))]
  refine xr_w h2 (fun r S2 h3 => ?_)
  obtain ⟨rfl, I2, J2, t2, dr2, G2, T2, v2, bk2, pre2, ss2, rfl, H2⟩ := h3
  simp only [Option.toList_some, Option.toList_none, List.cons_append, List.nil_append, List.append_nil]
  rw [xs_257_716, if_pos rfl]
  exact hq _ (PST_i H2)
theorem xl_31 (H : INV I J t dr G T v bk pre ss) (hx : x + 6 ≤ scr.1) (hL : scr.1 ≤ 3072) (hq : ∀ S2, PST S2 → xr scr (d + 21) xc_257 1129 [some (.ref 1000002), some (.ref 0), some (.ref 58), some (.int (nI x))] [] S2 Q) : xr scr (d + 21) xc_257 719 [some (.ref 1000002), some (.ref 0), some (.ref 58), some (.int (nI x))] [] (wS, I, J, wP t dr G) Q := by
  have hv : ∀ k, 1 ≤ k → k < 6 → vp_in (nI x + nI k) scr.1 := fun k _ hk => by rw [nI_add]; exact vp_in_nI (by omega) (by omega)
  rw [xs_257_719 (hv 1 (by decide) (by decide))]
  refine xr_wI (by rfl) (k_best (d := d) H) (fun u S1 h => ?_)
  obtain ⟨w, I1, J1, t1, dr1, G1, -, hw, rfl, h2⟩ := h
  cases hw
  simp only [Option.toList_some, Option.toList_none, List.cons_append, List.nil_append, List.append_nil]
  rw [xs_257_726 (hv 1 (by decide) (by decide))]
  refine xr_w h2 (fun r S2 h3 => ?_)
  obtain ⟨rfl, I2, J2, t2, dr2, G2, T2, v2, bk2, pre2, ss2, rfl, H2⟩ := h3
  simp only [Option.toList_some, Option.toList_none, List.cons_append, List.nil_append, List.append_nil]
  rw [xs_257_733, if_pos rfl]
  exact hq _ (PST_i H2)
theorem xl_32 (H : INV I J t dr G T v bk pre ss) (hx : x + 6 ≤ scr.1) (hL : scr.1 ≤ 3072) (hq : ∀ S2, PST S2 → xr scr (d + 21) xc_257 1129 [some (.ref 1000002), some (.ref 0), some (.ref 58), some (.int (nI x))] [] S2 Q) : xr scr (d + 21) xc_257 736 [some (.ref 1000002), some (.ref 0), some (.ref 58), some (.int (nI x))] [] (wS, I, J, wP t dr G) Q := by
  have hv : ∀ k, 1 ≤ k → k < 6 → vp_in (nI x + nI k) scr.1 := fun k _ hk => by rw [nI_add]; exact vp_in_nI (by omega) (by omega)
  rw [xs_257_736 (hv 1 (by decide) (by decide)) (hv 2 (by decide) (by decide))]
  refine xr_wI (by rfl) (k_keeps (d := d) H) (fun u S1 h => ?_)
  obtain ⟨w, I1, J1, t1, dr1, G1, -, hw, rfl, h2⟩ := h
  cases hw
  simp only [Option.toList_some, Option.toList_none, List.cons_append, List.nil_append, List.append_nil]
  rw [xs_257_748 (hv 1 (by decide) (by decide)) (hv 2 (by decide) (by decide))]
  refine xr_w h2 (fun r S2 h3 => ?_)
  obtain ⟨rfl, I2, J2, t2, dr2, G2, T2, v2, bk2, pre2, ss2, rfl, H2⟩ := h3
  simp only [Option.toList_some, Option.toList_none, List.cons_append, List.nil_append, List.append_nil]
  rw [xs_257_760, if_pos rfl]
  exact hq _ (PST_i H2)
theorem xl_33 (H : INV I J t dr G T v bk pre ss) (hx : x + 6 ≤ scr.1) (hL : scr.1 ≤ 3072) (hq : ∀ S2, PST S2 → xr scr (d + 21) xc_257 1129 [some (.ref 1000002), some (.ref 0), some (.ref 58), some (.int (nI x))] [] S2 Q) : xr scr (d + 21) xc_257 763 [some (.ref 1000002), some (.ref 0), some (.ref 58), some (.int (nI x))] [] (wS, I, J, wP t dr G) Q := by
  have hv : ∀ k, 1 ≤ k → k < 6 → vp_in (nI x + nI k) scr.1 := fun k _ hk => by rw [nI_add]; exact vp_in_nI (by omega) (by omega)
  rw [xs_257_763 (hv 1 (by decide) (by decide))]
  refine xr_wI (by rfl) (k_fewest (d := d) H) (fun u S1 h => ?_)
  obtain ⟨w, I1, J1, t1, dr1, G1, -, hw, rfl, h2⟩ := h
  cases hw
  simp only [Option.toList_some, Option.toList_none, List.cons_append, List.nil_append, List.append_nil]
  rw [xs_257_770 (hv 1 (by decide) (by decide))]
  refine xr_w h2 (fun r S2 h3 => ?_)
  obtain ⟨rfl, I2, J2, t2, dr2, G2, T2, v2, bk2, pre2, ss2, rfl, H2⟩ := h3
  simp only [Option.toList_some, Option.toList_none, List.cons_append, List.nil_append, List.append_nil]
  rw [xs_257_777, if_pos rfl]
  exact hq _ (PST_i H2)
theorem xl_34 (H : INV I J t dr G T v bk pre ss) (hx : x + 6 ≤ scr.1) (hL : scr.1 ≤ 3072) (hq : ∀ S2, PST S2 → xr scr (d + 21) xc_257 1129 [some (.ref 1000002), some (.ref 0), some (.ref 58), some (.int (nI x))] [] S2 Q) : xr scr (d + 21) xc_257 780 [some (.ref 1000002), some (.ref 0), some (.ref 58), some (.int (nI x))] [] (wS, I, J, wP t dr G) Q := by
  have hv : ∀ k, 1 ≤ k → k < 6 → vp_in (nI x + nI k) scr.1 := fun k _ hk => by rw [nI_add]; exact vp_in_nI (by omega) (by omega)
  rw [xs_257_780 (hv 1 (by decide) (by decide)) (hv 2 (by decide) (by decide))]
  refine xr_wI (by rfl) (k_leaves (d := d) H) (fun u S1 h => ?_)
  obtain ⟨w, I1, J1, t1, dr1, G1, -, hw, rfl, h2⟩ := h
  cases hw
  simp only [Option.toList_some, Option.toList_none, List.cons_append, List.nil_append, List.append_nil]
  rw [xs_257_792 (hv 1 (by decide) (by decide)) (hv 2 (by decide) (by decide))]
  refine xr_w h2 (fun r S2 h3 => ?_)
  obtain ⟨rfl, I2, J2, t2, dr2, G2, T2, v2, bk2, pre2, ss2, rfl, H2⟩ := h3
  simp only [Option.toList_some, Option.toList_none, List.cons_append, List.nil_append, List.append_nil]
  rw [xs_257_804, if_pos rfl]
  exact hq _ (PST_i H2)
theorem xl_35 (H : INV I J t dr G T v bk pre ss) (hx : x + 6 ≤ scr.1) (hL : scr.1 ≤ 3072) (hq : ∀ S2, PST S2 → xr scr (d + 21) xc_257 1129 [some (.ref 1000002), some (.ref 0), some (.ref 58), some (.int (nI x))] [] S2 Q) : xr scr (d + 21) xc_257 807 [some (.ref 1000002), some (.ref 0), some (.ref 58), some (.int (nI x))] [] (wS, I, J, wP t dr G) Q := by
  have hv : ∀ k, 1 ≤ k → k < 6 → vp_in (nI x + nI k) scr.1 := fun k _ hk => by rw [nI_add]; exact vp_in_nI (by omega) (by omega)
  rw [xs_257_807 (hv 1 (by decide) (by decide)) (hv 2 (by decide) (by decide)) (hv 3 (by decide) (by decide))]
  refine xr_wI (by rfl) (k_sight (d := d) H) (fun u S1 h => ?_)
  obtain ⟨w, I1, J1, t1, dr1, G1, -, hw, rfl, h2⟩ := h
  cases hw
  simp only [Option.toList_some, Option.toList_none, List.cons_append, List.nil_append, List.append_nil]
  rw [xs_257_824 (hv 1 (by decide) (by decide)) (hv 2 (by decide) (by decide)) (hv 3 (by decide) (by decide))]
  refine xr_w h2 (fun r S2 h3 => ?_)
  obtain ⟨rfl, I2, J2, t2, dr2, G2, T2, v2, bk2, pre2, ss2, rfl, H2⟩ := h3
  simp only [Option.toList_some, Option.toList_none, List.cons_append, List.nil_append, List.append_nil]
  rw [xs_257_841, if_pos rfl]
  exact hq _ (PST_i H2)
theorem xl_36 (H : INV I J t dr G T v bk pre ss) (hx : x + 6 ≤ scr.1) (hL : scr.1 ≤ 3072) (hq : ∀ S2, PST S2 → xr scr (d + 21) xc_257 1129 [some (.ref 1000002), some (.ref 0), some (.ref 58), some (.int (nI x))] [] S2 Q) : xr scr (d + 21) xc_257 844 [some (.ref 1000002), some (.ref 0), some (.ref 58), some (.int (nI x))] [] (wS, I, J, wP t dr G) Q := by
  have hv : ∀ k, 1 ≤ k → k < 6 → vp_in (nI x + nI k) scr.1 := fun k _ hk => by rw [nI_add]; exact vp_in_nI (by omega) (by omega)
  rw [xs_257_844 (hv 1 (by decide) (by decide))]
  refine xr_wI (by rfl) (k_forget (d := d) H) (fun u S1 h => ?_)
  obtain ⟨w, I1, J1, t1, dr1, G1, -, hw, rfl, h2⟩ := h
  cases hw
  simp only [Option.toList_some, Option.toList_none, List.cons_append, List.nil_append, List.append_nil]
  rw [xs_257_851 (hv 1 (by decide) (by decide))]
  refine xr_w h2 (fun r S2 h3 => ?_)
  obtain ⟨rfl, I2, J2, t2, dr2, G2, T2, v2, bk2, pre2, ss2, rfl, H2⟩ := h3
  simp only [Option.toList_some, Option.toList_none, List.cons_append, List.nil_append, List.append_nil]
  rw [xs_257_858, if_pos rfl]
  exact hq _ (PST_i H2)
theorem xl_37 (H : INV I J t dr G T v bk pre ss) (hx : x + 6 ≤ scr.1) (hL : scr.1 ≤ 3072) (hq : ∀ S2, PST S2 → xr scr (d + 21) xc_257 1129 [some (.ref 1000002), some (.ref 0), some (.ref 58), some (.int (nI x))] [] S2 Q) : xr scr (d + 21) xc_257 861 [some (.ref 1000002), some (.ref 0), some (.ref 58), some (.int (nI x))] [] (wS, I, J, wP t dr G) Q := by
  have hv : ∀ k, 1 ≤ k → k < 6 → vp_in (nI x + nI k) scr.1 := fun k _ hk => by rw [nI_add]; exact vp_in_nI (by omega) (by omega)
  rw [xs_257_861]
  refine xr_wI (by rfl) (k_fits (d := d) H) (fun u S1 h => ?_)
  obtain ⟨w, I1, J1, t1, dr1, G1, -, hw, rfl, h2⟩ := h
  cases hw
  simp only [Option.toList_some, Option.toList_none, List.cons_append, List.nil_append, List.append_nil]
  rw [xs_257_863]
  refine xr_w h2 (fun r S2 h3 => ?_)
  obtain ⟨rfl, I2, J2, t2, dr2, G2, T2, v2, bk2, pre2, ss2, rfl, H2⟩ := h3
  simp only [Option.toList_some, Option.toList_none, List.cons_append, List.nil_append, List.append_nil]
  rw [xs_257_865, if_pos rfl]
  exact hq _ (PST_i H2)
theorem xl_38 (H : INV I J t dr G T v bk pre ss) (hx : x + 6 ≤ scr.1) (hL : scr.1 ≤ 3072) (hq : ∀ S2, PST S2 → xr scr (d + 21) xc_257 1129 [some (.ref 1000002), some (.ref 0), some (.ref 58), some (.int (nI x))] [] S2 Q) : xr scr (d + 21) xc_257 868 [some (.ref 1000002), some (.ref 0), some (.ref 58), some (.int (nI x))] [] (wS, I, J, wP t dr G) Q := by
  have hv : ∀ k, 1 ≤ k → k < 6 → vp_in (nI x + nI k) scr.1 := fun k _ hk => by rw [nI_add]; exact vp_in_nI (by omega) (by omega)
  rw [xs_257_868 (hv 1 (by decide) (by decide))]
  refine xr_wI (by rfl) (k_where (d := d) H) (fun u S1 h => ?_)
  obtain ⟨w, I1, J1, t1, dr1, G1, -, hw, rfl, h2⟩ := h
  cases hw
  simp only [Option.toList_some, Option.toList_none, List.cons_append, List.nil_append, List.append_nil]
  rw [xs_257_875 (hv 1 (by decide) (by decide))]
  refine xr_w h2 (fun r S2 h3 => ?_)
  obtain ⟨rfl, I2, J2, t2, dr2, G2, T2, v2, bk2, pre2, ss2, rfl, H2⟩ := h3
  simp only [Option.toList_some, Option.toList_none, List.cons_append, List.nil_append, List.append_nil]
  rw [xs_257_882, if_pos rfl]
  exact hq _ (PST_i H2)
theorem xl_39 (H : INV I J t dr G T v bk pre ss) (hx : x + 6 ≤ scr.1) (hL : scr.1 ≤ 3072) (hq : ∀ S2, PST S2 → xr scr (d + 21) xc_257 1129 [some (.ref 1000002), some (.ref 0), some (.ref 58), some (.int (nI x))] [] S2 Q) : xr scr (d + 21) xc_257 885 [some (.ref 1000002), some (.ref 0), some (.ref 58), some (.int (nI x))] [] (wS, I, J, wP t dr G) Q := by
  have hv : ∀ k, 1 ≤ k → k < 6 → vp_in (nI x + nI k) scr.1 := fun k _ hk => by rw [nI_add]; exact vp_in_nI (by omega) (by omega)
  rw [xs_257_885 (hv 1 (by decide) (by decide))]
  refine xr_wI (by rfl) (k_ask (d := d) H) (fun u S1 h => ?_)
  obtain ⟨w, I1, J1, t1, dr1, G1, -, hw, rfl, h2⟩ := h
  cases hw
  simp only [Option.toList_some, Option.toList_none, List.cons_append, List.nil_append, List.append_nil]
  rw [xs_257_892 (hv 1 (by decide) (by decide))]
  refine xr_w h2 (fun r S2 h3 => ?_)
  obtain ⟨rfl, I2, J2, t2, dr2, G2, T2, v2, bk2, pre2, ss2, rfl, H2⟩ := h3
  simp only [Option.toList_some, Option.toList_none, List.cons_append, List.nil_append, List.append_nil]
  rw [xs_257_899, if_pos rfl]
  exact hq _ (PST_i H2)
theorem xl_40 (H : INV I J t dr G T v bk pre ss) (hx : x + 6 ≤ scr.1) (hL : scr.1 ≤ 3072) (hq : ∀ S2, PST S2 → xr scr (d + 21) xc_257 1129 [some (.ref 1000002), some (.ref 0), some (.ref 58), some (.int (nI x))] [] S2 Q) : xr scr (d + 21) xc_257 902 [some (.ref 1000002), some (.ref 0), some (.ref 58), some (.int (nI x))] [] (wS, I, J, wP t dr G) Q := by
  have hv : ∀ k, 1 ≤ k → k < 6 → vp_in (nI x + nI k) scr.1 := fun k _ hk => by rw [nI_add]; exact vp_in_nI (by omega) (by omega)
  rw [xs_257_902 (hv 1 (by decide) (by decide)) (hv 2 (by decide) (by decide)) (hv 3 (by decide) (by decide))]
  refine xr_wI (by rfl) (k_odds (d := d) H) (fun u S1 h => ?_)
  obtain ⟨w, I1, J1, t1, dr1, G1, -, hw, rfl, h2⟩ := h
  cases hw
  simp only [Option.toList_some, Option.toList_none, List.cons_append, List.nil_append, List.append_nil]
  rw [xs_257_919 (hv 1 (by decide) (by decide)) (hv 2 (by decide) (by decide)) (hv 3 (by decide) (by decide))]
  refine xr_w h2 (fun r S2 h3 => ?_)
  obtain ⟨rfl, I2, J2, t2, dr2, G2, T2, v2, bk2, pre2, ss2, rfl, H2⟩ := h3
  simp only [Option.toList_some, Option.toList_none, List.cons_append, List.nil_append, List.append_nil]
  rw [xs_257_936, if_pos rfl]
  exact hq _ (PST_i H2)
theorem xl_41 (H : INV I J t dr G T v bk pre ss) (hx : x + 6 ≤ scr.1) (hL : scr.1 ≤ 3072) (hq : ∀ S2, PST S2 → xr scr (d + 21) xc_257 1129 [some (.ref 1000002), some (.ref 0), some (.ref 58), some (.int (nI x))] [] S2 Q) : xr scr (d + 21) xc_257 939 [some (.ref 1000002), some (.ref 0), some (.ref 58), some (.int (nI x))] [] (wS, I, J, wP t dr G) Q := by
  have hv : ∀ k, 1 ≤ k → k < 6 → vp_in (nI x + nI k) scr.1 := fun k _ hk => by rw [nI_add]; exact vp_in_nI (by omega) (by omega)
  rw [xs_257_939 (hv 1 (by decide) (by decide)) (hv 2 (by decide) (by decide))]
  refine xr_wI (by rfl) (k_lost (d := d) H) (fun u S1 h => ?_)
  obtain ⟨w, I1, J1, t1, dr1, G1, -, hw, rfl, h2⟩ := h
  cases hw
  simp only [Option.toList_some, Option.toList_none, List.cons_append, List.nil_append, List.append_nil]
  rw [xs_257_951 (hv 1 (by decide) (by decide)) (hv 2 (by decide) (by decide))]
  refine xr_w h2 (fun r S2 h3 => ?_)
  obtain ⟨rfl, I2, J2, t2, dr2, G2, T2, v2, bk2, pre2, ss2, rfl, H2⟩ := h3
  simp only [Option.toList_some, Option.toList_none, List.cons_append, List.nil_append, List.append_nil]
  rw [xs_257_963, if_pos rfl]
  exact hq _ (PST_i H2)
theorem xl_42 (H : INV I J t dr G T v bk pre ss) (hx : x + 6 ≤ scr.1) (hL : scr.1 ≤ 3072) (hq : ∀ S2, PST S2 → xr scr (d + 21) xc_257 1129 [some (.ref 1000002), some (.ref 0), some (.ref 58), some (.int (nI x))] [] S2 Q) : xr scr (d + 21) xc_257 966 [some (.ref 1000002), some (.ref 0), some (.ref 58), some (.int (nI x))] [] (wS, I, J, wP t dr G) Q := by
  have hv : ∀ k, 1 ≤ k → k < 6 → vp_in (nI x + nI k) scr.1 := fun k _ hk => by rw [nI_add]; exact vp_in_nI (by omega) (by omega)
  rw [xs_257_966 (hv 1 (by decide) (by decide)) (hv 2 (by decide) (by decide)) (hv 3 (by decide) (by decide))]
  refine xr_wI (by rfl) (k_send (d := d) H) (fun u S1 h => ?_)
  obtain ⟨w, I1, J1, t1, dr1, G1, -, hw, rfl, h2⟩ := h
  cases hw
  simp only [Option.toList_some, Option.toList_none, List.cons_append, List.nil_append, List.append_nil]
  rw [xs_257_983 (hv 1 (by decide) (by decide)) (hv 2 (by decide) (by decide)) (hv 3 (by decide) (by decide))]
  refine xr_w h2 (fun r S2 h3 => ?_)
  obtain ⟨rfl, I2, J2, t2, dr2, G2, T2, v2, bk2, pre2, ss2, rfl, H2⟩ := h3
  simp only [Option.toList_some, Option.toList_none, List.cons_append, List.nil_append, List.append_nil]
  rw [xs_257_1000, if_pos rfl]
  exact hq _ (PST_i H2)
theorem xl_43 (H : INV I J t dr G T v bk pre ss) (hx : x + 6 ≤ scr.1) (hL : scr.1 ≤ 3072) (hq : ∀ S2, PST S2 → xr scr (d + 21) xc_257 1129 [some (.ref 1000002), some (.ref 0), some (.ref 58), some (.int (nI x))] [] S2 Q) : xr scr (d + 21) xc_257 1003 [some (.ref 1000002), some (.ref 0), some (.ref 58), some (.int (nI x))] [] (wS, I, J, wP t dr G) Q := by
  have hv : ∀ k, 1 ≤ k → k < 6 → vp_in (nI x + nI k) scr.1 := fun k _ hk => by rw [nI_add]; exact vp_in_nI (by omega) (by omega)
  rw [xs_257_1003 (hv 1 (by decide) (by decide)) (hv 2 (by decide) (by decide))]
  refine xr_wI (by rfl) (k_two (d := d) H) (fun u S1 h => ?_)
  obtain ⟨w, I1, J1, t1, dr1, G1, -, hw, rfl, h2⟩ := h
  cases hw
  simp only [Option.toList_some, Option.toList_none, List.cons_append, List.nil_append, List.append_nil]
  rw [xs_257_1015 (hv 1 (by decide) (by decide)) (hv 2 (by decide) (by decide))]
  refine xr_w h2 (fun r S2 h3 => ?_)
  obtain ⟨rfl, I2, J2, t2, dr2, G2, T2, v2, bk2, pre2, ss2, rfl, H2⟩ := h3
  simp only [Option.toList_some, Option.toList_none, List.cons_append, List.nil_append, List.append_nil]
  rw [xs_257_1027, if_pos rfl]
  exact hq _ (PST_i H2)
theorem xl_44 (H : INV I J t dr G T v bk pre ss) (hx : x + 6 ≤ scr.1) (hL : scr.1 ≤ 3072) (hq : ∀ S2, PST S2 → xr scr (d + 21) xc_257 1129 [some (.ref 1000002), some (.ref 0), some (.ref 58), some (.int (nI x))] [] S2 Q) : xr scr (d + 21) xc_257 1030 [some (.ref 1000002), some (.ref 0), some (.ref 58), some (.int (nI x))] [] (wS, I, J, wP t dr G) Q := by
  have hv : ∀ k, 1 ≤ k → k < 6 → vp_in (nI x + nI k) scr.1 := fun k _ hk => by rw [nI_add]; exact vp_in_nI (by omega) (by omega)
  rw [xs_257_1030 (hv 1 (by decide) (by decide)) (hv 2 (by decide) (by decide))]
  refine xr_wI (by rfl) (k_lots (d := d) H) (fun u S1 h => ?_)
  obtain ⟨w, I1, J1, t1, dr1, G1, -, hw, rfl, h2⟩ := h
  cases hw
  simp only [Option.toList_some, Option.toList_none, List.cons_append, List.nil_append, List.append_nil]
  rw [xs_257_1042 (hv 1 (by decide) (by decide)) (hv 2 (by decide) (by decide))]
  refine xr_w h2 (fun r S2 h3 => ?_)
  obtain ⟨rfl, I2, J2, t2, dr2, G2, T2, v2, bk2, pre2, ss2, rfl, H2⟩ := h3
  simp only [Option.toList_some, Option.toList_none, List.cons_append, List.nil_append, List.append_nil]
  rw [xs_257_1054, if_pos rfl]
  exact hq _ (PST_i H2)
theorem xl_45 (H : INV I J t dr G T v bk pre ss) (hx : x + 6 ≤ scr.1) (hL : scr.1 ≤ 3072) (hq : ∀ S2, PST S2 → xr scr (d + 21) xc_257 1129 [some (.ref 1000002), some (.ref 0), some (.ref 58), some (.int (nI x))] [] S2 Q) : xr scr (d + 21) xc_257 1057 [some (.ref 1000002), some (.ref 0), some (.ref 58), some (.int (nI x))] [] (wS, I, J, wP t dr G) Q := by
  have hv : ∀ k, 1 ≤ k → k < 6 → vp_in (nI x + nI k) scr.1 := fun k _ hk => by rw [nI_add]; exact vp_in_nI (by omega) (by omega)
  rw [xs_257_1057]
  refine xr_wI (by rfl) (k_asked (d := d) H) (fun u S1 h => ?_)
  obtain ⟨w, I1, J1, t1, dr1, G1, -, hw, rfl, h2⟩ := h
  cases hw
  simp only [Option.toList_some, Option.toList_none, List.cons_append, List.nil_append, List.append_nil]
  rw [xs_257_1059]
  refine xr_w h2 (fun r S2 h3 => ?_)
  obtain ⟨rfl, I2, J2, t2, dr2, G2, T2, v2, bk2, pre2, ss2, rfl, H2⟩ := h3
  simp only [Option.toList_some, Option.toList_none, List.cons_append, List.nil_append, List.append_nil]
  rw [xs_257_1061, if_pos rfl]
  exact hq _ (PST_i H2)
theorem xl_46 (H : INV I J t dr G T v bk pre ss) (hx : x + 6 ≤ scr.1) (hL : scr.1 ≤ 3072) (hq : ∀ S2, PST S2 → xr scr (d + 21) xc_257 1129 [some (.ref 1000002), some (.ref 0), some (.ref 58), some (.int (nI x))] [] S2 Q) : xr scr (d + 21) xc_257 1064 [some (.ref 1000002), some (.ref 0), some (.ref 58), some (.int (nI x))] [] (wS, I, J, wP t dr G) Q := by
  have hv : ∀ k, 1 ≤ k → k < 6 → vp_in (nI x + nI k) scr.1 := fun k _ hk => by rw [nI_add]; exact vp_in_nI (by omega) (by omega)
  rw [xs_257_1064]
  refine xr_wJ (by rfl) (k_upper (d := d) H) (fun u S1 h => ?_)
  obtain ⟨w, I1, J1, t1, dr1, G1, -, hw, rfl, h2⟩ := h
  cases hw
  simp only [Option.toList_some, Option.toList_none, List.cons_append, List.nil_append, List.append_nil]
  rw [xs_257_1066]
  refine xr_w h2 (fun r S2 h3 => ?_)
  obtain ⟨rfl, I2, J2, t2, dr2, G2, T2, v2, bk2, pre2, ss2, rfl, H2⟩ := h3
  simp only [Option.toList_some, Option.toList_none, List.cons_append, List.nil_append, List.append_nil]
  rw [xs_257_1068, if_pos ((lg_cmp_eq u u).mpr rfl)]
  exact hq _ (PST_i H2)
theorem xl_47 (H : INV I J t dr G T v bk pre ss) (hx : x + 6 ≤ scr.1) (hL : scr.1 ≤ 3072) (hq : ∀ S2, PST S2 → xr scr (d + 21) xc_257 1129 [some (.ref 1000002), some (.ref 0), some (.ref 58), some (.int (nI x))] [] S2 Q) : xr scr (d + 21) xc_257 1072 [some (.ref 1000002), some (.ref 0), some (.ref 58), some (.int (nI x))] [] (wS, I, J, wP t dr G) Q := by
  have hv : ∀ k, 1 ≤ k → k < 6 → vp_in (nI x + nI k) scr.1 := fun k _ hk => by rw [nI_add]; exact vp_in_nI (by omega) (by omega)
  rw [xs_257_1072]
  refine xr_wJ (by rfl) (k_lower (d := d) H) (fun u S1 h => ?_)
  obtain ⟨w, I1, J1, t1, dr1, G1, -, hw, rfl, h2⟩ := h
  cases hw
  simp only [Option.toList_some, Option.toList_none, List.cons_append, List.nil_append, List.append_nil]
  rw [xs_257_1074]
  refine xr_w h2 (fun r S2 h3 => ?_)
  obtain ⟨rfl, I2, J2, t2, dr2, G2, T2, v2, bk2, pre2, ss2, rfl, H2⟩ := h3
  simp only [Option.toList_some, Option.toList_none, List.cons_append, List.nil_append, List.append_nil]
  rw [xs_257_1076, if_pos ((lg_cmp_eq u u).mpr rfl)]
  exact hq _ (PST_i H2)
theorem xl_48 (H : INV I J t dr G T v bk pre ss) (hx : x + 6 ≤ scr.1) (hL : scr.1 ≤ 3072) (hq : ∀ S2, PST S2 → xr scr (d + 21) xc_257 1129 [some (.ref 1000002), some (.ref 0), some (.ref 58), some (.int (nI x))] [] S2 Q) : xr scr (d + 21) xc_257 1080 [some (.ref 1000002), some (.ref 0), some (.ref 58), some (.int (nI x))] [] (wS, I, J, wP t dr G) Q := by
  have hv : ∀ k, 1 ≤ k → k < 6 → vp_in (nI x + nI k) scr.1 := fun k _ hk => by rw [nI_add]; exact vp_in_nI (by omega) (by omega)
  rw [xs_257_1080 (hv 1 (by decide) (by decide))]
  refine xr_wI (by rfl) (k_count (d := d) H) (fun u S1 h => ?_)
  obtain ⟨w, I1, J1, t1, dr1, G1, -, hw, rfl, h2⟩ := h
  cases hw
  simp only [Option.toList_some, Option.toList_none, List.cons_append, List.nil_append, List.append_nil]
  rw [xs_257_1087 (hv 1 (by decide) (by decide))]
  refine xr_w h2 (fun r S2 h3 => ?_)
  obtain ⟨rfl, I2, J2, t2, dr2, G2, T2, v2, bk2, pre2, ss2, rfl, H2⟩ := h3
  simp only [Option.toList_some, Option.toList_none, List.cons_append, List.nil_append, List.append_nil]
  rw [xs_257_1094, if_pos rfl]
  exact hq _ (PST_i H2)
theorem xl_49 (H : INV I J t dr G T v bk pre ss) (hx : x + 6 ≤ scr.1) (hL : scr.1 ≤ 3072) (hq : ∀ S2, PST S2 → xr scr (d + 21) xc_257 1129 [some (.ref 1000002), some (.ref 0), some (.ref 58), some (.int (nI x))] [] S2 Q) : xr scr (d + 21) xc_257 1097 [some (.ref 1000002), some (.ref 0), some (.ref 58), some (.int (nI x))] [] (wS, I, J, wP t dr G) Q := by
  have hv : ∀ k, 1 ≤ k → k < 6 → vp_in (nI x + nI k) scr.1 := fun k _ hk => by rw [nI_add]; exact vp_in_nI (by omega) (by omega)
  rw [xs_257_1097]
  refine xr_wI (by rfl) (k_finding (d := d) H) (fun u S1 h => ?_)
  obtain ⟨w, I1, J1, t1, dr1, G1, -, hw, rfl, h2⟩ := h
  cases hw
  simp only [Option.toList_some, Option.toList_none, List.cons_append, List.nil_append, List.append_nil]
  rw [xs_257_1099]
  refine xr_w h2 (fun r S2 h3 => ?_)
  obtain ⟨rfl, I2, J2, t2, dr2, G2, T2, v2, bk2, pre2, ss2, rfl, H2⟩ := h3
  simp only [Option.toList_some, Option.toList_none, List.cons_append, List.nil_append, List.append_nil]
  rw [xs_257_1101, if_pos rfl]
  exact hq _ (PST_i H2)
theorem xl_50 (H : INV I J t dr G T v bk pre ss) (hx : x + 6 ≤ scr.1) (hL : scr.1 ≤ 3072) (hq : ∀ S2, PST S2 → xr scr (d + 21) xc_257 1129 [some (.ref 1000002), some (.ref 0), some (.ref 58), some (.int (nI x))] [] S2 Q) : xr scr (d + 21) xc_257 1104 [some (.ref 1000002), some (.ref 0), some (.ref 58), some (.int (nI x))] [] (wS, I, J, wP t dr G) Q := by
  have hv : ∀ k, 1 ≤ k → k < 6 → vp_in (nI x + nI k) scr.1 := fun k _ hk => by rw [nI_add]; exact vp_in_nI (by omega) (by omega)
  rw [xs_257_1104 (hv 1 (by decide) (by decide))]
  refine xr_wI (by rfl) (k_findings (d := d) H) (fun u S1 h => ?_)
  obtain ⟨w, I1, J1, t1, dr1, G1, -, hw, rfl, h2⟩ := h
  cases hw
  simp only [Option.toList_some, Option.toList_none, List.cons_append, List.nil_append, List.append_nil]
  rw [xs_257_1111 (hv 1 (by decide) (by decide))]
  refine xr_w h2 (fun r S2 h3 => ?_)
  obtain ⟨rfl, I2, J2, t2, dr2, G2, T2, v2, bk2, pre2, ss2, rfl, H2⟩ := h3
  simp only [Option.toList_some, Option.toList_none, List.cons_append, List.nil_append, List.append_nil]
  rw [xs_257_1118, if_pos rfl]
  exact hq _ (PST_i H2)
theorem xl_51 (H : INV I J t dr G T v bk pre ss) (hx : x + 6 ≤ scr.1) (hL : scr.1 ≤ 3072) (hq : ∀ S2, PST S2 → xr scr (d + 21) xc_257 1129 [some (.ref 1000002), some (.ref 0), some (.ref 58), some (.int (nI x))] [] S2 Q) : xr scr (d + 21) xc_257 1121 [some (.ref 1000002), some (.ref 0), some (.ref 58), some (.int (nI x))] [] (wS, I, J, wP t dr G) Q := by
  have hv : ∀ k, 1 ≤ k → k < 6 → vp_in (nI x + nI k) scr.1 := fun k _ hk => by rw [nI_add]; exact vp_in_nI (by omega) (by omega)
  rw [xs_257_1121]
  refine xr_wJ (by rfl) (k_digest (d := d) H) (fun u S1 h => ?_)
  obtain ⟨w, I1, J1, t1, dr1, G1, -, hw, rfl, h2⟩ := h
  cases hw
  simp only [Option.toList_some, Option.toList_none, List.cons_append, List.nil_append, List.append_nil]
  rw [xs_257_1123]
  refine xr_w h2 (fun r S2 h3 => ?_)
  obtain ⟨rfl, I2, J2, t2, dr2, G2, T2, v2, bk2, pre2, ss2, rfl, H2⟩ := h3
  simp only [Option.toList_some, Option.toList_none, List.cons_append, List.nil_append, List.append_nil]
  rw [xs_257_1125, if_pos ((lg_cmp_eq u u).mpr rfl)]
  exact hq _ (PST_i H2)
theorem xl_sw (hx : x < scr.1) (hL : scr.1 ≤ 3072) : xr scr d xc_257 16 [some (.ref 1000002), some (.ref 0), some (.ref 58), some (.int (nI x))] [] (wS, I, J, wP t dr G) Q = xr scr d xc_257 21 [some (.ref 1000002), some (.ref 0), some (.ref 58), some (.int (nI x))] [.int (scr.2 (nI x).toNatClampNeg &&& 63)] (wS, I, J, wP t dr G) Q := Eq.trans (xr_aload_n rfl rfl) (Eq.trans (xr_iload_n rfl rfl) (Eq.trans (xr_sald rfl (vp_in_nI hx (by omega))) (Eq.trans (xr_bipush rfl) (xr_iand rfl))))
theorem xl_t0 : xr scr d xc_257 21 [some (.ref 1000002), some (.ref 0), some (.ref 58), some (.int (nI x))] [.int (nI 0)] (wS, I, J, wP t dr G) Q = xr scr d xc_257 22 [some (.ref 1000002), some (.ref 0), some (.ref 58), some (.int (nI x))] [] (wS, I, J, wP t dr G) Q := xr_tsw rfl (by decide) (by decide)
theorem xl_t1 : xr scr d xc_257 21 [some (.ref 1000002), some (.ref 0), some (.ref 58), some (.int (nI x))] [.int (nI 1)] (wS, I, J, wP t dr G) Q = xr scr d xc_257 49 [some (.ref 1000002), some (.ref 0), some (.ref 58), some (.int (nI x))] [] (wS, I, J, wP t dr G) Q := xr_tsw rfl (by decide) (by decide)
theorem xl_t2 : xr scr d xc_257 21 [some (.ref 1000002), some (.ref 0), some (.ref 58), some (.int (nI x))] [.int (nI 2)] (wS, I, J, wP t dr G) Q = xr scr d xc_257 86 [some (.ref 1000002), some (.ref 0), some (.ref 58), some (.int (nI x))] [] (wS, I, J, wP t dr G) Q := xr_tsw rfl (by decide) (by decide)
theorem xl_t3 : xr scr d xc_257 21 [some (.ref 1000002), some (.ref 0), some (.ref 58), some (.int (nI x))] [.int (nI 3)] (wS, I, J, wP t dr G) Q = xr scr d xc_257 113 [some (.ref 1000002), some (.ref 0), some (.ref 58), some (.int (nI x))] [] (wS, I, J, wP t dr G) Q := xr_tsw rfl (by decide) (by decide)
theorem xl_t4 : xr scr d xc_257 21 [some (.ref 1000002), some (.ref 0), some (.ref 58), some (.int (nI x))] [.int (nI 4)] (wS, I, J, wP t dr G) Q = xr scr d xc_257 130 [some (.ref 1000002), some (.ref 0), some (.ref 58), some (.int (nI x))] [] (wS, I, J, wP t dr G) Q := xr_tsw rfl (by decide) (by decide)
theorem xl_t5 : xr scr d xc_257 21 [some (.ref 1000002), some (.ref 0), some (.ref 58), some (.int (nI x))] [.int (nI 5)] (wS, I, J, wP t dr G) Q = xr scr d xc_257 187 [some (.ref 1000002), some (.ref 0), some (.ref 58), some (.int (nI x))] [] (wS, I, J, wP t dr G) Q := xr_tsw rfl (by decide) (by decide)
theorem xl_t6 : xr scr d xc_257 21 [some (.ref 1000002), some (.ref 0), some (.ref 58), some (.int (nI x))] [.int (nI 6)] (wS, I, J, wP t dr G) Q = xr scr d xc_257 204 [some (.ref 1000002), some (.ref 0), some (.ref 58), some (.int (nI x))] [] (wS, I, J, wP t dr G) Q := xr_tsw rfl (by decide) (by decide)
theorem xl_t7 : xr scr d xc_257 21 [some (.ref 1000002), some (.ref 0), some (.ref 58), some (.int (nI x))] [.int (nI 7)] (wS, I, J, wP t dr G) Q = xr scr d xc_257 231 [some (.ref 1000002), some (.ref 0), some (.ref 58), some (.int (nI x))] [] (wS, I, J, wP t dr G) Q := xr_tsw rfl (by decide) (by decide)
theorem xl_t8 : xr scr d xc_257 21 [some (.ref 1000002), some (.ref 0), some (.ref 58), some (.int (nI x))] [.int (nI 8)] (wS, I, J, wP t dr G) Q = xr scr d xc_257 268 [some (.ref 1000002), some (.ref 0), some (.ref 58), some (.int (nI x))] [] (wS, I, J, wP t dr G) Q := xr_tsw rfl (by decide) (by decide)
theorem xl_t9 : xr scr d xc_257 21 [some (.ref 1000002), some (.ref 0), some (.ref 58), some (.int (nI x))] [.int (nI 9)] (wS, I, J, wP t dr G) Q = xr scr d xc_257 285 [some (.ref 1000002), some (.ref 0), some (.ref 58), some (.int (nI x))] [] (wS, I, J, wP t dr G) Q := xr_tsw rfl (by decide) (by decide)
theorem xl_t10 : xr scr d xc_257 21 [some (.ref 1000002), some (.ref 0), some (.ref 58), some (.int (nI x))] [.int (nI 10)] (wS, I, J, wP t dr G) Q = xr scr d xc_257 302 [some (.ref 1000002), some (.ref 0), some (.ref 58), some (.int (nI x))] [] (wS, I, J, wP t dr G) Q := xr_tsw rfl (by decide) (by decide)
theorem xl_t11 : xr scr d xc_257 21 [some (.ref 1000002), some (.ref 0), some (.ref 58), some (.int (nI x))] [.int (nI 11)] (wS, I, J, wP t dr G) Q = xr scr d xc_257 329 [some (.ref 1000002), some (.ref 0), some (.ref 58), some (.int (nI x))] [] (wS, I, J, wP t dr G) Q := xr_tsw rfl (by decide) (by decide)
theorem xl_t12 : xr scr d xc_257 21 [some (.ref 1000002), some (.ref 0), some (.ref 58), some (.int (nI x))] [.int (nI 12)] (wS, I, J, wP t dr G) Q = xr scr d xc_257 356 [some (.ref 1000002), some (.ref 0), some (.ref 58), some (.int (nI x))] [] (wS, I, J, wP t dr G) Q := xr_tsw rfl (by decide) (by decide)
theorem xl_t13 : xr scr d xc_257 21 [some (.ref 1000002), some (.ref 0), some (.ref 58), some (.int (nI x))] [.int (nI 13)] (wS, I, J, wP t dr G) Q = xr scr d xc_257 383 [some (.ref 1000002), some (.ref 0), some (.ref 58), some (.int (nI x))] [] (wS, I, J, wP t dr G) Q := xr_tsw rfl (by decide) (by decide)
theorem xl_t14 : xr scr d xc_257 21 [some (.ref 1000002), some (.ref 0), some (.ref 58), some (.int (nI x))] [.int (nI 14)] (wS, I, J, wP t dr G) Q = xr scr d xc_257 400 [some (.ref 1000002), some (.ref 0), some (.ref 58), some (.int (nI x))] [] (wS, I, J, wP t dr G) Q := xr_tsw rfl (by decide) (by decide)
theorem xl_t15 : xr scr d xc_257 21 [some (.ref 1000002), some (.ref 0), some (.ref 58), some (.int (nI x))] [.int (nI 15)] (wS, I, J, wP t dr G) Q = xr scr d xc_257 417 [some (.ref 1000002), some (.ref 0), some (.ref 58), some (.int (nI x))] [] (wS, I, J, wP t dr G) Q := xr_tsw rfl (by decide) (by decide)
theorem xl_t16 : xr scr d xc_257 21 [some (.ref 1000002), some (.ref 0), some (.ref 58), some (.int (nI x))] [.int (nI 16)] (wS, I, J, wP t dr G) Q = xr scr d xc_257 444 [some (.ref 1000002), some (.ref 0), some (.ref 58), some (.int (nI x))] [] (wS, I, J, wP t dr G) Q := xr_tsw rfl (by decide) (by decide)
theorem xl_t17 : xr scr d xc_257 21 [some (.ref 1000002), some (.ref 0), some (.ref 58), some (.int (nI x))] [.int (nI 17)] (wS, I, J, wP t dr G) Q = xr scr d xc_257 461 [some (.ref 1000002), some (.ref 0), some (.ref 58), some (.int (nI x))] [] (wS, I, J, wP t dr G) Q := xr_tsw rfl (by decide) (by decide)
theorem xl_t18 : xr scr d xc_257 21 [some (.ref 1000002), some (.ref 0), some (.ref 58), some (.int (nI x))] [.int (nI 18)] (wS, I, J, wP t dr G) Q = xr scr d xc_257 478 [some (.ref 1000002), some (.ref 0), some (.ref 58), some (.int (nI x))] [] (wS, I, J, wP t dr G) Q := xr_tsw rfl (by decide) (by decide)
theorem xl_t19 : xr scr d xc_257 21 [some (.ref 1000002), some (.ref 0), some (.ref 58), some (.int (nI x))] [.int (nI 19)] (wS, I, J, wP t dr G) Q = xr scr d xc_257 485 [some (.ref 1000002), some (.ref 0), some (.ref 58), some (.int (nI x))] [] (wS, I, J, wP t dr G) Q := xr_tsw rfl (by decide) (by decide)
theorem xl_t20 : xr scr d xc_257 21 [some (.ref 1000002), some (.ref 0), some (.ref 58), some (.int (nI x))] [.int (nI 20)] (wS, I, J, wP t dr G) Q = xr scr d xc_257 492 [some (.ref 1000002), some (.ref 0), some (.ref 58), some (.int (nI x))] [] (wS, I, J, wP t dr G) Q := xr_tsw rfl (by decide) (by decide)
theorem xl_t21 : xr scr d xc_257 21 [some (.ref 1000002), some (.ref 0), some (.ref 58), some (.int (nI x))] [.int (nI 21)] (wS, I, J, wP t dr G) Q = xr scr d xc_257 509 [some (.ref 1000002), some (.ref 0), some (.ref 58), some (.int (nI x))] [] (wS, I, J, wP t dr G) Q := xr_tsw rfl (by decide) (by decide)
theorem xl_t22 : xr scr d xc_257 21 [some (.ref 1000002), some (.ref 0), some (.ref 58), some (.int (nI x))] [.int (nI 22)] (wS, I, J, wP t dr G) Q = xr scr d xc_257 516 [some (.ref 1000002), some (.ref 0), some (.ref 58), some (.int (nI x))] [] (wS, I, J, wP t dr G) Q := xr_tsw rfl (by decide) (by decide)
theorem xl_t23 : xr scr d xc_257 21 [some (.ref 1000002), some (.ref 0), some (.ref 58), some (.int (nI x))] [.int (nI 23)] (wS, I, J, wP t dr G) Q = xr scr d xc_257 523 [some (.ref 1000002), some (.ref 0), some (.ref 58), some (.int (nI x))] [] (wS, I, J, wP t dr G) Q := xr_tsw rfl (by decide) (by decide)
theorem xl_t24 : xr scr d xc_257 21 [some (.ref 1000002), some (.ref 0), some (.ref 58), some (.int (nI x))] [.int (nI 24)] (wS, I, J, wP t dr G) Q = xr scr d xc_257 540 [some (.ref 1000002), some (.ref 0), some (.ref 58), some (.int (nI x))] [] (wS, I, J, wP t dr G) Q := xr_tsw rfl (by decide) (by decide)
theorem xl_t25 : xr scr d xc_257 21 [some (.ref 1000002), some (.ref 0), some (.ref 58), some (.int (nI x))] [.int (nI 25)] (wS, I, J, wP t dr G) Q = xr scr d xc_257 557 [some (.ref 1000002), some (.ref 0), some (.ref 58), some (.int (nI x))] [] (wS, I, J, wP t dr G) Q := xr_tsw rfl (by decide) (by decide)
theorem xl_t26 : xr scr d xc_257 21 [some (.ref 1000002), some (.ref 0), some (.ref 58), some (.int (nI x))] [.int (nI 26)] (wS, I, J, wP t dr G) Q = xr scr d xc_257 574 [some (.ref 1000002), some (.ref 0), some (.ref 58), some (.int (nI x))] [] (wS, I, J, wP t dr G) Q := xr_tsw rfl (by decide) (by decide)
theorem xl_t27 : xr scr d xc_257 21 [some (.ref 1000002), some (.ref 0), some (.ref 58), some (.int (nI x))] [.int (nI 27)] (wS, I, J, wP t dr G) Q = xr scr d xc_257 601 [some (.ref 1000002), some (.ref 0), some (.ref 58), some (.int (nI x))] [] (wS, I, J, wP t dr G) Q := xr_tsw rfl (by decide) (by decide)
theorem xl_t28 : xr scr d xc_257 21 [some (.ref 1000002), some (.ref 0), some (.ref 58), some (.int (nI x))] [.int (nI 28)] (wS, I, J, wP t dr G) Q = xr scr d xc_257 638 [some (.ref 1000002), some (.ref 0), some (.ref 58), some (.int (nI x))] [] (wS, I, J, wP t dr G) Q := xr_tsw rfl (by decide) (by decide)
theorem xl_t29 : xr scr d xc_257 21 [some (.ref 1000002), some (.ref 0), some (.ref 58), some (.int (nI x))] [.int (nI 29)] (wS, I, J, wP t dr G) Q = xr scr d xc_257 665 [some (.ref 1000002), some (.ref 0), some (.ref 58), some (.int (nI x))] [] (wS, I, J, wP t dr G) Q := xr_tsw rfl (by decide) (by decide)
theorem xl_t30 : xr scr d xc_257 21 [some (.ref 1000002), some (.ref 0), some (.ref 58), some (.int (nI x))] [.int (nI 30)] (wS, I, J, wP t dr G) Q = xr scr d xc_257 692 [some (.ref 1000002), some (.ref 0), some (.ref 58), some (.int (nI x))] [] (wS, I, J, wP t dr G) Q := xr_tsw rfl (by decide) (by decide)
theorem xl_t31 : xr scr d xc_257 21 [some (.ref 1000002), some (.ref 0), some (.ref 58), some (.int (nI x))] [.int (nI 31)] (wS, I, J, wP t dr G) Q = xr scr d xc_257 719 [some (.ref 1000002), some (.ref 0), some (.ref 58), some (.int (nI x))] [] (wS, I, J, wP t dr G) Q := xr_tsw rfl (by decide) (by decide)
theorem xl_t32 : xr scr d xc_257 21 [some (.ref 1000002), some (.ref 0), some (.ref 58), some (.int (nI x))] [.int (nI 32)] (wS, I, J, wP t dr G) Q = xr scr d xc_257 736 [some (.ref 1000002), some (.ref 0), some (.ref 58), some (.int (nI x))] [] (wS, I, J, wP t dr G) Q := xr_tsw rfl (by decide) (by decide)
theorem xl_t33 : xr scr d xc_257 21 [some (.ref 1000002), some (.ref 0), some (.ref 58), some (.int (nI x))] [.int (nI 33)] (wS, I, J, wP t dr G) Q = xr scr d xc_257 763 [some (.ref 1000002), some (.ref 0), some (.ref 58), some (.int (nI x))] [] (wS, I, J, wP t dr G) Q := xr_tsw rfl (by decide) (by decide)
theorem xl_t34 : xr scr d xc_257 21 [some (.ref 1000002), some (.ref 0), some (.ref 58), some (.int (nI x))] [.int (nI 34)] (wS, I, J, wP t dr G) Q = xr scr d xc_257 780 [some (.ref 1000002), some (.ref 0), some (.ref 58), some (.int (nI x))] [] (wS, I, J, wP t dr G) Q := xr_tsw rfl (by decide) (by decide)
theorem xl_t35 : xr scr d xc_257 21 [some (.ref 1000002), some (.ref 0), some (.ref 58), some (.int (nI x))] [.int (nI 35)] (wS, I, J, wP t dr G) Q = xr scr d xc_257 807 [some (.ref 1000002), some (.ref 0), some (.ref 58), some (.int (nI x))] [] (wS, I, J, wP t dr G) Q := xr_tsw rfl (by decide) (by decide)
theorem xl_t36 : xr scr d xc_257 21 [some (.ref 1000002), some (.ref 0), some (.ref 58), some (.int (nI x))] [.int (nI 36)] (wS, I, J, wP t dr G) Q = xr scr d xc_257 844 [some (.ref 1000002), some (.ref 0), some (.ref 58), some (.int (nI x))] [] (wS, I, J, wP t dr G) Q := xr_tsw rfl (by decide) (by decide)
theorem xl_t37 : xr scr d xc_257 21 [some (.ref 1000002), some (.ref 0), some (.ref 58), some (.int (nI x))] [.int (nI 37)] (wS, I, J, wP t dr G) Q = xr scr d xc_257 861 [some (.ref 1000002), some (.ref 0), some (.ref 58), some (.int (nI x))] [] (wS, I, J, wP t dr G) Q := xr_tsw rfl (by decide) (by decide)
theorem xl_t38 : xr scr d xc_257 21 [some (.ref 1000002), some (.ref 0), some (.ref 58), some (.int (nI x))] [.int (nI 38)] (wS, I, J, wP t dr G) Q = xr scr d xc_257 868 [some (.ref 1000002), some (.ref 0), some (.ref 58), some (.int (nI x))] [] (wS, I, J, wP t dr G) Q := xr_tsw rfl (by decide) (by decide)
theorem xl_t39 : xr scr d xc_257 21 [some (.ref 1000002), some (.ref 0), some (.ref 58), some (.int (nI x))] [.int (nI 39)] (wS, I, J, wP t dr G) Q = xr scr d xc_257 885 [some (.ref 1000002), some (.ref 0), some (.ref 58), some (.int (nI x))] [] (wS, I, J, wP t dr G) Q := xr_tsw rfl (by decide) (by decide)
theorem xl_t40 : xr scr d xc_257 21 [some (.ref 1000002), some (.ref 0), some (.ref 58), some (.int (nI x))] [.int (nI 40)] (wS, I, J, wP t dr G) Q = xr scr d xc_257 902 [some (.ref 1000002), some (.ref 0), some (.ref 58), some (.int (nI x))] [] (wS, I, J, wP t dr G) Q := xr_tsw rfl (by decide) (by decide)
theorem xl_t41 : xr scr d xc_257 21 [some (.ref 1000002), some (.ref 0), some (.ref 58), some (.int (nI x))] [.int (nI 41)] (wS, I, J, wP t dr G) Q = xr scr d xc_257 939 [some (.ref 1000002), some (.ref 0), some (.ref 58), some (.int (nI x))] [] (wS, I, J, wP t dr G) Q := xr_tsw rfl (by decide) (by decide)
theorem xl_t42 : xr scr d xc_257 21 [some (.ref 1000002), some (.ref 0), some (.ref 58), some (.int (nI x))] [.int (nI 42)] (wS, I, J, wP t dr G) Q = xr scr d xc_257 966 [some (.ref 1000002), some (.ref 0), some (.ref 58), some (.int (nI x))] [] (wS, I, J, wP t dr G) Q := xr_tsw rfl (by decide) (by decide)
theorem xl_t43 : xr scr d xc_257 21 [some (.ref 1000002), some (.ref 0), some (.ref 58), some (.int (nI x))] [.int (nI 43)] (wS, I, J, wP t dr G) Q = xr scr d xc_257 1003 [some (.ref 1000002), some (.ref 0), some (.ref 58), some (.int (nI x))] [] (wS, I, J, wP t dr G) Q := xr_tsw rfl (by decide) (by decide)
theorem xl_t44 : xr scr d xc_257 21 [some (.ref 1000002), some (.ref 0), some (.ref 58), some (.int (nI x))] [.int (nI 44)] (wS, I, J, wP t dr G) Q = xr scr d xc_257 1030 [some (.ref 1000002), some (.ref 0), some (.ref 58), some (.int (nI x))] [] (wS, I, J, wP t dr G) Q := xr_tsw rfl (by decide) (by decide)
theorem xl_t45 : xr scr d xc_257 21 [some (.ref 1000002), some (.ref 0), some (.ref 58), some (.int (nI x))] [.int (nI 45)] (wS, I, J, wP t dr G) Q = xr scr d xc_257 1057 [some (.ref 1000002), some (.ref 0), some (.ref 58), some (.int (nI x))] [] (wS, I, J, wP t dr G) Q := xr_tsw rfl (by decide) (by decide)
theorem xl_t46 : xr scr d xc_257 21 [some (.ref 1000002), some (.ref 0), some (.ref 58), some (.int (nI x))] [.int (nI 46)] (wS, I, J, wP t dr G) Q = xr scr d xc_257 1064 [some (.ref 1000002), some (.ref 0), some (.ref 58), some (.int (nI x))] [] (wS, I, J, wP t dr G) Q := xr_tsw rfl (by decide) (by decide)
theorem xl_t47 : xr scr d xc_257 21 [some (.ref 1000002), some (.ref 0), some (.ref 58), some (.int (nI x))] [.int (nI 47)] (wS, I, J, wP t dr G) Q = xr scr d xc_257 1072 [some (.ref 1000002), some (.ref 0), some (.ref 58), some (.int (nI x))] [] (wS, I, J, wP t dr G) Q := xr_tsw rfl (by decide) (by decide)
theorem xl_t48 : xr scr d xc_257 21 [some (.ref 1000002), some (.ref 0), some (.ref 58), some (.int (nI x))] [.int (nI 48)] (wS, I, J, wP t dr G) Q = xr scr d xc_257 1080 [some (.ref 1000002), some (.ref 0), some (.ref 58), some (.int (nI x))] [] (wS, I, J, wP t dr G) Q := xr_tsw rfl (by decide) (by decide)
theorem xl_t49 : xr scr d xc_257 21 [some (.ref 1000002), some (.ref 0), some (.ref 58), some (.int (nI x))] [.int (nI 49)] (wS, I, J, wP t dr G) Q = xr scr d xc_257 1097 [some (.ref 1000002), some (.ref 0), some (.ref 58), some (.int (nI x))] [] (wS, I, J, wP t dr G) Q := xr_tsw rfl (by decide) (by decide)
theorem xl_t50 : xr scr d xc_257 21 [some (.ref 1000002), some (.ref 0), some (.ref 58), some (.int (nI x))] [.int (nI 50)] (wS, I, J, wP t dr G) Q = xr scr d xc_257 1104 [some (.ref 1000002), some (.ref 0), some (.ref 58), some (.int (nI x))] [] (wS, I, J, wP t dr G) Q := xr_tsw rfl (by decide) (by decide)
theorem xl_t51 : xr scr d xc_257 21 [some (.ref 1000002), some (.ref 0), some (.ref 58), some (.int (nI x))] [.int (nI 51)] (wS, I, J, wP t dr G) Q = xr scr d xc_257 1121 [some (.ref 1000002), some (.ref 0), some (.ref 58), some (.int (nI x))] [] (wS, I, J, wP t dr G) Q := xr_tsw rfl (by decide) (by decide)
theorem xl_td {y : Int32} (h : y.toInt < 0 ∨ 51 < y.toInt) : xr scr d xc_257 21 [some (.ref 1000002), some (.ref 0), some (.ref 58), some (.int (nI x))] [.int y] (wS, I, J, wP t dr G) Q = xr scr d xc_257 1129 [some (.ref 1000002), some (.ref 0), some (.ref 58), some (.int (nI x))] [] (wS, I, J, wP t dr G) Q := xr_tsw_d rfl h
theorem law_call (H : INV I J t dr G T v bk pre ss) (hx : x + 6 ≤ scr.1) (hL : scr.1 ≤ 3072) (hq : ∀ S2, PST S2 → xr scr (d + 21) xc_257 1129 [some (.ref 1000002), some (.ref 0), some (.ref 58), some (.int (nI x))] [] S2 Q) : xr scr (d + 21) xc_257 16 [some (.ref 1000002), some (.ref 0), some (.ref 58), some (.int (nI x))] [] (wS, I, J, wP t dr G) Q := by
  rw [xl_sw (by omega) hL]
  obtain ⟨j, hj, e⟩ := pk_andE (scr.2 (nI x).toNatClampNeg) (m := 63) 6 (by decide)
  rw [e]
  by_cases e0 : j = 0
  · subst e0
    rw [xl_t0]
    exact xl_0 H hx hL hq
  by_cases e1 : j = 1
  · subst e1
    rw [xl_t1]
    exact xl_1 H hx hL hq
  by_cases e2 : j = 2
  · subst e2
    rw [xl_t2]
    exact xl_2 H hx hL hq
  by_cases e3 : j = 3
  · subst e3
    rw [xl_t3]
    exact xl_3 H hx hL hq
  by_cases e4 : j = 4
  · subst e4
    rw [xl_t4]
    exact xl_4 H hx hL hq
  by_cases e5 : j = 5
  · subst e5
    rw [xl_t5]
    exact xl_5 H hx hL hq
  by_cases e6 : j = 6
  · subst e6
    rw [xl_t6]
    exact xl_6 H hx hL hq
  by_cases e7 : j = 7
  · subst e7
    rw [xl_t7]
    exact xl_7 H hx hL hq
  by_cases e8 : j = 8
  · subst e8
    rw [xl_t8]
    exact xl_8 H hx hL hq
  by_cases e9 : j = 9
  · subst e9
    rw [xl_t9]
    exact xl_9 H hx hL hq
  by_cases e10 : j = 10
  · subst e10
    rw [xl_t10]
    exact xl_10 H hx hL hq
  by_cases e11 : j = 11
  · subst e11
    rw [xl_t11]
    exact xl_11 H hx hL hq
  by_cases e12 : j = 12
  · subst e12
    rw [xl_t12]
    exact xl_12 H hx hL hq
  by_cases e13 : j = 13
  · subst e13
    rw [xl_t13]
    exact xl_13 H hx hL hq
  by_cases e14 : j = 14
  · subst e14
    rw [xl_t14]
    exact xl_14 H hx hL hq
  by_cases e15 : j = 15
  · subst e15
    rw [xl_t15]
    exact xl_15 H hx hL hq
  by_cases e16 : j = 16
  · subst e16
    rw [xl_t16]
    exact xl_16 H hx hL hq
  by_cases e17 : j = 17
  · subst e17
    rw [xl_t17]
    exact xl_17 H hx hL hq
  by_cases e18 : j = 18
  · subst e18
    rw [xl_t18]
    exact xl_18 H hx hL hq
  by_cases e19 : j = 19
  · subst e19
    rw [xl_t19]
    exact xl_19 H hx hL hq
  by_cases e20 : j = 20
  · subst e20
    rw [xl_t20]
    exact xl_20 H hx hL hq
  by_cases e21 : j = 21
  · subst e21
    rw [xl_t21]
    exact xl_21 H hx hL hq
  by_cases e22 : j = 22
  · subst e22
    rw [xl_t22]
    exact xl_22 H hx hL hq
  by_cases e23 : j = 23
  · subst e23
    rw [xl_t23]
    exact xl_23 H hx hL hq
  by_cases e24 : j = 24
  · subst e24
    rw [xl_t24]
    exact xl_24 H hx hL hq
  by_cases e25 : j = 25
  · subst e25
    rw [xl_t25]
    exact xl_25 H hx hL hq
  by_cases e26 : j = 26
  · subst e26
    rw [xl_t26]
    exact xl_26 H hx hL hq
  by_cases e27 : j = 27
  · subst e27
    rw [xl_t27]
    exact xl_27 H hx hL hq
  by_cases e28 : j = 28
  · subst e28
    rw [xl_t28]
    exact xl_28 H hx hL hq
  by_cases e29 : j = 29
  · subst e29
    rw [xl_t29]
    exact xl_29 H hx hL hq
  by_cases e30 : j = 30
  · subst e30
    rw [xl_t30]
    exact xl_30 H hx hL hq
  by_cases e31 : j = 31
  · subst e31
    rw [xl_t31]
    exact xl_31 H hx hL hq
  by_cases e32 : j = 32
  · subst e32
    rw [xl_t32]
    exact xl_32 H hx hL hq
  by_cases e33 : j = 33
  · subst e33
    rw [xl_t33]
    exact xl_33 H hx hL hq
  by_cases e34 : j = 34
  · subst e34
    rw [xl_t34]
    exact xl_34 H hx hL hq
  by_cases e35 : j = 35
  · subst e35
    rw [xl_t35]
    exact xl_35 H hx hL hq
  by_cases e36 : j = 36
  · subst e36
    rw [xl_t36]
    exact xl_36 H hx hL hq
  by_cases e37 : j = 37
  · subst e37
    rw [xl_t37]
    exact xl_37 H hx hL hq
  by_cases e38 : j = 38
  · subst e38
    rw [xl_t38]
    exact xl_38 H hx hL hq
  by_cases e39 : j = 39
  · subst e39
    rw [xl_t39]
    exact xl_39 H hx hL hq
  by_cases e40 : j = 40
  · subst e40
    rw [xl_t40]
    exact xl_40 H hx hL hq
  by_cases e41 : j = 41
  · subst e41
    rw [xl_t41]
    exact xl_41 H hx hL hq
  by_cases e42 : j = 42
  · subst e42
    rw [xl_t42]
    exact xl_42 H hx hL hq
  by_cases e43 : j = 43
  · subst e43
    rw [xl_t43]
    exact xl_43 H hx hL hq
  by_cases e44 : j = 44
  · subst e44
    rw [xl_t44]
    exact xl_44 H hx hL hq
  by_cases e45 : j = 45
  · subst e45
    rw [xl_t45]
    exact xl_45 H hx hL hq
  by_cases e46 : j = 46
  · subst e46
    rw [xl_t46]
    exact xl_46 H hx hL hq
  by_cases e47 : j = 47
  · subst e47
    rw [xl_t47]
    exact xl_47 H hx hL hq
  by_cases e48 : j = 48
  · subst e48
    rw [xl_t48]
    exact xl_48 H hx hL hq
  by_cases e49 : j = 49
  · subst e49
    rw [xl_t49]
    exact xl_49 H hx hL hq
  by_cases e50 : j = 50
  · subst e50
    rw [xl_t50]
    exact xl_50 H hx hL hq
  by_cases e51 : j = 51
  · subst e51
    rw [xl_t51]
    exact xl_51 H hx hL hq
  have hj64 : j < 64 := hj
  rw [xl_td (by rw [nI_toInt (by omega)]; omega)]
  exact hq _ (PST_i H)
theorem law_loop (hL : scr.1 ≤ 3072) : ∀ (m x : Nat) (S : xi_S), scr.1 + 6 ≤ x + m → x ≤ scr.1 → PST S → xr scr (d + 21) xc_257 10 [some (.ref 1000002), some (.ref 0), some (.ref 58), some (.int (nI x))] [] S (fun r S2 => r = some (.int 1) ∧ PST S2) := by
  intro m
  induction m with
  | zero =>
    intro x S h1 h2
    omega
  | succ m ih =>
    intro x S h1 h2 hP
    obtain ⟨I, J, t, dr, G, T, v, bk, pre, ss, rfl, H⟩ := hP
    rw [xs_257_10]
    by_cases h6 : x + 6 ≤ scr.1
    · rw [pk_sub (by omega), if_neg (fun e => by have := (nI_ltI (by omega) (by omega)).mp e; omega)]
      refine law_call (d := d) H h6 hL (fun S2 hP2 => ?_)
      obtain ⟨I2, J2, t2, dr2, G2, T2, v2, bk2, pre2, ss2, rfl, H2⟩ := hP2
      rw [xs_257_1129, nI_add]
      exact ih (x + 6) _ (by omega) h6 (PST_i H2)
    · have hc : nI scr.1 - nI 6 < nI x := by
        by_cases h7 : scr.1 < 6
        · have h8 := pk_sneg (a := scr.1) (b := 6) (by decide) h7
          have h9 := nI_pos' (n := x) (by omega)
          rw [Int32.lt_iff_toInt_lt] at h8 ⊢
          rw [Int32.le_iff_toInt_le] at h9
          omega
        · rw [pk_sub (by omega)]
          exact nI_lt (by omega) (by omega)
      rw [if_pos hc, xs_257_1131]
      exact ⟨rfl, PST_i H⟩
end LAW
