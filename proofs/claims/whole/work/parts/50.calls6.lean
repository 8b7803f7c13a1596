/-! calls: ways, bars, least -/
/-- the rows from x to y -/
def LXY (T : TN) (v : Nat) (bk : Bool) (x y : Nat) : List (List Nat) := (rws (tN T) (okC T v bk (fun _ _ => true)) (tH T) [x]).filter (fun r => r.getD (tH T) 0 == y)
theorem rwp_single {α : Type} {n x : Nat} (hx : x < n) (F : Nat → List α) : rwp n (fun z => if (z == x) = true then F z else []) = F x := by
  have : ∀ m, x < m → rwp m (fun z => if (z == x) = true then F z else []) = F x := by
    intro m hm
    induction m with
    | zero => omega
    | succ m ih =>
      rw [rwp_s]
      by_cases e : x = m
      · subst e
        rw [rwp_nil (fun y hy => if_neg (by simp; omega)), if_pos (by simp)]
        rfl
      · rw [ih (by omega), if_neg (by simp; omega), List.append_nil]
  exact this n hx
theorem RWS_xy {T : TN} {v : Nat} {bk : Bool} {x y : Nat} (hx : x < tN T) (hh : 1 ≤ tH T) {C : Nat → Nat → Bool} (hC : ∀ i z, C i z = if i = tH T then z == y else if i = 0 then z == x else true) : RWS T v bk C = LXY T v bk x y := by
  obtain ⟨k, hk⟩ : ∃ k, tH T = k + 1 := ⟨tH T - 1, by omega⟩
  have h1 : RWS T v bk C = rws (tN T) (okC T v bk C) (tH T) [x] := by
    unfold RWS
    have e : (fun z => if C 0 z = true then rws (tN T) (okC T v bk C) (tH T) [z] else []) = fun z => if (z == x) = true then rws (tN T) (okC T v bk C) (tH T) [z] else [] := by
      funext z
      have e0 : C 0 z = (z == x) := by rw [hC, if_neg (by omega), if_pos rfl]
      rw [e0]
    rw [e, rwp_single hx (fun z => rws (tN T) (okC T v bk C) (tH T) [z])]
  have h2 : rws (tN T) (okC T v bk C) (tH T) [x] = rws (tN T) (okC T v bk (fun i z => i != tH T || z == y)) (tH T) [x] := rws_c _ _ (fun p z hp1 _ _ => by
    unfold okC
    rw [hC]
    congr 1
    by_cases e : p.length = tH T
    · rw [if_pos e, e]; simp
    · have h0 : ¬ p.length = 0 := by have : ([x] : List Nat).length = 1 := rfl; omega
      rw [if_neg e, if_neg h0]
      simp [e])
  have h3 : rws (tN T) (okC T v bk (fun _ _ => true)) (tH T) [x] = rws (tN T) (okB T v bk) (tH T) [x] := rws_c _ _ (fun p z _ _ _ => by unfold okC; rw [Bool.and_true])
  have h4 := rws_goal (T := T) (v := v) (bk := bk) y k [x] (by rw [hk]; simp; omega)
  unfold LXY
  rw [h1, h2, h3]
  rw [← hk] at h4
  exact h4.symm
section CALLS6
variable {scr : xi_X} {d : Nat} {Q : Option Value → xi_S → Prop} {I I2 : Nat → Nat → Int32} {J : Nat → Nat → Int64} {t dr : Nat} {G G2 : Nat → Nat} {T : TN} {v v2 : Nat} {bk bk2 : Bool} {pre pre2 : List Nat} {ss ss2 : List SGT}
theorem LXY_len (hn : tN T ≤ 7) (hh : tH T ≤ 5) (x y : Nat) : (LXY T v bk x y).length ≤ 16807 := by
  have h1 : (LXY T v bk x y).length ≤ (rws (tN T) (okC T v bk (fun _ _ => true)) (tH T) [x]).length := List.length_filter_le _ _
  have h2 := rws_len (n := tN T) (ok := okC T v bk (fun _ _ => true)) (tH T) [x]
  have h3 : tN T ^ tH T ≤ 7 ^ 5 := Nat.le_trans (Nat.pow_le_pow_left hn _) (Nat.pow_le_pow_right (by decide) hh)
  omega
theorem nar_one {c : Nat → Bool} {x : Nat} (hn : tN T ≤ 7) (hx : x < tN T) (hc : ∀ z, c z = true) : nI (bs (tN T) c) &&& nI 1 <<< (nI x &&& 31) = nI (bs (tN T) (fun z => z == x)) := by
  rw [sb_one x (by omega), sb_and, bs_one hx, bs_and]
  congr 1
  exact bs_c (fun z _ => by rw [hc z, Bool.true_and])
/-- both narrowings and the search -/
theorem c_search {fo : Bool} {cd : List xi_E} {j1 j2 : Nat} {l1 l2 : xi_L} (ht : tw t) (hT : TT I t T) (hv : v ≤ 5) (hh1 : 1 ≤ tH T) {x y : Nat} (hx : x < tN T) (hy : y < tN T) (hG : G 32 = t) (W : WK I 32 T v bk fo (fun _ _ => true) []) (hTL : TL I 32 T (fun _ _ => 0) (fun _ => true)) (h1 : I 32 1 = nI 0)
    (hs1 : ∀ I2 : Nat → Nat → Int32, I2 t 0 = nI (tH T) → xr scr (d + 10) cd j1 l1 [] (wS, I2, J, wP t dr G) Q = xr scr (d + 9) xc_95 0 [some (.ref 32), some (.int (nI (tH T))), some (.int (nI 1 <<< (nI y &&& 31)))] [] (wS, I2, J, wP t dr G) (fun rv S2 => xr scr (d + 10) cd j2 l2 (rv.toList ++ []) S2 Q))
    (hs2 : ∀ I2 : Nat → Nat → Int32, xr scr (d + 10) cd j2 l2 [] (wS, I2, J, wP t dr G) Q = xr scr (d + 9) xc_96 0 [some (.ref 32), none, none] [] (wS, I2, J, wP t dr G) (fun rv S2 => xr scr (d + 10) cd (j2 + 3) l2 (rv.toList ++ []) S2 Q))
    (hq : ∀ I2 : Nat → Nat → Int32, FrA I I2 32 → WR I2 32 T (tk fo (LXY T v bk x y)) → (fo = true → ∀ r M, LXY T v bk x y = r :: M → ∀ i, i ≤ tH T → I2 35 i = nI (r.getD i 0)) → xr scr (d + 10) cd (j2 + 3) l2 [] (wS, I2, J, wP t dr G) Q) :
    xr scr (d + 9) xc_95 0 [some (.ref 32), some (.int (nI 0)), some (.int (nI 1 <<< (nI x &&& 31)))] [] (wS, I, J, wP t dr G) (fun rv S2 => xr scr (d + 10) cd j1 l1 (rv.toList ++ []) S2 Q) := by
  have hn := TR_n hT.1
  have hh5 := TR_h hT.1
  have ht' : t = 15 ∨ t = 20 := ht
  refine c_narrow (Or.inl rfl) W (Nat.zero_le _) hh5 (nar_one hn hx (fun _ => rfl)) (fun I1 f1 W1 => ?_)
  have hT1 : TT I1 t T := TT_fr hT (f1 _ (by omega)) (f1 _ (by omega)) (f1 _ (by omega)) (f1 _ (by omega)) (f1 _ (by omega))
  simp (disch := first | assumption | omega | decide | exact vp_in_nI (by omega) (by omega) | exact and1_bN _ | (simp only [pk_mul, nI_add, pred_s]; exact vp_in_nI (by omega) (by omega))) only [Option.toList_some, Option.toList_none, List.cons_append, List.nil_append, List.append_nil]
  rw [hs1 I1 (TR_0 hT1.1)]
  have h0 : ¬ tH T = 0 := by omega
  refine c_narrow (Or.inl rfl) W1 (Nat.le_refl _) hh5 (nar_one hn hy (fun z => by rw [if_neg h0])) (fun I3 f3 W3 => ?_)
  have hT3 : TT I3 t T := TT_fr hT1 (f3 _ (by omega)) (f3 _ (by omega)) (f3 _ (by omega)) (f3 _ (by omega)) (f3 _ (by omega))
  have fr : ∀ k, k ≠ 32 + 4 → I3 k = I k := fun k hk => by rw [f3 k hk, f1 k hk]
  have hTL3 : TL I3 32 T (fun _ _ => 0) (fun _ => true) := by
    unfold TL at hTL ⊢
    rw [fr (32 + 5) (by decide), fr 32 (by decide)]
    exact hTL
  simp (disch := first | assumption | omega | decide | exact vp_in_nI (by omega) (by omega) | exact and1_bN _ | (simp only [pk_mul, nI_add, pred_s]; exact vp_in_nI (by omega) (by omega))) only [Option.toList_some, Option.toList_none, List.cons_append, List.nil_append, List.append_nil]
  rw [hs2 I3]
  refine c_countAll (Or.inl rfl) ht hG hT3 hv hh1 W3 hTL3 (by rw [fr 32 (by decide), h1]) (fun I4 f4 R4 H4 => ?_)
  simp (disch := first | assumption | omega | decide | exact vp_in_nI (by omega) (by omega) | exact and1_bN _ | (simp only [pk_mul, nI_add, pred_s]; exact vp_in_nI (by omega) (by omega))) only [Option.toList_some, Option.toList_none, List.cons_append, List.nil_append, List.append_nil]
  have eL := RWS_xy (T := T) (v := v) (bk := bk) (x := x) (y := y) hx hh1 (C := fun i2 => if i2 = tH T then (fun z => z == y) else if i2 = 0 then (fun z => z == x) else fun _ => true) (fun i z => by
    by_cases e : i = tH T
    · rw [if_pos e, if_pos e]
    · rw [if_neg e, if_neg e]
      by_cases e2 : i = 0
      · rw [if_pos e2, if_pos e2]
      · rw [if_neg e2, if_neg e2])
  rw [eL] at R4 H4
  exact hq I4 (fun k hk => by rw [f4 k hk, fr k (by omega)]) R4 H4
theorem c_countWays (ht : tw t) (hT : TT I t T) (hv1 : 1 ≤ v) (hv : v ≤ 5) (h25 : I 25 0 = nI v) (h251 : I 25 1 = nI (bN (bk = true))) (hh1 : 1 ≤ tH T) {x y : Nat} (hx : x < tN T) (hy : y < tN T) (hq : ∀ I2 : Nat → Nat → Int32, FrA I I2 32 → WR I2 32 T (LXY T v bk x y) → Q (some (.int (nI (LXY T v bk x y).length))) (wS, I2, J, wP t dr (wU 32 t G))) : xr scr (d + 10) xc_94 0 [some (.ref 0), some (.int (nI x)), some (.int (nI y))] [] (wS, I, J, wP t dr G) Q := by
  have ht' : t = 15 ∨ t = 20 := ht
  rw [xs_94_0, h25, h251]
  refine c_prepare (d := d + 5) (Or.inl rfl) ht hT hv1 hv (fun I1 f1 W1 T1 s1 => ?_)
  have hT1 : TT I1 t T := TT_frA (w := 32) (Or.inl rfl) ht f1 hT
  simp (disch := first | assumption | omega | decide | exact vp_in_nI (by omega) (by omega) | exact and1_bN _ | (simp only [pk_mul, nI_add, pred_s]; exact vp_in_nI (by omega) (by omega))) only [Option.toList_some, Option.toList_none, List.cons_append, List.nil_append, List.append_nil]
  rw [xs_94_11]
  refine c_search (cd := xc_94) (j1 := 18) (j2 := 27) (l2 := [some (.ref 0), some (.int (nI x)), some (.int (nI y))]) ht hT1 hv hh1 hx hy wU_eq W1 T1 s1 (fun I2 e => ?_) (fun I2 => ?_) (fun I2 f2 R2 H2 => ?_)
  · rw [xs_94_18 ht, e]
  · rw [xs_94_27]
  · rw [tk_f] at R2
    rw [xs_94_30, R2.2.1]
    exact hq I2 (FrA_trans f1 f2) R2
theorem c_findWay (ht : tw t) (hT : TT I t T) (hv1 : 1 ≤ v) (hv : v ≤ 5) (h251 : I 25 1 = nI (bN (bk = true))) (hh1 : 1 ≤ tH T) {x y : Nat} (hx : x < tN T) (hy : y < tN T) (hq : ∀ I2 : Nat → Nat → Int32, FrA I I2 32 → (∀ r M, LXY T v bk x y = r :: M → ∀ i, i ≤ tH T → I2 35 i = nI (r.getD i 0)) → Q (some (.int (nI (bN (LXY T v bk x y ≠ []))))) (wS, I2, J, wP t dr (wU 32 t G))) : xr scr (d + 10) xc_98 0 [some (.ref 0), some (.int (nI x)), some (.int (nI y)), some (.int (nI v))] [] (wS, I, J, wP t dr G) Q := by
  have ht' : t = 15 ∨ t = 20 := ht
  rw [xs_98_0, h251]
  refine c_prepare (d := d + 5) (Or.inl rfl) ht hT hv1 hv (fun I1 f1 W1 T1 s1 => ?_)
  simp (disch := first | assumption | omega | decide | exact vp_in_nI (by omega) (by omega) | exact and1_bN _ | (simp only [pk_mul, nI_add, pred_s]; exact vp_in_nI (by omega) (by omega))) only [Option.toList_some, Option.toList_none, List.cons_append, List.nil_append, List.append_nil]
  rw [xs_98_9]
  obtain ⟨I3, hI3⟩ : ∃ I3 : Nat → Nat → Int32, I3 = xi_up I1 32 0 (nI 1) := ⟨_, rfl⟩
  rw [← hI3]
  have f3 : FrA I1 I3 32 := fun k hk => by rw [hI3, xu_fr (by omega)]
  have hT3 : TT I3 t T := TT_frA (w := 32) (Or.inl rfl) ht (FrA_trans f1 f3) hT
  have W3 : WK I3 32 T v bk true (fun _ _ => true) [] := by
    obtain ⟨a0, a4, a5, a12, a3, aC⟩ := W1
    rw [hI3]
    exact ⟨by rw [xu_eq]; rfl, by rw [xu_nj (by decide)]; exact a4, by rw [xu_nj (by decide)]; exact a5, by rw [xu_fr (by decide), xu_fr (by decide)]; exact a12, by rw [xu_fr (by decide)]; exact a3, by rw [xu_fr (by decide)]; exact aC⟩
  have T3 : TL I3 32 T (fun _ _ => 0) (fun _ => true) := by
    unfold TL at T1 ⊢
    rw [hI3, xu_fr (by decide), xu_nj (by decide)]
    exact T1
  refine c_search (cd := xc_98) (j1 := 20) (j2 := 29) (l2 := [some (.ref 0), some (.int (nI x)), some (.int (nI y)), some (.int (nI v))]) ht hT3 hv hh1 hx hy wU_eq W3 T3 (by rw [hI3, xu_nj (by decide), s1]) (fun I2 e => ?_) (fun I2 => ?_) (fun I2 f2 R2 H2 => ?_)
  · rw [xs_98_20 ht, e]
  · rw [xs_98_29]
  · have hq2 := hq I2 (FrA_trans (FrA_trans f1 f3) f2) (H2 rfl)
    rw [xs_98_32, R2.2.1]
    cases hL : LXY T v bk x y with
    | nil =>
      rw [hL] at hq2
      rw [bN_f (by simp)] at hq2
      simp (disch := first | assumption | omega | decide | exact vp_in_nI (by omega) (by omega) | exact and1_bN _ | (simp only [pk_mul, nI_add, pred_s]; exact vp_in_nI (by omega) (by omega))) only [tk_nil, List.length_nil, nI_add, pk_mul, nI_ltI, nI_eq, z_eq, z_lt, z_gt, z_bN, bN_z, bN_p, bN_i1, nI_clamp, rng_nI, ↓reduceIte, if_true, if_false, not_true_eq_false, not_false_eq_true, true_and, and_true, and_self, false_and, and_false, Nat.lt_irrefl, xs_98_38, xs_98_39]
      exact hq2
    | cons r M =>
      rw [hL] at hq2
      rw [bN_t (by simp)] at hq2
      simp (disch := first | assumption | omega | decide | exact vp_in_nI (by omega) (by omega) | exact and1_bN _ | (simp only [pk_mul, nI_add, pred_s]; exact vp_in_nI (by omega) (by omega))) only [tk_t, List.length_cons, List.length_nil, nI_add, pk_mul, nI_ltI, nI_eq, z_eq, z_lt, z_gt, z_bN, bN_z, bN_p, bN_i1, nI_clamp, rng_nI, ↓reduceIte, if_true, if_false, not_true_eq_false, not_false_eq_true, true_and, and_true, and_self, false_and, and_false, Nat.zero_lt_succ, xs_98_36, xs_98_39]
      exact hq2
theorem LIV_S {I I2 : Nat → Nat → Int32} (h : FrS I I2) : LIV I I2 := ⟨fun k hk => h.1 k (by omega) (by omega) (by omega) (by omega) (by omega), h.2.2, fun j hj => h.2.1 j (by omega) (by omega) (by omega) (by omega) (by omega), fun j _ => by rw [h.1 0 (by decide) (by decide) (by decide) (by decide) (by decide)]⟩
theorem INV_S (H : INV I J t dr G T v bk pre ss) (h : FrS I I2) : INV I2 J t dr G T v bk pre ss := INV_liv H (LIV_S h) (by
  have := H.2.2.2.2.2.2.2.1
  unfold IA at this ⊢
  rw [h.1 0 (by decide) (by decide) (by decide) (by decide) (by decide), h.2.1 2 (by decide) (by decide) (by decide) (by decide) (by decide), show I 58 2 = I 58 2 from rfl]
  exact ⟨this.1, this.2⟩) rfl
theorem m_areTwo (hM : MT I T) {x y : Int32} : xr scr (d + 2) xc_215 0 [some (.ref 58), some (.int x), some (.int y)] [] (wS, I, J, wP t dr G) Q = Q (some (.int (nI (bN (rng x (tN T) = true ∧ rng y (tN T) = true))))) (wS, I, J, wP t dr G) := by
  simp (disch := first | assumption | omega | decide | exact vp_in_nI (by omega) (by omega) | exact and1_bN _ | (simp only [pk_mul, nI_add, pred_s]; exact vp_in_nI (by omega) (by omega))) only [xs_215_0, xs_215_3, xs_215_4, xs_215_7, xs_215_8, xs_215_10, xs_215_11, m_isOne hM, Option.toList_some, Option.toList_none, List.cons_append, List.nil_append, List.append_nil, z_bN]
  by_cases h1 : rng x (tN T) = true <;> by_cases h2 : rng y (tN T) = true <;> simp [h1, h2, bN]
theorem k_ways (H : INV I J t dr G T v bk pre ss) {x y : Int32} : xr scr (d + 20) xc_93 0 [some (.ref 0), some (.int x), some (.int y)] [] (wS, I, J, wP t dr G) (AN scr (d + 20) xc_214 [some (.ref 58), some (.int x), some (.int y)]) := by
  have ht := H.1.1
  have hT := H.1.2.2.2.1
  have hM := H.1.2.2.2.2.1
  have hn := TR_n hT.1
  have hD := H.2.2.2.1
  by_cases hx : rng x (tN T) = true
  · by_cases hy : rng y (tN T) = true
    · obtain ⟨x, hx1, rfl⟩ := rng_of hx (by omega)
      obtain ⟨y, hy1, rfl⟩ := rng_of hy (by omega)
      have hh1 := H.1.2.2.2.2.2 (by omega)
      simp (disch := first | assumption | omega | decide | exact vp_in_nI (by omega) (by omega) | exact and1_bN _ | (simp only [pk_mul, nI_add, pred_s]; exact vp_in_nI (by omega) (by omega))) only [xs_93_0, xs_93_4, xs_93_5, xs_93_9, c_isOne ht hT.1, Option.toList_some, Option.toList_none, List.cons_append, List.nil_append, List.append_nil, nI_add, pk_mul, nI_ltI, nI_eq, z_eq, z_lt, z_gt, z_bN, bN_z, bN_p, bN_i1, nI_clamp, rng_nI, ↓reduceIte, if_true, if_false, not_true_eq_false, not_false_eq_true, true_and, and_true, and_self, false_and, and_false, hx1, hy1, xs_93_12]
      refine c_countWays (d := d + 9) ht hT hD.1 hD.2.1 hD.2.2.1 hD.2.2.2.2.1 hh1 hx1 hy1 (fun I2 f2 R2 => ?_)
      have H1 := INV_32 H f2
      have hM1 := H1.1.2.2.2.2.1
      simp (disch := first | assumption | omega | decide | exact vp_in_nI (by omega) (by omega) | exact and1_bN _ | (simp only [pk_mul, nI_add, pred_s]; exact vp_in_nI (by omega) (by omega))) only [Option.toList_some, Option.toList_none, List.cons_append, List.nil_append, List.append_nil, xs_93_16]
      refine AN_i ?_
      simp (disch := first | assumption | omega | decide | exact vp_in_nI (by omega) (by omega) | exact and1_bN _ | (simp only [pk_mul, nI_add, pred_s]; exact vp_in_nI (by omega) (by omega))) only [xs_214_0, m_areTwo hM1, Option.toList_some, Option.toList_none, List.cons_append, List.nil_append, List.append_nil, xs_214_4, nI_add, pk_mul, nI_ltI, nI_eq, z_eq, z_lt, z_gt, z_bN, bN_z, bN_p, bN_i1, nI_clamp, rng_nI, ↓reduceIte, if_true, if_false, not_true_eq_false, not_false_eq_true, true_and, and_true, and_self, false_and, and_false, hx1, hy1, xs_214_7]
      refine m_setRows (d := d + 7) hM1 H1.2.2.2.1.2.2.2.1 hD.2.1 hx1 hy1 (fun I3 f3 R3 => ?_)
      have H2 := INV_S H1 f3
      simp (disch := first | assumption | omega | decide | exact vp_in_nI (by omega) (by omega) | exact and1_bN _ | (simp only [pk_mul, nI_add, pred_s]; exact vp_in_nI (by omega) (by omega))) only [Option.toList_some, Option.toList_none, List.cons_append, List.nil_append, List.append_nil, xs_214_11, R3.1]
      exact ⟨rfl, PST_i H2⟩
    · simp (disch := first | assumption | omega | decide | exact vp_in_nI (by omega) (by omega) | exact and1_bN _ | (simp only [pk_mul, nI_add, pred_s]; exact vp_in_nI (by omega) (by omega))) only [xs_93_0, xs_93_4, xs_93_5, xs_93_9, xs_93_10, xs_93_12, xs_93_16, c_isOne ht hT.1, Option.toList_some, Option.toList_none, List.cons_append, List.nil_append, List.append_nil, nI_add, pk_mul, nI_ltI, nI_eq, z_eq, z_lt, z_gt, z_bN, bN_z, bN_p, bN_i1, nI_clamp, rng_nI, ↓reduceIte, if_true, if_false, not_true_eq_false, not_false_eq_true, true_and, and_true, and_self, false_and, and_false, hx, hy]
      refine AN_i ?_
      simp (disch := first | assumption | omega | decide | exact vp_in_nI (by omega) (by omega) | exact and1_bN _ | (simp only [pk_mul, nI_add, pred_s]; exact vp_in_nI (by omega) (by omega))) only [xs_214_0, xs_214_4, xs_214_5, m_areTwo hM, Option.toList_some, Option.toList_none, List.cons_append, List.nil_append, List.append_nil, nI_add, pk_mul, nI_ltI, nI_eq, z_eq, z_lt, z_gt, z_bN, bN_z, bN_p, bN_i1, nI_clamp, rng_nI, ↓reduceIte, if_true, if_false, not_true_eq_false, not_false_eq_true, true_and, and_true, and_self, false_and, and_false, hx, hy]
      first | exact PST_i H | exact ⟨trivial, PST_i H⟩ | exact ⟨rfl, PST_i H⟩
  · simp (disch := first | assumption | omega | decide | exact vp_in_nI (by omega) (by omega) | exact and1_bN _ | (simp only [pk_mul, nI_add, pred_s]; exact vp_in_nI (by omega) (by omega))) only [xs_93_0, xs_93_4, xs_93_5, xs_93_9, xs_93_10, xs_93_12, xs_93_16, c_isOne ht hT.1, Option.toList_some, Option.toList_none, List.cons_append, List.nil_append, List.append_nil, nI_add, pk_mul, nI_ltI, nI_eq, z_eq, z_lt, z_gt, z_bN, bN_z, bN_p, bN_i1, nI_clamp, rng_nI, ↓reduceIte, if_true, if_false, not_true_eq_false, not_false_eq_true, true_and, and_true, and_self, false_and, and_false, hx]
    refine AN_i ?_
    simp (disch := first | assumption | omega | decide | exact vp_in_nI (by omega) (by omega) | exact and1_bN _ | (simp only [pk_mul, nI_add, pred_s]; exact vp_in_nI (by omega) (by omega))) only [xs_214_0, xs_214_4, xs_214_5, m_areTwo hM, Option.toList_some, Option.toList_none, List.cons_append, List.nil_append, List.append_nil, nI_add, pk_mul, nI_ltI, nI_eq, z_eq, z_lt, z_gt, z_bN, bN_z, bN_p, bN_i1, nI_clamp, rng_nI, ↓reduceIte, if_true, if_false, not_true_eq_false, not_false_eq_true, true_and, and_true, and_self, false_and, and_false, hx]
    first | exact PST_i H | exact ⟨trivial, PST_i H⟩ | exact ⟨rfl, PST_i H⟩
theorem k_bars (H : INV I J t dr G T v bk pre ss) {x y : Int32} : xr scr (d + 20) xc_100 0 [some (.ref 0), some (.int x), some (.int y)] [] (wS, I, J, wP t dr G) (AN scr (d + 20) xc_218 [some (.ref 58), some (.int x), some (.int y)]) := by
  have ht := H.1.1
  have hT := H.1.2.2.2.1
  have hM := H.1.2.2.2.2.1
  have hn := TR_n hT.1
  have hD := H.2.2.2.1
  by_cases hx : rng x (tN T) = true
  · by_cases hy : rng y (tN T) = true
    · obtain ⟨x, hx1, rfl⟩ := rng_of hx (by omega)
      obtain ⟨y, hy1, rfl⟩ := rng_of hy (by omega)
      have hh1 := H.1.2.2.2.2.2 (by omega)
      simp (disch := first | assumption | omega | decide | exact vp_in_nI (by omega) (by omega) | exact and1_bN _ | (simp only [pk_mul, nI_add, pred_s]; exact vp_in_nI (by omega) (by omega))) only [xs_100_0, xs_100_4, xs_100_5, xs_100_9, c_isOne ht hT.1, Option.toList_some, Option.toList_none, List.cons_append, List.nil_append, List.append_nil, nI_add, pk_mul, nI_ltI, nI_eq, z_eq, z_lt, z_gt, z_bN, bN_z, bN_p, bN_i1, nI_clamp, rng_nI, ↓reduceIte, if_true, if_false, not_true_eq_false, not_false_eq_true, true_and, and_true, and_self, false_and, and_false, hx1, hy1, xs_100_12]
      refine c_countWays (d := d + 9) ht hT hD.1 hD.2.1 hD.2.2.1 hD.2.2.2.2.1 hh1 hx1 hy1 (fun I2 f2 R2 => ?_)
      have H1 := INV_32 H f2
      have hM1 := H1.1.2.2.2.2.1
      simp (disch := first | assumption | omega | decide | exact vp_in_nI (by omega) (by omega) | exact and1_bN _ | (simp only [pk_mul, nI_add, pred_s]; exact vp_in_nI (by omega) (by omega))) only [Option.toList_some, Option.toList_none, List.cons_append, List.nil_append, List.append_nil, xs_100_16]
      rw [R2.2.2, sb_one x (by omega), sb_one y (by omega), bs_one hx1, bs_one hy1, sb_not hn, sb_not hn]
      refine AN_i ?_
      simp (disch := first | assumption | omega | decide | exact vp_in_nI (by omega) (by omega) | exact and1_bN _ | (simp only [pk_mul, nI_add, pred_s]; exact vp_in_nI (by omega) (by omega))) only [xs_218_0, m_areTwo hM1, Option.toList_some, Option.toList_none, List.cons_append, List.nil_append, List.append_nil, xs_218_4, nI_add, pk_mul, nI_ltI, nI_eq, z_eq, z_lt, z_gt, z_bN, bN_z, bN_p, bN_i1, nI_clamp, rng_nI, ↓reduceIte, if_true, if_false, not_true_eq_false, not_false_eq_true, true_and, and_true, and_self, false_and, and_false, hx1, hy1, xs_218_7]
      refine m_setRows (d := d + 7) hM1 H1.2.2.2.1.2.2.2.1 hD.2.1 hx1 hy1 (fun I3 f3 R3 => ?_)
      have H2 := INV_S H1 f3
      simp (disch := first | assumption | omega | decide | exact vp_in_nI (by omega) (by omega) | exact and1_bN _ | (simp only [pk_mul, nI_add, pred_s]; exact vp_in_nI (by omega) (by omega))) only [Option.toList_some, Option.toList_none, List.cons_append, List.nil_append, List.append_nil, xs_218_11, R3.2.2.1]
      rw [sb_one x (by omega), sb_one y (by omega), sb_or, bs_one hx1, bs_one hy1, bs_or, sb_not hn]
      refine ⟨?_, PST_i H2⟩
      congr 3
      refine bs_c (fun z _ => ?_)
      rw [Bool.not_or, Bool.and_assoc]
      rfl
    · simp (disch := first | assumption | omega | decide | exact vp_in_nI (by omega) (by omega) | exact and1_bN _ | (simp only [pk_mul, nI_add, pred_s]; exact vp_in_nI (by omega) (by omega))) only [xs_100_0, xs_100_4, xs_100_5, xs_100_9, xs_100_10, xs_100_12, xs_100_16, c_isOne ht hT.1, Option.toList_some, Option.toList_none, List.cons_append, List.nil_append, List.append_nil, nI_add, pk_mul, nI_ltI, nI_eq, z_eq, z_lt, z_gt, z_bN, bN_z, bN_p, bN_i1, nI_clamp, rng_nI, ↓reduceIte, if_true, if_false, not_true_eq_false, not_false_eq_true, true_and, and_true, and_self, false_and, and_false, hx, hy]
      refine AN_i ?_
      simp (disch := first | assumption | omega | decide | exact vp_in_nI (by omega) (by omega) | exact and1_bN _ | (simp only [pk_mul, nI_add, pred_s]; exact vp_in_nI (by omega) (by omega))) only [xs_218_0, xs_218_4, xs_218_5, m_areTwo hM, Option.toList_some, Option.toList_none, List.cons_append, List.nil_append, List.append_nil, nI_add, pk_mul, nI_ltI, nI_eq, z_eq, z_lt, z_gt, z_bN, bN_z, bN_p, bN_i1, nI_clamp, rng_nI, ↓reduceIte, if_true, if_false, not_true_eq_false, not_false_eq_true, true_and, and_true, and_self, false_and, and_false, hx, hy]
      first | exact PST_i H | exact ⟨trivial, PST_i H⟩ | exact ⟨rfl, PST_i H⟩
  · simp (disch := first | assumption | omega | decide | exact vp_in_nI (by omega) (by omega) | exact and1_bN _ | (simp only [pk_mul, nI_add, pred_s]; exact vp_in_nI (by omega) (by omega))) only [xs_100_0, xs_100_4, xs_100_5, xs_100_9, xs_100_10, xs_100_12, xs_100_16, c_isOne ht hT.1, Option.toList_some, Option.toList_none, List.cons_append, List.nil_append, List.append_nil, nI_add, pk_mul, nI_ltI, nI_eq, z_eq, z_lt, z_gt, z_bN, bN_z, bN_p, bN_i1, nI_clamp, rng_nI, ↓reduceIte, if_true, if_false, not_true_eq_false, not_false_eq_true, true_and, and_true, and_self, false_and, and_false, hx]
    refine AN_i ?_
    simp (disch := first | assumption | omega | decide | exact vp_in_nI (by omega) (by omega) | exact and1_bN _ | (simp only [pk_mul, nI_add, pred_s]; exact vp_in_nI (by omega) (by omega))) only [xs_218_0, xs_218_4, xs_218_5, m_areTwo hM, Option.toList_some, Option.toList_none, List.cons_append, List.nil_append, List.append_nil, nI_add, pk_mul, nI_ltI, nI_eq, z_eq, z_lt, z_gt, z_bN, bN_z, bN_p, bN_i1, nI_clamp, rng_nI, ↓reduceIte, if_true, if_false, not_true_eq_false, not_false_eq_true, true_and, and_true, and_self, false_and, and_false, hx]
    first | exact PST_i H | exact ⟨trivial, PST_i H⟩ | exact ⟨rfl, PST_i H⟩
end CALLS6
