/-! call: digest, the rest -/
def abt (T : TN) (v x j : Nat) : Nat := if j = 0 then tK T x else if j = 1 then tF T x else lim T v x
def dp3 (T : TN) (v x : Nat) : Nat → Int64 → Int64 := itr (fun j y => mx y (nI (abt T v x j)))
def dpS (T : TN) (x : Nat) : Nat → Int64 → Int64 := itr (fun u y => mx y (tS T x u))
def dpp (T : TN) (v : Nat) : Nat → Int64 → Int64 := itr (fun x y => dpS T x (tH T) (dp3 T v x 3 y))
def dhd (f : Nat → Int32) : Nat → Int64 → Int64 := itr (fun i y => mx y (f i))
def dsg (I : Nat → Nat → Int32) : Nat → Int64 → Int64 := itr (fun k y => mx (mx (mx y (I 29 k)) (I 30 k)) (I 31 k))
def dkp (I : Nat → Nat → Int32) : Nat → Int64 → Int64 := itr (fun k y => mx y (I (52 + 2 * k) 2))
def dcn (z : Nat → Int32) : Nat → Int64 → Int64 := itr (fun k y => mx y (z k))
section DIGEST2
variable {scr : xi_X} {d : Nat} {Q : Option Value → xi_S → Prop} {I I2 I3 I4 : Nat → Nat → Int32} {J J2 : Nat → Nat → Int64} {t dr : Nat} {G G2 : Nat → Nat} {T : TN} {v v2 : Nat} {bk bk2 : Bool} {pre pre2 : List Nat} {ss ss2 : List SGT}
theorem c_digPeople (H : INV I J t dr G T v bk pre ss) {y : Int64} : xr scr (d + 4) xc_150 0 [some (.ref 0), some (.long y), none, none, none, none, none] [] (wS, I, J, wP t dr G) Q = Q (some (.long (dpp T v (tN T) y))) (wS, I, J, wP t dr G) := by
  have ht := H.1.1
  have hT := H.1.2.2.2.1
  have hn := TR_n hT.1
  have hh5 := TR_h hT.1
  rw [xs_150_0]
  refine up_0 (P := fun x => ∀ o6 : Option Value, xr scr (d + 4) xc_150 4 [some (.ref 0), some (.long y), none, some (.long (dpp T v x y)), none, some (.int (nI x)), o6] [] (wS, I, J, wP t dr G) Q = Q (some (.long (dpp T v (tN T) y))) (wS, I, J, wP t dr G)) (tN T) (fun x hx h o6 => ?_) (fun o6 => ?_) none
  · rw [xs_150_4 ht, TR_1 hT.1, if_pos ((nI_ltI (by omega) (by omega)).mpr hx), xs_150_9]
    refine up_0 (P := fun j => xr scr (d + 4) xc_150 11 [some (.ref 0), some (.long y), none, some (.long (dp3 T v x j (dpp T v x y))), none, some (.int (nI x)), some (.int (nI j))] [] (wS, I, J, wP t dr G) Q = Q (some (.long (dpp T v (tN T) y))) (wS, I, J, wP t dr G)) 3 (fun j hj h2 => ?_) ?_
    · rw [xs_150_11, if_neg (fun e => by have := (nI_ltI (by omega) (by omega)).mp e; omega), xs_150_14, c_about H hx hj]
      simp (disch := first | assumption | omega | decide | exact vp_in_nI (by omega) (by omega) | exact and1_bN _ | (simp only [pk_mul, nI_add, pred_s]; exact vp_in_nI (by omega) (by omega))) only [Option.toList_some, Option.toList_none, List.cons_append, List.nil_append, List.append_nil]
      rw [xs_150_21, nI_add]
      exact h2
    · have h23 : nI 2 < nI 3 := by decide
      rw [xs_150_11, if_pos h23, xs_150_26]
      refine up_0 (P := fun u => xr scr (d + 4) xc_150 28 [some (.ref 0), some (.long y), none, some (.long (dpS T x u (dp3 T v x 3 (dpp T v x y)))), none, some (.int (nI x)), some (.int (nI u))] [] (wS, I, J, wP t dr G) Q = Q (some (.long (dpp T v (tN T) y))) (wS, I, J, wP t dr G)) (tH T) (fun u hu h3 => ?_) ?_
      · rw [xs_150_28 ht, TR_0 hT.1, if_pos ((nI_ltI (by omega) (by omega)).mpr hu), xs_150_33 ht, c_spotOf ht hT.1 hx hu]
        simp (disch := first | assumption | omega | decide | exact vp_in_nI (by omega) (by omega) | exact and1_bN _ | (simp only [pk_mul, nI_add, pred_s]; exact vp_in_nI (by omega) (by omega))) only [Option.toList_some, Option.toList_none, List.cons_append, List.nil_append, List.append_nil]
        rw [xs_150_41, nI_add]
        exact h3
      · rw [xs_150_28 ht, TR_0 hT.1, if_neg (fun e => by have := (nI_ltI (by omega) (by omega)).mp e; omega), xs_150_46, nI_add]
        exact h _
  · rw [xs_150_4 ht, TR_1 hT.1, if_neg (fun e => by have := (nI_ltI (by omega) (by omega)).mp e; omega), xs_150_48]
theorem m_digPeople (hM : MT I T) (hV : I 58 16 = nI v) {y : Int64} (hq : ∀ o : Option Value, xr scr (d + 4) xc_256 43 [some (.ref 58), some (.int (nI (tN T))), o] [] (wS, I, xi_up J 58 33 (dpp T v (tN T) y), wP t dr G) Q) : ∀ o : Option Value, xr scr (d + 4) xc_256 10 [some (.ref 58), some (.int (nI 0)), o] [] (wS, I, xi_up J 58 33 y, wP t dr G) Q := by
  intro o
  have hn := MT_n hM
  have hh5 := MT_h hM
  refine up_0 (P := fun x => ∀ o6 : Option Value, xr scr (d + 4) xc_256 10 [some (.ref 58), some (.int (nI x)), o6] [] (wS, I, xi_up J 58 33 (dpp T v x y), wP t dr G) Q) (tN T) (fun x hx h o6 => ?_) (fun o6 => ?_) o
  · rw [xs_256_10, MT_10 hM, if_pos ((nI_ltI (by omega) (by omega)).mpr hx), xs_256_14]
    refine up_0 (P := fun j => xr scr (d + 4) xc_256 16 [some (.ref 58), some (.int (nI x)), some (.int (nI j))] [] (wS, I, xi_up J 58 33 (dp3 T v x j (dpp T v x y)), wP t dr G) Q) 3 (fun j hj h2 => ?_) ?_
    · rw [xs_256_16, if_neg (fun e => by have := (nI_ltI (by omega) (by omega)).mp e; omega), xs_256_19, m_personOf hM hV hx hj]
      simp (disch := first | assumption | omega | decide | exact vp_in_nI (by omega) (by omega) | exact and1_bN _ | (simp only [pk_mul, nI_add, pred_s]; exact vp_in_nI (by omega) (by omega))) only [Option.toList_some, Option.toList_none, List.cons_append, List.nil_append, List.append_nil]
      rw [xs_256_24, m_mix]
      simp (disch := first | assumption | omega | decide | exact vp_in_nI (by omega) (by omega) | exact and1_bN _ | (simp only [pk_mul, nI_add, pred_s]; exact vp_in_nI (by omega) (by omega))) only [Option.toList_some, Option.toList_none, List.cons_append, List.nil_append, List.append_nil]
      rw [xs_256_25, nI_add]
      exact h2
    · have h23 : nI 2 < nI 3 := by decide
      rw [xs_256_16, if_pos h23, xs_256_27]
      refine up_0 (P := fun u => xr scr (d + 4) xc_256 29 [some (.ref 58), some (.int (nI x)), some (.int (nI u))] [] (wS, I, xi_up J 58 33 (dpS T x u (dp3 T v x 3 (dpp T v x y))), wP t dr G) Q) (tH T) (fun u hu h3 => ?_) ?_
      · rw [xs_256_29, MT_11 hM, if_pos ((nI_ltI (by omega) (by omega)).mpr hu), xs_256_33, m_placeOf hM hx hu]
        simp (disch := first | assumption | omega | decide | exact vp_in_nI (by omega) (by omega) | exact and1_bN _ | (simp only [pk_mul, nI_add, pred_s]; exact vp_in_nI (by omega) (by omega))) only [Option.toList_some, Option.toList_none, List.cons_append, List.nil_append, List.append_nil]
        rw [xs_256_38, m_mix]
        simp (disch := first | assumption | omega | decide | exact vp_in_nI (by omega) (by omega) | exact and1_bN _ | (simp only [pk_mul, nI_add, pred_s]; exact vp_in_nI (by omega) (by omega))) only [Option.toList_some, Option.toList_none, List.cons_append, List.nil_append, List.append_nil]
        rw [xs_256_39, nI_add]
        exact h3
      · rw [xs_256_29, MT_11 hM, if_neg (fun e => by have := (nI_ltI (by omega) (by omega)).mp e; omega), xs_256_41, nI_add]
        exact h _
  · rw [xs_256_10, MT_10 hM, if_neg (fun e => by have := (nI_ltI (by omega) (by omega)).mp e; omega)]
    exact hq _
theorem c_digHands (H : INV I J t dr G T v bk pre ss) {y : Int64} (hq : ∀ i : Int32, xr scr (d + 5) xc_149 63 [some (.ref 0), some (.long (dhd (I 26) pre.length y)), none, some (.int i)] [] (wS, I, J, wP t dr G) Q) : xr scr (d + 5) xc_149 42 [some (.ref 0), some (.long y), none, some (.int (nI 0))] [] (wS, I, J, wP t dr G) Q := by
  have hh5 := TR_h H.1.2.2.2.1.1
  rcases day_cases H.2.2.2.1 with ⟨hp, h1, h2⟩ | ⟨u, hu, h1, h2, hu2⟩
  · rw [xs_149_42, h1, if_pos (by decide)]
    rw [hp] at hq
    exact hq _
  · rw [hu] at hq
    refine up_0 (P := fun i => xr scr (d + 5) xc_149 42 [some (.ref 0), some (.long (dhd (I 26) i y)), none, some (.int (nI i))] [] (wS, I, J, wP t dr G) Q) (u + 1) (fun i hi h => ?_) ?_
    · rw [xs_149_42, h1, if_neg (fun e => by have := (nI_ltI (by omega) (by omega)).mp e; omega), xs_149_47, if_pos ((nI_ltI (by omega) (by omega)).mpr (show i < 6 by omega)), xs_149_50 (vp_in_nI (show i < 6 by omega) (by omega)), nI_clamp (by omega), nI_add]
      exact h
    · rw [xs_149_42, h1, if_pos ((nI_ltI (by omega) (by omega)).mpr (by omega))]
      exact hq _
theorem m_digHands (H : INV I J2 t dr G T v bk pre ss) {y : Int64} (hq : ∀ (i : Int32) (o : Option Value), xr scr (d + 4) xc_256 57 [some (.ref 58), some (.int i), o] [] (wS, I, xi_up J 58 33 (dhd (I 26) pre.length y), wP t dr G) Q) (o : Option Value) : xr scr (d + 4) xc_256 45 [some (.ref 58), some (.int (nI 0)), o] [] (wS, I, xi_up J 58 33 y, wP t dr G) Q := by
  have hh5 := TR_h H.1.2.2.2.1.1
  have h66 := H.2.2.2.1.2.2.2.2.2.2.2.2.2.2
  rcases day_cases H.2.2.2.1 with ⟨hp, h1, h2⟩ | ⟨u, hu, h1, h2, hu2⟩
  · rw [xs_256_45, h2, if_pos (by decide)]
    rw [hp] at hq
    exact hq _ _
  · rw [hu] at hq
    refine up_0 (P := fun i => xr scr (d + 4) xc_256 45 [some (.ref 58), some (.int (nI i)), o] [] (wS, I, xi_up J 58 33 (dhd (I 26) i y), wP t dr G) Q) (u + 1) (fun i hi h => ?_) ?_
    · rw [xs_256_45, h2, if_neg (fun e => by have := (nI_ltI (by omega) (by omega)).mp e; omega), xs_256_49 (vp_in_nI (show i < 6 by omega) (by omega)), nI_clamp (by omega), m_mix, ← h66 i (by omega)]
      simp (disch := first | assumption | omega | decide | exact vp_in_nI (by omega) (by omega) | exact and1_bN _ | (simp only [pk_mul, nI_add, pred_s]; exact vp_in_nI (by omega) (by omega))) only [Option.toList_some, Option.toList_none, List.cons_append, List.nil_append, List.append_nil]
      rw [xs_256_55, nI_add]
      exact h
    · rw [xs_256_45, h2, if_pos ((nI_ltI (by omega) (by omega)).mpr (by omega))]
      exact hq _ _
theorem c_digSights (H : INV I J t dr G T v bk pre ss) {y : Int64} (hq : ∀ i : Int32, xr scr (d + 5) xc_149 108 [some (.ref 0), some (.long (dsg I ss.length y)), none, some (.int i)] [] (wS, I, J, wP t dr G) Q) : xr scr (d + 5) xc_149 65 [some (.ref 0), some (.long y), none, some (.int (nI 0))] [] (wS, I, J, wP t dr G) Q := by
  have hl := H.2.2.2.2.2.1.1.2.1
  have h0 := H.2.2.2.2.2.1.2.1
  refine up_0 (P := fun i => xr scr (d + 5) xc_149 65 [some (.ref 0), some (.long (dsg I i y)), none, some (.int (nI i))] [] (wS, I, J, wP t dr G) Q) ss.length (fun i hi h => ?_) ?_
  · rw [xs_149_65, h0, if_pos ((nI_ltI (by omega) (by omega)).mpr hi), xs_149_70, if_pos ((nI_ltI (by omega) (by omega)).mpr (show i < 8 by omega)), xs_149_73 (vp_in_nI (show i < 8 by omega) (by omega)), nI_clamp (by omega), nI_add]
    exact h
  · rw [xs_149_65, h0, if_neg (fun e => by have := (nI_ltI (by omega) (by omega)).mp e; omega)]
    exact hq _
theorem m_digSights (H : INV I J2 t dr G T v bk pre ss) {y : Int64} (o : Option Value) (hq : ∀ (i : Int32), xr scr (d + 4) xc_256 73 [some (.ref 58), some (.int i), o] [] (wS, I, xi_up J 58 33 (dsg I ss.length y), wP t dr G) Q) : xr scr (d + 4) xc_256 59 [some (.ref 58), some (.int (nI 0)), o] [] (wS, I, xi_up J 58 33 y, wP t dr G) Q := by
  have hl := H.2.2.2.2.2.1.1.2.1
  have h32 := H.2.2.2.2.2.1.1.1
  have one : ∀ (k : Nat) (x : Int64), k < 3 * ss.length → xr scr (d + 4) xc_256 59 [some (.ref 58), some (.int (nI (k + 1))), o] [] (wS, I, xi_up J 58 33 (mx x (I 71 k)), wP t dr G) Q → xr scr (d + 4) xc_256 59 [some (.ref 58), some (.int (nI k)), o] [] (wS, I, xi_up J 58 33 x, wP t dr G) Q := fun k x hk h => by
    rw [xs_256_59, h32, pk_mul, if_pos ((nI_ltI (by omega) (by omega)).mpr hk), xs_256_65 (vp_in_nI (show k < 24 by omega) (by omega)), nI_clamp (by omega), m_mix]
    simp (disch := first | assumption | omega | decide | exact vp_in_nI (by omega) (by omega) | exact and1_bN _ | (simp only [pk_mul, nI_add, pred_s]; exact vp_in_nI (by omega) (by omega))) only [Option.toList_some, Option.toList_none, List.cons_append, List.nil_append, List.append_nil]
    rw [xs_256_71, nI_add]
    exact h
  refine up_0 (P := fun i => xr scr (d + 4) xc_256 59 [some (.ref 58), some (.int (nI (3 * i))), o] [] (wS, I, xi_up J 58 33 (dsg I i y), wP t dr G) Q) ss.length (fun i hi h => ?_) ?_
  · have a1 := H.2.2.2.2.2.1.1.2.2 i hi
    have a2 := H.2.2.2.2.2.1.2.2 i hi
    refine one _ _ (by omega) (one _ _ (by omega) (one _ _ (by omega) ?_))
    rw [a1.1, a1.2.1, a1.2.2.1, ← a2.1, ← a2.2.1, ← a2.2.2.1]
    exact h
  · rw [xs_256_59, h32, pk_mul, if_neg (fun e => by have := (nI_ltI (by omega) (by omega)).mp e; omega)]
    exact hq _
theorem c_digKept {y : Int64} (hq : ∀ i : Int32, xr scr (d + 5) xc_149 126 [some (.ref 0), some (.long (dkp I 3 y)), none, some (.int i)] [] (wS, I, J, wP t dr G) Q) : xr scr (d + 5) xc_149 110 [some (.ref 0), some (.long y), none, some (.int (nI 0))] [] (wS, I, J, wP t dr G) Q := by
  refine up_0 (P := fun i => xr scr (d + 5) xc_149 110 [some (.ref 0), some (.long (dkp I i y)), none, some (.int (nI i))] [] (wS, I, J, wP t dr G) Q) 3 (fun i hi h => ?_) ?_
  · rw [xs_149_110, if_pos ((nI_ltI (by omega) (by omega)).mpr hi), xs_149_113 (vp_in_nI hi (by omega)), nI_clamp (by omega), nI_add]
    exact h
  · have h33 : ¬ nI 3 < nI 3 := by decide
    rw [xs_149_110, if_neg h33]
    exact hq _
theorem m_digKept (H : INV I J2 t dr G T v bk pre ss) {y : Int64} (o : Option Value) (hq : ∀ (i : Int32), xr scr (d + 4) xc_256 98 [some (.ref 58), some (.int i), o] [] (wS, I, xi_up J 58 33 (dkp I 3 y), wP t dr G) Q) : xr scr (d + 4) xc_256 75 [some (.ref 58), some (.int (nI 0)), o] [] (wS, I, xi_up J 58 33 y, wP t dr G) Q := by
  have hh5 := TR_h H.1.2.2.2.1.1
  refine up_0 (P := fun i => xr scr (d + 4) xc_256 75 [some (.ref 58), some (.int (nI i)), o] [] (wS, I, xi_up J 58 33 (dkp I i y), wP t dr G) Q) 3 (fun i hi h => ?_) ?_
  · have hv10 : vp_in (nI 10 * nI i) 30 := by rw [pk_mul]; exact vp_in_nI (by omega) (by omega)
    have hc10 : (nI 10 * nI i).toNatClampNeg = 10 * i := by rw [pk_mul, nI_clamp (by omega)]
    rw [xs_256_75, if_pos ((nI_ltI (by omega) (by omega)).mpr hi), xs_256_78 hv10, hc10]
    have e : dkp I (i + 1) y = mx (dkp I i y) (I (52 + 2 * i) 2) := rfl
    rw [e] at h
    rcases H.2.2.2.2.1 i hi with ⟨h1, h2⟩ | ⟨v2, bk2, pre2, hk⟩
    · rw [h1] at h
      rw [if_pos h2, xs_256_87, xs_256_95, m_mix]
      simp (disch := first | assumption | omega | decide | exact vp_in_nI (by omega) (by omega) | exact and1_bN _ | (simp only [pk_mul, nI_add, pred_s]; exact vp_in_nI (by omega) (by omega))) only [Option.toList_some, Option.toList_none, List.cons_append, List.nil_append, List.append_nil]
      rw [xs_256_96, nI_add]
      exact h
    · have hl := hk.2.2.2.2.1
      have h9 : nI (pre2.length - 1) ≠ -9 := fun e => (m9_ne (by omega)).mp e
      rw [hk.2.2.2.2.2.1] at h
      rw [hk.2.2.2.2.2.2.1, if_neg h9, xs_256_89 hv10, hc10, xs_256_95, m_mix, hk.2.2.2.2.2.2.1]
      simp (disch := first | assumption | omega | decide | exact vp_in_nI (by omega) (by omega) | exact and1_bN _ | (simp only [pk_mul, nI_add, pred_s]; exact vp_in_nI (by omega) (by omega))) only [Option.toList_some, Option.toList_none, List.cons_append, List.nil_append, List.append_nil]
      rw [xs_256_96, nI_add]
      exact h
  · have h33 : ¬ nI 3 < nI 3 := by decide
    rw [xs_256_75, if_neg h33]
    exact hq _
theorem both_counts (H : INV I J t dr G T v bk pre ss) : ∃ z : Nat → Int32, ∀ k, k < 8 → (∀ Q : Option Value → xi_S → Prop, xr scr (d + 4) xc_144 0 [some (.ref 0), some (.int (nI k))] [] (wS, I, J, wP t dr G) Q = Q (some (.int (z k))) (wS, I, J, wP t dr G)) ∧ ∀ (J2 : Nat → Nat → Int64) (Q : Option Value → xi_S → Prop), xr scr (d + 4) xc_251 0 [some (.ref 58), some (.int (nI k)), none, none] [] (wS, I, J2, wP t dr G) Q = Q (some (.int (z k))) (wS, I, J2, wP t dr G) :=
  ⟨fun k => if hk : k < 8 then Classical.choose (both_count (d := d) (scr := scr) H hk) else 0, fun k hk => by simp only [dif_pos hk]; exact Classical.choose_spec (both_count (d := d) (scr := scr) H hk)⟩
def DG (I : Nat → Nat → Int32) (T : TN) (v : Nat) (pre : List Nat) (ss : List SGT) (z : Nat → Int32) : Int64 := dgr (I 14) (fun r i => I (10 + r) i) 4 (dgr (I 8) (fun r i => I (2 + r) i) 6 (dkp I 3 (dsg I ss.length (dhd (I 26) pre.length (dpp T v (tN T) (mx (mx (dcn z 8 17) (I 25 0)) (I 25 1)))))))
theorem m_digest (H : INV I J t dr G T v bk pre ss) {z : Nat → Int32} (hz : ∀ k, k < 8 → ∀ (J2 : Nat → Nat → Int64) (Q : Option Value → xi_S → Prop), xr scr (d + 6) xc_251 0 [some (.ref 58), some (.int (nI k)), none, none] [] (wS, I, J2, wP t dr G) Q = Q (some (.int (z k))) (wS, I, J2, wP t dr G)) (hq : Q (some (.long (DG I T v pre ss z))) (wS, I, xi_up J 58 33 (DG I T v pre ss z), wP t dr G)) : xr scr (d + 7) xc_254 0 [some (.ref 58), none, none] [] (wS, I, J, wP t dr G) Q := by
  have hM := H.1.2.2.2.2.1
  have hD := H.2.2.2.1
  have hV := hD.2.2.2.1
  rw [xs_254_0]
  refine up_0 (P := fun k => xr scr (d + 7) xc_254 5 [some (.ref 58), some (.int (nI k)), none] [] (wS, I, xi_up J 58 33 (dcn z k 17), wP t dr G) Q) 8 (fun k hk h => ?_) ?_
  · rw [xs_254_5, if_neg (fun e => by have := (nI_ltI (by omega) (by omega)).mp e; omega), xs_254_8, hz k hk]
    simp (disch := first | assumption | omega | decide | exact vp_in_nI (by omega) (by omega) | exact and1_bN _ | (simp only [pk_mul, nI_add, pred_s]; exact vp_in_nI (by omega) (by omega))) only [Option.toList_some, Option.toList_none, List.cons_append, List.nil_append, List.append_nil]
    rw [xs_254_12, m_mix]
    simp (disch := first | assumption | omega | decide | exact vp_in_nI (by omega) (by omega) | exact and1_bN _ | (simp only [pk_mul, nI_add, pred_s]; exact vp_in_nI (by omega) (by omega))) only [Option.toList_some, Option.toList_none, List.cons_append, List.nil_append, List.append_nil]
    rw [xs_254_13, nI_add]
    exact h
  · have h78 : nI 7 < nI 8 := by decide
    rw [xs_254_5, if_pos h78, xs_254_15, xs_256_0, m_mix]
    simp (disch := first | assumption | omega | decide | exact vp_in_nI (by omega) (by omega) | exact and1_bN _ | (simp only [pk_mul, nI_add, pred_s]; exact vp_in_nI (by omega) (by omega))) only [Option.toList_some, Option.toList_none, List.cons_append, List.nil_append, List.append_nil]
    rw [xs_256_4, m_mix]
    simp (disch := first | assumption | omega | decide | exact vp_in_nI (by omega) (by omega) | exact and1_bN _ | (simp only [pk_mul, nI_add, pred_s]; exact vp_in_nI (by omega) (by omega))) only [Option.toList_some, Option.toList_none, List.cons_append, List.nil_append, List.append_nil]
    rw [xs_256_8]
    refine m_digPeople (d := d + 2) hM hV.1 (fun o => ?_) none
    rw [xs_256_43]
    refine m_digHands (d := d + 2) H (fun i o => ?_) o
    rw [xs_256_57]
    refine m_digSights (d := d + 2) H o (fun i => ?_)
    rw [xs_256_73]
    refine m_digKept (d := d + 2) H o (fun i => ?_)
    rw [xs_256_98]
    simp (disch := first | assumption | omega | decide | exact vp_in_nI (by omega) (by omega) | exact and1_bN _ | (simp only [pk_mul, nI_add, pred_s]; exact vp_in_nI (by omega) (by omega))) only [Option.toList_some, Option.toList_none, List.cons_append, List.nil_append, List.append_nil]
    rw [xs_254_17]
    refine m_digRows (d := d + 4) H (fun o => ?_) none
    rw [xs_254_53]
    refine m_digTexts (d := d + 4) H (fun o => ?_) o
    rw [xs_254_93, xu_eq, hV.1, hV.2, ← hD.2.2.1, ← hD.2.2.2.2.1]
    exact hq
theorem k_digest (H : INV I J t dr G T v bk pre ss) : xr scr (d + 20) xc_149 0 [some (.ref 0), none, none, none] [] (wS, I, J, wP t dr G) (AN scr (d + 20) xc_254 [some (.ref 58), none, none]) := by
  have ht := H.1.1
  have hT := H.1.2.2.2.1
  have hM := H.1.2.2.2.2.1
  have hD := H.2.2.2.1
  obtain ⟨z, hz⟩ := both_counts (scr := scr) (d := d + 15) H
  rw [xs_149_0]
  refine up_0 (P := fun k => xr scr (d + 20) xc_149 4 [some (.ref 0), some (.long (dcn z k 17)), none, some (.int (nI k))] [] (wS, I, J, wP t dr G) (AN scr (d + 20) xc_254 [some (.ref 58), none, none])) 8 (fun k hk h => ?_) ?_
  · rw [xs_149_4, if_neg (fun e => by have := (nI_ltI (by omega) (by omega)).mp e; omega), xs_149_7, (hz k hk).1]
    simp (disch := first | assumption | omega | decide | exact vp_in_nI (by omega) (by omega) | exact and1_bN _ | (simp only [pk_mul, nI_add, pred_s]; exact vp_in_nI (by omega) (by omega))) only [Option.toList_some, Option.toList_none, List.cons_append, List.nil_append, List.append_nil]
    rw [xs_149_13, nI_add]
    exact h
  · have h78 : nI 7 < nI 8 := by decide
    rw [xs_149_4, if_pos h78, xs_149_18, c_digPeople (d := d + 15) H]
    simp (disch := first | assumption | omega | decide | exact vp_in_nI (by omega) (by omega) | exact and1_bN _ | (simp only [pk_mul, nI_add, pred_s]; exact vp_in_nI (by omega) (by omega))) only [Option.toList_some, Option.toList_none, List.cons_append, List.nil_append, List.append_nil]
    rw [xs_149_39]
    refine c_digHands (d := d + 15) H (fun i => ?_)
    rw [xs_149_63]
    refine c_digSights (d := d + 15) H (fun i2 => ?_)
    rw [xs_149_108]
    refine c_digKept (d := d + 15) (fun i3 => ?_)
    rw [xs_149_126, c_digRows H]
    simp (disch := first | assumption | omega | decide | exact vp_in_nI (by omega) (by omega) | exact and1_bN _ | (simp only [pk_mul, nI_add, pred_s]; exact vp_in_nI (by omega) (by omega))) only [Option.toList_some, Option.toList_none, List.cons_append, List.nil_append, List.append_nil]
    rw [xs_149_130, c_digTexts H]
    simp (disch := first | assumption | omega | decide | exact vp_in_nI (by omega) (by omega) | exact and1_bN _ | (simp only [pk_mul, nI_add, pred_s]; exact vp_in_nI (by omega) (by omega))) only [Option.toList_some, Option.toList_none, List.cons_append, List.nil_append, List.append_nil]
    rw [xs_149_131]
    exact AN_l (m_digest (d := d + 13) H (fun k hk => (hz k hk).2) ⟨rfl, PST_i (INV_liv H (LIV_refl I) ⟨H.2.2.2.2.2.2.2.1.1, by rw [xu_nc (by decide), xu_nj (by decide)]; exact H.2.2.2.2.2.2.2.1.2.1, by rw [xu_nc (by decide), xu_nj (by decide)]; exact H.2.2.2.2.2.2.2.1.2.2⟩ rfl)⟩)
end DIGEST2
