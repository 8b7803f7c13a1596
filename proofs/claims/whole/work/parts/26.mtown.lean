/-! THE TOWN in the reference -/
def MT (I : Nat → Nat → Int32) (T : TN) : Prop := tN T ≤ 7 ∧ tH T ≤ 5 ∧ I 58 11 = nI (tH T) ∧ I 58 10 = nI (tN T) ∧ (∀ x, x < tN T → I 65 (7 * x + 0) = nI (tK T x) ∧ tK T x ≤ 5 ∧ I 65 (7 * x + 1) = nI (tF T x) ∧ tF T x ≤ 9) ∧ (∀ x, x < tN T → ∀ u, u < tH T → I 65 (7 * x + (2 + u)) = tS T x u)
theorem MT_fr {I I2 : Nat → Nat → Int32} {T : TN} (h : MT I T) (h0 : I2 58 10 = I 58 10) (h1 : I2 58 11 = I 58 11) (h2 : I2 65 = I 65) : MT I2 T := by
  unfold MT at h ⊢
  rw [h0, h1, h2]
  exact h
def oth (T : TN) (x u : Nat) : Nat := cnt (tN T) (fun y => decide (y ≠ x) && togB T x y u)
theorem cnt_one (n : Nat) (p q : Nat → Bool) (x : Nat) (hq : ∀ y, y ≠ x → q y = p y) (hx : q x = false) (hp : p x = true) : cnt n p = cnt n q + (if x < n then 1 else 0) := by
  induction n with
  | zero => rfl
  | succ n ih =>
    rw [cnt_s, cnt_s, ih]
    by_cases h : n = x
    · subst h
      rw [if_neg (Nat.lt_irrefl n), if_pos (Nat.lt_succ_self n), bN_t hp, bN_f (by rw [hx]; decide)]
    · rw [hq n h]
      by_cases h2 : x < n
      · rw [if_pos h2, if_pos (by omega)]; omega
      · rw [if_neg h2, if_neg (by omega)]; omega
theorem oth_t (T : TN) {x u : Nat} (hx : x < tN T) : (ctog T x u = 2 ↔ oth T x u = 1) := by
  unfold ctog oth
  by_cases hs : tS T x u = -9
  · have h1 : ∀ y, togB T x y u = false := fun y => by simp [togB, hs]
    rw [cnt_c (q := fun _ => false) (fun y _ => h1 y), cnt_c (p := fun y => decide (y ≠ x) && togB T x y u) (q := fun _ => false) (fun y _ => by rw [h1 y, Bool.and_false])]
    have : ∀ n, cnt n (fun _ => false) = 0 := fun n => by
      induction n with
      | zero => rfl
      | succ n ih => rw [cnt_s, ih]; rfl
    rw [this]
    omega
  · rw [cnt_one (tN T) (fun y => togB T x y u) (fun y => decide (y ≠ x) && togB T x y u) x (fun y hy => by simp [hy]) (by simp) (by simp [togB, hs]), if_pos hx]
    omega
theorem nxt_m (T : TN) {x : Nat} (hx : x < tN T) : (x + 1) % tN T = nxt T x := by
  unfold nxt
  by_cases h : x + 1 < tN T
  · rw [if_pos h, Nat.mod_eq_of_lt h]
  · rw [if_neg h, show x + 1 = tN T by omega, Nat.mod_self]
section MTOWN
variable {scr : xi_X} {d : Nat} {Q : Option Value → xi_S → Prop} {I : Nat → Nat → Int32} {J : Nat → Nat → Int64} {t dr : Nat} {G : Nat → Nat} {a : Nat} {T : TN}
theorem MT_n (h : MT I T) : tN T ≤ 7 := h.1
theorem MT_h (h : MT I T) : tH T ≤ 5 := h.2.1
theorem MT_11 (h : MT I T) : I 58 11 = nI (tH T) := h.2.2.1
theorem MT_10 (h : MT I T) : I 58 10 = nI (tN T) := h.2.2.2.1
theorem MT_k (h : MT I T) {x : Nat} (hx : x < tN T) : I 65 (7 * x + 0) = nI (tK T x) := (h.2.2.2.2.1 x hx).1
theorem MT_k5 (h : MT I T) {x : Nat} (hx : x < tN T) : tK T x ≤ 5 := (h.2.2.2.2.1 x hx).2.1
theorem MT_f (h : MT I T) {x : Nat} (hx : x < tN T) : I 65 (7 * x + 1) = nI (tF T x) := (h.2.2.2.2.1 x hx).2.2.1
theorem MT_f9 (h : MT I T) {x : Nat} (hx : x < tN T) : tF T x ≤ 9 := (h.2.2.2.2.1 x hx).2.2.2
theorem MT_s (h : MT I T) {x u : Nat} (hx : x < tN T) (hu : u < tH T) : I 65 (7 * x + (2 + u)) = tS T x u := h.2.2.2.2.2 x hx u hu
theorem m_in {x lo hi : Int32} : xr scr d xc_156 0 [some (.int x), some (.int lo), some (.int hi)] [] (wS, I, J, wP t dr G) Q = Q (some (.int (nI (bN (¬ x < lo ∧ ¬ hi < x))))) (wS, I, J, wP t dr G) := by
  simp (disch := first | assumption | omega | decide | exact vp_in_nI (by omega) (by omega) | exact and1_bN _ | (simp only [pk_mul, nI_add]; exact vp_in_nI (by omega) (by omega))) only [xs_156_0, xs_156_3, xs_156_6, xs_156_8, xs_156_9]
  by_cases h1 : x < lo <;> by_cases h2 : hi < x <;> simp [h1, h2, bN]
theorem m1_nI : nI 0 - nI 1 = -1 := by decide
theorem lt_m1 {j : Nat} (hj : j < 2 ^ 31) : (-1 : Int32) < nI j := Int32.lt_iff_toInt_lt.mpr (by rw [nI_toInt hj]; show (-1 : Int) < _; omega)
theorem rng_m {x : Int32} {n : Nat} (hn : n < 2 ^ 31) : (¬ x < nI 0 ∧ ¬ nI n - nI 1 < x) ↔ rng x n = true := by
  rw [rng_iff, nI_0]
  by_cases h : x < 0
  · simp [h]
  · obtain ⟨j, hj, rfl⟩ := nI_of h
    cases n with
    | zero =>
      rw [m1_nI, nI_ltI hj (by decide)]
      simp only [h, lt_m1 hj, not_true_eq_false, and_false, Nat.not_lt_zero]
    | succ n =>
      rw [pk_sub (by omega), Nat.add_sub_cancel, nI_ltI hj hn, nI_ltI (by omega) hj]
      simp only [h, not_false_eq_true, true_and]
      omega
theorem rng_m0 {x : Int32} {n : Nat} (hn : n < 2 ^ 31 - 1) : (¬ x < nI 0 ∧ ¬ nI n < x) ↔ rng x (n + 1) = true := by
  rw [rng_s hn, nI_0]
theorem m_isOne (hM : MT I T) {x : Int32} : xr scr (d + 1) xc_179 0 [some (.ref 58), some (.int x)] [] (wS, I, J, wP t dr G) Q = Q (some (.int (nI (bN (rng x (tN T) = true))))) (wS, I, J, wP t dr G) := by
  have hn := MT_n hM
  simp (disch := first | assumption | omega | decide | exact vp_in_nI (by omega) (by omega) | exact and1_bN _ | (simp only [pk_mul, nI_add]; exact vp_in_nI (by omega) (by omega))) only [xs_179_0, xs_179_7, m_in, Option.toList_some, Option.toList_none, List.cons_append, List.nil_append, List.append_nil, MT_10 hM, bN_c (rng_m (n := tN T) (x := x) (by omega))]
theorem m_isHour (hM : MT I T) {x : Int32} : xr scr (d + 1) xc_184 0 [some (.ref 58), some (.int x)] [] (wS, I, J, wP t dr G) Q = Q (some (.int (nI (bN (rng x (tH T) = true))))) (wS, I, J, wP t dr G) := by
  have hn := MT_h hM
  simp (disch := first | assumption | omega | decide | exact vp_in_nI (by omega) (by omega) | exact and1_bN _ | (simp only [pk_mul, nI_add]; exact vp_in_nI (by omega) (by omega))) only [xs_184_0, xs_184_7, m_in, Option.toList_some, Option.toList_none, List.cons_append, List.nil_append, List.append_nil, MT_11 hM, bN_c (rng_m (n := tH T) (x := x) (by omega))]
theorem m_isTime (hM : MT I T) {x : Int32} : xr scr (d + 1) xc_221 0 [some (.ref 58), some (.int x)] [] (wS, I, J, wP t dr G) Q = Q (some (.int (nI (bN (rng x (tH T + 1) = true))))) (wS, I, J, wP t dr G) := by
  have hn := MT_h hM
  simp (disch := first | assumption | omega | decide | exact vp_in_nI (by omega) (by omega) | exact and1_bN _ | (simp only [pk_mul, nI_add]; exact vp_in_nI (by omega) (by omega))) only [xs_221_0, xs_221_5, m_in, Option.toList_some, Option.toList_none, List.cons_append, List.nil_append, List.append_nil, MT_11 hM, bN_c (rng_m0 (n := tH T) (x := x) (by omega))]
theorem m_of {x j : Nat} (hx : x < 7) (hj : j < 7) : xr scr d xc_182 0 [some (.ref 58), some (.int (nI x)), some (.int (nI j))] [] (wS, I, J, wP t dr G) Q = Q (some (.int (I 65 (7 * x + j)))) (wS, I, J, wP t dr G) := by
  simp (disch := first | assumption | omega | decide | exact vp_in_nI (by omega) (by omega) | exact and1_bN _ | (simp only [pk_mul, nI_add]; exact vp_in_nI (by omega) (by omega))) only [xs_182_0, nI_add, pk_mul, nI_ltI, nI_eq, z_eq, z_lt, z_gt, z_bN, bN_z, bN_p, nI_clamp, rng_nI, ↓reduceIte, if_true, if_false, not_true_eq_false, not_false_eq_true, true_and, and_true, and_self, false_and, and_false]
theorem m_placeOf (hM : MT I T) {x u : Nat} (hx : x < tN T) (hu : u < tH T) : xr scr (d + 1) xc_185 0 [some (.ref 58), some (.int (nI x)), some (.int (nI u))] [] (wS, I, J, wP t dr G) Q = Q (some (.int (tS T x u))) (wS, I, J, wP t dr G) := by
  have hn := MT_n hM
  have hh := MT_h hM
  simp (disch := first | assumption | omega | decide | exact vp_in_nI (by omega) (by omega) | exact and1_bN _ | (simp only [pk_mul, nI_add]; exact vp_in_nI (by omega) (by omega))) only [xs_185_0, xs_185_6, nI_add, m_of, Option.toList_some, Option.toList_none, List.cons_append, List.nil_append, List.append_nil, MT_s hM hx hu]
theorem m_others (hM : MT I T) {x u : Nat} (hx : x < tN T) (hu : u < tH T) : xr scr (d + 2) xc_188 0 [some (.ref 58), some (.int (nI x)), some (.int (nI u)), none, none] [] (wS, I, J, wP t dr G) Q = Q (some (.int (nI (oth T x u)))) (wS, I, J, wP t dr G) := by
  have hn := MT_n hM
  rw [xs_188_0]
  refine up_0 (P := fun y => xr scr (d + 2) xc_188 4 [some (.ref 58), some (.int (nI x)), some (.int (nI u)), some (.int (nI (cnt y (fun y => decide (y ≠ x) && togB T x y u)))), some (.int (nI y))] [] (wS, I, J, wP t dr G) Q = Q (some (.int (nI (oth T x u)))) (wS, I, J, wP t dr G)) (tN T) (fun y hy h => ?_) ?_
  · rw [xs_188_4]
    simp (disch := first | assumption | omega | decide | exact vp_in_nI (by omega) (by omega) | exact and1_bN _ | (simp only [pk_mul, nI_add]; exact vp_in_nI (by omega) (by omega))) only [xs_188_0, xs_188_8, xs_188_12, xs_188_16, xs_188_18, xs_188_22, xs_188_26, xs_188_27, xs_188_29, xs_188_30, xs_188_34, MT_10 hM, m_placeOf hM hx hu, m_placeOf hM hy hu, Option.toList_some, Option.toList_none, List.cons_append, List.nil_append, List.append_nil, nI_add, pk_mul, nI_ltI, nI_eq, z_eq, z_lt, z_gt, z_bN, bN_z, bN_p, nI_clamp, rng_nI, ↓reduceIte, if_true, if_false, not_true_eq_false, not_false_eq_true, true_and, and_true, and_self, false_and, and_false, hy]
    by_cases h1 : y = x
    · simp only [cnt_s, bN_f (p := (decide (y ≠ x) && togB T x y u) = true) (by simp [h1])] at h
      simp only [h1, ↓reduceIte] at h ⊢
      exact h
    · by_cases h2 : tS T x u = -9
      · simp only [cnt_s, bN_f (p := (decide (y ≠ x) && togB T x y u) = true) (by simp [h2, togB])] at h
        simp only [h1, h2, ↓reduceIte] at h ⊢
        exact h
      · by_cases h3 : tS T x u = tS T y u
        · have h4 : ¬ tS T y u = -9 := h3 ▸ h2
          simp only [cnt_s, bN_t (p := (decide (y ≠ x) && togB T x y u) = true) (by simp [h4, h1, h3, togB])] at h
          simp only [h1, h4, h3, ↓reduceIte] at h ⊢
          exact h
        · have h4 : ¬ tS T y u = tS T x u := fun e => h3 e.symm
          simp only [cnt_s, bN_f (p := (decide (y ≠ x) && togB T x y u) = true) (by simp [h3, togB])] at h
          simp only [h1, h2, h4, ↓reduceIte] at h ⊢
          exact h
  · rw [xs_188_4]
    simp (disch := first | assumption | omega | decide | exact vp_in_nI (by omega) (by omega) | exact and1_bN _ | (simp only [pk_mul, nI_add]; exact vp_in_nI (by omega) (by omega))) only [xs_188_0, xs_188_8, xs_188_12, xs_188_16, xs_188_18, xs_188_22, xs_188_26, xs_188_27, xs_188_29, xs_188_30, xs_188_34, MT_10 hM, Option.toList_some, Option.toList_none, List.cons_append, List.nil_append, List.append_nil, nI_add, pk_mul, nI_ltI, nI_eq, z_eq, z_lt, z_gt, z_bN, bN_z, bN_p, nI_clamp, rng_nI, ↓reduceIte, if_true, if_false, not_true_eq_false, not_false_eq_true, true_and, and_true, and_self, false_and, and_false, Nat.lt_irrefl]
    rfl
theorem m_mg80 {x1 x2 x3 x6 : Int32} {A B C : Prop} [Decidable A] [Decidable B] [Decidable C] : xr scr d xc_193 80 [some (.ref 58), some (.int x1), some (.int x2), some (.int x3), some (.int (nI (bN A))), some (.int (nI (bN B))), some (.int x6), none] [.int (nI (bN C))] (wS, I, J, wP t dr G) Q = Q (some (.int (nI (bN (A ∧ B ∧ C))))) (wS, I, J, wP t dr G) := by
  simp (disch := first | assumption | omega | decide | exact vp_in_nI (by omega) (by omega) | exact and1_bN _ | (simp only [pk_mul, nI_add]; exact vp_in_nI (by omega) (by omega))) only [xs_193_80, xs_193_83, xs_193_85, xs_193_87, xs_193_89, xs_193_90, z_bN]
  by_cases h1 : A <;> by_cases h2 : B <;> by_cases h3 : C <;> simp [h1, h2, h3, bN]
def tks (T : TN) (x y u : Nat) : Prop := (tK T y = 1 ∧ x < y) ∨ (tK T y = 2 ∧ oth T y u = 1) ∨ (tK T y ≠ 1 ∧ tK T y ≠ 2 ∧ (tK T y ≠ 5 ∨ tK T x ≠ 4))
theorem m_mg44 (hM : MT I T) {x y u : Nat} (hx : x < tN T) (hy : y < tN T) (hu : u < tH T) {A B C : Prop} [Decidable A] [Decidable B] [Decidable C] (hC : C ↔ tks T x y u) : xr scr (d + 3) xc_193 44 [some (.ref 58), some (.int (nI x)), some (.int (nI y)), some (.int (nI u)), some (.int (nI (bN A))), some (.int (nI (bN B))), none, none] [.int (nI (tK T y))] (wS, I, J, wP t dr G) Q = Q (some (.int (nI (bN (A ∧ B ∧ C))))) (wS, I, J, wP t dr G) := by
  have hn := MT_n hM
  have hk := MT_k5 hM hx
  have hk2 := MT_k5 hM hy
  have ho : oth T y u ≤ 7 := Nat.le_trans (cnt_le _ _) hn
  have hc1 : C → bN C = 1 := bN_t
  have hc0 : ¬ C → bN C = 0 := bN_f
  have h1 : ∀ b, b = bN C → xr scr (d + 3) xc_193 80 [some (.ref 58), some (.int (nI x)), some (.int (nI y)), some (.int (nI u)), some (.int (nI (bN A))), some (.int (nI (bN B))), some (.int (nI (tK T y))), none] [.int (nI b)] (wS, I, J, wP t dr G) Q = Q (some (.int (nI (bN (A ∧ B ∧ C))))) (wS, I, J, wP t dr G) := fun b e => by rw [e, m_mg80]
  simp (disch := first | assumption | omega | decide | exact vp_in_nI (by omega) (by omega) | exact and1_bN _ | (simp only [pk_mul, nI_add]; exact vp_in_nI (by omega) (by omega))) only [xs_193_44, xs_193_48, xs_193_51, xs_193_53, xs_193_55, xs_193_58, xs_193_62, xs_193_64, xs_193_66, xs_193_68, xs_193_71, xs_193_75, xs_193_77, xs_193_79, m_others hM hy hu, m_of, MT_k hM hx, Option.toList_some, Option.toList_none, List.cons_append, List.nil_append, List.append_nil, nI_add, pk_mul, nI_ltI, nI_eq, z_eq, z_lt, z_gt, z_bN, bN_z, bN_p, nI_clamp, rng_nI, ↓reduceIte, if_true, if_false, not_true_eq_false, not_false_eq_true, true_and, and_true, and_self, false_and, and_false]
  unfold tks at hC
  (repeat' split) <;> refine h1 _ ?_ <;> first | (rw [hc1 (hC.mpr (by omega))]) | (rw [hc0 (fun e => by have := hC.mp e; omega)])
theorem m_mayGive (hM : MT I T) {x y u : Nat} (hx : x < tN T) (hy : y < tN T) (hu : u < tH T) : xr scr (d + 3) xc_193 0 [some (.ref 58), some (.int (nI x)), some (.int (nI y)), some (.int (nI u)), none, none, none, none] [] (wS, I, J, wP t dr G) Q = Q (some (.int (nI (bN (mayB T x y u = true))))) (wS, I, J, wP t dr G) := by
  have hn := MT_n hM
  have hk := MT_k5 hM hx
  have hk2 := MT_k5 hM hy
  have hnx := nxt_m T hx
  have hn0 : ¬ I 58 10 = 0 := by rw [MT_10 hM]; exact nI_ne0 (by omega) (by omega)
  have hrem : nI (x + 1) - nI (x + 1) / nI (tN T) * nI (tN T) = nI (nxt T x) := by rw [pk_rem (by omega) (by omega) (by omega), hnx]
  have hnl : nxt T x < 8 := by unfold nxt; split <;> omega
  obtain ⟨A, hA⟩ : ∃ A : Bool, A = (decide (x ≠ y) && togB T x y u) := ⟨_, rfl⟩
  obtain ⟨B, hB⟩ : ∃ B : Bool, B = (decide (tK T x ≠ 4) || decide (y = nxt T x)) := ⟨_, rfl⟩
  obtain ⟨C, hC⟩ : ∃ C : Bool, (C = true ↔ tks T x y u) := by
    by_cases h : tks T x y u
    · exact ⟨true, by simp [h]⟩
    · exact ⟨false, by simp [h]⟩
  have e : bN (mayB T x y u = true) = bN (A = true ∧ B = true ∧ C = true) := bN_c (by
    have ho := oth_t T (x := y) (u := u) hy
    rw [hA, hB, hC]
    unfold tks mayB
    simp only [Bool.and_eq_true, Bool.or_eq_true, decide_eq_true_eq, ← ho]
    grind)
  rw [e]
  have h2 : ∀ a b, a = bN (A = true) → b = bN (B = true) → xr scr (d + 3) xc_193 44 [some (.ref 58), some (.int (nI x)), some (.int (nI y)), some (.int (nI u)), some (.int (nI a)), some (.int (nI b)), none, none] [.int (nI (tK T y))] (wS, I, J, wP t dr G) Q = Q (some (.int (nI (bN (A = true ∧ B = true ∧ C = true))))) (wS, I, J, wP t dr G) := fun a b ea eb => by
    rw [ea, eb, m_mg44 hM hx hy hu hC]
  have h3 : ∀ a, a = bN (A = true) → xr scr (d + 3) xc_193 21 [some (.ref 58), some (.int (nI x)), some (.int (nI y)), some (.int (nI u)), none, none, none, none] [.int (nI a)] (wS, I, J, wP t dr G) Q = Q (some (.int (nI (bN (A = true ∧ B = true ∧ C = true))))) (wS, I, J, wP t dr G) := fun a ea => by
    simp (disch := first | assumption | omega | decide | exact vp_in_nI (by omega) (by omega) | exact and1_bN _ | (simp only [pk_mul, nI_add]; exact vp_in_nI (by omega) (by omega))) only [xs_193_21, xs_193_26, xs_193_28, xs_193_36, xs_193_38, xs_193_39, m_of, MT_k hM hx, MT_k hM hy, MT_10 hM, hrem, Option.toList_some, Option.toList_none, List.cons_append, List.nil_append, List.append_nil, nI_add, pk_mul, nI_ltI, nI_eq, z_eq, z_lt, z_gt, z_bN, bN_z, bN_p, nI_clamp, rng_nI, ↓reduceIte, if_true, if_false, not_true_eq_false, not_false_eq_true, true_and, and_true, and_self, false_and, and_false]
    by_cases h4 : tK T x = 4
    · by_cases h5 : y = nxt T x
      · simp only [h4, h5.symm, ↓reduceIte]; exact h2 _ _ ea (by rw [hB]; simp [bN, h4, h5.symm])
      · simp only [h4, h5, ↓reduceIte]; exact h2 _ _ ea (by rw [hB]; simp [bN, h4, h5])
    · simp only [h4, ↓reduceIte]; exact h2 _ _ ea (by rw [hB]; simp [bN, h4])
  simp (disch := first | assumption | omega | decide | exact vp_in_nI (by omega) (by omega) | exact and1_bN _ | (simp only [pk_mul, nI_add]; exact vp_in_nI (by omega) (by omega))) only [xs_193_0, xs_193_3, xs_193_7, xs_193_9, xs_193_13, xs_193_17, xs_193_18, xs_193_20, m_placeOf hM hx hu, m_placeOf hM hy hu, Option.toList_some, Option.toList_none, List.cons_append, List.nil_append, List.append_nil, nI_add, pk_mul, nI_ltI, nI_eq, z_eq, z_lt, z_gt, z_bN, bN_z, bN_p, nI_clamp, rng_nI, ↓reduceIte, if_true, if_false, not_true_eq_false, not_false_eq_true, true_and, and_true, and_self, false_and, and_false]
  by_cases h4 : x = y
  · simp only [h4, ↓reduceIte] at h3 ⊢; exact h3 _ (by rw [hA]; simp [bN, h4])
  · by_cases h5 : tS T x u = -9
    · simp only [h4, h5, ↓reduceIte]; exact h3 _ (by rw [hA]; simp [bN, togB, h5])
    · by_cases h6 : tS T x u = tS T y u
      · have h7 : ¬ tS T y u = -9 := h6 ▸ h5
        simp only [h4, h7, h6, ↓reduceIte]; exact h3 _ (by rw [hA]; simp [bN, togB, h4, h7, h6])
      · simp only [h4, h5, h6, ↓reduceIte]; exact h3 _ (by rw [hA]; simp [bN, togB, h6])
theorem m_mays (hM : MT I T) {x u : Nat} (hx : x < tN T) (hu : u < tH T) : xr scr (d + 4) xc_192 0 [some (.ref 58), some (.int (nI x)), some (.int (nI u)), none, none] [] (wS, I, J, wP t dr G) Q = Q (some (.int (nI (mset T x u)))) (wS, I, J, wP t dr G) := by
  have hn := MT_n hM
  rw [xs_192_0]
  refine up_0 (P := fun y => xr scr (d + 4) xc_192 4 [some (.ref 58), some (.int (nI x)), some (.int (nI u)), some (.int (nI (bs y (fun y => mayB T x y u)))), some (.int (nI y))] [] (wS, I, J, wP t dr G) Q = Q (some (.int (nI (mset T x u)))) (wS, I, J, wP t dr G)) (tN T) (fun y hy h => ?_) ?_
  · rw [xs_192_4]
    simp (disch := first | assumption | omega | decide | exact vp_in_nI (by omega) (by omega) | exact and1_bN _ | (simp only [pk_mul, nI_add]; exact vp_in_nI (by omega) (by omega))) only [xs_192_0, xs_192_8, xs_192_14, xs_192_15, xs_192_19, xs_192_20, xs_192_24, MT_10 hM, m_mayGive hM hx hy hu, Option.toList_some, Option.toList_none, List.cons_append, List.nil_append, List.append_nil, nI_add, pk_mul, nI_ltI, nI_eq, z_eq, z_lt, z_gt, z_bN, bN_z, bN_p, nI_clamp, rng_nI, ↓reduceIte, if_true, if_false, not_true_eq_false, not_false_eq_true, true_and, and_true, and_self, false_and, and_false, hy, sb_one, sb_or, Nat.or_zero]
    have h2 : bs y (fun y => mayB T x y u) ||| 2 ^ y = bs y (fun y => mayB T x y u) + 2 ^ y := by
      rw [Nat.add_comm, Nat.or_comm]
      exact (Nat.two_pow_add_eq_or_of_lt (bs_lt _ _) 1 |> fun e => by simpa using e.symm)
    by_cases hb : mayB T x y u = true
    · simp only [bs_s, hb, ↓reduceIte] at h
      simp only [hb, not_true_eq_false, ↓reduceIte, h2]
      exact h
    · simp only [bs_s, hb, ↓reduceIte] at h
      simp only [hb, not_false_eq_true, ↓reduceIte]
      exact h
  · rw [xs_192_4]
    simp (disch := first | assumption | omega | decide | exact vp_in_nI (by omega) (by omega) | exact and1_bN _ | (simp only [pk_mul, nI_add]; exact vp_in_nI (by omega) (by omega))) only [xs_192_0, xs_192_8, xs_192_14, xs_192_15, xs_192_19, xs_192_20, xs_192_24, MT_10 hM, Option.toList_some, Option.toList_none, List.cons_append, List.nil_append, List.append_nil, nI_add, pk_mul, nI_ltI, nI_eq, z_eq, z_lt, z_gt, z_bN, bN_z, bN_p, nI_clamp, rng_nI, ↓reduceIte, if_true, if_false, not_true_eq_false, not_false_eq_true, true_and, and_true, and_self, false_and, and_false, Nat.lt_irrefl]
    rfl
end MTOWN
