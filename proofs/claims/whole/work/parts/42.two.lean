/-! two guineas; the greatest common divisor -/
def mxa (acc : Nat) (p : Nat → Bool) (g : Nat → Nat) : Nat → Nat
  | 0 => acc
  | i + 1 => if p i = true then max (mxa acc p g i) (1 + g i) else mxa acc p g i
theorem mxa_s (acc : Nat) (p : Nat → Bool) (g : Nat → Nat) (i : Nat) : mxa acc p g (i + 1) = if p i = true then max (mxa acc p g i) (1 + g i) else mxa acc p g i := rfl
theorem mxa_ge {acc : Nat} {p : Nat → Bool} {g : Nat → Nat} {m n : Nat} : m + 1 ≤ mxa acc p g n ↔ m + 1 ≤ acc ∨ ∃ y, y < n ∧ p y = true ∧ m ≤ g y := by
  induction n with
  | zero => exact ⟨Or.inl, fun h => h.elim id (fun ⟨y, hy, _⟩ => absurd hy (Nat.not_lt_zero _))⟩
  | succ n ih =>
    rw [mxa_s]
    constructor
    · intro h
      by_cases hp : p n = true
      · rw [if_pos hp] at h
        by_cases h2 : m + 1 ≤ mxa acc p g n
        · rcases ih.mp h2 with h3 | ⟨y, a, b, c⟩
          · exact Or.inl h3
          · exact Or.inr ⟨y, by omega, b, c⟩
        · exact Or.inr ⟨n, Nat.lt_succ_self _, hp, by omega⟩
      · rw [if_neg hp] at h
        rcases ih.mp h with h3 | ⟨y, a, b, c⟩
        · exact Or.inl h3
        · exact Or.inr ⟨y, by omega, b, c⟩
    · intro h
      by_cases hn : p n = true ∧ m ≤ g n
      · rw [if_pos hn.1]; omega
      · have h2 : m + 1 ≤ mxa acc p g n := ih.mpr (by
          rcases h with h3 | ⟨y, a, b, c⟩
          · exact Or.inl h3
          · by_cases e : y = n
            · subst e; exact absurd ⟨b, c⟩ hn
            · exact Or.inr ⟨y, by omega, b, c⟩)
        split <;> omega
theorem mxa_le {acc B : Nat} {p : Nat → Bool} {g : Nat → Nat} {n : Nat} (ha : acc ≤ B + 1) (h : ∀ y, g y ≤ B) : mxa acc p g n ≤ B + 1 := by
  induction n with
  | zero => exact ha
  | succ n ih =>
    rw [mxa_s]
    have := h n
    split <;> omega
def mxo (p : Nat → Nat → Bool) (g : Nat → Nat → Nat) (n : Nat) : Nat → Nat
  | 0 => 0
  | a + 1 => mxa (mxo p g n a) (p a) (g a) n
theorem mxo_s (p : Nat → Nat → Bool) (g : Nat → Nat → Nat) (n a : Nat) : mxo p g n (a + 1) = mxa (mxo p g n a) (p a) (g a) n := rfl
theorem mxo_ge {p : Nat → Nat → Bool} {g : Nat → Nat → Nat} {m n i : Nat} : m + 1 ≤ mxo p g n i ↔ ∃ a, a < i ∧ ∃ b, b < n ∧ p a b = true ∧ m ≤ g a b := by
  induction i with
  | zero => exact ⟨fun h => absurd h (Nat.not_succ_le_zero _), fun ⟨y, hy, _⟩ => absurd hy (Nat.not_lt_zero _)⟩
  | succ i ih =>
    rw [mxo_s, mxa_ge, ih]
    constructor
    · rintro (⟨a, h1, h2⟩ | h2)
      · exact ⟨a, by omega, h2⟩
      · exact ⟨i, Nat.lt_succ_self _, h2⟩
    · rintro ⟨a, h1, h2⟩
      by_cases e : a = i
      · subst e; exact Or.inr h2
      · exact Or.inl ⟨a, by omega, h2⟩
theorem mxo_le {p : Nat → Nat → Bool} {g : Nat → Nat → Nat} {B n i : Nat} (h : ∀ a b, g a b ≤ B) : mxo p g n i ≤ B + 1 := by
  induction i with
  | zero => exact Nat.zero_le _
  | succ i ih => rw [mxo_s]; exact mxa_le ih (h i)
def twr (T : TN) : Nat → Nat → Nat → Nat
  | 0, _, _ => 0
  | k + 1, x, y => if togB T x y (tH T - (k + 1)) = true then 0 else mxo (fun a b => mayB T x a (tH T - (k + 1)) && mayB T y b (tH T - (k + 1))) (twr T k) (tN T) (tN T)
theorem twr_le (T : TN) : ∀ k x y, twr T k x y ≤ k
  | 0, _, _ => Nat.le_refl 0
  | k + 1, x, y => by
    unfold twr
    split
    · omega
    · exact mxo_le (twr_le T k)
def otB (T : TN) (P : Nat → Nat → Bool) (u x z : Nat) : Bool := exB (tN T) (fun y => P x y && !togB T x y u && mayB T y z u)
def nxP (T : TN) (P : Nat → Nat → Bool) (u x z : Nat) : Bool := exB (tN T) (fun c => mayB T c x u && otB T P u c z)
def pcP (T : TN) (x y : Nat) : Nat → Nat → Nat → Bool
  | 0 => fun a b => (a == x) && (b == y)
  | j + 1 => nxP T (pcP T x y j) j
theorem nxP_iff {T : TN} {P : Nat → Nat → Bool} {u x z : Nat} : nxP T P u x z = true ↔ ∃ c, c < tN T ∧ ∃ e, e < tN T ∧ P c e = true ∧ togB T c e u = false ∧ mayB T c x u = true ∧ mayB T e z u = true := by
  unfold nxP
  rw [exB_iff]
  constructor
  · rintro ⟨c, hc, h⟩
    rw [Bool.and_eq_true] at h
    obtain ⟨e, he, h2⟩ := exB_iff.mp h.2
    simp only [Bool.and_eq_true, Bool.not_eq_true'] at h2
    exact ⟨c, hc, e, he, h2.1.1, h2.1.2, h.1, h2.2⟩
  · rintro ⟨c, hc, e, he, h1, h2, h3, h4⟩
    refine ⟨c, hc, ?_⟩
    rw [Bool.and_eq_true]
    refine ⟨h3, exB_iff.mpr ⟨e, he, ?_⟩⟩
    rw [h1, h2, h4]
    rfl
theorem pcP_twr {T : TN} {x y : Nat} (hx : x < tN T) (hy : y < tN T) : ∀ (j m : Nat), j + m ≤ tH T → ((∃ a, a < tN T ∧ ∃ b, b < tN T ∧ pcP T x y j a b = true ∧ m ≤ twr T (tH T - j) a b) ↔ m + j ≤ twr T (tH T) x y)
  | 0, m, h => by
    constructor
    · rintro ⟨a, ha, b, hb, h1, h2⟩
      simp only [pcP, Bool.and_eq_true, beq_iff_eq] at h1
      rw [h1.1, h1.2] at h2
      exact h2
    · intro h2
      exact ⟨x, hx, y, hy, by simp [pcP], h2⟩
  | j + 1, m, h => by
    rw [show m + (j + 1) = (m + 1) + j by omega, ← pcP_twr hx hy j (m + 1) (by omega)]
    obtain ⟨k, hk⟩ : ∃ k, tH T - j = k + 1 := ⟨tH T - j - 1, by omega⟩
    have hk2 : tH T - (j + 1) = k := by omega
    have hk3 : tH T - (k + 1) = j := by omega
    rw [hk2, hk]
    constructor
    · rintro ⟨a, ha, b, hb, h1, h2⟩
      obtain ⟨c, hc, e, he, a1, a2, a3, a4⟩ := nxP_iff.mp h1
      refine ⟨c, hc, e, he, a1, ?_⟩
      unfold twr
      rw [hk3, if_neg (by rw [a2]; decide)]
      exact mxo_ge.mpr ⟨a, ha, b, hb, by rw [a3, a4]; rfl, h2⟩
    · rintro ⟨c, hc, e, he, a1, a2⟩
      unfold twr at a2
      rw [hk3] at a2
      by_cases ht : togB T c e j = true
      · rw [if_pos ht] at a2; omega
      · rw [if_neg ht] at a2
        obtain ⟨a, ha, b, hb, h1, h2⟩ := mxo_ge.mp a2
        rw [Bool.and_eq_true] at h1
        exact ⟨a, ha, b, hb, nxP_iff.mpr ⟨c, hc, e, he, a1, by simpa using ht, h1.1, h1.2⟩, h2⟩
theorem exB_s (n : Nat) (p : Nat → Bool) : exB (n + 1) p = (exB n p || p n) := by
  rw [Bool.eq_iff_iff, Bool.or_eq_true, exB_iff, exB_iff]
  constructor
  · rintro ⟨x, hx, h⟩
    by_cases e : x = n
    · exact Or.inr (e ▸ h)
    · exact Or.inl ⟨x, by omega, h⟩
  · rintro (⟨x, hx, h⟩ | h)
    · exact ⟨x, by omega, h⟩
    · exact ⟨n, Nat.lt_succ_self _, h⟩
section TWO
variable {scr : xi_X} {d : Nat} {Q : Option Value → xi_S → Prop} {I : Nat → Nat → Int32} {J : Nat → Nat → Int64} {t dr : Nat} {G : Nat → Nat} {T : TN}
theorem c_takersFromOthers (ht : tw t) (hT : TT I t T) {P : Nat → Nat → Bool} {x u : Nat} (hx : x < tN T) (hu : u < tH T) (hP : I 50 x = nI (bs (tN T) (P x))) : xr scr (d + 2) xc_137 0 [some (.ref 48), some (.ref t), some (.int (nI u)), some (.int (nI x)), none, none] [] (wS, I, J, wP t dr G) Q = Q (some (.int (nI (bs (tN T) (otB T P u x))))) (wS, I, J, wP t dr G) := by
  have hn := TR_n hT.1
  rw [xs_137_0]
  have h00 : nI 0 = nI (bs (tN T) (fun z => exB 0 (fun y => P x y && !togB T x y u && mayB T y z u))) := congrArg nI (bs_z.mpr (fun _ _ => rfl)).symm
  rw [show (xr scr (d + 2) xc_137 4 [some (Value.ref 48), some (Value.ref t), some (Value.int (nI u)), some (Value.int (nI x)), some (Value.int (nI 0)), some (Value.int (nI 0))] [] (wS, I, J, wP t dr G) Q) = (xr scr (d + 2) xc_137 4 [some (Value.ref 48), some (Value.ref t), some (Value.int (nI u)), some (Value.int (nI x)), some (Value.int (nI (bs (tN T) (fun z => exB 0 (fun y => P x y && !togB T x y u && mayB T y z u))))), some (Value.int (nI 0))] [] (wS, I, J, wP t dr G) Q) by rw [← h00]]
  refine up_0 (P := fun y0 => xr scr (d + 2) xc_137 4 [some (.ref 48), some (.ref t), some (.int (nI u)), some (.int (nI x)), some (.int (nI (bs (tN T) (fun z => exB y0 (fun y => P x y && !togB T x y u && mayB T y z u))))), some (.int (nI y0))] [] (wS, I, J, wP t dr G) Q = Q (some (.int (nI (bs (tN T) (otB T P u x))))) (wS, I, J, wP t dr G)) (tN T) (fun y hy h => ?_) ?_
  · have hy8 : y < 8 := by omega
    have e0 : P x y = false ∨ togB T x y u = true → bs (tN T) (fun z => exB (y + 1) (fun y => P x y && !togB T x y u && mayB T y z u)) = bs (tN T) (fun z => exB y (fun y => P x y && !togB T x y u && mayB T y z u)) := fun h => bs_c (fun z _ => by
      rw [exB_s]
      rcases h with h | h <;> rw [h] <;> simp)
    rw [xs_137_4 ht, TR_1 hT.1]
    simp (disch := first | assumption | omega | decide | exact vp_in_nI (by omega) (by omega) | exact and1_bN _ | (simp only [pk_mul, nI_add, pred_s]; exact vp_in_nI (by omega) (by omega))) only [nI_add, pk_mul, nI_ltI, nI_eq, z_eq, z_lt, z_gt, z_bN, bN_z, bN_p, bN_i1, nI_clamp, rng_nI, ↓reduceIte, if_true, if_false, not_true_eq_false, not_false_eq_true, true_and, and_true, and_self, false_and, and_false, hy, xs_137_8, hP, sb_t]
    by_cases hp : P x y = true
    · simp (disch := first | assumption | omega | decide | exact vp_in_nI (by omega) (by omega) | exact and1_bN _ | (simp only [pk_mul, nI_add, pred_s]; exact vp_in_nI (by omega) (by omega))) only [hp, nI_add, pk_mul, nI_ltI, nI_eq, z_eq, z_lt, z_gt, z_bN, bN_z, bN_p, bN_i1, nI_clamp, rng_nI, ↓reduceIte, if_true, if_false, not_true_eq_false, not_false_eq_true, true_and, and_true, and_self, false_and, and_false, xs_137_17, c_areTog ht hT.1 hx hy hu, Option.toList_some, Option.toList_none, List.cons_append, List.nil_append, List.append_nil, xs_137_22]
      by_cases htg : togB T x y u = true
      · rw [if_neg (fun e => e htg), xs_137_30, nI_add, ← e0 (Or.inr htg)]
        exact h
      · rw [if_pos htg]
        simp (disch := first | assumption | omega | decide | exact vp_in_nI (by omega) (by omega) | exact and1_bN _ | (simp only [pk_mul, nI_add, pred_s]; exact vp_in_nI (by omega) (by omega))) only [xs_137_23, c_takersOf ht hT hy hu, Option.toList_some, Option.toList_none, List.cons_append, List.nil_append, List.append_nil, xs_137_28, sb_or, mset, bs_or, xs_137_30, nI_add, pk_mul, nI_ltI, nI_eq, z_eq, z_lt, z_gt, z_bN, bN_z, bN_p, bN_i1, nI_clamp, rng_nI, ↓reduceIte, if_true, if_false, not_true_eq_false, not_false_eq_true, true_and, and_true, and_self, false_and, and_false]
        have e1 : bs (tN T) (fun z => exB (y + 1) (fun y => P x y && !togB T x y u && mayB T y z u)) = bs (tN T) (fun z => exB y (fun y => P x y && !togB T x y u && mayB T y z u) || mayB T y z u) := bs_c (fun z _ => by
          rw [exB_s, hp, Bool.eq_false_iff.mpr htg]
          rfl)
        rw [e1] at h
        exact h
    · simp (disch := first | assumption | omega | decide | exact vp_in_nI (by omega) (by omega) | exact and1_bN _ | (simp only [pk_mul, nI_add, pred_s]; exact vp_in_nI (by omega) (by omega))) only [hp, nI_add, pk_mul, nI_ltI, nI_eq, z_eq, z_lt, z_gt, z_bN, bN_z, bN_p, bN_i1, nI_clamp, rng_nI, ↓reduceIte, if_true, if_false, not_true_eq_false, not_false_eq_true, true_and, and_true, and_self, false_and, and_false, Bool.false_eq_true, xs_137_30]
      rw [← e0 (Or.inl (Bool.eq_false_iff.mpr hp))]
      exact h
  · rw [xs_137_4 ht, TR_1 hT.1]
    simp (disch := first | assumption | omega | decide | exact vp_in_nI (by omega) (by omega) | exact and1_bN _ | (simp only [pk_mul, nI_add, pred_s]; exact vp_in_nI (by omega) (by omega))) only [nI_add, pk_mul, nI_ltI, nI_eq, z_eq, z_lt, z_gt, z_bN, bN_z, bN_p, bN_i1, nI_clamp, rng_nI, ↓reduceIte, if_true, if_false, not_true_eq_false, not_false_eq_true, true_and, and_true, and_self, false_and, and_false, Nat.lt_irrefl, xs_137_32]
    rfl
theorem c_addPairs {n : Nat} (hn : n ≤ 7) (p q : Nat → Bool) {P : Nat → Nat → Bool} (hP : ∀ z, z < n → I 49 z = nI (bs n (P z))) (hq : ∀ I2 : Nat → Nat → Int32, (∀ k, k ≠ 49 → I2 k = I k) → (∀ z, z < n → I2 49 z = nI (bs n (fun b => P z b || (p z && q b)))) → Q none (wS, I2, J, wP t dr G)) : xr scr d xc_138 0 [some (.ref 48), some (.int (nI (bs n p))), some (.int (nI (bs n q))), none] [] (wS, I, J, wP t dr G) Q := by
  rw [xs_138_0]
  refine up_0 (P := fun x => ∀ I2 : Nat → Nat → Int32, (∀ k, k ≠ 49 → I2 k = I k) → (∀ z, z < n → I2 49 z = nI (bs n (fun b => P z b || (decide (z < x) && p z && q b)))) → xr scr d xc_138 2 [some (.ref 48), some (.int (nI (bs n p))), some (.int (nI (bs n q))), some (.int (nI x))] [] (wS, I2, J, wP t dr G) Q) 7 (fun x hx h I2 f2 h2 => ?_) (fun I2 f2 h2 => ?_) I (fun _ _ => rfl) (fun z hz => ?_)
  · have hx8 : x < 8 := by omega
    rw [xs_138_2]
    simp (disch := first | assumption | omega | decide | exact vp_in_nI (by omega) (by omega) | exact and1_bN _ | (simp only [pk_mul, nI_add, pred_s]; exact vp_in_nI (by omega) (by omega))) only [nI_add, pk_mul, nI_ltI, nI_eq, z_eq, z_lt, z_gt, z_bN, bN_z, bN_p, bN_i1, nI_clamp, rng_nI, ↓reduceIte, if_true, if_false, not_true_eq_false, not_false_eq_true, true_and, and_true, and_self, false_and, and_false, hx, xs_138_5, sb_t]
    by_cases hp : x < n ∧ p x = true
    · rw [if_neg (fun e => e hp), xs_138_11 (vp_in_nI (by omega) (by omega)), nI_clamp (by omega), h2 x hp.1, sb_or, bs_or, xs_138_19, nI_add]
      refine h _ (fun k hk => by rw [xu_fr hk, f2 k hk]) (fun z hz => ?_)
      rw [xu_at]
      by_cases e : z = x
      · subst e
        rw [if_pos rfl]
        congr 1
        refine bs_c (fun b _ => ?_)
        rw [decide_eq_false (Nat.lt_irrefl z), decide_eq_true (Nat.lt_succ_self z), hp.2]
        simp
      · rw [if_neg e, h2 z hz]
        congr 1
        refine bs_c (fun b _ => ?_)
        have : decide (z < x) = decide (z < x + 1) := by
          rw [Bool.eq_iff_iff, decide_eq_true_eq, decide_eq_true_eq]; omega
        rw [this]
    · rw [if_pos hp, xs_138_19, nI_add]
      refine h I2 f2 (fun z hz => ?_)
      rw [h2 z hz]
      congr 1
      refine bs_c (fun b _ => ?_)
      by_cases e : z = x
      · subst e
        have : p z = false := by
          cases hpz : p z with
          | false => rfl
          | true => exact absurd ⟨hz, hpz⟩ hp
        rw [this]
        simp
      · have : decide (z < x) = decide (z < x + 1) := by
          rw [Bool.eq_iff_iff, decide_eq_true_eq, decide_eq_true_eq]; omega
        rw [this]
  · rw [xs_138_2]
    simp (disch := first | assumption | omega | decide | exact vp_in_nI (by omega) (by omega) | exact and1_bN _ | (simp only [pk_mul, nI_add, pred_s]; exact vp_in_nI (by omega) (by omega))) only [nI_add, pk_mul, nI_ltI, nI_eq, z_eq, z_lt, z_gt, z_bN, bN_z, bN_p, bN_i1, nI_clamp, rng_nI, ↓reduceIte, if_true, if_false, not_true_eq_false, not_false_eq_true, true_and, and_true, and_self, false_and, and_false, Nat.lt_irrefl, xs_138_21]
    refine hq I2 f2 (fun z hz => ?_)
    rw [h2 z hz]
    congr 1
    refine bs_c (fun b _ => ?_)
    rw [decide_eq_true (show z < 7 by omega), Bool.true_and]
  · rw [hP z hz]
    congr 1
    refine bs_c (fun b _ => ?_)
    rw [decide_eq_false (Nat.not_lt_zero z)]
    simp
theorem c_giveBoth (ht : tw t) (hT : TT I t T) {P : Nat → Nat → Bool} {u : Nat} (hu : u < tH T) (hP : ∀ z, z < tN T → I 49 z = nI (bs (tN T) (P z))) (hq : ∀ (I2 : Nat → Nat → Int32) (b : Bool), (∀ k, k ≠ 49 → k ≠ 50 → I2 k = I k) → (∀ z, z < tN T → I2 49 z = nI (bs (tN T) (nxP T P u z))) → (b = true ↔ ∃ x, x < tN T ∧ ∃ z, z < tN T ∧ nxP T P u x z = true) → Q (some (.int (nI (bN (b = true))))) (wS, I2, J, wP t dr G)) : xr scr (d + 3) xc_136 0 [some (.ref 48), some (.ref t), some (.int (nI u)), none, none, none, none] [] (wS, I, J, wP t dr G) Q := by
  have hn := TR_n hT.1
  have ht' : t = 15 ∨ t = 20 := ht
  rw [xs_136_0 (by decide) (by decide), c_fill (n := 7) rfl (by decide)]
  simp (disch := first | assumption | omega | decide | exact vp_in_nI (by omega) (by omega) | exact and1_bN _ | (simp only [pk_mul, nI_add, pred_s]; exact vp_in_nI (by omega) (by omega))) only [Option.toList_some, Option.toList_none, List.cons_append, List.nil_append, List.append_nil, xs_136_12]
  obtain ⟨I1, hI1⟩ : ∃ I1 : Nat → Nat → Int32, I1 = xi_ua (xi_ua I 50 (va_cpy (I 49) (I 50) (nI 0).toNatClampNeg (nI 0).toNatClampNeg (nI 7).toNatClampNeg)) 49 (fun j => if j < 7 then nI 0 else xi_ua I 50 (va_cpy (I 49) (I 50) (nI 0).toNatClampNeg (nI 0).toNatClampNeg (nI 7).toNatClampNeg) 49 j) := ⟨_, rfl⟩
  rw [← hI1]
  have f1 : ∀ k, k ≠ 49 → k ≠ 50 → I1 k = I k := fun k a b => by rw [hI1, xa_fr a, xa_fr b]
  have s50 : ∀ z, z < tN T → I1 50 z = nI (bs (tN T) (P z)) := fun z hz => by
    rw [hI1, xa_fr (by decide), xa_eq]
    show va_cpy (I 49) (I 50) (nI 0).toNatClampNeg (nI 0).toNatClampNeg (nI 7).toNatClampNeg z = _
    rw [nI_clamp (by decide), nI_clamp (by decide)]
    unfold va_cpy
    rw [if_pos (by omega), Nat.zero_add, Nat.sub_zero, hP z hz]
  have s49 : ∀ z, z < tN T → I1 49 z = nI 0 := fun z hz => by
    rw [hI1, xa_eq, if_pos (by omega)]
  have hT1 : TT I1 t T := TT_fr hT (f1 _ (by omega) (by omega)) (f1 _ (by omega) (by omega)) (f1 _ (by omega) (by omega)) (f1 _ (by omega) (by omega)) (f1 _ (by omega) (by omega))
  obtain ⟨gv, hgv⟩ : ∃ gv : Nat → Bool, gv = fun c => decide (bs (tN T) (fun z => mayB T c z u) ≠ 0) && decide (bs (tN T) (otB T P u c) ≠ 0) := ⟨_, rfl⟩
  have h00 : nI 0 = nI (bN (exB 0 gv = true)) := rfl
  rw [show (xr scr (d + 3) xc_136 16 [some (Value.ref 48), some (Value.ref t), some (Value.int (nI u)), some (Value.int (nI 0)), some (Value.int (nI 0)), none, none] [] (wS, I1, J, wP t dr G) Q) = (xr scr (d + 3) xc_136 16 [some (Value.ref 48), some (Value.ref t), some (Value.int (nI u)), some (Value.int (nI (bN (exB 0 gv = true)))), some (Value.int (nI 0)), none, none] [] (wS, I1, J, wP t dr G) Q) by rw [← h00]]
  refine up_0 (P := fun x => ∀ (I2 : Nat → Nat → Int32) (o5 o6 : Option Value), (∀ k, k ≠ 49 → I2 k = I1 k) → (∀ z, z < tN T → I2 49 z = nI (bs (tN T) (fun b => exB x (fun c => mayB T c z u && otB T P u c b)))) → xr scr (d + 3) xc_136 16 [some (.ref 48), some (.ref t), some (.int (nI u)), some (.int (nI (bN (exB x gv = true)))), some (.int (nI x)), o5, o6] [] (wS, I2, J, wP t dr G) Q) (tN T) (fun x hx h I2 o5 o6 f2 h2 => ?_) (fun I2 o5 o6 f2 h2 => ?_) I1 none none (fun _ _ => rfl) (fun z hz => ?_)
  · have hT2 : TT I2 t T := TT_fr hT1 (f2 _ (by omega)) (f2 _ (by omega)) (f2 _ (by omega)) (f2 _ (by omega)) (f2 _ (by omega))
    have hP2 : I2 50 x = nI (bs (tN T) (P x)) := by rw [f2 50 (by decide), s50 x hx]
    have b1 : bs (tN T) (fun z => mayB T x z u) < 128 := bs_lt7 hn _
    have b2 : bs (tN T) (otB T P u x) < 128 := bs_lt7 hn _
    rw [xs_136_16 ht, TR_1 hT2.1]
    simp (disch := first | assumption | omega | decide | exact vp_in_nI (by omega) (by omega) | exact and1_bN _ | (simp only [pk_mul, nI_add, pred_s]; exact vp_in_nI (by omega) (by omega))) only [nI_add, pk_mul, nI_ltI, nI_eq, z_eq, z_lt, z_gt, z_bN, bN_z, bN_p, bN_i1, nI_clamp, rng_nI, ↓reduceIte, if_true, if_false, not_true_eq_false, not_false_eq_true, true_and, and_true, and_self, false_and, and_false, hx, xs_136_20, c_takersOf ht hT2 hx hu, Option.toList_some, Option.toList_none, List.cons_append, List.nil_append, List.append_nil, xs_136_24, c_takersFromOthers ht hT2 hx hu hP2, xs_136_30, mset]
    have skip : gv x = false → xr scr (d + 3) xc_136 41 [some (.ref 48), some (.ref t), some (.int (nI u)), some (.int (nI (bN (exB x gv = true)))), some (.int (nI x)), some (.int (nI (bs (tN T) (fun z => mayB T x z u)))), some (.int (nI (bs (tN T) (otB T P u x))))] [] (wS, I2, J, wP t dr G) Q := by
      intro hg
      rw [xs_136_41, nI_add]
      have := h I2 (some (.int (nI (bs (tN T) (fun z => mayB T x z u))))) (some (.int (nI (bs (tN T) (otB T P u x))))) f2 (fun z hz => by
        rw [h2 z hz]
        congr 1
        refine bs_c (fun b hb => ?_)
        rw [exB_s]
        have : (mayB T x z u && otB T P u x b) = false := by
          rw [hgv] at hg
          simp only [Bool.and_eq_false_iff, decide_eq_false_iff_not, ne_eq, Decidable.not_not] at hg
          rcases hg with e | e
          · rw [bs_z.mp e z hz, Bool.false_and]
          · rw [bs_z.mp e b hb, Bool.and_false]
        rw [this, Bool.or_false])
      rw [exB_s, hg, Bool.or_false] at this
      exact this
    by_cases e1 : bs (tN T) (fun z => mayB T x z u) = 0
    · rw [if_pos e1]
      exact skip (by rw [hgv]; simp [e1])
    · rw [if_neg e1]
      simp (disch := first | assumption | omega | decide | exact vp_in_nI (by omega) (by omega) | exact and1_bN _ | (simp only [pk_mul, nI_add, pred_s]; exact vp_in_nI (by omega) (by omega))) only [xs_136_33, nI_add, pk_mul, nI_ltI, nI_eq, z_eq, z_lt, z_gt, z_bN, bN_z, bN_p, bN_i1, nI_clamp, rng_nI, ↓reduceIte, if_true, if_false, not_true_eq_false, not_false_eq_true, true_and, and_true, and_self, false_and, and_false]
      by_cases e2 : bs (tN T) (otB T P u x) = 0
      · rw [if_pos e2]
        exact skip (by rw [hgv]; simp [e2])
      · rw [if_neg e2, xs_136_35]
        refine c_addPairs hn _ _ h2 (fun I3 f3 h3 => ?_)
        simp (disch := first | assumption | omega | decide | exact vp_in_nI (by omega) (by omega) | exact and1_bN _ | (simp only [pk_mul, nI_add, pred_s]; exact vp_in_nI (by omega) (by omega))) only [Option.toList_some, Option.toList_none, List.cons_append, List.nil_append, List.append_nil, xs_136_41, nI_add, pk_mul, nI_ltI, nI_eq, z_eq, z_lt, z_gt, z_bN, bN_z, bN_p, bN_i1, nI_clamp, rng_nI, ↓reduceIte, if_true, if_false, not_true_eq_false, not_false_eq_true, true_and, and_true, and_self, false_and, and_false]
        have hg : gv x = true := by rw [hgv]; simp [e1, e2]
        have := h I3 (some (.int (nI (bs (tN T) (fun z => mayB T x z u))))) (some (.int (nI (bs (tN T) (otB T P u x))))) (fun k hk => by rw [f3 k hk, f2 k hk]) (fun z hz => by
          rw [h3 z hz]
          congr 1
          exact bs_c (fun b hb => by rw [exB_s]))
        rw [exB_s, hg, Bool.or_true] at this
        exact this
  · have hT2 : TT I2 t T := TT_fr hT1 (f2 _ (by omega)) (f2 _ (by omega)) (f2 _ (by omega)) (f2 _ (by omega)) (f2 _ (by omega))
    rw [xs_136_16 ht, TR_1 hT2.1]
    simp (disch := first | assumption | omega | decide | exact vp_in_nI (by omega) (by omega) | exact and1_bN _ | (simp only [pk_mul, nI_add, pred_s]; exact vp_in_nI (by omega) (by omega))) only [nI_add, pk_mul, nI_ltI, nI_eq, z_eq, z_lt, z_gt, z_bN, bN_z, bN_p, bN_i1, nI_clamp, rng_nI, ↓reduceIte, if_true, if_false, not_true_eq_false, not_false_eq_true, true_and, and_true, and_self, false_and, and_false, Nat.lt_irrefl, xs_136_43]
    refine hq I2 _ (fun k a b => by rw [f2 k a, f1 k a b]) (fun z hz => h2 z hz) ?_
    rw [exB_iff]
    constructor
    · rintro ⟨c, hc, h3⟩
      rw [hgv] at h3
      simp only [Bool.and_eq_true, decide_eq_true_eq] at h3
      have ex : ∀ p : Nat → Bool, bs (tN T) p ≠ 0 → ∃ z, z < tN T ∧ p z = true := fun p hp => exB_iff.mp (by unfold exB; exact decide_eq_true hp)
      obtain ⟨x, hx, h4⟩ := ex _ h3.1
      obtain ⟨z, hz, h5⟩ := ex _ h3.2
      exact ⟨x, hx, z, hz, exB_iff.mpr ⟨c, hc, by rw [h4, h5]; rfl⟩⟩
    · rintro ⟨x, hx, z, hz, h3⟩
      obtain ⟨c, hc, h4⟩ := exB_iff.mp h3
      rw [Bool.and_eq_true] at h4
      refine ⟨c, hc, ?_⟩
      rw [hgv]
      simp only [Bool.and_eq_true, decide_eq_true_eq]
      refine ⟨fun e => ?_, fun e => ?_⟩
      · have := bs_z.mp e x hx
        rw [h4.1] at this
        cases this
      · have := bs_z.mp e z hz
        rw [h4.2] at this
        cases this
  · rw [s49 z hz]
    exact congrArg nI (bs_z.mpr (fun _ _ => rfl)).symm
theorem m_twoOf (hM : MT I T) : ∀ (k x y : Nat) (Q : Option Value → xi_S → Prop), x < tN T → y < tN T → k ≤ tH T → xr scr (d + k + 4) xc_245 0 [some (.ref 58), some (.int (nI x)), some (.int (nI y)), some (.int (nI (tH T - k))), none, none, none, none] [] (wS, I, J, wP t dr G) Q = Q (some (.int (nI (twr T k x y)))) (wS, I, J, wP t dr G)
  | 0, x, y, Q, hx, hy, hk => by
    rw [xs_245_0, MT_11 hM, Nat.sub_zero, if_pos rfl, xs_245_19]
    rfl
  | k + 1, x, y, Q, hx, hy, hk => by
    have hn := MT_n hM
    have hh5 := MT_h hM
    obtain ⟨u, hu⟩ : ∃ u, u = tH T - (k + 1) := ⟨_, rfl⟩
    have hult : u < tH T := by omega
    have hu1 : u + 1 = tH T - k := by omega
    have e1 : ¬ u = tH T := by omega
    obtain ⟨p, hp⟩ : ∃ p, p = fun a b => mayB T x a u && mayB T y b u := ⟨_, rfl⟩
    obtain ⟨g, hg⟩ : ∃ g, g = twr T k := ⟨_, rfl⟩
    have hgb : ∀ a b, g a b ≤ k := fun a b => by rw [hg]; exact twr_le T k a b
    have ev : twr T (k + 1) x y = if togB T x y u = true then 0 else mxo p g (tN T) (tN T) := by rw [hp, hg, hu]; rfl
    have loop : xr scr (d + (k + 1) + 4) xc_245 21 [some (.ref 58), some (.int (nI x)), some (.int (nI y)), some (.int (nI u)), none, none, none, none] [] (wS, I, J, wP t dr G) Q = Q (some (.int (nI (mxo p g (tN T) (tN T))))) (wS, I, J, wP t dr G) := by
      rw [xs_245_21]
      refine up_0 (P := fun a => ∀ o6 o7 : Option Value, xr scr (d + (k + 1) + 4) xc_245 25 [some (.ref 58), some (.int (nI x)), some (.int (nI y)), some (.int (nI u)), some (.int (nI (mxo p g (tN T) a))), some (.int (nI a)), o6, o7] [] (wS, I, J, wP t dr G) Q = Q (some (.int (nI (mxo p g (tN T) (tN T))))) (wS, I, J, wP t dr G)) (tN T) (fun a ha h o6 o7 => ?_) (fun o6 o7 => ?_) none none
      · rw [xs_245_25, MT_10 hM]
        simp (disch := first | assumption | omega | decide | exact vp_in_nI (by omega) (by omega) | exact and1_bN _ | (simp only [pk_mul, nI_add, pred_s]; exact vp_in_nI (by omega) (by omega))) only [nI_add, pk_mul, nI_ltI, nI_eq, z_eq, z_lt, z_gt, z_bN, bN_z, bN_p, bN_i1, nI_clamp, rng_nI, ↓reduceIte, if_true, if_false, not_true_eq_false, not_false_eq_true, true_and, and_true, and_self, false_and, and_false, ha, xs_245_29]
        have acc := mxo_le (p := p) (n := tN T) (i := a) hgb
        refine up_0 (P := fun b => ∀ o7 : Option Value, xr scr (d + (k + 1) + 4) xc_245 31 [some (.ref 58), some (.int (nI x)), some (.int (nI y)), some (.int (nI u)), some (.int (nI (mxa (mxo p g (tN T) a) (p a) (g a) b))), some (.int (nI a)), some (.int (nI b)), o7] [] (wS, I, J, wP t dr G) Q = Q (some (.int (nI (mxo p g (tN T) (tN T))))) (wS, I, J, wP t dr G)) (tN T) (fun b hb h2 o7 => ?_) (fun o7 => ?_) o7
        · have acc2 := mxa_le (p := p a) (n := b) acc (hgb a)
          have hpab : p a b = (mayB T x a u && mayB T y b u) := by rw [hp]
          rw [mxa_s] at h2
          rw [xs_245_31, MT_10 hM]
          simp (disch := first | assumption | omega | decide | exact vp_in_nI (by omega) (by omega) | exact and1_bN _ | (simp only [pk_mul, nI_add, pred_s]; exact vp_in_nI (by omega) (by omega))) only [nI_add, pk_mul, nI_ltI, nI_eq, z_eq, z_lt, z_gt, z_bN, bN_z, bN_p, bN_i1, nI_clamp, rng_nI, ↓reduceIte, if_true, if_false, not_true_eq_false, not_false_eq_true, true_and, and_true, and_self, false_and, and_false, hb, xs_245_35, m_mayGive hM hx ha hult, Option.toList_some, Option.toList_none, List.cons_append, List.nil_append, List.append_nil, xs_245_40]
          by_cases m1 : mayB T x a u = true
          · rw [if_neg (fun e => e m1)]
            simp (disch := first | assumption | omega | decide | exact vp_in_nI (by omega) (by omega) | exact and1_bN _ | (simp only [pk_mul, nI_add, pred_s]; exact vp_in_nI (by omega) (by omega))) only [xs_245_41, m_mayGive hM hy hb hult, Option.toList_some, Option.toList_none, List.cons_append, List.nil_append, List.append_nil, xs_245_46, nI_add, pk_mul, nI_ltI, nI_eq, z_eq, z_lt, z_gt, z_bN, bN_z, bN_p, bN_i1, nI_clamp, rng_nI, ↓reduceIte, if_true, if_false, not_true_eq_false, not_false_eq_true, true_and, and_true, and_self, false_and, and_false]
            by_cases m2 : mayB T y b u = true
            · rw [if_neg (fun e => e m2), xs_245_47, nI_add, hu1, show d + (k + 1) + 3 = d + k + 4 by omega, m_twoOf hM k a b _ ha hb (by omega), ← hg]
              rw [hpab, m1, m2, if_pos (show (true && true) = true from rfl)] at h2
              have hgab := hgb a b
              simp (disch := first | assumption | omega | decide | exact vp_in_nI (by omega) (by omega) | exact and1_bN _ | (simp only [pk_mul, nI_add, pred_s]; exact vp_in_nI (by omega) (by omega))) only [Option.toList_some, Option.toList_none, List.cons_append, List.nil_append, List.append_nil, xs_245_55, nI_add, pk_mul, nI_ltI, nI_eq, z_eq, z_lt, z_gt, z_bN, bN_z, bN_p, bN_i1, nI_clamp, rng_nI, ↓reduceIte, if_true, if_false, not_true_eq_false, not_false_eq_true, true_and, and_true, and_self, false_and, and_false]
              by_cases hlt : mxa (mxo p g (tN T) a) (p a) (g a) b < 1 + g a b
              · rw [if_pos hlt]
                rw [show max (mxa (mxo p g (tN T) a) (p a) (g a) b) (1 + g a b) = 1 + g a b by omega] at h2
                simp (disch := first | assumption | omega | decide | exact vp_in_nI (by omega) (by omega) | exact and1_bN _ | (simp only [pk_mul, nI_add, pred_s]; exact vp_in_nI (by omega) (by omega))) only [xs_245_60, xs_245_63, xs_245_64, nI_add, pk_mul, nI_ltI, nI_eq, z_eq, z_lt, z_gt, z_bN, bN_z, bN_p, bN_i1, nI_clamp, rng_nI, ↓reduceIte, if_true, if_false, not_true_eq_false, not_false_eq_true, true_and, and_true, and_self, false_and, and_false]
                exact h2 _
              · rw [if_neg hlt]
                rw [show max (mxa (mxo p g (tN T) a) (p a) (g a) b) (1 + g a b) = mxa (mxo p g (tN T) a) (p a) (g a) b by omega] at h2
                simp (disch := first | assumption | omega | decide | exact vp_in_nI (by omega) (by omega) | exact and1_bN _ | (simp only [pk_mul, nI_add, pred_s]; exact vp_in_nI (by omega) (by omega))) only [xs_245_62, xs_245_63, xs_245_64, nI_add, pk_mul, nI_ltI, nI_eq, z_eq, z_lt, z_gt, z_bN, bN_z, bN_p, bN_i1, nI_clamp, rng_nI, ↓reduceIte, if_true, if_false, not_true_eq_false, not_false_eq_true, true_and, and_true, and_self, false_and, and_false]
                exact h2 _
            · rw [if_pos m2, xs_245_64, nI_add]
              rw [hpab, Bool.eq_false_iff.mpr m2, Bool.and_false, if_neg (by decide)] at h2
              exact h2 _
          · rw [if_pos m1, xs_245_64, nI_add]
            rw [hpab, Bool.eq_false_iff.mpr m1, Bool.false_and, if_neg (by decide)] at h2
            exact h2 _
        · rw [xs_245_31, MT_10 hM]
          simp (disch := first | assumption | omega | decide | exact vp_in_nI (by omega) (by omega) | exact and1_bN _ | (simp only [pk_mul, nI_add, pred_s]; exact vp_in_nI (by omega) (by omega))) only [nI_add, pk_mul, nI_ltI, nI_eq, z_eq, z_lt, z_gt, z_bN, bN_z, bN_p, bN_i1, nI_clamp, rng_nI, ↓reduceIte, if_true, if_false, not_true_eq_false, not_false_eq_true, true_and, and_true, and_self, false_and, and_false, Nat.lt_irrefl, xs_245_66]
          exact h _ _
      · rw [xs_245_25, MT_10 hM]
        simp (disch := first | assumption | omega | decide | exact vp_in_nI (by omega) (by omega) | exact and1_bN _ | (simp only [pk_mul, nI_add, pred_s]; exact vp_in_nI (by omega) (by omega))) only [nI_add, pk_mul, nI_ltI, nI_eq, z_eq, z_lt, z_gt, z_bN, bN_z, bN_p, bN_i1, nI_clamp, rng_nI, ↓reduceIte, if_true, if_false, not_true_eq_false, not_false_eq_true, true_and, and_true, and_self, false_and, and_false, Nat.lt_irrefl, xs_245_68]
    rw [ev, ← hu, xs_245_0, MT_11 hM]
    simp (disch := first | assumption | omega | decide | exact vp_in_nI (by omega) (by omega) | exact and1_bN _ | (simp only [pk_mul, nI_add, pred_s]; exact vp_in_nI (by omega) (by omega))) only [nI_add, pk_mul, nI_ltI, nI_eq, z_eq, z_lt, z_gt, z_bN, bN_z, bN_p, bN_i1, nI_clamp, rng_nI, ↓reduceIte, if_true, if_false, not_true_eq_false, not_false_eq_true, true_and, and_true, and_self, false_and, and_false, e1, xs_245_4, m_placeOf hM hx hult, m_placeOf hM hy hult, Option.toList_some, Option.toList_none, List.cons_append, List.nil_append, List.append_nil, xs_245_8, xs_245_10, xs_245_14, xs_245_18, loop, xs_245_19]
    unfold togB
    by_cases h1 : tS T x u = -9
    · rw [if_pos h1, if_neg (by simp [h1])]
    · rw [if_neg h1]
      by_cases h2 : tS T x u = tS T y u
      · rw [if_pos h2, if_pos (by rw [decide_eq_true h2, decide_eq_true h1]; rfl)]
      · rw [if_neg h2, if_neg (by simp [h2])]
/-! the greatest common divisor -/
theorem c_gcd : ∀ (f a b s : Nat) (o9 : Option Value) (y0 y2 : Int64) (Q : Option Value → xi_S → Prop), a < 2 ^ 62 → b < 2 ^ 62 → b < 2 ^ f → s + 2 * f < 1000 → xr scr d xc_131 6 [some (.long y0), none, some (.long y2), none, some (.long (lN a)), none, some (.long (lN b)), none, some (.int (nI s)), o9, none] [] (wS, I, J, wP t dr G) Q = Q (some (.long (lN (Nat.gcd a b)))) (wS, I, J, wP t dr G)
  | f, a, b, s, o9, y0, y2, Q, ha, hb, hf, hs => by
    have h1000 : s < 1000 := by omega
    rw [xs_131_6]
    simp (disch := first | assumption | omega | decide | exact vp_in_nI (by omega) (by omega) | exact and1_bN _ | (simp only [pk_mul, nI_add, pred_s]; exact vp_in_nI (by omega) (by omega))) only [nI_add, pk_mul, nI_ltI, nI_eq, z_eq, z_lt, z_gt, z_bN, bN_z, bN_p, bN_i1, nI_clamp, rng_nI, ↓reduceIte, if_true, if_false, not_true_eq_false, not_false_eq_true, true_and, and_true, and_self, false_and, and_false, h1000, xs_131_9, lg_cmp_gt, l0, pk_lLT]
    by_cases h0 : 0 < b
    · rw [if_pos h0]
      have hz : ¬ lN b = 0 := fun e => by
        rw [l0, pk_lEQ (by omega) (by decide)] at e
        omega
      cases f with
      | zero => simp at hf; omega
      | succ f =>
        have hr : a % b < b := Nat.mod_lt _ h0
        rw [xs_131_13 hz, pk_lRem (by omega) h0 (by omega), nI_add]
        have h1001 : s + 1 < 1000 := by omega
        rw [xs_131_6]
        simp (disch := first | assumption | omega | decide | exact vp_in_nI (by omega) (by omega) | exact and1_bN _ | (simp only [pk_mul, nI_add, pred_s]; exact vp_in_nI (by omega) (by omega))) only [nI_add, pk_mul, nI_ltI, nI_eq, z_eq, z_lt, z_gt, z_bN, bN_z, bN_p, bN_i1, nI_clamp, rng_nI, ↓reduceIte, if_true, if_false, not_true_eq_false, not_false_eq_true, true_and, and_true, and_self, false_and, and_false, h1001, xs_131_9, lg_cmp_gt, l0, pk_lLT]
        have hg : Nat.gcd a b = Nat.gcd b (a % b) := by rw [Nat.gcd_comm a b, Nat.gcd_rec b a, Nat.gcd_comm]
        by_cases h2 : 0 < a % b
        · rw [if_pos h2]
          have hz2 : ¬ lN (a % b) = 0 := fun e => by
            rw [l0, pk_lEQ (by omega) (by decide)] at e
            omega
          rw [xs_131_13 hz2, pk_lRem (by omega) h2 (by omega), nI_add]
          have hr2 : b % (a % b) < a % b := Nat.mod_lt _ h2
          have hle : b % (a % b) + a % b ≤ b := by
            have := Nat.div_add_mod b (a % b)
            have h3 : 1 ≤ b / (a % b) := (Nat.le_div_iff_mul_le h2).mpr (by omega)
            have h4 : (a % b) * 1 ≤ (a % b) * (b / (a % b)) := Nat.mul_le_mul_left _ h3
            omega
          rw [c_gcd f (a % b) (b % (a % b)) (s + 2) _ y0 y2 Q (by omega) (by omega) (by rw [Nat.pow_succ] at hf; omega) (by omega)]
          rw [hg, Nat.gcd_comm b, Nat.gcd_rec (a % b) b, Nat.gcd_comm (b % (a % b))]
        · rw [if_neg h2, xs_131_23, hg, show a % b = 0 by omega, Nat.gcd_zero_right]
    · rw [if_neg h0, xs_131_23, show b = 0 by omega, Nat.gcd_zero_right]
theorem m_gcd (J : Nat → Nat → Int64) {a b y1 y3 : Nat} (x5 : Int32) (hz : 0 < Nat.gcd a b) (h1 : y1 < 2 ^ 62) (h3 : y3 < 2 ^ 62) : ∀ (o10 : Option Value) (Q : Option Value → xi_S → Prop), a < 2 ^ 62 → b < 2 ^ 62 → xr scr d xc_241 4 [some (.ref 58), some (.long (lN y1)), none, some (.long (lN y3)), none, some (.int x5), some (.long (lN a)), none, some (.long (lN b)), none, o10, none] [] (wS, I, J, wP t dr G) Q = Q (some (.int x5)) (wS, I, xi_up (xi_up J 58 3 (lN (y1 / Nat.gcd a b))) 58 4 (lN (y3 / Nat.gcd a b)), wP t dr G) := by
  induction b using Nat.strongRecOn generalizing a with
  | ind b ih =>
    intro o10 Q ha hb
    rw [xs_241_4]
    simp (disch := first | assumption | omega | decide | exact vp_in_nI (by omega) (by omega) | exact and1_bN _ | (simp only [pk_mul, nI_add, pred_s]; exact vp_in_nI (by omega) (by omega))) only [lg_cmp_eq, l0, pk_lEQ]
    by_cases h0 : b = 0
    · subst h0
      rw [Nat.gcd_zero_right] at hz ⊢
      have hza : ¬ lN a = 0 := fun e => by
        rw [l0, pk_lEQ (by omega) (by decide)] at e
        omega
      rw [if_pos rfl, xs_241_17 hza hza, pk_lDiv (by omega) hz (by omega), pk_lDiv (by omega) hz (by omega)]
    · have hzb : ¬ lN b = 0 := fun e => by
        rw [l0, pk_lEQ (by omega) (by decide)] at e
        omega
      have hr : a % b < b := Nat.mod_lt _ (by omega)
      have hg : Nat.gcd a b = Nat.gcd b (a % b) := by rw [Nat.gcd_comm a b, Nat.gcd_rec b a, Nat.gcd_comm]
      rw [if_neg h0, xs_241_8 hzb, pk_lRem (by omega) (by omega) (by omega), hg]
      rw [hg] at hz
      exact ih (a % b) hr hz _ _ hb (by omega)
theorem c_tellFraction {a b : Nat} (ha : a < 2 ^ 62) (hb : b < 2 ^ 62) (h0 : 0 < b) : xr scr (d + 1) xc_130 0 [some (.ref 0), some (.long (lN a)), none, some (.long (lN b)), none, none, none] [] (wS, I, J, wP t dr G) Q = Q none (wS, I, xi_up (xi_up J 0 15 (lN (a / Nat.gcd a b))) 0 16 (lN (b / Nat.gcd a b)), wP t dr G) := by
  have hg : 0 < Nat.gcd b a := Nat.gcd_pos_of_pos_left _ h0
  have hgb : Nat.gcd b a < 2 ^ 62 := Nat.lt_of_le_of_lt (Nat.gcd_le_left _ h0) hb
  have hz : ¬ lN (Nat.gcd b a) = 0 := fun e => by
    rw [l0, pk_lEQ (by omega) (by decide)] at e
    omega
  rw [xs_130_0, xs_131_0, c_gcd 62 b a 0 _ _ _ _ hb ha ha (by decide)]
  simp (disch := first | assumption | omega | decide | exact vp_in_nI (by omega) (by omega) | exact and1_bN _ | (simp only [pk_mul, nI_add, pred_s]; exact vp_in_nI (by omega) (by omega))) only [Option.toList_some, Option.toList_none, List.cons_append, List.nil_append, List.append_nil, xs_130_3, lg_cmp_gt, l0, pk_lLT]
  rw [if_pos hg, xs_130_8 hz hz, xs_130_18, pk_lDiv (by omega) hg (by omega), pk_lDiv (by omega) hg (by omega), Nat.gcd_comm b a]
theorem m_part {a b : Nat} {x : Int32} (ha : a < 2 ^ 62) (hb : b < 2 ^ 62) (h0 : 0 < b) : xr scr d xc_241 0 [some (.ref 58), some (.long (lN a)), none, some (.long (lN b)), none, some (.int x), none, none, none, none, none, none] [] (wS, I, J, wP t dr G) Q = Q (some (.int x)) (wS, I, xi_up (xi_up J 58 3 (lN (a / Nat.gcd a b))) 58 4 (lN (b / Nat.gcd a b)), wP t dr G) := by
  rw [xs_241_0, m_gcd J x (Nat.gcd_pos_of_pos_right _ h0) ha hb _ _ ha hb]
end TWO
