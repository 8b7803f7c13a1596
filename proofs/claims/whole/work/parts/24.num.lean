/-! numbers, counts, sets of bits -/
def bN (p : Prop) [Decidable p] : Nat := if p then 1 else 0
theorem bN_le (p : Prop) [Decidable p] : bN p ≤ 1 := by unfold bN; split <;> omega
theorem bN_t {p : Prop} [Decidable p] (h : p) : bN p = 1 := if_pos h
theorem bN_f {p : Prop} [Decidable p] (h : ¬ p) : bN p = 0 := if_neg h
theorem bN_c {p q : Prop} [Decidable p] [Decidable q] (h : p ↔ q) : bN p = bN q := by
  by_cases hp : p
  · rw [bN_t hp, bN_t (h.mp hp)]
  · rw [bN_f hp, bN_f (fun hq => hp (h.mpr hq))]
theorem z_bN (p : Prop) [Decidable p] : nI (bN p) = 0 ↔ ¬ p := by
  unfold bN
  by_cases h : p
  · rw [if_pos h]; exact ⟨fun e => absurd e (by decide), fun e => absurd h e⟩
  · rw [if_neg h]; exact ⟨fun _ => h, fun _ => rfl⟩
theorem bN_z (p : Prop) [Decidable p] : bN p = 0 ↔ ¬ p := by
  unfold bN
  by_cases h : p <;> simp [h]
theorem bN_p (p : Prop) [Decidable p] : 0 < bN p ↔ p := by
  unfold bN
  by_cases h : p <;> simp [h]
theorem bN_T {i : Decidable True} : @bN True i = 1 := if_pos trivial
theorem bN_F {i : Decidable False} : @bN False i = 0 := if_neg (fun h => h)
theorem and1_bN (p : Prop) [Decidable p] : nI (bN p) &&& 1 = nI (bN p) := by
  unfold bN; split <;> decide
theorem z_eq {a : Nat} (h : a < 2 ^ 31) : nI a = 0 ↔ a = 0 := by rw [← nI_0]; exact nI_eq h (by decide)
theorem z_lt {a : Nat} (h : a < 2 ^ 31) : nI a < 0 ↔ False := ⟨fun e => nI_pos h e, False.elim⟩
theorem z_gt {a : Nat} (h : a < 2 ^ 31) : 0 < nI a ↔ 0 < a := by rw [← nI_0]; exact nI_ltI (by decide) h
theorem z_le {a : Nat} (h : a < 2 ^ 31) : 0 ≤ nI a ↔ True := ⟨fun _ => trivial, fun _ => nI_pos' h⟩
theorem m9_ne {a : Nat} (h : a < 2 ^ 31) : nI a = -9 ↔ False := ⟨fun e => nI_pos h (e ▸ by decide), False.elim⟩
theorem m9_ne' {a : Nat} (h : a < 2 ^ 31) : -9 = nI a ↔ False := ⟨fun e => nI_pos h (e ▸ by decide), False.elim⟩
theorem m1_ne {a : Nat} (h : a < 2 ^ 31) : nI a = -1 ↔ False := ⟨fun e => nI_pos h (e ▸ by decide), False.elim⟩
/-- a value of the run is one of n numbers -/
def rng (x : Int32) (n : Nat) : Bool := decide (¬ x < 0) && decide (x < nI n)
theorem rng_iff {x : Int32} {n : Nat} : rng x n = true ↔ ¬ x < 0 ∧ x < nI n := by simp [rng]
theorem rng_of {x : Int32} {n : Nat} (h : rng x n = true) (hn : n < 2 ^ 31) : ∃ j : Nat, j < n ∧ x = nI j := by
  have h := rng_iff.mp h
  obtain ⟨j, hj, rfl⟩ := nI_of h.1
  exact ⟨j, (nI_ltI hj hn).mp h.2, rfl⟩
theorem rng_nI {a n : Nat} (ha : a < 2 ^ 31) (hn : n < 2 ^ 31) : rng (nI a) n = true ↔ a < n := rng_iff.trans ⟨fun h => (nI_ltI ha hn).mp h.2, fun h => ⟨nI_pos ha, (nI_ltI ha hn).mpr h⟩⟩
theorem rng_s {x : Int32} {n : Nat} (hn : n < 2 ^ 31 - 1) : rng x (n + 1) = true ↔ ¬ x < 0 ∧ ¬ nI n < x := by
  by_cases h : x < 0
  · simp [rng, h]
  · obtain ⟨j, hj, rfl⟩ := nI_of h
    rw [rng_nI hj (by omega), nI_ltI (by omega) hj]
    simp only [h, not_false_eq_true, true_and]
    omega
theorem up_from {P : Nat → Prop} {i n : Nat} (hi : i ≤ n) (hs : ∀ x, i ≤ x → x < n → P (x + 1) → P x) (hn : P n) : P i := by
  have : ∀ k, i + k ≤ n → P (n - k) := by
    intro k
    induction k with
    | zero => intro _; exact hn
    | succ k ih =>
      intro h
      have h2 := ih (by omega)
      refine hs (n - (k + 1)) (by omega) (by omega) ?_
      rw [show n - (k + 1) + 1 = n - k by omega]
      exact h2
  have h := this (n - i) (by omega)
  rw [show n - (n - i) = i by omega] at h
  exact h
theorem up_0 {P : Nat → Prop} (n : Nat) (hs : ∀ x, x < n → P (x + 1) → P x) (hn : P n) : P 0 := up_from (Nat.zero_le n) (fun x _ h => hs x h) hn
/-- going down: P k: k steps are left -/
theorem dn_0 {P : Nat → Prop} (hs : ∀ k, P k → P (k + 1)) (h0 : P 0) (n : Nat) : P n := by
  induction n with
  | zero => exact h0
  | succ n ih => exact hs n ih
def cnt : Nat → (Nat → Bool) → Nat
  | 0, _ => 0
  | n + 1, p => cnt n p + bN (p n = true)
theorem cnt_s (n : Nat) (p : Nat → Bool) : cnt (n + 1) p = cnt n p + bN (p n = true) := rfl
theorem cnt_le (n : Nat) (p : Nat → Bool) : cnt n p ≤ n := by
  induction n with
  | zero => exact Nat.le_refl 0
  | succ n ih => have := bN_le (p n = true); rw [cnt_s]; omega
theorem cnt_c {n : Nat} {p q : Nat → Bool} (h : ∀ x, x < n → p x = q x) : cnt n p = cnt n q := by
  induction n with
  | zero => rfl
  | succ n ih => rw [cnt_s, cnt_s, ih (fun x hx => h x (by omega)), h n (by omega)]
def bs : Nat → (Nat → Bool) → Nat
  | 0, _ => 0
  | n + 1, p => bs n p + (if p n = true then 2 ^ n else 0)
theorem bs_s (n : Nat) (p : Nat → Bool) : bs (n + 1) p = bs n p + (if p n = true then 2 ^ n else 0) := rfl
theorem bs_lt (n : Nat) (p : Nat → Bool) : bs n p < 2 ^ n := by
  induction n with
  | zero => exact Nat.one_pos
  | succ n ih => rw [bs_s, Nat.pow_succ]; split <;> omega
theorem bs_bit (n : Nat) (p : Nat → Bool) (x : Nat) : (bs n p).testBit x = (decide (x < n) && p x) := by
  induction n with
  | zero => simp [bs]
  | succ n ih =>
    have hlt := bs_lt n p
    by_cases hp : p n = true
    · rw [bs_s, if_pos hp, Nat.add_comm]
      by_cases hx : x = n
      · subst hx
        rw [Nat.testBit_two_pow_add_eq, ih]
        simp [hp]
      · by_cases hl : x < n
        · rw [Nat.testBit_two_pow_add_gt hl, ih]
          have : x < n + 1 := by omega
          simp [hl, this]
        · have h1 : 2 ^ n + bs n p < 2 ^ x := Nat.lt_of_lt_of_le (show 2 ^ n + bs n p < 2 ^ (n + 1) by rw [Nat.pow_succ]; omega) (Nat.pow_le_pow_right (by decide) (by omega))
          rw [Nat.testBit_lt_two_pow h1]
          have : ¬ x < n + 1 := by omega
          simp [this]
    · rw [bs_s, if_neg hp, Nat.add_zero, ih]
      by_cases hx : x = n
      · subst hx
        simp [hp]
      · have : (x < n) = (x < n + 1) := propext ⟨fun h => by omega, fun h => by omega⟩
        simp only [this]
theorem bs_c {n : Nat} {p q : Nat → Bool} (h : ∀ x, x < n → p x = q x) : bs n p = bs n q := by
  induction n with
  | zero => rfl
  | succ n ih => rw [bs_s, bs_s, ih (fun x hx => h x (by omega)), h n (by omega)]
theorem bs_eq {m n : Nat} {p : Nat → Bool} (h : ∀ x, m.testBit x = (decide (x < n) && p x)) : m = bs n p := Nat.eq_of_testBit_eq (fun x => by rw [h, bs_bit])
theorem bs_of {m n : Nat} (h : m < 2 ^ n) : m = bs n (fun x => m.testBit x) := bs_eq (fun x => by
  by_cases hx : x < n
  · simp [hx]
  · rw [Nat.testBit_lt_two_pow (Nat.lt_of_lt_of_le h (Nat.pow_le_pow_right (by decide) (by omega)))]
    simp [hx])
theorem bs_or (n : Nat) (p q : Nat → Bool) : bs n p ||| bs n q = bs n (fun x => p x || q x) := bs_eq (fun x => by
  rw [Nat.testBit_or, bs_bit, bs_bit, Bool.and_or_distrib_left])
theorem bs_and (n : Nat) (p q : Nat → Bool) : bs n p &&& bs n q = bs n (fun x => p x && q x) := bs_eq (fun x => by
  rw [Nat.testBit_and, bs_bit, bs_bit]
  cases decide (x < n) <;> cases p x <;> cases q x <;> rfl)
theorem bs_one {n y : Nat} (h : y < n) : 2 ^ y = bs n (fun x => x == y) := bs_eq (fun x => by
  rw [Nat.testBit_two_pow]
  by_cases hx : x = y
  · subst hx; simp [h]
  · have : ¬ y = x := fun e => hx e.symm
    simp [hx, this])
theorem bs_0 (n : Nat) : bs n (fun _ => false) = 0 := by
  induction n with
  | zero => rfl
  | succ n ih => rw [bs_s, ih]; rfl
theorem bs_all (n : Nat) : bs n (fun _ => true) = 2 ^ n - 1 := by
  induction n with
  | zero => rfl
  | succ n ih => rw [bs_s, ih, if_pos rfl, Nat.pow_succ]; have := Nat.two_pow_pos n; omega
theorem bs_z {n : Nat} {p : Nat → Bool} : bs n p = 0 ↔ ∀ x, x < n → p x = false := ⟨fun h x hx => by
  have := bs_bit n p x
  rw [h, Nat.zero_testBit] at this
  simpa [hx] using this.symm, fun h => by rw [bs_c h, bs_0]⟩
theorem bs_le {n m : Nat} (h : n ≤ m) {p : Nat → Bool} (hp : ∀ x, n ≤ x → p x = false) : bs n p = bs m p := bs_eq (fun x => by
  rw [bs_bit]
  by_cases h1 : x < n
  · have : x < m := by omega
    simp [h1, this]
  · simp [h1, hp x (by omega)])
theorem bs_lt7 {n : Nat} (h : n ≤ 7) (p : Nat → Bool) : bs n p < 128 := Nat.lt_of_lt_of_le (bs_lt n p) (Nat.le_trans (Nat.pow_le_pow_right (by decide) h) (by decide))
/-! the machine's bits -/
theorem sb_or (a b : Nat) : nI a ||| nI b = nI (a ||| b) := by
  apply Int32.toBitVec_inj.1
  show BitVec.ofNat 32 a ||| BitVec.ofNat 32 b = BitVec.ofNat 32 (a ||| b)
  apply BitVec.eq_of_getLsbD_eq
  intro i hi
  simp [hi]
theorem sb_and (a b : Nat) : nI a &&& nI b = nI (a &&& b) := by
  apply Int32.toBitVec_inj.1
  show BitVec.ofNat 32 a &&& BitVec.ofNat 32 b = BitVec.ofNat 32 (a &&& b)
  apply BitVec.eq_of_getLsbD_eq
  intro i hi
  simp [hi]
theorem sb_one : ∀ y, y < 31 → nI 1 <<< (nI y &&& 31) = nI (2 ^ y) := by decide +kernel
theorem sb_tA : ∀ m, m < 128 → ∀ y, y < 8 → (nI m >>> (nI y &&& 31)) &&& nI 1 = nI (bN (m.testBit y = true)) := by decide +kernel
theorem sb_notA : ∀ m, m < 128 → ∀ k, k < 128 → nI m &&& (nI k ^^^ (-1)) = nI (m &&& (127 ^^^ k)) := by decide +kernel
theorem sb_shz : ∀ m, m < 128 → ∀ y, y < 8 → (nI m >>> (nI y &&& 31) = 0 ↔ m < 2 ^ y) := by decide +kernel
theorem sb_t {n : Nat} (h : n ≤ 7) (p : Nat → Bool) {y : Nat} (hy : y < 8) : (nI (bs n p) >>> (nI y &&& 31)) &&& nI 1 = nI (bN (y < n ∧ p y = true)) := by
  rw [sb_tA _ (bs_lt7 h p) _ hy]
  congr 1
  refine bN_c ?_
  rw [bs_bit]
  simp
theorem sb_not {n : Nat} (h : n ≤ 7) (p q : Nat → Bool) : nI (bs n p) &&& (nI (bs n q) ^^^ (-1)) = nI (bs n (fun x => p x && !q x)) := by
  rw [sb_notA _ (bs_lt7 h p) _ (bs_lt7 h q)]
  congr 1
  refine bs_eq (fun x => ?_)
  rw [Nat.testBit_and, Nat.testBit_xor, bs_bit, bs_bit]
  have h127 : (127 : Nat).testBit x = decide (x < 7) := by
    have := bs_bit 7 (fun _ => true) x
    rw [bs_all] at this
    simpa using this
  rw [h127]
  by_cases hx : x < n
  · have : x < 7 := by omega
    simp [hx, this]
  · simp [hx]
theorem bs_put (n : Nat) (p : Nat → Bool) : bs n p ||| 2 ^ n = bs n p + 2 ^ n := by
  have h := Nat.two_pow_add_eq_or_of_lt (bs_lt n p) 1
  rw [Nat.mul_one] at h
  rw [Nat.or_comm, ← h, Nat.add_comm]
theorem add_m1 (x : Int32) : x + (-1) = x - nI 1 := by
  rw [Int32.sub_eq_add_neg]
  rfl
theorem pred_lt {f : Nat} (h : f < 2 ^ 31) : nI f - nI 1 < nI f := by
  cases f with
  | zero => decide
  | succ f => rw [pk_sub (by omega), Nat.add_sub_cancel]; exact nI_lt (by omega) h
theorem pred_s (f : Nat) : nI (f + 1) - nI 1 = nI f := by rw [pk_sub (by omega), Nat.add_sub_cancel]
theorem pred_0 : nI 0 - nI 1 < 0 := by decide
def exB (n : Nat) (p : Nat → Bool) : Bool := decide (bs n p ≠ 0)
theorem exB_iff {n : Nat} {p : Nat → Bool} : exB n p = true ↔ ∃ x, x < n ∧ p x = true := by
  unfold exB
  rw [decide_eq_true_eq]
  constructor
  · intro h
    by_cases hx : ∃ x, x < n ∧ p x = true
    · exact hx
    · refine absurd (bs_z.mpr (fun x hl => ?_)) h
      cases hp : p x with
      | false => rfl
      | true => exact absurd ⟨x, hl, hp⟩ hx
  · rintro ⟨x, hl, hp⟩ h
    rw [bs_z.mp h x hl] at hp
    cases hp
theorem cnt_bs {n : Nat} (h : n ≤ 7) (p : Nat → Bool) : cnt 7 (fun y => (bs n p).testBit y) = cnt n p := by
  have h1 : ∀ m, n ≤ m → cnt m (fun y => (bs n p).testBit y) = cnt n p := by
    intro m hm
    induction m with
    | zero => rw [show n = 0 by omega]; rfl
    | succ m ih =>
      by_cases e : n = m + 1
      · subst e
        exact cnt_c (fun x hx => by rw [bs_bit]; simp [hx])
      · rw [cnt_s, ih (by omega), bN_f (by rw [bs_bit]; simp; omega)]
        rfl
  exact h1 7 h
/-- reading the store behind a write -/
theorem xu_fr {α : Type} {f : Nat → Nat → α} {k j : Nat} {v : α} {a : Nat} (h : a ≠ k) : xi_up f k j v a = f a := by simp [xi_up, h]
theorem xu_nc {α : Type} {f : Nat → Nat → α} {k j : Nat} {v : α} {a b : Nat} (h : a ≠ k) : xi_up f k j v a b = f a b := by simp [xi_up, h]
theorem xu_nj {α : Type} {f : Nat → Nat → α} {k j : Nat} {v : α} {a b : Nat} (h : b ≠ j) : xi_up f k j v a b = f a b := by
  unfold xi_up
  by_cases ha : a = k
  · rw [if_pos ha, ha]; simp [h]
  · rw [if_neg ha]
theorem xu_eq {α : Type} {f : Nat → Nat → α} {k j : Nat} {v : α} : xi_up f k j v k j = v := by simp [xi_up]
theorem xu_at {α : Type} {f : Nat → Nat → α} {k j : Nat} {v : α} (b : Nat) : xi_up f k j v k b = if b = j then v else f k b := by simp [xi_up]
theorem xa_fr {α : Type} {f : Nat → Nat → α} {k : Nat} {g : Nat → α} {a : Nat} (h : a ≠ k) : xi_ua f k g a = f a := by simp [xi_ua, h]
theorem xa_eq {α : Type} {f : Nat → Nat → α} {k : Nat} {g : Nat → α} : xi_ua f k g k = g := by simp [xi_ua]
/-- more is known of the end -/
theorem xr_w {scr : xi_X} {d : Nat} {code : List xi_E} {i : Nat} {ls : xi_L} {st : List Value} {S : xi_S} {Q Q2 : Option Value → xi_S → Prop} (h : xr scr d code i ls st S Q) (hq : ∀ r S2, Q r S2 → Q2 r S2) : xr scr d code i ls st S Q2 := by
  obtain ⟨n, r, S2, h1, h2⟩ := h
  exact ⟨n, r, S2, h1, hq r S2 h2⟩
