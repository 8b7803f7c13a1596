/-! THE TEXT: what both read in it; the class -/
/-- the sign at a place, -9 behind the end -/
def hr (b : Nat → Int32) (s i : Nat) : Int32 := if i < s then b i else -9
def kN (c : Int32) : Nat := if c = nI 109 then 0 else if c = nI 112 then 1 else if c = nI 115 then 2 else if c = nI 101 then 3 else if c = nI 103 then 4 else if c = nI 116 then 5 else 9
def kv (c : Int32) : Int32 := if kN c = 9 then -9 else nI (kN c)
def spv (c : Int32) : Int32 := if c = nI 45 then -9 else c - nI 48
def skp (b : Nat → Int32) : Nat → Nat → Nat
  | 0, i => i
  | k + 1, i => if b i = nI 32 then skp b k (i + 1) else i
def spt (b : Nat → Int32) (s : Nat) : Nat → Nat → Option Nat
  | 0, _ => none
  | k + 1, q => if hr b s q ≠ nI 45 ∧ (hr b s q < nI 48 ∨ nI 53 < hr b s q) then some q else spt b s k (q + 1)
def psn (b : Nat → Int32) (s h m p : Nat) : Option Nat := if kN (hr b s p) = 9 ∨ 7 ≤ m then some p else if hr b s (p + 1) < nI 48 ∨ nI 57 < hr b s (p + 1) then some (p + 1) else spt b s h (p + 1 + 1)
def prl (b : Nat → Int32) (s h : Nat) : Nat → Nat → List Nat → Option Nat × List Nat
  | 0, i, ps => (some i, ps)
  | k + 1, i, ps => if i < s then (match psn b s h ps.length i with
    | some q => (some q, ps)
    | none => prl b s h k (skp b (s - (i + 1 + (h + 1))) (i + 1 + (h + 1))) (ps ++ [i])) else (none, ps)
def TNp (b : Nat → Int32) (h : Nat) (ps : List Nat) : TN := (ps.length, h, fun x => kN (b (ps.getD x 0)), fun x => (b (ps.getD x 0 + 1)).toNatClampNeg - 48, fun x u => spv (b (ps.getD x 0 + 1 + (u + 1))))
def hd3 (h : Nat) (o : Option Nat × List Nat) : Option Nat × Nat × List Nat := (o.1, h, o.2)
def rdT (b : Nat → Int32) (s : Nat) : Option Nat × Nat × List Nat :=
  if hr b s (skp b s 0) ≠ nI 104 then (some (skp b s 0), 0, [])
  else if hr b s (skp b s 0 + 1) < nI 49 ∨ nI 53 < hr b s (skp b s 0 + 1) then (some (skp b s 0 + 1), 0, [])
  else hd3 ((b (skp b s 0 + 1)).toNatClampNeg - 48) (prl b s ((b (skp b s 0 + 1)).toNatClampNeg - 48) 8 (skp b (s - (skp b s 0 + 1 + 1)) (skp b s 0 + 1 + 1)) [])
def cd : Option Nat → Int32
  | none => -9
  | some q => nI q
theorem hr_lt {b : Nat → Int32} {s i : Nat} (h : i < s) : hr b s i = b i := if_pos h
theorem hr_ge {b : Nat → Int32} {s i : Nat} (h : ¬ i < s) : hr b s i = -9 := if_neg h
theorem hr_in {b : Nat → Int32} {s i lo : Nat} (hl : lo < 2 ^ 31) (h : ¬ hr b s i < nI lo) : i < s := by
  by_cases e : i < s
  · exact e
  · rw [hr_ge e] at h
    refine absurd ?_ h
    exact Int32.lt_iff_toInt_lt.mpr (by rw [nI_toInt hl]; show (-9 : Int) < _; omega)
theorem m9_48 : (-9 : Int32) < nI 48 := by decide
theorem m9_49 : (-9 : Int32) < nI 49 := by decide
theorem kN_le (c : Int32) : kN c = 9 ∨ kN c ≤ 5 := by
  unfold kN
  split
  · exact Or.inr (by decide)
  · split
    · exact Or.inr (by decide)
    · split
      · exact Or.inr (by decide)
      · split
        · exact Or.inr (by decide)
        · split
          · exact Or.inr (by decide)
          · split
            · exact Or.inr (by decide)
            · exact Or.inl rfl
theorem kv_9 {c : Int32} (h : kN c = 9) : kv c = -9 := if_pos h
theorem kv_n {c : Int32} (h : ¬ kN c = 9) : kv c = nI (kN c) := if_neg h
theorem kv_ne {c : Int32} (h : ¬ kN c = 9) : ¬ kv c = -9 := by
  have := kN_le c
  rw [kv_n h]
  exact fun e => (m9_ne (by omega)).mp e
theorem dig {c : Int32} {lo hi : Nat} (hl : lo ≤ hi) (hh : hi < 2 ^ 31) (h1 : ¬ c < nI lo) (h2 : ¬ nI hi < c) : c - nI lo = nI (c.toNatClampNeg - lo) ∧ lo ≤ c.toNatClampNeg ∧ c.toNatClampNeg ≤ hi := by
  have h0 : ¬ c < 0 := fun e => h1 (by
    rw [Int32.lt_iff_toInt_lt] at e ⊢
    rw [nI_toInt (by omega)]
    have : (0 : Int32).toInt = 0 := by decide
    omega)
  obtain ⟨j, hj, rfl⟩ := nI_of h0
  rw [nI_ltI hj (by omega)] at h1
  rw [nI_ltI (by omega) hj] at h2
  rw [nI_clamp hj]
  exact ⟨pk_sub (by omega), by omega, by omega⟩
theorem skp_ge (b : Nat → Int32) : ∀ k i, i ≤ skp b k i := by
  intro k
  induction k with
  | zero => exact fun i => Nat.le_refl i
  | succ k ih =>
    intro i
    show i ≤ if b i = nI 32 then skp b k (i + 1) else i
    split
    · exact Nat.le_trans (Nat.le_succ i) (ih (i + 1))
    · exact Nat.le_refl i
theorem skp_le (b : Nat → Int32) : ∀ k i, skp b k i ≤ i + k := by
  intro k
  induction k with
  | zero => exact fun i => Nat.le_refl i
  | succ k ih =>
    intro i
    show (if b i = nI 32 then skp b k (i + 1) else i) ≤ i + (k + 1)
    split
    · have := ih (i + 1); omega
    · omega
theorem skp_nb (b : Nat → Int32) : ∀ k i, skp b k i < i + k → ¬ b (skp b k i) = nI 32 := by
  intro k
  induction k with
  | zero => exact fun i h => absurd h (Nat.lt_irrefl i)
  | succ k ih =>
    intro i h
    by_cases e : b i = nI 32
    · have e2 : skp b (k + 1) i = skp b k (i + 1) := if_pos e
      rw [e2] at h ⊢
      exact ih (i + 1) (by omega)
    · have e2 : skp b (k + 1) i = i := if_neg e
      rw [e2]
      exact e
theorem spt_n {b : Nat → Int32} {s : Nat} : ∀ k q, spt b s k q = none → ∀ u, u < k → q + u < s ∧ (b (q + u) = nI 45 ∨ (¬ b (q + u) < nI 48 ∧ ¬ nI 53 < b (q + u))) := by
  intro k
  induction k with
  | zero => exact fun q _ u hu => absurd hu (Nat.not_lt_zero u)
  | succ k ih =>
    intro q h u hu
    by_cases e : hr b s q ≠ nI 45 ∧ (hr b s q < nI 48 ∨ nI 53 < hr b s q)
    · have e2 : spt b s (k + 1) q = some q := if_pos e
      rw [e2] at h
      cases h
    · have e2 : spt b s (k + 1) q = spt b s k (q + 1) := if_neg e
      rw [e2] at h
      have hq : q < s := by
        by_cases hq : q < s
        · exact hq
        · exact absurd (by rw [hr_ge hq]; decide) e
      by_cases hu0 : u = 0
      · subst hu0
        rw [hr_lt hq] at e
        refine ⟨hq, ?_⟩
        show b q = nI 45 ∨ (¬ b q < nI 48 ∧ ¬ nI 53 < b q)
        by_cases h45 : b q = nI 45
        · exact Or.inl h45
        · exact Or.inr ⟨fun h1 => e ⟨h45, Or.inl h1⟩, fun h1 => e ⟨h45, Or.inr h1⟩⟩
      · have := ih (q + 1) h (u - 1) (by omega)
        rw [show q + 1 + (u - 1) = q + u by omega] at this
        exact this
theorem spt_f {b : Nat → Int32} {s k q : Nat} (h : hr b s q ≠ nI 45 ∧ (hr b s q < nI 48 ∨ nI 53 < hr b s q)) : spt b s (k + 1) q = some q := if_pos h
theorem spt_s {b : Nat → Int32} {s k q : Nat} (h : ¬ (hr b s q ≠ nI 45 ∧ (hr b s q < nI 48 ∨ nI 53 < hr b s q))) : spt b s (k + 1) q = spt b s k (q + 1) := if_neg h
theorem psn_1 {b : Nat → Int32} {s h m p : Nat} (h1 : kN (hr b s p) = 9 ∨ 7 ≤ m) : psn b s h m p = some p := if_pos h1
theorem psn_2 {b : Nat → Int32} {s h m p : Nat} (h1 : ¬ (kN (hr b s p) = 9 ∨ 7 ≤ m)) (h2 : hr b s (p + 1) < nI 48 ∨ nI 57 < hr b s (p + 1)) : psn b s h m p = some (p + 1) := by unfold psn; rw [if_neg h1, if_pos h2]
theorem psn_3 {b : Nat → Int32} {s h m p : Nat} (h1 : ¬ (kN (hr b s p) = 9 ∨ 7 ≤ m)) (h2 : ¬ (hr b s (p + 1) < nI 48 ∨ nI 57 < hr b s (p + 1))) : psn b s h m p = spt b s h (p + 1 + 1) := by unfold psn; rw [if_neg h1, if_neg h2]
theorem psn_n {b : Nat → Int32} {s h m p : Nat} (e : psn b s h m p = none) : ¬ kN (hr b s p) = 9 ∧ m < 7 ∧ p + 1 < s ∧ ¬ b (p + 1) < nI 48 ∧ ¬ nI 57 < b (p + 1) ∧ spt b s h (p + 1 + 1) = none := by
  by_cases h1 : kN (hr b s p) = 9 ∨ 7 ≤ m
  · rw [psn_1 h1] at e; cases e
  · by_cases h2 : hr b s (p + 1) < nI 48 ∨ nI 57 < hr b s (p + 1)
    · rw [psn_2 h1 h2] at e; cases e
    · rw [psn_3 h1 h2] at e
      have h3 : p + 1 < s := hr_in (lo := 48) (by decide) (fun q => h2 (Or.inl q))
      rw [hr_lt h3] at h2
      exact ⟨fun q => h1 (Or.inl q), by omega, h3, fun q => h2 (Or.inl q), fun q => h2 (Or.inr q), e⟩
theorem psn_end {b : Nat → Int32} {s h m p : Nat} (e : psn b s h m p = none) : p + 1 + (h + 1) ≤ s := by
  obtain ⟨-, -, h3, -, -, h6⟩ := psn_n e
  cases h with
  | zero => omega
  | succ h =>
    have := (spt_n _ _ h6 h (by omega)).1
    omega
theorem prl_o {b : Nat → Int32} {s h k i : Nat} {ps : List Nat} (hi : ¬ i < s) : prl b s h (k + 1) i ps = (none, ps) := if_neg hi
theorem prl_f {b : Nat → Int32} {s h k i q : Nat} {ps : List Nat} (hi : i < s) (e : psn b s h ps.length i = some q) : prl b s h (k + 1) i ps = (some q, ps) := by
  simp only [prl, if_pos hi, e]
theorem prl_n {b : Nat → Int32} {s h k i : Nat} {ps : List Nat} (hi : i < s) (e : psn b s h ps.length i = none) : prl b s h (k + 1) i ps = prl b s h k (skp b (s - (i + 1 + (h + 1))) (i + 1 + (h + 1))) (ps ++ [i]) := by
  simp only [prl, if_pos hi, e]
theorem getD_a {ps : List Nat} {x i : Nat} (h : x < ps.length) : (ps ++ [i]).getD x 0 = ps.getD x 0 := by
  simp [List.getD, List.getElem?_append_left h]
theorem getD_b {ps : List Nat} {i : Nat} : (ps ++ [i]).getD ps.length 0 = i := by
  simp [List.getD]
section PARSE
variable {scr : xi_X} {d : Nat} {Q : Option Value → xi_S → Prop} {I I2 I3 I4 : Nat → Nat → Int32} {J J2 : Nat → Nat → Int64} {t dr : Nat} {G G2 : Nat → Nat} {a c : Nat} {b : Nat → Int32} {s h m p : Nat}
theorem c_kindBy {x : Int32} : xr scr d xc_31 0 [some (.int x), none] [] (wS, I, J, wP t dr G) Q = Q (some (.int (kv x))) (wS, I, J, wP t dr G) := by
  have st : ∀ k, k < 6 → xr scr d xc_31 2 [some (.int x), some (.int (nI k))] [] (wS, I, J, wP t dr G) Q = if xi_letters k = x then Q (some (.int (nI k))) (wS, I, J, wP t dr G) else xr scr d xc_31 2 [some (.int x), some (.int (nI (k + 1)))] [] (wS, I, J, wP t dr G) Q := fun k hk => by
    rw [xs_31_2, if_pos ((nI_ltI (by omega) (by decide)).mpr hk), xs_31_6 (vp_in_nI hk (by decide)), nI_clamp (by omega), xs_31_11, xs_31_13, nI_add]
  have en : xr scr d xc_31 2 [some (.int x), some (.int (nI 6))] [] (wS, I, J, wP t dr G) Q = Q (some (.int (-9))) (wS, I, J, wP t dr G) := by
    have h66 : ¬ nI 6 < nI 6 := by decide
    rw [xs_31_2, if_neg h66, xs_31_15]
  have l0 : xi_letters 0 = nI 109 := by decide
  have l1 : xi_letters 1 = nI 112 := by decide
  have l2 : xi_letters 2 = nI 115 := by decide
  have l3 : xi_letters 3 = nI 101 := by decide
  have l4 : xi_letters 4 = nI 103 := by decide
  have l5 : xi_letters 5 = nI 116 := by decide
  rw [xs_31_0, st 0 (by decide), st 1 (by decide), st 2 (by decide), st 3 (by decide), st 4 (by decide), st 5 (by decide), en, l0, l1, l2, l3, l4, l5]
  by_cases h0 : nI 109 = x
  · rw [if_pos h0, ← h0]; rfl
  · rw [if_neg h0]
    by_cases h1 : nI 112 = x
    · rw [if_pos h1, ← h1]; rfl
    · rw [if_neg h1]
      by_cases h2 : nI 115 = x
      · rw [if_pos h2, ← h2]; rfl
      · rw [if_neg h2]
        by_cases h3 : nI 101 = x
        · rw [if_pos h3, ← h3]; rfl
        · rw [if_neg h3]
          by_cases h4 : nI 103 = x
          · rw [if_pos h4, ← h4]; rfl
          · rw [if_neg h4]
            by_cases h5 : nI 116 = x
            · rw [if_pos h5, ← h5]; rfl
            · rw [if_neg h5]
              have e : kv x = -9 := kv_9 (by
                unfold kN
                rw [if_neg (fun q => h0 q.symm), if_neg (fun q => h1 q.symm), if_neg (fun q => h2 q.symm), if_neg (fun q => h3 q.symm), if_neg (fun q => h4 q.symm), if_neg (fun q => h5 q.symm)])
              rw [e]
theorem c_skip (hx : txc c) (hs : s ≤ 80) {i : Nat} (hi : i < 2 ^ 30) : xr scr d xc_29 0 [some (.ref c), some (.int (nI i)), some (.int (nI s)), none] [] (wS, I, J, wP t dr G) Q = Q (some (.int (nI (skp (I c) (s - i) i)))) (wS, I, J, wP t dr G) := by
  rw [xs_29_0]
  have key : ∀ k j, s - j = k → j < 2 ^ 30 + 80 → xr scr d xc_29 2 [some (.ref c), some (.int (nI i)), some (.int (nI s)), some (.int (nI j))] [] (wS, I, J, wP t dr G) Q = Q (some (.int (nI (skp (I c) k j)))) (wS, I, J, wP t dr G) := by
    intro k
    induction k with
    | zero =>
      intro j hj hj2
      rw [xs_29_2, if_neg (fun e => by have := (nI_ltI (by omega) (by omega)).mp e; omega), xs_29_12]
      rfl
    | succ k ih =>
      intro j hj hj2
      rw [xs_29_2, if_pos ((nI_ltI (by omega) (by omega)).mpr (by omega)), xs_29_5 hx (vp_in_nI (by omega) (by omega)), nI_clamp (by omega)]
      by_cases e : I c j = nI 32
      · have e2 : skp (I c) (k + 1) j = skp (I c) k (j + 1) := if_pos e
        rw [if_pos e, xs_29_10, nI_add, ih (j + 1) (by omega) (by omega), e2]
      · have e2 : skp (I c) (k + 1) j = j := if_neg e
        rw [if_neg e, xs_29_12, e2]
  exact key (s - i) i rfl (by omega)
theorem c_readPerson (ht : tw a) (hx : txc c) (hs : s ≤ 80) (hh : h ≤ 5) (hp : p < s) (h0 : I a 0 = nI h) (h1 : I a 1 = nI m) (hm : m ≤ 7) (hF : ∀ q I2, psn (I c) s h m p = some q → (∀ k, k < a ∨ a + 4 ≤ k → I2 k = I k) → Q (some (.int (nI q))) (wS, I2, J, wP t dr G)) (hN : ∀ I2 : Nat → Nat → Int32, psn (I c) s h m p = none → (∀ k, k < a ∨ a + 4 ≤ k → I2 k = I k) → I2 a 0 = nI h → I2 a 1 = nI (m + 1) → (∀ x, x < m → I2 (a + 1) x = I (a + 1) x ∧ I2 (a + 2) x = I (a + 2) x) → I2 (a + 1) m = kv (I c p) → I2 (a + 2) m = I c (p + 1) - nI 48 → (∀ j, j < m * 5 → I2 (a + 3) j = I (a + 3) j) → (∀ u, u < h → I2 (a + 3) (m * 5 + u) = spv (I c (p + 1 + (u + 1)))) → Q (some (.int (-9))) (wS, I2, J, wP t dr G)) : xr scr (d + 1) xc_30 0 [some (.ref a), some (.ref c), some (.int (nI p)), some (.int (nI s)), none, none, none] [] (wS, I, J, wP t dr G) Q := by
  have a' : a = 15 ∨ a = 20 := ht
  have c' : 10 ≤ c ∧ c ≤ 13 := hx
  have hrp : hr (I c) s p = I c p := hr_lt hp
  rw [xs_30_0 hx (vp_in_nI (by omega) (by omega)), nI_clamp (by omega), c_kindBy]
  simp (disch := first | assumption | omega | decide | exact vp_in_nI (by omega) (by omega) | exact and1_bN _ | (simp only [pk_mul, nI_add, pred_s]; exact vp_in_nI (by omega) (by omega))) only [Option.toList_some, Option.toList_none, List.cons_append, List.nil_append, List.append_nil]
  rw [xs_30_4]
  by_cases hk : kN (I c p) = 9
  · rw [if_pos (kv_9 hk), xs_30_12]
    exact hF p I (psn_1 (Or.inl (by rw [hrp]; exact hk))) (fun _ _ => rfl)
  · rw [if_neg (kv_ne hk), xs_30_8 ht, h1]
    by_cases hm7 : m < 7
    · have n1 : ¬ (kN (hr (I c) s p) = 9 ∨ 7 ≤ m) := by rw [hrp]; omega
      rw [if_pos ((nI_ltI (by omega) (by omega)).mpr hm7), xs_30_14, nI_add]
      by_cases hp1 : p + 1 < s
      · have hrp1 : hr (I c) s (p + 1) = I c (p + 1) := hr_lt hp1
        rw [if_pos ((nI_ltI (by omega) (by omega)).mpr hp1), xs_30_21 hx (vp_in_nI (by omega) (by omega)), nI_clamp (by omega)]
        by_cases hlo : I c (p + 1) < nI 48
        · rw [if_pos hlo, xs_30_31]
          exact hF (p + 1) I (psn_2 n1 (by rw [hrp1]; exact Or.inl hlo)) (fun _ _ => rfl)
        · rw [if_neg hlo, xs_30_26 hx (vp_in_nI (by omega) (by omega)), nI_clamp (by omega)]
          by_cases hhi : nI 57 < I c (p + 1)
          · rw [if_pos hhi, xs_30_31]
            exact hF (p + 1) I (psn_2 n1 (by rw [hrp1]; exact Or.inr hhi)) (fun _ _ => rfl)
          · have e3 : psn (I c) s h m p = spt (I c) s h (p + 1 + 1) := psn_3 n1 (by rw [hrp1]; exact fun q => q.elim hlo hhi)
            rw [xs_30_33 ht (by rw [h1]; exact vp_in_nI (by omega) (by omega)) hx (vp_in_nI (by omega) (by omega)) (by rw [h1, xu_nc (by omega), h1]; exact vp_in_nI (by omega) (by omega)), h1, xu_nc (a := a) (b := 1) (by omega), h1, nI_clamp (show m < 2 ^ 31 by omega), nI_clamp (show p + 1 < 2 ^ 31 by omega), xu_nc (a := c) (by omega), if_neg hhi]
            refine up_0 (P := fun u => ∀ I2 : Nat → Nat → Int32, (∀ k, k < a ∨ a + 4 ≤ k → I2 k = I k) → I2 a 0 = nI h → I2 a 1 = nI m → (∀ x, x < m → I2 (a + 1) x = I (a + 1) x ∧ I2 (a + 2) x = I (a + 2) x) → I2 (a + 1) m = kv (I c p) → I2 (a + 2) m = I c (p + 1) - nI 48 → (∀ j, j < m * 5 → I2 (a + 3) j = I (a + 3) j) → (∀ w, w < u → I2 (a + 3) (m * 5 + w) = spv (I c (p + 1 + (w + 1)))) → psn (I c) s h m p = spt (I c) s (h - u) (p + 1 + (u + 1)) → xr scr (d + 1) xc_30 51 [some (.ref a), some (.ref c), some (.int (nI p)), some (.int (nI s)), some (.int (kv (I c p))), some (.int (nI (p + 1 + u))), some (.int (nI u))] [] (wS, I2, J, wP t dr G) Q) h (fun u hu ih I2 f2 g0 g1 gx gk gf gj gs ge => ?_) (fun I2 f2 g0 g1 gx gk gf gj gs ge => ?_) _ (fun k hk => by rw [xu_fr (by omega), xu_fr (by omega)]) (by rw [xu_nc (by omega), xu_nc (by omega), h0]) (by rw [xu_nc (by omega), xu_nc (by omega), h1]) (fun x hx => ⟨by rw [xu_nc (by omega), xu_nj (by omega)], by rw [xu_nj (by omega), xu_nc (by omega)]⟩) (by rw [xu_nc (by omega), xu_eq]) (by rw [xu_eq]) (fun j hj => by rw [xu_nc (by omega), xu_nc (by omega)]) (fun w hw => absurd hw (Nat.not_lt_zero w)) e3
            · have hc2 : I2 c = I c := f2 c (by omega)
              obtain ⟨k, hk2⟩ : ∃ k, h - u = k + 1 := ⟨h - u - 1, by omega⟩
              have hk3 : h - (u + 1) = k := by omega
              rw [hk2] at ge
              rw [xs_30_51 ht, g0, if_pos ((nI_ltI (by omega) (by omega)).mpr hu), xs_30_55, nI_add, show p + 1 + u + 1 = p + 1 + (u + 1) from rfl]
              by_cases hq : p + 1 + (u + 1) < s
              · have hrq : hr (I c) s (p + 1 + (u + 1)) = I c (p + 1 + (u + 1)) := hr_lt hq
                have vq : vp_in (nI (p + 1 + (u + 1))) 80 := vp_in_nI (by omega) (by omega)
                have cq : (nI (p + 1 + (u + 1))).toNatClampNeg = p + 1 + (u + 1) := nI_clamp (by omega)
                have fin : ∀ X : Int32, X = spv (I c (p + 1 + (u + 1))) → ¬ (hr (I c) s (p + 1 + (u + 1)) ≠ nI 45 ∧ (hr (I c) s (p + 1 + (u + 1)) < nI 48 ∨ nI 53 < hr (I c) s (p + 1 + (u + 1)))) → xr scr (d + 1) xc_30 51 [some (.ref a), some (.ref c), some (.int (nI p)), some (.int (nI s)), some (.int (kv (I c p))), some (.int (nI (p + 1 + (u + 1)))), some (.int (nI (u + 1)))] [] (wS, xi_up I2 (a + 3) (m * 5 + u) X, J, wP t dr G) Q := fun X hX hb => by
                  refine ih _ (fun k hk => by rw [xu_fr (by omega), f2 k hk]) (by rw [xu_nc (by omega), g0]) (by rw [xu_nc (by omega), g1]) (fun x hx => by rw [xu_nc (by omega), xu_nc (by omega)]; exact gx x hx) (by rw [xu_nc (by omega), gk]) (by rw [xu_nc (by omega), gf]) (fun j hj => by rw [xu_nj (by omega), gj j hj]) (fun w hw => ?_) (by rw [ge, spt_s hb, hk3]; rfl)
                  rw [xu_at]
                  by_cases e : w = u
                  · subst e; rw [if_pos rfl, hX]
                  · rw [if_neg (by omega)]
                    exact gs w (by omega)
                have vst : vp_in (nI m * nI 5 + nI u) 35 := by rw [pk_mul, nI_add]; exact vp_in_nI (by omega) (by omega)
                rw [if_pos ((nI_ltI (by omega) (by omega)).mpr hq), xs_30_59 hx vq, cq, hc2]
                by_cases h45 : I c (p + 1 + (u + 1)) = nI 45
                · rw [if_pos h45, xs_30_76 ht hx vq, cq, hc2, if_pos h45, xs_30_89 ht, g1, xs_30_96 ht vst, pk_mul, nI_add, nI_add, nI_clamp (by omega)]
                  exact fin _ (by unfold spv; rw [if_pos h45]) (by rw [hrq]; exact fun q => q.1 h45)
                · rw [if_neg h45, xs_30_64 hx vq, cq, hc2]
                  by_cases k1 : I c (p + 1 + (u + 1)) < nI 48
                  · rw [if_pos k1, xs_30_74]
                    exact hF _ I2 (by rw [ge]; exact spt_f (by rw [hrq]; exact ⟨h45, Or.inl k1⟩)) f2
                  · rw [if_neg k1, xs_30_69 hx vq, cq, hc2]
                    by_cases k2 : nI 53 < I c (p + 1 + (u + 1))
                    · rw [if_pos k2, xs_30_74]
                      exact hF _ I2 (by rw [ge]; exact spt_f (by rw [hrq]; exact ⟨h45, Or.inr k2⟩)) f2
                    · rw [if_neg k2, xs_30_76 ht hx vq, cq, hc2, if_neg h45, xs_30_91 ht hx vq, cq, hc2, g1, xs_30_96 ht vst, pk_mul, nI_add, nI_add, nI_clamp (by omega)]
                      exact fin _ (by unfold spv; rw [if_neg h45]) (by rw [hrq]; exact fun q => q.2.elim k1 k2)
              · rw [if_neg (fun e => hq ((nI_ltI (by omega) (by omega)).mp e)), xs_30_74]
                exact hF _ I2 (by rw [ge]; exact spt_f (by rw [hr_ge hq]; decide)) f2
            · rw [Nat.sub_self] at ge
              rw [xs_30_51 ht, g0, if_neg (fun e => by have := (nI_ltI (by omega) (by omega)).mp e; omega), xs_30_99 ht, g1, nI_add]
              exact hN _ ge (fun k hk => by rw [xu_fr (by omega), f2 k hk]) (by rw [xu_nj (by decide), g0]) (by rw [xu_eq]) (fun x hx => by rw [xu_nc (by omega), xu_nc (by omega)]; exact gx x hx) (by rw [xu_nc (by omega), gk]) (by rw [xu_nc (by omega), gf]) (fun j hj => by rw [xu_nc (by omega), gj j hj]) (fun w hw => by rw [xu_nc (by omega), gs w hw])
      · rw [if_neg (fun e => hp1 ((nI_ltI (by omega) (by omega)).mp e)), xs_30_31]
        exact hF (p + 1) I (psn_2 n1 (by rw [hr_ge hp1]; exact Or.inl m9_48)) (fun _ _ => rfl)
    · rw [if_neg (fun e => hm7 ((nI_ltI (by omega) (by omega)).mp e)), xs_30_12]
      exact hF p I (psn_1 (Or.inr (by omega))) (fun _ _ => rfl)
end PARSE
