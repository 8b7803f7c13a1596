/-! call: lots -/
/-- the k-th from x on, of f, at which p holds -/
def nbt (p : Nat → Bool) : Nat → Nat → Nat → Nat
  | _, _, 0 => 0
  | x, k, f + 1 => if p x = true then (if k = 0 then x else nbt p (x + 1) (k - 1) f) else nbt p (x + 1) k f
def cn (p : Nat → Bool) : Nat → Nat → Nat
  | _, 0 => 0
  | x, f + 1 => bN (p x = true) + cn p (x + 1) f
theorem cn_7 (p : Nat → Bool) : cnt 7 p = cn p 0 7 := by
  simp only [cnt, cn, Nat.zero_add, Nat.add_zero, Nat.reduceAdd]
  omega
theorem nbt_ok (p : Nat → Bool) : ∀ (f x k : Nat), k < cn p x f → p (nbt p x k f) = true ∧ nbt p x k f < x + f
  | 0, x, k, h => absurd h (Nat.not_lt_zero _)
  | f + 1, x, k, h => by
    unfold cn at h
    unfold nbt
    by_cases hp : p x = true
    · rw [bN_t hp] at h
      rw [if_pos hp]
      by_cases h0 : k = 0
      · rw [if_pos h0]
        exact ⟨hp, by omega⟩
      · rw [if_neg h0]
        have := nbt_ok p f (x + 1) (k - 1) (by omega)
        exact ⟨this.1, by omega⟩
    · rw [bN_f hp] at h
      rw [if_neg hp]
      have := nbt_ok p f (x + 1) k (by omega)
      exact ⟨this.1, by omega⟩
theorem cnt_pos : ∀ m, m < 128 → m ≠ 0 → 0 < cnt 7 (fun y => m.testBit y) := by decide +kernel
def lcg (s : Nat) : Nat := s * 48271 % 2147483647
/-- whom the lots fall on -/
def lpk (m s : Nat) : Nat := nbt (fun y => m.testBit y) 0 (s % cnt 7 (fun y => m.testBit y)) 7
def lwk (T : TN) (v : Nat) (bk : Bool) : Nat → List Nat → Nat → List Nat
  | 0, pre, _ => pre
  | f + 1, pre, s => if opn T v bk pre = 0 then pre else lwk T v bk f (pre ++ [lpk (opn T v bk pre) (lcg s)]) (lcg s)
def GD (I : Nat → Nat → Int32) (T : TN) (v : Nat) (bk : Bool) (pre : List Nat) : Prop := 1 ≤ v ∧ v ≤ 5 ∧ I 25 0 = nI v ∧ I 25 1 = nI (bN (bk = true)) ∧ inP (tN T) pre ∧ pre.length ≤ tH T + 1 ∧ (∀ u, pre.length = u + 1 → I 25 2 = nI u) ∧ ∀ i, i < pre.length → I 26 i = nI (pre.getD i 0)
theorem lcg_lt (s : Nat) : lcg s < 2147483647 := Nat.mod_lt _ (by decide)
theorem lcg_l {s : Nat} (h : s < 2147483647) : lN s * 48271 - lN s * 48271 / 2147483647 * 2147483647 = lN (lcg s) := by
  rw [show (48271 : Int64) = lN 48271 from rfl, show (2147483647 : Int64) = lN 2147483647 from rfl, lN_mul, pk_lRem (by omega) (by decide) (by decide)]
  rfl
theorem lcg_m {s : Nat} (h : s < 2147483647) : 48271 * lN s - 48271 * lN s / 2147483647 * 2147483647 = lN (lcg s) := by
  rw [Int64.mul_comm 48271 (lN s)]
  exact lcg_l h
def GF (I I2 : Nat → Nat → Int32) (q : List Nat) : Prop := (∀ k, (k < 25 ∨ 26 < k) → (k < 32 ∨ 37 < k) → I2 k = I k) ∧ ∀ i, q.length ≤ i → I2 26 i = I 26 i
def MF (I I2 : Nat → Nat → Int32) (q : List Nat) : Prop := (∀ k, k ≠ 58 → k ≠ 66 → I2 k = I k) ∧ (∀ j, j ≠ 18 → I2 58 j = I 58 j) ∧ (∀ i, q.length ≤ i → I2 66 i = I 66 i) ∧ I2 58 18 = nI (q.length - 1) ∧ HD I2 q
section LOTS
variable {scr : xi_X} {d : Nat} {Q : Option Value → xi_S → Prop} {I I2 I3 I4 : Nat → Nat → Int32} {J J2 : Nat → Nat → Int64} {t dr : Nat} {G G2 : Nat → Nat} {T : TN} {v v2 : Nat} {bk bk2 : Bool} {pre pre2 : List Nat} {ss ss2 : List SGT}
theorem opn_lt (T : TN) (v : Nat) (bk : Bool) (pre : List Nat) (hn : tN T ≤ 7) : opn T v bk pre < 128 := by
  unfold opn
  split
  · exact bs_lt7 hn _
  · decide
theorem opn_bit2 {y : Nat} (h : (opn T v bk pre).testBit y = true) : y < tN T ∧ pre.length ≤ tH T := by
  unfold opn at h
  by_cases e : pre.length ≤ tH T
  · rw [if_pos e, bs_bit] at h
    simp only [Bool.and_eq_true, decide_eq_true_eq] at h
    exact ⟨h.1, e⟩
  · rw [if_neg e] at h
    simp at h
theorem c_bitAt {m : Nat} (hm : m < 128) : ∀ (f x k : Nat) (k0 : Int32), x + f = 7 → k < 128 → xr scr d xc_140 4 [some (.int (nI m)), some (.int k0), some (.int (nI k)), some (.int (nI x))] [] (wS, I, J, wP t dr G) Q = Q (some (.int (nI (nbt (fun y => m.testBit y) x k f)))) (wS, I, J, wP t dr G)
  | 0, x, k, k0, h, hk => by
    have hx : ¬ x < 7 := by omega
    simp (disch := first | assumption | omega | decide | exact vp_in_nI (by omega) (by omega) | exact and1_bN _ | (simp only [pk_mul, nI_add, pred_s]; exact vp_in_nI (by omega) (by omega))) only [xs_140_4, Bool.false_eq_true, nI_add, pk_mul, nI_ltI, nI_eq, z_eq, z_lt, z_gt, z_bN, bN_z, bN_p, bN_i1, nI_clamp, rng_nI, ↓reduceIte, if_true, if_false, not_true_eq_false, not_false_eq_true, true_and, and_true, and_self, false_and, and_false, hx, xs_140_20]
    rfl
  | f + 1, x, k, k0, h, hk => by
    have hx : x < 7 := by omega
    have hx8 : x < 8 := by omega
    have hk31 : k < 2 ^ 31 := by omega
    have i1 := c_bitAt hm f (x + 1) k k0 (by omega) hk
    have i2 := c_bitAt hm f (x + 1) (k - 1) k0 (by omega) (by omega)
    unfold nbt
    rw [xs_140_4]
    simp (disch := first | assumption | omega | decide | exact vp_in_nI (by omega) (by omega) | exact and1_bN _ | (simp only [pk_mul, nI_add, pred_s]; exact vp_in_nI (by omega) (by omega))) only [Bool.false_eq_true, nI_add, pk_mul, nI_ltI, nI_eq, z_eq, z_lt, z_gt, z_bN, bN_z, bN_p, bN_i1, nI_clamp, rng_nI, ↓reduceIte, if_true, if_false, not_true_eq_false, not_false_eq_true, true_and, and_true, and_self, false_and, and_false, hx]
    rw [xs_140_7, sb_tA m hm x hx8]
    by_cases hp : m.testBit x = true
    · have n10 : ¬ nI 1 = 0 := by decide
      rw [bN_t hp, if_neg n10, if_pos hp, xs_140_13]
      by_cases h0 : k = 0
      · rw [if_pos h0, h0, if_pos nI_0, xs_140_15]
      · rw [if_neg h0, if_neg (nI_ne0 (by omega) hk31), xs_140_17, add_m1, pk_sub (by omega), xs_140_18, nI_add]
        exact i2
    · rw [bN_f hp, if_pos nI_0, if_neg hp, xs_140_18, nI_add]
      exact i1
theorem m_bitAt {m : Nat} (hm : m < 128) {x1 x2 : Int32} {y3 : Int64} : ∀ (f x k : Nat), x + f = 7 → k < 128 → k < cn (fun y => m.testBit y) x f → xr scr (d + 1) xc_246 42 [some (.ref 58), some (.int x1), some (.int x2), some (.long y3), none, some (.int (nI m)), some (.int (nI k)), some (.int (nI x))] [] (wS, I, J, wP t dr G) Q = xr scr (d + 1) xc_246 60 [some (.ref 58), some (.int x1), some (.int x2), some (.long y3), none, some (.int (nI m)), some (.int (nI 0)), some (.int (nI (nbt (fun y => m.testBit y) x k f)))] [] (wS, I, J, wP t dr G) Q
  | 0, x, k, h, hk, hc => absurd hc (Nat.not_lt_zero _)
  | f + 1, x, k, h, hk, hc => by
    have hx : x < 7 := by omega
    have hx8 : x < 8 := by omega
    have hk31 : k < 2 ^ 31 := by omega
    have i1 := m_bitAt hm (x1 := x1) (x2 := x2) (y3 := y3) f (x + 1) k (by omega) hk
    have i2 := m_bitAt hm (x1 := x1) (x2 := x2) (y3 := y3) f (x + 1) (k - 1) (by omega) (by omega)
    have hhas : ∀ Q, xr scr d xc_227 0 [some (.int (nI m)), some (.int (nI x))] [] (wS, I, J, wP t dr G) Q = Q (some (.int (nI (bN (m.testBit x = true))))) (wS, I, J, wP t dr G) := fun Q => by
      have := m_has (scr := scr) (d := d) (I := I) (J := J) (t := t) (dr := dr) (G := G) (Q := Q) (n := 7) (Nat.le_refl _) (fun y => m.testBit y) hx8
      rw [← bs_of hm] at this
      rw [this]
      congr 4
      exact bN_c ⟨fun h => h.2, fun h => ⟨hx, h⟩⟩
    unfold cn at hc
    unfold nbt
    by_cases hp : m.testBit x = true
    · have n10 : ¬ nI 1 = 0 := by decide
      rw [bN_t hp] at hc
      rw [if_pos hp]
      simp (disch := first | assumption | omega | decide | exact vp_in_nI (by omega) (by omega) | exact and1_bN _ | (simp only [pk_mul, nI_add, pred_s]; exact vp_in_nI (by omega) (by omega))) only [xs_246_42, hhas, Option.toList_some, Option.toList_none, List.cons_append, List.nil_append, List.append_nil, xs_246_45]
      rw [bN_t hp, if_neg n10, xs_246_46]
      by_cases h0 : k = 0
      · rw [if_pos h0, h0, if_neg (by rw [nI_0]; decide)]
      · have hk0 : 0 < k := by omega
        rw [if_neg h0, if_pos (by rw [z_gt hk31]; exact hk0)]
        simp (disch := first | assumption | omega | decide | exact vp_in_nI (by omega) (by omega) | exact and1_bN _ | (simp only [pk_mul, nI_add, pred_s]; exact vp_in_nI (by omega) (by omega))) only [xs_246_48, hhas, Option.toList_some, Option.toList_none, List.cons_append, List.nil_append, List.append_nil, xs_246_52]
        rw [bN_t hp, if_neg n10, xs_246_53, xs_246_56, pk_sub (by omega), nI_add]
        exact i2 (by omega)
    · rw [bN_f hp] at hc
      rw [if_neg hp]
      simp (disch := first | assumption | omega | decide | exact vp_in_nI (by omega) (by omega) | exact and1_bN _ | (simp only [pk_mul, nI_add, pred_s]; exact vp_in_nI (by omega) (by omega))) only [xs_246_42, hhas, Option.toList_some, Option.toList_none, List.cons_append, List.nil_append, List.append_nil, xs_246_45]
      rw [bN_f hp, if_pos nI_0]
      simp (disch := first | assumption | omega | decide | exact vp_in_nI (by omega) (by omega) | exact and1_bN _ | (simp only [pk_mul, nI_add, pred_s]; exact vp_in_nI (by omega) (by omega))) only [xs_246_48, hhas, Option.toList_some, Option.toList_none, List.cons_append, List.nil_append, List.append_nil, xs_246_52]
      rw [bN_f hp, if_pos nI_0, xs_246_55, xs_246_56, pk_sub (Nat.zero_le _), nI_add, Nat.sub_zero]
      exact i1 (by omega)
theorem c_openDay (ht : tw t) (hT : TT I t T) (hD : GD I T v bk pre) {u : Nat} (hu : pre.length = u + 1) (hq : ∀ I2 : Nat → Nat → Int32, FrA I I2 32 → Q (some (.int (nI (opn T v bk pre)))) (wS, I2, J, wP t dr (wU 32 t G))) : xr scr (d + 5) xc_62 0 [some (.ref 0)] [] (wS, I, J, wP t dr G) Q := by
  have hh5 := TR_h hT.1
  obtain ⟨hv1, hv, h0, h1, hin, hl, h2, h26⟩ := hD
  have h2 := h2 u hu
  have ht' : t = 15 ∨ t = 20 := ht
  rw [xs_62_0, h0, h1]
  refine c_prepare (Or.inl rfl) ht hT hv1 hv (fun I1 f1 W1 T1 s1 => ?_)
  have hT1 : TT I1 t T := TT_fr hT (f1 _ (by omega)) (f1 _ (by omega)) (f1 _ (by omega)) (f1 _ (by omega)) (f1 _ (by omega))
  simp (disch := first | assumption | omega | decide | exact vp_in_nI (by omega) (by omega) | exact and1_bN _ | (simp only [pk_mul, nI_add, pred_s]; exact vp_in_nI (by omega) (by omega))) only [Option.toList_some, Option.toList_none, List.cons_append, List.nil_append, List.append_nil, xs_62_11]
  refine c_follow (d := d + 2) (Or.inl rfl) (Or.inl rfl) ht wU_eq hT1 hv W1 hin hu (by omega) (by rw [f1 25 (by omega), h2]) (fun i hi => by rw [f1 26 (by omega)]; exact h26 i hi) (fun I2 f2 W2 => ?_)
  have hT2 : TT I2 t T := TT_frW (w := 32) (Or.inl rfl) ht (FrT_W f2) hT1
  have e2 : I2 25 2 = nI u := by rw [f2.1 25 (by decide) (by decide) (by decide), f1 25 (by omega), h2]
  have fA : FrA I I2 32 := FrA_trans f1 (FrA_W (FrT_W f2))
  have hq2 := hq I2 fA
  unfold opn at hq2
  by_cases hlt : u < tH T
  · rw [if_pos (by omega)] at hq2
    simp (disch := first | assumption | omega | decide | exact vp_in_nI (by omega) (by omega) | exact and1_bN _ | (simp only [pk_mul, nI_add, pred_s]; exact vp_in_nI (by omega) (by omega))) only [Option.toList_some, Option.toList_none, List.cons_append, List.nil_append, List.append_nil, xs_62_16, e2, c_openIn (Or.inl rfl) ht wU_eq hT2 W2 hin hu hlt, xs_62_22]
    exact hq2
  · rw [if_neg (by omega)] at hq2
    have eu : u = tH T := by omega
    rw [eu] at e2
    simp (disch := first | assumption | omega | decide | exact vp_in_nI (by omega) (by omega) | exact and1_bN _ | (simp only [pk_mul, nI_add, pred_s]; exact vp_in_nI (by omega) (by omega))) only [Option.toList_some, Option.toList_none, List.cons_append, List.nil_append, List.append_nil, xs_62_16, e2, c_openIn_m (Or.inl rfl) ht wU_eq hT2, xs_62_22]
    exact hq2
theorem lpk_ok (hn : tN T ≤ 7) (h0 : opn T v bk pre ≠ 0) (s : Nat) : s % cnt 7 (fun y => (opn T v bk pre).testBit y) < cnt 7 (fun y => (opn T v bk pre).testBit y) ∧ lpk (opn T v bk pre) s < tN T ∧ pre.length ≤ tH T := by
  have hc := cnt_pos _ (opn_lt T v bk pre hn) h0
  have hm := Nat.mod_lt s hc
  have := nbt_ok (fun y => (opn T v bk pre).testBit y) 7 0 (s % cnt 7 (fun y => (opn T v bk pre).testBit y)) (by rw [← cn_7]; exact hm)
  exact ⟨hm, opn_bit2 this.1⟩
theorem GD_add {y : Nat} (hD : GD I T v bk pre) (hI : I2 = dps I pre.length y) (hy : y < tN T) (hl : pre.length ≤ tH T) : GD I2 T v bk (pre ++ [y]) := by
  obtain ⟨a1, a2, a3, a4, a5, a6, a7, a8⟩ := hD
  subst hI
  refine ⟨a1, a2, by rw [dps_25 (by decide), a3], by rw [dps_25 (by decide), a4], inP_app a5 hy, by rw [List.length_append]; show pre.length + 1 ≤ _; omega, fun u hu => ?_, fun i hi => ?_⟩
  · rw [List.length_append] at hu
    have : u = pre.length := by simp at hu; omega
    rw [this, dps_252]
  · rw [dps_26]
    by_cases e : i = pre.length
    · rw [if_pos e, e, getD_last]
    · rw [if_neg e, getD_app (by rw [List.length_append] at hi; simp at hi; omega), a8 i (by rw [List.length_append] at hi; simp at hi; omega)]
theorem c_lotsL (ht : tw t) (hT : TT I t T) {x1 x2 : Int32} : ∀ (f u : Nat) (pre : List Nat) (s : Nat) (I2 : Nat → Nat → Int32) (G : Nat → Nat) (o6 : Option Value), pre.length = u + 1 → u + f = tH T → s < 2147483647 → GF I I2 pre → GD I2 T v bk pre → (∀ (I3 : Nat → Nat → Int32) (G3 : Nat → Nat), GF I I3 (lwk T v bk f pre s) → GD I3 T v bk (lwk T v bk f pre s) → G3 38 = G 38 → Q (some (.int (nI ((lwk T v bk f pre s).length - 1)))) (wS, I3, J, wP t dr G3)) → xr scr (d + 20) xc_139 26 [some (.ref 0), some (.int x1), some (.int x2), some (.long (lN s)), none, some (.int (nI u)), o6] [] (wS, I2, J, wP t dr G) Q
  | 0, u, pre, s, I2, G, o6, hu, hf, hs, F, hD, hq => by
    have ht' : t = 15 ∨ t = 20 := ht
    have hh5 := TR_h hT.1
    have e0 : I2 t 0 = nI (tH T) := by rw [F.1 t (by omega) (by omega), TR_0 hT.1]
    have hnl : ¬ u < tH T := by omega
    rw [xs_139_26 ht, e0]
    simp (disch := first | assumption | omega | decide | exact vp_in_nI (by omega) (by omega) | exact and1_bN _ | (simp only [pk_mul, nI_add, pred_s]; exact vp_in_nI (by omega) (by omega))) only [Bool.false_eq_true, nI_add, pk_mul, nI_ltI, nI_eq, z_eq, z_lt, z_gt, z_bN, bN_z, bN_p, bN_i1, nI_clamp, rng_nI, ↓reduceIte, if_true, if_false, not_true_eq_false, not_false_eq_true, true_and, and_true, and_self, false_and, and_false, hnl, xs_139_57, hD.2.2.2.2.2.2.1 u hu]
    have := hq I2 G F hD rfl
    rw [show (lwk T v bk 0 pre s) = pre from rfl, hu] at this
    exact this
  | f + 1, u, pre, s, I2, G, o6, hu, hf, hs, F, hD, hq => by
    have ht' : t = 15 ∨ t = 20 := ht
    have hn := TR_n hT.1
    have hh5 := TR_h hT.1
    have e0 : I2 t 0 = nI (tH T) := by rw [F.1 t (by omega) (by omega), TR_0 hT.1]
    have hlt : u < tH T := by omega
    have hT2 : TT I2 t T := TT_fr hT (F.1 _ (by omega) (by omega)) (F.1 _ (by omega) (by omega)) (F.1 _ (by omega) (by omega)) (F.1 _ (by omega) (by omega)) (F.1 _ (by omega) (by omega))
    have hm := opn_lt T v bk pre hn
    rw [show lwk T v bk (f + 1) pre s = if opn T v bk pre = 0 then pre else lwk T v bk f (pre ++ [lpk (opn T v bk pre) (lcg s)]) (lcg s) from rfl] at hq
    rw [xs_139_26 ht, e0]
    simp (disch := first | assumption | omega | decide | exact vp_in_nI (by omega) (by omega) | exact and1_bN _ | (simp only [pk_mul, nI_add, pred_s]; exact vp_in_nI (by omega) (by omega))) only [Bool.false_eq_true, nI_add, pk_mul, nI_ltI, nI_eq, z_eq, z_lt, z_gt, z_bN, bN_z, bN_p, bN_i1, nI_clamp, rng_nI, ↓reduceIte, if_true, if_false, not_true_eq_false, not_false_eq_true, true_and, and_true, and_self, false_and, and_false, hlt]
    rw [xs_139_31, lcg_l hs]
    refine c_openDay (d := d + 14) ht hT2 hD hu (fun I3 f3 => ?_)
    have F3 : GF I I3 pre := ⟨fun k a b => by rw [f3 k (by omega), F.1 k a b], fun i hi => by rw [f3 26 (by omega), F.2 i hi]⟩
    obtain ⟨a1, a2, a3, a4, a5, a6, a7, a8⟩ := hD
    have D3 : GD I3 T v bk pre := ⟨a1, a2, by rw [f3 25 (by omega), a3], by rw [f3 25 (by omega), a4], a5, a6, fun u hu => by rw [f3 25 (by omega), a7 u hu], fun i hi => by rw [f3 26 (by omega), a8 i hi]⟩
    simp (disch := first | assumption | omega | decide | exact vp_in_nI (by omega) (by omega) | exact and1_bN _ | (simp only [pk_mul, nI_add, pred_s]; exact vp_in_nI (by omega) (by omega))) only [Option.toList_some, Option.toList_none, List.cons_append, List.nil_append, List.append_nil]
    rw [xs_139_39]
    by_cases h0 : opn T v bk pre = 0
    · rw [if_pos h0] at hq
      rw [h0, if_pos nI_0, xs_139_42]
      have := hq I3 (wU 32 t G) F3 D3 (by simp [wU])
      rw [hu] at this
      exact this
    · rw [if_neg h0] at hq
      obtain ⟨k1, k2, k3⟩ := lpk_ok (T := T) (v := v) (bk := bk) (pre := pre) hn h0 (lcg s)
      have hcl := cnt_le 7 (fun y => (opn T v bk pre).testBit y)
      have hcp := cnt_pos _ hm h0
      have hls := lcg_lt s
      rw [if_neg (nI_ne0 (by omega) (by omega)), xs_139_44, c_bitCount hm]
      simp (disch := first | assumption | omega | decide | exact vp_in_nI (by omega) (by omega) | exact and1_bN _ | (simp only [pk_mul, nI_add, pred_s]; exact vp_in_nI (by omega) (by omega))) only [Option.toList_some, Option.toList_none, List.cons_append, List.nil_append, List.append_nil]
      have hz : ¬ Int32.toInt64 (nI (cnt 7 (fun y => (opn T v bk pre).testBit y))) = 0 := by rw [nI_l (by omega), l0, pk_lEQ (by omega) (by decide)]; omega
      rw [xs_139_50 hz, nI_l (by omega), pk_lRem (by omega) hcp (by omega), lN_i, xs_140_0, c_bitAt hm 7 0 _ _ rfl (by omega)]
      simp (disch := first | assumption | omega | decide | exact vp_in_nI (by omega) (by omega) | exact and1_bN _ | (simp only [pk_mul, nI_add, pred_s]; exact vp_in_nI (by omega) (by omega))) only [Option.toList_some, Option.toList_none, List.cons_append, List.nil_append, List.append_nil]
      rw [xs_139_54, show nbt (fun y => (opn T v bk pre).testBit y) 0 (lcg s % cnt 7 (fun y => (opn T v bk pre).testBit y)) 7 = lpk (opn T v bk pre) (lcg s) from rfl, c_passTo (y := lpk (opn T v bk pre) (lcg s)) (D3.2.2.2.2.2.2.1 u hu) (by omega)]
      simp (disch := first | assumption | omega | decide | exact vp_in_nI (by omega) (by omega) | exact and1_bN _ | (simp only [pk_mul, nI_add, pred_s]; exact vp_in_nI (by omega) (by omega))) only [Option.toList_some, Option.toList_none, List.cons_append, List.nil_append, List.append_nil]
      rw [xs_139_55, nI_add]
      refine c_lotsL ht hT f (u + 1) (pre ++ [lpk (opn T v bk pre) (lcg s)]) (lcg s) _ (wU 32 t G) _ (by rw [List.length_append, hu]; rfl) (by omega) hls ⟨fun k a b => ?_, fun i hi => ?_⟩ (GD_add D3 (by rw [hu]) k2 k3) (fun I4 G4 F4 D4 g4 => hq I4 G4 F4 D4 (by rw [g4]; simp [wU]))
      · rw [dps_fr (by omega) (by omega), F3.1 k a b]
      · rw [List.length_append] at hi
        have : ¬ i = u + 1 := by simp at hi; omega
        rw [dps_26, if_neg this, F3.2 i (by simp at hi; omega)]
theorem m_lotsL (hM : MT I T) (hV : MV I v bk) (hv : v ≤ 5) {x1 x2 : Int32} : ∀ (f u : Nat) (pre : List Nat) (s : Nat) (I2 : Nat → Nat → Int32) (o6 o7 : Option Value), pre.length = u + 1 → u + f = tH T → s < 2147483647 → inP (tN T) pre → MF I I2 pre → (∀ I3 : Nat → Nat → Int32, MF I I3 (lwk T v bk f pre s) → Q (some (.int (nI ((lwk T v bk f pre s).length - 1)))) (wS, I3, J, wP t dr G)) → xr scr (d + 20) xc_246 25 [some (.ref 58), some (.int x1), some (.int x2), some (.long (lN s)), none, some (.int (nI (opn T v bk pre))), o6, o7] [] (wS, I2, J, wP t dr G) Q
  | 0, u, pre, s, I2, o6, o7, hu, hf, hs, hin, F, hq => by
    have h0 : opn T v bk pre = 0 := by
      unfold opn
      rw [if_neg (by omega)]
    rw [h0, xs_246_25, if_pos nI_0, xs_246_76, F.2.2.2.1]
    exact hq I2 F
  | f + 1, u, pre, s, I2, o6, o7, hu, hf, hs, hin, F, hq => by
    have hn := MT_n hM
    have hh5 := MT_h hM
    have hm := opn_lt T v bk pre hn
    rw [show lwk T v bk (f + 1) pre s = if opn T v bk pre = 0 then pre else lwk T v bk f (pre ++ [lpk (opn T v bk pre) (lcg s)]) (lcg s) from rfl] at hq
    rw [xs_246_25]
    by_cases h0 : opn T v bk pre = 0
    · rw [if_pos h0] at hq
      rw [h0, if_pos nI_0, xs_246_76, F.2.2.2.1]
      exact hq I2 F
    · rw [if_neg h0] at hq
      obtain ⟨k1, k2, k3⟩ := lpk_ok (T := T) (v := v) (bk := bk) (pre := pre) hn h0 (lcg s)
      have hcl := cnt_le 7 (fun y => (opn T v bk pre).testBit y)
      have hcp := cnt_pos _ hm h0
      have hls := lcg_lt s
      have hz : ¬ Int32.toInt64 (nI (cnt 7 (fun y => (opn T v bk pre).testBit y))) = 0 := by rw [nI_l (by omega), l0, pk_lEQ (by omega) (by decide)]; omega
      have e18 : I2 58 18 = nI u := by rw [F.2.2.2.1, hu]; rfl
      rw [if_neg (nI_ne0 (by omega) (by omega)), xs_246_27, lcg_m hs, m_sizeOf hm]
      simp (disch := first | assumption | omega | decide | exact vp_in_nI (by omega) (by omega) | exact and1_bN _ | (simp only [pk_mul, nI_add, pred_s]; exact vp_in_nI (by omega) (by omega))) only [Option.toList_some, Option.toList_none, List.cons_append, List.nil_append, List.append_nil]
      rw [xs_246_36 hz, nI_l (by omega), pk_lRem (by omega) hcp (by omega), lN_i, m_bitAt (d := d + 19) hm 7 0 _ rfl (by omega) (by rw [← cn_7]; exact k1), xs_246_60 (by rw [e18, nI_add]; exact vp_in_nI (by omega) (by omega)), e18, nI_add, nI_clamp (by omega)]
      obtain ⟨I3, hI3⟩ : ∃ I3, I3 = mps I2 (u + 1) (lpk (opn T v bk pre) (lcg s)) := ⟨_, rfl⟩
      have hI3' : xi_up (xi_up I2 58 18 (nI (u + 1))) 66 (u + 1) (nI (nbt (fun y => (opn T v bk pre).testBit y) 0 (lcg s % cnt 7 (fun y => (opn T v bk pre).testBit y)) 7)) = I3 := hI3.symm
      rw [hI3']
      have hin3 := inP_app hin k2
      have F3 : MF I I3 (pre ++ [lpk (opn T v bk pre) (lcg s)]) := by
        rw [hI3]
        refine ⟨fun k a b => ?_, fun j hj => ?_, fun i hi => ?_, ?_, fun i hi => ?_⟩
        · rw [mps_fr a b, F.1 k a b]
        · rw [mps_58 hj, F.2.1 j hj]
        · rw [List.length_append] at hi
          have : ¬ i = u + 1 := by simp at hi; omega
          rw [mps_66, if_neg this, F.2.2.1 i (by simp at hi; omega)]
        · rw [mps_18, List.length_append, hu]; rfl
        · rw [List.length_append] at hi
          have hi2 : i < pre.length + 1 := hi
          rw [mps_66]
          by_cases e : i = u + 1
          · rw [if_pos e, e, ← hu, getD_last]
          · rw [if_neg e, getD_app (by omega), F.2.2.2.2 i (by omega)]
      have hM3 : MT I3 T := MT_fr hM (F3.2.1 10 (by decide)) (F3.2.1 11 (by decide)) (F3.1 65 (by decide) (by decide))
      have hV3 : MV I3 v bk := MV_fr hV (F3.2.1 16 (by decide)) (F3.2.1 17 (by decide))
      have hl3 : (pre ++ [lpk (opn T v bk pre) (lcg s)]).length = u + 1 + 1 := by rw [List.length_append, hu]; rfl
      rw [m_canNow (d := d + 14) hM3 hV3 hv F3.2.2.2.2 hin3 hl3 (by omega) (by rw [F3.2.2.2.1, hl3]; rfl)]
      simp (disch := first | assumption | omega | decide | exact vp_in_nI (by omega) (by omega) | exact and1_bN _ | (simp only [pk_mul, nI_add, pred_s]; exact vp_in_nI (by omega) (by omega))) only [Option.toList_some, Option.toList_none, List.cons_append, List.nil_append, List.append_nil]
      rw [xs_246_74]
      exact m_lotsL hM hV hv f (u + 1) _ (lcg s) I3 _ _ hl3 (by omega) hls hin3 F3 hq
theorem lwk_len (T : TN) (v : Nat) (bk : Bool) (hn : tN T ≤ 7) : ∀ (f : Nat) (pre : List Nat) (s : Nat), inP (tN T) pre → 1 ≤ pre.length → pre.length ≤ tH T + 1 → inP (tN T) (lwk T v bk f pre s) ∧ 1 ≤ (lwk T v bk f pre s).length ∧ (lwk T v bk f pre s).length ≤ tH T + 1
  | 0, pre, s, h, h1, h2 => ⟨h, h1, h2⟩
  | f + 1, pre, s, h, h1, h2 => by
    unfold lwk
    by_cases h0 : opn T v bk pre = 0
    · rw [if_pos h0]
      exact ⟨h, h1, h2⟩
    · rw [if_neg h0]
      obtain ⟨k1, k2, k3⟩ := lpk_ok (T := T) (v := v) (bk := bk) (pre := pre) hn h0 (lcg s)
      exact lwk_len T v bk hn f _ _ (inP_app h k2) (by rw [List.length_append]; simp) (by rw [List.length_append]; show pre.length + 1 ≤ _; omega)
theorem k_lots (H : INV I J t dr G T v bk pre ss) {x y : Int32} : xr scr (d + 20) xc_139 0 [some (.ref 0), some (.int x), some (.int y), none, none, none, none] [] (wS, I, J, wP t dr G) (AN scr (d + 20) xc_246 [some (.ref 58), some (.int x), some (.int y), none, none, none, none, none]) := by
  have ht := H.1.1
  have ht' : t = 15 ∨ t = 20 := ht
  have hT := H.1.2.2.2.1
  have hM := H.1.2.2.2.2.1
  have hn := TR_n hT.1
  have hh5 := TR_h hT.1
  have hD := H.2.2.2.1
  have c1 : (nI 1).toInt = 1 := by decide
  have c0 : (0 : Int32).toInt = 0 := by decide
  have c2 : (nI 2147483647).toInt = 2147483647 := by decide
  have c3 : (nI 2147483646).toInt = 2147483646 := by decide
  by_cases hx : rng x (tN T) = true
  · obtain ⟨x, hx1, rfl⟩ := rng_of hx (by omega)
    have hh1 := H.1.2.2.2.2.2 (by omega)
    rw [xs_139_0 ht, c_isOne ht hT.1]
    simp (disch := first | assumption | omega | decide | exact vp_in_nI (by omega) (by omega) | exact and1_bN _ | (simp only [pk_mul, nI_add, pred_s]; exact vp_in_nI (by omega) (by omega))) only [Option.toList_some, Option.toList_none, List.cons_append, List.nil_append, List.append_nil, xs_139_4, Bool.false_eq_true, nI_add, pk_mul, nI_ltI, nI_eq, z_eq, z_lt, z_gt, z_bN, bN_z, bN_p, bN_i1, nI_clamp, rng_nI, ↓reduceIte, if_true, if_false, not_true_eq_false, not_false_eq_true, true_and, and_true, and_self, false_and, and_false, hx1]
    rw [xs_139_5 ht, TR_0 hT.1, if_neg (nI_ne0 (by omega) (by omega)), xs_139_9]
    have mbad : ¬ (¬ y < nI 1 ∧ ¬ nI 2147483646 < y) → AN scr (d + 20) xc_246 [some (.ref 58), some (.int (nI x)), some (.int y), none, none, none, none, none] (some (.int (-1))) (wS, I, J, wP t dr G) := by
      intro h
      refine AN_i ?_
      simp (disch := first | assumption | omega | decide | exact vp_in_nI (by omega) (by omega) | exact and1_bN _ | (simp only [pk_mul, nI_add, pred_s]; exact vp_in_nI (by omega) (by omega))) only [xs_246_0, m_isOne hM, Option.toList_some, Option.toList_none, List.cons_append, List.nil_append, List.append_nil, xs_246_3, Bool.false_eq_true, nI_add, pk_mul, nI_ltI, nI_eq, z_eq, z_lt, z_gt, z_bN, bN_z, bN_p, bN_i1, nI_clamp, rng_nI, ↓reduceIte, if_true, if_false, not_true_eq_false, not_false_eq_true, true_and, and_true, and_self, false_and, and_false, hx1, xs_246_4, m_in, xs_246_8, h, xs_246_9]
      first | exact PST_i H | exact ⟨trivial, PST_i H⟩ | exact ⟨rfl, PST_i H⟩
    by_cases h1 : y < nI 1
    · rw [if_pos h1, xs_139_15]
      exact mbad (fun h => h.1 h1)
    · rw [if_neg h1, xs_139_12]
      have e1 := Int32.lt_iff_toInt_lt (x := y) (y := nI 1)
      have e2 := Int32.lt_iff_toInt_lt (x := y) (y := nI 2147483647)
      have e3 := Int32.lt_iff_toInt_lt (x := nI 2147483646) (y := y)
      have e0 := Int32.lt_iff_toInt_lt (x := y) (y := 0)
      rw [c1] at e1
      rw [c2] at e2
      rw [c3] at e3
      rw [c0] at e0
      by_cases h2 : y < nI 2147483647
      · have h3 : ¬ nI 2147483646 < y := fun h => by
          have a := e3.mp h
          have b := e2.mp h2
          omega
        have h0 : ¬ y < 0 := fun h => by
          have a := e0.mp h
          exact h1 (e1.mpr (by omega))
        obtain ⟨s, hs31, rfl⟩ := nI_of h0
        have hs : s < 2147483647 := by
          have := e2.mp h2
          rw [nI_toInt hs31] at this
          omega
        rw [if_pos h2, xs_139_17, xs_58_0 (Or.inl rfl) (vp_in_nI (by decide) (by decide)), nI_clamp (by decide)]
        simp (disch := first | assumption | omega | decide | exact vp_in_nI (by omega) (by omega) | exact and1_bN _ | (simp only [pk_mul, nI_add, pred_s]; exact vp_in_nI (by omega) (by omega))) only [Option.toList_some, Option.toList_none, List.cons_append, List.nil_append, List.append_nil]
        rw [xs_139_21, nI_l hs31]
        have hpx : inP (tN T) [x] := fun z hz => by rw [List.mem_singleton.mp hz]; exact hx1
        obtain ⟨w1, w2, w3⟩ := lwk_len T v bk hn (tH T) [x] s hpx (Nat.le_refl _) (by simp)
        obtain ⟨L, hL⟩ : ∃ L, L = lwk T v bk (tH T) [x] s := ⟨_, rfl⟩
        rw [← hL] at w1 w2 w3
        refine c_lotsL (I := I) ht hT (tH T) 0 [x] s (dps I 0 x) G none rfl (Nat.zero_add _) hs ⟨fun k a b => dps_fr (by omega) (by omega), fun i hi => ?_⟩ ⟨hD.1, hD.2.1, by rw [dps_25 (by decide), hD.2.2.1], by rw [dps_25 (by decide), hD.2.2.2.2.1], hpx, by simp, fun u hu => ?_, fun i hi => ?_⟩ (fun I3 G3 F3 D3 g3 => ?_)
        · have : ¬ i = 0 := by simp at hi; omega
          rw [dps_26, if_neg this]
        · have : u = 0 := by simp at hu; omega
          rw [this, dps_252]
        · have : i = 0 := by simp at hi; omega
          rw [this, dps_26, if_pos rfl]
          rfl
        · rw [← hL] at F3 D3 ⊢
          refine AN_i ?_
          have m1 : MT I3 T := MT_fr hM (by rw [F3.1 58 (by omega) (by omega)]) (by rw [F3.1 58 (by omega) (by omega)]) (F3.1 65 (by omega) (by omega))
          have v1 : MV I3 v bk := MV_fr hD.2.2.2.1 (by rw [F3.1 58 (by omega) (by omega)]) (by rw [F3.1 58 (by omega) (by omega)])
          have hin13 : ¬ nI s < nI 1 ∧ ¬ nI 2147483646 < nI s := ⟨h1, h3⟩
          simp (disch := first | assumption | omega | decide | exact vp_in_nI (by omega) (by omega) | exact and1_bN _ | (simp only [pk_mul, nI_add, pred_s]; exact vp_in_nI (by omega) (by omega))) only [xs_246_0, m_isOne m1, Option.toList_some, Option.toList_none, List.cons_append, List.nil_append, List.append_nil, xs_246_3, Bool.false_eq_true, nI_add, pk_mul, nI_ltI, nI_eq, z_eq, z_lt, z_gt, z_bN, bN_z, bN_p, bN_i1, nI_clamp, rng_nI, ↓reduceIte, if_true, if_false, not_true_eq_false, not_false_eq_true, true_and, and_true, and_self, false_and, and_false, hx1, xs_246_4, m_in, xs_246_8, h1, h3]
          rw [xs_246_11 (vp_in_nI (by decide) (by decide)), nI_clamp (by decide), nI_l hs31]
          obtain ⟨I4, hI4⟩ : ∃ I4, I4 = mps I3 0 x := ⟨_, rfl⟩
          rw [show xi_up (xi_up I3 58 18 (nI 0)) 66 0 (nI x) = I4 from hI4.symm]
          have F4 : MF I3 I4 [x] := by
            rw [hI4]
            refine ⟨fun k a b => mps_fr a b, fun j hj => mps_58 hj, fun i hi => ?_, mps_18, fun i hi => ?_⟩
            · have : ¬ i = 0 := by simp at hi; omega
              rw [mps_66, if_neg this]
            · have : i = 0 := by simp at hi; omega
              rw [this, mps_66, if_pos rfl]
              rfl
          have m4 : MT I4 T := MT_fr m1 (F4.2.1 10 (by decide)) (F4.2.1 11 (by decide)) (F4.1 65 (by decide) (by decide))
          have v4 : MV I4 v bk := MV_fr v1 (F4.2.1 16 (by decide)) (F4.2.1 17 (by decide))
          rw [m_canNow (pre := [x]) (d := d + 14) m4 v4 hD.2.1 F4.2.2.2.2 hpx (show [x].length = 0 + 1 from rfl) (Nat.zero_le _) F4.2.2.2.1]
          simp (disch := first | assumption | omega | decide | exact vp_in_nI (by omega) (by omega) | exact and1_bN _ | (simp only [pk_mul, nI_add, pred_s]; exact vp_in_nI (by omega) (by omega))) only [Option.toList_some, Option.toList_none, List.cons_append, List.nil_append, List.append_nil]
          rw [xs_246_24]
          refine m_lotsL (I := I3) m1 v1 hD.2.1 (tH T) 0 [x] s I4 none none rfl (Nat.zero_add _) hs hpx F4 (fun I5 F5 => ?_)
          rw [← hL] at F5 ⊢
          refine ⟨rfl, PST_i (v := v) (bk := bk) (pre := L) (INV_day H ⟨fun k hk => ?_, ?_, fun j hj => ?_, ?_⟩ ?_ ?_)⟩
          · rw [F5.1 k (by omega) (by omega), F3.1 k (by omega) (by omega)]
          · rw [F5.1 28 (by omega) (by omega), F3.1 28 (by omega) (by omega)]
          · rw [F5.2.1 j (by omega), F3.1 58 (by omega) (by omega)]
          · rw [F5.1 0 (by omega) (by omega), F3.1 0 (by omega) (by omega)]
          · obtain ⟨a1, a2, a3, a4, a5, a6, a7, a8⟩ := D3
            refine ⟨a1, a2, by rw [F5.1 25 (by omega) (by omega), a3], MV_fr v1 (F5.2.1 16 (by decide)) (F5.2.1 17 (by decide)), by rw [F5.1 25 (by omega) (by omega), a4], a5, a6, fun e => ?_, fun u hu => ?_, fun i hi => ?_, fun i hi => ?_⟩
            · rw [e] at w2; simp at w2
            · rw [F5.1 25 (by omega) (by omega), a7 u hu, F5.2.2.2.1, hu]
              exact ⟨rfl, rfl⟩
            · rw [F5.1 26 (by omega) (by omega), a8 i hi]
            · rw [F5.1 26 (by omega) (by omega)]
              by_cases e : i < L.length
              · rw [a8 i e, F5.2.2.2.2 i e]
              · rw [F3.2 i (by omega), F5.2.2.1 i (by omega), F3.1 66 (by omega) (by omega)]
                exact hD.2.2.2.2.2.2.2.2.2.2 i hi
          · exact IP_fr H.2.2.2.2.2.2.1 (by rw [F5.1 28 (by omega) (by omega), F3.1 28 (by omega) (by omega)]) (by rw [F5.1 38 (by omega) (by omega), F3.1 38 (by omega) (by omega)]) (by rw [F5.1 43 (by omega) (by omega), F3.1 43 (by omega) (by omega)]) g3
      · rw [if_neg h2, xs_139_15]
        exact mbad (fun h => h2 (e2.mpr (by
          have a : ¬ 2147483646 < y.toInt := fun e => h.2 (e3.mpr e)
          omega)))
  · rw [xs_139_0 ht, c_isOne ht hT.1]
    simp (disch := first | assumption | omega | decide | exact vp_in_nI (by omega) (by omega) | exact and1_bN _ | (simp only [pk_mul, nI_add, pred_s]; exact vp_in_nI (by omega) (by omega))) only [Option.toList_some, Option.toList_none, List.cons_append, List.nil_append, List.append_nil, xs_139_4, Bool.false_eq_true, nI_add, pk_mul, nI_ltI, nI_eq, z_eq, z_lt, z_gt, z_bN, bN_z, bN_p, bN_i1, nI_clamp, rng_nI, ↓reduceIte, if_true, if_false, not_true_eq_false, not_false_eq_true, true_and, and_true, and_self, false_and, and_false, hx, xs_139_15]
    refine AN_i ?_
    simp (disch := first | assumption | omega | decide | exact vp_in_nI (by omega) (by omega) | exact and1_bN _ | (simp only [pk_mul, nI_add, pred_s]; exact vp_in_nI (by omega) (by omega))) only [xs_246_0, m_isOne hM, Option.toList_some, Option.toList_none, List.cons_append, List.nil_append, List.append_nil, xs_246_3, Bool.false_eq_true, nI_add, pk_mul, nI_ltI, nI_eq, z_eq, z_lt, z_gt, z_bN, bN_z, bN_p, bN_i1, nI_clamp, rng_nI, ↓reduceIte, if_true, if_false, not_true_eq_false, not_false_eq_true, true_and, and_true, and_self, false_and, and_false, hx, xs_246_9]
    first | exact PST_i H | exact ⟨trivial, PST_i H⟩ | exact ⟨rfl, PST_i H⟩
end LOTS
