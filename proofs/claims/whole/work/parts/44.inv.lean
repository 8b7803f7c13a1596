/-! THE RELATION of class and reference -/
def SZ (a b : Int32) (m : Nat) : Prop := (∃ s, s ≤ m ∧ a = nI s ∧ b = nI s) ∨ (a = -1 ∧ b = -9)
def IT (I : Nat → Nat → Int32) (t dr : Nat) (T : TN) : Prop := tw t ∧ tw dr ∧ t ≠ dr ∧ TT I t T ∧ MT I T ∧ (0 < tN T → 1 ≤ tH T)
def IR (I : Nat → Nat → Int32) : Prop := (∀ r, r < 6 → SZ (I 8 r) (I 60 r) 40) ∧ (∀ r, r < 6 → ∀ i, i < 40 → I (2 + r) i = I 61 (40 * r + i))
def IX (I : Nat → Nat → Int32) : Prop := (∀ r, r < 4 → SZ (I 14 r) (I 63 r) 80) ∧ (∀ r, r < 4 → ∀ i, i < 80 → I (10 + r) i = I 64 (80 * r + i))
def ID (I : Nat → Nat → Int32) (T : TN) (v : Nat) (bk : Bool) (pre : List Nat) : Prop := 1 ≤ v ∧ v ≤ 5 ∧ I 25 0 = nI v ∧ MV I v bk ∧ I 25 1 = nI (bN (bk = true)) ∧ inP (tN T) pre ∧ pre.length ≤ tH T + 1 ∧ (pre = [] → I 25 2 = -1 ∧ I 58 18 = -9) ∧ (∀ u, pre.length = u + 1 → I 25 2 = nI u ∧ I 58 18 = nI u) ∧ (∀ i, i < pre.length → I 26 i = nI (pre.getD i 0)) ∧ (∀ i, i < 6 → I 26 i = I 66 i)
def KD (I : Nat → Nat → Int32) (T : TN) (k : Nat) (v : Nat) (bk : Bool) (pre : List Nat) : Prop := pre ≠ [] ∧ 1 ≤ v ∧ v ≤ 5 ∧ inP (tN T) pre ∧ pre.length ≤ tH T + 1 ∧ I (52 + 2 * k) 2 = nI (pre.length - 1) ∧ I 70 (10 * k) = nI (pre.length - 1) ∧ I (52 + 2 * k) 0 = nI v ∧ I 70 (10 * k + 1) = nI v ∧ I (52 + 2 * k) 1 = nI (bN (bk = true)) ∧ I 70 (10 * k + 2) = nI (bN (bk = true)) ∧ (∀ i, i < 6 → I (52 + 2 * k + 1) i = I 70 (10 * k + 3 + i)) ∧ (∀ i, i < pre.length → I (52 + 2 * k + 1) i = nI (pre.getD i 0))
def IK (I : Nat → Nat → Int32) (T : TN) : Prop := ∀ k, k < 3 → (I (52 + 2 * k) 2 = -1 ∧ I 70 (10 * k) = -9) ∨ ∃ v bk pre, KD I T k v bk pre
def IS (I : Nat → Nat → Int32) (T : TN) (ss : List SGT) : Prop := SG I ss ∧ I 28 0 = nI ss.length ∧ ∀ k (hk : k < ss.length), I 29 k = nI ss[k].1 ∧ I 30 k = nI ss[k].2.1 ∧ I 31 k = nI (bN (ss[k].2.2 = true)) ∧ ss[k].1 ≤ tH T ∧ ss[k].2.1 < tN T
def IP (I : Nat → Nat → Int32) (G : Nat → Nat) (t : Nat) (T : TN) (v : Nat) (bk : Bool) (ss : List SGT) : Prop := I 28 1 = nI 0 ∨ (I 28 1 = nI 1 ∧ G 38 = t ∧ WR I 38 T (RWS T v bk (sgB ss)))
def IA (I : Nat → Nat → Int32) (J : Nat → Nat → Int64) : Prop := I 0 14 = I 58 2 ∧ J 0 15 = J 58 3 ∧ J 0 16 = J 58 4
def IF (I : Nat → Nat → Int32) : Prop := I 0 17 = I 58 0 ∧ ∀ f, f < 6 → I 51 f = I 59 f
def INV (I : Nat → Nat → Int32) (J : Nat → Nat → Int64) (t dr : Nat) (G : Nat → Nat) (T : TN) (v : Nat) (bk : Bool) (pre : List Nat) (ss : List SGT) : Prop := IT I t dr T ∧ IR I ∧ IX I ∧ ID I T v bk pre ∧ IK I T ∧ IS I T ss ∧ IP I G t T v bk ss ∧ IA I J ∧ IF I
def PST (S : xi_S) : Prop := ∃ (I : Nat → Nat → Int32) (J : Nat → Nat → Int64) (t dr : Nat) (G : Nat → Nat) (T : TN) (v : Nat) (bk : Bool) (pre : List Nat) (ss : List SGT), S = (wS, I, J, wP t dr G) ∧ INV I J t dr G T v bk pre ss
theorem PST_i {I : Nat → Nat → Int32} {J : Nat → Nat → Int64} {t dr : Nat} {G : Nat → Nat} {T : TN} {v : Nat} {bk : Bool} {pre : List Nat} {ss : List SGT} (h : INV I J t dr G T v bk pre ss) : PST (wS, I, J, wP t dr G) := ⟨I, J, t, dr, G, T, v, bk, pre, ss, rfl, h⟩
/-- the class has answered r; the reference, run from there, answers the same and keeps the relation -/
def AN (scr : xi_X) (d : Nat) (code : List xi_E) (ls : xi_L) (r : Option Value) (S1 : xi_S) : Prop := ∃ (w : Value) (I1 : Nat → Nat → Int32) (J1 : Nat → Nat → Int64) (t1 dr1 : Nat) (G1 : Nat → Nat), ((∃ v, w = .int v) ∨ ∃ v, w = .long v) ∧ r = some w ∧ S1 = (wS, I1, J1, wP t1 dr1 G1) ∧ xr scr d code 0 ls [] S1 (fun r2 S2 => r2 = some w ∧ PST S2)
section INVS
variable {scr : xi_X} {d : Nat} {I I2 : Nat → Nat → Int32} {J J2 : Nat → Nat → Int64} {t dr : Nat} {G : Nat → Nat} {T : TN} {v : Nat} {bk : Bool} {pre : List Nat} {ss : List SGT}
theorem AN_i {code : List xi_E} {ls : xi_L} {x : Int32} (h : xr scr d code 0 ls [] (wS, I, J, wP t dr G) (fun r2 S2 => r2 = some (.int x) ∧ PST S2)) : AN scr d code ls (some (.int x)) (wS, I, J, wP t dr G) := ⟨.int x, I, J, t, dr, G, Or.inl ⟨x, rfl⟩, rfl, rfl, h⟩
theorem AN_l {code : List xi_E} {ls : xi_L} {x : Int64} (h : xr scr d code 0 ls [] (wS, I, J, wP t dr G) (fun r2 S2 => r2 = some (.long x) ∧ PST S2)) : AN scr d code ls (some (.long x)) (wS, I, J, wP t dr G) := ⟨.long x, I, J, t, dr, G, Or.inr ⟨x, rfl⟩, rfl, rfl, h⟩
/-- nothing that counts has changed but the answers -/
def LIV (I I2 : Nat → Nat → Int32) : Prop := (∀ k, (1 ≤ k ∧ k ≤ 31) ∨ (38 ≤ k ∧ k ≤ 43) ∨ (51 ≤ k ∧ k ≤ 57) ∨ (59 ≤ k ∧ k ≤ 61) ∨ (63 ≤ k ∧ k ≤ 65) ∨ k = 70 ∨ k = 71 → I2 k = I k) ∧ (∀ i, i < 6 → I2 66 i = I 66 i) ∧ (∀ j, j = 0 ∨ j = 10 ∨ j = 11 ∨ j = 16 ∨ j = 17 ∨ j = 18 ∨ j = 32 → I2 58 j = I 58 j) ∧ (∀ j, j ≠ 14 → I2 0 j = I 0 j)
theorem LIV_refl (I : Nat → Nat → Int32) : LIV I I := ⟨fun _ _ => rfl, fun _ _ => rfl, fun _ _ => rfl, fun _ _ => rfl⟩
theorem LIV_trans {I I2 I3 : Nat → Nat → Int32} (h : LIV I I2) (h2 : LIV I2 I3) : LIV I I3 := ⟨fun k hk => (h2.1 k hk).trans (h.1 k hk), fun i hi => (h2.2.1 i hi).trans (h.2.1 i hi), fun j hj => (h2.2.2.1 j hj).trans (h.2.2.1 j hj), fun j hj => (h2.2.2.2 j hj).trans (h.2.2.2 j hj)⟩
theorem MV_fr (h : MV I v bk) (h1 : I2 58 16 = I 58 16) (h2 : I2 58 17 = I 58 17) : MV I2 v bk := ⟨h1.trans h.1, h2.trans h.2⟩
theorem IT_fr (h : IT I t dr T) (hc : ∀ k, 15 ≤ k → k ≤ 24 → I2 k = I k) (h65 : I2 65 = I 65) (h10 : I2 58 10 = I 58 10) (h11 : I2 58 11 = I 58 11) : IT I2 t dr T := by
  obtain ⟨a, b, c, e, f, g⟩ := h
  have a' : t = 15 ∨ t = 20 := a
  exact ⟨a, b, c, TT_fr e (hc _ (by omega) (by omega)) (hc _ (by omega) (by omega)) (hc _ (by omega) (by omega)) (hc _ (by omega) (by omega)) (hc _ (by omega) (by omega)), MT_fr f h10 h11 h65, g⟩
theorem IR_fr (h : IR I) (hc : ∀ k, 2 ≤ k → k ≤ 8 → I2 k = I k) (h60 : I2 60 = I 60) (h61 : I2 61 = I 61) : IR I2 := by
  unfold IR at h ⊢
  rw [hc 8 (by decide) (by decide), h60, h61]
  exact ⟨h.1, fun r hr i hi => by rw [hc (2 + r) (by omega) (by omega)]; exact h.2 r hr i hi⟩
theorem IX_fr (h : IX I) (hc : ∀ k, 10 ≤ k → k ≤ 14 → I2 k = I k) (h63 : I2 63 = I 63) (h64 : I2 64 = I 64) : IX I2 := by
  unfold IX at h ⊢
  rw [hc 14 (by decide) (by decide), h63, h64]
  exact ⟨h.1, fun r hr i hi => by rw [hc (10 + r) (by omega) (by omega)]; exact h.2 r hr i hi⟩
theorem ID_fr (h : ID I T v bk pre) (h25 : I2 25 = I 25) (h26 : I2 26 = I 26) (h66 : ∀ i, i < 6 → I2 66 i = I 66 i) (h16 : I2 58 16 = I 58 16) (h17 : I2 58 17 = I 58 17) (h18 : I2 58 18 = I 58 18) : ID I2 T v bk pre := by
  unfold ID at h ⊢
  rw [h25, h26, h18]
  obtain ⟨a1, a2, a3, a4, a5, a6, a7, a8, a9, a10, a11⟩ := h
  exact ⟨a1, a2, a3, MV_fr a4 h16 h17, a5, a6, a7, a8, a9, a10, fun i hi => by rw [h66 i hi]; exact a11 i hi⟩
theorem IK_fr (h : IK I T) (hc : ∀ k, 52 ≤ k → k ≤ 57 → I2 k = I k) (h70 : I2 70 = I 70) : IK I2 T := by
  intro k hk
  have := h k hk
  unfold KD at this ⊢
  rw [hc (52 + 2 * k) (by omega) (by omega), hc (52 + 2 * k + 1) (by omega) (by omega), h70]
  exact this
theorem IS_fr (h : IS I T ss) (h280 : I2 28 0 = I 28 0) (hc : ∀ k, 29 ≤ k → k ≤ 31 → I2 k = I k) (h71 : I2 71 = I 71) (h32 : I2 58 32 = I 58 32) : IS I2 T ss := by
  unfold IS SG at h ⊢
  rw [h280, hc 29 (by decide) (by decide), hc 30 (by decide) (by decide), hc 31 (by decide) (by decide), h71, h32]
  exact h
theorem WR_fr {w : Nat} {L : List (List Nat)} (h : WR I w T L) (h0 : I2 w = I w) (h5 : I2 (w + 5) = I (w + 5)) : WR I2 w T L := by
  unfold WR at h ⊢
  rw [h0, h5]
  exact h
theorem IP_fr {G2 : Nat → Nat} (h : IP I G t T v bk ss) (h281 : I2 28 1 = I 28 1) (h38 : I2 38 = I 38) (h43 : I2 43 = I 43) (hG : G2 38 = G 38) : IP I2 G2 t T v bk ss := by
  rcases h with h | ⟨h, h2, h3⟩
  · exact Or.inl (h281.trans h)
  · exact Or.inr ⟨h281.trans h, hG.trans h2, WR_fr h3 h38 h43⟩
theorem IF_fr (h : IF I) (h017 : I2 0 17 = I 0 17) (h580 : I2 58 0 = I 58 0) (h51 : I2 51 = I 51) (h59 : I2 59 = I 59) : IF I2 := by
  unfold IF at h ⊢
  rw [h017, h580, h51, h59]
  exact h
theorem INV_liv {G2 : Nat → Nat} (h : INV I J t dr G T v bk pre ss) (L : LIV I I2) (ha : IA I2 J2) (hG : G2 38 = G 38) : INV I2 J2 t dr G2 T v bk pre ss := by
  obtain ⟨h1, h2, h3, h4, h5, h6, h7, -, h9⟩ := h
  obtain ⟨l1, l2, l3, l4⟩ := L
  refine ⟨IT_fr h1 (fun k a b => l1 k (by omega)) (l1 65 (by omega)) (l3 10 (by omega)) (l3 11 (by omega)), IR_fr h2 (fun k a b => l1 k (by omega)) (l1 60 (by omega)) (l1 61 (by omega)), IX_fr h3 (fun k a b => l1 k (by omega)) (l1 63 (by omega)) (l1 64 (by omega)), ID_fr h4 (l1 25 (by omega)) (l1 26 (by omega)) l2 (l3 16 (by omega)) (l3 17 (by omega)) (l3 18 (by omega)), IK_fr h5 (fun k a b => l1 k (by omega)) (l1 70 (by omega)), IS_fr h6 (by rw [l1 28 (by omega)]) (fun k a b => l1 k (by omega)) (l1 71 (by omega)) (l3 32 (by omega)), IP_fr h7 (by rw [l1 28 (by omega)]) (l1 38 (by omega)) (l1 43 (by omega)) hG, ha, IF_fr h9 (l4 17 (by decide)) (l3 0 (by omega)) (l1 51 (by omega)) (l1 59 (by omega))⟩
/-- the answers asked() told -/
def sey (I : Nat → Nat → Int32) (x : Int32) : Nat → Nat → Int32 := xi_up (xi_up I 0 14 x) 58 2 x
theorem sey_inv {x : Int32} (h : INV I J t dr G T v bk pre ss) : INV (sey I x) J t dr G T v bk pre ss := by
  refine INV_liv h ⟨fun k hk => ?_, fun i hi => ?_, fun j hj => ?_, fun j hj => ?_⟩ ⟨?_, h.2.2.2.2.2.2.2.1.2⟩ rfl
  · unfold sey; rw [xu_fr (by omega), xu_fr (by omega)]
  · unfold sey; rw [xu_nc (by decide), xu_nc (by decide)]
  · unfold sey; rw [xu_nj (by omega), xu_nc (by decide)]
  · unfold sey; rw [xu_nc (by decide), xu_nj hj]
  · unfold sey; rw [xu_nc (by decide), xu_eq, xu_eq]
/-- a finding on both sides -/
def fnd (I : Nat → Nat → Int32) (f : Nat) : Nat → Nat → Int32 := xi_up (xi_up I 0 17 (nI f)) 51 f (I 51 f + nI 1)
def mmt (I : Nat → Nat → Int32) (f : Nat) : Nat → Nat → Int32 := xi_up (xi_up I 58 0 (nI f)) 59 f (I 59 f + nI 1)
theorem fnd_inv {f : Nat} (hf : f < 6) (h : INV I J t dr G T v bk pre ss) : INV (mmt (fnd I f) f) J t dr G T v bk pre ss := by
  obtain ⟨h1, h2, h3, h4, h5, h6, h7, h8, h9⟩ := h
  have hc : ∀ k, k ≠ 0 → k ≠ 51 → k ≠ 58 → k ≠ 59 → mmt (fnd I f) f k = I k := fun k a b c e => by unfold mmt fnd; rw [xu_fr e, xu_fr c, xu_fr b, xu_fr a]
  have hs : ∀ j, j ≠ 0 → mmt (fnd I f) f 58 j = I 58 j := fun j a => by unfold mmt fnd; rw [xu_nc (by decide), xu_nj a, xu_nc (by decide), xu_nc (by decide)]
  have h0 : ∀ j, j ≠ 17 → mmt (fnd I f) f 0 j = I 0 j := fun j a => by unfold mmt fnd; rw [xu_nc (by decide), xu_nc (by decide), xu_nc (by decide), xu_nj a]
  refine ⟨IT_fr h1 (fun k a b => hc k (by omega) (by omega) (by omega) (by omega)) (hc 65 (by decide) (by decide) (by decide) (by decide)) (hs 10 (by decide)) (hs 11 (by decide)), IR_fr h2 (fun k a b => hc k (by omega) (by omega) (by omega) (by omega)) (hc 60 (by decide) (by decide) (by decide) (by decide)) (hc 61 (by decide) (by decide) (by decide) (by decide)), IX_fr h3 (fun k a b => hc k (by omega) (by omega) (by omega) (by omega)) (hc 63 (by decide) (by decide) (by decide) (by decide)) (hc 64 (by decide) (by decide) (by decide) (by decide)), ID_fr h4 (hc 25 (by decide) (by decide) (by decide) (by decide)) (hc 26 (by decide) (by decide) (by decide) (by decide)) (fun i _ => by rw [hc 66 (by decide) (by decide) (by decide) (by decide)]) (hs 16 (by decide)) (hs 17 (by decide)) (hs 18 (by decide)), IK_fr h5 (fun k a b => hc k (by omega) (by omega) (by omega) (by omega)) (hc 70 (by decide) (by decide) (by decide) (by decide)), IS_fr h6 (by rw [hc 28 (by decide) (by decide) (by decide) (by decide)]) (fun k a b => hc k (by omega) (by omega) (by omega) (by omega)) (hc 71 (by decide) (by decide) (by decide) (by decide)) (hs 32 (by decide)), IP_fr h7 (by rw [hc 28 (by decide) (by decide) (by decide) (by decide)]) (hc 38 (by decide) (by decide) (by decide) (by decide)) (hc 43 (by decide) (by decide) (by decide) (by decide)) rfl, ?_, ?_, fun g hg => ?_⟩
  · unfold IA at h8 ⊢
    rw [h0 14 (by decide), hs 2 (by decide)]
    exact h8
  · unfold mmt fnd
    rw [xu_nc (by decide), xu_nc (by decide), xu_nc (by decide), xu_eq, xu_nc (by decide), xu_eq]
  · unfold mmt fnd
    rw [xu_nc (by decide), xu_nc (by decide), xu_at, xu_at, xu_nc (by decide), xu_nc (by decide), xu_nc (by decide), xu_nc (by decide), xu_nc (by decide), h9.2 g hg, h9.2 f hf]
    split
    · rfl
    · rw [xu_nc (by decide)]
end INVS
section HELP
variable {scr : xi_X} {d : Nat} {Q : Option Value → xi_S → Prop} {I : Nat → Nat → Int32} {J : Nat → Nat → Int64} {t dr : Nat} {G : Nat → Nat}
theorem c_found {f : Nat} (h1 : 1 ≤ f) (h5 : f ≤ 5) : xr scr d xc_11 0 [some (.ref 0), some (.int (nI f))] [] (wS, I, J, wP t dr G) Q = Q (some (.int (-3))) (wS, fnd I f, J, wP t dr G) := by
  have a1 : ¬ f < 1 := by omega
  have a2 : ¬ 5 < f := by omega
  have a3 : f < 6 := by omega
  simp (disch := first | assumption | omega | decide | exact vp_in_nI (by omega) (by omega) | exact and1_bN _ | (simp only [pk_mul, nI_add, pred_s]; exact vp_in_nI (by omega) (by omega))) only [xs_11_0, xs_11_6, xs_11_9, xs_11_17, nI_add, pk_mul, nI_ltI, nI_eq, z_eq, z_lt, z_gt, z_bN, bN_z, bN_p, bN_i1, nI_clamp, rng_nI, ↓reduceIte, if_true, if_false, not_true_eq_false, not_false_eq_true, true_and, and_true, and_self, false_and, and_false, a1, a2, xu_nc]
  rfl
theorem m_meet {f : Nat} (h5 : f ≤ 5) : xr scr d xc_157 0 [some (.ref 58), some (.int (nI f))] [] (wS, I, J, wP t dr G) Q = Q (some (.int (-3))) (wS, mmt I f, J, wP t dr G) := by
  simp (disch := first | assumption | omega | decide | exact vp_in_nI (by omega) (by omega) | exact and1_bN _ | (simp only [pk_mul, nI_add, pred_s]; exact vp_in_nI (by omega) (by omega))) only [xs_157_0, nI_add, pk_mul, nI_ltI, nI_eq, z_eq, z_lt, z_gt, z_bN, bN_z, bN_p, bN_i1, nI_clamp, rng_nI, ↓reduceIte, if_true, if_false, not_true_eq_false, not_false_eq_true, true_and, and_true, and_self, false_and, and_false]
  rfl
theorem m_say {x y : Int32} : xr scr d xc_162 0 [some (.ref 58), some (.int x), some (.int y)] [] (wS, I, J, wP t dr G) Q = Q (some (.int y)) (wS, xi_up I 58 2 x, J, wP t dr G) := by
  simp (disch := first | assumption | omega | decide | exact vp_in_nI (by omega) (by omega) | exact and1_bN _ | (simp only [pk_mul, nI_add, pred_s]; exact vp_in_nI (by omega) (by omega))) only [xs_162_0]
theorem c_isRow {x : Int32} : xr scr d xc_10 0 [some (.int x)] [] (wS, I, J, wP t dr G) Q = Q (some (.int (nI (bN (rng x 6 = true))))) (wS, I, J, wP t dr G) := by
  simp (disch := first | assumption | omega | decide | exact vp_in_nI (by omega) (by omega) | exact and1_bN _ | (simp only [pk_mul, nI_add, pred_s]; exact vp_in_nI (by omega) (by omega))) only [xs_10_0, xs_10_2, xs_10_5, xs_10_7, xs_10_8]
  by_cases h1 : x < 0 <;> by_cases h2 : x < nI 6 <;> simp [h1, h2, bN, rng]
theorem c_isText {x : Int32} : xr scr d xc_22 0 [some (.int x)] [] (wS, I, J, wP t dr G) Q = Q (some (.int (nI (bN (rng x 4 = true))))) (wS, I, J, wP t dr G) := by
  simp (disch := first | assumption | omega | decide | exact vp_in_nI (by omega) (by omega) | exact and1_bN _ | (simp only [pk_mul, nI_add, pred_s]; exact vp_in_nI (by omega) (by omega))) only [xs_22_0, xs_22_2, xs_22_5, xs_22_7, xs_22_8]
  by_cases h1 : x < 0 <;> by_cases h2 : x < nI 4 <;> simp [h1, h2, bN, rng]
theorem c_isKept {x : Int32} : xr scr d xc_87 0 [some (.int x)] [] (wS, I, J, wP t dr G) Q = Q (some (.int (nI (bN (rng x 3 = true))))) (wS, I, J, wP t dr G) := by
  simp (disch := first | assumption | omega | decide | exact vp_in_nI (by omega) (by omega) | exact and1_bN _ | (simp only [pk_mul, nI_add, pred_s]; exact vp_in_nI (by omega) (by omega))) only [xs_87_0, xs_87_2, xs_87_5, xs_87_7, xs_87_8]
  by_cases h1 : x < 0 <;> by_cases h2 : x < nI 3 <;> simp [h1, h2, bN, rng]
theorem m_isRow {x : Int32} : xr scr (d + 1) xc_155 0 [some (.int x)] [] (wS, I, J, wP t dr G) Q = Q (some (.int (nI (bN (rng x 6 = true))))) (wS, I, J, wP t dr G) := by
  simp (disch := first | assumption | omega | decide | exact vp_in_nI (by omega) (by omega) | exact and1_bN _ | (simp only [pk_mul, nI_add, pred_s]; exact vp_in_nI (by omega) (by omega))) only [xs_155_0, xs_155_4, m_in, Option.toList_some, Option.toList_none, List.cons_append, List.nil_append, List.append_nil, bN_c (rng_m0 (n := 5) (x := x) (by decide))]
theorem m_isText {x : Int32} : xr scr (d + 1) xc_168 0 [some (.int x)] [] (wS, I, J, wP t dr G) Q = Q (some (.int (nI (bN (rng x 4 = true))))) (wS, I, J, wP t dr G) := by
  simp (disch := first | assumption | omega | decide | exact vp_in_nI (by omega) (by omega) | exact and1_bN _ | (simp only [pk_mul, nI_add, pred_s]; exact vp_in_nI (by omega) (by omega))) only [xs_168_0, xs_168_4, m_in, Option.toList_some, Option.toList_none, List.cons_append, List.nil_append, List.append_nil, bN_c (rng_m0 (n := 3) (x := x) (by decide))]
end HELP
