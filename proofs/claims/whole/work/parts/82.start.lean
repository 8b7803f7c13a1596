/-! THE START: the relation behind both constructors -/
def ct_I : List (Nat × Nat × Int32) := [(58, 18, (-9)), (70, 20, (-9)), (70, 10, (-9)), (70, 0, (-9)), (63, 3, (-9)), (63, 2, (-9)), (63, 1, (-9)), (63, 0, (-9)), (60, 5, (-9)), (60, 4, (-9)), (60, 3, (-9)), (60, 2, (-9)), (60, 1, (-9)), (60, 0, (-9)), (58, 16, 3), (56, 2, (-1)), (56, 1, 0), (56, 0, 3), (54, 2, (-1)), (54, 1, 0), (54, 0, 3), (52, 2, (-1)), (52, 1, 0), (52, 0, 3), (14, 3, (-1)), (14, 2, (-1)), (14, 1, (-1)), (14, 0, (-1)), (8, 5, (-1)), (8, 4, (-1)), (8, 3, (-1)), (8, 2, (-1)), (8, 1, (-1)), (8, 0, (-1)), (0, 17, 0), (0, 14, 0), (38, 5, 0), (38, 4, 0), (38, 2, 0), (38, 1, 0), (38, 0, 0), (32, 5, 0), (32, 4, 0), (32, 2, 0), (32, 1, 0), (32, 0, 0), (28, 1, 0), (28, 0, 0), (25, 2, (-1)), (25, 1, 0), (25, 0, 3), (20, 1, 0), (20, 0, 0), (15, 1, 0), (15, 0, 0)]
def ct_J : List (Nat × Nat × Int64) := [(58, 4, 1), (0, 16, 1), (0, 15, 0)]
def ct_P : List (Nat × Nat × Nat) := [(58, 31, 71), (58, 28, 70), (58, 26, 69), (58, 25, 68), (58, 20, 67), (58, 19, 66), (58, 12, 65), (58, 9, 64), (58, 8, 63), (58, 7, 62), (58, 6, 61), (58, 5, 60), (58, 1, 59), (27, 2, 56), (56, 3, 57), (27, 1, 54), (54, 3, 55), (27, 0, 52), (52, 3, 53), (0, 18, 51), (0, 13, 48), (48, 1, 50), (48, 0, 49), (0, 12, 46), (46, 0, 15), (46, 1, 47), (0, 11, 44), (44, 0, 15), (44, 1, 45), (0, 10, 38), (38, 3, 15), (38, 10, 43), (38, 9, 42), (38, 8, 41), (38, 7, 40), (38, 6, 39), (0, 9, 32), (32, 3, 15), (32, 10, 37), (32, 9, 36), (32, 8, 35), (32, 7, 34), (32, 6, 33), (0, 8, 28), (28, 4, 31), (28, 3, 30), (28, 2, 29), (0, 7, 27), (0, 6, 25), (25, 3, 26), (0, 5, 20), (20, 5, 24), (20, 4, 23), (20, 3, 22), (20, 2, 21), (0, 4, 15), (15, 5, 19), (15, 4, 18), (15, 3, 17), (15, 2, 16), (0, 3, 14), (0, 2, 9), (9, 3, 13), (9, 2, 12), (9, 1, 11), (9, 0, 10), (0, 1, 8), (0, 0, 1), (1, 5, 7), (1, 4, 6), (1, 3, 5), (1, 2, 4), (1, 1, 3), (1, 0, 2)]
def bej (n : Nat) : List (Nat × Nat × Nat) → Bool
  | [] => true
  | q :: l => Nat.blt q.2.1 n && bej n l
theorem pz_outj {n j : Nat} (hj : n ≤ j) (k : Nat) : ∀ l, bej n l = true → pz l k j = none := by
  intro l
  induction l with
  | nil => exact fun _ => rfl
  | cons q l ih =>
    intro h
    have h2 : (Nat.blt q.2.1 n && bej n l) = true := h
    rw [Bool.and_eq_true] at h2
    have h3 : q.2.1 < n := Nat.blt_eq.mp h2.1
    show xi_up (pz l) q.1 q.2.1 (some q.2.2) k j = _
    rw [xu_nj (by omega), ih h2.2]
theorem ct_fin : ∀ k, k < 72 → ∀ j, j < 34 → pz ct_P k j = wP 15 20 (fun _ => 15) k j := by decide +kernel
theorem wP_outj {j : Nat} (hj : 34 ≤ j) (k : Nat) : wP 15 20 (fun _ => 15) k j = none := by
  have a0 : ¬ j = 0 := by omega
  have a1 : ¬ j = 1 := by omega
  have a2 : ¬ j = 2 := by omega
  have a3 : ¬ j = 3 := by omega
  have a4 : ¬ j = 4 := by omega
  have a5 : ¬ j = 5 := by omega
  have a6 : ¬ j = 6 := by omega
  have a7 : ¬ j = 7 := by omega
  have a8 : ¬ j = 8 := by omega
  have a9 : ¬ j = 9 := by omega
  have a10 : ¬ j = 10 := by omega
  have a11 : ¬ j = 11 := by omega
  have a12 : ¬ j = 12 := by omega
  have a13 : ¬ j = 13 := by omega
  have a18 : ¬ j = 18 := by omega
  have a19 : ¬ j = 19 := by omega
  have a20 : ¬ j = 20 := by omega
  have a25 : ¬ j = 25 := by omega
  have a26 : ¬ j = 26 := by omega
  have a28 : ¬ j = 28 := by omega
  have a31 : ¬ j = 31 := by omega
  have b6 : ¬ j < 6 := by omega
  have b4 : ¬ j < 4 := by omega
  have b3 : ¬ j < 3 := by omega
  simp only [wP, wP0, wP58, a0, a1, a2, a3, a4, a5, a6, a7, a8, a9, a10, a11, a12, a13, a18, a19, a20, a25, a26, a28, a31, b6, b4, b3, if_false, ite_self]
theorem wP_outk {k : Nat} (hk : 72 ≤ k) (j : Nat) : wP 15 20 (fun _ => 15) k j = none := by
  have a0 : ¬ k = 0 := by omega
  have a1 : ¬ k = 1 := by omega
  have a9 : ¬ k = 9 := by omega
  have a15 : ¬ k = 15 := by omega
  have a20 : ¬ k = 20 := by omega
  have a25 : ¬ k = 25 := by omega
  have a27 : ¬ k = 27 := by omega
  have a28 : ¬ k = 28 := by omega
  have a32 : ¬ k = 32 := by omega
  have a38 : ¬ k = 38 := by omega
  have a44 : ¬ k = 44 := by omega
  have a46 : ¬ k = 46 := by omega
  have a48 : ¬ k = 48 := by omega
  have a52 : ¬ k = 52 := by omega
  have a54 : ¬ k = 54 := by omega
  have a56 : ¬ k = 56 := by omega
  have a58 : ¬ k = 58 := by omega
  simp only [wP, a0, a1, a9, a15, a20, a25, a27, a28, a32, a38, a44, a46, a48, a52, a54, a56, a58, or_self, if_false]
theorem pz_wP : pz ct_P = wP 15 20 (fun _ => 15) := by
  funext k j
  by_cases hk : k < 72
  · by_cases hj : j < 34
    · exact ct_fin k hk j hj
    · rw [wP_outj (by omega) k]
      exact pz_outj (n := 34) (by omega) k ct_P (by decide)
  · rw [wP_outk (by omega) j, pz_out (n := 72) (by omega) ct_P (by decide)]
def ct_T : TN := (0, 0, fun _ => 0, fun _ => 0, fun _ _ => 0)
theorem inv_0 : INV (iz ct_I) (jz ct_J) 15 20 (fun _ => 15) ct_T 3 false [] [] := by
  have hr : ∀ r, r < 6 → iz ct_I 8 r = -1 ∧ iz ct_I 60 r = -9 := by decide +kernel
  have hr2 : ∀ r, r < 6 → ∀ i, i < 40 → iz ct_I (2 + r) i = iz ct_I 61 (40 * r + i) := by decide +kernel
  have hx : ∀ r, r < 4 → iz ct_I 14 r = -1 ∧ iz ct_I 63 r = -9 := by decide +kernel
  have hx2 : ∀ r, r < 4 → ∀ i, i < 80 → iz ct_I (10 + r) i = iz ct_I 64 (80 * r + i) := by decide +kernel
  have hk : ∀ k, k < 3 → iz ct_I (52 + 2 * k) 2 = -1 ∧ iz ct_I 70 (10 * k) = -9 := by decide +kernel
  have hd : iz ct_I 25 0 = nI 3 ∧ iz ct_I 58 16 = nI 3 ∧ iz ct_I 58 17 = nI 0 ∧ iz ct_I 25 1 = nI 0 ∧ iz ct_I 25 2 = -1 ∧ iz ct_I 58 18 = -9 := by decide +kernel
  have hd2 : ∀ i, i < 6 → iz ct_I 26 i = iz ct_I 66 i := by decide +kernel
  have hs : iz ct_I 58 32 = nI 0 ∧ iz ct_I 28 0 = nI 0 ∧ iz ct_I 28 1 = nI 0 := by decide +kernel
  have ha : iz ct_I 0 14 = iz ct_I 58 2 ∧ jz ct_J 0 15 = jz ct_J 58 3 ∧ jz ct_J 0 16 = jz ct_J 58 4 := by decide +kernel
  have hf : iz ct_I 0 17 = iz ct_I 58 0 ∧ ∀ f, f < 6 → iz ct_I 51 f = iz ct_I 59 f := by decide +kernel
  have ht : iz ct_I 15 0 = nI 0 ∧ iz ct_I 15 1 = nI 0 ∧ iz ct_I 58 11 = nI 0 ∧ iz ct_I 58 10 = nI 0 := by decide +kernel
  refine ⟨⟨Or.inl rfl, Or.inr rfl, by decide, ⟨⟨Nat.zero_le 7, Nat.zero_le 5, ht.1, ht.2.1, fun x hx => absurd hx (Nat.not_lt_zero x), fun x hx => absurd hx (Nat.not_lt_zero x)⟩, fun x hx => absurd hx (Nat.not_lt_zero x)⟩, ⟨Nat.zero_le 7, Nat.zero_le 5, ht.2.2.1, ht.2.2.2, fun x hx => absurd hx (Nat.not_lt_zero x), fun x hx => absurd hx (Nat.not_lt_zero x)⟩, fun h => absurd h (Nat.lt_irrefl 0)⟩, ⟨fun r h => Or.inr (hr r h), hr2⟩, ⟨fun r h => Or.inr (hx r h), hx2⟩, ⟨by decide, by decide, hd.1, ⟨hd.2.1, hd.2.2.1⟩, hd.2.2.2.1, fun y hy => absurd hy List.not_mem_nil, Nat.zero_le _, fun _ => ⟨hd.2.2.2.2.1, hd.2.2.2.2.2⟩, fun u hu => absurd hu (by simp), fun i hi => absurd hi (Nat.not_lt_zero i), hd2⟩, fun k h => Or.inl (hk k h), ⟨⟨hs.1, Nat.zero_le 8, fun k h => absurd h (Nat.not_lt_zero k)⟩, hs.2.1, fun k h => absurd h (Nat.not_lt_zero k)⟩, Or.inl hs.2.2, ha, hf⟩
