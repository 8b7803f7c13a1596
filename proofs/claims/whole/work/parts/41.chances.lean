/-! BY CHANCE -/
def smf (p : Nat → Bool) (g : Nat → Nat) : Nat → Nat
  | 0 => 0
  | i + 1 => smf p g i + (if p i = true then g i else 0)
theorem smf_s (p : Nat → Bool) (g : Nat → Nat) (i : Nat) : smf p g (i + 1) = smf p g i + (if p i = true then g i else 0) := rfl
theorem smf_le {p : Nat → Bool} {g : Nat → Nat} {B : Nat} (h : ∀ y, g y ≤ B) (n : Nat) : smf p g n ≤ cnt n p * B := by
  induction n with
  | zero => exact Nat.zero_le _
  | succ n ih =>
    rw [smf_s, cnt_s, Nat.add_mul]
    have := h n
    by_cases hp : p n = true
    · rw [if_pos hp, bN_t hp]; omega
    · rw [if_neg hp, bN_f hp]; omega
theorem smf_z {p : Nat → Bool} {g : Nat → Nat} {n : Nat} (h : cnt n p = 0) : smf p g n = 0 := by
  have : ∀ m, m ≤ n → cnt m p = 0 → smf p g m = 0 := by
    intro m hm
    induction m with
    | zero => intro _; rfl
    | succ m ih =>
      intro hc
      rw [cnt_s] at hc
      rw [smf_s, ih (by omega) (by omega), if_neg (fun hp => by rw [bN_t hp] at hc; omega)]
  exact this n (Nat.le_refl _) h
def chn (T : TN) (gl : Option Nat) : Nat → Nat → Nat
  | 0, x => if gl = some x then 1 else 0
  | k + 1, x => if cnt (tN T) (fun y => mayB T x y (tH T - (k + 1))) = 0 then (if gl = none then 60 ^ (k + 1) else 0) else smf (fun y => mayB T x y (tH T - (k + 1))) (chn T gl k) (tN T) * (60 / cnt (tN T) (fun y => mayB T x y (tH T - (k + 1))))
theorem mayB_self (T : TN) (x u : Nat) : mayB T x x u = false := by simp [mayB]
theorem cnt_lt {n x : Nat} {p : Nat → Bool} (hx : x < n) (hp : p x = false) : cnt n p < n := by
  induction n with
  | zero => omega
  | succ n ih =>
    rw [cnt_s]
    by_cases e : x = n
    · subst e
      rw [bN_f (by rw [hp]; decide)]
      have := cnt_le x p
      omega
    · have := ih (by omega)
      have := bN_le (p n = true)
      omega
theorem chn_le (T : TN) (gl : Option Nat) : ∀ k x, chn T gl k x ≤ 60 ^ k
  | 0, x => by unfold chn; split <;> decide
  | k + 1, x => by
    unfold chn
    obtain ⟨c, hc⟩ : ∃ c, c = cnt (tN T) (fun y => mayB T x y (tH T - (k + 1))) := ⟨_, rfl⟩
    rw [← hc]
    split
    · split
      · exact Nat.le_refl _
      · exact Nat.zero_le _
    · have h1 := smf_le (p := fun y => mayB T x y (tH T - (k + 1))) (chn_le T gl k) (tN T)
      rw [← hc] at h1
      have h2 : c * (60 / c) ≤ 60 := Nat.mul_div_le 60 c
      calc smf (fun y => mayB T x y (tH T - (k + 1))) (chn T gl k) (tN T) * (60 / c) ≤ (c * 60 ^ k) * (60 / c) := Nat.mul_le_mul_right _ h1
        _ = (c * (60 / c)) * 60 ^ k := by rw [Nat.mul_right_comm]
        _ ≤ 60 * 60 ^ k := Nat.mul_le_mul_right _ h2
        _ = 60 ^ (k + 1) := by rw [Nat.pow_succ, Nat.mul_comm]
/-- a sum over all goals -/
def smg (g : Nat → Nat) : Nat → Nat
  | 0 => 0
  | i + 1 => smg g i + g i
theorem smg_mul (g : Nat → Nat) (c : Nat) (n : Nat) : smg (fun y => g y * c) n = smg g n * c := by
  induction n with
  | zero => exact (Nat.zero_mul c).symm
  | succ n ih => show smg _ n + g n * c = (smg g n + g n) * c; rw [ih, Nat.add_mul]
theorem smg_smf (p : Nat → Bool) (g : Nat → Nat → Nat) (n m : Nat) : smg (fun y => smf p (g y) m) n = smf p (fun z => smg (fun y => g y z) n) m := by
  induction m with
  | zero =>
    show smg (fun _ => 0) n = 0
    induction n with
    | zero => rfl
    | succ n ih => show smg (fun _ => 0) n + 0 = 0; rw [ih]
  | succ m ih =>
    rw [smf_s, ← ih]
    clear ih
    induction n with
    | zero => show 0 = 0 + (if p m = true then 0 else 0); split <;> rfl
    | succ n ih2 =>
      show smg _ n + (smf p (g n) m + (if p m = true then g n m else 0)) = (smg _ n + smf p (g n) m) + (if p m = true then smg (fun y => g y m) n + g n m else 0)
      rw [ih2]
      by_cases hp : p m = true
      · rw [if_pos hp, if_pos hp, if_pos hp]; omega
      · rw [if_neg hp, if_neg hp, if_neg hp]; omega
theorem smf_const {p : Nat → Bool} {g : Nat → Nat} {B n : Nat} (h : ∀ y, y < n → p y = true → g y = B) : smf p g n = cnt n p * B := by
  induction n with
  | zero => exact (Nat.zero_mul B).symm
  | succ n ih =>
    rw [smf_s, cnt_s, Nat.add_mul, ih (fun y hy => h y (by omega))]
    by_cases hp : p n = true
    · rw [if_pos hp, bN_t hp, h n (by omega) hp, Nat.one_mul]
    · rw [if_neg hp, bN_f hp, Nat.zero_mul]
theorem smf_add (p : Nat → Bool) (g g2 : Nat → Nat) (n : Nat) : smf p g n + smf p g2 n = smf p (fun y => g y + g2 y) n := by
  induction n with
  | zero => rfl
  | succ n ih =>
    rw [smf_s, smf_s, smf_s, ← ih]
    split <;> omega
theorem dv60 (c : Nat) (h0 : 0 < c) (h : c ≤ 6) : c * (60 / c) = 60 := by
  rcases (show c = 1 ∨ c = 2 ∨ c = 3 ∨ c = 4 ∨ c = 5 ∨ c = 6 by omega) with rfl | rfl | rfl | rfl | rfl | rfl <;> rfl
theorem chn_sum (T : TN) (hn : tN T ≤ 7) : ∀ k x, x < tN T → chn T none k x + smg (fun y => chn T (some y) k x) (tN T) = 60 ^ k
  | 0, x, hx => by
    have : ∀ n, smg (fun y => chn T (some y) 0 x) n = if x < n then 1 else 0 := by
      intro n
      induction n with
      | zero => rfl
      | succ n ih =>
        show smg _ n + chn T (some n) 0 x = _
        rw [ih]
        unfold chn
        by_cases e : n = x
        · subst e
          rw [if_neg (Nat.lt_irrefl n), if_pos rfl, if_pos (Nat.lt_succ_self n)]
        · have e2 : ¬ (some n = some x) := fun e3 => e (Option.some.inj e3)
          rw [if_neg e2]
          by_cases h2 : x < n
          · rw [if_pos h2, if_pos (by omega)]
          · rw [if_neg h2, if_neg (by omega)]
    rw [this, if_pos hx]
    rfl
  | k + 1, x, hx => by
    obtain ⟨u, hu⟩ : ∃ u, u = tH T - (k + 1) := ⟨_, rfl⟩
    obtain ⟨c, hc⟩ : ∃ c, c = cnt (tN T) (fun y => mayB T x y u) := ⟨_, rfl⟩
    have hc6 : c ≤ 6 := by
      have := cnt_lt (p := fun y => mayB T x y u) hx (mayB_self T x u)
      omega
    have e1 : ∀ gl, chn T gl (k + 1) x = if c = 0 then (if gl = none then 60 ^ (k + 1) else 0) else smf (fun y => mayB T x y u) (chn T gl k) (tN T) * (60 / c) := fun gl => by
      rw [hc, hu]; rfl
    have e2 : (fun y => chn T (some y) (k + 1) x) = fun y => if c = 0 then 0 else smf (fun z => mayB T x z u) (chn T (some y) k) (tN T) * (60 / c) := by
      funext y
      rw [e1]
      by_cases h0 : c = 0
      · rw [if_pos h0, if_pos h0, if_neg (by intro e; cases e)]
      · rw [if_neg h0, if_neg h0]
    rw [e1, e2]
    by_cases h0 : c = 0
    · rw [if_pos h0, if_pos rfl]
      have : ∀ n, smg (fun y => if c = 0 then 0 else smf (fun z => mayB T x z u) (chn T (some y) k) (tN T) * (60 / c)) n = 0 := by
        intro n
        induction n with
        | zero => rfl
        | succ n ih => show smg _ n + (if c = 0 then 0 else _) = 0; rw [ih, if_pos h0]
      rw [this]
      rfl
    · rw [if_neg h0]
      have e3 : (fun y => if c = 0 then 0 else smf (fun z => mayB T x z u) (chn T (some y) k) (tN T) * (60 / c)) = fun y => smf (fun z => mayB T x z u) (chn T (some y) k) (tN T) * (60 / c) := by
        funext y
        rw [if_neg h0]
      rw [e3, smg_mul (fun y => smf (fun z => mayB T x z u) (chn T (some y) k) (tN T)), smg_smf (fun z => mayB T x z u) (fun y => chn T (some y) k), ← Nat.add_mul, smf_add, smf_const (B := 60 ^ k) (fun y hy _ => chn_sum T hn k y hy), ← hc, Nat.mul_right_comm, dv60 c (by omega) hc6, Nat.pow_succ, Nat.mul_comm]
theorem p60 {k : Nat} (h : k ≤ 5) : 60 ^ k ≤ 777600000 := Nat.le_trans (Nat.pow_le_pow_right (by decide) h) (by decide)
theorem l0 : (0 : Int64) = lN 0 := rfl
theorem l1 : (1 : Int64) = lN 1 := rfl
theorem l60 : (60 : Int64) = lN 60 := rfl
def goI (gl : Option Nat) : Int32 := match gl with
  | none => -1
  | some y => nI y
section CHANCES
variable {scr : xi_X} {d : Nat} {Q : Option Value → xi_S → Prop} {I : Nat → Nat → Int32} {J : Nat → Nat → Int64} {t dr : Nat} {G : Nat → Nat} {T : TN}
theorem c_whole (ht : tw t) (hG : G 46 = t) (hT : TR I t T) {u : Nat} (hu : u ≤ tH T) : xr scr d xc_128 0 [some (.ref 46), some (.int (nI u)), none, none, none] [] (wS, I, J, wP t dr G) Q = Q (some (.long (lN (60 ^ (tH T - u))))) (wS, I, J, wP t dr G) := by
  have hh5 := TR_h hT
  have htG : tw (G 46) := by rw [hG]; exact ht
  have g0 : I (G 46) 0 = nI (tH T) := by rw [hG]; exact TR_0 hT
  rw [xs_128_0, l1]
  have := up_from (P := fun x => xr scr d xc_128 4 [some (.ref 46), some (.int (nI u)), some (.long (lN (60 ^ (x - u)))), none, some (.int (nI x))] [] (wS, I, J, wP t dr G) Q = Q (some (.long (lN (60 ^ (tH T - u))))) (wS, I, J, wP t dr G)) hu (fun x h1 hx h => by
    rw [xs_128_4 htG, g0]
    simp (disch := first | assumption | omega | decide | exact vp_in_nI (by omega) (by omega) | exact and1_bN _ | (simp only [pk_mul, nI_add, pred_s]; exact vp_in_nI (by omega) (by omega))) only [nI_add, pk_mul, nI_ltI, nI_eq, z_eq, z_lt, z_gt, z_bN, bN_z, bN_p, bN_i1, nI_clamp, rng_nI, ↓reduceIte, if_true, if_false, not_true_eq_false, not_false_eq_true, true_and, and_true, and_self, false_and, and_false, hx, xs_128_9, l60, lN_mul]
    rw [show x + 1 - u = x - u + 1 by omega, Nat.pow_succ] at h
    exact h) (by
    rw [xs_128_4 htG, g0]
    simp (disch := first | assumption | omega | decide | exact vp_in_nI (by omega) (by omega) | exact and1_bN _ | (simp only [pk_mul, nI_add, pred_s]; exact vp_in_nI (by omega) (by omega))) only [nI_add, pk_mul, nI_ltI, nI_eq, z_eq, z_lt, z_gt, z_bN, bN_z, bN_p, bN_i1, nI_clamp, rng_nI, ↓reduceIte, if_true, if_false, not_true_eq_false, not_false_eq_true, true_and, and_true, and_self, false_and, and_false, Nat.lt_irrefl, xs_128_15])
  rw [Nat.sub_self] at this
  exact this
theorem m_wholeFrom (hM : MT I T) {u : Nat} (hu : u ≤ tH T) : xr scr d xc_240 0 [some (.ref 58), some (.int (nI u)), none, none, none] [] (wS, I, J, wP t dr G) Q = Q (some (.long (lN (60 ^ (tH T - u))))) (wS, I, J, wP t dr G) := by
  have hh5 := MT_h hM
  rw [xs_240_0, l1]
  have := up_from (P := fun x => xr scr d xc_240 4 [some (.ref 58), some (.int (nI u)), some (.long (lN (60 ^ (x - u)))), none, some (.int (nI x))] [] (wS, I, J, wP t dr G) Q = Q (some (.long (lN (60 ^ (tH T - u))))) (wS, I, J, wP t dr G)) hu (fun x h1 hx h => by
    rw [xs_240_4, MT_11 hM]
    simp (disch := first | assumption | omega | decide | exact vp_in_nI (by omega) (by omega) | exact and1_bN _ | (simp only [pk_mul, nI_add, pred_s]; exact vp_in_nI (by omega) (by omega))) only [nI_add, pk_mul, nI_ltI, nI_eq, z_eq, z_lt, z_gt, z_bN, bN_z, bN_p, bN_i1, nI_clamp, rng_nI, ↓reduceIte, if_true, if_false, not_true_eq_false, not_false_eq_true, true_and, and_true, and_self, false_and, and_false, hx, xs_240_8, l60, lN_mul]
    rw [show x + 1 - u = x - u + 1 by omega, Nat.pow_succ] at h
    exact h) (by
    rw [xs_240_4, MT_11 hM]
    simp (disch := first | assumption | omega | decide | exact vp_in_nI (by omega) (by omega) | exact and1_bN _ | (simp only [pk_mul, nI_add, pred_s]; exact vp_in_nI (by omega) (by omega))) only [nI_add, pk_mul, nI_ltI, nI_eq, z_eq, z_lt, z_gt, z_bN, bN_z, bN_p, bN_i1, nI_clamp, rng_nI, ↓reduceIte, if_true, if_false, not_true_eq_false, not_false_eq_true, true_and, and_true, and_self, false_and, and_false, Nat.lt_irrefl, xs_240_14])
  rw [Nat.sub_self] at this
  exact this
def CT (J : Nat → Nat → Int64) (T : TN) (gl : Option Nat) (u : Nat) : Prop := ∀ x, x < tN T → J 47 (u * 7 + x) = lN (chn T gl (tH T - u) x)
theorem c_shareOf (ht : tw t) (hG : G 46 = t) (hT : TR I t T) {gl : Option Nat} {x u : Nat} (hx : x < tN T) (hu : u ≤ tH T) (hC : CT J T gl u) : xr scr (d + 1) xc_129 0 [some (.ref 46), some (.int (nI x)), some (.int (nI u))] [] (wS, I, J, wP t dr G) Q = Q (some (.long (lN (chn T gl (tH T - u) x)))) (wS, I, J, wP t dr G) := by
  have hn := TR_n hT
  have hh5 := TR_h hT
  have htG : tw (G 46) := by rw [hG]; exact ht
  have hTG : TR I (G 46) T := by rw [hG]; exact hT
  have h1 := hC x hx
  have hu1 : u < tH T + 1 := by omega
  simp (disch := first | assumption | omega | decide | exact vp_in_nI (by omega) (by omega) | exact and1_bN _ | (simp only [pk_mul, nI_add, pred_s]; exact vp_in_nI (by omega) (by omega))) only [xs_129_0, xs_129_4, xs_129_5, xs_129_9, xs_129_10, xs_129_19, xs_129_20, c_isMoment htG hTG, c_isOne htG hTG, Option.toList_some, Option.toList_none, List.cons_append, List.nil_append, List.append_nil, nI_add, pk_mul, nI_ltI, nI_eq, z_eq, z_lt, z_gt, z_bN, bN_z, bN_p, bN_i1, nI_clamp, rng_nI, ↓reduceIte, if_true, if_false, not_true_eq_false, not_false_eq_true, true_and, and_true, and_self, false_and, and_false, hu1, hx, h1]
theorem c_shareByGiving (ht : tw t) (hG : G 46 = t) (hT : TT I t T) {gl : Option Nat} (hgl : ∀ y, gl = some y → y < 7) {x u : Nat} (hx : x < tN T) (hu : u < tH T) (hC : CT J T gl (u + 1)) : xr scr (d + 2) xc_127 0 [some (.ref 46), some (.int (nI x)), some (.int (nI u)), some (.int (goI gl)), none, none, none, none, none] [] (wS, I, J, wP t dr G) Q = Q (some (.long (lN (chn T gl (tH T - u) x)))) (wS, I, J, wP t dr G) := by
  have hn := TR_n hT.1
  have hh5 := TR_h hT.1
  have htG : tw (G 46) := by rw [hG]; exact ht
  have hTG : TT I (G 46) T := by rw [hG]; exact hT
  have g1 : I (G 46) 1 = nI (tN T) := TR_1 hTG.1
  obtain ⟨k, hk⟩ : ∃ k, tH T - u = k + 1 := ⟨tH T - u - 1, by omega⟩
  have hk2 : tH T - (u + 1) = k := by omega
  have hk3 : tH T - (k + 1) = u := by omega
  obtain ⟨p, hp⟩ : ∃ p, p = fun y => mayB T x y u := ⟨_, rfl⟩
  obtain ⟨c, hc⟩ : ∃ c, c = cnt (tN T) p := ⟨_, rfl⟩
  have hc7 : c ≤ 7 := by rw [hc]; exact Nat.le_trans (cnt_le _ _) hn
  have ev : chn T gl (tH T - u) x = if c = 0 then (if gl = none then 60 ^ (tH T - u) else 0) else smf p (chn T gl k) (tN T) * (60 / c) := by rw [hc, hp, hk]; unfold chn; rw [hk3]
  have hb7 : bs (tN T) p < 128 := bs_lt7 hn _
  rw [ev]
  simp (disch := first | assumption | omega | decide | exact vp_in_nI (by omega) (by omega) | exact and1_bN _ | (simp only [pk_mul, nI_add, pred_s]; exact vp_in_nI (by omega) (by omega))) only [xs_127_0, c_takersOf htG hTG hx hu, Option.toList_some, Option.toList_none, List.cons_append, List.nil_append, List.append_nil, xs_127_5, mset]
  rw [← hp]
  simp (disch := first | assumption | omega | decide | exact vp_in_nI (by omega) (by omega) | exact and1_bN _ | (simp only [pk_mul, nI_add, pred_s]; exact vp_in_nI (by omega) (by omega))) only [c_bitCount, cnt_bs, Option.toList_some, Option.toList_none, List.cons_append, List.nil_append, List.append_nil, xs_127_8]
  rw [← hc]
  by_cases h0 : c = 0
  · rw [h0]
    simp (disch := first | assumption | omega | decide | exact vp_in_nI (by omega) (by omega) | exact and1_bN _ | (simp only [pk_mul, nI_add, pred_s]; exact vp_in_nI (by omega) (by omega))) only [nI_0, ↓reduceIte, xs_127_11]
    cases gl with
    | none =>
      rw [show goI none = -1 from rfl, if_pos rfl, if_pos rfl]
      have hul : u ≤ tH T := by omega
      simp (disch := first | assumption | omega | decide | exact vp_in_nI (by omega) (by omega) | exact and1_bN _ | (simp only [pk_mul, nI_add, pred_s]; exact vp_in_nI (by omega) (by omega))) only [xs_127_14, c_whole ht hG hT.1 hul, Option.toList_some, Option.toList_none, List.cons_append, List.nil_append, List.append_nil, xs_127_17, xs_127_19]
    | some y =>
      have hy := hgl y rfl
      rw [show goI (some y) = nI y from rfl, if_neg (fun e => (m1_ne (by omega)).mp e), if_neg (by intro e; cases e)]
      simp (disch := first | assumption | omega | decide | exact vp_in_nI (by omega) (by omega) | exact and1_bN _ | (simp only [pk_mul, nI_add, pred_s]; exact vp_in_nI (by omega) (by omega))) only [xs_127_18, xs_127_19, l0]
  · have hz : ¬ nI c = 0 := nI_ne0 (by omega) (by omega)
    rw [if_neg hz, if_neg h0, xs_127_20, l0]
    refine up_0 (P := fun y => xr scr (d + 2) xc_127 24 [some (.ref 46), some (.int (nI x)), some (.int (nI u)), some (.int (goI gl)), some (.int (nI (bs (tN T) p))), some (.int (nI c)), some (.long (lN (smf p (chn T gl k) y))), none, some (.int (nI y))] [] (wS, I, J, wP t dr G) Q = Q (some (.long (lN (smf p (chn T gl k) (tN T) * (60 / c))))) (wS, I, J, wP t dr G)) (tN T) (fun y hy h => ?_) ?_
    · have hy8 : y < 8 := by omega
      have hu1 : u + 1 ≤ tH T := by omega
      rw [smf_s] at h
      rw [xs_127_24 htG, g1]
      simp (disch := first | assumption | omega | decide | exact vp_in_nI (by omega) (by omega) | exact and1_bN _ | (simp only [pk_mul, nI_add, pred_s]; exact vp_in_nI (by omega) (by omega))) only [nI_add, pk_mul, nI_ltI, nI_eq, z_eq, z_lt, z_gt, z_bN, bN_z, bN_p, bN_i1, nI_clamp, rng_nI, ↓reduceIte, if_true, if_false, not_true_eq_false, not_false_eq_true, true_and, and_true, and_self, false_and, and_false, hy, xs_127_29, sb_t]
      by_cases hpy : p y = true
      · rw [if_pos hpy] at h
        simp (disch := first | assumption | omega | decide | exact vp_in_nI (by omega) (by omega) | exact and1_bN _ | (simp only [pk_mul, nI_add, pred_s]; exact vp_in_nI (by omega) (by omega))) only [hpy, nI_add, pk_mul, nI_ltI, nI_eq, z_eq, z_lt, z_gt, z_bN, bN_z, bN_p, bN_i1, nI_clamp, rng_nI, ↓reduceIte, if_true, if_false, not_true_eq_false, not_false_eq_true, true_and, and_true, and_self, false_and, and_false, xs_127_35, c_shareOf ht hG hT.1 hy hu1 hC, Option.toList_some, Option.toList_none, List.cons_append, List.nil_append, List.append_nil, xs_127_42, lN_add, xs_127_44, hk2]
        exact h
      · rw [if_neg hpy] at h
        simp (disch := first | assumption | omega | decide | exact vp_in_nI (by omega) (by omega) | exact and1_bN _ | (simp only [pk_mul, nI_add, pred_s]; exact vp_in_nI (by omega) (by omega))) only [hpy, nI_add, pk_mul, nI_ltI, nI_eq, z_eq, z_lt, z_gt, z_bN, bN_z, bN_p, bN_i1, nI_clamp, rng_nI, ↓reduceIte, if_true, if_false, not_true_eq_false, not_false_eq_true, true_and, and_true, and_self, false_and, and_false, Bool.false_eq_true, xs_127_44]
        exact h
    · rw [xs_127_24 htG, g1]
      simp (disch := first | assumption | omega | decide | exact vp_in_nI (by omega) (by omega) | exact and1_bN _ | (simp only [pk_mul, nI_add, pred_s]; exact vp_in_nI (by omega) (by omega))) only [nI_add, pk_mul, nI_ltI, nI_eq, z_eq, z_lt, z_gt, z_bN, bN_z, bN_p, bN_i1, nI_clamp, rng_nI, ↓reduceIte, if_true, if_false, not_true_eq_false, not_false_eq_true, true_and, and_true, and_self, false_and, and_false, Nat.lt_irrefl]
      have h60 : 60 / c < 2 ^ 31 := Nat.lt_of_le_of_lt (Nat.div_le_self _ _) (by decide)
      rw [xs_127_46 hz, pk_div (by decide) (by omega) (by omega), nI_l h60, lN_mul]
theorem c_settleC (ht : tw t) (hT : TT I t T) {gl : Option Nat} (hgl : ∀ y, gl = some y → y < 7) {f : Nat} (hf : f ≤ tH T) (hq : ∀ J2 : Nat → Nat → Int64, (∀ k, k ≠ 47 → J2 k = J k) → (∀ u, f ≤ u → u ≤ tH T → CT J2 T gl u) → Q none (wS, I, J2, wP t dr (wU 46 t G))) : xr scr (d + 3) xc_126 0 [some (.ref 46), some (.ref t), some (.int (nI f)), some (.int (goI gl)), none, none, none, none] [] (wS, I, J, wP t dr G) Q := by
  have hn := TR_n hT.1
  have hh5 := TR_h hT.1
  obtain ⟨G2, hG2⟩ : ∃ G2, G2 = wU 46 t G := ⟨_, rfl⟩
  have hGw : G2 46 = t := by rw [hG2]; exact wU_eq
  have htG : tw (G2 46) := by rw [hGw]; exact ht
  rw [xs_126_0 ht, TR_0 hT.1, ← hG2]
  rw [← hG2] at hq
  have g1 : I (G2 46) 1 = nI (tN T) := by rw [hGw]; exact TR_1 hT.1
  have g0 : I (G2 46) 0 = nI (tH T) := by rw [hGw]; exact TR_0 hT.1
  have key : ∀ k, k ≤ tH T + 1 - f → ∀ J2 : Nat → Nat → Int64, (∀ k, k ≠ 47 → J2 k = J k) → (∀ u, f + k ≤ u → u ≤ tH T → CT J2 T gl u) → ∀ o5 o6 : Option Value, xr scr (d + 3) xc_126 7 [some (.ref 46), some (.ref t), some (.int (nI f)), some (.int (goI gl)), some (.int (nI (f + k) - nI 1)), o5, o6, none] [] (wS, I, J2, wP t dr G2) Q := by
    intro k
    induction k with
    | zero =>
      intro _ J2 f2 w2 o5 o6
      simp (disch := first | assumption | omega | decide | exact vp_in_nI (by omega) (by omega) | exact and1_bN _ | (simp only [pk_mul, nI_add, pred_s]; exact vp_in_nI (by omega) (by omega))) only [xs_126_7, Nat.add_zero, pred_lt, ↓reduceIte, xs_126_51]
      exact hq J2 f2 (fun u h1 h2 => w2 u (by omega) h2)
    | succ k ih =>
      intro hk J2 f2 w2 o5 o6
      have hnl : ¬ f + k < f := by omega
      rw [show f + (k + 1) = f + k + 1 by omega, pred_s]
      simp (disch := first | assumption | omega | decide | exact vp_in_nI (by omega) (by omega) | exact and1_bN _ | (simp only [pk_mul, nI_add, pred_s]; exact vp_in_nI (by omega) (by omega))) only [xs_126_7, xs_126_10, xs_126_12, nI_add, pk_mul, nI_ltI, nI_eq, z_eq, z_lt, z_gt, z_bN, bN_z, bN_p, bN_i1, nI_clamp, rng_nI, ↓reduceIte, if_true, if_false, not_true_eq_false, not_false_eq_true, true_and, and_true, and_self, false_and, and_false, hnl]
      obtain ⟨u, hu⟩ : ∃ u, u = f + k := ⟨_, rfl⟩
      rw [show f + (k + 1) = f + k + 1 by omega] at w2
      rw [← hu] at w2 ih ⊢
      have huh : u ≤ tH T := by omega
      refine up_0 (P := fun x => ∀ J3 : Nat → Nat → Int64, (∀ k, k ≠ 47 → J3 k = J k) → (∀ u2, u + 1 ≤ u2 → u2 ≤ tH T → CT J3 T gl u2) → (∀ z, z < x → z < tN T → J3 47 (u * 7 + z) = lN (chn T gl (tH T - u) z)) → ∀ o6 : Option Value, xr scr (d + 3) xc_126 14 [some (.ref 46), some (.ref t), some (.int (nI f)), some (.int (goI gl)), some (.int (nI u)), some (.int (nI x)), o6, none] [] (wS, I, J3, wP t dr G2) Q) (tN T) (fun x hx h J3 f3 w3 z3 o6 => ?_) (fun J3 f3 w3 z3 o6 => ?_) J2 f2 (fun u2 h1 h2 => w2 u2 (by omega) h2) (fun z hz => absurd hz (Nat.not_lt_zero _)) o6
      · rw [xs_126_14 htG, g1]
        simp (disch := first | assumption | omega | decide | exact vp_in_nI (by omega) (by omega) | exact and1_bN _ | (simp only [pk_mul, nI_add, pred_s]; exact vp_in_nI (by omega) (by omega))) only [nI_add, pk_mul, nI_ltI, nI_eq, z_eq, z_lt, z_gt, z_bN, bN_z, bN_p, bN_i1, nI_clamp, rng_nI, ↓reduceIte, if_true, if_false, not_true_eq_false, not_false_eq_true, true_and, and_true, and_self, false_and, and_false, hx]
        rw [xs_126_19 htG, g0]
        have last : ∀ m : Int64, m = lN (chn T gl (tH T - u) x) → xr scr (d + 3) xc_126 37 [some (.ref 46), some (.ref t), some (.int (nI f)), some (.int (goI gl)), some (.int (nI u)), some (.int (nI x)), o6, none] [.long m] (wS, I, J3, wP t dr G2) Q := by
          intro m hm
          rw [xs_126_37 (by rw [pk_mul, nI_add]; exact vp_in_nI (by omega) (by omega)), pk_mul, nI_add, nI_add, nI_clamp (by omega), hm]
          refine h _ (fun k hk => by rw [xu_fr hk, f3 k hk]) (fun u2 h1 h2 z hz => ?_) (fun z hz hzn => ?_) _
          · rw [xu_nj (by omega), w3 u2 h1 h2 z hz]
          · rw [xu_at]
            by_cases e : z = x
            · rw [if_pos (by rw [e]), e]
            · rw [if_neg (by omega), z3 z (by omega) hzn]
        by_cases e : u = tH T
        · rw [if_pos (by rw [e]), xs_126_24]
          have ec : chn T gl (tH T - u) x = if gl = some x then 1 else 0 := by rw [e, Nat.sub_self]; rfl
          cases gl with
          | none =>
            rw [show goI none = -1 from rfl, if_neg (fun e => (m1_ne (by omega)).mp e), xs_126_29, xs_126_30, nI_l (by decide)]
            exact last _ (by rw [ec, if_neg (by intro e; cases e)])
          | some y =>
            have hy := hgl y rfl
            rw [show goI (some y) = nI y from rfl]
            by_cases exy : x = y
            · rw [if_pos (by rw [exy]), xs_126_27, xs_126_30, nI_l (by decide)]
              exact last _ (by rw [ec, if_pos (by rw [exy])])
            · rw [if_neg (fun e2 => exy ((nI_eq (by omega) (by omega)).mp e2)), xs_126_29, xs_126_30, nI_l (by decide)]
              exact last _ (by rw [ec, if_neg (fun e2 => exy (Option.some.inj e2).symm)])
        · have hult : u < tH T := by omega
          rw [if_neg (fun e2 => e ((nI_eq (by omega) (by omega)).mp e2)), xs_126_32]
          simp (disch := first | assumption | omega | decide | exact vp_in_nI (by omega) (by omega) | exact and1_bN _ | (simp only [pk_mul, nI_add, pred_s]; exact vp_in_nI (by omega) (by omega))) only [c_shareByGiving ht hGw hT hgl hx hult (w3 (u + 1) (Nat.le_refl _) hult), Option.toList_some, Option.toList_none, List.cons_append, List.nil_append, List.append_nil]
          exact last _ rfl
      · rw [xs_126_14 htG, g1]
        simp (disch := first | assumption | omega | decide | exact vp_in_nI (by omega) (by omega) | exact and1_bN _ | (simp only [pk_mul, nI_add, pred_s]; exact vp_in_nI (by omega) (by omega))) only [nI_add, pk_mul, nI_ltI, nI_eq, z_eq, z_lt, z_gt, z_bN, bN_z, bN_p, bN_i1, nI_clamp, rng_nI, ↓reduceIte, if_true, if_false, not_true_eq_false, not_false_eq_true, true_and, and_true, and_self, false_and, and_false, Nat.lt_irrefl, xs_126_49, add_m1]
        refine ih (by omega) J3 f3 (fun u2 h1 h2 z hz => ?_) _ _
        by_cases e : u2 = u
        · rw [e]; exact z3 z hz hz
        · exact w3 u2 (by omega) h2 z hz
  have := key (tH T + 1 - f) (Nat.le_refl _) J (fun _ _ => rfl) (fun u h1 h2 => by omega) none none
  rw [show f + (tH T + 1 - f) = tH T + 1 by omega, pred_s] at this
  exact this
theorem m_chanceOf (hM : MT I T) {y : Nat} (hy : y < tN T) : ∀ (k x : Nat) (Q : Option Value → xi_S → Prop), x < tN T → k ≤ tH T → xr scr (d + k + 5) xc_239 0 [some (.ref 58), some (.int (nI x)), some (.int (nI (tH T - k))), some (.int (nI y)), none, none, none, none] [] (wS, I, J, wP t dr G) Q = Q (some (.long (lN (chn T (some y) k x)))) (wS, I, J, wP t dr G)
  | 0, x, Q, hx, hk => by
    have hn := MT_n hM
    rw [xs_239_0, MT_11 hM, Nat.sub_zero, if_pos rfl, xs_239_4]
    unfold chn
    by_cases e : x = y
    · rw [if_pos (by rw [e]), xs_239_7, xs_239_10, if_pos (by rw [e])]
      rfl
    · rw [if_neg (fun e2 => e ((nI_eq (by omega) (by omega)).mp e2)), xs_239_9, xs_239_10, if_neg (fun e2 => e (Option.some.inj e2).symm)]
      rfl
  | k + 1, x, Q, hx, hk => by
    have hn := MT_n hM
    have hh5 := MT_h hM
    obtain ⟨u, hu⟩ : ∃ u, u = tH T - (k + 1) := ⟨_, rfl⟩
    have hult : u < tH T := by omega
    have hu1 : u + 1 = tH T - k := by omega
    obtain ⟨p, hp⟩ : ∃ p, p = fun z => mayB T x z u := ⟨_, rfl⟩
    obtain ⟨c, hc⟩ : ∃ c, c = cnt (tN T) p := ⟨_, rfl⟩
    have hc7 : c ≤ 7 := by rw [hc]; exact Nat.le_trans (cnt_le _ _) hn
    obtain ⟨g, hg⟩ : ∃ g, g = chn T (some y) k := ⟨_, rfl⟩
    have ev : chn T (some y) (k + 1) x = smf p g (tN T) * (60 / c) := by
      rw [hc, hp, hg, hu]
      unfold chn
      split
      · rename_i h0
        rw [if_neg (by intro e; cases e), smf_z h0, Nat.zero_mul]
      · rfl
    have hb7 : bs (tN T) p < 128 := bs_lt7 hn _
    have e1 : ¬ u = tH T := by omega
    rw [ev, ← hu, xs_239_0, MT_11 hM]
    simp (disch := first | assumption | omega | decide | exact vp_in_nI (by omega) (by omega) | exact and1_bN _ | (simp only [pk_mul, nI_add, pred_s]; exact vp_in_nI (by omega) (by omega))) only [nI_add, pk_mul, nI_ltI, nI_eq, z_eq, z_lt, z_gt, z_bN, bN_z, bN_p, bN_i1, nI_clamp, rng_nI, ↓reduceIte, if_true, if_false, not_true_eq_false, not_false_eq_true, true_and, and_true, and_self, false_and, and_false, e1, xs_239_11, m_mays hM hx hult, Option.toList_some, Option.toList_none, List.cons_append, List.nil_append, List.append_nil, xs_239_15, mset]
    rw [← hp, l0]
    have hdiv : ∀ z, z ≤ tN T → lN (smf p g z * (60 / c)) = lN (smf p g z * (60 / c)) := fun _ _ => rfl
    have h00 : lN 0 = lN (smf p g 0 * (60 / c)) := by rw [show smf p g 0 = 0 from rfl, Nat.zero_mul]
    rw [h00]
    refine up_0 (P := fun z => xr scr (d + (k + 1) + 5) xc_239 20 [some (.ref 58), some (.int (nI x)), some (.int (nI u)), some (.int (nI y)), some (.int (nI (bs (tN T) p))), some (.long (lN (smf p g z * (60 / c)))), none, some (.int (nI z))] [] (wS, I, J, wP t dr G) Q = Q (some (.long (lN (smf p g (tN T) * (60 / c))))) (wS, I, J, wP t dr G)) (tN T) (fun z hz h => ?_) ?_
    · have hz8 : z < 8 := by omega
      rw [smf_s] at h
      rw [xs_239_20, MT_10 hM]
      simp (disch := first | assumption | omega | decide | exact vp_in_nI (by omega) (by omega) | exact and1_bN _ | (simp only [pk_mul, nI_add, pred_s]; exact vp_in_nI (by omega) (by omega))) only [nI_add, pk_mul, nI_ltI, nI_eq, z_eq, z_lt, z_gt, z_bN, bN_z, bN_p, bN_i1, nI_clamp, rng_nI, ↓reduceIte, if_true, if_false, not_true_eq_false, not_false_eq_true, true_and, and_true, and_self, false_and, and_false, hz, xs_239_24, m_has hn p hz8, Option.toList_some, Option.toList_none, List.cons_append, List.nil_append, List.append_nil, xs_239_28]
      by_cases hpz : p z = true
      · rw [if_neg (fun e => e hpz), xs_239_29]
        have hc0 : 0 < c := by
          rw [hc]
          have : ∀ n, z < n → 0 < cnt n p := by
            intro n hn2
            induction n with
            | zero => omega
            | succ n ih =>
              rw [cnt_s]
              by_cases e : z = n
              · rw [bN_t (e ▸ hpz)]; omega
              · have := ih (by omega); omega
          exact this _ hz
        have hcz : ¬ nI c = 0 := nI_ne0 hc0 (by omega)
        have h60 : 60 / c < 2 ^ 31 := Nat.lt_of_le_of_lt (Nat.div_le_self _ _) (by decide)
        simp (disch := first | assumption | omega | decide | exact vp_in_nI (by omega) (by omega) | exact and1_bN _ | (simp only [pk_mul, nI_add, pred_s]; exact vp_in_nI (by omega) (by omega))) only [m_sizeOf, cnt_bs, Option.toList_some, Option.toList_none, List.cons_append, List.nil_append, List.append_nil]
        rw [← hc, xs_239_32 hcz, pk_div (by decide) hc0 (by omega), nI_l h60, nI_add, hu1, show d + (k + 1) + 4 = d + k + 5 by omega, m_chanceOf hM hy k z _ hz (by omega), ← hg]
        simp (disch := first | assumption | omega | decide | exact vp_in_nI (by omega) (by omega) | exact and1_bN _ | (simp only [pk_mul, nI_add, pred_s]; exact vp_in_nI (by omega) (by omega))) only [Option.toList_some, Option.toList_none, List.cons_append, List.nil_append, List.append_nil, xs_239_41, lN_mul, xs_239_44, lN_add, nI_add, pk_mul, nI_ltI, nI_eq, z_eq, z_lt, z_gt, z_bN, bN_z, bN_p, bN_i1, nI_clamp, rng_nI, ↓reduceIte, if_true, if_false, not_true_eq_false, not_false_eq_true, true_and, and_true, and_self, false_and, and_false]
        rw [if_pos hpz, Nat.add_mul, Nat.mul_comm (g z)] at h
        exact h
      · rw [if_neg hpz, Nat.add_zero] at h
        rw [if_pos hpz, xs_239_43, xs_239_44, l0, lN_add, Nat.add_zero, nI_add]
        exact h
    · rw [xs_239_20, MT_10 hM]
      simp (disch := first | assumption | omega | decide | exact vp_in_nI (by omega) (by omega) | exact and1_bN _ | (simp only [pk_mul, nI_add, pred_s]; exact vp_in_nI (by omega) (by omega))) only [nI_add, pk_mul, nI_ltI, nI_eq, z_eq, z_lt, z_gt, z_bN, bN_z, bN_p, bN_i1, nI_clamp, rng_nI, ↓reduceIte, if_true, if_false, not_true_eq_false, not_false_eq_true, true_and, and_true, and_self, false_and, and_false, Nat.lt_irrefl, xs_239_48]
end CHANCES
