/-! ROWS OF HANDS as lists: rws n ok k pre = all rows that go on from pre by k hands, by numbers -/
def rwp {α : Type} (x : Nat) (F : Nat → List α) : List α := (List.range x).flatMap F
theorem rwp_0 {α : Type} (F : Nat → List α) : rwp 0 F = [] := rfl
theorem rwp_s {α : Type} (x : Nat) (F : Nat → List α) : rwp (x + 1) F = rwp x F ++ F x := by
  unfold rwp
  rw [List.range_succ, List.flatMap_append]
  simp
theorem rwp_c {α : Type} {n : Nat} {F F2 : Nat → List α} (h : ∀ y, y < n → F y = F2 y) : rwp n F = rwp n F2 := by
  induction n with
  | zero => rfl
  | succ n ih => rw [rwp_s, rwp_s, ih (fun y hy => h y (by omega)), h n (by omega)]
theorem rwp_nil {α : Type} {n : Nat} {F : Nat → List α} (h : ∀ y, y < n → F y = []) : rwp n F = [] := by
  induction n with
  | zero => rfl
  | succ n ih => rw [rwp_s, ih (fun y hy => h y (by omega)), h n (by omega)]; rfl
theorem rwp_from {α : Type} {x n : Nat} (hx : x ≤ n) {F : Nat → List α} (h : ∀ y, x ≤ y → y < n → F y = []) : rwp n F = rwp x F := by
  induction n with
  | zero => rw [show x = 0 by omega]
  | succ n ih =>
    by_cases e : x = n + 1
    · rw [e]
    · rw [rwp_s, ih (by omega) (fun y h1 h2 => h y h1 (by omega)), h n (by omega) (by omega), List.append_nil]
theorem rwp_ne {α : Type} {x n : Nat} (hx : x < n) {F : Nat → List α} (h : F x ≠ []) (h0 : rwp x F = []) : ∃ M, rwp n F = F x ++ M := by
  have : ∀ m, x + 1 ≤ m → ∃ M, rwp m F = F x ++ M := by
    intro m hm
    induction m with
    | zero => omega
    | succ m ih =>
      by_cases e : x = m
      · subst e; exact ⟨[], by rw [rwp_s, h0]; simp⟩
      · obtain ⟨M, hM⟩ := ih (by omega)
        exact ⟨M ++ F m, by rw [rwp_s, hM, List.append_assoc]⟩
  exact this n (by omega)
theorem rwp_mem {α : Type} {n : Nat} {F : Nat → List α} {r : α} : r ∈ rwp n F ↔ ∃ y, y < n ∧ r ∈ F y := by
  unfold rwp
  simp [List.mem_flatMap]
theorem rwp_filter {α : Type} (n : Nat) (F : Nat → List α) (p : α → Bool) : (rwp n F).filter p = rwp n (fun y => (F y).filter p) := by
  induction n with
  | zero => rfl
  | succ n ih => rw [rwp_s, rwp_s, List.filter_append, ih]
theorem rwp_len {α : Type} {n B : Nat} {F : Nat → List α} (h : ∀ y, y < n → (F y).length ≤ B) : (rwp n F).length ≤ n * B := by
  induction n with
  | zero => exact Nat.zero_le _
  | succ n ih =>
    rw [rwp_s, List.length_append, Nat.succ_mul]
    have := ih (fun y hy => h y (by omega))
    have := h n (by omega)
    omega
def okB (T : TN) (v : Nat) (bk : Bool) (pre : List Nat) (y : Nat) : Bool := mayB T (pre.getD (pre.length - 1) 0) y (pre.length - 1) && !(bk && decide (1 < pre.length) && decide (pre.getD (pre.length - 2) 0 = y)) && decide (pre.count y < lim T v y)
def okC (T : TN) (v : Nat) (bk : Bool) (C : Nat → Nat → Bool) (pre : List Nat) (y : Nat) : Bool := okB T v bk pre y && C pre.length y
def rws (n : Nat) (ok : List Nat → Nat → Bool) : Nat → List Nat → List (List Nat)
  | 0, pre => [pre]
  | k + 1, pre => rwp n (fun y => if ok pre y = true then rws n ok k (pre ++ [y]) else [])
def rwF (n : Nat) (ok : List Nat → Nat → Bool) (k : Nat) (pre : List Nat) (y : Nat) : List (List Nat) := if ok pre y = true then rws n ok k (pre ++ [y]) else []
theorem rws_s (n : Nat) (ok : List Nat → Nat → Bool) (k : Nat) (pre : List Nat) : rws n ok (k + 1) pre = rwp n (rwF n ok k pre) := rfl
theorem rws_pre {n : Nat} {ok : List Nat → Nat → Bool} : ∀ (k : Nat) (pre r : List Nat), r ∈ rws n ok k pre → ∃ e, r = pre ++ e ∧ e.length = k ∧ ∀ y, y ∈ e → y < n
  | 0, pre, r, h => ⟨[], by rw [List.mem_singleton.mp h]; simp⟩
  | k + 1, pre, r, h => by
    obtain ⟨y, hy, h2⟩ := rwp_mem.mp h
    by_cases hk : ok pre y = true
    · rw [if_pos hk] at h2
      obtain ⟨e, h3, h4, h5⟩ := rws_pre k _ r h2
      refine ⟨y :: e, by rw [h3]; simp, by simp [h4], fun z hz => ?_⟩
      rcases List.mem_cons.mp hz with e2 | e2
      · rw [e2]; exact hy
      · exact h5 z e2
    · rw [if_neg hk] at h2; cases h2
theorem rws_len {n : Nat} {ok : List Nat → Nat → Bool} : ∀ (k : Nat) (pre : List Nat), (rws n ok k pre).length ≤ n ^ k
  | 0, pre => Nat.le_refl 1
  | k + 1, pre => by
    rw [rws_s, Nat.pow_succ, Nat.mul_comm]
    refine rwp_len (fun y hy => ?_)
    unfold rwF
    split
    · exact rws_len k _
    · exact Nat.zero_le _
theorem rws_c {n : Nat} {ok ok2 : List Nat → Nat → Bool} : ∀ (k : Nat) (pre : List Nat), (∀ p y, pre.length ≤ p.length → p.length < pre.length + k → y < n → ok p y = ok2 p y) → rws n ok k pre = rws n ok2 k pre
  | 0, pre, h => rfl
  | k + 1, pre, h => by
    rw [rws_s, rws_s]
    refine rwp_c (fun y hy => ?_)
    unfold rwF
    rw [h pre y (Nat.le_refl _) (by omega) hy, rws_c k (pre ++ [y]) (fun p z h1 h2 hz => h p z (by simp at h1; omega) (by simp at h2; omega) hz)]
/-- all hands of a prefix are people -/
def inP (n : Nat) (pre : List Nat) : Prop := ∀ y, y ∈ pre → y < n
theorem inP_app {n : Nat} {pre : List Nat} {y : Nat} (h : inP n pre) (hy : y < n) : inP n (pre ++ [y]) := by
  intro z hz
  rcases List.mem_append.mp hz with e | e
  · exact h z e
  · rw [List.mem_singleton.mp e]; exact hy
theorem inP_get {n : Nat} {pre : List Nat} (h : inP n pre) {i : Nat} (hi : i < pre.length) : pre.getD i 0 < n := by
  rw [List.getD_eq_getElem?_getD, List.getElem?_eq_getElem hi]
  exact h _ (List.getElem_mem hi)
theorem getD_app {pre : List Nat} {y i : Nat} (hi : i < pre.length) : (pre ++ [y]).getD i 0 = pre.getD i 0 := by
  rw [List.getD_eq_getElem?_getD, List.getD_eq_getElem?_getD, List.getElem?_append_left hi]
theorem getD_appE {pre e : List Nat} {i : Nat} (hi : i < pre.length) : (pre ++ e).getD i 0 = pre.getD i 0 := by
  rw [List.getD_eq_getElem?_getD, List.getD_eq_getElem?_getD, List.getElem?_append_left hi]
theorem getD_last {pre : List Nat} {y : Nat} : (pre ++ [y]).getD pre.length 0 = y := by
  rw [List.getD_eq_getElem?_getD, List.getElem?_append_right (Nat.le_refl _), Nat.sub_self]
  rfl
/-- what a search with 'first only' gives -/
def tk (fo : Bool) (L : List (List Nat)) : List (List Nat) := if fo = true then L.take 1 else L
/-- hands from which it can still come to the end -/
def trm (T : TN) (C : Nat → Nat → Bool) : Nat → Nat → Bool
  | 0 => C (tH T)
  | k + 1 => gvB T (trm T C k) (C (tH T - (k + 1))) (tH T - (k + 1))
def acB (T : TN) (C : Nat → Nat → Bool) (i : Nat) : Nat → Bool := trm T C (tH T - i)
theorem acB_h (T : TN) (C : Nat → Nat → Bool) : acB T C (tH T) = C (tH T) := by unfold acB; rw [Nat.sub_self]; rfl
theorem acB_s {T : TN} {C : Nat → Nat → Bool} {i : Nat} (hi : i < tH T) : acB T C i = gvB T (acB T C (i + 1)) (C i) i := by
  unfold acB
  obtain ⟨k, hk⟩ : ∃ k, tH T - i = k + 1 := ⟨tH T - i - 1, by omega⟩
  rw [hk, show tH T - (i + 1) = k by omega]
  show gvB T (trm T C k) (C (tH T - (k + 1))) (tH T - (k + 1)) = _
  rw [show tH T - (k + 1) = i by omega]
theorem acB_sub {T : TN} {C : Nat → Nat → Bool} {i x : Nat} (hi : i ≤ tH T) (h : acB T C i x = true) : C i x = true := by
  by_cases e : i = tH T
  · rw [e, acB_h] at h; rw [e]; exact h
  · rw [acB_s (by omega)] at h
    unfold gvB at h
    simp only [Bool.and_eq_true] at h
    exact h.1
theorem rws_ac {T : TN} {v : Nat} {bk : Bool} {C : Nat → Nat → Bool} : ∀ (k : Nat) (pre : List Nat), 0 < pre.length → pre.length + k = tH T + 1 → rws (tN T) (okC T v bk C) k pre = rws (tN T) (okC T v bk (acB T C)) k pre ∧ (acB T C (pre.length - 1) (pre.getD (pre.length - 1) 0) = false → C (pre.length - 1) (pre.getD (pre.length - 1) 0) = true → rws (tN T) (okC T v bk C) k pre = [])
  | 0, pre, h0, hl => ⟨rfl, fun h1 h2 => by
    rw [show pre.length - 1 = tH T by omega, acB_h] at h1
    rw [show pre.length - 1 = tH T by omega, h1] at h2
    cases h2⟩
  | k + 1, pre, h0, hl => by
    have key : rws (tN T) (okC T v bk C) (k + 1) pre = rws (tN T) (okC T v bk (acB T C)) (k + 1) pre := by
      rw [rws_s, rws_s]
      refine rwp_c (fun y hy => ?_)
      have ih := rws_ac (T := T) (v := v) (bk := bk) (C := C) k (pre ++ [y]) (by simp) (by simp; omega)
      rw [show (pre ++ [y]).length - 1 = pre.length by simp, getD_last] at ih
      unfold rwF okC
      by_cases ho : okB T v bk pre y = true
      · by_cases ha : acB T C pre.length y = true
        · have hc := acB_sub (by omega) ha
          rw [if_pos (by rw [ho, hc]; rfl), if_pos (by rw [ho, ha]; rfl)]
          exact ih.1
        · by_cases hc : C pre.length y = true
          · rw [if_pos (by rw [ho, hc]; rfl), if_neg (by rw [ho]; simpa using ha)]
            exact ih.2 (by simpa using ha) hc
          · rw [if_neg (by rw [ho]; simpa using hc), if_neg (by rw [ho]; simpa using ha)]
      · rw [if_neg (by simp [ho]), if_neg (by simp [ho])]
    refine ⟨key, fun h1 h2 => ?_⟩
    rw [key, rws_s]
    refine rwp_nil (fun y hy => ?_)
    unfold rwF
    rw [if_neg]
    intro h3
    unfold okC okB at h3
    simp only [Bool.and_eq_true] at h3
    have h4 : exB (tN T) (fun y => mayB T (pre.getD (pre.length - 1) 0) y (pre.length - 1) && acB T C (pre.length - 1 + 1) y) = true := exB_iff.mpr ⟨y, hy, by
      rw [show pre.length - 1 + 1 = pre.length by omega]
      simp only [Bool.and_eq_true]
      exact ⟨h3.1.1.1, h3.2⟩⟩
    rw [acB_s (by omega)] at h1
    unfold gvB at h1
    rw [h2, h4] at h1
    cases h1
theorem rws_goal {T : TN} {v : Nat} {bk : Bool} (y : Nat) : ∀ (k : Nat) (pre : List Nat), pre.length + (k + 1) = tH T + 1 → (rws (tN T) (okB T v bk) (k + 1) pre).filter (fun r => r.getD (tH T) 0 == y) = rws (tN T) (okC T v bk (fun i z => i != tH T || z == y)) (k + 1) pre
  | 0, pre, hl => by
    rw [rws_s, rws_s, rwp_filter]
    refine rwp_c (fun z hz => ?_)
    have e : pre.length = tH T := by omega
    unfold rwF okC
    by_cases ho : okB T v bk pre z = true
    · rw [if_pos ho]
      show ([pre ++ [z]] : List (List Nat)).filter _ = _
      rw [List.filter_cons, ← e, getD_last]
      by_cases hz2 : z = y
      · simp [hz2, ho, rws, hz2 ▸ ho]
      · simp [hz2]
    · rw [if_neg ho, if_neg (by simp [ho])]
      rfl
  | k + 1, pre, hl => by
    rw [rws_s, rws_s (ok := okC _ _ _ _), rwp_filter]
    refine rwp_c (fun z hz => ?_)
    have ih := rws_goal (T := T) (v := v) (bk := bk) y k (pre ++ [z]) (by simp; omega)
    have e : (pre.length != tH T || z == y) = true := by
      have : pre.length ≠ tH T := by omega
      simp [this]
    unfold rwF okC
    by_cases ho : okB T v bk pre z = true
    · rw [if_pos ho, if_pos (by simp only [ho, e, Bool.and_self])]
      exact ih
    · rw [if_neg ho, if_neg (by simp [ho])]
      rfl
