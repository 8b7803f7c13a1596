/-! the store as cells of the machine -/
def xi_cv (ρ : Nat → Nat) (v : Value) : Value := match v with
  | .ref k => .ref (ρ k)
  | v => v
theorem xi_cv_cat (ρ : Nat → Nat) (v : Value) : (xi_cv ρ v).category = v.category := by cases v <;> rfl
theorem xi_cv_rf (ρ : Nat → Nat) (r : Option Nat) : xi_cv ρ (va_rf r) = va_rf (r.map ρ) := by cases r <;> rfl
theorem xi_cv_sum (ρ : Nat → Nat) (st : List Value) : ((st.map (xi_cv ρ)).map fun v => v.category).sum = (st.map fun v => v.category).sum := by
  rw [List.map_map]
  congr 1
  apply List.map_congr_left
  intro v _
  exact xi_cv_cat ρ v
def xi_fs (ρ : Nat → Nat) (S : xi_S) (k t : Nat) : List Value := (List.range (xi_nf t)).map (fun j => xi_cv ρ (xi_gv S k j (xi_kd t j)))
def xi_ec (cs : Nat → ClassId) (ρ : Nat → Nat) (S : xi_S) (k : Nat) (q : Nat × Nat) : va_E :=
  if q.1 < 9 then .inr (q.1, xi_fs ρ S k q.1) else .inl (cs q.1, q.2, if q.1 < 11 then .inl (S.2.1 k) else if q.1 = 11 then .inr (.inl (S.2.2.1 k)) else .inr (.inr (.inr (.inr (fun j => (S.2.2.2 k j).map ρ)))))
def xi_ws (cs : Nat → ClassId) (ρ : Nat → Nat) (S : xi_S) : va_W := S.1.mapIdx (fun k q => (ρ k, xi_ec cs ρ S k q))
theorem xi_ws_at {cs : Nat → ClassId} {ρ : Nat → Nat} {S : xi_S} {k : Nat} {q : Nat × Nat} (h : S.1[k]? = some q) : (xi_ws cs ρ S)[k]? = some (ρ k, xi_ec cs ρ S k q) := by
  unfold xi_ws
  rw [List.getElem?_mapIdx, h]
  rfl
theorem xi_ws_of {cs : Nat → ClassId} {ρ : Nat → Nat} {S : xi_S} {k : Nat} {x : Nat × va_E} (h : (xi_ws cs ρ S)[k]? = some x) : ∃ q, S.1[k]? = some q ∧ x = (ρ k, xi_ec cs ρ S k q) := by
  unfold xi_ws at h
  rw [List.getElem?_mapIdx] at h
  cases hq : S.1[k]? with
  | none => rw [hq] at h; cases h
  | some q => rw [hq] at h; cases h; exact ⟨q, rfl, rfl⟩
theorem xi_ec_o {cs : Nat → ClassId} {ρ : Nat → Nat} {S : xi_S} {k t n : Nat} (h : t < 9) : xi_ec cs ρ S k (t, n) = .inr (t, xi_fs ρ S k t) := by simp [xi_ec, h]
theorem xi_ec_i {cs : Nat → ClassId} {ρ : Nat → Nat} {S : xi_S} {k t n : Nat} (h : 9 ≤ t) (h2 : t < 11) : xi_ec cs ρ S k (t, n) = .inl (cs t, n, .inl (S.2.1 k)) := by simp [xi_ec, h2, show ¬ t < 9 by omega]
theorem xi_ec_l {cs : Nat → ClassId} {ρ : Nat → Nat} {S : xi_S} {k n : Nat} : xi_ec cs ρ S k (11, n) = .inl (cs 11, n, .inr (.inl (S.2.2.1 k))) := by simp [xi_ec]
theorem xi_ec_r {cs : Nat → ClassId} {ρ : Nat → Nat} {S : xi_S} {k t n : Nat} (h : 12 ≤ t) : xi_ec cs ρ S k (t, n) = .inl (cs t, n, .inr (.inr (.inr (.inr (fun j => (S.2.2.2 k j).map ρ))))) := by simp [xi_ec, show ¬ t < 9 by omega, show ¬ t < 11 by omega, show ¬ t = 11 by omega]
theorem xi_ec_eq {cs : Nat → ClassId} {ρ ρ2 : Nat → Nat} {S S2 : xi_S} {k : Nat} (h1 : S2.2.1 k = S.2.1 k) (h2 : S2.2.2.1 k = S.2.2.1 k) (h3 : S2.2.2.2 k = S.2.2.2 k) (h4 : ∀ j r, S.2.2.2 k j = some r → ρ2 r = ρ r) (q : Nat × Nat) : xi_ec cs ρ2 S2 k q = xi_ec cs ρ S k q := by
  have hr : ∀ j, (S.2.2.2 k j).map ρ2 = (S.2.2.2 k j).map ρ := fun j => by
    cases hh : S.2.2.2 k j with
    | none => rfl
    | some r => simp [h4 j r hh]
  have hg : ∀ j f, xi_cv ρ2 (xi_gv S2 k j f) = xi_cv ρ (xi_gv S k j f) := fun j f => by
    unfold xi_gv
    rw [h1, h2, h3]
    split
    · rfl
    · rfl
    · rfl
    · rw [xi_cv_rf, xi_cv_rf, hr j]
  unfold xi_ec xi_fs
  simp only [h1, h2, h3, hg, hr]
theorem xi_ws_set {cs : Nat → ClassId} {ρ : Nat → Nat} {S S2 : xi_S} {k : Nat} {q : Nat × Nat} (hs : S2.1 = S.1) (h : S.1[k]? = some q) (h1 : ∀ a, a ≠ k → S2.2.1 a = S.2.1 a) (h2 : ∀ a, a ≠ k → S2.2.2.1 a = S.2.2.1 a) (h3 : ∀ a, a ≠ k → S2.2.2.2 a = S.2.2.2 a) : xi_ws cs ρ S2 = (xi_ws cs ρ S).set k (ρ k, xi_ec cs ρ S2 k q) := by
  apply List.ext_getElem?
  intro n
  rw [List.getElem?_set]
  unfold xi_ws
  rw [List.getElem?_mapIdx, List.getElem?_mapIdx, hs, List.length_mapIdx]
  by_cases hn : k = n
  · subst hn
    have hl := (List.getElem?_eq_some_iff.mp h).1
    rw [if_pos rfl, if_pos hl, h]
    rfl
  · rw [if_neg hn]
    cases hq : S.1[n]? with
    | none => rfl
    | some x => simp only [Option.map_some]; rw [xi_ec_eq (h1 n (fun e => hn e.symm)) (h2 n (fun e => hn e.symm)) (h3 n (fun e => hn e.symm)) (fun _ _ _ => rfl)]
theorem xi_up_ne {α : Type} {f : Nat → Nat → α} {k j : Nat} {v : α} {a : Nat} (h : a ≠ k) : xi_up f k j v a = f a := by simp [xi_up, h]
theorem xi_up_at {α : Type} {f : Nat → Nat → α} {k j : Nat} {v : α} (b : Nat) : xi_up f k j v k b = if b = j then v else f k b := by simp [xi_up]
theorem xi_ua_ne {α : Type} {f : Nat → Nat → α} {k : Nat} {g : Nat → α} {a : Nat} (h : a ≠ k) : xi_ua f k g a = f a := by simp [xi_ua, h]
theorem xi_ua_at {α : Type} {f : Nat → Nat → α} {k : Nat} {g : Nat → α} : xi_ua f k g k = g := by simp [xi_ua]
theorem xi_fs_len {ρ : Nat → Nat} {S : xi_S} {k t : Nat} : (xi_fs ρ S k t).length = xi_nf t := by simp [xi_fs]
theorem xi_fs_at {ρ : Nat → Nat} {S : xi_S} {k t j : Nat} (h : j < xi_nf t) : (xi_fs ρ S k t)[j]? = some (xi_cv ρ (xi_gv S k j (xi_kd t j))) := by
  unfold xi_fs
  rw [List.getElem?_map, List.getElem?_range h]
  rfl
/-- one field changed -/
theorem xi_fs_set {ρ : Nat → Nat} {S S2 : xi_S} {k t j : Nat} {v : Value} (h : j < xi_nf t) (hv : xi_cv ρ (xi_gv S2 k j (xi_kd t j)) = v) (ho : ∀ b, b ≠ j → S2.2.1 k b = S.2.1 k b ∧ S2.2.2.1 k b = S.2.2.1 k b ∧ S2.2.2.2 k b = S.2.2.2 k b) : xi_fs ρ S2 k t = (xi_fs ρ S k t).set j v := by
  apply List.ext_getElem?
  intro n
  rw [List.getElem?_set, xi_fs_len]
  by_cases hn : j = n
  · subst hn
    rw [if_pos rfl, if_pos h, xi_fs_at h, hv]
  · rw [if_neg hn]
    by_cases hl : n < xi_nf t
    · rw [xi_fs_at hl, xi_fs_at hl]
      obtain ⟨e1, e2, e3⟩ := ho n (fun e => hn e.symm)
      unfold xi_gv
      rw [e1, e2, e3]
    · rw [List.getElem?_eq_none (by rw [xi_fs_len]; omega), List.getElem?_eq_none (by rw [xi_fs_len]; omega)]
/-- references stay within -/
def xi_wf (S : xi_S) : Prop := ∀ k j r, k < S.1.length → S.2.2.2 k j = some r → r < S.1.length
def xi_wv (N : Nat) (v : Value) : Prop := match v with
  | .ref k => k < N ∨ 1000000 ≤ k
  | .double _ => False
  | _ => True
def xi_wst (N : Nat) (st : List Value) : Prop := ∀ v ∈ st, xi_wv N v
def xi_wls (N : Nat) (ls : xi_L) : Prop := ∀ v, some v ∈ ls → xi_wv N v
theorem xi_wv.mono {N N2 : Nat} (h : N ≤ N2) {v : Value} (hv : xi_wv N v) : xi_wv N2 v := by
  cases v with
  | ref k => exact (show k < N ∨ 1000000 ≤ k from hv).elim (fun h1 => Or.inl (Nat.lt_of_lt_of_le h1 h)) Or.inr
  | _ => exact hv
theorem xi_wst.mono {N N2 : Nat} (h : N ≤ N2) {st : List Value} (hv : xi_wst N st) : xi_wst N2 st := fun v hm => (hv v hm).mono h
theorem xi_wls.mono {N N2 : Nat} (h : N ≤ N2) {st : xi_L} (hv : xi_wls N st) : xi_wls N2 st := fun v hm => (hv v hm).mono h
theorem xi_wst.cons {N : Nat} {v : Value} {st : List Value} (h : xi_wv N v) (hs : xi_wst N st) : xi_wst N (v :: st) := by
  intro x hx
  rcases List.mem_cons.mp hx with rfl | hx
  · exact h
  · exact hs x hx
theorem xi_wst.tail {N : Nat} {v : Value} {st : List Value} (hs : xi_wst N (v :: st)) : xi_wst N st := fun x hx => hs x (List.mem_cons_of_mem _ hx)
theorem xi_wst.head {N : Nat} {v : Value} {st : List Value} (hs : xi_wst N (v :: st)) : xi_wv N v := hs v List.mem_cons_self
theorem xi_cv_eq {N : Nat} {ρ ρ2 : Nat → Nat} (h : ∀ k, k < N ∨ 1000000 ≤ k → ρ2 k = ρ k) {v : Value} (hv : xi_wv N v) : xi_cv ρ2 v = xi_cv ρ v := by
  cases v <;> simp_all [xi_cv, xi_wv]
theorem xi_cv_map {N : Nat} {ρ ρ2 : Nat → Nat} (h : ∀ k, k < N ∨ 1000000 ≤ k → ρ2 k = ρ k) {st : List Value} (hv : xi_wst N st) : st.map (xi_cv ρ2) = st.map (xi_cv ρ) := List.map_congr_left fun v hm => xi_cv_eq h (hv v hm)
/-- the locals -/
def xi_lr (ρ : Nat → Nat) (N : Nat) (ls : xi_L) (lsC : Array Slot) (nL : Nat) : Prop := ls.length = nL ∧ lsC.size = nL ∧ lv_wf lsC ∧ xi_wls N ls ∧ ∀ (j : Nat) (v : Value), ls[j]? = some (some v) → lsC[j]? = some (Slot.val (xi_cv ρ v))
def xi_lv (ρ : Nat → Nat) (ls : xi_L) : List (Nat × Value) := (List.range ls.length).filterMap (fun j => match ls[j]? with
  | some (some v) => some (j, xi_cv ρ v)
  | _ => none)
theorem xi_lv_mem {ρ : Nat → Nat} {ls : xi_L} {q : Nat × Value} : q ∈ xi_lv ρ ls ↔ ∃ v, ls[q.1]? = some (some v) ∧ q.2 = xi_cv ρ v := by
  unfold xi_lv
  rw [List.mem_filterMap]
  constructor
  · rintro ⟨j, -, h⟩
    split at h
    · next v hv => cases h; exact ⟨v, hv, rfl⟩
    · cases h
  · rintro ⟨v, hv, h2⟩
    refine ⟨q.1, List.mem_range.mpr (List.getElem?_eq_some_iff.mp hv).1, ?_⟩
    rw [hv]
    show some (q.1, xi_cv ρ v) = some q
    rw [← h2]
theorem xi_lr.has {ρ : Nat → Nat} {N : Nat} {ls : xi_L} {lsC : Array Slot} {nL : Nat} (h : xi_lr ρ N ls lsC nL) : lv_has lsC nL (xi_lv ρ ls) := by
  refine ⟨h.2.1, h.2.2.1, fun q hq => ?_⟩
  obtain ⟨v, hv, h2⟩ := xi_lv_mem.mp hq
  rw [h2]
  exact h.2.2.2.2 q.1 v hv
theorem xi_lr.of {ρ : Nat → Nat} {N : Nat} {ls : xi_L} {lsC : Array Slot} {nL : Nat} {lv : List (Nat × Value)} (hn : ls.length = nL) (hw : xi_wls N ls) (h : lv_has lsC nL lv) (hm : ∀ q ∈ xi_lv ρ ls, q ∈ lv) : xi_lr ρ N ls lsC nL :=
  ⟨hn, h.1, h.2.1, hw, fun j v hv => h.2.2 (j, xi_cv ρ v) (hm _ (xi_lv_mem.mpr ⟨v, hv, rfl⟩))⟩
theorem xi_sl_len (ls : xi_L) (k : Nat) (v : Value) : (xi_sl ls k v).length = ls.length := by
  unfold xi_sl
  split
  · simp
  · split <;> simp
theorem xi_sl_at {ls : xi_L} {k : Nat} {v : Value} {j : Nat} {u : Value} (h : (xi_sl ls k v)[j]? = some (some u)) : (j = k ∧ u = v) ∨ (j ≠ k ∧ ls[j]? = some (some u) ∧ ¬ (j + 1 = k ∧ u.category = 2 ∧ ∃ z, u = .long z)) := by
  unfold xi_sl at h
  split at h
  · rw [List.getElem?_set] at h
    by_cases hj : 0 = j
    · subst hj
      simp at h
      exact Or.inl ⟨rfl, h.2.symm⟩
    · rw [if_neg hj] at h
      exact Or.inr ⟨fun e => hj e.symm, h, fun e => by omega⟩
  · next k =>
    split at h
    · next z hz =>
      rw [List.getElem?_set, List.getElem?_set] at h
      by_cases hj : k + 1 = j
      · subst hj
        simp at h
        exact Or.inl ⟨rfl, h.2.symm⟩
      · rw [if_neg hj] at h
        by_cases hj2 : k = j
        · rw [if_pos hj2] at h
          split at h <;> cases h
        · rw [if_neg hj2] at h
          exact Or.inr ⟨fun e => hj e.symm, h, fun e => by omega⟩
    · next hz =>
      rw [List.getElem?_set] at h
      by_cases hj : k + 1 = j
      · subst hj
        simp at h
        exact Or.inl ⟨rfl, h.2.symm⟩
      · rw [if_neg hj] at h
        refine Or.inr ⟨fun e => hj e.symm, h, ?_⟩
        rintro ⟨e, -, z, rfl⟩
        have : j = k := by omega
        subst this
        exact hz z h
