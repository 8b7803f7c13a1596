/-! words that ask for care: the nest's links, arrays over classes -/
theorem xi_over_al {t : FieldType} {a a' : Array Value} {U U' : State} (hal : U.vm.Alike U'.vm) (h : (Cond.arrayOver (.array t)).before a U = true) :
    (Cond.arrayOver (.array t)).before a' U' = true := by
  simp only [Cond.before, Cond.holds, Cond.value] at h ⊢
  rw [hal.findClass]
  cases hf : U.vm.findClass (FieldType.array t).toString with
  | none => rw [hf] at h; simp at h
  | some comp =>
    rw [hf] at h
    simp only [Option.bind_some] at h ⊢
    rw [hal.findIdx_congr _ (fun _ _ _ _ => rfl)]
    generalize hF : (U.vm.classes.findIdx? fun (x : Class) => match x.kind with | .array component _ => component == comp | _ => false) = fi at h ⊢
    cases fi with
    | none => simp at h
    | some c =>
      simp only [Option.bind_some] at h ⊢
      cases hk : U.vm.classes[c]? with
      | none => rw [hk] at h; simp at h
      | some k =>
        obtain ⟨k', hk', ek⟩ := hal.2.2 _ _ hk
        rw [hk] at h
        rw [hk', hal.findClass]
        have ekind : k'.kind = k.kind := by rw [ek]
        simp only [Option.map_some] at h ⊢
        rw [ekind]
        exact h
def xi_nw (U : State) : Prop := ∀ w ∈ xi_tb, xi_nst w = true → w.before #[] U = true
theorem xi_nw.warm {s U : State} (hW : s.WarmedH U.vm) (h : xi_nw s) : xi_nw U := by
  intro w hw hn
  have h1 := h w hw hn
  cases w with
  | methodLinkNest a i x hh => exact va_Nw.warmM hW h1
  | fieldLinkNest a i b n d hh => exact va_Nw.warmF hW h1
  | arrayOver ty =>
    cases ty with
    | object C => exact va_AO.moved hW.alike h1
    | array t => exact xi_over_al hW.alike h1
    | _ => simp [Cond.before, Cond.holds, Cond.value] at h1
  | _ => cases hn
theorem xi_nw.same {s U : State} (hv : s.vm = U.vm) (h : xi_nw s) : xi_nw U := by
  intro w hw hn
  have h1 := h w hw hn
  cases w with
  | methodLinkNest a i x hh => exact va_Nw.same rfl hv h1
  | fieldLinkNest a i b n d hh => exact va_Nw.same rfl hv h1
  | arrayOver ty =>
    simp only [Cond.before, Cond.holds, Cond.value] at h1 ⊢
    rw [← hv]
    exact h1
  | _ => cases hn
theorem xi_hts {s : State} {args : Array Value} (h : ∀ w ∈ xi_gw, w.before args s = true) (hn : xi_nw s) : ∀ w ∈ xi_tb, w.before args s = true := by
  intro w hw
  by_cases hg : goodWord w = true
  · exact h w (xi_gw_of hw hg)
  · have hns : xi_nst w = true := by
      have := (List.mem_filter.mp hw).2
      rw [Bool.or_eq_true] at this
      exact this.resolve_left hg
    have h1 := hn w hw hns
    cases w with
    | methodLinkNest a i x hh => exact va_Nw.use rfl h1
    | fieldLinkNest a i b n d hh => exact va_Nw.use rfl h1
    | arrayOver ty => exact h1
    | _ => cases hns
theorem xi_nw_of {s : State} {args : Array Value} (h : ∀ w ∈ xi_tb, w.before args s = true) : xi_nw s := by
  intro w hw hns
  have h1 := h w hw
  cases w with
  | methodLinkNest a i x hh => exact va_Nw.of rfl h1
  | fieldLinkNest a i b n d hh => exact va_Nw.of rfl h1
  | arrayOver ty => exact h1
  | _ => cases hns
theorem xi_ro.narrow {scr : xi_X} {ρ : Nat → Nat} {A B : Nat → Prop} {s : State} {H : Heap} (h : xi_ro scr ρ A s H) (hAB : ∀ q, B q → A q) : xi_ro scr ρ B s H := ⟨h.1.narrow hAB, h.2.1.narrow hAB, h.2.2.1.narrow hAB, h.2.2.2.1.narrow hAB, h.2.2.2.2.narrow hAB⟩
theorem xi_ro.kept {scr : xi_X} {ρ : Nat → Nat} {A : Nat → Prop} {s : State} {H H1 : Heap} (h : xi_ro scr ρ A s H) (hq : ∀ a : Nat, a < H.size → ¬ A a → H1[a]? = H[a]?) : xi_ro scr ρ A s H1 := ⟨h.1.kept hq, h.2.1.kept hq, h.2.2.1.kept hq, h.2.2.2.1.kept hq, h.2.2.2.2.kept hq⟩
theorem xi_ro.moved {scr : xi_X} {ρ : Nat → Nat} {A : Nat → Prop} {s U : State} {H : Heap} (hvm : s.vm.Alike U.vm) (h : xi_ro scr ρ A s H) : xi_ro scr ρ A U H := ⟨h.1.moved hvm, h.2.1.moved hvm, h.2.2.1.moved hvm, h.2.2.2.1.moved hvm, h.2.2.2.2.moved hvm⟩
theorem xi_ro.ext {scr : xi_X} {ρ ρ2 : Nat → Nat} {A : Nat → Prop} {s : State} {H : Heap} (h : xi_ro scr ρ A s H) (hρ : ∀ k, 1000000 ≤ k → ρ2 k = ρ k) : xi_ro scr ρ2 A s H := by
  unfold xi_ro
  rw [hρ 1000000 (by omega), hρ 1000001 (by omega), hρ 1000002 (by omega)]
  exact h
/-- a method's start and end -/
def xi_Pc (D : va_G) (cs : Nat → ClassId) (scr : xi_X) (ρ : Nat → Nat) (S : xi_S) (vs : List Value) (sz : Nat) : Array Value → State → Prop := fun a U => a = (vs.map (xi_cv ρ)).toArray ∧ U.heap.size = sz ∧ va_K D xi_cl (xi_ts cs) U ∧ va_P D xi_cl (xi_ws cs ρ S) U.heap ∧ va_D (va_A (xi_ws cs ρ S) sz) (xi_ws cs ρ S) ∧ xi_ro scr ρ (va_A (xi_ws cs ρ S) sz) U U.heap ∧ xi_nw U
def xi_Qc (D : va_G) (cs : Nat → ClassId) (ρ : Nat → Nat) (S : xi_S) (r : Option Value) (S2 : xi_S) (A : Nat → Prop) : Array Value → State → Outcome → State → Prop := fun _ st oc t => ∃ ρ2 : Nat → Nat, (∀ k, k < S.1.length ∨ 1000000 ≤ k → ρ2 k = ρ k) ∧ oc = .returned (r.map (xi_cv ρ2)) ∧ va_P D xi_cl (xi_ws cs ρ2 S2) t.heap ∧ va_D A (xi_ws cs ρ2 S2) ∧ va_F A st t ∧ xi_wf S2 ∧ (∀ v, r = some v → xi_wv S2.1.length v)
theorem xi_Pc_blind {D : va_G} {cs : Nat → ClassId} {scr : xi_X} {ρ : Nat → Nat} {S : xi_S} {vs : List Value} {sz : Nat} : FrameBlind (xi_Pc D cs scr ρ S vs sz) := fun a U g mk q => ⟨q.1, q.2.1, va_K.moved (u := U) (U := U.calling g mk a) (Vm.Alike.refl U.vm) q.2.2.1, q.2.2.2.1, q.2.2.2.2.1, xi_ro.moved (s := U) (U := U.calling g mk a) (Vm.Alike.refl U.vm) q.2.2.2.2.2.1, xi_nw.same (s := U) (U := U.calling g mk a) rfl q.2.2.2.2.2.2⟩
/-- how a method ends -/
def xi_rt (cc : ByteArray) (ret : Option FieldType) (pc : Nat) (r : Option Value) : Prop := (decode cc pc = .ok (.ireturn, 1) ∧ ∃ v ty, r = some (.int v) ∧ ret = some ty ∧ narrow ty (.int v) = .int v) ∨ (decode cc pc = .ok (.lreturn, 1) ∧ ret = some .long ∧ ∃ v, r = some (.long v)) ∨ (decode cc pc = .ok (.return_, 1) ∧ ret = none ∧ r = none)
/-- the entry's locals -/
theorem xi_av_at (ρ : Nat → Nat) : ∀ (vs : List Value) (k j : Nat) (v : Value), (xi_av vs)[j]? = some (some v) → (k + j, xi_cv ρ v) ∈ lv_args k (vs.map (xi_cv ρ))
  | [], k, j, v, h => by simp [xi_av] at h
  | u :: vs, k, j, v, h => by
    have ih := xi_av_at ρ vs
    have e : xi_av (u :: vs) = (if u.category = 2 then [some u, none] else [some u]) ++ xi_av vs := rfl
    rw [e] at h
    rw [List.map_cons]
    unfold lv_args
    rw [xi_cv_cat]
    by_cases hc : u.category = 2
    · rw [if_pos hc] at h ⊢
      match j, h with
      | 0, h => cases h; exact List.mem_cons_self
      | 1, h => cases h
      | j + 2, h =>
        have h : (xi_av vs)[j]? = some (some v) := h
        have := ih (k + 2) j v h
        rw [show k + (j + 2) = k + 2 + j by omega]
        exact List.mem_cons_of_mem _ this
    · rw [if_neg hc] at h ⊢
      match j, h with
      | 0, h => cases h; exact List.mem_cons_self
      | j + 1, h =>
        have h : (xi_av vs)[j]? = some (some v) := h
        have := ih (k + 1) j v h
        rw [show k + (j + 1) = k + 1 + j by omega]
        exact List.mem_cons_of_mem _ this
theorem xi_av_len (ρ : Nat → Nat) : ∀ vs : List Value, (lg_sl (vs.map (xi_cv ρ))).length = (xi_av vs).length
  | [] => rfl
  | u :: vs => by
    have ih := xi_av_len ρ vs
    have e : xi_av (u :: vs) = (if u.category = 2 then [some u, none] else [some u]) ++ xi_av vs := rfl
    have e2 : lg_sl ((u :: vs).map (xi_cv ρ)) = (if (xi_cv ρ u).category = 2 then [Slot.val (xi_cv ρ u), Slot.second] else [Slot.val (xi_cv ρ u)]) ++ lg_sl (vs.map (xi_cv ρ)) := rfl
    rw [e, e2, xi_cv_cat, List.length_append, List.length_append, ih]
    by_cases hc : u.category = 2 <;> simp [hc]
theorem xi_av_mem : ∀ (vs : List Value) (v : Value), some v ∈ xi_av vs → v ∈ vs
  | [], v, h => by cases h
  | u :: vs, v, h => by
    have e : xi_av (u :: vs) = (if u.category = 2 then [some u, none] else [some u]) ++ xi_av vs := rfl
    rw [e] at h
    rcases List.mem_append.mp h with h | h
    · split at h <;> simp at h <;> rw [h] <;> exact List.mem_cons_self
    · exact List.mem_cons_of_mem _ (xi_av_mem vs v h)
theorem xi_en_lr {ρ : Nat → Nat} {N mL : Nat} {vs : List Value} (hw : xi_wst N vs) (hl : (xi_av vs).length ≤ mL) : xi_lr ρ N (xi_en vs mL) ((lg_sl (vs.map (xi_cv ρ)) ++ List.replicate (mL - (lg_sl (vs.map (xi_cv ρ))).length) Slot.unset).toArray) mL := by
  have hv := lv_entry (vs.map (xi_cv ρ)) (n := mL) (by rw [xi_av_len]; exact hl)
  have hen : ∀ (j : Nat) (v : Value), (xi_en vs mL)[j]? = some (some v) → (xi_av vs)[j]? = some (some v) := fun j v h => by
    unfold xi_en at h
    by_cases hj : j < (xi_av vs).length
    · rw [List.getElem?_append_left hj] at h
      exact h
    · rw [List.getElem?_append_right (by omega), List.getElem?_replicate] at h
      split at h <;> cases h
  refine xi_lr.of (by unfold xi_en; simp; omega) (fun v hm => ?_) hv (fun q hq => ?_)
  · obtain ⟨j, hj⟩ := List.getElem?_of_mem hm
    exact hw v (xi_av_mem vs v (List.mem_of_getElem? (hen j v hj)))
  · obtain ⟨v, h1, h2⟩ := xi_lv_mem.mp hq
    have := xi_av_at ρ vs 0 q.1 v (hen q.1 v h1)
    rw [Nat.zero_add, ← h2] at this
    exact this
theorem xi_split {st : List Value} {k : Nat} {v : Value} (h : st[k]? = some v) : st.take (k + 1) = st.take k ++ [v] ∧ st = st.take k ++ v :: st.drop (k + 1) := by
  have h1 : st.take (k + 1) = st.take k ++ [v] := by rw [List.take_add_one, h]; rfl
  refine ⟨h1, ?_⟩
  have h2 := List.take_append_drop (k + 1) st
  rw [h1, List.append_assoc] at h2
  exact h2.symm
section XIS
variable {p : Program} {l : Launch} {en : Env} {R : Room} {s : State} {m : MethodId} {args : Array Value} {below : List Frame} {meth : Method} {c : Code} {Q : State → Prop} {D : va_G} {cs : Nat → ClassId} {scr : xi_X} {A : Nat → Prop} {nL : Nat} {ρ0 : Nat → Nat} {N0 L0 : Nat} {cc : ByteArray} {pcs : Nat → Nat} {i i2 : Nat} {ls ls2 : xi_L} {st st2 : List Value} {S S2 : xi_S} {nf : List Nat} {k1 : Int32} {k2 : Int64}

/-- behind a call -/
theorem xi_after {a : Array Value} {r : Option Value} {ρ : Nat → Nat} {H : Heap} {locs : List Loc} {cells slots pc : Nat} {lsC : Array Slot} {rest st0 : List Value} (hr : va_Run p l en R s m args below meth c H locs cells slots (S2.1.length - S.1.length) (xi_sz S2 - xi_sz S) (F0 m pc lsC st0) (rest.map (xi_cv ρ)) (xi_Qc D cs ρ S r S2 (va_A (xi_ws cs ρ S) H.size) a) (va_A (xi_ws cs ρ S) H.size))
    (hw : xi_wr D cs scr A s ρ0 N0 L0 cells slots ρ S H locs) (hl : xi_lr ρ S.1.length ls lsC nL) (hs : xi_wst S.1.length rest) (hpre : ∃ ext, S2.1 = S.1 ++ ext) (k : xi_G p l en R s m args below meth c Q D cs scr A nL ρ0 N0 L0 (pc + 3) ls (r.toList ++ rest) S2) : W p l en R s m args below meth c H locs cells slots Q (F0 m pc lsC st0) := by
  intro T hT X
  obtain ⟨v, st₀, t, T', L, h0, X', hL, e1, e2, ⟨ρ2, hρ, ho, hP, hD, hF, hwf, hv⟩, st⟩ := hr T hT X
  obtain ⟨hK0, hP0, hD0, hS0, hA0, hro, hwf0, hρ0, hn, hz⟩ := hw
  obtain ⟨le1, le2⟩ := xi_pre_le hpre
  have hvr : v = r.map (xi_cv ρ2) := by cases ho; rfl
  have hfree : ∀ q, va_A (xi_ws cs ρ S) H.size q → A q := fun q hq => by
    rcases hq with ⟨k9, e9, h9⟩ | hq
    · exact hD0.2 k9 _ h9
    · exact hA0 q (Nat.le_trans hS0.1 hq)
  obtain ⟨hz1, hk1⟩ := hF
  rw [h0] at hz1 hk1
  have hS1 : va_S A s.heap T'.heap (locs ++ L) := ⟨Nat.le_trans hS0.1 (by rw [e1]; exact hz1), fun q h1 h2 => by
    rw [e1, hk1 q (Nat.lt_of_lt_of_le h1 hS0.1) (fun zz => h2 (hfree q zz))]
    exact hS0.2.1 q h1 h2, fun q hq => by
    rcases List.mem_append.mp hq with h | h
    · exact hS0.2.2 q h
    · exact hfree _ (hL q h)⟩
  have kk := k ρ2 T'.heap (locs ++ L) (cells + (S2.1.length - S.1.length)) (slots + (xi_sz S2 - xi_sz S)) lsC ⟨hK0, by rw [e1]; exact hP, hD.weaken (fun _ _ _ h => hfree _ h), hS1, hA0, hro, hwf, fun a ha => by rw [hρ a (by omega)]; exact hρ0 a ha, by omega, by omega⟩ (hl.ext le1 hρ) (by
    intro x hx
    rcases List.mem_append.mp hx with h | h
    · cases r with
      | none => cases h
      | some y =>
        have : x = y := by simpa using h
        rw [this]
        exact hv y rfl
    · exact (hs x h).mono le1)
  obtain ⟨t2, a1, b1⟩ := kk T' rfl X'
  refine ⟨t2, st t2 ?_, b1⟩
  have e3 : v.toList ++ rest.map (xi_cv ρ) = (r.toList ++ rest).map (xi_cv ρ2) := by
    rw [hvr, List.map_append, xi_cv_map hρ hs]
    cases r <;> rfl
  show Steps p.tables en below (T'.setTop (F0 m (pc + 3) lsC (v.toList ++ rest.map (xi_cv ρ)))) t2
  rw [e3]
  exact a1
/-- before a call -/
theorem xi_before {ρ : Nat → Nat} {H : Heap} {locs : List Loc} {cells slots : Nat} {vs : List Value} (hnw : xi_nw s) (hw : xi_wr D cs scr A s ρ0 N0 L0 cells slots ρ S H locs) : ∀ U : State, U.heap = H → s.WarmedH U.vm → xi_Pc D cs scr ρ S vs H.size (vs.map (xi_cv ρ)).toArray U := by
  intro U hU hW
  obtain ⟨hK0, hP0, hD0, hS0, hA0, hro, hwf0, hρ0, hn, hz⟩ := hw
  have hfree : ∀ q, va_A (xi_ws cs ρ S) H.size q → A q := fun q hq => by
    rcases hq with ⟨k9, e9, h9⟩ | hq
    · exact hD0.2 k9 _ h9
    · exact hA0 q (Nat.le_trans hS0.1 hq)
  refine ⟨rfl, by rw [hU], va_K.moved hW.alike hK0, by rw [hU]; exact hP0, hD0.self, ?_, hnw.warm hW⟩
  have h1 : xi_ro scr ρ A s H := (hro.kept (H1 := H) (fun a h1 h2 => hS0.2.1 a h1 h2)).ext (fun k hk => hρ0 k (Or.inr hk))
  rw [hU]
  exact (h1.narrow hfree).moved hW.alike
end XIS
