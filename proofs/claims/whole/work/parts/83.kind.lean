/-! WHAT KIND of value a method answers -/
def oI (e : xi_E) : Bool := match e.1 with
  | .lreturn => false
  | .return_ => false
  | _ => true
def oIs (code : List xi_E) : Bool := code.all oI
theorem xr_one_I {scr : xi_X} {go : xr_Go} {code : List xi_E} (hall : oIs code = true) (hle : ∀ d i ls st S x, go d code i ls st S = some x → ∃ v, x.1 = some (.int v)) {d : Nat} {i : Nat} {ls : xi_L} {st : List Value} {S : xi_S} {x : Option Value × xi_S} (h : xi_one xi_pg scr go d code i ls st S = some x) : ∃ v, x.1 = some (.int v) := by
  unfold xi_one at h
  cases hc : code[i]? with
  | none => rw [hc] at h; cases h
  | some e =>
    have he : oI e = true := List.all_eq_true.mp hall e (List.mem_of_getElem? hc)
    rw [hc] at h
    simp only at h
    have hgen : ∀ z : xi_R, (match z with | some (i2, ls2, st2, S2) => go d code i2 ls2 st2 S2 | none => none) = some x → ∃ v, x.1 = some (.int v) := fun z h => by
      cases z with
      | none => cases h
      | some w => exact hle _ _ _ _ _ _ h
    have hcal : ∀ e2 : xi_E, xi_cal xi_pg d e2 st S (fun d2 c2 l2 S2 => go d2 c2 0 l2 [] S2) (fun st2 S2 => go d code (i + 1) ls st2 S2) = some x → ∃ v, x.1 = some (.int v) := fun e2 h => by
      obtain ⟨d2, mL, na, c2, rv, S2, rfl, h1, h2, h3, h4, h5, h6, h7, h8⟩ := xi_cal_of h
      exact hle _ _ _ _ _ _ h8
    have hstep := hgen (xi_stp scr e i ls st S)
    obtain ⟨con, nf, k1, k2⟩ := e
    cases con with
    | goto off => exact hle _ _ _ _ _ _ h
    | ifCond cd off =>
      rcases st with _ | ⟨v, r⟩
      · cases h
      · cases v with
        | int y =>
          cases cd <;> (simp only at h; split at h) <;> exact hle _ _ _ _ _ _ h
        | _ => cases h
    | if_icmp cd off =>
      rcases st with _ | ⟨v, _ | ⟨u, r⟩⟩
      · cases h
      · cases v <;> cases h
      · cases v with
        | int y =>
          cases u with
          | int y2 =>
            cases cd <;> (simp only at h; split at h) <;> exact hle _ _ _ _ _ _ h
          | _ => cases h
        | _ => cases u <;> cases h
    | tableswitch a b c d =>
      simp only at h
      split at h
      · split at h
        · exact hle _ _ _ _ _ _ h
        · split at h
          · exact hle _ _ _ _ _ _ h
          · cases h
      · cases h
    | ireturn =>
      simp only at h
      split at h
      · split at h
        · cases h
        · cases h; exact ⟨_, rfl⟩
      · cases h
    | lreturn => cases he
    | return_ => cases he
    | invokevirtual k => exact hcal _ h
    | invokestatic k =>
      cases nf with
      | nil => exact hgen (xi_cpy i ls st S) h
      | cons a t =>
        cases t with
        | nil => exact hgen (xi_mm a i ls st S) h
        | cons b u => exact hcal _ h
    | invokespecial k =>
      cases nf with
      | nil => exact hgen (xi_oin i ls st S) h
      | cons a t => exact hcal _ h
    | _ => exact hstep h
theorem xr_I {scr : xi_X} {code : List xi_E} (hall : oIs code = true) : ∀ (n : Nat) (d i : Nat) (ls : xi_L) (st : List Value) (S : xi_S) (x : Option Value × xi_S), xi_ex xi_pg scr n d code i ls st S = some x → ∃ v, x.1 = some (.int v)
  | 0, _, _, _, _, _, _, h => by cases h
  | n + 1, d, i, ls, st, S, x, h => xr_one_I hall (xr_I hall n) h
theorem xr_wI {scr : xi_X} {d : Nat} {code : List xi_E} {i : Nat} {ls : xi_L} {st : List Value} {S : xi_S} {Q Q2 : Option Value → xi_S → Prop} (hall : oIs code = true) (h : xr scr d code i ls st S Q) (hq : ∀ v S2, Q (some (.int v)) S2 → Q2 (some (.int v)) S2) : xr scr d code i ls st S Q2 := by
  obtain ⟨n, r, S2, h1, h2⟩ := h
  obtain ⟨v, hv⟩ := xr_I hall n d i ls st S (r, S2) h1
  have hv2 : r = some (.int v) := hv
  subst hv2
  exact ⟨n, _, S2, h1, hq v S2 h2⟩
def oJ (e : xi_E) : Bool := match e.1 with
  | .ireturn => false
  | .return_ => false
  | _ => true
def oJs (code : List xi_E) : Bool := code.all oJ
theorem xr_one_J {scr : xi_X} {go : xr_Go} {code : List xi_E} (hall : oJs code = true) (hle : ∀ d i ls st S x, go d code i ls st S = some x → ∃ v, x.1 = some (.long v)) {d : Nat} {i : Nat} {ls : xi_L} {st : List Value} {S : xi_S} {x : Option Value × xi_S} (h : xi_one xi_pg scr go d code i ls st S = some x) : ∃ v, x.1 = some (.long v) := by
  unfold xi_one at h
  cases hc : code[i]? with
  | none => rw [hc] at h; cases h
  | some e =>
    have he : oJ e = true := List.all_eq_true.mp hall e (List.mem_of_getElem? hc)
    rw [hc] at h
    simp only at h
    have hgen : ∀ z : xi_R, (match z with | some (i2, ls2, st2, S2) => go d code i2 ls2 st2 S2 | none => none) = some x → ∃ v, x.1 = some (.long v) := fun z h => by
      cases z with
      | none => cases h
      | some w => exact hle _ _ _ _ _ _ h
    have hcal : ∀ e2 : xi_E, xi_cal xi_pg d e2 st S (fun d2 c2 l2 S2 => go d2 c2 0 l2 [] S2) (fun st2 S2 => go d code (i + 1) ls st2 S2) = some x → ∃ v, x.1 = some (.long v) := fun e2 h => by
      obtain ⟨d2, mL, na, c2, rv, S2, rfl, h1, h2, h3, h4, h5, h6, h7, h8⟩ := xi_cal_of h
      exact hle _ _ _ _ _ _ h8
    have hstep := hgen (xi_stp scr e i ls st S)
    obtain ⟨con, nf, k1, k2⟩ := e
    cases con with
    | goto off => exact hle _ _ _ _ _ _ h
    | ifCond cd off =>
      rcases st with _ | ⟨v, r⟩
      · cases h
      · cases v with
        | int y =>
          cases cd <;> (simp only at h; split at h) <;> exact hle _ _ _ _ _ _ h
        | _ => cases h
    | if_icmp cd off =>
      rcases st with _ | ⟨v, _ | ⟨u, r⟩⟩
      · cases h
      · cases v <;> cases h
      · cases v with
        | int y =>
          cases u with
          | int y2 =>
            cases cd <;> (simp only at h; split at h) <;> exact hle _ _ _ _ _ _ h
          | _ => cases h
        | _ => cases u <;> cases h
    | tableswitch a b c d =>
      simp only at h
      split at h
      · split at h
        · exact hle _ _ _ _ _ _ h
        · split at h
          · exact hle _ _ _ _ _ _ h
          · cases h
      · cases h
    | lreturn =>
      simp only at h
      split at h
      · cases h; exact ⟨_, rfl⟩
      · cases h
    | ireturn => cases he
    | return_ => cases he
    | invokevirtual k => exact hcal _ h
    | invokestatic k =>
      cases nf with
      | nil => exact hgen (xi_cpy i ls st S) h
      | cons a t =>
        cases t with
        | nil => exact hgen (xi_mm a i ls st S) h
        | cons b u => exact hcal _ h
    | invokespecial k =>
      cases nf with
      | nil => exact hgen (xi_oin i ls st S) h
      | cons a t => exact hcal _ h
    | _ => exact hstep h
theorem xr_J {scr : xi_X} {code : List xi_E} (hall : oJs code = true) : ∀ (n : Nat) (d i : Nat) (ls : xi_L) (st : List Value) (S : xi_S) (x : Option Value × xi_S), xi_ex xi_pg scr n d code i ls st S = some x → ∃ v, x.1 = some (.long v)
  | 0, _, _, _, _, _, _, h => by cases h
  | n + 1, d, i, ls, st, S, x, h => xr_one_J hall (xr_J hall n) h
theorem xr_wJ {scr : xi_X} {d : Nat} {code : List xi_E} {i : Nat} {ls : xi_L} {st : List Value} {S : xi_S} {Q Q2 : Option Value → xi_S → Prop} (hall : oJs code = true) (h : xr scr d code i ls st S Q) (hq : ∀ v S2, Q (some (.long v)) S2 → Q2 (some (.long v)) S2) : xr scr d code i ls st S Q2 := by
  obtain ⟨n, r, S2, h1, h2⟩ := h
  obtain ⟨v, hv⟩ := xr_J hall n d i ls st S (r, S2) h1
  have hv2 : r = some (.long v) := hv
  subst hv2
  exact ⟨n, _, S2, h1, hq v S2 h2⟩
