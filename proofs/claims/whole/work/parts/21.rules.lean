/-! THE PURE RUN: xr, and a rule for each instruction -/
def xr (scr : xi_X) (d : Nat) (code : List xi_E) (i : Nat) (ls : xi_L) (st : List Value) (S : xi_S) (Q : Option Value → xi_S → Prop) : Prop := ∃ (n : Nat) (r : Option Value) (S2 : xi_S), xi_ex xi_pg scr n d code i ls st S = some (r, S2) ∧ Q r S2
abbrev xr_Go : Type := Nat → List xi_E → Nat → xi_L → List Value → xi_S → Option (Option Value × xi_S)
theorem xr_cal_le {go go2 : xr_Go} (hle : ∀ d code i ls st S x, go d code i ls st S = some x → go2 d code i ls st S = some x) {d : Nat} {code : List xi_E} {i : Nat} {ls : xi_L} {e : xi_E} {st : List Value} {S : xi_S} {x : Option Value × xi_S} (h : xi_cal xi_pg d e st S (fun d2 c2 l2 S2 => go d2 c2 0 l2 [] S2) (fun st2 S2 => go d code (i + 1) ls st2 S2) = some x) : xi_cal xi_pg d e st S (fun d2 c2 l2 S2 => go2 d2 c2 0 l2 [] S2) (fun st2 S2 => go2 d code (i + 1) ls st2 S2) = some x := by
  obtain ⟨d2, mL, na, c2, rv, S2, rfl, h1, h2, h3, h4, h5, h6, h7, h8⟩ := xi_cal_of h
  simp only [xi_cal, h1]
  rw [if_pos ⟨h2, h3, h4, h5, h6⟩, hle _ _ _ _ _ _ _ h7]
  exact hle _ _ _ _ _ _ _ h8
set_option maxHeartbeats 4000000 in
theorem xr_one_le {scr : xi_X} {go go2 : xr_Go} (hle : ∀ d code i ls st S x, go d code i ls st S = some x → go2 d code i ls st S = some x) {d : Nat} {code : List xi_E} {i : Nat} {ls : xi_L} {st : List Value} {S : xi_S} {x : Option Value × xi_S} (h : xi_one xi_pg scr go d code i ls st S = some x) : xi_one xi_pg scr go2 d code i ls st S = some x := by
  unfold xi_one at h ⊢
  cases hc : code[i]? with
  | none => rw [hc] at h; cases h
  | some e =>
    rw [hc] at h
    simp only at h ⊢
    have hgen : ∀ z : xi_R, (match z with | some (i2, ls2, st2, S2) => go d code i2 ls2 st2 S2 | none => none) = some x → (match z with | some (i2, ls2, st2, S2) => go2 d code i2 ls2 st2 S2 | none => none) = some x := fun z h => by
      cases z with
      | none => cases h
      | some w => exact hle _ _ _ _ _ _ _ h
    have hstep := hgen (xi_stp scr e i ls st S)
    obtain ⟨con, nf, k1, k2⟩ := e
    cases con with
    | goto off => exact hle _ _ _ _ _ _ _ h
    | ifCond cd off =>
      rcases st with _ | ⟨v, r⟩
      · cases h
      · cases v with
        | int y =>
          cases cd <;> (simp only at h ⊢; split at h) <;> rename_i hh <;> (first | rw [if_pos hh] | rw [if_neg hh]) <;> exact hle _ _ _ _ _ _ _ h
        | _ => cases h
    | if_icmp cd off =>
      rcases st with _ | ⟨v, _ | ⟨u, r⟩⟩
      · cases h
      · cases v <;> cases h
      · cases v with
        | int y =>
          cases u with
          | int y2 =>
            cases cd <;> (simp only at h ⊢; split at h) <;> rename_i hh <;> (first | rw [if_pos hh] | rw [if_neg hh]) <;> exact hle _ _ _ _ _ _ _ h
          | _ => cases h
        | _ => cases u <;> cases h
    | tableswitch a b c d =>
      simp only at h ⊢
      split at h
      · split at h
        · next hh => rw [if_pos hh]; exact hle _ _ _ _ _ _ _ h
        · next hh =>
          rw [if_neg hh]
          split at h
          · exact hle _ _ _ _ _ _ _ h
          · cases h
      · cases h
    | ireturn => exact h
    | lreturn => exact h
    | return_ => exact h
    | invokevirtual k => exact xr_cal_le hle h
    | invokestatic k =>
      cases nf with
      | nil => exact hgen (xi_cpy i ls st S) h
      | cons a t =>
        cases t with
        | nil => exact hgen (xi_mm a i ls st S) h
        | cons b u => exact xr_cal_le hle h
    | invokespecial k =>
      cases nf with
      | nil => exact hgen (xi_oin i ls st S) h
      | cons a t => exact xr_cal_le hle h
    | _ => exact hstep h
theorem xr_mono {scr : xi_X} : ∀ (n : Nat) (d : Nat) (code : List xi_E) (i : Nat) (ls : xi_L) (st : List Value) (S : xi_S) (x : Option Value × xi_S), xi_ex xi_pg scr n d code i ls st S = some x → xi_ex xi_pg scr (n + 1) d code i ls st S = some x
  | 0, _, _, _, _, _, _, _, h => by cases h
  | n + 1, d, code, i, ls, st, S, x, h => xr_one_le (xr_mono n) h
theorem xr_le {scr : xi_X} {n m : Nat} (h : n ≤ m) {d : Nat} {code : List xi_E} {i : Nat} {ls : xi_L} {st : List Value} {S : xi_S} {x : Option Value × xi_S} (hx : xi_ex xi_pg scr n d code i ls st S = some x) : xi_ex xi_pg scr m d code i ls st S = some x := by
  induction h with
  | refl => exact hx
  | step _ ih => exact xr_mono _ _ _ _ _ _ _ _ ih
section XR
variable {scr : xi_X} {d : Nat} {code : List xi_E} {i i2 i3 : Nat} {ls ls2 : xi_L} {st st2 : List Value} {S S2 : xi_S} {Q : Option Value → xi_S → Prop}
theorem xr_eq : xr scr d code i ls st S Q = ∃ (n : Nat) (r : Option Value) (S2 : xi_S), xi_one xi_pg scr (xi_ex xi_pg scr n) d code i ls st S = some (r, S2) ∧ Q r S2 := propext ⟨fun ⟨n, r, S2, h, q⟩ => by
    cases n with
    | zero => cases h
    | succ n => exact ⟨n, r, S2, h, q⟩, fun ⟨n, r, S2, h, q⟩ => ⟨n + 1, r, S2, h, q⟩⟩
theorem xr_go (h : ∀ go : xr_Go, xi_one xi_pg scr go d code i ls st S = go d code i2 ls2 st2 S2) : xr scr d code i ls st S Q = xr scr d code i2 ls2 st2 S2 Q := by
  rw [xr_eq]
  simp only [h]
  rfl
theorem xr_if {c : Prop} [Decidable c] (h : ∀ go : xr_Go, xi_one xi_pg scr go d code i ls st S = if c then go d code i2 ls2 st2 S2 else go d code i3 ls2 st2 S2) : xr scr d code i ls st S Q = if c then xr scr d code i2 ls2 st2 S2 Q else xr scr d code i3 ls2 st2 S2 Q := by
  rw [xr_eq]
  simp only [h]
  by_cases hc : c
  · simp only [if_pos hc]
    rfl
  · simp only [if_neg hc]
    rfl
theorem xr_ret {r : Option Value} (h : ∀ go : xr_Go, xi_one xi_pg scr go d code i ls st S = some (r, S2)) : xr scr d code i ls st S Q = Q r S2 := by
  rw [xr_eq]
  simp only [h]
  exact propext ⟨fun ⟨n, r2, S3, h, q⟩ => by cases h; exact q, fun q => ⟨0, r, S2, rfl, q⟩⟩
theorem xr_call {d2 : Nat} {c2 : List xi_E} {l2 : xi_L} (h : ∀ go : xr_Go, xi_one xi_pg scr go d code i ls st S = match go d2 c2 0 l2 [] S with
    | some (rv, S2) => go d code (i + 1) ls (rv.toList ++ st2) S2
    | none => none) : xr scr d code i ls st S Q = xr scr d2 c2 0 l2 [] S (fun rv S2 => xr scr d code (i + 1) ls (rv.toList ++ st2) S2 Q) := by
  rw [xr_eq]
  simp only [h]
  refine propext ⟨fun ⟨n, r, S3, h, q⟩ => ?_, fun ⟨n, rv, S3, h, n2, r, S4, h2, q⟩ => ?_⟩
  · cases hh : xi_ex xi_pg scr n d2 c2 0 l2 [] S with
    | none => rw [hh] at h; cases h
    | some z =>
      obtain ⟨rv, S4⟩ := z
      rw [hh] at h
      exact ⟨n, rv, S4, hh, n, r, S3, h, q⟩
  · refine ⟨n + n2, r, S4, ?_, q⟩
    rw [xr_le (Nat.le_add_right n n2) h]
    exact xr_le (Nat.le_add_left n2 n) h2
theorem xr_iconst {z : Int} {nf : List Nat} {k1 : Int32} {k2 : Int64} (hc : code[i]? = some (.iconst z, nf, k1, k2)) : xr scr d code i ls st S Q = xr scr d code (i + 1) ls (.int k1 :: st) S Q := xr_go (fun go => by unfold xi_one; rw [hc]; rfl)
theorem xr_bipush {z : Int} {nf : List Nat} {k1 : Int32} {k2 : Int64} (hc : code[i]? = some (.bipush z, nf, k1, k2)) : xr scr d code i ls st S Q = xr scr d code (i + 1) ls (.int k1 :: st) S Q := xr_go (fun go => by unfold xi_one; rw [hc]; rfl)
theorem xr_sipush {z : Int} {nf : List Nat} {k1 : Int32} {k2 : Int64} (hc : code[i]? = some (.sipush z, nf, k1, k2)) : xr scr d code i ls st S Q = xr scr d code (i + 1) ls (.int k1 :: st) S Q := xr_go (fun go => by unfold xi_one; rw [hc]; rfl)
theorem xr_ldc_w {z : Nat} {nf : List Nat} {k1 : Int32} {k2 : Int64} (hc : code[i]? = some (.ldc_w z, nf, k1, k2)) : xr scr d code i ls st S Q = xr scr d code (i + 1) ls (.int k1 :: st) S Q := xr_go (fun go => by unfold xi_one; rw [hc]; rfl)
theorem xr_lconst {z : Fin 2} {nf : List Nat} {k1 : Int32} {k2 : Int64} (hc : code[i]? = some (.lconst z, nf, k1, k2)) : xr scr d code i ls st S Q = xr scr d code (i + 1) ls (.long k2 :: st) S Q := xr_go (fun go => by unfold xi_one; rw [hc]; rfl)
theorem xr_ldc2_w {z : Nat} {nf : List Nat} {k1 : Int32} {k2 : Int64} (hc : code[i]? = some (.ldc2_w z, nf, k1, k2)) : xr scr d code i ls st S Q = xr scr d code (i + 1) ls (.long k2 :: st) S Q := xr_go (fun go => by unfold xi_one; rw [hc]; rfl)
theorem xr_iload {z : Nat} {k : Nat} {k1 : Int32} {k2 : Int64} {x : Int32} (hc : code[i]? = some (.iload z, [k], k1, k2)) (hl : ls[k]? = some (some (.int x))) : xr scr d code i ls st S Q = xr scr d code (i + 1) ls (.int x :: st) S Q := xr_go (fun go => by unfold xi_one; rw [hc]; show (match xi_lod k i ls st S with | some (a, b, c, e) => go d code a b c e | none => none) = _; unfold xi_lod; rw [hl])
theorem xr_iload_n {z : Fin 4} {k : Nat} {k1 : Int32} {k2 : Int64} {x : Int32} (hc : code[i]? = some (.iload_n z, [k], k1, k2)) (hl : ls[k]? = some (some (.int x))) : xr scr d code i ls st S Q = xr scr d code (i + 1) ls (.int x :: st) S Q := xr_go (fun go => by unfold xi_one; rw [hc]; show (match xi_lod k i ls st S with | some (a, b, c, e) => go d code a b c e | none => none) = _; unfold xi_lod; rw [hl])
theorem xr_lload {z : Nat} {k : Nat} {k1 : Int32} {k2 : Int64} {x : Int64} (hc : code[i]? = some (.lload z, [k], k1, k2)) (hl : ls[k]? = some (some (.long x))) : xr scr d code i ls st S Q = xr scr d code (i + 1) ls (.long x :: st) S Q := xr_go (fun go => by unfold xi_one; rw [hc]; show (match xi_loL k i ls st S with | some (a, b, c, e) => go d code a b c e | none => none) = _; unfold xi_loL; rw [hl])
theorem xr_lload_n {z : Fin 4} {k : Nat} {k1 : Int32} {k2 : Int64} {x : Int64} (hc : code[i]? = some (.lload_n z, [k], k1, k2)) (hl : ls[k]? = some (some (.long x))) : xr scr d code i ls st S Q = xr scr d code (i + 1) ls (.long x :: st) S Q := xr_go (fun go => by unfold xi_one; rw [hc]; show (match xi_loL k i ls st S with | some (a, b, c, e) => go d code a b c e | none => none) = _; unfold xi_loL; rw [hl])
theorem xr_aload_n {z : Fin 4} {k : Nat} {k1 : Int32} {k2 : Int64} {x : Nat} (hc : code[i]? = some (.aload_n z, [k], k1, k2)) (hl : ls[k]? = some (some (.ref x))) : xr scr d code i ls st S Q = xr scr d code (i + 1) ls (.ref x :: st) S Q := xr_go (fun go => by unfold xi_one; rw [hc]; show (match xi_loA k i ls st S with | some (a, b, c, e) => go d code a b c e | none => none) = _; unfold xi_loA; rw [hl])
theorem xr_istore {z : Nat} {k : Nat} {k1 : Int32} {k2 : Int64} {x : Int32} (hc : code[i]? = some (.istore z, [k], k1, k2)) (hl : k < ls.length) (he : xi_sl ls k (.int x) = ls2) : xr scr d code i ls (.int x :: st) S Q = xr scr d code (i + 1) ls2 st S Q := by
  subst he
  exact xr_go (fun go => by unfold xi_one; rw [hc]; show (match xi_sto k i ls (.int x :: st) S with | some (a, b, c, e) => go d code a b c e | none => none) = _; unfold xi_sto; simp only; rw [if_pos hl])
theorem xr_istore_n {z : Fin 4} {k : Nat} {k1 : Int32} {k2 : Int64} {x : Int32} (hc : code[i]? = some (.istore_n z, [k], k1, k2)) (hl : k < ls.length) (he : xi_sl ls k (.int x) = ls2) : xr scr d code i ls (.int x :: st) S Q = xr scr d code (i + 1) ls2 st S Q := by
  subst he
  exact xr_go (fun go => by unfold xi_one; rw [hc]; show (match xi_sto k i ls (.int x :: st) S with | some (a, b, c, e) => go d code a b c e | none => none) = _; unfold xi_sto; simp only; rw [if_pos hl])
theorem xr_lstore {z : Nat} {k : Nat} {k1 : Int32} {k2 : Int64} {x : Int64} (hc : code[i]? = some (.lstore z, [k], k1, k2)) (hl : k + 1 < ls.length) (he : xi_sL ls k (.long x) = ls2) : xr scr d code i ls (.long x :: st) S Q = xr scr d code (i + 1) ls2 st S Q := by
  subst he
  exact xr_go (fun go => by unfold xi_one; rw [hc]; show (match xi_stL k i ls (.long x :: st) S with | some (a, b, c, e) => go d code a b c e | none => none) = _; unfold xi_stL; simp only; rw [if_pos hl])
theorem xr_lstore_n {z : Fin 4} {k : Nat} {k1 : Int32} {k2 : Int64} {x : Int64} (hc : code[i]? = some (.lstore_n z, [k], k1, k2)) (hl : k + 1 < ls.length) (he : xi_sL ls k (.long x) = ls2) : xr scr d code i ls (.long x :: st) S Q = xr scr d code (i + 1) ls2 st S Q := by
  subst he
  exact xr_go (fun go => by unfold xi_one; rw [hc]; show (match xi_stL k i ls (.long x :: st) S with | some (a, b, c, e) => go d code a b c e | none => none) = _; unfold xi_stL; simp only; rw [if_pos hl])
theorem xr_astore_n {z : Fin 4} {k : Nat} {k1 : Int32} {k2 : Int64} {x : Nat} (hc : code[i]? = some (.astore_n z, [k], k1, k2)) (hl : k < ls.length) (he : xi_sl ls k (.ref x) = ls2) : xr scr d code i ls (.ref x :: st) S Q = xr scr d code (i + 1) ls2 st S Q := by
  subst he
  exact xr_go (fun go => by unfold xi_one; rw [hc]; show (match xi_stA k i ls (.ref x :: st) S with | some (a, b, c, e) => go d code a b c e | none => none) = _; unfold xi_stA; simp only; rw [if_pos hl])
theorem xr_iinc {z k : Nat} {y : Int} {k1 : Int32} {k2 : Int64} {x : Int32} (hc : code[i]? = some (.iinc z y, [k], k1, k2)) (hl : ls[k]? = some (some (.int x))) (he : ls.set k (some (.int (x + k1))) = ls2) : xr scr d code i ls st S Q = xr scr d code (i + 1) ls2 st S Q := by
  subst he
  exact xr_go (fun go => by unfold xi_one; rw [hc]; show (match xi_inc k k1 i ls st S with | some (a, b, c, e) => go d code a b c e | none => none) = _; unfold xi_inc; rw [hl])
theorem xr_iadd {nf : List Nat} {k1 : Int32} {k2 : Int64} {x y : Int32} (hc : code[i]? = some (.iadd, nf, k1, k2)) : xr scr d code i ls (.int y :: .int x :: st) S Q = xr scr d code (i + 1) ls (.int (x + y) :: st) S Q := xr_go (fun go => by unfold xi_one; rw [hc]; rfl)
theorem xr_isub {nf : List Nat} {k1 : Int32} {k2 : Int64} {x y : Int32} (hc : code[i]? = some (.isub, nf, k1, k2)) : xr scr d code i ls (.int y :: .int x :: st) S Q = xr scr d code (i + 1) ls (.int (x - y) :: st) S Q := xr_go (fun go => by unfold xi_one; rw [hc]; rfl)
theorem xr_imul {nf : List Nat} {k1 : Int32} {k2 : Int64} {x y : Int32} (hc : code[i]? = some (.imul, nf, k1, k2)) : xr scr d code i ls (.int y :: .int x :: st) S Q = xr scr d code (i + 1) ls (.int (x * y) :: st) S Q := xr_go (fun go => by unfold xi_one; rw [hc]; rfl)
theorem xr_iand {nf : List Nat} {k1 : Int32} {k2 : Int64} {x y : Int32} (hc : code[i]? = some (.iand, nf, k1, k2)) : xr scr d code i ls (.int y :: .int x :: st) S Q = xr scr d code (i + 1) ls (.int (x &&& y) :: st) S Q := xr_go (fun go => by unfold xi_one; rw [hc]; rfl)
theorem xr_ior {nf : List Nat} {k1 : Int32} {k2 : Int64} {x y : Int32} (hc : code[i]? = some (.ior, nf, k1, k2)) : xr scr d code i ls (.int y :: .int x :: st) S Q = xr scr d code (i + 1) ls (.int (x ||| y) :: st) S Q := xr_go (fun go => by unfold xi_one; rw [hc]; rfl)
theorem xr_ixor {nf : List Nat} {k1 : Int32} {k2 : Int64} {x y : Int32} (hc : code[i]? = some (.ixor, nf, k1, k2)) : xr scr d code i ls (.int y :: .int x :: st) S Q = xr scr d code (i + 1) ls (.int (x ^^^ y) :: st) S Q := xr_go (fun go => by unfold xi_one; rw [hc]; rfl)
theorem xr_ishl {nf : List Nat} {k1 : Int32} {k2 : Int64} {x y : Int32} (hc : code[i]? = some (.ishl, nf, k1, k2)) : xr scr d code i ls (.int y :: .int x :: st) S Q = xr scr d code (i + 1) ls (.int (x <<< (y &&& 31)) :: st) S Q := xr_go (fun go => by unfold xi_one; rw [hc]; rfl)
theorem xr_ishr {nf : List Nat} {k1 : Int32} {k2 : Int64} {x y : Int32} (hc : code[i]? = some (.ishr, nf, k1, k2)) : xr scr d code i ls (.int y :: .int x :: st) S Q = xr scr d code (i + 1) ls (.int (x >>> (y &&& 31)) :: st) S Q := xr_go (fun go => by unfold xi_one; rw [hc]; rfl)
theorem xr_iushr {nf : List Nat} {k1 : Int32} {k2 : Int64} {x y : Int32} (hc : code[i]? = some (.iushr, nf, k1, k2)) : xr scr d code i ls (.int y :: .int x :: st) S Q = xr scr d code (i + 1) ls (.int ((x.toUInt32 >>> (y.toUInt32 &&& Int32.toUInt32 31)).toInt32) :: st) S Q := xr_go (fun go => by unfold xi_one; rw [hc]; rfl)
theorem xr_ladd {nf : List Nat} {k1 : Int32} {k2 : Int64} {x y : Int64} (hc : code[i]? = some (.ladd, nf, k1, k2)) : xr scr d code i ls (.long y :: .long x :: st) S Q = xr scr d code (i + 1) ls (.long (x + y) :: st) S Q := xr_go (fun go => by unfold xi_one; rw [hc]; rfl)
theorem xr_lsub {nf : List Nat} {k1 : Int32} {k2 : Int64} {x y : Int64} (hc : code[i]? = some (.lsub, nf, k1, k2)) : xr scr d code i ls (.long y :: .long x :: st) S Q = xr scr d code (i + 1) ls (.long (x - y) :: st) S Q := xr_go (fun go => by unfold xi_one; rw [hc]; rfl)
theorem xr_lmul {nf : List Nat} {k1 : Int32} {k2 : Int64} {x y : Int64} (hc : code[i]? = some (.lmul, nf, k1, k2)) : xr scr d code i ls (.long y :: .long x :: st) S Q = xr scr d code (i + 1) ls (.long (x * y) :: st) S Q := xr_go (fun go => by unfold xi_one; rw [hc]; rfl)
theorem xr_lcmp {nf : List Nat} {k1 : Int32} {k2 : Int64} {x y : Int64} (hc : code[i]? = some (.lcmp, nf, k1, k2)) : xr scr d code i ls (.long y :: .long x :: st) S Q = xr scr d code (i + 1) ls (.int (lg_cmp x y) :: st) S Q := xr_go (fun go => by unfold xi_one; rw [hc]; rfl)
theorem xr_idiv {nf : List Nat} {k1 : Int32} {k2 : Int64} {x y : Int32} (hc : code[i]? = some (.idiv, nf, k1, k2)) (hy : ¬ y = 0) : xr scr d code i ls (.int y :: .int x :: st) S Q = xr scr d code (i + 1) ls (.int (x / y) :: st) S Q := xr_go (fun go => by unfold xi_one; rw [hc]; show (match xi_id (fun x y => x / y) i ls (.int y :: .int x :: st) S with | some (a, b, c, e) => go d code a b c e | none => none) = _; unfold xi_id; simp only; rw [if_neg hy])
theorem xr_irem {nf : List Nat} {k1 : Int32} {k2 : Int64} {x y : Int32} (hc : code[i]? = some (.irem, nf, k1, k2)) (hy : ¬ y = 0) : xr scr d code i ls (.int y :: .int x :: st) S Q = xr scr d code (i + 1) ls (.int (x - x / y * y) :: st) S Q := xr_go (fun go => by unfold xi_one; rw [hc]; show (match xi_id (fun x y => x - x / y * y) i ls (.int y :: .int x :: st) S with | some (a, b, c, e) => go d code a b c e | none => none) = _; unfold xi_id; simp only; rw [if_neg hy])
theorem xr_ldiv {nf : List Nat} {k1 : Int32} {k2 : Int64} {x y : Int64} (hc : code[i]? = some (.ldiv, nf, k1, k2)) (hy : ¬ y = 0) : xr scr d code i ls (.long y :: .long x :: st) S Q = xr scr d code (i + 1) ls (.long (x / y) :: st) S Q := xr_go (fun go => by unfold xi_one; rw [hc]; show (match xi_ld (fun x y => x / y) i ls (.long y :: .long x :: st) S with | some (a, b, c, e) => go d code a b c e | none => none) = _; unfold xi_ld; simp only; rw [if_neg hy])
theorem xr_lrem {nf : List Nat} {k1 : Int32} {k2 : Int64} {x y : Int64} (hc : code[i]? = some (.lrem, nf, k1, k2)) (hy : ¬ y = 0) : xr scr d code i ls (.long y :: .long x :: st) S Q = xr scr d code (i + 1) ls (.long (x - x / y * y) :: st) S Q := xr_go (fun go => by unfold xi_one; rw [hc]; show (match xi_ld (fun x y => x - x / y * y) i ls (.long y :: .long x :: st) S with | some (a, b, c, e) => go d code a b c e | none => none) = _; unfold xi_ld; simp only; rw [if_neg hy])
theorem xr_i2l {nf : List Nat} {k1 : Int32} {k2 : Int64} {x : Int32} (hc : code[i]? = some (.i2l, nf, k1, k2)) : xr scr d code i ls (.int x :: st) S Q = xr scr d code (i + 1) ls (.long x.toInt64 :: st) S Q := xr_go (fun go => by unfold xi_one; rw [hc]; rfl)
theorem xr_l2i {nf : List Nat} {k1 : Int32} {k2 : Int64} {x : Int64} (hc : code[i]? = some (.l2i, nf, k1, k2)) : xr scr d code i ls (.long x :: st) S Q = xr scr d code (i + 1) ls (.int x.toInt32 :: st) S Q := xr_go (fun go => by unfold xi_one; rw [hc]; rfl)
theorem xr_i2b {nf : List Nat} {k1 : Int32} {k2 : Int64} {x : Int32} (hc : code[i]? = some (.i2b, nf, k1, k2)) : xr scr d code i ls (.int x :: st) S Q = xr scr d code (i + 1) ls (.int x.toInt8.toInt32 :: st) S Q := xr_go (fun go => by unfold xi_one; rw [hc]; rfl)
theorem xr_dup {nf : List Nat} {k1 : Int32} {k2 : Int64} {v : Value} (hc : code[i]? = some (.dup, nf, k1, k2)) (hv : v.category = 1) : xr scr d code i ls (v :: st) S Q = xr scr d code (i + 1) ls (v :: v :: st) S Q := xr_go (fun go => by unfold xi_one; rw [hc]; show (match xi_dup i ls (v :: st) S with | some (a, b, c, e) => go d code a b c e | none => none) = _; unfold xi_dup; simp only; rw [if_pos hv])
theorem xr_pop {nf : List Nat} {k1 : Int32} {k2 : Int64} {v : Value} (hc : code[i]? = some (.pop, nf, k1, k2)) (hv : v.category = 1) : xr scr d code i ls (v :: st) S Q = xr scr d code (i + 1) ls st S Q := xr_go (fun go => by unfold xi_one; rw [hc]; show (match xi_pop i ls (v :: st) S with | some (a, b, c, e) => go d code a b c e | none => none) = _; unfold xi_pop; simp only; rw [if_pos hv])
theorem xr_dup2 {nf : List Nat} {k1 : Int32} {k2 : Int64} {v u : Value} (hc : code[i]? = some (.dup2, nf, k1, k2)) (hv : v.category = 1) (hu : u.category = 1) : xr scr d code i ls (v :: u :: st) S Q = xr scr d code (i + 1) ls (v :: u :: v :: u :: st) S Q := xr_go (fun go => by unfold xi_one; rw [hc]; show (match xi_dup2 i ls (v :: u :: st) S with | some (a, b, c, e) => go d code a b c e | none => none) = _; unfold xi_dup2; simp only; rw [if_pos ⟨hv, hu⟩])
theorem xr_goto {z : Int} {t : Nat} {k1 : Int32} {k2 : Int64} (hc : code[i]? = some (.goto z, [t], k1, k2)) : xr scr d code i ls st S Q = xr scr d code t ls st S Q := xr_go (fun go => by unfold xi_one; rw [hc]; rfl)
theorem xr_if_eq {z : Int} {t : Nat} {k1 : Int32} {k2 : Int64} {x : Int32} (hc : code[i]? = some (.ifCond .eq z, [t], k1, k2)) : xr scr d code i ls (.int x :: st) S Q = if x = 0 then xr scr d code t ls st S Q else xr scr d code (i + 1) ls st S Q := xr_if (fun go => by unfold xi_one; rw [hc]; rfl)
theorem xr_if_ne {z : Int} {t : Nat} {k1 : Int32} {k2 : Int64} {x : Int32} (hc : code[i]? = some (.ifCond .ne z, [t], k1, k2)) : xr scr d code i ls (.int x :: st) S Q = if x = 0 then xr scr d code (i + 1) ls st S Q else xr scr d code t ls st S Q := xr_if (fun go => by unfold xi_one; rw [hc]; rfl)
theorem xr_if_lt {z : Int} {t : Nat} {k1 : Int32} {k2 : Int64} {x : Int32} (hc : code[i]? = some (.ifCond .lt z, [t], k1, k2)) : xr scr d code i ls (.int x :: st) S Q = if x < 0 then xr scr d code t ls st S Q else xr scr d code (i + 1) ls st S Q := xr_if (fun go => by unfold xi_one; rw [hc]; rfl)
theorem xr_if_ge {z : Int} {t : Nat} {k1 : Int32} {k2 : Int64} {x : Int32} (hc : code[i]? = some (.ifCond .ge z, [t], k1, k2)) : xr scr d code i ls (.int x :: st) S Q = if x < 0 then xr scr d code (i + 1) ls st S Q else xr scr d code t ls st S Q := xr_if (fun go => by unfold xi_one; rw [hc]; rfl)
theorem xr_if_gt {z : Int} {t : Nat} {k1 : Int32} {k2 : Int64} {x : Int32} (hc : code[i]? = some (.ifCond .gt z, [t], k1, k2)) : xr scr d code i ls (.int x :: st) S Q = if 0 < x then xr scr d code t ls st S Q else xr scr d code (i + 1) ls st S Q := xr_if (fun go => by unfold xi_one; rw [hc]; rfl)
theorem xr_if_le {z : Int} {t : Nat} {k1 : Int32} {k2 : Int64} {x : Int32} (hc : code[i]? = some (.ifCond .le z, [t], k1, k2)) : xr scr d code i ls (.int x :: st) S Q = if 0 < x then xr scr d code (i + 1) ls st S Q else xr scr d code t ls st S Q := xr_if (fun go => by unfold xi_one; rw [hc]; rfl)
theorem xr_ic_eq {z : Int} {t : Nat} {k1 : Int32} {k2 : Int64} {x y : Int32} (hc : code[i]? = some (.if_icmp .eq z, [t], k1, k2)) : xr scr d code i ls (.int y :: .int x :: st) S Q = if x = y then xr scr d code t ls st S Q else xr scr d code (i + 1) ls st S Q := xr_if (fun go => by unfold xi_one; rw [hc]; rfl)
theorem xr_ic_ne {z : Int} {t : Nat} {k1 : Int32} {k2 : Int64} {x y : Int32} (hc : code[i]? = some (.if_icmp .ne z, [t], k1, k2)) : xr scr d code i ls (.int y :: .int x :: st) S Q = if x = y then xr scr d code (i + 1) ls st S Q else xr scr d code t ls st S Q := xr_if (fun go => by unfold xi_one; rw [hc]; rfl)
theorem xr_ic_lt {z : Int} {t : Nat} {k1 : Int32} {k2 : Int64} {x y : Int32} (hc : code[i]? = some (.if_icmp .lt z, [t], k1, k2)) : xr scr d code i ls (.int y :: .int x :: st) S Q = if x < y then xr scr d code t ls st S Q else xr scr d code (i + 1) ls st S Q := xr_if (fun go => by unfold xi_one; rw [hc]; rfl)
theorem xr_ic_ge {z : Int} {t : Nat} {k1 : Int32} {k2 : Int64} {x y : Int32} (hc : code[i]? = some (.if_icmp .ge z, [t], k1, k2)) : xr scr d code i ls (.int y :: .int x :: st) S Q = if x < y then xr scr d code (i + 1) ls st S Q else xr scr d code t ls st S Q := xr_if (fun go => by unfold xi_one; rw [hc]; rfl)
theorem xr_ic_gt {z : Int} {t : Nat} {k1 : Int32} {k2 : Int64} {x y : Int32} (hc : code[i]? = some (.if_icmp .gt z, [t], k1, k2)) : xr scr d code i ls (.int y :: .int x :: st) S Q = if y < x then xr scr d code t ls st S Q else xr scr d code (i + 1) ls st S Q := xr_if (fun go => by unfold xi_one; rw [hc]; rfl)
theorem xr_ic_le {z : Int} {t : Nat} {k1 : Int32} {k2 : Int64} {x y : Int32} (hc : code[i]? = some (.if_icmp .le z, [t], k1, k2)) : xr scr d code i ls (.int y :: .int x :: st) S Q = if y < x then xr scr d code (i + 1) ls st S Q else xr scr d code t ls st S Q := xr_if (fun go => by unfold xi_one; rw [hc]; rfl)
theorem xr_ireturn {z : Nat} {k1 : Int32} {k2 : Int64} {v : Int32} (hc : code[i]? = some (.ireturn, [z], k1, k2)) (hv : z = 1 → v &&& 1 = v) : xr scr d code i ls [.int v] S Q = Q (some (.int v)) S := xr_ret (fun go => by unfold xi_one; rw [hc]; show (if z = 1 ∧ ¬ v &&& 1 = v then none else some (some (Value.int v), S)) = _; rw [if_neg (fun e => e.2 (hv e.1))])
theorem xr_lreturn {nf : List Nat} {k1 : Int32} {k2 : Int64} {v : Int64} (hc : code[i]? = some (.lreturn, nf, k1, k2)) : xr scr d code i ls [.long v] S Q = Q (some (.long v)) S := xr_ret (fun go => by unfold xi_one; rw [hc])
theorem xr_return {nf : List Nat} {k1 : Int32} {k2 : Int64} (hc : code[i]? = some (.return_, nf, k1, k2)) : xr scr d code i ls [] S Q = Q none S := xr_ret (fun go => by unfold xi_one; rw [hc])
variable {sh : List (Nat × Nat)} {I : Nat → Nat → Int32} {J : Nat → Nat → Int64} {P : Nat → Nat → Option Nat} {k n nn j ci z : Nat} {nf : List Nat} {k1 : Int32} {k2 : Int64}
theorem xr_getI (hc : code[i]? = some (.getfield z, [ci, j, 0], k1, k2)) (hs : sh[k]? = some (ci, nn)) : xr scr d code i ls (.ref k :: st) (sh, I, J, P) Q = xr scr d code (i + 1) ls (.int (I k j) :: st) (sh, I, J, P) Q := xr_go (fun go => by
  unfold xi_one
  rw [hc]
  show (match xi_get [ci, j, 0] i ls (.ref k :: st) (sh, I, J, P) with | some (a, b, c, e) => go d code a b c e | none => none) = _
  simp only [xi_get, hs, if_pos]
  rfl)
theorem xr_getZ (hc : code[i]? = some (.getfield z, [ci, j, 3], k1, k2)) (hs : sh[k]? = some (ci, nn)) : xr scr d code i ls (.ref k :: st) (sh, I, J, P) Q = xr scr d code (i + 1) ls (.int (I k j) :: st) (sh, I, J, P) Q := xr_go (fun go => by
  unfold xi_one
  rw [hc]
  show (match xi_get [ci, j, 3] i ls (.ref k :: st) (sh, I, J, P) with | some (a, b, c, e) => go d code a b c e | none => none) = _
  simp only [xi_get, hs, if_pos]
  rfl)
theorem xr_getJ (hc : code[i]? = some (.getfield z, [ci, j, 1], k1, k2)) (hs : sh[k]? = some (ci, nn)) : xr scr d code i ls (.ref k :: st) (sh, I, J, P) Q = xr scr d code (i + 1) ls (.long (J k j) :: st) (sh, I, J, P) Q := xr_go (fun go => by
  unfold xi_one
  rw [hc]
  show (match xi_get [ci, j, 1] i ls (.ref k :: st) (sh, I, J, P) with | some (a, b, c, e) => go d code a b c e | none => none) = _
  simp only [xi_get, hs, if_pos]
  rfl)
theorem xr_getR {r : Nat} (hc : code[i]? = some (.getfield z, [ci, j, 2], k1, k2)) (hs : sh[k]? = some (ci, nn)) (hp : P k j = some r) : xr scr d code i ls (.ref k :: st) (sh, I, J, P) Q = xr scr d code (i + 1) ls (.ref r :: st) (sh, I, J, P) Q := xr_go (fun go => by
  unfold xi_one
  rw [hc]
  show (match xi_get [ci, j, 2] i ls (.ref k :: st) (sh, I, J, P) with | some (a, b, c, e) => go d code a b c e | none => none) = _
  simp only [xi_get, hs, if_pos, xi_gv, hp]
  rfl)
theorem xr_putI {x : Int32} (hc : code[i]? = some (.putfield z, [ci, j, 0], k1, k2)) (hs : sh[k]? = some (ci, nn)) : xr scr d code i ls (.int x :: .ref k :: st) (sh, I, J, P) Q = xr scr d code (i + 1) ls (st) (sh, xi_up I k j x, J, P) Q := xr_go (fun go => by
  unfold xi_one
  rw [hc]
  show (match xi_put [ci, j, 0] i ls (.int x :: .ref k :: st) (sh, I, J, P) with | some (a, b, c, e) => go d code a b c e | none => none) = _
  simp only [xi_put, hs, if_pos, xi_pv])
theorem xr_putJ {x : Int64} (hc : code[i]? = some (.putfield z, [ci, j, 1], k1, k2)) (hs : sh[k]? = some (ci, nn)) : xr scr d code i ls (.long x :: .ref k :: st) (sh, I, J, P) Q = xr scr d code (i + 1) ls (st) (sh, I, xi_up J k j x, P) Q := xr_go (fun go => by
  unfold xi_one
  rw [hc]
  show (match xi_put [ci, j, 1] i ls (.long x :: .ref k :: st) (sh, I, J, P) with | some (a, b, c, e) => go d code a b c e | none => none) = _
  simp only [xi_put, hs, if_pos, xi_pv])
theorem xr_putZ {x : Int32} (hc : code[i]? = some (.putfield z, [ci, j, 3], k1, k2)) (hs : sh[k]? = some (ci, nn)) (hx : x &&& 1 = x) : xr scr d code i ls (.int x :: .ref k :: st) (sh, I, J, P) Q = xr scr d code (i + 1) ls (st) (sh, xi_up I k j x, J, P) Q := xr_go (fun go => by
  unfold xi_one
  rw [hc]
  show (match xi_put [ci, j, 3] i ls (.int x :: .ref k :: st) (sh, I, J, P) with | some (a, b, c, e) => go d code a b c e | none => none) = _
  simp only [xi_put, hs, if_pos, xi_pv, hx])
theorem xr_putR {a : Nat} (hc : code[i]? = some (.putfield z, [ci, j, 2], k1, k2)) (hs : sh[k]? = some (ci, nn)) (ha : a < sh.length) : xr scr d code i ls (.ref a :: .ref k :: st) (sh, I, J, P) Q = xr scr d code (i + 1) ls (st) (sh, I, J, xi_up P k j (some a)) Q := xr_go (fun go => by
  unfold xi_one
  rw [hc]
  show (match xi_put [ci, j, 2] i ls (.ref a :: .ref k :: st) (sh, I, J, P) with | some (a, b, c, e) => go d code a b c e | none => none) = _
  simp only [xi_put, hs, if_pos, xi_pv, ha])
theorem xr_iald {x : Int32} (hc : code[i]? = some (.iaload, nf, k1, k2)) (hs : sh[k]? = some (9, n)) (hk : k < 1000000) (hx : vp_in x n) : xr scr d code i ls (.int x :: .ref k :: st) (sh, I, J, P) Q = xr scr d code (i + 1) ls (.int (I k x.toNatClampNeg) :: st) (sh, I, J, P) Q := xr_go (fun go => by
  unfold xi_one
  rw [hc]
  show (match xi_ald scr 9 i ls (.int x :: .ref k :: st) (sh, I, J, P) with | some (a, b, c, e) => go d code a b c e | none => none) = _
  simp only [xi_ald, xi_ar, hs, if_pos hk, if_pos]
  rw [if_neg hx])
theorem xr_bald {x : Int32} (hc : code[i]? = some (.baload, nf, k1, k2)) (hs : sh[k]? = some (10, n)) (hk : k < 1000000) (hx : vp_in x n) : xr scr d code i ls (.int x :: .ref k :: st) (sh, I, J, P) Q = xr scr d code (i + 1) ls (.int (I k x.toNatClampNeg) :: st) (sh, I, J, P) Q := xr_go (fun go => by
  unfold xi_one
  rw [hc]
  show (match xi_ald scr 10 i ls (.int x :: .ref k :: st) (sh, I, J, P) with | some (a, b, c, e) => go d code a b c e | none => none) = _
  simp only [xi_ald, xi_ar, hs, if_pos hk, if_pos]
  rw [if_neg hx])
theorem xr_lald {x : Int32} (hc : code[i]? = some (.laload, nf, k1, k2)) (hs : sh[k]? = some (11, n)) (hx : vp_in x n) : xr scr d code i ls (.int x :: .ref k :: st) (sh, I, J, P) Q = xr scr d code (i + 1) ls (.long (J k x.toNatClampNeg) :: st) (sh, I, J, P) Q := xr_go (fun go => by
  unfold xi_one
  rw [hc]
  show (match xi_lald i ls (.int x :: .ref k :: st) (sh, I, J, P) with | some (a, b, c, e) => go d code a b c e | none => none) = _
  simp only [xi_lald, hs, if_pos]
  rw [if_neg hx])
theorem xr_aald {x : Int32} {t r : Nat} (hc : code[i]? = some (.aaload, nf, k1, k2)) (hs : sh[k]? = some (t, n)) (ht : 12 ≤ t ∧ t ≤ 14) (hx : vp_in x n) (hp : P k x.toNatClampNeg = some r) : xr scr d code i ls (.int x :: .ref k :: st) (sh, I, J, P) Q = xr scr d code (i + 1) ls (.ref r :: st) (sh, I, J, P) Q := xr_go (fun go => by
  unfold xi_one
  rw [hc]
  show (match xi_aald i ls (.int x :: .ref k :: st) (sh, I, J, P) with | some (a, b, c, e) => go d code a b c e | none => none) = _
  simp only [xi_aald, hs, if_pos ht, hp]
  rw [if_neg hx]
  rfl)
theorem xr_iast {x y : Int32} (hc : code[i]? = some (.iastore, nf, k1, k2)) (hs : sh[k]? = some (9, n)) (hx : vp_in x n) : xr scr d code i ls (.int y :: .int x :: .ref k :: st) (sh, I, J, P) Q = xr scr d code (i + 1) ls (st) (sh, xi_up I k x.toNatClampNeg y, J, P) Q := xr_go (fun go => by
  unfold xi_one
  rw [hc]
  show (match xi_ast 9 i ls (.int y :: .int x :: .ref k :: st) (sh, I, J, P) with | some (a, b, c, e) => go d code a b c e | none => none) = _
  simp only [xi_ast, hs, if_pos]
  rw [if_neg hx]
  rfl)
theorem xr_bast {x y : Int32} (hc : code[i]? = some (.bastore, nf, k1, k2)) (hs : sh[k]? = some (10, n)) (hx : vp_in x n) : xr scr d code i ls (.int y :: .int x :: .ref k :: st) (sh, I, J, P) Q = xr scr d code (i + 1) ls (st) (sh, xi_up I k x.toNatClampNeg y.toInt8.toInt32, J, P) Q := xr_go (fun go => by
  unfold xi_one
  rw [hc]
  show (match xi_ast 10 i ls (.int y :: .int x :: .ref k :: st) (sh, I, J, P) with | some (a, b, c, e) => go d code a b c e | none => none) = _
  simp only [xi_ast, hs, if_pos]
  rw [if_neg hx])
theorem xr_last {x : Int32} {y : Int64} (hc : code[i]? = some (.lastore, nf, k1, k2)) (hs : sh[k]? = some (11, n)) (hx : vp_in x n) : xr scr d code i ls (.long y :: .int x :: .ref k :: st) (sh, I, J, P) Q = xr scr d code (i + 1) ls (st) (sh, I, xi_up J k x.toNatClampNeg y, P) Q := xr_go (fun go => by
  unfold xi_one
  rw [hc]
  show (match xi_last i ls (.long y :: .int x :: .ref k :: st) (sh, I, J, P) with | some (a, b, c, e) => go d code a b c e | none => none) = _
  simp only [xi_last, hs, if_pos]
  rw [if_neg hx])
theorem xr_alen {t : Nat} (hc : code[i]? = some (.arraylength, nf, k1, k2)) (hs : sh[k]? = some (t, n)) (hk : k < 1000000) (ht : 9 ≤ t ∧ t ≤ 14) : xr scr d code i ls (.ref k :: st) (sh, I, J, P) Q = xr scr d code (i + 1) ls (.int (Int32.ofNat n) :: st) (sh, I, J, P) Q := xr_go (fun go => by
  unfold xi_one
  rw [hc]
  show (match xi_alen scr i ls (.ref k :: st) (sh, I, J, P) with | some (a, b, c, e) => go d code a b c e | none => none) = _
  simp only [xi_alen, xi_ar, hs, if_pos hk, if_pos ht])
theorem xr_sald {x : Int32} (hc : code[i]? = some (.iaload, nf, k1, k2)) (hx : vp_in x scr.1) : xr scr d code i ls (.int x :: .ref 1000002 :: st) (sh, I, J, P) Q = xr scr d code (i + 1) ls (.int (scr.2 x.toNatClampNeg) :: st) (sh, I, J, P) Q := xr_go (fun go => by
  unfold xi_one
  rw [hc]
  show (match xi_ald scr 9 i ls (.int x :: .ref 1000002 :: st) (sh, I, J, P) with | some (a, b, c, e) => go d code a b c e | none => none) = _
  show (match (if x < 0 ∨ scr.1 ≤ x.toNatClampNeg then none else some (i + 1, ls, .int (scr.2 x.toNatClampNeg) :: st, (sh, I, J, P)) : xi_R) with | some (a, b, c, e) => go d code a b c e | none => none) = _
  rw [if_neg hx])
theorem xr_slen (hc : code[i]? = some (.arraylength, nf, k1, k2)) : xr scr d code i ls (.ref 1000002 :: st) (sh, I, J, P) Q = xr scr d code (i + 1) ls (.int (Int32.ofNat scr.1) :: st) (sh, I, J, P) Q := xr_go (fun go => by
  unfold xi_one
  rw [hc]
  show (match xi_alen scr i ls (.ref 1000002 :: st) (sh, I, J, P) with | some (a, b, c, e) => go d code a b c e | none => none) = _
  rfl)
theorem xr_cpy {x y c : Int32} {a b m0 m1 : Nat} (hc : code[i]? = some (.invokestatic z, [], k1, k2)) (ha : sh[a]? = some (9, m0)) (hb : sh[b]? = some (9, m1)) (hx : ¬ x < 0) (hy : ¬ y < 0) (hcc : ¬ c < 0) (h4 : x.toNatClampNeg + c.toNatClampNeg ≤ m0) (h5 : y.toNatClampNeg + c.toNatClampNeg ≤ m1) (hst : (st.map fun v => v.category).sum ≤ 8) : xr scr d code i ls (.int c :: .int y :: .ref b :: .int x :: .ref a :: st) (sh, I, J, P) Q = xr scr d code (i + 1) ls (st) (sh, xi_ua I b (va_cpy (I a) (I b) x.toNatClampNeg y.toNatClampNeg c.toNatClampNeg), J, P) Q := xr_go (fun go => by
  unfold xi_one
  rw [hc]
  show (match xi_cpy i ls (.int c :: .int y :: .ref b :: .int x :: .ref a :: st) (sh, I, J, P) with | some (a, b, c, e) => go d code a b c e | none => none) = _
  simp only [xi_cpy, ha, hb]
  rw [if_pos ⟨trivial, trivial, hx, hy, hcc, h4, h5, hst⟩])
theorem xr_mmax {x y : Int32} (hc : code[i]? = some (.invokestatic z, [1], k1, k2)) (hst : (st.map fun v => v.category).sum ≤ 8) : xr scr d code i ls (.int y :: .int x :: st) (sh, I, J, P) Q = xr scr d code (i + 1) ls (.int (if x < y then y else x) :: st) (sh, I, J, P) Q := xr_go (fun go => by
  unfold xi_one
  rw [hc]
  show (match xi_mm 1 i ls (.int y :: .int x :: st) (sh, I, J, P) with | some (a, b, c, e) => go d code a b c e | none => none) = _
  simp only [xi_mm]
  rw [if_pos hst]
  rfl)
theorem xr_mmin {x y : Int32} (hc : code[i]? = some (.invokestatic z, [2], k1, k2)) (hst : (st.map fun v => v.category).sum ≤ 8) : xr scr d code i ls (.int y :: .int x :: st) (sh, I, J, P) Q = xr scr d code (i + 1) ls (.int (if y < x then y else x) :: st) (sh, I, J, P) Q := xr_go (fun go => by
  unfold xi_one
  rw [hc]
  show (match xi_mm 2 i ls (.int y :: .int x :: st) (sh, I, J, P) with | some (a, b, c, e) => go d code a b c e | none => none) = _
  simp only [xi_mm]
  rw [if_pos hst]
  rfl)
theorem xr_gets {t : Nat} (hc : code[i]? = some (.getstatic z, [t], k1, k2)) : xr scr d code i ls st (sh, I, J, P) Q = xr scr d code (i + 1) ls (.ref (1000000 + t) :: st) (sh, I, J, P) Q := xr_go (fun go => by unfold xi_one; rw [hc]; rfl)
theorem xr_l_ltr (hc : code[i]? = some (.arraylength, nf, k1, k2)) : xr scr d code i ls (.ref (1000000 + 0) :: st) (sh, I, J, P) Q = xr scr d code (i + 1) ls (.int 6 :: st) (sh, I, J, P) Q := xr_go (fun go => by
  unfold xi_one
  rw [hc]
  show (match xi_alen scr i ls (.ref (1000000 + 0) :: st) (sh, I, J, P) with | some (a, b, c, e) => go d code a b c e | none => none) = _
  rfl)
theorem xr_a_ltr {x : Int32} (hc : code[i]? = some (.baload, nf, k1, k2)) (hx : vp_in x 6) : xr scr d code i ls (.int x :: .ref (1000000 + 0) :: st) (sh, I, J, P) Q = xr scr d code (i + 1) ls (.int (xi_letters x.toNatClampNeg) :: st) (sh, I, J, P) Q := xr_go (fun go => by
  unfold xi_one
  rw [hc]
  show (match xi_ald scr 10 i ls (.int x :: .ref (1000000 + 0) :: st) (sh, I, J, P) with | some (a, b, c, e) => go d code a b c e | none => none) = _
  show (match (if x < 0 ∨ 6 ≤ x.toNatClampNeg then none else some (i + 1, ls, .int (xi_letters x.toNatClampNeg) :: st, (sh, I, J, P)) : xi_R) with | some (a, b, c, e) => go d code a b c e | none => none) = _
  rw [if_neg hx])
theorem xr_l_ext (hc : code[i]? = some (.arraylength, nf, k1, k2)) : xr scr d code i ls (.ref (1000000 + 1) :: st) (sh, I, J, P) Q = xr scr d code (i + 1) ls (.int 6 :: st) (sh, I, J, P) Q := xr_go (fun go => by
  unfold xi_one
  rw [hc]
  show (match xi_alen scr i ls (.ref (1000000 + 1) :: st) (sh, I, J, P) with | some (a, b, c, e) => go d code a b c e | none => none) = _
  rfl)
theorem xr_a_ext {x : Int32} (hc : code[i]? = some (.iaload, nf, k1, k2)) (hx : vp_in x 6) : xr scr d code i ls (.int x :: .ref (1000000 + 1) :: st) (sh, I, J, P) Q = xr scr d code (i + 1) ls (.int (xi_extra x.toNatClampNeg) :: st) (sh, I, J, P) Q := xr_go (fun go => by
  unfold xi_one
  rw [hc]
  show (match xi_ald scr 9 i ls (.int x :: .ref (1000000 + 1) :: st) (sh, I, J, P) with | some (a, b, c, e) => go d code a b c e | none => none) = _
  show (match (if x < 0 ∨ 6 ≤ x.toNatClampNeg then none else some (i + 1, ls, .int (xi_extra x.toNatClampNeg) :: st, (sh, I, J, P)) : xi_R) with | some (a, b, c, e) => go d code a b c e | none => none) = _
  rw [if_neg hx])
theorem xr_inv {d2 μ na mL : Nat} {c2 : List xi_E} {l2 : xi_L} {b : Nat} (hc : code[i]? = some (.invokevirtual z, [μ, na, ci], k1, k2)) (hp : xi_pg μ = some (mL, na, c2)) (hna : na ≤ st.length) (hb : st[na - 1]? = some (.ref b)) (hs : sh[b]? = some (ci, nn)) (hlen : (xi_av (st.take na).reverse).length ≤ mL) (hsum : ((st.drop na).map fun v => v.category).sum ≤ 8) (he : xi_en (st.take na).reverse mL = l2) : xr scr (d2 + 1) code i ls st (sh, I, J, P) Q = xr scr d2 c2 0 l2 [] (sh, I, J, P) (fun rv S2 => xr scr (d2 + 1) code (i + 1) ls (rv.toList ++ st.drop na) S2 Q) := xr_call (fun go => by
  unfold xi_one
  rw [hc]
  show xi_cal xi_pg (d2 + 1) (.invokevirtual z, [μ, na, ci], k1, k2) st (sh, I, J, P) (fun d2 c2 l2 S2 => go d2 c2 0 l2 [] S2) (fun st2 S2 => go (d2 + 1) code (i + 1) ls st2 S2) = _
  simp only [xi_cal]
  rw [show xi_pg (xi_k (.invokevirtual z, [μ, na, ci], k1, k2)) = some (mL, na, c2) from hp]
  simp only
  rw [if_pos ⟨rfl, hna, by simp only [xi_rcv, hb, hs, decide_true], hlen, hsum⟩, he]
  rfl)
theorem xr_ins {d2 μ na mL : Nat} {c2 : List xi_E} {l2 : xi_L} (hc : code[i]? = some (.invokestatic z, [μ, na], k1, k2)) (hp : xi_pg μ = some (mL, na, c2)) (hna : na ≤ st.length) (hlen : (xi_av (st.take na).reverse).length ≤ mL) (hsum : ((st.drop na).map fun v => v.category).sum ≤ 8) (he : xi_en (st.take na).reverse mL = l2) : xr scr (d2 + 1) code i ls st (sh, I, J, P) Q = xr scr d2 c2 0 l2 [] (sh, I, J, P) (fun rv S2 => xr scr (d2 + 1) code (i + 1) ls (rv.toList ++ st.drop na) S2 Q) := xr_call (fun go => by
  unfold xi_one
  rw [hc]
  show xi_cal xi_pg (d2 + 1) (.invokestatic z, [μ, na], k1, k2) st (sh, I, J, P) (fun d2 c2 l2 S2 => go d2 c2 0 l2 [] S2) (fun st2 S2 => go (d2 + 1) code (i + 1) ls st2 S2) = _
  simp only [xi_cal]
  rw [show xi_pg (xi_k (.invokestatic z, [μ, na], k1, k2)) = some (mL, na, c2) from hp]
  simp only
  rw [if_pos ⟨rfl, hna, rfl, hlen, hsum⟩, he]
  rfl)
end XR
