/-! the store only grows -/
section XIP
variable {scr : xi_X} {i i2 : Nat} {ls ls2 : xi_L} {st st2 : List Value} {S S2 : xi_S}
theorem xi_p_lod {k : Nat} (h : xi_lod k i ls st S = some (i2, ls2, st2, S2)) : S2.1 = S.1 := by
  unfold xi_lod at h
  repeat' (split at h)
  all_goals (cases h <;> rfl)
theorem xi_p_loL {k : Nat} (h : xi_loL k i ls st S = some (i2, ls2, st2, S2)) : S2.1 = S.1 := by
  unfold xi_loL at h
  repeat' (split at h)
  all_goals (cases h <;> rfl)
theorem xi_p_loA {k : Nat} (h : xi_loA k i ls st S = some (i2, ls2, st2, S2)) : S2.1 = S.1 := by
  unfold xi_loA at h
  repeat' (split at h)
  all_goals (cases h <;> rfl)
theorem xi_p_sto {k : Nat} (h : xi_sto k i ls st S = some (i2, ls2, st2, S2)) : S2.1 = S.1 := by
  unfold xi_sto at h
  repeat' (split at h)
  all_goals (cases h <;> rfl)
theorem xi_p_stL {k : Nat} (h : xi_stL k i ls st S = some (i2, ls2, st2, S2)) : S2.1 = S.1 := by
  unfold xi_stL at h
  repeat' (split at h)
  all_goals (cases h <;> rfl)
theorem xi_p_stA {k : Nat} (h : xi_stA k i ls st S = some (i2, ls2, st2, S2)) : S2.1 = S.1 := by
  unfold xi_stA at h
  repeat' (split at h)
  all_goals (cases h <;> rfl)
theorem xi_p_ii {f : Int32 → Int32 → Int32} (h : xi_ii f i ls st S = some (i2, ls2, st2, S2)) : S2.1 = S.1 := by
  unfold xi_ii at h
  repeat' (split at h)
  all_goals (cases h <;> rfl)
theorem xi_p_id {f : Int32 → Int32 → Int32} (h : xi_id f i ls st S = some (i2, ls2, st2, S2)) : S2.1 = S.1 := by
  unfold xi_id at h
  repeat' (split at h)
  all_goals (cases h <;> rfl)
theorem xi_p_ll {f : Int64 → Int64 → Int64} (h : xi_ll f i ls st S = some (i2, ls2, st2, S2)) : S2.1 = S.1 := by
  unfold xi_ll at h
  repeat' (split at h)
  all_goals (cases h <;> rfl)
theorem xi_p_ld {f : Int64 → Int64 → Int64} (h : xi_ld f i ls st S = some (i2, ls2, st2, S2)) : S2.1 = S.1 := by
  unfold xi_ld at h
  repeat' (split at h)
  all_goals (cases h <;> rfl)
theorem xi_p_lald  (h : xi_lald i ls st S = some (i2, ls2, st2, S2)) : S2.1 = S.1 := by
  unfold xi_lald at h
  repeat' (split at h)
  all_goals (cases h <;> rfl)
theorem xi_p_aald  (h : xi_aald i ls st S = some (i2, ls2, st2, S2)) : S2.1 = S.1 := by
  unfold xi_aald at h
  repeat' (split at h)
  all_goals (cases h <;> rfl)
theorem xi_p_dup  (h : xi_dup i ls st S = some (i2, ls2, st2, S2)) : S2.1 = S.1 := by
  unfold xi_dup at h
  repeat' (split at h)
  all_goals (cases h <;> rfl)
theorem xi_p_dup2  (h : xi_dup2 i ls st S = some (i2, ls2, st2, S2)) : S2.1 = S.1 := by
  unfold xi_dup2 at h
  repeat' (split at h)
  all_goals (cases h <;> rfl)
theorem xi_p_pop  (h : xi_pop i ls st S = some (i2, ls2, st2, S2)) : S2.1 = S.1 := by
  unfold xi_pop at h
  repeat' (split at h)
  all_goals (cases h <;> rfl)
theorem xi_p_i2l  (h : xi_i2l i ls st S = some (i2, ls2, st2, S2)) : S2.1 = S.1 := by
  unfold xi_i2l at h
  repeat' (split at h)
  all_goals (cases h <;> rfl)
theorem xi_p_l2i  (h : xi_l2i i ls st S = some (i2, ls2, st2, S2)) : S2.1 = S.1 := by
  unfold xi_l2i at h
  repeat' (split at h)
  all_goals (cases h <;> rfl)
theorem xi_p_i2b  (h : xi_i2b i ls st S = some (i2, ls2, st2, S2)) : S2.1 = S.1 := by
  unfold xi_i2b at h
  repeat' (split at h)
  all_goals (cases h <;> rfl)
theorem xi_p_cmp  (h : xi_cmp i ls st S = some (i2, ls2, st2, S2)) : S2.1 = S.1 := by
  unfold xi_cmp at h
  repeat' (split at h)
  all_goals (cases h <;> rfl)
theorem xi_p_inc {k : Nat} {n : Int32} (h : xi_inc k n i ls st S = some (i2, ls2, st2, S2)) : S2.1 = S.1 := by
  unfold xi_inc at h
  repeat' (split at h)
  all_goals (cases h <;> rfl)
theorem xi_p_oin  (h : xi_oin i ls st S = some (i2, ls2, st2, S2)) : S2.1 = S.1 := by
  unfold xi_oin at h
  repeat' (split at h)
  all_goals (cases h <;> rfl)
theorem xi_p_last  (h : xi_last i ls st S = some (i2, ls2, st2, S2)) : S2.1 = S.1 := by
  unfold xi_last at h
  repeat' (split at h)
  all_goals (cases h <;> rfl)
theorem xi_p_aast  (h : xi_aast i ls st S = some (i2, ls2, st2, S2)) : S2.1 = S.1 := by
  unfold xi_aast at h
  repeat' (split at h)
  all_goals (cases h <;> rfl)
theorem xi_p_cpy  (h : xi_cpy i ls st S = some (i2, ls2, st2, S2)) : S2.1 = S.1 := by
  unfold xi_cpy at h
  repeat' (split at h)
  all_goals (cases h <;> rfl)
theorem xi_p_mm {k : Nat} (h : xi_mm k i ls st S = some (i2, ls2, st2, S2)) : S2.1 = S.1 := by
  unfold xi_mm at h
  repeat' (split at h)
  all_goals (cases h <;> rfl)
theorem xi_p_ast {k : Nat} (h : xi_ast k i ls st S = some (i2, ls2, st2, S2)) : S2.1 = S.1 := by
  unfold xi_ast at h
  repeat' (split at h)
  all_goals (cases h <;> rfl)
theorem xi_p_get {n : List Nat} (h : xi_get n i ls st S = some (i2, ls2, st2, S2)) : S2.1 = S.1 := by
  unfold xi_get at h
  repeat' (split at h)
  all_goals (cases h <;> rfl)
theorem xi_p_ald {k : Nat} (h : xi_ald scr k i ls st S = some (i2, ls2, st2, S2)) : S2.1 = S.1 := by
  unfold xi_ald at h
  repeat' (split at h)
  all_goals (cases h <;> rfl)
theorem xi_p_alen  (h : xi_alen scr i ls st S = some (i2, ls2, st2, S2)) : S2.1 = S.1 := by
  unfold xi_alen at h
  repeat' (split at h)
  all_goals (cases h <;> rfl)
theorem xi_p_put {n : List Nat} (h : xi_put n i ls st S = some (i2, ls2, st2, S2)) : S2.1 = S.1 := by
  unfold xi_put xi_pv at h
  repeat' (split at h)
  all_goals (try cases h)
  all_goals (first | rfl | (rename_i hh; repeat' (split at hh)) | skip)
  all_goals (rename_i hh; cases hh <;> rfl)
theorem xi_stp_pre {e : xi_E} (h : xi_stp scr e i ls st S = some (i2, ls2, st2, S2)) : ∃ ext, S2.1 = S.1 ++ ext := by
  have key : ∀ T : xi_S, T.1 = S.1 → ∃ ext, T.1 = S.1 ++ ext := fun T hT => ⟨[], by rw [hT, List.append_nil]⟩
  obtain ⟨con, nf, k1, k2⟩ := e
  cases con with
  | iload _ => exact key _ (xi_p_lod h)
  | iload_n _ => exact key _ (xi_p_lod h)
  | lload _ => exact key _ (xi_p_loL h)
  | lload_n _ => exact key _ (xi_p_loL h)
  | aload_n _ => exact key _ (xi_p_loA h)
  | istore _ => exact key _ (xi_p_sto h)
  | istore_n _ => exact key _ (xi_p_sto h)
  | lstore _ => exact key _ (xi_p_stL h)
  | lstore_n _ => exact key _ (xi_p_stL h)
  | astore_n _ => exact key _ (xi_p_stA h)
  | iadd => exact key _ (xi_p_ii h)
  | isub => exact key _ (xi_p_ii h)
  | imul => exact key _ (xi_p_ii h)
  | iand => exact key _ (xi_p_ii h)
  | ior => exact key _ (xi_p_ii h)
  | ixor => exact key _ (xi_p_ii h)
  | ishl => exact key _ (xi_p_ii h)
  | ishr => exact key _ (xi_p_ii h)
  | iushr => exact key _ (xi_p_ii h)
  | idiv => exact key _ (xi_p_id h)
  | irem => exact key _ (xi_p_id h)
  | ladd => exact key _ (xi_p_ll h)
  | lsub => exact key _ (xi_p_ll h)
  | lmul => exact key _ (xi_p_ll h)
  | ldiv => exact key _ (xi_p_ld h)
  | lrem => exact key _ (xi_p_ld h)
  | lcmp => exact key _ (xi_p_cmp h)
  | i2l => exact key _ (xi_p_i2l h)
  | l2i => exact key _ (xi_p_l2i h)
  | i2b => exact key _ (xi_p_i2b h)
  | dup => exact key _ (xi_p_dup h)
  | dup2 => exact key _ (xi_p_dup2 h)
  | pop => exact key _ (xi_p_pop h)
  | iaload => exact key _ (xi_p_ald h)
  | baload => exact key _ (xi_p_ald h)
  | laload => exact key _ (xi_p_lald h)
  | aaload => exact key _ (xi_p_aald h)
  | iastore => exact key _ (xi_p_ast h)
  | bastore => exact key _ (xi_p_ast h)
  | lastore => exact key _ (xi_p_last h)
  | aastore => exact key _ (xi_p_aast h)
  | arraylength => exact key _ (xi_p_alen h)
  | getfield _ => exact key _ (xi_p_get h)
  | putfield _ => exact key _ (xi_p_put h)
  | iinc _ _ => exact key _ (xi_p_inc h)
  | iconst _ => cases h; exact key _ rfl
  | bipush _ => cases h; exact key _ rfl
  | sipush _ => cases h; exact key _ rfl
  | ldc_w _ => cases h; exact key _ rfl
  | lconst _ => cases h; exact key _ rfl
  | ldc2_w _ => cases h; exact key _ rfl
  | getstatic _ => cases h; exact key _ rfl
  | new _ =>
    have h : xi_new nf i ls st S = some (i2, ls2, st2, S2) := h
    unfold xi_new at h
    repeat' (split at h)
    all_goals (cases h <;> exact ⟨_, rfl⟩)
  | newarray _ =>
    obtain ⟨_, _, _, _, _, _, _, _, rfl⟩ := xi_newa_of h
    exact ⟨_, rfl⟩
  | anewarray _ =>
    obtain ⟨_, _, _, _, _, _, _, _, rfl⟩ := xi_newa_of h
    exact ⟨_, rfl⟩
  | multianewarray _ _ =>
    simp only [xi_stp] at h
    split at h
    · unfold xi_mna at h
      repeat' (split at h)
      all_goals (cases h <;> exact ⟨_, List.append_assoc _ _ _⟩)
    · cases h
  | _ => cases h
end XIP
theorem xi_cal_of {pg : xi_P} {d : Nat} {e : xi_E} {st : List Value} {S : xi_S} {run : Nat → List xi_E → xi_L → xi_S → Option (Option Value × xi_S)} {go : List Value → xi_S → Option (Option Value × xi_S)} {x : Option Value × xi_S} (h : xi_cal pg d e st S run go = some x) : ∃ d2 mL na c2 rv S2, d = d2 + 1 ∧ pg (xi_k e) = some (mL, na, c2) ∧ e.2.1[1]? = some na ∧ na ≤ st.length ∧ xi_rcv e.2.1 st S = true ∧ (xi_av (st.take na).reverse).length ≤ mL ∧ ((st.drop na).map fun v => v.category).sum ≤ 8 ∧ run d2 c2 (xi_en (st.take na).reverse mL) S = some (rv, S2) ∧ go (rv.toList ++ st.drop na) S2 = some x := by
  cases d with
  | zero => cases h
  | succ d2 =>
    simp only [xi_cal] at h
    cases hp : pg (xi_k e) with
    | none => rw [hp] at h; cases h
    | some q =>
      obtain ⟨mL, na, c2⟩ := q
      rw [hp] at h
      simp only at h
      split at h
      · next hc =>
        cases hr : run d2 c2 (xi_en (st.take na).reverse mL) S with
        | none => rw [hr] at h; cases h
        | some z =>
          obtain ⟨rv, S2⟩ := z
          rw [hr] at h
          exact ⟨d2, mL, na, c2, rv, S2, rfl, rfl, hc.1, hc.2.1, hc.2.2.1, hc.2.2.2.1, hc.2.2.2.2, hr, h⟩
      · cases h
theorem xi_pre_trans {A B C : List (Nat × Nat)} (h1 : ∃ e, B = A ++ e) (h2 : ∃ e, C = B ++ e) : ∃ e, C = A ++ e := by
  obtain ⟨e1, rfl⟩ := h1
  obtain ⟨e2, rfl⟩ := h2
  exact ⟨e1 ++ e2, List.append_assoc _ _ _⟩
theorem xi_pre_le {S S2 : xi_S} (h : ∃ ext, S2.1 = S.1 ++ ext) : S.1.length ≤ S2.1.length ∧ xi_sz S ≤ xi_sz S2 := by
  obtain ⟨ext, h⟩ := h
  unfold xi_sz
  rw [h]
  simp
set_option maxHeartbeats 4000000 in
theorem xi_ex_pre {pg : xi_P} {scr : xi_X} : ∀ (n d : Nat) (code : List xi_E) (i : Nat) (ls : xi_L) (st : List Value) (S : xi_S) (r : Option Value) (S2 : xi_S), xi_ex pg scr n d code i ls st S = some (r, S2) → ∃ ext, S2.1 = S.1 ++ ext := by
  intro n
  induction n with
  | zero => intro d code i ls st S r S2 h; cases h
  | succ n ih =>
    intro d code i ls st S r S2 h
    have keep : ∀ T : xi_S, T = S → ∃ ext, T.1 = S.1 ++ ext := fun T hT => ⟨[], by rw [hT, List.append_nil]⟩
    have hcal : ∀ e : xi_E, xi_cal pg d e st S (fun d2 c2 l2 S2 => xi_ex pg scr n d2 c2 0 l2 [] S2) (fun st2 S2 => xi_ex pg scr n d code (i + 1) ls st2 S2) = some (r, S2) → ∃ ext, S2.1 = S.1 ++ ext := fun e h => by
      obtain ⟨d2, mL, na, c2, rv, S3, _, _, _, _, _, _, _, h1, h2⟩ := xi_cal_of h
      exact xi_pre_trans (ih _ _ _ _ _ _ _ _ h1) (ih _ _ _ _ _ _ _ _ h2)
    rw [xi_ex_succ] at h
    unfold xi_one at h
    cases hc : code[i]? with
    | none => rw [hc] at h; cases h
    | some e =>
      rw [hc] at h
      simp only at h
      have hstep : (match xi_stp scr e i ls st S with | some (i2, ls2, st2, S2) => xi_ex pg scr n d code i2 ls2 st2 S2 | none => none) = some (r, S2) → ∃ ext, S2.1 = S.1 ++ ext := fun h => by
        cases hs : xi_stp scr e i ls st S with
        | none => rw [hs] at h; cases h
        | some z =>
          obtain ⟨i2, ls2, st2, S3⟩ := z
          rw [hs] at h
          exact xi_pre_trans (xi_stp_pre hs) (ih _ _ _ _ _ _ _ _ h)
      obtain ⟨con, nf, k1, k2⟩ := e
      cases con with
      | goto off => exact ih _ _ _ _ _ _ _ _ h
      | ifCond cd off =>
        simp only at h
        repeat' (split at h)
        all_goals (first | exact ih _ _ _ _ _ _ _ _ h | cases h)
      | if_icmp cd off =>
        simp only at h
        repeat' (split at h)
        all_goals (first | exact ih _ _ _ _ _ _ _ _ h | cases h)
      | tableswitch a b c d =>
        simp only at h
        repeat' (split at h)
        all_goals (first | exact ih _ _ _ _ _ _ _ _ h | cases h)
      | ireturn =>
        simp only at h
        repeat' (split at h)
        all_goals (first | (cases h; exact keep _ rfl) | cases h)
      | lreturn =>
        simp only at h
        repeat' (split at h)
        all_goals (first | (cases h; exact keep _ rfl) | cases h)
      | return_ =>
        simp only at h
        repeat' (split at h)
        all_goals (first | (cases h; exact keep _ rfl) | cases h)
      | invokevirtual k => exact hcal _ h
      | invokestatic k =>
        cases nf with
        | nil =>
          simp only at h
          cases hs : xi_cpy i ls st S with
          | none => rw [hs] at h; cases h
          | some z =>
            obtain ⟨i2, ls2, st2, S3⟩ := z
            rw [hs] at h
            exact xi_pre_trans ⟨[], by rw [xi_p_cpy hs, List.append_nil]⟩ (ih _ _ _ _ _ _ _ _ h)
        | cons a t =>
          cases t with
          | nil =>
            simp only at h
            cases hs : xi_mm a i ls st S with
            | none => rw [hs] at h; cases h
            | some z =>
              obtain ⟨i2, ls2, st2, S3⟩ := z
              rw [hs] at h
              exact xi_pre_trans ⟨[], by rw [xi_p_mm hs, List.append_nil]⟩ (ih _ _ _ _ _ _ _ _ h)
          | cons b u => exact hcal _ h
      | invokespecial k =>
        simp only at h
        split at h
        · cases hs : xi_oin i ls st S with
          | none => rw [hs] at h; cases h
          | some z =>
            obtain ⟨i2, ls2, st2, S3⟩ := z
            rw [hs] at h
            exact xi_pre_trans ⟨[], by rw [xi_p_oin hs, List.append_nil]⟩ (ih _ _ _ _ _ _ _ _ h)
        · exact hcal _ h
      | _ => exact hstep h
