/-! soundness: every run of the interpreter is a run of the machine -/
theorem xi_ck_at {q : xi_Q} {i : Nat} {e : xi_E} (h : xi_cka q = true) (hc : q.2.2.2[i]? = some e) : xi_ck q.1.1 (decide (q.1.2.2.2.2.2.1 = 2)) q.1.2.2.2.1 q.1.2.2.2.2.1 (xi_pcs q.1.2.2.2.2.2.2) (xi_wsf q.1.2.2.2.2.2.2) i e = true := by
  unfold xi_cka at h
  have h1 := List.all_eq_true.mp h i (List.mem_range.mpr (List.getElem?_eq_some_iff.mp hc).1)
  rw [hc] at h1
  exact h1
theorem xi_pg_of {μ : Nat} {x : Nat × Nat × List xi_E} (h : xi_pg μ = some x) : ∃ q : xi_Q, xi_tab[μ]? = some q ∧ q.2 = x := by
  unfold xi_pg at h
  cases hq : xi_tab[μ]? with
  | none => rw [hq] at h; cases h
  | some q => rw [hq] at h; cases h; exact ⟨q, rfl, rfl⟩
theorem xi_cck_of {own kd idx w : Nat} {n : List Nat} {q : xi_Q} (h : xi_cck own kd idx w n = true) (hq : xi_tab[n.headD 0]? = some q) : (n.headD 0 < 257 ∧ ¬ n.headD 0 = 28 ∧ ¬ n.headD 0 = 108) ∧ q.1.2.2.2.2.2.1 = kd ∧ (xi_ML[w]? = some (own, idx, n.headD 0) ∨ (kd = 2 ∧ xi_MN[w - 1000]? = some (own, idx, n.headD 0))) ∧ (¬ kd = 0 → n.length = 3 ∧ n[2]? = some q.1.1 ∧ q.1.1 < 9) := by
  unfold xi_cck at h
  rw [hq] at h
  simp only [Bool.and_eq_true, Bool.or_eq_true, decide_eq_true_eq] at h
  obtain ⟨⟨⟨h1, h2⟩, h3⟩, h4⟩ := h
  refine ⟨h1, h2, h3, fun hk => ?_⟩
  rw [if_neg hk] at h4
  simp only [Bool.and_eq_true, decide_eq_true_eq] at h4
  exact ⟨h4.1.1, h4.1.2, h4.2⟩
theorem xi_rcv_of {n : List Nat} {st : List Value} {S : xi_S} {na t : Nat} (h : xi_rcv n st S = true) (hl : n.length = 3) (h1 : n[1]? = some na) (h2 : n[2]? = some t) : ∃ b nn, st[na - 1]? = some (.ref b) ∧ S.1[b]? = some (t, nn) := by
  rcases n with _ | ⟨x, _ | ⟨y, _ | ⟨z, _ | ⟨u, v⟩⟩⟩⟩
  · cases hl
  · cases hl
  · cases hl
  · cases h1
    cases h2
    simp only [xi_rcv] at h
    cases hs : st[na - 1]? with
    | none => rw [hs] at h; cases h
    | some v =>
      rw [hs] at h
      cases v with
      | ref b =>
        simp only at h
        cases hb : S.1[b]? with
        | none => rw [hb] at h; cases h
        | some w =>
          obtain ⟨t2, nn⟩ := w
          rw [hb] at h
          simp only [decide_eq_true_eq] at h
          exact ⟨b, nn, rfl, by rw [hb, h]⟩
      | _ => cases h
  · simp at hl
set_option maxHeartbeats 8000000 in
theorem xi_body (hOK : xi_OK) : ∀ n, xi_Bd n := by
  intro n
  induction n with
  | zero =>
    intro d μ q hq p l en R s m args below meth c Q D cs scr A ρ0 N0 L0 hx hb hml hown hts hini hRf hRl i ls st S r S3 hrun hB1 hB2 hN hfin
    cases hrun
  | succ n ih =>
    intro d μ q hq p l en R s m args below meth c Q D cs scr A ρ0 N0 L0 hx hb hml hown hts hini hRf hRl i ls st S r S3 hrun hB1 hB2 hN hfin
    rw [xi_ex_succ] at hrun
    unfold xi_one at hrun
    cases hc : q.2.2.2[i]? with
    | none => rw [hc] at hrun; cases hrun
    | some e =>
      rw [hc] at hrun
      simp only at hrun
      have hck := xi_ck_at (hOK μ q hq).1 hc
      have go : ∀ (i2 : Nat) (ls2 : xi_L) (st2 : List Value) (S2 : xi_S), xi_ex xi_pg scr n d q.2.2.2 i2 ls2 st2 S2 = some (r, S3) → xi_G p l en R s m args below meth c Q D cs scr A q.2.1 ρ0 N0 L0 (xi_pcs q.1.2.2.2.2.2.2 i2) ls2 (st2) S2 := fun i2 ls2 st2 S2 h => ih d μ q hq p l en R s m args below meth c Q D cs scr A ρ0 N0 L0 hx hb hml hown hts hini hRf hRl i2 ls2 st2 S2 r S3 h hB1 hB2 hN hfin
      have stp : (match xi_stp scr e i ls st S with | some (i2, ls2, st2, S2) => xi_ex xi_pg scr n d q.2.2.2 i2 ls2 st2 S2 | none => none) = some (r, S3) → ∃ (i2 : Nat) (ls2 : xi_L) (st2 : List Value) (S2 : xi_S), xi_stp scr e i ls st S = some (i2, ls2, st2, S2) ∧ xi_G p l en R s m args below meth c Q D cs scr A q.2.1 ρ0 N0 L0 (xi_pcs q.1.2.2.2.2.2.2 i2) ls2 (st2) S2 ∧ S2.1.length ≤ N0 + R.cells ∧ xi_sz S2 ≤ L0 + R.slots ∧ S.1.length < 1000000 ∧ S2.1.length < 1000000 := fun h => by
        cases hs : xi_stp scr e i ls st S with
        | none => rw [hs] at h; cases h
        | some z =>
          obtain ⟨i2, ls2, st2, S2⟩ := z
          rw [hs] at h
          obtain ⟨le1, le2⟩ := xi_pre_le (xi_ex_pre _ _ _ _ _ _ _ _ _ h)
          obtain ⟨le3, le4⟩ := xi_pre_le (xi_stp_pre hs)
          exact ⟨i2, ls2, st2, S2, rfl, go _ _ _ _ h, by omega, by omega, by omega, by omega⟩
      have cpy : (match xi_cpy i ls st S with | some (i2, ls2, st2, S2) => xi_ex xi_pg scr n d q.2.2.2 i2 ls2 st2 S2 | none => none) = some (r, S3) → ∃ (i2 : Nat) (ls2 : xi_L) (st2 : List Value) (S2 : xi_S), xi_cpy i ls st S = some (i2, ls2, st2, S2) ∧ xi_ex xi_pg scr n d q.2.2.2 i2 ls2 st2 S2 = some (r, S3) := fun h => by
        cases hs : xi_cpy i ls st S with
        | none => rw [hs] at h; cases h
        | some z =>
          obtain ⟨i2, ls2, st2, S2⟩ := z
          rw [hs] at h
          exact ⟨i2, ls2, st2, S2, rfl, h⟩
      have mmx : ∀ kx : Nat, (match xi_mm kx i ls st S with | some (i2, ls2, st2, S2) => xi_ex xi_pg scr n d q.2.2.2 i2 ls2 st2 S2 | none => none) = some (r, S3) → ∃ (i2 : Nat) (ls2 : xi_L) (st2 : List Value) (S2 : xi_S), xi_mm kx i ls st S = some (i2, ls2, st2, S2) ∧ xi_ex xi_pg scr n d q.2.2.2 i2 ls2 st2 S2 = some (r, S3) := fun kx h => by
        cases hs : xi_mm kx i ls st S with
        | none => rw [hs] at h; cases h
        | some z =>
          obtain ⟨i2, ls2, st2, S2⟩ := z
          rw [hs] at h
          exact ⟨i2, ls2, st2, S2, rfl, h⟩
      have oin : (match xi_oin i ls st S with | some (i2, ls2, st2, S2) => xi_ex xi_pg scr n d q.2.2.2 i2 ls2 st2 S2 | none => none) = some (r, S3) → ∃ (i2 : Nat) (ls2 : xi_L) (st2 : List Value) (S2 : xi_S), xi_oin i ls st S = some (i2, ls2, st2, S2) ∧ xi_ex xi_pg scr n d q.2.2.2 i2 ls2 st2 S2 = some (r, S3) := fun h => by
        cases hs : xi_oin i ls st S with
        | none => rw [hs] at h; cases h
        | some z =>
          obtain ⟨i2, ls2, st2, S2⟩ := z
          rw [hs] at h
          exact ⟨i2, ls2, st2, S2, rfl, h⟩
      obtain ⟨con, nf, k1, k2⟩ := e
      cases con with
      | iconst z =>
        obtain ⟨i2, ls2, st2, S2, hs, hk, hb2⟩ := stp hrun
        simp only [xi_ck, Bool.and_eq_true, decide_eq_true_eq] at hck
        exact xi_s_iconst hx hb hck.1 hck.2 hs hk
      | bipush z =>
        obtain ⟨i2, ls2, st2, S2, hs, hk, hb2⟩ := stp hrun
        simp only [xi_ck, Bool.and_eq_true, decide_eq_true_eq] at hck
        exact xi_s_bipush hx hb hck.1 hck.2 hs hk
      | sipush z =>
        obtain ⟨i2, ls2, st2, S2, hs, hk, hb2⟩ := stp hrun
        simp only [xi_ck, Bool.and_eq_true, decide_eq_true_eq] at hck
        exact xi_s_sipush hx hb hck.1 hck.2 hs hk
      | lconst z =>
        obtain ⟨i2, ls2, st2, S2, hs, hk, hb2⟩ := stp hrun
        simp only [xi_ck, Bool.and_eq_true, decide_eq_true_eq] at hck
        exact xi_s_lconst hx hb hck.1 hck.2 hs hk
      | ldc_w z =>
        obtain ⟨i2, ls2, st2, S2, hs, hk, hb2⟩ := stp hrun
        simp only [xi_ck, Bool.and_eq_true, decide_eq_true_eq] at hck
        exact xi_s_ldcw hx hb hown hck.1 (hts _ (xi_CK_mem hck.2)) hs hk
      | ldc2_w z =>
        obtain ⟨i2, ls2, st2, S2, hs, hk, hb2⟩ := stp hrun
        simp only [xi_ck, Bool.and_eq_true, decide_eq_true_eq] at hck
        exact xi_s_ldc2 hx hb hown hck.1 (hts _ (xi_CL_mem hck.2)) hs hk
      | iload z =>
        obtain ⟨i2, ls2, st2, S2, hs, hk, hb2⟩ := stp hrun
        simp only [xi_ck, Bool.and_eq_true, decide_eq_true_eq] at hck
        exact xi_s_iload hx hb hck.1 hck.2 hs hk
      | iload_n z =>
        obtain ⟨i2, ls2, st2, S2, hs, hk, hb2⟩ := stp hrun
        simp only [xi_ck, Bool.and_eq_true, decide_eq_true_eq] at hck
        exact xi_s_iload_n hx hb hck.1 hck.2 hs hk
      | lload z =>
        obtain ⟨i2, ls2, st2, S2, hs, hk, hb2⟩ := stp hrun
        simp only [xi_ck, Bool.and_eq_true, decide_eq_true_eq] at hck
        exact xi_s_lload hx hb hck.1 hck.2 hs hk
      | lload_n z =>
        obtain ⟨i2, ls2, st2, S2, hs, hk, hb2⟩ := stp hrun
        simp only [xi_ck, Bool.and_eq_true, decide_eq_true_eq] at hck
        exact xi_s_lload_n hx hb hck.1 hck.2 hs hk
      | aload_n z =>
        obtain ⟨i2, ls2, st2, S2, hs, hk, hb2⟩ := stp hrun
        simp only [xi_ck, Bool.and_eq_true, decide_eq_true_eq] at hck
        exact xi_s_aload_n hx hb hck.1 hck.2 hs hk
      | istore z =>
        obtain ⟨i2, ls2, st2, S2, hs, hk, hb2⟩ := stp hrun
        simp only [xi_ck, Bool.and_eq_true, decide_eq_true_eq] at hck
        exact xi_s_istore hx hb hck.1 hck.2 hs hk
      | istore_n z =>
        obtain ⟨i2, ls2, st2, S2, hs, hk, hb2⟩ := stp hrun
        simp only [xi_ck, Bool.and_eq_true, decide_eq_true_eq] at hck
        exact xi_s_istore_n hx hb hck.1 hck.2 hs hk
      | lstore z =>
        obtain ⟨i2, ls2, st2, S2, hs, hk, hb2⟩ := stp hrun
        simp only [xi_ck, Bool.and_eq_true, decide_eq_true_eq] at hck
        exact xi_s_lstore hx hb hck.1 hck.2 hs hk
      | lstore_n z =>
        obtain ⟨i2, ls2, st2, S2, hs, hk, hb2⟩ := stp hrun
        simp only [xi_ck, Bool.and_eq_true, decide_eq_true_eq] at hck
        exact xi_s_lstore_n hx hb hck.1 hck.2 hs hk
      | astore_n z =>
        obtain ⟨i2, ls2, st2, S2, hs, hk, hb2⟩ := stp hrun
        simp only [xi_ck, Bool.and_eq_true, decide_eq_true_eq] at hck
        exact xi_s_astore_n hx hb hck.1 hck.2 hs hk
      | iinc z y =>
        obtain ⟨i2, ls2, st2, S2, hs, hk, hb2⟩ := stp hrun
        simp only [xi_ck, Bool.and_eq_true, decide_eq_true_eq] at hck
        exact xi_s_iinc hx hb hck.1.1 hck.1.2 hck.2 hs hk
      | iadd =>
        obtain ⟨i2, ls2, st2, S2, hs, hk, hb2⟩ := stp hrun
        exact xi_s_iadd hx hb hck hs hk
      | isub =>
        obtain ⟨i2, ls2, st2, S2, hs, hk, hb2⟩ := stp hrun
        exact xi_s_isub hx hb hck hs hk
      | imul =>
        obtain ⟨i2, ls2, st2, S2, hs, hk, hb2⟩ := stp hrun
        exact xi_s_imul hx hb hck hs hk
      | iand =>
        obtain ⟨i2, ls2, st2, S2, hs, hk, hb2⟩ := stp hrun
        exact xi_s_iand hx hb hck hs hk
      | ior =>
        obtain ⟨i2, ls2, st2, S2, hs, hk, hb2⟩ := stp hrun
        exact xi_s_ior hx hb hck hs hk
      | ixor =>
        obtain ⟨i2, ls2, st2, S2, hs, hk, hb2⟩ := stp hrun
        exact xi_s_ixor hx hb hck hs hk
      | ishl =>
        obtain ⟨i2, ls2, st2, S2, hs, hk, hb2⟩ := stp hrun
        exact xi_s_ishl hx hb hck hs hk
      | ishr =>
        obtain ⟨i2, ls2, st2, S2, hs, hk, hb2⟩ := stp hrun
        exact xi_s_ishr hx hb hck hs hk
      | iushr =>
        obtain ⟨i2, ls2, st2, S2, hs, hk, hb2⟩ := stp hrun
        exact xi_s_iushr hx hb hck hs hk
      | idiv =>
        obtain ⟨i2, ls2, st2, S2, hs, hk, hb2⟩ := stp hrun
        exact xi_s_idiv hx hb hck hs hk
      | irem =>
        obtain ⟨i2, ls2, st2, S2, hs, hk, hb2⟩ := stp hrun
        exact xi_s_irem hx hb hck hs hk
      | ladd =>
        obtain ⟨i2, ls2, st2, S2, hs, hk, hb2⟩ := stp hrun
        exact xi_s_ladd hx hb hck hs hk
      | lsub =>
        obtain ⟨i2, ls2, st2, S2, hs, hk, hb2⟩ := stp hrun
        exact xi_s_lsub hx hb hck hs hk
      | lmul =>
        obtain ⟨i2, ls2, st2, S2, hs, hk, hb2⟩ := stp hrun
        exact xi_s_lmul hx hb hck hs hk
      | ldiv =>
        obtain ⟨i2, ls2, st2, S2, hs, hk, hb2⟩ := stp hrun
        exact xi_s_ldiv hx hb hck hs hk
      | lrem =>
        obtain ⟨i2, ls2, st2, S2, hs, hk, hb2⟩ := stp hrun
        exact xi_s_lrem hx hb hck hs hk
      | lcmp =>
        obtain ⟨i2, ls2, st2, S2, hs, hk, hb2⟩ := stp hrun
        exact xi_s_lcmp hx hb hck hs hk
      | i2l =>
        obtain ⟨i2, ls2, st2, S2, hs, hk, hb2⟩ := stp hrun
        exact xi_s_i2l hx hb hck hs hk
      | l2i =>
        obtain ⟨i2, ls2, st2, S2, hs, hk, hb2⟩ := stp hrun
        exact xi_s_l2i hx hb hck hs hk
      | i2b =>
        obtain ⟨i2, ls2, st2, S2, hs, hk, hb2⟩ := stp hrun
        exact xi_s_i2b hx hb hck hs hk
      | dup =>
        obtain ⟨i2, ls2, st2, S2, hs, hk, hb2⟩ := stp hrun
        exact xi_s_dup hx hb hck hs hk
      | dup2 =>
        obtain ⟨i2, ls2, st2, S2, hs, hk, hb2⟩ := stp hrun
        exact xi_s_dup2 hx hb hck hs hk
      | pop =>
        obtain ⟨i2, ls2, st2, S2, hs, hk, hb2⟩ := stp hrun
        exact xi_s_pop hx hb hck hs hk
      | iaload =>
        obtain ⟨i2, ls2, st2, S2, hs, hk, hb2⟩ := stp hrun
        exact xi_s_iaload hx hb hck hs hk
      | baload =>
        obtain ⟨i2, ls2, st2, S2, hs, hk, hb2⟩ := stp hrun
        exact xi_s_baload hx hb hck hs hk
      | laload =>
        obtain ⟨i2, ls2, st2, S2, hs, hk, hb2⟩ := stp hrun
        exact xi_s_laload hx hb hck hs hk
      | aaload =>
        obtain ⟨i2, ls2, st2, S2, hs, hk, hb2⟩ := stp hrun
        exact xi_s_aaload hx hb hck hs hk
      | iastore =>
        obtain ⟨i2, ls2, st2, S2, hs, hk, hb2⟩ := stp hrun
        exact xi_s_iastore hx hb hck hs hk
      | bastore =>
        obtain ⟨i2, ls2, st2, S2, hs, hk, hb2⟩ := stp hrun
        exact xi_s_bastore hx hb hck hs hk
      | lastore =>
        obtain ⟨i2, ls2, st2, S2, hs, hk, hb2⟩ := stp hrun
        exact xi_s_lastore hx hb hck hs hk
      | aastore =>
        obtain ⟨i2, ls2, st2, S2, hs, hk, hb2⟩ := stp hrun
        exact xi_s_aastore hx hb hck hs hk
      | arraylength =>
        obtain ⟨i2, ls2, st2, S2, hs, hk, hb2⟩ := stp hrun
        exact xi_s_arraylength hx hb hck hs hk
      | getfield z =>
        obtain ⟨i2, ls2, st2, S2, hs, hk, hb2⟩ := stp hrun
        simp only [xi_ck, Bool.and_eq_true] at hck
        exact xi_s_getfield hx hb hts hown hck.1 hck.2 hs hk
      | putfield z =>
        obtain ⟨i2, ls2, st2, S2, hs, hk, hb2⟩ := stp hrun
        simp only [xi_ck, Bool.and_eq_true] at hck
        exact xi_s_putfield hx hb hts hown (fun h => hini (of_decide_eq_true h)) hck.1 hck.2 hs hk
      | getstatic z =>
        obtain ⟨i2, ls2, st2, S2, hs, hk, hb2⟩ := stp hrun
        simp only [xi_ck, Bool.and_eq_true, decide_eq_true_eq] at hck
        exact xi_s_getstatic hx hb hts hown hck.1.1 hck.1.2 hck.2 hs hk
      | new z =>
        obtain ⟨i2, ls2, st2, S2, hs, hk, hb2⟩ := stp hrun
        simp only [xi_ck, Bool.and_eq_true, decide_eq_true_eq] at hck
        exact xi_s_new hx hb hts hown hck.1.1 hck.1.2 hck.2 hb2.2.2.1 ⟨hb2.1, hb2.2.1⟩ hs hk
      | newarray z =>
        obtain ⟨i2, ls2, st2, S2, hs, hk, hb2⟩ := stp hrun
        simp only [xi_ck, Bool.and_eq_true, decide_eq_true_eq] at hck
        exact xi_s_newarray hx hb hts hck.1 hck.2 hb2.2.2.1 ⟨hb2.1, hb2.2.1⟩ hs hk
      | anewarray z =>
        obtain ⟨i2, ls2, st2, S2, hs, hk, hb2⟩ := stp hrun
        simp only [xi_ck, Bool.and_eq_true, decide_eq_true_eq] at hck
        exact xi_s_anewarray hx hb hts hown hck.1 hck.2 hb2.2.2.1 ⟨hb2.1, hb2.2.1⟩ hs hk
      | multianewarray z y =>
        obtain ⟨i2, ls2, st2, S2, hs, hk, hb2⟩ := stp hrun
        simp only [xi_ck, Bool.and_eq_true, Bool.or_eq_true, decide_eq_true_eq] at hck
        exact xi_s_multi hx hb hts hown hck.1.1 hck.1.2 hck.2 hb2.2.2.2 ⟨hb2.1, hb2.2.1⟩ hs hk
      | goto off =>
        simp only [xi_ck, xi_d, xi_tg, Bool.and_eq_true, decide_eq_true_eq] at hck
        intro ρ H locs cells slots lsC hw hl hs
        exact lv_goto hx hb hck.1 hck.2 (go _ _ _ _ hrun ρ H locs cells slots lsC hw hl hs)
      | ifCond cd off =>
        simp only [xi_ck, xi_tg, Bool.and_eq_true, decide_eq_true_eq] at hck
        obtain ⟨hd, hn⟩ := xi_dn_of hck.1
        simp only at hrun
        rcases st with _ | ⟨v, rr⟩
        · cases hrun
        · cases v with
          | int x =>
            simp only at hrun
            cases cd with
            | eq =>
              simp only at hrun
              intro ρ H locs cells slots lsC hw hl hs
              refine lv_if_eq hx hb hd hck.2 (fun hh => ?_) (fun hh => ?_)
              · rw [if_pos hh] at hrun
                exact go _ _ _ _ hrun ρ H locs cells slots lsC hw hl hs.tail
              · rw [if_neg hh] at hrun
                have hk := go _ _ _ _ hrun
                rw [hn] at hk
                exact hk ρ H locs cells slots lsC hw hl hs.tail
            | ne =>
              simp only at hrun
              intro ρ H locs cells slots lsC hw hl hs
              refine lv_if_ne hx hb hd hck.2 (fun hh => ?_) (fun hh => ?_)
              · rw [if_neg hh] at hrun
                exact go _ _ _ _ hrun ρ H locs cells slots lsC hw hl hs.tail
              · rw [if_pos hh] at hrun
                have hk := go _ _ _ _ hrun
                rw [hn] at hk
                exact hk ρ H locs cells slots lsC hw hl hs.tail
            | lt =>
              simp only at hrun
              intro ρ H locs cells slots lsC hw hl hs
              refine lv_if_lt hx hb hd hck.2 (fun hh => ?_) (fun hh => ?_)
              · rw [if_pos hh] at hrun
                exact go _ _ _ _ hrun ρ H locs cells slots lsC hw hl hs.tail
              · rw [if_neg hh] at hrun
                have hk := go _ _ _ _ hrun
                rw [hn] at hk
                exact hk ρ H locs cells slots lsC hw hl hs.tail
            | ge =>
              simp only at hrun
              intro ρ H locs cells slots lsC hw hl hs
              refine lv_if_ge hx hb hd hck.2 (fun hh => ?_) (fun hh => ?_)
              · rw [if_neg (Int32.not_lt.mpr hh)] at hrun
                exact go _ _ _ _ hrun ρ H locs cells slots lsC hw hl hs.tail
              · rw [if_pos (Int32.not_le.mp hh)] at hrun
                have hk := go _ _ _ _ hrun
                rw [hn] at hk
                exact hk ρ H locs cells slots lsC hw hl hs.tail
            | gt =>
              simp only at hrun
              intro ρ H locs cells slots lsC hw hl hs
              refine lv_if_gt hx hb hd hck.2 (fun hh => ?_) (fun hh => ?_)
              · rw [if_pos hh] at hrun
                exact go _ _ _ _ hrun ρ H locs cells slots lsC hw hl hs.tail
              · rw [if_neg hh] at hrun
                have hk := go _ _ _ _ hrun
                rw [hn] at hk
                exact hk ρ H locs cells slots lsC hw hl hs.tail
            | le =>
              simp only at hrun
              intro ρ H locs cells slots lsC hw hl hs
              refine lv_if_le hx hb hd hck.2 (fun hh => ?_) (fun hh => ?_)
              · rw [if_neg (Int32.not_lt.mpr hh)] at hrun
                exact go _ _ _ _ hrun ρ H locs cells slots lsC hw hl hs.tail
              · rw [if_pos (Int32.not_le.mp hh)] at hrun
                have hk := go _ _ _ _ hrun
                rw [hn] at hk
                exact hk ρ H locs cells slots lsC hw hl hs.tail
          | _ => cases hrun
      | if_icmp cd off =>
        simp only [xi_ck, xi_tg, Bool.and_eq_true, decide_eq_true_eq] at hck
        obtain ⟨hd, hn⟩ := xi_dn_of hck.1
        simp only at hrun
        rcases st with _ | ⟨v, _ | ⟨u, rr⟩⟩
        · cases hrun
        · cases v <;> cases hrun
        · cases v with
          | int y =>
            cases u with
            | int x =>
              simp only at hrun
              cases cd with
              | eq =>
                simp only at hrun
                intro ρ H locs cells slots lsC hw hl hs
                refine lv_icmp_eq hx hb hd hck.2 (fun hh => ?_) (fun hh => ?_)
                · rw [if_pos hh] at hrun
                  exact go _ _ _ _ hrun ρ H locs cells slots lsC hw hl hs.tail.tail
                · rw [if_neg hh] at hrun
                  have hk := go _ _ _ _ hrun
                  rw [hn] at hk
                  exact hk ρ H locs cells slots lsC hw hl hs.tail.tail
              | ne =>
                simp only at hrun
                intro ρ H locs cells slots lsC hw hl hs
                refine lv_icmp_ne hx hb hd hck.2 (fun hh => ?_) (fun hh => ?_)
                · rw [if_neg hh] at hrun
                  exact go _ _ _ _ hrun ρ H locs cells slots lsC hw hl hs.tail.tail
                · rw [if_pos hh] at hrun
                  have hk := go _ _ _ _ hrun
                  rw [hn] at hk
                  exact hk ρ H locs cells slots lsC hw hl hs.tail.tail
              | lt =>
                simp only at hrun
                intro ρ H locs cells slots lsC hw hl hs
                refine lv_icmp_lt hx hb hd hck.2 (fun hh => ?_) (fun hh => ?_)
                · rw [if_pos hh] at hrun
                  exact go _ _ _ _ hrun ρ H locs cells slots lsC hw hl hs.tail.tail
                · rw [if_neg hh] at hrun
                  have hk := go _ _ _ _ hrun
                  rw [hn] at hk
                  exact hk ρ H locs cells slots lsC hw hl hs.tail.tail
              | ge =>
                simp only at hrun
                intro ρ H locs cells slots lsC hw hl hs
                refine lv_icmp_ge hx hb hd hck.2 (fun hh => ?_) (fun hh => ?_)
                · rw [if_neg (Int32.not_lt.mpr hh)] at hrun
                  exact go _ _ _ _ hrun ρ H locs cells slots lsC hw hl hs.tail.tail
                · rw [if_pos (Int32.not_le.mp hh)] at hrun
                  have hk := go _ _ _ _ hrun
                  rw [hn] at hk
                  exact hk ρ H locs cells slots lsC hw hl hs.tail.tail
              | gt =>
                simp only at hrun
                intro ρ H locs cells slots lsC hw hl hs
                refine lv_icmp_gt hx hb hd hck.2 (fun hh => ?_) (fun hh => ?_)
                · rw [if_pos hh] at hrun
                  exact go _ _ _ _ hrun ρ H locs cells slots lsC hw hl hs.tail.tail
                · rw [if_neg hh] at hrun
                  have hk := go _ _ _ _ hrun
                  rw [hn] at hk
                  exact hk ρ H locs cells slots lsC hw hl hs.tail.tail
              | le =>
                simp only at hrun
                intro ρ H locs cells slots lsC hw hl hs
                refine lv_icmp_le hx hb hd hck.2 (fun hh => ?_) (fun hh => ?_)
                · rw [if_neg (Int32.not_lt.mpr hh)] at hrun
                  exact go _ _ _ _ hrun ρ H locs cells slots lsC hw hl hs.tail.tail
                · rw [if_pos (Int32.not_le.mp hh)] at hrun
                  have hk := go _ _ _ _ hrun
                  rw [hn] at hk
                  exact hk ρ H locs cells slots lsC hw hl hs.tail.tail
            | _ => cases hrun
          | _ => cases u <;> cases hrun
      | tableswitch dflt lo hi offs =>
        simp only [xi_ck, xi_d, xi_tg, Bool.and_eq_true, decide_eq_true_eq] at hck
        obtain ⟨⟨⟨hd, ht⟩, hlen⟩, hall⟩ := hck
        simp only at hrun
        rcases st with _ | ⟨v, rr⟩
        · cases hrun
        · cases v with
          | int x =>
            simp only at hrun
            by_cases hc : x.toInt < lo ∨ hi < x.toInt
            · rw [if_pos hc] at hrun
              intro ρ H locs cells slots lsC hw hl hs
              exact lv_tableOut hx hb hd hc ht (go _ _ _ _ hrun ρ H locs cells slots lsC hw hl hs.tail)
            · rw [if_neg hc] at hrun
              cases hnt : nf[(x.toInt - lo).toNat + 1]? with
              | none => rw [hnt] at hrun; cases hrun
              | some t =>
                rw [hnt] at hrun
                have hlt : (x.toInt - lo).toNat < offs.size := by
                  have := (List.getElem?_eq_some_iff.mp hnt).1
                  omega
                have h1 := List.all_eq_true.mp hall _ (List.mem_range.mpr hlt)
                simp only [decide_eq_true_eq] at h1
                rw [List.getD_eq_getElem?_getD, hnt] at h1
                have ho : offs[(x.toInt - lo).toNat]? = some (offs.getD (x.toInt - lo).toNat 0) := by
                  rw [Array.getElem?_eq_getElem hlt]
                  simp [Array.getD, hlt]
                intro ρ H locs cells slots lsC hw hl hs
                exact lv_tableIn hx hb hd (fun e => hc (Or.inl e)) (fun e => hc (Or.inr e)) ho h1 (go _ _ _ _ hrun ρ H locs cells slots lsC hw hl hs.tail)
          | _ => cases hrun
      | ireturn =>
        simp only [xi_ck, xi_d, Bool.and_eq_true, Bool.or_eq_true, decide_eq_true_eq] at hck
        obtain ⟨hd, hty⟩ := hck
        simp only at hrun
        split at hrun
        · next v =>
          split at hrun
          · cases hrun
          · next hnar =>
            cases hrun
            refine hfin _ _ (Or.inl ⟨hd, v, ?_⟩)
            rcases hty with ⟨h1, h2⟩ | ⟨h1, h2⟩
            · exact ⟨.int, rfl, h1, rfl⟩
            · refine ⟨.boolean, rfl, h1, ?_⟩
              have h3 : v &&& 1 = v := Decidable.of_not_not (fun e => hnar ⟨h2, e⟩)
              show Value.int (v &&& 1) = Value.int v
              rw [h3]
        · cases hrun
      | lreturn =>
        simp only [xi_ck, xi_d, Bool.and_eq_true, decide_eq_true_eq] at hck
        simp only at hrun
        split at hrun
        · next v =>
          cases hrun
          exact hfin _ _ (Or.inr (Or.inl ⟨hck.1, hck.2, v, rfl⟩))
        · cases hrun
      | return_ =>
        simp only [xi_ck, xi_d, Bool.and_eq_true, decide_eq_true_eq] at hck
        simp only at hrun
        split at hrun
        · cases hrun
          exact hfin _ _ (Or.inr (Or.inr ⟨hck.1, hck.2, rfl⟩))
        · cases hrun
      | invokevirtual idx =>
        simp only [xi_ck, Bool.and_eq_true] at hck
        obtain ⟨hd, hn⟩ := xi_dn_of hck.1
        obtain ⟨d2, mL, na, c2, rv, S2, rfl, hpg, hn1, hna, hrcv, hlen, hsum, hr1, hr2⟩ := xi_cal_of hrun
        obtain ⟨q2, hq2, hqe⟩ := xi_pg_of hpg
        obtain ⟨m2, mL2, na2, c3⟩ := q2
        cases hqe
        obtain ⟨le1, le2⟩ := xi_pre_le (xi_ex_pre _ _ _ _ _ _ _ _ _ hr2)
        have hk := go _ _ _ _ hr2
        rw [hn] at hk
        obtain ⟨hμ, hkd, hML, hcl⟩ := xi_cck_of hck.2 hq2
        obtain ⟨hl3, h2, h9⟩ := hcl (by decide)
        obtain ⟨b, nn, hst, hSb⟩ := xi_rcv_of hrcv hl3 hn1 h2
        exact xi_s_virtual ih hOK hx hb hml hts hown hRf (by omega) hq2 hμ hkd (hML.resolve_right (fun e => by cases e.1)) hst hSb h9 hd hna hlen hsum hr1 (by omega) ⟨by omega, by omega⟩ hk
      | invokestatic idx =>
        simp only [xi_ck, Bool.and_eq_true] at hck
        simp only at hrun
        cases nf with
        | nil =>
          simp only [decide_eq_true_eq] at hck
          obtain ⟨i2, ls2, st2, S2, hs, h2⟩ := cpy hrun
          exact xi_s_cpy hx hb hts hown hml ⟨by omega, by omega⟩ hck.1 hck.2 hs (go _ _ _ _ h2)
        | cons z y =>
         cases y with
         | nil =>
          simp only [Bool.or_eq_true, Bool.and_eq_true, decide_eq_true_eq] at hck
          obtain ⟨i2, ls2, st2, S2, hs, h2⟩ := mmx z hrun
          obtain ⟨le1, le2⟩ := xi_pre_le (xi_ex_pre _ _ _ _ _ _ _ _ _ h2)
          have hsame := xi_p_mm hs
          have hsz : xi_sz S2 = xi_sz S := by unfold xi_sz; rw [hsame]
          rw [hsame] at le1
          exact xi_s_mm hx hb hts hown hml ⟨by omega, by omega⟩ ⟨by omega, by omega⟩ hck.1 hck.2 hs (go _ _ _ _ h2)
         | cons y1 y2 =>
          obtain ⟨hd, hn⟩ := xi_dn_of hck.1
          obtain ⟨d2, mL, na, c2, rv, S2, rfl, hpg, hn1, hna, hrcv, hlen, hsum, hr1, hr2⟩ := xi_cal_of hrun
          obtain ⟨q2, hq2, hqe⟩ := xi_pg_of hpg
          obtain ⟨m2, mL2, na2, c3⟩ := q2
          cases hqe
          obtain ⟨le1, le2⟩ := xi_pre_le (xi_ex_pre _ _ _ _ _ _ _ _ _ hr2)
          have hk := go _ _ _ _ hr2
          rw [hn] at hk
          obtain ⟨hμ, hkd, hML, hcl⟩ := xi_cck_of hck.2 hq2
          exact xi_s_static ih hOK hx hb hml hts hown hRf (by omega) hq2 hμ hkd (hML.resolve_right (fun e => by cases e.1)) hd hna hlen hsum hr1 (by omega) ⟨by omega, by omega⟩ hk
      | invokespecial idx =>
        simp only [xi_ck, Bool.and_eq_true] at hck
        simp only at hrun
        cases nf with
        | nil =>
          simp only [decide_eq_true_eq] at hck
          obtain ⟨i2, ls2, st2, S2, hs, h2⟩ := oin hrun
          exact xi_s_oin hx hb hts hown hml ⟨by omega, by omega⟩ hck.1 hck.2 hs (go _ _ _ _ h2)
        | cons z y =>
          obtain ⟨hd, hn⟩ := xi_dn_of hck.1
          obtain ⟨d2, mL, na, c2, rv, S2, rfl, hpg, hn1, hna, hrcv, hlen, hsum, hr1, hr2⟩ := xi_cal_of hrun
          obtain ⟨q2, hq2, hqe⟩ := xi_pg_of hpg
          obtain ⟨m2, mL2, na2, c3⟩ := q2
          cases hqe
          obtain ⟨le1, le2⟩ := xi_pre_le (xi_ex_pre _ _ _ _ _ _ _ _ _ hr2)
          have hk := go _ _ _ _ hr2
          rw [hn] at hk
          obtain ⟨hμ, hkd, hML, hcl⟩ := xi_cck_of hck.2 hq2
          obtain ⟨hl3, h2, h9⟩ := hcl (by decide)
          obtain ⟨b, nn, hst, hSb⟩ := xi_rcv_of hrcv hl3 hn1 h2
          exact xi_s_init ih hOK hx hb hml hts hown hRf (by omega) hq2 hμ hkd (hML.elim Or.inl (fun e => Or.inr e.2)) hst hd hna hlen hsum hr1 (by omega) ⟨by omega, by omega⟩ hk
      | _ =>
        obtain ⟨i2, ls2, st2, S2, hs, hk, hb2⟩ := stp hrun
        cases hs
