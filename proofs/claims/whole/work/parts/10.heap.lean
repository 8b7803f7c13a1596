/-! the heap's instructions -/
theorem xi_FL_mem {w own idx ci j : Nat} (h : xi_FL[w]? = some (own, idx, ci, j)) : Cond.fieldLink (xi_cA own) idx (xi_T ci j).1 (xi_T ci j).2.1 (xi_T ci j).2.2.1 ∈ xi_tb :=
  xi_tb_of (List.mem_append_right _ (xi_pk_mem _ _ _ xi_w_FL _ (List.mem_map.mpr ⟨_, List.mem_of_getElem? h, rfl⟩))) rfl
theorem xi_KL_mem {w own idx k : Nat} (h : xi_KL[w]? = some (own, idx, k)) : Cond.classLink (xi_cA own) idx (xi_kn k) ∈ xi_tb :=
  xi_tb_of (List.mem_append_right _ (xi_pk_mem _ _ _ xi_w_KL _ (List.mem_map.mpr ⟨_, List.mem_of_getElem? h, rfl⟩))) rfl
theorem xi_FN_mem {w own idx k : Nat} (h : xi_FN[w]? = some (own, idx, k)) : Cond.fieldLinkNest (xi_cA own) idx "GuineaHours" (if k = 0 then "KIND_LETTERS" else "KIND_EXTRA") (if k = 0 then "[B" else "[I") "GuineaHours" ∈ xi_tb :=
  xi_tb_of (List.mem_append_right _ (xi_pk_mem _ _ _ xi_w_FN _ (List.mem_map.mpr ⟨_, List.mem_of_getElem? h, rfl⟩))) rfl
theorem xi_CK_mem {w own idx : Nat} {v : Int32} (h : xi_CK[w]? = some (own, idx, v)) : Cond.constant (xi_cA own) idx v ∈ xi_tb :=
  xi_tb_of (List.mem_append_right _ (xi_pk_mem _ _ _ xi_w_CK _ (List.mem_map.mpr ⟨_, List.mem_of_getElem? h, rfl⟩))) rfl
theorem xi_CL_mem {w own idx : Nat} {v : Int64} (h : xi_CL[w]? = some (own, idx, v)) : Cond.constantLong (xi_cA own) idx v ∈ xi_tb :=
  xi_tb_of (List.mem_append_right _ (xi_pk_mem _ _ _ xi_w_CL _ (List.mem_map.mpr ⟨_, List.mem_of_getElem? h, rfl⟩))) rfl
theorem xi_ML_mem {w own idx μ : Nat} (h : xi_ML[w]? = some (own, idx, μ)) : Cond.methodLink (xi_cA own) idx (xi_y μ) ∈ xi_tb :=
  xi_tb_of (List.mem_append_right _ (xi_pk_mem _ _ _ xi_w_ML _ (List.mem_map.mpr ⟨_, List.mem_of_getElem? h, rfl⟩))) rfl
theorem xi_MN_mem {w own idx μ : Nat} (h : xi_MN[w]? = some (own, idx, μ)) : Cond.methodLinkNest (xi_cA own) idx (xi_y μ) "GuineaHours" ∈ xi_tb :=
  xi_tb_of (List.mem_append_right _ (xi_pk_mem _ _ _ xi_w_MN _ (List.mem_map.mpr ⟨_, List.mem_of_getElem? h, rfl⟩))) rfl
theorem xi_gv_wv {S : xi_S} {k j f : Nat} (hwf : xi_wf S) (hk : k < S.1.length) : xi_wv S.1.length (xi_gv S k j f) := by
  unfold xi_gv
  split
  · trivial
  · trivial
  · trivial
  · cases hh : S.2.2.2 k j with
    | none => trivial
    | some r => exact Or.inl (hwf k j r hk hh)
theorem xi_and1 {x : Int32} (h : x &&& 1 = x) : x = 0 ∨ x = 1 := by
  have h2 : x.toBitVec &&& 1#32 = x.toBitVec := congrArg Int32.toBitVec h
  have h3 : x.toBitVec.toNat % 2 = x.toBitVec.toNat := by
    have := congrArg BitVec.toNat h2
    rw [BitVec.toNat_and] at this
    rw [← Nat.and_one_is_mod]
    exact this
  have h4 : x.toBitVec.toNat = 0 ∨ x.toBitVec.toNat = 1 := by omega
  rcases h4 with h4 | h4
  · exact Or.inl (Int32.toBitVec_inj.mp (BitVec.eq_of_toNat_eq h4))
  · exact Or.inr (Int32.toBitVec_inj.mp (BitVec.eq_of_toNat_eq h4))

theorem xi_cA_eq {ci : Nat} (h : ci < 9) : xi_cn ci = xi_cA ci := by
  rcases (show ci = 0 ∨ ci = 1 ∨ ci = 2 ∨ ci = 3 ∨ ci = 4 ∨ ci = 5 ∨ ci = 6 ∨ ci = 7 ∨ ci = 8 by omega) with rfl | rfl | rfl | rfl | rfl | rfl | rfl | rfl | rfl <;> rfl
theorem xi_up_ne2 {α : Type} {f : Nat → Nat → α} {k j : Nat} {v : α} {b : Nat} (h : b ≠ j) : xi_up f k j v k b = f k b := by simp [xi_up, h]
theorem xi_up_self {α : Type} {f : Nat → Nat → α} {k j : Nat} {v : α} : xi_up f k j v k j = v := by simp [xi_up]
section XIS
variable {p : Program} {l : Launch} {en : Env} {R : Room} {s : State} {m : MethodId} {args : Array Value} {below : List Frame} {meth : Method} {c : Code} {Q : State → Prop} {D : va_G} {cs : Nat → ClassId} {scr : xi_X} {A : Nat → Prop} {nL : Nat} {ρ0 : Nat → Nat} {N0 L0 : Nat} {cc : ByteArray} {pcs : Nat → Nat} {i i2 : Nat} {ls ls2 : xi_L} {st st2 : List Value} {S S2 : xi_S} {nf : List Nat} {k1 : Int32} {k2 : Int64}

theorem xi_fck_of {own : Nat} {ini put : Bool} {n w : Nat} (h : xi_fck own ini n w put nf = true) : ∃ ci j, nf = [ci, j, xi_kd ci j] ∧ ci < 9 ∧ j < xi_nf ci ∧ xi_FL[w]? = some (own, n, ci, j) := by
  rcases nf with _ | ⟨ci, _ | ⟨j, _ | ⟨f, _ | ⟨z, y⟩⟩⟩⟩
  · simp [xi_fck] at h
  · simp [xi_fck] at h
  · simp [xi_fck] at h
  · simp only [xi_fck, Bool.and_eq_true, decide_eq_true_eq] at h
    obtain ⟨⟨⟨⟨h1, h2⟩, h3⟩, h4⟩, -⟩ := h
    exact ⟨ci, j, by rw [h4], h2, h3, h1⟩
  · simp [xi_fck] at h
theorem xi_get_of {ci j f : Nat} (h : xi_get [ci, j, f] i ls st S = some (i2, ls2, st2, S2)) : ∃ a r nn, st = .ref a :: r ∧ S.1[a]? = some (ci, nn) ∧ i2 = i + 1 ∧ ls2 = ls ∧ st2 = xi_gv S a j f :: r ∧ S2 = S := by
  rcases st with _ | ⟨v, r⟩
  · simp [xi_get] at h
  · cases v with
    | ref a =>
      simp only [xi_get] at h
      cases hq : S.1[a]? with
      | none => rw [hq] at h; cases h
      | some q =>
        obtain ⟨t, nn⟩ := q
        rw [hq] at h
        simp only at h
        by_cases ht : t = ci
        · rw [if_pos ht] at h
          simp only [Option.some.injEq, Prod.mk.injEq] at h
          exact ⟨a, r, nn, rfl, by rw [hq, ht], h.1.symm, h.2.1.symm, h.2.2.1.symm, h.2.2.2.symm⟩
        · rw [if_neg ht] at h
          cases h
    | _ => simp [xi_get] at h
theorem xi_put_of {ci j f : Nat} (h : xi_put [ci, j, f] i ls st S = some (i2, ls2, st2, S2)) : ∃ v a r nn, st = v :: .ref a :: r ∧ S.1[a]? = some (ci, nn) ∧ i2 = i + 1 ∧ ls2 = ls ∧ st2 = r ∧ xi_pv S a j f v = some S2 := by
  rcases st with _ | ⟨v, _ | ⟨u, r⟩⟩
  · simp [xi_put] at h
  · simp [xi_put] at h
  · cases u with
    | ref a =>
      simp only [xi_put] at h
      cases hq : S.1[a]? with
      | none => rw [hq] at h; cases h
      | some q =>
        obtain ⟨t, nn⟩ := q
        rw [hq] at h
        simp only at h
        by_cases ht : t = ci
        · rw [if_pos ht] at h
          cases hp : xi_pv S a j f v with
          | none => rw [hp] at h; cases h
          | some S3 =>
            rw [hp] at h
            simp only [Option.some.injEq, Prod.mk.injEq] at h
            exact ⟨v, a, r, nn, rfl, by rw [hq, ht], h.1.symm, h.2.1.symm, h.2.2.1.symm, by rw [hp, h.2.2.2]⟩
        · rw [if_neg ht] at h
          cases h
    | _ => simp [xi_put] at h
theorem xi_s_getfield (hx : p.tables.exec = Jvm.exec) (hb : c.code = cc) (hts : ∀ w ∈ xi_tb, w.before args s = true) {own : Nat} (hown : s.vm.findClass (xi_cA own) = some m.cls) {ini : Bool} {n w : Nat} (hd : xi_dn cc pcs i (.getfield n, nf, k1, k2) 3 = true) (hck : xi_fck own ini n w false nf = true) (h : xi_stp scr (.getfield n, nf, k1, k2) i ls st S = some (i2, ls2, st2, S2)) (k : xi_G p l en R s m args below meth c Q D cs scr A nL ρ0 N0 L0 (pcs i2) ls2 (st2) S2) : xi_G p l en R s m args below meth c Q D cs scr A nL ρ0 N0 L0 (pcs i) ls (st) S := by
  obtain ⟨hd, hn⟩ := xi_dn_of hd
  obtain ⟨ci, j, rfl, hci, hj, hFL⟩ := xi_fck_of hck
  obtain ⟨a, r, nn, rfl, hq, rfl, rfl, rfl, rfl⟩ := xi_get_of h
  intro ρ H locs cells slots lsC hw hl hs
  rw [hn] at k
  have he := xi_ws_at (cs := cs) (ρ := ρ) hq
  rw [xi_ec_o hci] at he
  exact va_get (C := xi_cn ci) (T := xi_T ci) (N := xi_nf ci) (ref := (xi_T ci j).1) hx hb hts (xi_in hci) hown hw.1 hw.2.1 a he (xi_cl_at hci) j hj (hts _ (xi_FL_mem hFL)) (fun _ h => h) (xi_fs_at hj) hd (k ρ H locs cells slots lsC hw hl (hs.tail.cons (xi_gv_wv hw.2.2.2.2.2.2.1 (List.getElem?_eq_some_iff.mp hq).1)))
theorem xi_put_core (hx : p.tables.exec = Jvm.exec) (hb : c.code = cc) (hts : ∀ w ∈ xi_tb, w.before args s = true) {own : Nat} (hown : s.vm.findClass (xi_cA own) = some m.cls) {ini : Bool} (hini : ini = true → meth.name = "<init>") {n w a ci j nn : Nat} {v : Value} {r : List Value} (hd : decode cc (pcs i) = .ok (.putfield n, 3)) (hck : xi_fck own ini n w true [ci, j, xi_kd ci j] = true) (hq : S.1[a]? = some (ci, nn)) (hs1 : S2.1 = S.1) (hne : ∀ b, b ≠ a → S2.2.1 b = S.2.1 b ∧ S2.2.2.1 b = S.2.2.1 b ∧ S2.2.2.2 b = S.2.2.2 b) (hnj : ∀ b, b ≠ j → S2.2.1 a b = S.2.1 a b ∧ S2.2.2.1 a b = S.2.2.1 a b ∧ S2.2.2.2 a b = S.2.2.2 a b)
    (hval : xi_gv S2 a j (xi_kd ci j) = v) (hnar : ∀ ρ, narrow (xi_ft ci j) (xi_cv ρ v) = xi_cv ρ v) (hfit : ∀ ρ, fits (xi_ft ci j) (xi_cv ρ v) = true) (hwf : xi_wf S → xi_wf S2) (k : xi_G p l en R s m args below meth c Q D cs scr A nL ρ0 N0 L0 (pcs i + 3) ls (r) S2) : xi_G p l en R s m args below meth c Q D cs scr A nL ρ0 N0 L0 (pcs i) ls (v :: .ref a :: r) S := by
  simp only [xi_fck, Bool.and_eq_true, decide_eq_true_eq, Bool.not_true, Bool.false_or, Bool.or_eq_true, Bool.not_eq_true'] at hck
  obtain ⟨⟨⟨⟨hFL, hci⟩, hj⟩, -⟩, hfin⟩ := hck
  intro ρ H locs cells slots lsC hw hl hs
  have he := xi_ws_at (cs := cs) (ρ := ρ) hq
  rw [xi_ec_o hci] at he
  have hws : xi_ws cs ρ S2 = (xi_ws cs ρ S).set a (ρ a, .inr (ci, (xi_fs ρ S a ci).set j (xi_cv ρ v))) := by
    rw [xi_ws_set hs1 hq (fun b hb => (hne b hb).1) (fun b hb => (hne b hb).2.1) (fun b hb => (hne b hb).2.2), xi_ec_o hci, xi_fs_set hj (by rw [hval]) hnj]
  have hlen : j < (xi_fs ρ S a ci).length := by rw [xi_fs_len]; exact hj
  have hrest : ∀ (H1 : Heap) (locs1 : List Loc), va_P D xi_cl ((xi_ws cs ρ S).set a (ρ a, .inr (ci, (xi_fs ρ S a ci).set j (xi_cv ρ v)))) H1 → va_D A ((xi_ws cs ρ S).set a (ρ a, .inr (ci, (xi_fs ρ S a ci).set j (xi_cv ρ v)))) → va_S A s.heap H1 locs1 → W p l en R s m args below meth c H1 locs1 cells slots Q (F0 m (pcs i + 3) lsC (r.map (xi_cv ρ))) := by
    intro H1 locs1 hP1 hD1 hS1
    rw [← hws] at hP1 hD1
    refine k ρ H1 locs1 cells slots lsC ⟨hw.1, hP1, hD1, hS1, hw.2.2.2.2.1, hw.2.2.2.2.2.1, hwf hw.2.2.2.2.2.2.1, hw.2.2.2.2.2.2.2.1, by rw [hs1]; exact hw.2.2.2.2.2.2.2.2.1, ?_⟩ (by rw [hs1]; exact hl) (by rw [hs1]; exact hs.tail.tail)
    unfold xi_sz
    rw [hs1]
    exact hw.2.2.2.2.2.2.2.2.2
  cases hb2 : (xi_T ci j).2.2.2 with
  | false =>
    exact va_put (C := xi_cn ci) (T := xi_T ci) (N := xi_nf ci) (ref := (xi_T ci j).1) hx hb hts (xi_in hci) (xi_ft ci) (xi_ty ci hci) (xi_nm ci hci) hown hw.1 hw.2.1 hw.2.2.1 hw.2.2.2.1 a he (xi_cl_at hci) j hj (hts _ (xi_FL_mem hFL)) (fun _ h => h) hb2 (xi_ty ci hci j hj) (hnar ρ) (hfit ρ) hlen hd hrest
  | true =>
    rcases hfin with hfin | ⟨hi, hco⟩
    · rw [hb2] at hfin
      cases hfin
    · subst hco
      exact va_putF (C := xi_cn ci) (T := xi_T ci) (N := xi_nf ci) (ref := (xi_T ci j).1) hx hb hts (xi_in hci) (xi_ft ci) (xi_ty ci hci) (xi_nm ci hci) hown hw.1 hw.2.1 hw.2.2.1 hw.2.2.2.1 a he (xi_cl_at hci) j hj (hts _ (xi_FL_mem hFL)) (fun _ h => h) hb2 (hini hi) (by rw [xi_decl ci hci j hj]; exact xi_cA_eq hci) (xi_ty ci hci j hj) (hnar ρ) (hfit ρ) hlen hd hrest
/-- what a field's kind asks of a value -/
theorem xi_pv_of {ci a j : Nat} {v : Value} (hci : ci < 9) (hj : j < xi_nf ci) (h : xi_pv S a j (xi_kd ci j) v = some S2) : S2.1 = S.1 ∧ (∀ b, b ≠ a → S2.2.1 b = S.2.1 b ∧ S2.2.2.1 b = S.2.2.1 b ∧ S2.2.2.2 b = S.2.2.2 b) ∧ (∀ b, b ≠ j → S2.2.1 a b = S.2.1 a b ∧ S2.2.2.1 a b = S.2.2.1 a b ∧ S2.2.2.2 a b = S.2.2.2 a b) ∧
    xi_gv S2 a j (xi_kd ci j) = v ∧ (∀ ρ, narrow (xi_ft ci j) (xi_cv ρ v) = xi_cv ρ v) ∧ (∀ ρ, fits (xi_ft ci j) (xi_cv ρ v) = true) ∧ (xi_wf S → xi_wf S2) := by
  rcases xi_kd_ok ci hci j hj with ⟨hk, ht⟩ | ⟨hk, ht⟩ | ⟨hk, ht⟩ | ⟨hk, ht⟩
  · rw [hk] at h ⊢
    cases v with
    | int x =>
      cases h
      refine ⟨rfl, fun b hb => ⟨xi_up_ne hb, rfl, rfl⟩, fun b hb => ⟨xi_up_ne2 hb, rfl, rfl⟩, ?_, fun ρ => by rw [ht]; rfl, fun ρ => by rw [ht]; rfl, fun hwf => hwf⟩
      show Value.int (xi_up _ _ _ _ _ _) = _
      rw [xi_up_self]
    | _ => cases h
  · rw [hk] at h ⊢
    cases v with
    | long x =>
      cases h
      refine ⟨rfl, fun b hb => ⟨rfl, xi_up_ne hb, rfl⟩, fun b hb => ⟨rfl, xi_up_ne2 hb, rfl⟩, ?_, fun ρ => by rw [ht]; rfl, fun ρ => by rw [ht]; rfl, fun hwf => hwf⟩
      show Value.long (xi_up _ _ _ _ _ _) = _
      rw [xi_up_self]
    | _ => cases h
  · rw [hk] at h ⊢
    cases v with
    | int x =>
      simp only [xi_pv] at h
      by_cases hx1 : x &&& 1 = x
      · rw [if_pos hx1] at h
        cases h
        refine ⟨rfl, fun b hb => ⟨xi_up_ne hb, rfl, rfl⟩, fun b hb => ⟨xi_up_ne2 hb, rfl, rfl⟩, ?_, fun ρ => by rw [ht]; show Value.int (x &&& 1) = Value.int x; rw [hx1], fun ρ => by rw [ht]; show (x == 0 || x == 1) = true; rcases xi_and1 hx1 with rfl | rfl <;> rfl, fun hwf => hwf⟩
        show Value.int (xi_up _ _ _ _ _ _) = _
        rw [xi_up_self]
      · rw [if_neg hx1] at h
        cases h
    | _ => cases h
  · rw [hk] at h ⊢
    cases v with
    | ref x =>
      simp only [xi_pv] at h
      by_cases hlt : x < S.1.length
      · rw [if_pos hlt] at h
        cases h
        refine ⟨rfl, fun b hb => ⟨rfl, rfl, xi_up_ne hb⟩, fun b hb => ⟨rfl, rfl, xi_up_ne2 hb⟩, ?_, fun ρ => by cases xi_ft ci j <;> rfl, fun ρ => ?_, ?_⟩
        · show va_rf (xi_up _ _ _ _ _ _) = _
          rw [xi_up_self]
          rfl
        · revert ht
          cases xi_ft ci j <;> intro ht <;> first | rfl | cases ht
        · intro hwf b j2 r2 hb hr
          have hr : xi_up S.2.2.2 a j (some x) b j2 = some r2 := hr
          by_cases e : b = a
          · subst e
            by_cases e2 : j2 = j
            · subst e2
              rw [xi_up_self] at hr
              cases hr
              exact hlt
            · rw [xi_up_ne2 e2] at hr
              exact hwf b j2 r2 hb hr
          · rw [xi_up_ne e] at hr
            exact hwf b j2 r2 hb hr
      · rw [if_neg hlt] at h
        cases h
    | _ => cases h
theorem xi_s_putfield (hx : p.tables.exec = Jvm.exec) (hb : c.code = cc) (hts : ∀ w ∈ xi_tb, w.before args s = true) {own : Nat} (hown : s.vm.findClass (xi_cA own) = some m.cls) {ini : Bool} (hini : ini = true → meth.name = "<init>") {n w : Nat} (hd : xi_dn cc pcs i (.putfield n, nf, k1, k2) 3 = true) (hck : xi_fck own ini n w true nf = true) (h : xi_stp scr (.putfield n, nf, k1, k2) i ls st S = some (i2, ls2, st2, S2)) (k : xi_G p l en R s m args below meth c Q D cs scr A nL ρ0 N0 L0 (pcs i2) ls2 (st2) S2) : xi_G p l en R s m args below meth c Q D cs scr A nL ρ0 N0 L0 (pcs i) ls (st) S := by
  obtain ⟨hd, hn⟩ := xi_dn_of hd
  obtain ⟨ci, j, rfl, hci, hj, hFL⟩ := xi_fck_of hck
  obtain ⟨v, a, r, nn, rfl, hq, rfl, rfl, rfl, hp⟩ := xi_put_of h
  rw [hn] at k
  obtain ⟨h1, h2, h3, h4, h5, h6, h7⟩ := xi_pv_of hci hj hp
  exact xi_put_core hx hb hts hown hini hd hck hq h1 h2 h3 h4 h5 h6 h7 k
end XIS
