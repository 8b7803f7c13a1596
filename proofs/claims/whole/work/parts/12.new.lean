/-! new cells -/
theorem xi_ws_app {cs : Nat → ClassId} {ρ ρ2 : Nat → Nat} {S S2 : xi_S} {q : Nat × Nat} (hs : S2.1 = S.1 ++ [q]) (hwf : xi_wf S) (h1 : ∀ a, a < S.1.length → S2.2.1 a = S.2.1 a) (h2 : ∀ a, a < S.1.length → S2.2.2.1 a = S.2.2.1 a) (h3 : ∀ a, a < S.1.length → S2.2.2.2 a = S.2.2.2 a) (hρ : ∀ a, a < S.1.length → ρ2 a = ρ a) : xi_ws cs ρ2 S2 = xi_ws cs ρ S ++ [(ρ2 S.1.length, xi_ec cs ρ2 S2 S.1.length q)] := by
  apply List.ext_getElem?
  intro n
  have hl : (xi_ws cs ρ S).length = S.1.length := by unfold xi_ws; rw [List.length_mapIdx]
  by_cases hn : n < S.1.length
  · rw [List.getElem?_append_left (by rw [hl]; exact hn)]
    unfold xi_ws
    rw [List.getElem?_mapIdx, List.getElem?_mapIdx, hs, List.getElem?_append_left hn]
    cases hq : S.1[n]? with
    | none => rfl
    | some x =>
      simp only [Option.map_some]
      rw [hρ n hn, xi_ec_eq (h1 n hn) (h2 n hn) (h3 n hn) (fun j r hr => hρ r (hwf n j r hn hr))]
  · rw [List.getElem?_append_right (by rw [hl]; omega), hl]
    unfold xi_ws
    rw [List.getElem?_mapIdx, hs, List.getElem?_append_right (by omega)]
    by_cases h0 : n = S.1.length
    · subst h0
      simp
    · have : ∃ d, n - S.1.length = d + 1 := ⟨n - S.1.length - 1, by omega⟩
      obtain ⟨d, hd⟩ := this
      rw [hd]
      rfl
theorem xi_lr.ext {ρ ρ2 : Nat → Nat} {N N2 : Nat} {ls : xi_L} {lsC : Array Slot} {nL : Nat} (h : xi_lr ρ N ls lsC nL) (hN : N ≤ N2) (hρ : ∀ k, k < N ∨ 1000000 ≤ k → ρ2 k = ρ k) : xi_lr ρ2 N2 ls lsC nL :=
  ⟨h.1, h.2.1, h.2.2.1, h.2.2.2.1.mono hN, fun j v hv => by rw [xi_cv_eq hρ (h.2.2.2.1 v (List.mem_of_getElem? hv))]; exact h.2.2.2.2 j v hv⟩
theorem xi_sum_app (S : List (Nat × Nat)) (q : Nat × Nat) : ((S ++ [q]).map (fun q => q.2)).sum = (S.map (fun q => q.2)).sum + q.2 := by simp
def xi_df (f : Nat) : Value := match f with
  | 0 => .int 0
  | 1 => .long 0
  | 3 => .int 0
  | _ => .null
theorem xi_df_ok : ∀ ci, ci < 9 → ∀ j, j < xi_nf ci → defaultValue (xi_ft ci j) = xi_df (xi_kd ci j) := by decide +kernel
/-- the store with one more cell -/
def xi_S1 (S : xi_S) (q : Nat × Nat) : xi_S := (S.1 ++ [q], xi_ua S.2.1 S.1.length (fun _ => 0), xi_ua S.2.2.1 S.1.length (fun _ => 0), xi_ua S.2.2.2 S.1.length (fun _ => none))
theorem xi_S1_wf {S : xi_S} {q : Nat × Nat} (h : xi_wf S) : xi_wf (xi_S1 S q) := by
  intro k j r hk hr
  have hk : k < (S.1 ++ [q]).length := hk
  rw [List.length_append, List.length_singleton] at hk
  have hr : xi_ua S.2.2.2 S.1.length (fun _ => none) k j = some r := hr
  show r < (S.1 ++ [q]).length
  rw [List.length_append, List.length_singleton]
  by_cases e : k = S.1.length
  · subst e
    rw [xi_ua_at] at hr
    cases hr
  · rw [xi_ua_ne e] at hr
    exact Nat.lt_succ_of_lt (h k j r (by omega) hr)
theorem xi_fs_new {ρ : Nat → Nat} {S : xi_S} {t n : Nat} : xi_fs ρ (xi_S1 S (t, n)) S.1.length t = (List.range (xi_nf t)).map (fun j => xi_df (xi_kd t j)) := by
  unfold xi_fs
  apply List.map_congr_left
  intro j _
  unfold xi_gv xi_df xi_S1
  simp only [xi_ua_at]
  split <;> (simp_all <;> rfl)

section XIS
variable {p : Program} {l : Launch} {en : Env} {R : Room} {s : State} {m : MethodId} {args : Array Value} {below : List Frame} {meth : Method} {c : Code} {Q : State → Prop} {D : va_G} {cs : Nat → ClassId} {scr : xi_X} {A : Nat → Prop} {nL : Nat} {ρ0 : Nat → Nat} {N0 L0 : Nat} {cc : ByteArray} {pcs : Nat → Nat} {i i2 : Nat} {ls ls2 : xi_L} {st st2 : List Value} {S S2 : xi_S} {nf : List Nat} {k1 : Int32} {k2 : Int64}

/-- behind the making of a cell -/
theorem xi_new_core {t N2 n : Nat} {r : List Value} {e0 : va_E} {ρ : Nat → Nat} {H1 : Heap} {locs : List Loc} {cells slots q : Nat} {lsC : Array Slot} {H : Heap} (hN : S.1.length < 1000000) (hw : xi_wr D cs scr A s ρ0 N0 L0 cells slots ρ S H locs) (hl : xi_lr ρ S.1.length ls lsC nL) (hs : xi_wst S.1.length r)
    (he : ∀ ρ2 : Nat → Nat, xi_ec cs ρ2 (xi_S1 S (t, N2)) S.1.length (t, N2) = e0) (hP1 : va_P D xi_cl (xi_ws cs ρ S ++ [(q, e0)]) H1) (hD1 : va_D A (xi_ws cs ρ S ++ [(q, e0)])) (hS1 : va_S A s.heap H1 locs) (k : xi_G p l en R s m args below meth c Q D cs scr A nL ρ0 N0 L0 (pcs i + n) ls (.ref S.1.length :: r) (xi_S1 S (t, N2))) :
    W p l en R s m args below meth c H1 locs (cells + 1) (slots + N2) Q (F0 m (pcs i + n) lsC (.ref q :: r.map (xi_cv ρ))) := by
  obtain ⟨ρ2, hρ2⟩ : ∃ ρ2 : Nat → Nat, ρ2 = fun x => if x = S.1.length then q else ρ x := ⟨_, rfl⟩
  have hq : ρ2 S.1.length = q := by rw [hρ2]; simp
  have hlt : ∀ a, a < S.1.length ∨ 1000000 ≤ a → ρ2 a = ρ a := fun a ha => by rw [hρ2]; simp only; rw [if_neg (by omega)]
  have hws : xi_ws cs ρ2 (xi_S1 S (t, N2)) = xi_ws cs ρ S ++ [(q, e0)] := by
    rw [xi_ws_app (S := S) (S2 := xi_S1 S (t, N2)) rfl hw.2.2.2.2.2.2.1 (fun a ha => xi_ua_ne (by omega)) (fun a ha => xi_ua_ne (by omega)) (fun a ha => xi_ua_ne (by omega)) (fun a ha => hlt a (Or.inl ha)), hq, he]
  rw [← hws] at hP1 hD1
  have hlen : (xi_S1 S (t, N2)).1.length = S.1.length + 1 := by show (S.1 ++ [(t, N2)]).length = _; simp
  have hz : xi_sz (xi_S1 S (t, N2)) = L0 + (slots + N2) := by
    show ((S.1 ++ [(t, N2)]).map (fun q => q.2)).sum = _
    rw [xi_sum_app]
    have := hw.2.2.2.2.2.2.2.2.2
    unfold xi_sz at this
    omega
  have hn := hw.2.2.2.2.2.2.2.2.1
  have kk := k ρ2 H1 locs (cells + 1) (slots + N2) lsC ⟨hw.1, hP1, hD1, hS1, hw.2.2.2.2.1, hw.2.2.2.2.2.1, xi_S1_wf hw.2.2.2.2.2.2.1, fun a ha => by rw [hlt a (by omega)]; exact hw.2.2.2.2.2.2.2.1 a ha, by rw [hlen]; omega, hz⟩ (by rw [hlen]; exact hl.ext (by omega) hlt) (by rw [hlen]; exact (hs.mono (Nat.le_succ _)).cons (Or.inl (Nat.lt_succ_self _)))
  rw [List.map_cons, xi_cv_map hlt hs] at kk
  rw [show xi_cv ρ2 (.ref S.1.length) = .ref q by show Value.ref (ρ2 S.1.length) = _; rw [hq]] at kk
  exact kk
theorem xi_s_new (hx : p.tables.exec = Jvm.exec) (hb : c.code = cc) (hts : ∀ w ∈ xi_tb, w.before args s = true) {own : Nat} (hown : s.vm.findClass (xi_cA own) = some m.cls) {n w : Nat} (hd : xi_dn cc pcs i (.new n, nf, k1, k2) 3 = true) (hF : xi_KL[w]? = some (own, n, xi_k (.new n, nf, k1, k2))) (hk9 : xi_k (.new n, nf, k1, k2) < 9) (hN : S.1.length < 1000000) (hB : S2.1.length ≤ N0 + R.cells ∧ xi_sz S2 ≤ L0 + R.slots) (h : xi_stp scr (.new n, nf, k1, k2) i ls st S = some (i2, ls2, st2, S2)) (k : xi_G p l en R s m args below meth c Q D cs scr A nL ρ0 N0 L0 (pcs i2) ls2 (st2) S2) : xi_G p l en R s m args below meth c Q D cs scr A nL ρ0 N0 L0 (pcs i) ls (st) S := by
  obtain ⟨hd, hn⟩ := xi_dn_of hd
  have h : xi_new nf i ls st S = some (i2, ls2, st2, S2) := h
  rcases nf with _ | ⟨ci, _ | ⟨z, y⟩⟩
  · simp [xi_new] at h
  · have hF : xi_KL[w]? = some (own, n, ci) := hF
    have hk9 : ci < 9 := hk9
    simp only [xi_new] at h
    rw [if_pos hk9] at h
    cases h
    intro ρ H locs cells slots lsC hw hl hs
    rw [hn] at k
    have hlink := hts _ (xi_KL_mem hF)
    have hkn : xi_kn ci = xi_cn ci := by unfold xi_kn; rw [if_neg (by omega), if_neg (by omega)]
    rw [hkn] at hlink
    have hB1 : S.1.length + 1 ≤ N0 + R.cells := by have := hB.1; simpa using this
    have hB2 : xi_sz S + xi_nf ci ≤ L0 + R.slots := by have := hB.2; unfold xi_sz at this ⊢; rw [xi_sum_app] at this; exact this
    have hn1 := hw.2.2.2.2.2.2.2.2.1
    have hn2 := hw.2.2.2.2.2.2.2.2.2
    refine va_new (C := xi_cn ci) (T := xi_T ci) (N := xi_nf ci) (ci := ci) (fs := (List.range (xi_nf ci)).map (fun j => xi_df (xi_kd ci j))) hx hb hts (xi_in hk9) (xi_ft ci) (xi_ty ci hk9) hown hlink (hts _ (xi_tb_of (List.mem_of_getElem? (xi_ip_ok ci hk9).1) rfl)) (hts _ (xi_tb_of (List.mem_of_getElem? (xi_ip_ok ci hk9).2) rfl)) hw.1 hw.2.1 hw.2.2.1 hw.2.2.2.1 hw.2.2.2.2.1 (xi_cl_at hk9) (fun j hj => ?_) (by omega) (by omega) hd (fun q H1 hP1 hD1 hS1 => ?_)
    · rw [xi_df_ok ci hk9 j hj]
      unfold vp_V
      rw [List.getD_eq_getElem?_getD, List.getElem?_map, List.getElem?_range hj]
      rfl
    · exact xi_new_core hN hw hl hs (fun ρ2 => by rw [xi_ec_o hk9, xi_fs_new]) hP1 hD1 hS1 k
  · simp [xi_new] at h
theorem xi_newa_of {tag : Nat} (h : xi_newa tag i ls st S = some (i2, ls2, st2, S2)) : ∃ n r, st = .int n :: r ∧ ¬ n < 0 ∧ n.toNatClampNeg ≤ 1000 ∧ i2 = i + 1 ∧ ls2 = ls ∧ st2 = .ref S.1.length :: r ∧ S2 = xi_S1 S (tag, n.toNatClampNeg) := by
  rcases st with _ | ⟨v, r⟩
  · simp [xi_newa] at h
  · cases v with
    | int n =>
      simp only [xi_newa] at h
      by_cases hc : n < 0 ∨ 1000 < n.toNatClampNeg
      · rw [if_pos hc] at h
        cases h
      · rw [if_neg hc] at h
        cases h
        exact ⟨n, r, rfl, fun e => hc (Or.inl e), Nat.le_of_not_lt (fun e => hc (Or.inr e)), rfl, rfl, rfl, rfl⟩
    | _ => simp [xi_newa] at h
theorem xi_s_newarray (hx : p.tables.exec = Jvm.exec) (hb : c.code = cc) (hts : ∀ w ∈ xi_tb, w.before args s = true) {at0 : ArrayType} (hd : xi_dn cc pcs i (.newarray at0, nf, k1, k2) 2 = true) (hF : 9 ≤ xi_k (.newarray at0, nf, k1, k2) ∧ xi_k (.newarray at0, nf, k1, k2) ≤ 11 ∧ newarray.typeOf at0 = xi_at (xi_k (.newarray at0, nf, k1, k2))) (hN : S.1.length < 1000000) (hB : S2.1.length ≤ N0 + R.cells ∧ xi_sz S2 ≤ L0 + R.slots) (h : xi_stp scr (.newarray at0, nf, k1, k2) i ls st S = some (i2, ls2, st2, S2)) (k : xi_G p l en R s m args below meth c Q D cs scr A nL ρ0 N0 L0 (pcs i2) ls2 (st2) S2) : xi_G p l en R s m args below meth c Q D cs scr A nL ρ0 N0 L0 (pcs i) ls (st) S := by
  obtain ⟨hd, hn⟩ := xi_dn_of hd
  have h : xi_newa (xi_k (.newarray at0, nf, k1, k2)) i ls st S = some (i2, ls2, st2, S2) := h
  generalize xi_k (.newarray at0, nf, k1, k2) = t at hF h
  obtain ⟨z, r, rfl, h0, h1, rfl, rfl, rfl, rfl⟩ := xi_newa_of h
  intro ρ H locs cells slots lsC hw hl hs
  rw [hn] at k
  have hB1 : S.1.length + 1 ≤ N0 + R.cells := by have := hB.1; unfold xi_S1 at this; simpa using this
  have hB2 : xi_sz S + z.toNatClampNeg ≤ L0 + R.slots := by have := hB.2; unfold xi_sz at this ⊢; unfold xi_S1 at this; simp only [xi_sum_app] at this; exact this
  have hn1 := hw.2.2.2.2.2.2.2.2.1
  have hn2 := hw.2.2.2.2.2.2.2.2.2
  obtain ⟨h9, h11, hty⟩ := hF
  have hcA : ∀ (cA : ClassId) (ty : FieldType), ty = xi_at t → va_K D xi_cl (xi_ts cs ++ [(cA, ty)]) s → cA = cs t := fun cA ty hty2 hK2 => by
    subst hty2
    exact xi_RA_eq (hK2.2 6 (cA, xi_at t) rfl).2 (hw.1.2 (t - 9) _ (xi_ts_at cs h9 (by omega))).2
  rcases (show t = 9 ∨ t = 10 ∨ t = 11 by omega) with rfl | rfl | rfl
  · have hty : newarray.typeOf at0 = .int := hty
    refine va_newa hx hb (atype := at0) (by rw [hty]; exact hts _ xi_w_ai) hty hw.1 hw.2.1 hw.2.2.1 hw.2.2.2.1 hw.2.2.2.2.1 (a0 := (z.toNatClampNeg, .inl (fun _ => 0))) (fun _ => rfl) h0 rfl (by show _ * 4 ≤ _; omega) (by omega) (by omega) hd (fun q cA H1 hK2 hP1 hD1 hS1 => ?_)
    have := hcA cA _ rfl hK2
    subst this
    exact xi_new_core hN hw hl hs.tail (fun ρ2 => by rw [xi_ec_i (by omega) (by omega)]; unfold xi_S1; simp only [xi_ua_at]) hP1 hD1 hS1 k
  · have hty : newarray.typeOf at0 = .byte := hty
    refine va_newa hx hb (atype := at0) (by rw [hty]; exact hts _ xi_w_ab) hty hw.1 hw.2.1 hw.2.2.1 hw.2.2.2.1 hw.2.2.2.2.1 (a0 := (z.toNatClampNeg, .inl (fun _ => 0))) (fun _ => rfl) h0 rfl (by show _ * 1 ≤ _; omega) (by omega) (by omega) hd (fun q cA H1 hK2 hP1 hD1 hS1 => ?_)
    have := hcA cA _ rfl hK2
    subst this
    exact xi_new_core hN hw hl hs.tail (fun ρ2 => by rw [xi_ec_i (by omega) (by omega)]; unfold xi_S1; simp only [xi_ua_at]) hP1 hD1 hS1 k
  · have hty : newarray.typeOf at0 = .long := hty
    refine va_newa hx hb (atype := at0) (by rw [hty]; exact hts _ xi_w_aj) hty hw.1 hw.2.1 hw.2.2.1 hw.2.2.2.1 hw.2.2.2.2.1 (a0 := (z.toNatClampNeg, .inr (.inl (fun _ => 0)))) (fun _ => rfl) h0 rfl (by show _ * 8 ≤ _; omega) (by omega) (by omega) hd (fun q cA H1 hK2 hP1 hD1 hS1 => ?_)
    have := hcA cA _ rfl hK2
    subst this
    exact xi_new_core hN hw hl hs.tail (fun ρ2 => by rw [xi_ec_l]; unfold xi_S1; simp only [xi_ua_at]) hP1 hD1 hS1 k
theorem xi_s_anewarray (hx : p.tables.exec = Jvm.exec) (hb : c.code = cc) (hts : ∀ w ∈ xi_tb, w.before args s = true) {own : Nat} (hown : s.vm.findClass (xi_cA own) = some m.cls) {n w : Nat} (hd : xi_dn cc pcs i (.anewarray n, nf, k1, k2) 3 = true) (hF : xi_KL[w]? = some (own, n, 1)) (hN : S.1.length < 1000000) (hB : S2.1.length ≤ N0 + R.cells ∧ xi_sz S2 ≤ L0 + R.slots) (h : xi_stp scr (.anewarray n, nf, k1, k2) i ls st S = some (i2, ls2, st2, S2)) (k : xi_G p l en R s m args below meth c Q D cs scr A nL ρ0 N0 L0 (pcs i2) ls2 (st2) S2) : xi_G p l en R s m args below meth c Q D cs scr A nL ρ0 N0 L0 (pcs i) ls (st) S := by
  obtain ⟨hd, hn⟩ := xi_dn_of hd
  have h : xi_newa 12 i ls st S = some (i2, ls2, st2, S2) := h
  obtain ⟨z, r, rfl, h0, h1, rfl, rfl, rfl, rfl⟩ := xi_newa_of h
  intro ρ H locs cells slots lsC hw hl hs
  rw [hn] at k
  have hB1 : S.1.length + 1 ≤ N0 + R.cells := by have := hB.1; unfold xi_S1 at this; simpa using this
  have hB2 : xi_sz S + z.toNatClampNeg ≤ L0 + R.slots := by have := hB.2; unfold xi_sz at this ⊢; unfold xi_S1 at this; simp only [xi_sum_app] at this; exact this
  have hn1 := hw.2.2.2.2.2.2.2.2.1
  have hn2 := hw.2.2.2.2.2.2.2.2.2
  refine va_newq (C := "GuineaHours$Day") hx hb hown (hts _ (xi_KL_mem hF)) (va_AO.of (hts _ xi_w_od)) hw.1 hw.2.1 hw.2.2.1 hw.2.2.2.1 hw.2.2.2.2.1 h0 rfl (by omega) (by omega) (by omega) hd (fun q cA H1 hK2 hP1 hD1 hS1 => ?_)
  have : cA = cs 12 := xi_RA_eq (hK2.2 6 (cA, .object "GuineaHours$Day") rfl).2 (hw.1.2 3 _ rfl).2
  subst this
  exact xi_new_core hN hw hl hs.tail (fun ρ2 => by rw [xi_ec_r (by omega)]; unfold xi_S1; simp only [xi_ua_at]; rfl) hP1 hD1 hS1 k
end XIS
