/-! arrays of arrays, arraycopy, Object's constructor -/
theorem xi_w_nat : Cond.native arraycopyName ∈ xi_tb := xi_tb_of (List.mem_append_right _ (List.mem_of_getElem? (i := 303) (by decide +kernel))) rfl
theorem xi_w_sta : Cond.static arraycopyName ∈ xi_tb := xi_tb_of (List.mem_append_right _ (List.mem_of_getElem? (i := 302) (by decide +kernel))) rfl
theorem xi_w_sys : Cond.initialized "java/lang/System" ∈ xi_tb := xi_tb_of (List.mem_append_right _ (List.mem_of_getElem? (i := 11) (by decide +kernel))) rfl
theorem xi_w_oi1 : Cond.instanceMethod Lib.objectInit ∈ xi_tb := xi_tb_of (List.mem_append_right _ (List.mem_of_getElem? (i := 20) (by decide +kernel))) rfl
theorem xi_w_oi2 : Cond.code Lib.objectInit ⟨#[0xb1]⟩ 1 none ∈ xi_tb := xi_tb_of (List.mem_append_right _ (List.mem_of_getElem? (i := 21) (by decide +kernel))) rfl
theorem xi_w_mxs : Cond.static Lib.Math.max.name ∈ xi_tb := xi_tb_of (List.mem_append_right _ (List.mem_of_getElem? (i := 675) (by decide +kernel))) rfl
theorem xi_w_mns : Cond.static Lib.Math.min.name ∈ xi_tb := xi_tb_of (List.mem_append_right _ (List.mem_of_getElem? (i := 335) (by decide +kernel))) rfl
theorem xi_w_mti : Cond.initialized "java/lang/Math" ∈ xi_tb := xi_tb_of (List.mem_append_right _ (List.mem_of_getElem? (i := 12) (by decide +kernel))) rfl
theorem xi_w_mxc : Cond.code Lib.Math.max.name Lib.Math.max.code 2 (some .int) ∈ xi_tb := xi_tb_of (List.mem_append_right _ (List.mem_of_getElem? (i := 676) (by decide +kernel))) rfl
theorem xi_w_mnc : Cond.code Lib.Math.min.name Lib.Math.min.code 2 (some .int) ∈ xi_tb := xi_tb_of (List.mem_append_right _ (List.mem_of_getElem? (i := 336) (by decide +kernel))) rfl
theorem xi_y258 : xi_y 258 = Lib.objectInit := by unfold xi_y; rw [if_pos rfl]
theorem xi_y259 : xi_y 259 = arraycopyName := by unfold xi_y; rw [if_neg (by decide), if_pos rfl]
/-- the store with new T[n][k] -/
def xi_Sm (S : xi_S) (out inn N K : Nat) : xi_S := (S.1 ++ [(out, N)] ++ List.replicate N (inn, K),
        (fun a => if S.1.length ≤ a then (fun _ => 0) else S.2.1 a), (fun a => if S.1.length ≤ a then (fun _ => 0) else S.2.2.1 a),
        (fun a => if S.1.length ≤ a then (fun j => if a = S.1.length ∧ j < N then some (S.1.length + 1 + j) else none) else S.2.2.2 a))
theorem xi_Sm_len (S : xi_S) (out inn N K : Nat) : (xi_Sm S out inn N K).1.length = S.1.length + 1 + N := by
  show (S.1 ++ [(out, N)] ++ List.replicate N (inn, K)).length = _
  simp
  omega
theorem xi_Sm_sz (S : xi_S) (out inn N K : Nat) : xi_sz (xi_Sm S out inn N K) = xi_sz S + N + N * K := by
  show ((S.1 ++ [(out, N)] ++ List.replicate N (inn, K)).map (fun q => q.2)).sum = _
  unfold xi_sz
  simp
  omega
theorem xi_Sm_wf {S : xi_S} {out inn N K : Nat} (h : xi_wf S) : xi_wf (xi_Sm S out inn N K) := by
  intro k j r hk hr
  rw [xi_Sm_len] at hk ⊢
  have hr : (if S.1.length ≤ k then (fun j => if k = S.1.length ∧ j < N then some (S.1.length + 1 + j) else none) else S.2.2.2 k) j = some r := hr
  by_cases e : S.1.length ≤ k
  · rw [if_pos e] at hr
    split at hr
    · next hh =>
      have : S.1.length + 1 + j = r := Option.some.inj hr
      omega
    · cases hr
  · rw [if_neg e] at hr
    have := h k j r (by omega) hr
    omega
theorem xi_Sm_ws {cs : Nat → ClassId} {ρ ρ2 : Nat → Nat} {S : xi_S} {out inn N K q : Nat} {r : Nat → Nat} {f : Nat → va_E} (ho : 12 ≤ out) (hi : 9 ≤ inn ∧ inn < 11) (hwf : xi_wf S) (h1 : ∀ a, a < S.1.length → ρ2 a = ρ a) (h2 : ρ2 S.1.length = q) (h3 : ∀ j, j < N → ρ2 (S.1.length + 1 + j) = r j) :
    xi_ws cs ρ2 (xi_Sm S out inn N K) = (xi_ws cs ρ S ++ [(q, .inl (cs out, N, .inr (.inr (.inr (.inr (fun i => if i < N then some (r i) else none))))))]) ++ va_pl ([] ++ (List.range N).map r) (vr_up f ((List.range N).map r) (.inl (cs inn, K, .inl (fun _ => 0)))) := by
  have hl : (xi_ws cs ρ S).length = S.1.length := by unfold xi_ws; rw [List.length_mapIdx]
  apply List.ext_getElem?
  intro n
  by_cases hn : n < S.1.length
  · rw [List.getElem?_append_left (by simp [hl]; omega), List.getElem?_append_left (by rw [hl]; exact hn)]
    unfold xi_ws
    rw [List.getElem?_mapIdx, List.getElem?_mapIdx, show (xi_Sm S out inn N K).1 = S.1 ++ [(out, N)] ++ List.replicate N (inn, K) from rfl, List.getElem?_append_left (by simp; omega), List.getElem?_append_left hn]
    cases hq : S.1[n]? with
    | none => rfl
    | some x =>
      simp only [Option.map_some]
      rw [h1 n hn, xi_ec_eq (S := S) (S2 := xi_Sm S out inn N K) (ρ := ρ) (by show (if _ then _ else _) = _; rw [if_neg (by omega)]) (by show (if _ then _ else _) = _; rw [if_neg (by omega)]) (by show (if _ then _ else _) = _; rw [if_neg (by omega)]) (fun j z hz => h1 z (hwf n j z hn hz))]
  · by_cases h0 : n = S.1.length
    · subst h0
      rw [List.getElem?_append_left (by simp [hl]), List.getElem?_append_right (by rw [hl]; exact Nat.le_refl _), hl, Nat.sub_self]
      unfold xi_ws
      rw [List.getElem?_mapIdx, show (xi_Sm S out inn N K).1 = S.1 ++ [(out, N)] ++ List.replicate N (inn, K) from rfl, List.getElem?_append_left (by simp), List.getElem?_append_right (Nat.le_refl _), Nat.sub_self]
      simp only [List.getElem?_cons_zero, Option.map_some]
      rw [h2, xi_ec_r ho]
      congr 4
      congr 5
      funext j
      show Option.map ρ2 ((if S.1.length ≤ S.1.length then (fun j => if S.1.length = S.1.length ∧ j < N then some (S.1.length + 1 + j) else none) else S.2.2.2 S.1.length) j) = _
      rw [if_pos (Nat.le_refl _)]
      by_cases hj : j < N
      · simp [hj, h3 j hj]
      · simp [hj]
    · obtain ⟨d, hd⟩ : ∃ d, n = S.1.length + 1 + d := ⟨n - S.1.length - 1, by omega⟩
      subst hd
      rw [List.getElem?_append_right (by simp [hl]), show S.1.length + 1 + d - (xi_ws cs ρ S ++ [(q, (Sum.inl (cs out, N, .inr (.inr (.inr (.inr (fun i => if i < N then some (r i) else none))))) : va_E))]).length = d by simp [hl]]
      unfold xi_ws va_pl
      rw [List.getElem?_mapIdx, show (xi_Sm S out inn N K).1 = S.1 ++ [(out, N)] ++ List.replicate N (inn, K) from rfl, List.getElem?_append_right (by simp), show S.1.length + 1 + d - (S.1 ++ [(out, N)]).length = d by simp, List.nil_append, List.getElem?_map, List.getElem?_map]
      by_cases hd : d < N
      · rw [List.getElem?_range hd, List.getElem?_replicate, if_pos hd]
        simp only [Option.map_some]
        rw [h3 d hd, vr_up_in (List.mem_map.mpr ⟨d, List.mem_range.mpr hd, rfl⟩), xi_ec_i hi.1 hi.2]
        congr 5
        refine congrArg Sum.inl ?_
        show (if S.1.length ≤ S.1.length + 1 + d then (fun _ => (0 : Int32)) else S.2.1 (S.1.length + 1 + d)) = fun _ => 0
        rw [if_pos (by omega)]
      · rw [List.getElem?_replicate, if_neg hd, List.getElem?_eq_none (by simp; omega)]
        rfl

section XIS
variable {p : Program} {l : Launch} {en : Env} {R : Room} {s : State} {m : MethodId} {args : Array Value} {below : List Frame} {meth : Method} {c : Code} {Q : State → Prop} {D : va_G} {cs : Nat → ClassId} {scr : xi_X} {A : Nat → Prop} {nL : Nat} {ρ0 : Nat → Nat} {N0 L0 : Nat} {cc : ByteArray} {pcs : Nat → Nat} {i i2 : Nat} {ls ls2 : xi_L} {st st2 : List Value} {S S2 : xi_S} {nf : List Nat} {k1 : Int32} {k2 : Int64}

theorem xi_s_mna_int (hx : p.tables.exec = Jvm.exec) (hb : c.code = cc) (hts : ∀ w ∈ xi_tb, w.before args s = true) {own : Nat} (hown : s.vm.findClass (xi_cA own) = some m.cls) {n w : Nat} (hd : decode cc (pcs i) = .ok (.multianewarray n 2, 4)) (hF : xi_KL[w]? = some (own, n, 14)) {z y : Int32} {r : List Value} (hz : ¬ z < 0) (hy : ¬ y < 0) (hz2 : z.toNatClampNeg ≤ 1000) (hy2 : y.toNatClampNeg ≤ 1000) (hN : S.1.length + 1 + z.toNatClampNeg < 1000000) (hB : S.1.length + 1 + z.toNatClampNeg ≤ N0 + R.cells ∧ xi_sz S + z.toNatClampNeg + z.toNatClampNeg * y.toNatClampNeg ≤ L0 + R.slots)
    (k : xi_G p l en R s m args below meth c Q D cs scr A nL ρ0 N0 L0 (pcs i + 4) ls (.ref S.1.length :: r) (xi_Sm S 14 9 z.toNatClampNeg y.toNatClampNeg)) : xi_G p l en R s m args below meth c Q D cs scr A nL ρ0 N0 L0 (pcs i) ls (.int y :: .int z :: r) S := by
  intro ρ H locs cells slots lsC hw hl hs
  have hn1 := hw.2.2.2.2.2.2.2.2.1
  have hn2 := hw.2.2.2.2.2.2.2.2.2
  have hcy : s.vm.findClass (FieldType.array .int).toString = some (cs 9) := (hw.1.2 (9 - 9) (cs 9, .int) rfl).2
  refine va_mna (X := xi_ws cs ρ S) (L := []) (f := fun _ => .inr (0, [])) (ty := .int) (cy := cs 9) (z := (y.toNatClampNeg, .inl (fun _ => 0))) hx hb hown (hts _ (xi_KL_mem hF)) (show va_AOA .int s from hts _ xi_w_oi) (hts _ xi_w_ai) hcy hw.1 (by rw [show va_pl [] (fun _ => (Sum.inr (0, []) : va_E)) = [] from rfl, List.append_nil]; exact hw.2.1) (by rw [show va_pl [] (fun _ => (Sum.inr (0, []) : va_E)) = [] from rfl, List.append_nil]; exact hw.2.2.1) hw.2.2.2.1 hw.2.2.2.2.1 hz hy rfl rfl (by omega) (by show _ * 4 ≤ _; omega) (by omega) rfl rfl (by omega) (by omega) (fun c => ?_) hd (fun q r0 cA H1 hr hr2 hK2 hP1 hD1 hS1 => ?_)
  · show _ = arrV c _ (fun _ => Value.int 0)
    rw [← arrV_new]
    rfl
  · have : cA = cs 14 := xi_RA_eq (hK2.2 6 (cA, .array .int) rfl).2 (hw.1.2 (14 - 9) _ rfl).2
    subst this
    obtain ⟨ρ2, hρ2⟩ : ∃ ρ2 : Nat → Nat, ρ2 = fun x => if x < S.1.length then ρ x else if x = S.1.length then q else if x < S.1.length + 1 + z.toNatClampNeg then r0 (x - (S.1.length + 1)) else ρ x := ⟨_, rfl⟩
    have e1 : ∀ a, a < S.1.length → ρ2 a = ρ a := fun a ha => by rw [hρ2]; simp only; rw [if_pos ha]
    have e2 : ρ2 S.1.length = q := by rw [hρ2]; simp
    have e3 : ∀ j, j < z.toNatClampNeg → ρ2 (S.1.length + 1 + j) = r0 j := fun j hj => by
      rw [hρ2]
      simp only
      rw [if_neg (by omega), if_neg (by omega), if_pos (by omega), show S.1.length + 1 + j - (S.1.length + 1) = j by omega]
    have e4 : ∀ a, a < S.1.length ∨ 1000000 ≤ a → ρ2 a = ρ a := fun a ha => by
      rcases ha with ha | ha
      · exact e1 a ha
      · rw [hρ2]
        simp only
        rw [if_neg (by omega), if_neg (by omega), if_neg (by omega)]
    rw [← xi_Sm_ws (by omega) (by omega) hw.2.2.2.2.2.2.1 e1 e2 e3] at hP1 hD1
    have kk := k ρ2 H1 locs (cells + 1 + z.toNatClampNeg) (slots + z.toNatClampNeg + z.toNatClampNeg * y.toNatClampNeg) lsC ⟨hw.1, hP1, hD1, hS1, hw.2.2.2.2.1, hw.2.2.2.2.2.1, xi_Sm_wf hw.2.2.2.2.2.2.1, fun a ha => by rw [e4 a (by omega)]; exact hw.2.2.2.2.2.2.2.1 a ha, by rw [xi_Sm_len]; omega, by rw [xi_Sm_sz]; omega⟩ (by rw [xi_Sm_len]; exact hl.ext (by omega) e4) (by rw [xi_Sm_len]; exact (hs.tail.tail.mono (by omega)).cons (Or.inl (Nat.lt_of_lt_of_le (Nat.lt_succ_self _) (Nat.le_add_right _ _))))
    rw [List.map_cons, xi_cv_map e4 hs.tail.tail, show xi_cv ρ2 (.ref S.1.length) = .ref q by show Value.ref (ρ2 S.1.length) = _; rw [e2]] at kk
    exact kk
theorem xi_s_mna_byte (hx : p.tables.exec = Jvm.exec) (hb : c.code = cc) (hts : ∀ w ∈ xi_tb, w.before args s = true) {own : Nat} (hown : s.vm.findClass (xi_cA own) = some m.cls) {n w : Nat} (hd : decode cc (pcs i) = .ok (.multianewarray n 2, 4)) (hF : xi_KL[w]? = some (own, n, 13)) {z y : Int32} {r : List Value} (hz : ¬ z < 0) (hy : ¬ y < 0) (hz2 : z.toNatClampNeg ≤ 1000) (hy2 : y.toNatClampNeg ≤ 1000) (hN : S.1.length + 1 + z.toNatClampNeg < 1000000) (hB : S.1.length + 1 + z.toNatClampNeg ≤ N0 + R.cells ∧ xi_sz S + z.toNatClampNeg + z.toNatClampNeg * y.toNatClampNeg ≤ L0 + R.slots)
    (k : xi_G p l en R s m args below meth c Q D cs scr A nL ρ0 N0 L0 (pcs i + 4) ls (.ref S.1.length :: r) (xi_Sm S 13 10 z.toNatClampNeg y.toNatClampNeg)) : xi_G p l en R s m args below meth c Q D cs scr A nL ρ0 N0 L0 (pcs i) ls (.int y :: .int z :: r) S := by
  intro ρ H locs cells slots lsC hw hl hs
  have hn1 := hw.2.2.2.2.2.2.2.2.1
  have hn2 := hw.2.2.2.2.2.2.2.2.2
  have hcy : s.vm.findClass (FieldType.array .byte).toString = some (cs 10) := (hw.1.2 (10 - 9) (cs 10, .byte) rfl).2
  refine va_mna (X := xi_ws cs ρ S) (L := []) (f := fun _ => .inr (0, [])) (ty := .byte) (cy := cs 10) (z := (y.toNatClampNeg, .inl (fun _ => 0))) hx hb hown (hts _ (xi_KL_mem hF)) (show va_AOA .byte s from hts _ xi_w_ob) (hts _ xi_w_ab) hcy hw.1 (by rw [show va_pl [] (fun _ => (Sum.inr (0, []) : va_E)) = [] from rfl, List.append_nil]; exact hw.2.1) (by rw [show va_pl [] (fun _ => (Sum.inr (0, []) : va_E)) = [] from rfl, List.append_nil]; exact hw.2.2.1) hw.2.2.2.1 hw.2.2.2.2.1 hz hy rfl rfl (by omega) (by show _ * 1 ≤ _; omega) (by omega) rfl rfl (by omega) (by omega) (fun c => ?_) hd (fun q r0 cA H1 hr hr2 hK2 hP1 hD1 hS1 => ?_)
  · show _ = arrV c _ (fun _ => Value.int 0)
    rw [← arrV_new]
    rfl
  · have : cA = cs 13 := xi_RA_eq (hK2.2 6 (cA, .array .byte) rfl).2 (hw.1.2 (13 - 9) _ rfl).2
    subst this
    obtain ⟨ρ2, hρ2⟩ : ∃ ρ2 : Nat → Nat, ρ2 = fun x => if x < S.1.length then ρ x else if x = S.1.length then q else if x < S.1.length + 1 + z.toNatClampNeg then r0 (x - (S.1.length + 1)) else ρ x := ⟨_, rfl⟩
    have e1 : ∀ a, a < S.1.length → ρ2 a = ρ a := fun a ha => by rw [hρ2]; simp only; rw [if_pos ha]
    have e2 : ρ2 S.1.length = q := by rw [hρ2]; simp
    have e3 : ∀ j, j < z.toNatClampNeg → ρ2 (S.1.length + 1 + j) = r0 j := fun j hj => by
      rw [hρ2]
      simp only
      rw [if_neg (by omega), if_neg (by omega), if_pos (by omega), show S.1.length + 1 + j - (S.1.length + 1) = j by omega]
    have e4 : ∀ a, a < S.1.length ∨ 1000000 ≤ a → ρ2 a = ρ a := fun a ha => by
      rcases ha with ha | ha
      · exact e1 a ha
      · rw [hρ2]
        simp only
        rw [if_neg (by omega), if_neg (by omega), if_neg (by omega)]
    rw [← xi_Sm_ws (by omega) (by omega) hw.2.2.2.2.2.2.1 e1 e2 e3] at hP1 hD1
    have kk := k ρ2 H1 locs (cells + 1 + z.toNatClampNeg) (slots + z.toNatClampNeg + z.toNatClampNeg * y.toNatClampNeg) lsC ⟨hw.1, hP1, hD1, hS1, hw.2.2.2.2.1, hw.2.2.2.2.2.1, xi_Sm_wf hw.2.2.2.2.2.2.1, fun a ha => by rw [e4 a (by omega)]; exact hw.2.2.2.2.2.2.2.1 a ha, by rw [xi_Sm_len]; omega, by rw [xi_Sm_sz]; omega⟩ (by rw [xi_Sm_len]; exact hl.ext (by omega) e4) (by rw [xi_Sm_len]; exact (hs.tail.tail.mono (by omega)).cons (Or.inl (Nat.lt_of_lt_of_le (Nat.lt_succ_self _) (Nat.le_add_right _ _))))
    rw [List.map_cons, xi_cv_map e4 hs.tail.tail, show xi_cv ρ2 (.ref S.1.length) = .ref q by show Value.ref (ρ2 S.1.length) = _; rw [e2]] at kk
    exact kk
theorem xi_s_multi (hx : p.tables.exec = Jvm.exec) (hb : c.code = cc) (hts : ∀ w ∈ xi_tb, w.before args s = true) {own : Nat} (hown : s.vm.findClass (xi_cA own) = some m.cls) {n dim w : Nat} (hd : xi_dn cc pcs i (.multianewarray n dim, nf, k1, k2) 4 = true) (hdim : dim = 2) (hF : (nf = [14, 9] ∧ xi_KL[w]? = some (own, n, 14)) ∨ (nf = [13, 10] ∧ xi_KL[w]? = some (own, n, 13))) (hN : S2.1.length < 1000000) (hB : S2.1.length ≤ N0 + R.cells ∧ xi_sz S2 ≤ L0 + R.slots) (h : xi_stp scr (.multianewarray n dim, nf, k1, k2) i ls st S = some (i2, ls2, st2, S2)) (k : xi_G p l en R s m args below meth c Q D cs scr A nL ρ0 N0 L0 (pcs i2) ls2 (st2) S2) : xi_G p l en R s m args below meth c Q D cs scr A nL ρ0 N0 L0 (pcs i) ls (st) S := by
  obtain ⟨hd, hn⟩ := xi_dn_of hd
  subst hdim
  have key : ∀ out inn, xi_mna out inn i ls st S = some (i2, ls2, st2, S2) → ∃ z y r, st = .int y :: .int z :: r ∧ ¬ z < 0 ∧ ¬ y < 0 ∧ z.toNatClampNeg ≤ 1000 ∧ y.toNatClampNeg ≤ 1000 ∧ i2 = i + 1 ∧ ls2 = ls ∧ st2 = .ref S.1.length :: r ∧ S2 = xi_Sm S out inn z.toNatClampNeg y.toNatClampNeg := by
    intro out inn h
    rcases st with _ | ⟨v, _ | ⟨u, r⟩⟩
    · simp [xi_mna] at h
    · cases v <;> simp [xi_mna] at h
    · cases v with
      | int y =>
        cases u with
        | int z =>
          simp only [xi_mna] at h
          by_cases hc : z < 0 ∨ y < 0 ∨ 1000 < z.toNatClampNeg ∨ 1000 < y.toNatClampNeg
          · rw [if_pos hc] at h
            cases h
          · rw [if_neg hc] at h
            cases h
            exact ⟨z, y, r, rfl, fun e => hc (Or.inl e), fun e => hc (Or.inr (Or.inl e)), Nat.le_of_not_lt (fun e => hc (Or.inr (Or.inr (Or.inl e)))), Nat.le_of_not_lt (fun e => hc (Or.inr (Or.inr (Or.inr e)))), rfl, rfl, rfl, rfl⟩
        | _ => simp [xi_mna] at h
      | _ => cases u <;> simp [xi_mna] at h
  rcases hF with ⟨rfl, hF⟩ | ⟨rfl, hF⟩
  · obtain ⟨z, y, r, rfl, h0, h1, h2, h3, rfl, rfl, rfl, rfl⟩ := key 14 9 h
    rw [hn] at k
    rw [xi_Sm_len] at hN hB
    rw [xi_Sm_sz] at hB
    exact xi_s_mna_int hx hb hts hown hd hF h0 h1 h2 h3 hN hB k
  · obtain ⟨z, y, r, rfl, h0, h1, h2, h3, rfl, rfl, rfl, rfl⟩ := key 13 10 h
    rw [hn] at k
    rw [xi_Sm_len] at hN hB
    rw [xi_Sm_sz] at hB
    exact xi_s_mna_byte hx hb hts hown hd hF h0 h1 h2 h3 hN hB k
theorem xi_s_cpy (hx : p.tables.exec = Jvm.exec) (hb : c.code = cc) (hts : ∀ w ∈ xi_tb, w.before args s = true) {own : Nat} (hown : s.vm.findClass (xi_cA own) = some m.cls) (hml : c.maxLocals = nL) (hR : 1 ≤ R.frames ∧ 30 ≤ R.locals) {n w : Nat} (hd : xi_dn cc pcs i (.invokestatic n, nf, k1, k2) 3 = true) (hF : xi_ML[w]? = some (own, n, 259)) (h : xi_cpy i ls st S = some (i2, ls2, st2, S2)) (k : xi_G p l en R s m args below meth c Q D cs scr A nL ρ0 N0 L0 (pcs i2) ls2 (st2) S2) : xi_G p l en R s m args below meth c Q D cs scr A nL ρ0 N0 L0 (pcs i) ls (st) S := by
  obtain ⟨hd, hn⟩ := xi_dn_of hd
  rcases st with _ | ⟨v1, _ | ⟨v2, _ | ⟨v3, _ | ⟨v4, _ | ⟨v5, r⟩⟩⟩⟩⟩
  · simp [xi_cpy] at h
  · simp [xi_cpy] at h
  · simp [xi_cpy] at h
  · simp [xi_cpy] at h
  · simp [xi_cpy] at h
  · unfold xi_cpy at h
    split at h
    · next n0 dp b sp a r0 heq =>
      simp only [List.cons.injEq] at heq
      obtain ⟨rfl, rfl, rfl, rfl, rfl, rfl⟩ := heq
      cases hqa : S.1[a]? with
      | none => rw [hqa] at h; cases h
      | some qa =>
        cases hqb : S.1[b]? with
        | none => rw [hqa, hqb] at h; cases h
        | some qb =>
          obtain ⟨t, m0⟩ := qa
          obtain ⟨t2, m1⟩ := qb
          rw [hqa, hqb] at h
          simp only at h
          split at h
          · next hc =>
            obtain ⟨rfl, rfl, c1, c2, c3, c4, c5, c6⟩ := hc
            cases h
            intro ρ H locs cells slots lsC hw hl hs
            rw [hn] at k
            have ha := xi_ws_at (cs := cs) (ρ := ρ) hqa
            have hbb := xi_ws_at (cs := cs) (ρ := ρ) hqb
            rw [xi_ec_i (by omega) (by omega)] at ha hbb
            have hlink := hts _ (xi_ML_mem hF)
            rw [xi_y259] at hlink
            have hnw : nativeFrameWords "java/lang/System" "arraycopy" 5 = 7 := by decide +kernel
            refine va_copyi hx hb (hml.trans hl.2.1.symm) hown hlink (hts _ xi_w_nat) (hts _ xi_w_sta) (hts _ xi_w_sys) hw.1 hw.2.1 hw.2.2.1 hw.2.2.2.1 a b 0 0 (ty := .int) ha hbb rfl rfl rfl c1 c2 c3 c4 c5 (fun _ _ => rfl) hR.1 (by rw [xi_cv_sum, hnw]; omega) hd (fun H1 locs1 hP1 hD1 hS1 => ?_)
            have hws : xi_ws cs ρ (S.1, xi_ua S.2.1 b (va_cpy (S.2.1 a) (S.2.1 b) sp.toNatClampNeg dp.toNatClampNeg n0.toNatClampNeg), S.2.2) = (xi_ws cs ρ S).set b (ρ b, .inl (cs 9, m1, .inl (va_cpy (S.2.1 a) (S.2.1 b) sp.toNatClampNeg dp.toNatClampNeg n0.toNatClampNeg))) := by
              rw [xi_ws_set (S := S) (S2 := (S.1, xi_ua S.2.1 b (va_cpy (S.2.1 a) (S.2.1 b) sp.toNatClampNeg dp.toNatClampNeg n0.toNatClampNeg), S.2.2)) rfl hqb (fun z hz => xi_ua_ne hz) (fun z hz => rfl) (fun z hz => rfl), xi_ec_i (by omega) (by omega)]
              simp only [xi_ua_at]
            rw [← hws] at hP1 hD1
            exact k ρ H1 locs1 cells slots lsC ⟨hw.1, hP1, hD1, hS1, hw.2.2.2.2.1, hw.2.2.2.2.2.1, hw.2.2.2.2.2.2.1, hw.2.2.2.2.2.2.2.1, hw.2.2.2.2.2.2.2.2.1, hw.2.2.2.2.2.2.2.2.2⟩ hl hs.tail.tail.tail.tail.tail
          · cases h
    · cases h
theorem xi_s_oin (hx : p.tables.exec = Jvm.exec) (hb : c.code = cc) (hts : ∀ w ∈ xi_tb, w.before args s = true) {own : Nat} (hown : s.vm.findClass (xi_cA own) = some m.cls) (hml : c.maxLocals = nL) (hR : 1 ≤ R.frames ∧ 30 ≤ R.locals) {n w : Nat} (hd : xi_dn cc pcs i (.invokespecial n, nf, k1, k2) 3 = true) (hF : xi_ML[w]? = some (own, n, 258)) (h : xi_oin i ls st S = some (i2, ls2, st2, S2)) (k : xi_G p l en R s m args below meth c Q D cs scr A nL ρ0 N0 L0 (pcs i2) ls2 (st2) S2) : xi_G p l en R s m args below meth c Q D cs scr A nL ρ0 N0 L0 (pcs i) ls (st) S := by
  obtain ⟨hd, hn⟩ := xi_dn_of hd
  rcases st with _ | ⟨v, r⟩
  · simp [xi_oin] at h
  · cases v with
    | ref a =>
      simp only [xi_oin] at h
      by_cases hc : (r.map fun v => v.category).sum ≤ 8
      · rw [if_pos hc] at h
        simp only [Option.some.injEq, Prod.mk.injEq] at h
        obtain ⟨rfl, rfl, rfl, rfl⟩ := h
        intro ρ H locs cells slots lsC hw hl hs
        rw [hn] at k
        have hlink := hts _ (xi_ML_mem hF)
        rw [xi_y258] at hlink
        exact W.objInit hx hb hown hlink (hts _ xi_w_oi1) (hts _ xi_w_oi2) rfl (hl.2.1.trans hml.symm) rfl hd hR.1 (by
          have h8 := lv_room (m := m) (pc := pcs i) (ls := lsC) (rest := (Value.ref a :: r).map (xi_cv ρ)) (st := r.map (xi_cv ρ)) (by rw [xi_cv_sum]; exact hc)
          have := hR.2
          exact Nat.le_trans (Nat.add_le_add_right h8 12) (by omega)) (k ρ H locs cells slots lsC hw hl hs.tail)
      · rw [if_neg hc] at h
        cases h
    | _ => simp [xi_oin] at h
theorem xi_s_mm (hx : p.tables.exec = Jvm.exec) (hb : c.code = cc) (hts : ∀ w ∈ xi_tb, w.before args s = true) {own : Nat} (hown : s.vm.findClass (xi_cA own) = some m.cls) (hml : c.maxLocals = nL) (hR : 1 ≤ R.frames ∧ 30 ≤ R.locals) (hBc : S.1.length ≤ N0 + R.cells ∧ xi_sz S ≤ L0 + R.slots) {n w kx : Nat} (hd : xi_dn cc pcs i (.invokestatic n, nf, k1, k2) 3 = true) (hF : (kx = 1 ∧ xi_ML[w]? = some (own, n, 108)) ∨ (kx = 2 ∧ xi_ML[w]? = some (own, n, 28))) (h : xi_mm kx i ls st S = some (i2, ls2, st2, S2)) (k : xi_G p l en R s m args below meth c Q D cs scr A nL ρ0 N0 L0 (pcs i2) ls2 (st2) S2) : xi_G p l en R s m args below meth c Q D cs scr A nL ρ0 N0 L0 (pcs i) ls (st) S := by
  obtain ⟨hd, hn⟩ := xi_dn_of hd
  rcases st with _ | ⟨v, _ | ⟨u, r⟩⟩
  · simp [xi_mm] at h
  · cases v <;> simp [xi_mm] at h
  · cases v with
    | int y =>
      cases u with
      | int x =>
        simp only [xi_mm] at h
        by_cases hc : (r.map fun v => v.category).sum ≤ 8
        · rw [if_pos hc] at h
          simp only [Option.some.injEq, Prod.mk.injEq] at h
          obtain ⟨rfl, rfl, rfl, rfl⟩ := h
          intro ρ H locs cells slots lsC hw hl hs
          rw [hn] at k
          have hn1 := hw.2.2.2.2.2.2.2.2.1
          have hn2 := hw.2.2.2.2.2.2.2.2.2
          have kk := k ρ H locs cells slots lsC hw hl (hs.tail.tail.cons trivial)
          rcases hF with ⟨rfl, hF⟩ | ⟨rfl, hF⟩
          · exact va_mmax hx hb (hml.trans hl.2.1.symm) hown (hts _ (xi_ML_mem hF)) (hts _ xi_w_mxs) (hts _ xi_w_mti) (hts _ xi_w_mxc) hR.1 (by rw [xi_cv_sum]; omega) (by omega) (by omega) hd kk
          · exact va_mmin hx hb (hml.trans hl.2.1.symm) hown (hts _ (xi_ML_mem hF)) (hts _ xi_w_mns) (hts _ xi_w_mti) (hts _ xi_w_mnc) hR.1 (by rw [xi_cv_sum]; omega) (by omega) (by omega) hd kk
        · rw [if_neg hc] at h
          cases h
      | _ => simp [xi_mm] at h
    | _ => cases u <;> simp [xi_mm] at h
end XIS
