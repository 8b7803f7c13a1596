/-! THE CLAIM OUT OF ONE WALK OF THE LAW'S BODY. Your part is whole_start (and what it stands on); all else here is the same for every law, but numbers. -/
def R_law : String := "GuineaHoursLaw"
def lw_P (b : Addr) (xs : List Int32) (args : Array Value) (s : State) : Prop := args = #[.ref b] ∧ s.IntsAt b xs ∧ xs.length ≤ 3072 ∧ (Jvm.Cond.and given_1 narrow_1).before args s = true
def lw_Q (_ : Array Value) (s : State) (o : Outcome) (t : State) : Prop := o = .returned (some (.int 1)) ∧ Framed s o t [] 600000 7302250
def lw_Z (below : List Frame) (a : Array Value) (s : State) : State → Prop := fun t => ∃ o, t.status = .running ∧ Ended t below o ∧ lw_Q a s o t
/-- the law's own end, with 1 on the stack, nothing written that was there before, its room as the claim has it -/
theorem lw_ret {p : Program} {l : Launch} {e : Env} {s : State} {m : MethodId} {below : List Frame} {meth : Method} {c : Code} {b : Nat} (hx : p.tables.exec = Jvm.exec) (hb : c.code = code) (hr : meth.sig.returnType = ret) (hlocks : meth.locks = false) {pc : Nat} {H : Heap} {ls : Array Slot} (hdg : decode code pc = .ok (.ireturn, 1)) : W p l e room_1 s m #[Value.ref b] below meth c H [] 600000 7302250 (lw_Z below #[Value.ref b] s) (F0 m pc ls [.int 1]) := by
  intro T hT X
  obtain ⟨fs, hret, hrun, hended, hW, hframe⟩ := X.leave (v := some (.int 1)) (hlocks := hlocks) (fun h => by rw [hr] at h; cases h)
  have hmeth' : T.vm.method? m = some meth := X.method'
  refine ⟨T.setFrames fs, ?_, .returned (some (.int 1)), hrun, hended, rfl, ⟨_, rfl⟩, hW, hframe⟩
  jvm_step X.here [X.here.top, hx, hb, hdg, hmeth', hr, ret, narrow_b1]
  (try refine ⟨rfl, ?_⟩); (try refine ⟨rfl, ?_⟩)
  first | (intro acts; rw [hret _ acts rfl rfl rfl]) | rw [hret _ _ rfl rfl rfl]
  exact Steps.refl _
/-- what holds at the law's entry: the machine, the code, the tables' words (any of lw_tbl by 'hts w (by decide +kernel)'), the script of L ints xs at the cell b, what the Statement gives of the start (any of its parts by flat_of_before) -/
def lw_At (p : Program) (s : State) (m : MethodId) (meth : Method) (c : Code) (b L : Nat) (xs : Nat → Int32) : Prop :=
  p.tables.exec = Jvm.exec ∧ c.code = code ∧ meth.sig.returnType = ret ∧ c.maxLocals = 4 ∧ s.vm.findClass R_law = some m.cls ∧ (∀ w ∈ lw_tbl, w.before #[Value.ref b] s = true) ∧ va_X b L xs s s.heap ∧ b < s.heap.size ∧ meth.locks = false ∧ (Jvm.Cond.and given_1 narrow_1).before #[Value.ref b] s = true
/-! FROM THE LAW's ENTRY to a run of the interpreter -/
def xi_S0 : xi_S := ([], fun _ _ => 0, fun _ _ => 0, fun _ _ => none)
theorem xi_w_ls1 : Cond.laysStatic "GuineaHours" "KIND_LETTERS" "[B" ∈ lw_tbl := List.mem_append_right _ (List.mem_of_getElem? (i := 348) (by decide +kernel))
theorem xi_w_ls2 : Cond.laysStatic "GuineaHours" "KIND_EXTRA" "[I" ∈ lw_tbl := List.mem_append_right _ (List.mem_of_getElem? (i := 412) (by decide +kernel))
theorem xi_w_ghi : Cond.initialized "GuineaHours" ∈ lw_tbl := xi_tb_lw (xi_in_mem (c := 7) (by decide))
theorem xi_arr_prim {s : State} {args : Array Value} {ty : FieldType} (h : (Cond.arrayClass ty).before args s = true) (hp : ∀ cA, s.vm.findClass ("[" ++ ty.toString) = some cA → va_RA s cA ty) : ∃ cA : ClassId, ArrOfT s cA ty ∧ va_RA s cA ty := by
  obtain ⟨cA, kA, comp, hfind, hk, hkind⟩ := Cond.arrayClass_spec h
  exact ⟨cA, fun n z => ⟨fun k h => (by cases h), kA, hk, comp, hkind⟩, hp cA hfind⟩
theorem xi_arr_obj {s : State} {args : Array Value} {C : String} (h : (Cond.arrayOver (.object C)).before args s = true) : ∃ cA : ClassId, ArrOfT s cA (.object C) ∧ va_RA s cA (.object C) := by
  obtain ⟨comp, cA, kA, h1, h2, h3, h4, h5⟩ := Cond.arrayOver_spec h
  exact ⟨cA, fun n z => ⟨fun k h => (by cases h), kA, h3, comp, h4⟩, kA, comp, h3, h4, h1, h5⟩
theorem xi_arr_arr {s : State} {args : Array Value} {t : FieldType} (h : (Cond.arrayOver (.array t)).before args s = true) : ∃ cA : ClassId, ArrOfT s cA (.array t) ∧ va_RA s cA (.array t) := by
  obtain ⟨comp, cA, kA, h1, h3, h4, h5⟩ := Cond.arrayOver_specA h
  exact ⟨cA, fun n z => ⟨fun k h => (by cases h), kA, h3, comp, h4⟩, h5⟩
theorem xi_tab_law : xi_tab[257]? = some (xm_257, 4, 1, xc_257) := by rfl
set_option maxHeartbeats 4000000 in
/-- the law's walk, out of a run of the interpreter -/
theorem xi_start {p : Program} {e : Env} {s : State} {m : MethodId} {below : List Frame} {meth : Method} {c : Code} (l : Launch) {b L : Nat} {xs : Nat → Int32} (hL : L ≤ 3072) (C0 : lw_At p s m meth c b L xs)
    (hrun : ∃ (n : Nat) (S3 : xi_S), xi_ex xi_pg (L, xs) n 30 xc_257 0 (xi_en [.ref 1000002] 4) [] xi_S0 = some (some (.int 1), S3) ∧ S3.1.length ≤ 600000 ∧ xi_sz S3 ≤ 7302250) :
    W p l e room_1 s m #[Value.ref b] below meth c s.heap [] 0 0 (lw_Z below #[Value.ref b] s) (entryFrame m ([Value.ref b] : List Value).toArray 4) := by
  obtain ⟨hx, hb, hr, hml, hown, hlw, hX, hbl, hlocks, hgv⟩ := id C0
  obtain ⟨n, S3, hrun, hc3, hz3⟩ := hrun
  have hts : ∀ w ∈ xi_tb, w.before #[Value.ref b] s = true := fun w h => hlw w (xi_tb_lw h)
  have hfl := flat_of_before _ hgv
  obtain ⟨A, hAd⟩ : ∃ A : Nat → Prop, A = fun q => s.heap.size ≤ q := ⟨_, rfl⟩
  have hA : ∀ q, s.heap.size ≤ q → A q := fun q h => by rw [hAd]; exact h
  have hnA : ∀ a : Nat, a < s.heap.size → ¬ A a := fun a h => by rw [hAd]; exact Nat.not_le.mpr h
  -- the classes
  have hcl : ∀ ci : Nat, ∃ x : ClassId × (Nat → Nat), ci < 9 → u_Kn s (xi_cn ci) (xi_T ci) (xi_nf ci) x.1 x.2 := fun ci => by
    by_cases h : ci < 9
    · obtain ⟨cC, iS, hk⟩ := u_known (n := xi_nf ci) hts (xi_in h) (hts _ (xi_tb_of (List.mem_of_getElem? (xi_ip_ok ci h).1) rfl))
      exact ⟨(cC, iS), fun _ => hk⟩
    · exact ⟨(0, fun _ => 0), fun h2 => absurd h2 h⟩
  have hcs : ∀ t : Nat, ∃ cA : ClassId, 9 ≤ t → t ≤ 14 → ArrOfT s cA (xi_at t) ∧ va_RA s cA (xi_at t) := fun t => by
    by_cases h : 9 ≤ t ∧ t ≤ 14
    · have hh : ∃ cA : ClassId, ArrOfT s cA (xi_at t) ∧ va_RA s cA (xi_at t) := by
        rcases (show t = 9 ∨ t = 10 ∨ t = 11 ∨ t = 12 ∨ t = 13 ∨ t = 14 by omega) with rfl | rfl | rfl | rfl | rfl | rfl
        · exact xi_arr_prim (hts _ xi_w_ai) (fun _ h => h)
        · exact xi_arr_prim (hts _ xi_w_ab) (fun _ h => h)
        · exact xi_arr_prim (hts _ xi_w_aj) (fun _ h => h)
        · exact xi_arr_obj (hts _ xi_w_od)
        · exact xi_arr_arr (hts _ xi_w_ob)
        · exact xi_arr_arr (hts _ xi_w_oi)
      obtain ⟨cA, hh⟩ := hh
      exact ⟨cA, fun _ _ => hh⟩
    · exact ⟨0, fun h1 h2 => absurd ⟨h1, h2⟩ h⟩
  obtain ⟨D, hD⟩ : ∃ D : va_G, ∀ ci : Nat, ci < 9 → u_Kn s (xi_cn ci) (xi_T ci) (xi_nf ci) (D.1 ci) (D.2 ci) := ⟨(fun k => (Classical.choose (hcl k)).1, fun k => (Classical.choose (hcl k)).2), fun ci h => Classical.choose_spec (hcl ci) h⟩
  obtain ⟨cs, hcs⟩ : ∃ cs : Nat → ClassId, ∀ t, 9 ≤ t → t ≤ 14 → ArrOfT s (cs t) (xi_at t) ∧ va_RA s (cs t) (xi_at t) := ⟨fun t => Classical.choose (hcs t), fun t => Classical.choose_spec (hcs t)⟩
  have hK : va_K D xi_cl (xi_ts cs) s := ⟨fun ci q hq => by
    have h9 := xi_cl_lt hq
    rw [xi_cl_at h9] at hq
    cases hq
    exact hD ci h9, fun k q hq => by
    have hk : k < 6 := (List.getElem?_eq_some_iff.mp hq).1
    have h1 := xi_ts_at cs (t := k + 9) (by omega) (by omega)
    rw [show k + 9 - 9 = k by omega, hq] at h1
    cases h1
    exact hcs (k + 9) (by omega) (by omega)⟩
  -- the tables
  obtain ⟨tL, hvL, hTL⟩ := va_Tof (tm := .static "GuineaHours" "KIND_LETTERS" "[B") (ty := .byte) (N := 6) (f := fun i => .int (xi_letters i)) (A := A) (by decide) (hfl _ (by decide +kernel)) (va_eqt (hfl (Cond.eq (.length (.static "GuineaHours" "KIND_LETTERS" "[B")) (.int 6)) (by decide +kernel))) (fun j hj => by
    rcases (show j = 0 ∨ j = 1 ∨ j = 2 ∨ j = 3 ∨ j = 4 ∨ j = 5 by omega) with rfl | rfl | rfl | rfl | rfl | rfl
    · exact va_eqt (hfl (Cond.eq (.elem (.static "GuineaHours" "KIND_LETTERS" "[B") (.int 0)) (.int 109)) (by decide +kernel))
    · exact va_eqt (hfl (Cond.eq (.elem (.static "GuineaHours" "KIND_LETTERS" "[B") (.int 1)) (.int 112)) (by decide +kernel))
    · exact va_eqt (hfl (Cond.eq (.elem (.static "GuineaHours" "KIND_LETTERS" "[B") (.int 2)) (.int 115)) (by decide +kernel))
    · exact va_eqt (hfl (Cond.eq (.elem (.static "GuineaHours" "KIND_LETTERS" "[B") (.int 3)) (.int 101)) (by decide +kernel))
    · exact va_eqt (hfl (Cond.eq (.elem (.static "GuineaHours" "KIND_LETTERS" "[B") (.int 4)) (.int 103)) (by decide +kernel))
    · exact va_eqt (hfl (Cond.eq (.elem (.static "GuineaHours" "KIND_LETTERS" "[B") (.int 5)) (.int 116)) (by decide +kernel))) hnA
  obtain ⟨tE, hvE, hTE⟩ := va_Tof (tm := .static "GuineaHours" "KIND_EXTRA" "[I") (ty := .int) (N := 6) (f := fun i => .int (xi_extra i)) (A := A) (by decide) (hfl _ (by decide +kernel)) (va_eqt (hfl (Cond.eq (.length (.static "GuineaHours" "KIND_EXTRA" "[I")) (.int 6)) (by decide +kernel))) (fun j hj => by
    rcases (show j = 0 ∨ j = 1 ∨ j = 2 ∨ j = 3 ∨ j = 4 ∨ j = 5 by omega) with rfl | rfl | rfl | rfl | rfl | rfl
    · exact va_eqt (hfl (Cond.eq (.elem (.static "GuineaHours" "KIND_EXTRA" "[I") (.int 0)) (.int 0)) (by decide +kernel))
    · exact va_eqt (hfl (Cond.eq (.elem (.static "GuineaHours" "KIND_EXTRA" "[I") (.int 1)) (.int 0)) (by decide +kernel))
    · exact va_eqt (hfl (Cond.eq (.elem (.static "GuineaHours" "KIND_EXTRA" "[I") (.int 2)) (.int 0)) (by decide +kernel))
    · exact va_eqt (hfl (Cond.eq (.elem (.static "GuineaHours" "KIND_EXTRA" "[I") (.int 3)) (.int 1)) (by decide +kernel))
    · exact va_eqt (hfl (Cond.eq (.elem (.static "GuineaHours" "KIND_EXTRA" "[I") (.int 4)) (.int 0)) (by decide +kernel))
    · exact va_eqt (hfl (Cond.eq (.elem (.static "GuineaHours" "KIND_EXTRA" "[I") (.int 5)) (.int 2)) (by decide +kernel))) hnA
  have hZL := va_Zref (A := A) (hlw _ xi_w_ls1) (hlw _ xi_w_ghi) hvL hnA
  have hZE := va_Zref (A := A) (hlw _ xi_w_ls2) (hlw _ xi_w_ghi) hvE hnA
  have hTS : va_T .int b L (fun i => .int (xs i)) A s s.heap := by
    obtain ⟨scr, h1, h2, h3, h4, h5⟩ := hX
    exact ⟨scr, h1, h2, h3, Nat.le_of_eq h4.symm, by rw [h4], h5, hnA b hbl⟩
  obtain ⟨ρ, hρ⟩ : ∃ ρ : Nat → Nat, ρ = fun k => if k = 1000000 then tL else if k = 1000001 then tE else b := ⟨_, rfl⟩
  have r0 : ρ 1000000 = tL := by rw [hρ]; simp
  have r1 : ρ 1000001 = tE := by rw [hρ]; simp
  have r2 : ρ 1000002 = b := by rw [hρ]; simp
  have hro : xi_ro (L, xs) ρ A s s.heap := by
    unfold xi_ro
    rw [r0, r1, r2]
    exact ⟨hTL, hTE, hTS, hZL, hZE⟩
  have hG := xi_body xi_ok n 30 257 (xm_257, 4, 1, xc_257) xi_tab_law p l e room_1 s m #[Value.ref b] below meth c (lw_Z below #[Value.ref b] s) D cs (L, xs) A ρ 0 0 hx hb hml hown hts (fun h => by cases h) (Nat.le_of_ble_eq_true rfl) (Nat.le_of_ble_eq_true rfl) 0 (xi_en [.ref 1000002] 4) [] xi_S0 (some (.int 1)) S3 hrun (by show _ ≤ 0 + 600000; omega) (by show _ ≤ 0 + 7302250; omega) (by omega) (by
    intro pc ls2 hrt ρ2 H locs cells slots lsC hw hl hs
    have hn := hw.2.2.2.2.2.2.2.2.1
    have hz := hw.2.2.2.2.2.2.2.2.2
    have hS := hw.2.2.2.1
    rcases hrt with ⟨hd, -⟩ | ⟨-, -, v, hv⟩ | ⟨-, -, hv⟩
    · refine va_forget (fun q hq => ?_) (W.widen (k := 600000) (n := 7302250) (by omega) (by omega) (lw_ret hx hb hr hlocks hd))
      have := hS.2.2 q hq
      rw [hAd] at this
      exact this
    · cases hv
    · cases hv)
  rw [lg_entry_eq]
  have hlr := xi_en_lr (ρ := ρ) (N := xi_S0.1.length) (mL := 4) (vs := [.ref 1000002]) (fun v hv => by rw [List.mem_singleton.mp hv]; exact Or.inr (Nat.le_of_ble_eq_true rfl)) (Nat.le_of_ble_eq_true rfl)
  rw [show [Value.ref 1000002].map (xi_cv ρ) = [Value.ref b] by show [Value.ref (ρ 1000002)] = _; rw [r2]] at hlr
  have hP0 : va_P D xi_cl (xi_ws cs ρ xi_S0) s.heap := fun k q h => absurd h (by simp [xi_ws, xi_S0])
  have hD0 : va_D A (xi_ws cs ρ xi_S0) := ⟨fun i j p q h => absurd h (by simp [xi_ws, xi_S0]), fun k q h => absurd h (by simp [xi_ws, xi_S0])⟩
  have hwf0 : xi_wf xi_S0 := fun k j r hk hr => by cases hr
  exact hG ρ s.heap [] 0 0 _ ⟨hK, hP0, hD0, va_S.rf, hA, hro, hwf0, fun _ _ => rfl, rfl, rfl⟩ hlr (fun v hv => by cases hv)
