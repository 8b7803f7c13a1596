/-! arrays, and new cells -/
theorem xi_ar_lo {scr : xi_X} {S : xi_S} {a t n : Nat} {f : Nat → Int32} (h : xi_ar scr S a = some (t, n, f)) (hlt : a < 1000000) : S.1[a]? = some (t, n) ∧ f = S.2.1 a := by
  unfold xi_ar at h
  rw [if_pos hlt] at h
  cases hq : S.1[a]? with
  | none => rw [hq] at h; cases h
  | some q =>
    obtain ⟨t2, n2⟩ := q
    rw [hq] at h
    cases h
    exact ⟨rfl, rfl⟩
theorem xi_ar_hi {scr : xi_X} {S : xi_S} {a t n : Nat} {f : Nat → Int32} (h : xi_ar scr S a = some (t, n, f)) (hge : ¬ a < 1000000) : xi_ros scr (a - 1000000) = some (t, n, f) := by
  unfold xi_ar at h
  rw [if_neg hge] at h
  exact h
theorem xi_ro_at {scr : xi_X} {ρ : Nat → Nat} {A : Nat → Prop} {s : State} {H : Heap} (hro : xi_ro scr ρ A s H) {j t n : Nat} {f : Nat → Int32} (h : xi_ros scr j = some (t, n, f)) : va_T (xi_at t) (ρ (1000000 + j)) n (fun i => .int (f i)) A s H := by
  match j, h with
  | 0, h => cases h; exact hro.1
  | 1, h => cases h; exact hro.2.1
  | 2, h => cases h; exact hro.2.2.1
  | j + 3, h => cases h
theorem xi_ald_of {scr : xi_X} {tag i i2 : Nat} {ls ls2 : xi_L} {st st2 : List Value} {S S2 : xi_S} (h : xi_ald scr tag i ls st S = some (i2, ls2, st2, S2)) : ∃ j a r n f, st = .int j :: .ref a :: r ∧ xi_ar scr S a = some (tag, n, f) ∧ vp_in j n ∧ i2 = i + 1 ∧ ls2 = ls ∧ st2 = .int (f j.toNatClampNeg) :: r ∧ S2 = S := by
  rcases st with _ | ⟨v, _ | ⟨u, r⟩⟩
  · simp [xi_ald] at h
  · cases v <;> simp [xi_ald] at h
  · cases v with
    | int j =>
      cases u with
      | ref a =>
        simp only [xi_ald] at h
        cases hq : xi_ar scr S a with
        | none => rw [hq] at h; cases h
        | some q =>
          obtain ⟨t, n, f⟩ := q
          rw [hq] at h
          simp only at h
          by_cases ht : t = tag
          · rw [if_pos ht] at h
            by_cases hin : j < 0 ∨ n ≤ j.toNatClampNeg
            · rw [if_pos hin] at h
              cases h
            · rw [if_neg hin] at h
              cases h
              exact ⟨j, a, r, n, f, rfl, by rw [hq, ht], hin, rfl, rfl, rfl, rfl⟩
          · rw [if_neg ht] at h
            cases h
      | _ => simp [xi_ald] at h
    | _ => simp [xi_ald] at h
theorem xi_upd {f : Nat → Nat → Int32} {k j : Nat} {x : Int32} : xi_up f k j x k = upd (f k) j x := by
  funext b
  simp [xi_up, upd]
theorem xi_updL {f : Nat → Nat → Int64} {k j : Nat} {x : Int64} : xi_up f k j x k = vp_updL (f k) j x := by
  funext b
  simp [xi_up, vp_updL]
theorem xi_updq {f : Nat → Nat → Option Nat} {ρ : Nat → Nat} {k j a : Nat} : (fun b => (xi_up f k j (some a) k b).map ρ) = va_up (fun b => (f k b).map ρ) j (some (ρ a)) := by
  funext b
  by_cases h : b = j <;> simp [xi_up, va_up, h]
theorem xi_RA_eq {s : State} {c1 c2 : ClassId} {ty : FieldType} (h1 : va_RA s c1 ty) (h2 : va_RA s c2 ty) : c1 = c2 := by
  cases ty with
  | object C =>
    obtain ⟨_, _, _, _, _, h1⟩ := h1
    obtain ⟨_, _, _, _, _, h2⟩ := h2
    exact Option.some.inj (h1.symm.trans h2)
  | _ => exact Option.some.inj ((show s.vm.findClass _ = some c1 from h1).symm.trans h2)
theorem xi_w_ai : Cond.arrayClass .int ∈ xi_tb := xi_tb_of (List.mem_append_right _ (List.mem_of_getElem? (i := 60) (by decide +kernel))) rfl
theorem xi_w_ab : Cond.arrayClass .byte ∈ xi_tb := xi_tb_of (List.mem_append_right _ (List.mem_of_getElem? (i := 61) (by decide +kernel))) rfl
theorem xi_w_aj : Cond.arrayClass .long ∈ xi_tb := xi_tb_of (List.mem_append_right _ (List.mem_of_getElem? (i := 184) (by decide +kernel))) rfl
theorem xi_w_od : Cond.arrayOver (.object "GuineaHours$Day") ∈ xi_tb := xi_tb_of (List.mem_append_right _ (List.mem_of_getElem? (i := 87) (by decide +kernel))) rfl
theorem xi_w_oi : Cond.arrayOver (.array .int) ∈ xi_tb := xi_tb_of (List.mem_append_right _ (List.mem_of_getElem? (i := 23) (by decide +kernel))) rfl
theorem xi_w_ob : Cond.arrayOver (.array .byte) ∈ xi_tb := xi_tb_of (List.mem_append_right _ (List.mem_of_getElem? (i := 25) (by decide +kernel))) rfl

section XIS
variable {p : Program} {l : Launch} {en : Env} {R : Room} {s : State} {m : MethodId} {args : Array Value} {below : List Frame} {meth : Method} {c : Code} {Q : State → Prop} {D : va_G} {cs : Nat → ClassId} {scr : xi_X} {A : Nat → Prop} {nL : Nat} {ρ0 : Nat → Nat} {N0 L0 : Nat} {cc : ByteArray} {pcs : Nat → Nat} {i i2 : Nat} {ls ls2 : xi_L} {st st2 : List Value} {S S2 : xi_S} {nf : List Nat} {k1 : Int32} {k2 : Int64}

theorem xi_s_iaload (hx : p.tables.exec = Jvm.exec) (hb : c.code = cc) (hd : xi_dn cc pcs i (.iaload, nf, k1, k2) 1 = true) (h : xi_stp scr (.iaload, nf, k1, k2) i ls st S = some (i2, ls2, st2, S2)) (k : xi_G p l en R s m args below meth c Q D cs scr A nL ρ0 N0 L0 (pcs i2) ls2 (st2) S2) : xi_G p l en R s m args below meth c Q D cs scr A nL ρ0 N0 L0 (pcs i) ls (st) S := by
  obtain ⟨hd, hn⟩ := xi_dn_of hd
  obtain ⟨j, a, r, n, f, rfl, hq, hin, rfl, rfl, rfl, rfl⟩ := xi_ald_of h
  intro ρ H locs cells slots lsC hw hl hs
  rw [hn] at k
  have kk := k ρ H locs cells slots lsC hw hl (hs.tail.tail.cons trivial)
  by_cases hlt : a < 1000000
  · obtain ⟨hq2, rfl⟩ := xi_ar_lo hq hlt
    have he := xi_ws_at (cs := cs) (ρ := ρ) hq2
    rw [xi_ec_i (by omega) (by omega)] at he
    exact va_iald hx hb hw.1 hw.2.1 a (9 - 9) he rfl hin hd kk
  · have hT := xi_ro_at hw.2.2.2.2.2.1 (xi_ar_hi hq hlt)
    rw [show 1000000 + (a - 1000000) = a from Nat.add_sub_cancel' (Nat.not_lt.mp hlt), ← hw.2.2.2.2.2.2.2.1 a (Or.inr (Nat.not_lt.mp hlt))] at hT
    exact va_ti hx hb hT hw.2.2.2.1 hin rfl hd kk
theorem xi_s_baload (hx : p.tables.exec = Jvm.exec) (hb : c.code = cc) (hd : xi_dn cc pcs i (.baload, nf, k1, k2) 1 = true) (h : xi_stp scr (.baload, nf, k1, k2) i ls st S = some (i2, ls2, st2, S2)) (k : xi_G p l en R s m args below meth c Q D cs scr A nL ρ0 N0 L0 (pcs i2) ls2 (st2) S2) : xi_G p l en R s m args below meth c Q D cs scr A nL ρ0 N0 L0 (pcs i) ls (st) S := by
  obtain ⟨hd, hn⟩ := xi_dn_of hd
  obtain ⟨j, a, r, n, f, rfl, hq, hin, rfl, rfl, rfl, rfl⟩ := xi_ald_of h
  intro ρ H locs cells slots lsC hw hl hs
  rw [hn] at k
  have kk := k ρ H locs cells slots lsC hw hl (hs.tail.tail.cons trivial)
  by_cases hlt : a < 1000000
  · obtain ⟨hq2, rfl⟩ := xi_ar_lo hq hlt
    have he := xi_ws_at (cs := cs) (ρ := ρ) hq2
    rw [xi_ec_i (by omega) (by omega)] at he
    exact va_bald hx hb hw.1 hw.2.1 a (10 - 9) he rfl hin hd kk
  · have hT := xi_ro_at hw.2.2.2.2.2.1 (xi_ar_hi hq hlt)
    rw [show 1000000 + (a - 1000000) = a from Nat.add_sub_cancel' (Nat.not_lt.mp hlt), ← hw.2.2.2.2.2.2.2.1 a (Or.inr (Nat.not_lt.mp hlt))] at hT
    exact va_tb hx hb hT hw.2.2.2.1 hin rfl hd kk
theorem xi_s_laload (hx : p.tables.exec = Jvm.exec) (hb : c.code = cc) (hd : xi_dn cc pcs i (.laload, nf, k1, k2) 1 = true) (h : xi_stp scr (.laload, nf, k1, k2) i ls st S = some (i2, ls2, st2, S2)) (k : xi_G p l en R s m args below meth c Q D cs scr A nL ρ0 N0 L0 (pcs i2) ls2 (st2) S2) : xi_G p l en R s m args below meth c Q D cs scr A nL ρ0 N0 L0 (pcs i) ls (st) S := by
  obtain ⟨hd, hn⟩ := xi_dn_of hd
  have h : xi_lald i ls st S = some (i2, ls2, st2, S2) := h
  rcases st with _ | ⟨v, _ | ⟨u, r⟩⟩
  · simp [xi_lald] at h
  · cases v <;> simp [xi_lald] at h
  · cases v with
    | int j =>
      cases u with
      | ref a =>
        simp only [xi_lald] at h
        cases hq : S.1[a]? with
        | none => rw [hq] at h; cases h
        | some q =>
          obtain ⟨t, n⟩ := q
          rw [hq] at h
          simp only at h
          by_cases ht : t = 11
          · rw [if_pos ht] at h
            by_cases hin : j < 0 ∨ n ≤ j.toNatClampNeg
            · rw [if_pos hin] at h
              cases h
            · rw [if_neg hin] at h
              cases h
              subst ht
              intro ρ H locs cells slots lsC hw hl hs
              rw [hn] at k
              have he := xi_ws_at (cs := cs) (ρ := ρ) hq
              rw [xi_ec_l] at he
              exact va_lald hx hb hw.1 hw.2.1 a 2 he rfl hin hd (k ρ H locs cells slots lsC hw hl (hs.tail.tail.cons trivial))
          · rw [if_neg ht] at h
            cases h
      | _ => simp [xi_lald] at h
    | _ => simp [xi_lald] at h
theorem xi_s_aaload (hx : p.tables.exec = Jvm.exec) (hb : c.code = cc) (hd : xi_dn cc pcs i (.aaload, nf, k1, k2) 1 = true) (h : xi_stp scr (.aaload, nf, k1, k2) i ls st S = some (i2, ls2, st2, S2)) (k : xi_G p l en R s m args below meth c Q D cs scr A nL ρ0 N0 L0 (pcs i2) ls2 (st2) S2) : xi_G p l en R s m args below meth c Q D cs scr A nL ρ0 N0 L0 (pcs i) ls (st) S := by
  obtain ⟨hd, hn⟩ := xi_dn_of hd
  have h : xi_aald i ls st S = some (i2, ls2, st2, S2) := h
  rcases st with _ | ⟨v, _ | ⟨u, r⟩⟩
  · simp [xi_aald] at h
  · cases v <;> simp [xi_aald] at h
  · cases v with
    | int j =>
      cases u with
      | ref a =>
        simp only [xi_aald] at h
        cases hq : S.1[a]? with
        | none => rw [hq] at h; cases h
        | some q =>
          obtain ⟨t, n⟩ := q
          rw [hq] at h
          simp only at h
          by_cases ht : 12 ≤ t ∧ t ≤ 14
          · rw [if_pos ht] at h
            by_cases hin : j < 0 ∨ n ≤ j.toNatClampNeg
            · rw [if_pos hin] at h
              cases h
            · rw [if_neg hin] at h
              cases h
              intro ρ H locs cells slots lsC hw hl hs
              rw [hn] at k
              have he := xi_ws_at (cs := cs) (ρ := ρ) hq
              rw [xi_ec_r ht.1] at he
              have hlt : j.toNatClampNeg < n := Nat.not_le.mp fun q => hin (Or.inr q)
              have hty : (xi_at t).isReference = true := by
                rcases (show t = 12 ∨ t = 13 ∨ t = 14 by omega) with rfl | rfl | rfl <;> rfl
              have kk := k ρ H locs cells slots lsC hw hl (hs.tail.tail.cons (by
                cases hh : S.2.2.2 a j.toNatClampNeg with
                | none => trivial
                | some r2 => exact Or.inl (hw.2.2.2.2.2.2.1 a _ r2 (List.getElem?_eq_some_iff.mp hq).1 hh)))
              rw [List.map_cons, xi_cv_rf] at kk
              exact W.aald (v := va_rf ((S.2.2.2 a j.toNatClampNeg).map ρ)) (ty := xi_at t) hx hb (hw.2.1 a _ he) ((hw.1.2 (t - 9) _ (xi_ts_at cs (by omega) ht.2)).1 n (fun b => va_rf ((S.2.2.2 a b).map ρ))) hty (fun q => by cases q) (by show ¬ (j < 0 ∨ (arrV _ _ _).slots.size ≤ _); rw [arrV_size]; exact hin) (by show (arrV _ _ _).slots[_]? = _; rw [arrV_read _ _ hlt]) rfl rfl hd kk
          · rw [if_neg ht] at h
            cases h
      | _ => simp [xi_aald] at h
    | _ => simp [xi_aald] at h
theorem xi_s_iastore (hx : p.tables.exec = Jvm.exec) (hb : c.code = cc) (hd : xi_dn cc pcs i (.iastore, nf, k1, k2) 1 = true) (h : xi_stp scr (.iastore, nf, k1, k2) i ls st S = some (i2, ls2, st2, S2)) (k : xi_G p l en R s m args below meth c Q D cs scr A nL ρ0 N0 L0 (pcs i2) ls2 (st2) S2) : xi_G p l en R s m args below meth c Q D cs scr A nL ρ0 N0 L0 (pcs i) ls (st) S := by
  obtain ⟨hd, hn⟩ := xi_dn_of hd
  have h : xi_ast 9 i ls st S = some (i2, ls2, st2, S2) := h
  rcases st with _ | ⟨v, _ | ⟨u, _ | ⟨z, r⟩⟩⟩
  · simp [xi_ast] at h
  · cases v <;> simp [xi_ast] at h
  · cases v <;> cases u <;> simp [xi_ast] at h
  · cases v with
    | int x =>
      cases u with
      | int j =>
        cases z with
        | ref a =>
          simp only [xi_ast] at h
          cases hq : S.1[a]? with
          | none => rw [hq] at h; cases h
          | some q =>
            obtain ⟨t, n⟩ := q
            rw [hq] at h
            simp only at h
            by_cases ht : t = 9
            · rw [if_pos ht] at h
              by_cases hin : j < 0 ∨ n ≤ j.toNatClampNeg
              · rw [if_pos hin] at h
                cases h
              · rw [if_neg hin] at h
                cases h
                subst ht
                intro ρ H locs cells slots lsC hw hl hs
                rw [hn] at k
                have he := xi_ws_at (cs := cs) (ρ := ρ) hq
                rw [xi_ec_i (by omega) (by omega)] at he
                refine va_iast hx hb hw.1 hw.2.1 hw.2.2.1 hw.2.2.2.1 a (9 - 9) he rfl hin hd (fun H1 locs1 hP1 hD1 hS1 => ?_)
                have hws : xi_ws cs ρ (S.1, xi_up S.2.1 a j.toNatClampNeg (x), S.2.2) = (xi_ws cs ρ S).set a (ρ a, .inl (cs 9, n, .inl (upd (S.2.1 a) j.toNatClampNeg (x)))) := by
                  rw [xi_ws_set (S := S) (S2 := (S.1, xi_up S.2.1 a j.toNatClampNeg (x), S.2.2)) rfl hq (fun b hb => xi_up_ne hb) (fun b hb => rfl) (fun b hb => rfl), xi_ec_i (by omega) (by omega), ← xi_upd]
                rw [← hws] at hP1 hD1
                exact k ρ H1 locs1 cells slots lsC ⟨hw.1, hP1, hD1, hS1, hw.2.2.2.2.1, hw.2.2.2.2.2.1, hw.2.2.2.2.2.2.1, hw.2.2.2.2.2.2.2.1, hw.2.2.2.2.2.2.2.2.1, hw.2.2.2.2.2.2.2.2.2⟩ hl hs.tail.tail.tail
            · rw [if_neg ht] at h
              cases h
        | _ => simp [xi_ast] at h
      | _ => cases z <;> simp [xi_ast] at h
    | _ => cases u <;> cases z <;> simp [xi_ast] at h
theorem xi_s_bastore (hx : p.tables.exec = Jvm.exec) (hb : c.code = cc) (hd : xi_dn cc pcs i (.bastore, nf, k1, k2) 1 = true) (h : xi_stp scr (.bastore, nf, k1, k2) i ls st S = some (i2, ls2, st2, S2)) (k : xi_G p l en R s m args below meth c Q D cs scr A nL ρ0 N0 L0 (pcs i2) ls2 (st2) S2) : xi_G p l en R s m args below meth c Q D cs scr A nL ρ0 N0 L0 (pcs i) ls (st) S := by
  obtain ⟨hd, hn⟩ := xi_dn_of hd
  have h : xi_ast 10 i ls st S = some (i2, ls2, st2, S2) := h
  rcases st with _ | ⟨v, _ | ⟨u, _ | ⟨z, r⟩⟩⟩
  · simp [xi_ast] at h
  · cases v <;> simp [xi_ast] at h
  · cases v <;> cases u <;> simp [xi_ast] at h
  · cases v with
    | int x =>
      cases u with
      | int j =>
        cases z with
        | ref a =>
          simp only [xi_ast] at h
          cases hq : S.1[a]? with
          | none => rw [hq] at h; cases h
          | some q =>
            obtain ⟨t, n⟩ := q
            rw [hq] at h
            simp only at h
            by_cases ht : t = 10
            · rw [if_pos ht] at h
              by_cases hin : j < 0 ∨ n ≤ j.toNatClampNeg
              · rw [if_pos hin] at h
                cases h
              · rw [if_neg hin] at h
                cases h
                subst ht
                intro ρ H locs cells slots lsC hw hl hs
                rw [hn] at k
                have he := xi_ws_at (cs := cs) (ρ := ρ) hq
                rw [xi_ec_i (by omega) (by omega)] at he
                refine va_bast hx hb hw.1 hw.2.1 hw.2.2.1 hw.2.2.2.1 a (10 - 9) he rfl hin hd (fun H1 locs1 hP1 hD1 hS1 => ?_)
                rw [vp_nar_byte] at hP1 hD1
                have hws : xi_ws cs ρ (S.1, xi_up S.2.1 a j.toNatClampNeg (x.toInt8.toInt32), S.2.2) = (xi_ws cs ρ S).set a (ρ a, .inl (cs 10, n, .inl (upd (S.2.1 a) j.toNatClampNeg (x.toInt8.toInt32)))) := by
                  rw [xi_ws_set (S := S) (S2 := (S.1, xi_up S.2.1 a j.toNatClampNeg (x.toInt8.toInt32), S.2.2)) rfl hq (fun b hb => xi_up_ne hb) (fun b hb => rfl) (fun b hb => rfl), xi_ec_i (by omega) (by omega), ← xi_upd]
                rw [← hws] at hP1 hD1
                exact k ρ H1 locs1 cells slots lsC ⟨hw.1, hP1, hD1, hS1, hw.2.2.2.2.1, hw.2.2.2.2.2.1, hw.2.2.2.2.2.2.1, hw.2.2.2.2.2.2.2.1, hw.2.2.2.2.2.2.2.2.1, hw.2.2.2.2.2.2.2.2.2⟩ hl hs.tail.tail.tail
            · rw [if_neg ht] at h
              cases h
        | _ => simp [xi_ast] at h
      | _ => cases z <;> simp [xi_ast] at h
    | _ => cases u <;> cases z <;> simp [xi_ast] at h
theorem xi_s_lastore (hx : p.tables.exec = Jvm.exec) (hb : c.code = cc) (hd : xi_dn cc pcs i (.lastore, nf, k1, k2) 1 = true) (h : xi_stp scr (.lastore, nf, k1, k2) i ls st S = some (i2, ls2, st2, S2)) (k : xi_G p l en R s m args below meth c Q D cs scr A nL ρ0 N0 L0 (pcs i2) ls2 (st2) S2) : xi_G p l en R s m args below meth c Q D cs scr A nL ρ0 N0 L0 (pcs i) ls (st) S := by
  obtain ⟨hd, hn⟩ := xi_dn_of hd
  have h : xi_last i ls st S = some (i2, ls2, st2, S2) := h
  rcases st with _ | ⟨v, _ | ⟨u, _ | ⟨z, r⟩⟩⟩
  · simp [xi_last] at h
  · cases v <;> simp [xi_last] at h
  · cases v <;> cases u <;> simp [xi_last] at h
  · cases v with
    | long x =>
      cases u with
      | int j =>
        cases z with
        | ref a =>
          simp only [xi_last] at h
          cases hq : S.1[a]? with
          | none => rw [hq] at h; cases h
          | some q =>
            obtain ⟨t, n⟩ := q
            rw [hq] at h
            simp only at h
            by_cases ht : t = 11
            · rw [if_pos ht] at h
              by_cases hin : j < 0 ∨ n ≤ j.toNatClampNeg
              · rw [if_pos hin] at h
                cases h
              · rw [if_neg hin] at h
                cases h
                subst ht
                intro ρ H locs cells slots lsC hw hl hs
                rw [hn] at k
                have he := xi_ws_at (cs := cs) (ρ := ρ) hq
                rw [xi_ec_l] at he
                refine va_last hx hb hw.1 hw.2.1 hw.2.2.1 hw.2.2.2.1 a 2 he rfl hin hd (fun H1 locs1 hP1 hD1 hS1 => ?_)
                have hws : xi_ws cs ρ (S.1, S.2.1, xi_up S.2.2.1 a j.toNatClampNeg x, S.2.2.2) = (xi_ws cs ρ S).set a (ρ a, .inl (cs 11, n, .inr (.inl (vp_updL (S.2.2.1 a) j.toNatClampNeg x)))) := by
                  rw [xi_ws_set (S := S) (S2 := (S.1, S.2.1, xi_up S.2.2.1 a j.toNatClampNeg x, S.2.2.2)) rfl hq (fun b hb => rfl) (fun b hb => xi_up_ne hb) (fun b hb => rfl), xi_ec_l, ← xi_updL]
                rw [← hws] at hP1 hD1
                exact k ρ H1 locs1 cells slots lsC ⟨hw.1, hP1, hD1, hS1, hw.2.2.2.2.1, hw.2.2.2.2.2.1, hw.2.2.2.2.2.2.1, hw.2.2.2.2.2.2.2.1, hw.2.2.2.2.2.2.2.2.1, hw.2.2.2.2.2.2.2.2.2⟩ hl hs.tail.tail.tail
            · rw [if_neg ht] at h
              cases h
        | _ => simp [xi_last] at h
      | _ => cases z <;> simp [xi_last] at h
    | _ => cases u <;> cases z <;> simp [xi_last] at h
theorem xi_s_aastore (hx : p.tables.exec = Jvm.exec) (hb : c.code = cc) (hd : xi_dn cc pcs i (.aastore, nf, k1, k2) 1 = true) (h : xi_stp scr (.aastore, nf, k1, k2) i ls st S = some (i2, ls2, st2, S2)) (k : xi_G p l en R s m args below meth c Q D cs scr A nL ρ0 N0 L0 (pcs i2) ls2 (st2) S2) : xi_G p l en R s m args below meth c Q D cs scr A nL ρ0 N0 L0 (pcs i) ls (st) S := by
  obtain ⟨hd, hn⟩ := xi_dn_of hd
  have h : xi_aast i ls st S = some (i2, ls2, st2, S2) := h
  rcases st with _ | ⟨v, _ | ⟨u, _ | ⟨z, r⟩⟩⟩
  · simp [xi_aast] at h
  · cases v <;> simp [xi_aast] at h
  · cases v <;> cases u <;> simp [xi_aast] at h
  · cases v with
    | ref x =>
      cases u with
      | int j =>
        cases z with
        | ref a =>
          simp only [xi_aast] at h
          cases hq : S.1[a]? with
          | none => rw [hq] at h; cases h
          | some q =>
            cases hq2 : S.1[x]? with
            | none => rw [hq, hq2] at h; cases h
            | some q2 =>
              obtain ⟨t, n⟩ := q
              obtain ⟨t2, n2⟩ := q2
              rw [hq, hq2] at h
              simp only at h
              by_cases ht : t = 12 ∧ t2 = 1
              · rw [if_pos ht] at h
                by_cases hin : j < 0 ∨ n ≤ j.toNatClampNeg
                · rw [if_pos hin] at h
                  cases h
                · rw [if_neg hin] at h
                  cases h
                  obtain ⟨rfl, rfl⟩ := ht
                  intro ρ H locs cells slots lsC hw hl hs
                  rw [hn] at k
                  have he := xi_ws_at (cs := cs) (ρ := ρ) hq
                  rw [xi_ec_r (by omega)] at he
                  have he2 := xi_ws_at (cs := cs) (ρ := ρ) hq2
                  rw [xi_ec_o (by omega)] at he2
                  refine va_astq (r := (xi_cn 1, xi_T 1, xi_nf 1)) hx hb hw.1 hw.2.1 hw.2.2.1 hw.2.2.2.1 a 3 x 1 he rfl he2 rfl hin hd (fun H1 locs1 hP1 hD1 hS1 => ?_)
                  have hws : xi_ws cs ρ (S.1, S.2.1, S.2.2.1, xi_up S.2.2.2 a j.toNatClampNeg (some x)) = (xi_ws cs ρ S).set a (ρ a, .inl (cs 12, n, .inr (.inr (.inr (.inr (va_up (fun b => (S.2.2.2 a b).map ρ) j.toNatClampNeg (some (ρ x)))))))) := by
                    rw [xi_ws_set (S := S) (S2 := (S.1, S.2.1, S.2.2.1, xi_up S.2.2.2 a j.toNatClampNeg (some x))) rfl hq (fun b hb => rfl) (fun b hb => rfl) (fun b hb => xi_up_ne hb), xi_ec_r (by omega), ← xi_updq]
                  rw [← hws] at hP1 hD1
                  refine k ρ H1 locs1 cells slots lsC ⟨hw.1, hP1, hD1, hS1, hw.2.2.2.2.1, hw.2.2.2.2.2.1, ?_, hw.2.2.2.2.2.2.2.1, hw.2.2.2.2.2.2.2.2.1, hw.2.2.2.2.2.2.2.2.2⟩ hl hs.tail.tail.tail
                  intro b j2 r2 hb hr
                  have hr : xi_up S.2.2.2 a j.toNatClampNeg (some x) b j2 = some r2 := hr
                  by_cases e : b = a
                  · subst e
                    by_cases e2 : j2 = j.toNatClampNeg
                    · subst e2
                      rw [xi_up_self] at hr
                      cases hr
                      exact (List.getElem?_eq_some_iff.mp hq2).1
                    · rw [xi_up_ne2 e2] at hr
                      exact hw.2.2.2.2.2.2.1 b j2 r2 hb hr
                  · rw [xi_up_ne e] at hr
                    exact hw.2.2.2.2.2.2.1 b j2 r2 hb hr
              · rw [if_neg ht] at h
                cases h
        | _ => simp [xi_aast] at h
      | _ => cases z <;> simp [xi_aast] at h
    | _ => cases u <;> cases z <;> simp [xi_aast] at h
theorem xi_s_arraylength (hx : p.tables.exec = Jvm.exec) (hb : c.code = cc) (hd : xi_dn cc pcs i (.arraylength, nf, k1, k2) 1 = true) (h : xi_stp scr (.arraylength, nf, k1, k2) i ls st S = some (i2, ls2, st2, S2)) (k : xi_G p l en R s m args below meth c Q D cs scr A nL ρ0 N0 L0 (pcs i2) ls2 (st2) S2) : xi_G p l en R s m args below meth c Q D cs scr A nL ρ0 N0 L0 (pcs i) ls (st) S := by
  obtain ⟨hd, hn⟩ := xi_dn_of hd
  have h : xi_alen scr i ls st S = some (i2, ls2, st2, S2) := h
  rcases st with _ | ⟨v, r⟩
  · simp [xi_alen] at h
  · cases v with
    | ref a =>
      simp only [xi_alen] at h
      cases hq : xi_ar scr S a with
      | none => rw [hq] at h; cases h
      | some q =>
        obtain ⟨t, n, f⟩ := q
        rw [hq] at h
        simp only at h
        by_cases ht : 9 ≤ t ∧ t ≤ 14
        · rw [if_pos ht] at h
          cases h
          intro ρ H locs cells slots lsC hw hl hs
          rw [hn] at k
          have kk := k ρ H locs cells slots lsC hw hl (hs.tail.cons trivial)
          by_cases hlt : a < 1000000
          · obtain ⟨hq2, rfl⟩ := xi_ar_lo hq hlt
            have he := xi_ws_at (cs := cs) (ρ := ρ) hq2
            have he2 : ∃ y : vp_A, xi_ec cs ρ S a (t, n) = .inl (cs t, y) ∧ y.1 = n := by
              unfold xi_ec
              rw [if_neg (by simp; omega)]
              exact ⟨_, rfl, rfl⟩
            obtain ⟨y, hy, hy1⟩ := he2
            rw [hy] at he
            exact va_alen hx hb hw.1 hw.2.1 a (t - 9) he (xi_ts_at cs ht.1 ht.2) (by rw [hy1]) hd kk
          · have hT := xi_ro_at hw.2.2.2.2.2.1 (xi_ar_hi hq hlt)
            rw [show 1000000 + (a - 1000000) = a from Nat.add_sub_cancel' (Nat.not_lt.mp hlt), ← hw.2.2.2.2.2.2.2.1 a (Or.inr (Nat.not_lt.mp hlt))] at hT
            exact va_tlen hx hb hT hw.2.2.2.1 rfl hd kk
        · rw [if_neg ht] at h
          cases h
    | _ => simp [xi_alen] at h
theorem xi_s_getstatic (hx : p.tables.exec = Jvm.exec) (hb : c.code = cc) (hts : ∀ w ∈ xi_tb, w.before args s = true) {own : Nat} (hown : s.vm.findClass (xi_cA own) = some m.cls) {n w : Nat} (hd : xi_dn cc pcs i (.getstatic n, nf, k1, k2) 3 = true) (hF : xi_FN[w]? = some (own, n, xi_k (.getstatic n, nf, k1, k2))) (hlt : xi_k (.getstatic n, nf, k1, k2) < 2) (h : xi_stp scr (.getstatic n, nf, k1, k2) i ls st S = some (i2, ls2, st2, S2)) (k : xi_G p l en R s m args below meth c Q D cs scr A nL ρ0 N0 L0 (pcs i2) ls2 (st2) S2) : xi_G p l en R s m args below meth c Q D cs scr A nL ρ0 N0 L0 (pcs i) ls (st) S := by
  obtain ⟨hd, hn⟩ := xi_dn_of hd
  simp only [xi_stp, Option.some.injEq, Prod.mk.injEq] at h
  obtain ⟨rfl, rfl, rfl, rfl⟩ := h
  intro ρ H locs cells slots lsC hw hl hs
  rw [hn] at k
  have kk := k ρ H locs cells slots lsC hw hl (hs.cons (Or.inr (Nat.le_add_right _ _)))
  generalize xi_k (.getstatic n, nf, k1, k2) = z at hF hlt kk
  have hlink := hts _ (xi_FN_mem hF)
  rw [List.map_cons] at kk
  have hro := hw.2.2.2.2.2.1
  have hρ := hw.2.2.2.2.2.2.2.1 (1000000 + z) (Or.inr (by omega))
  rcases (show z = 0 ∨ z = 1 by omega) with rfl | rfl
  · exact va_getsN hx hb (v := .ref (ρ0 1000000)) hro.2.2.2.1 hw.2.2.2.1 hown hlink (fun _ h => h) hd (by rw [← hρ]; exact kk)
  · exact va_getsN hx hb (v := .ref (ρ0 1000001)) hro.2.2.2.2 hw.2.2.2.1 hown hlink (fun _ h => h) hd (by rw [← hρ]; exact kk)
end XIS
