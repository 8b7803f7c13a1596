/-! calls -/
section XIS
variable {p : Program} {l : Launch} {en : Env} {R : Room} {s : State} {m : MethodId} {args : Array Value} {below : List Frame} {meth : Method} {c : Code} {Q : State → Prop} {D : va_G} {cs : Nat → ClassId} {scr : xi_X} {A : Nat → Prop} {nL : Nat} {ρ0 : Nat → Nat} {N0 L0 : Nat} {cc : ByteArray} {pcs : Nat → Nat} {i i2 : Nat} {ls ls2 : xi_L} {st st2 : List Value} {S S2 : xi_S} {nf : List Nat} {k1 : Int32} {k2 : Int64}

theorem xi_s_virtual {n : Nat} (hBd : xi_Bd n) (hOK : xi_OK) (hx : p.tables.exec = Jvm.exec) (hb : c.code = cc) (hml : c.maxLocals = nL) (hts : ∀ w ∈ xi_tb, w.before args s = true) {own : Nat} (hown : s.vm.findClass (xi_cA own) = some m.cls) {d2 μ idx w : Nat} (hRf : d2 + 2 ≤ R.frames) (hRl : 60 * (d2 + 2) ≤ R.locals) {q2 : xi_Q} (hq2 : xi_tab[μ]? = some q2) (hμ : μ < 257 ∧ ¬ μ = 28 ∧ ¬ μ = 108) (hk1 : q2.1.2.2.2.2.2.1 = 1) (hML : xi_ML[w]? = some (own, idx, μ)) {b nn : Nat} (hrc : st[q2.2.2.1 - 1]? = some (.ref b)) (hcl : S.1[b]? = some (q2.1.1, nn)) (h9 : q2.1.1 < 9) (hd : decode cc (pcs i) = .ok (.invokevirtual idx, 3)) (hna : q2.2.2.1 ≤ st.length) (hlen : (xi_av (st.take q2.2.2.1).reverse).length ≤ q2.2.1) (hsum : ((st.drop q2.2.2.1).map fun v => v.category).sum ≤ 8) {rv : Option Value} (hrun : xi_ex xi_pg scr n d2 q2.2.2.2 0 (xi_en (st.take q2.2.2.1).reverse q2.2.1) [] S = some (rv, S2)) (hN : S2.1.length < 1000000) (hB : S2.1.length ≤ N0 + R.cells ∧ xi_sz S2 ≤ L0 + R.slots) (k : xi_G p l en R s m args below meth c Q D cs scr A nL ρ0 N0 L0 (pcs i + 3) ls (rv.toList ++ st.drop q2.2.2.1) S2) : xi_G p l en R s m args below meth c Q D cs scr A nL ρ0 N0 L0 (pcs i) ls (st) S := by
  obtain ⟨hpl, hMH, hin, h40, hpc0, hpar, hkd⟩ := xi_ckh_of ((hOK μ q2 hq2).2 hμ)
  have hpre := xi_ex_pre _ _ _ _ _ _ _ _ _ hrun
  obtain ⟨le1, le2⟩ := xi_pre_le hpre
  intro ρ H locs cells slots lsC hw hl hs
  have hn1 := hw.2.2.2.2.2.2.2.2.1
  have hn2 := hw.2.2.2.2.2.2.2.2.2
  have htg : ∀ w ∈ xi_gw, w.before args s = true := fun w hw => hts w (xi_gw_tb hw)
  have hvs : xi_wst S.1.length (st.take q2.2.2.1).reverse := fun v hv => hs v (List.mem_of_mem_take (List.mem_reverse.mp hv))
  have hrs : xi_wst S.1.length (st.drop q2.2.2.1) := fun v hv => hs v (List.mem_of_mem_drop hv)
  have hM := xi_met hBd hOK hq2 hμ hrun hw.2.2.2.2.2.2.1 hvs hlen hN l D cs ρ H.size
  have hcd := xi_code_mem hq2 hμ.1
  have hyq := xi_y_eq hq2 hμ.1
  have hfr : (xi_rm d2 S S2).frames + 1 ≤ R.frames ∧ 8 + (q2.2.1 + 11) + (xi_rm d2 S S2).locals ≤ R.locals := ⟨by show d2 + 1 + 1 ≤ _; omega, by show 8 + (q2.2.1 + 11) + 60 * (d2 + 1) ≤ _; omega⟩
  have hfit : cells + (S2.1.length - S.1.length) ≤ R.cells ∧ slots + (xi_sz S2 - xi_sz S) ≤ R.slots := ⟨by omega, by omega⟩
  have hwsg : ∀ w ∈ Cond.code (xi_yM q2.1) q2.1.2.2.2.1 q2.2.1 q2.1.2.2.2.2.1 :: xi_gw, w ∈ xi_gw := fun w hw => (List.mem_cons.mp hw).elim (fun e => by rw [e]; exact xi_gw_of hcd rfl) id
  have hbf := xi_before (vs := (st.take q2.2.2.1).reverse) (xi_nw_of hts) hw
  obtain ⟨hpos, him, hsl⟩ : 0 < q2.2.2.1 ∧ μ ∈ xi_im ∧ μ ∈ xi_s1 ++ xi_s2 := by
    rcases hkd with ⟨h0, -⟩ | ⟨-, h0, h1, h2, -⟩ | ⟨h0, -⟩
    · rw [h0] at hk1; cases hk1
    · exact ⟨h0, h1, h2⟩
    · rw [h0] at hk1; cases hk1
  obtain ⟨k0, hk0⟩ : ∃ k0, q2.2.2.1 = k0 + 1 := ⟨q2.2.2.1 - 1, by omega⟩
  rw [hk0] at hna hlen hsum hrun hvs hrs k hM hbf
  rw [show q2.2.2.1 - 1 = k0 by omega] at hrc
  obtain ⟨ht1, ht2⟩ := xi_split hrc
  have hrev : (st.take (k0 + 1)).reverse = .ref b :: (st.take k0).reverse := by rw [ht1, List.reverse_append]; rfl
  have hAs : ((st.take k0).reverse.map (xi_cv ρ)).length = k0 := by simp; omega
  have hstk : st.map (xi_cv ρ) = ((st.take k0).reverse.map (xi_cv ρ)).reverse ++ .ref (ρ b) :: (st.drop (k0 + 1)).map (xi_cv ρ) := by
    conv => lhs; rw [ht2]
    rw [List.map_append, List.map_cons, List.map_reverse, List.reverse_reverse]
    rfl
  have hvm : ((st.take (k0 + 1)).reverse.map (xi_cv ρ)).toArray = (Value.ref (ρ b) :: (st.take k0).reverse.map (xi_cv ρ)).toArray := by rw [hrev]; rfl
  have hlink := xi_ML_mem hML
  have hin2 := xi_im_mem him
  have hse := xi_sel_mem hsl
  rw [hyq] at hlink hin2 hse
  have hG : GoodIn xi_gw (wsV (xi_cA own) idx (xi_yM q2.1).cls (xi_yM q2.1) (Cond.code (xi_yM q2.1) q2.1.2.2.2.1 q2.2.1 q2.1.2.2.2.2.1 :: xi_gw)) := xi_goodIn (fun w hw => by
    rcases List.mem_append.mp hw with hw | hw
    · simp only [List.mem_cons, List.not_mem_nil, or_false] at hw
      rcases hw with rfl | rfl | rfl | rfl
      · exact xi_gw_of hlink rfl
      · exact xi_gw_of hin2 rfl
      · exact xi_gw_of hse rfl
      · exact xi_gw_of (xi_in_mem hin) rfl
    · exact hwsg w hw)
  have he := xi_ws_at (cs := cs) (ρ := ρ) hcl
  rw [xi_ec_o h9] at he
  have hrcv := va_recv hw.1 hw.2.1 (xi_cl_at h9) he
  rw [if_neg (by rw [hk1]; decide), hk0] at hpar
  rw [hstk]
  refine xi_after (rest := st.drop (k0 + 1)) (va_runV (As := (st.take k0).reverse.map (xi_cv ρ)) (rest := (st.drop (k0 + 1)).map (xi_cv ρ)) (b := ρ b) (Ts := xi_gw) ⟨hx, hb, hml, hown, htg⟩ hM (cwV k0 htg hG rfl rfl rfl ⟨rfl, hMH.1, hMH.2, hpar⟩ hfr) ⟨xi_Pc_blind, ?_, fun U hU hW => by rw [← hvm]; exact hbf U hU hW⟩ rfl hAs hl.2.1 rfl (lv_room (by rw [xi_cv_sum]; exact hsum)) hd hfit) hw hl hrs hpre k
  obtain ⟨cell, hc1, hc2, hc3⟩ := hrcv
  exact ⟨cell, hc1, hc2, by show s.vm.findClass (xi_cA q2.1.1) = _; rw [← xi_cA_eq h9]; exact hc3⟩
theorem xi_s_static {n : Nat} (hBd : xi_Bd n) (hOK : xi_OK) (hx : p.tables.exec = Jvm.exec) (hb : c.code = cc) (hml : c.maxLocals = nL) (hts : ∀ w ∈ xi_tb, w.before args s = true) {own : Nat} (hown : s.vm.findClass (xi_cA own) = some m.cls) {d2 μ idx w : Nat} (hRf : d2 + 2 ≤ R.frames) (hRl : 60 * (d2 + 2) ≤ R.locals) {q2 : xi_Q} (hq2 : xi_tab[μ]? = some q2) (hμ : μ < 257 ∧ ¬ μ = 28 ∧ ¬ μ = 108) (hk1 : q2.1.2.2.2.2.2.1 = 0) (hML : xi_ML[w]? = some (own, idx, μ)) (hd : decode cc (pcs i) = .ok (.invokestatic idx, 3)) (hna : q2.2.2.1 ≤ st.length) (hlen : (xi_av (st.take q2.2.2.1).reverse).length ≤ q2.2.1) (hsum : ((st.drop q2.2.2.1).map fun v => v.category).sum ≤ 8) {rv : Option Value} (hrun : xi_ex xi_pg scr n d2 q2.2.2.2 0 (xi_en (st.take q2.2.2.1).reverse q2.2.1) [] S = some (rv, S2)) (hN : S2.1.length < 1000000) (hB : S2.1.length ≤ N0 + R.cells ∧ xi_sz S2 ≤ L0 + R.slots) (k : xi_G p l en R s m args below meth c Q D cs scr A nL ρ0 N0 L0 (pcs i + 3) ls (rv.toList ++ st.drop q2.2.2.1) S2) : xi_G p l en R s m args below meth c Q D cs scr A nL ρ0 N0 L0 (pcs i) ls (st) S := by
  obtain ⟨hpl, hMH, hin, h40, hpc0, hpar, hkd⟩ := xi_ckh_of ((hOK μ q2 hq2).2 hμ)
  have hpre := xi_ex_pre _ _ _ _ _ _ _ _ _ hrun
  obtain ⟨le1, le2⟩ := xi_pre_le hpre
  intro ρ H locs cells slots lsC hw hl hs
  have hn1 := hw.2.2.2.2.2.2.2.2.1
  have hn2 := hw.2.2.2.2.2.2.2.2.2
  have htg : ∀ w ∈ xi_gw, w.before args s = true := fun w hw => hts w (xi_gw_tb hw)
  have hvs : xi_wst S.1.length (st.take q2.2.2.1).reverse := fun v hv => hs v (List.mem_of_mem_take (List.mem_reverse.mp hv))
  have hrs : xi_wst S.1.length (st.drop q2.2.2.1) := fun v hv => hs v (List.mem_of_mem_drop hv)
  have hM := xi_met hBd hOK hq2 hμ hrun hw.2.2.2.2.2.2.1 hvs hlen hN l D cs ρ H.size
  have hcd := xi_code_mem hq2 hμ.1
  have hyq := xi_y_eq hq2 hμ.1
  have hfr : (xi_rm d2 S S2).frames + 1 ≤ R.frames ∧ 8 + (q2.2.1 + 11) + (xi_rm d2 S S2).locals ≤ R.locals := ⟨by show d2 + 1 + 1 ≤ _; omega, by show 8 + (q2.2.1 + 11) + 60 * (d2 + 1) ≤ _; omega⟩
  have hfit : cells + (S2.1.length - S.1.length) ≤ R.cells ∧ slots + (xi_sz S2 - xi_sz S) ≤ R.slots := ⟨by omega, by omega⟩
  have hwsg : ∀ w ∈ Cond.code (xi_yM q2.1) q2.1.2.2.2.1 q2.2.1 q2.1.2.2.2.2.1 :: xi_gw, w ∈ xi_gw := fun w hw => (List.mem_cons.mp hw).elim (fun e => by rw [e]; exact xi_gw_of hcd rfl) id
  have hbf := xi_before (vs := (st.take q2.2.2.1).reverse) (xi_nw_of hts) hw
  have hsm : μ ∈ xi_sm := by
    rcases hkd with ⟨-, h0⟩ | ⟨h0, -⟩ | ⟨h0, -⟩
    · exact h0
    · rw [h0] at hk1; cases hk1
    · rw [h0] at hk1; cases hk1
  have hlink := xi_ML_mem hML
  have hst2 := xi_sm_mem hsm
  rw [hyq] at hlink hst2
  have hG : GoodIn xi_gw (va_wsS (xi_cA own) idx (xi_yM q2.1) (Cond.code (xi_yM q2.1) q2.1.2.2.2.1 q2.2.1 q2.1.2.2.2.2.1 :: xi_gw)) := xi_goodIn (fun w hw => by
    rcases List.mem_append.mp hw with hw | hw
    · simp only [List.mem_cons, List.not_mem_nil, or_false] at hw
      rcases hw with rfl | rfl | rfl
      · exact xi_gw_of hlink rfl
      · exact xi_gw_of hst2 rfl
      · exact xi_gw_of (xi_in_mem hin) rfl
    · exact hwsg w hw)
  rw [if_pos hk1] at hpar
  have hAs : ((st.take q2.2.2.1).reverse.map (xi_cv ρ)).length = q2.2.2.1 := by simp; omega
  have hstk : st.map (xi_cv ρ) = ((st.take q2.2.2.1).reverse.map (xi_cv ρ)).reverse ++ (st.drop q2.2.2.1).map (xi_cv ρ) := by
    rw [List.map_reverse, List.reverse_reverse, ← List.map_append, List.take_append_drop]
  rw [hstk]
  exact xi_after (rest := st.drop q2.2.2.1) (va_runS (As := (st.take q2.2.2.1).reverse.map (xi_cv ρ)) (rest := (st.drop q2.2.2.1).map (xi_cv ρ)) (Ts := xi_gw) ⟨hx, hb, hml, hown, htg⟩ hM (va_cwS q2.2.2.1 htg hG rfl rfl rfl ⟨hMH.1, hMH.2, hpar⟩ hfr) ⟨xi_Pc_blind, fun U hU hW => hbf U hU hW⟩ rfl hAs hl.2.1 rfl (lv_room (by rw [xi_cv_sum]; exact hsum)) hd hfit) hw hl hrs hpre k
theorem xi_s_init {n : Nat} (hBd : xi_Bd n) (hOK : xi_OK) (hx : p.tables.exec = Jvm.exec) (hb : c.code = cc) (hml : c.maxLocals = nL) (hts : ∀ w ∈ xi_tb, w.before args s = true) {own : Nat} (hown : s.vm.findClass (xi_cA own) = some m.cls) {d2 μ idx w : Nat} (hRf : d2 + 2 ≤ R.frames) (hRl : 60 * (d2 + 2) ≤ R.locals) {q2 : xi_Q} (hq2 : xi_tab[μ]? = some q2) (hμ : μ < 257 ∧ ¬ μ = 28 ∧ ¬ μ = 108) (hk1 : q2.1.2.2.2.2.2.1 = 2) (hML : xi_ML[w]? = some (own, idx, μ) ∨ xi_MN[w - 1000]? = some (own, idx, μ)) {b : Nat} (hrc : st[q2.2.2.1 - 1]? = some (.ref b)) (hd : decode cc (pcs i) = .ok (.invokespecial idx, 3)) (hna : q2.2.2.1 ≤ st.length) (hlen : (xi_av (st.take q2.2.2.1).reverse).length ≤ q2.2.1) (hsum : ((st.drop q2.2.2.1).map fun v => v.category).sum ≤ 8) {rv : Option Value} (hrun : xi_ex xi_pg scr n d2 q2.2.2.2 0 (xi_en (st.take q2.2.2.1).reverse q2.2.1) [] S = some (rv, S2)) (hN : S2.1.length < 1000000) (hB : S2.1.length ≤ N0 + R.cells ∧ xi_sz S2 ≤ L0 + R.slots) (k : xi_G p l en R s m args below meth c Q D cs scr A nL ρ0 N0 L0 (pcs i + 3) ls (rv.toList ++ st.drop q2.2.2.1) S2) : xi_G p l en R s m args below meth c Q D cs scr A nL ρ0 N0 L0 (pcs i) ls (st) S := by
  obtain ⟨hpl, hMH, hin, h40, hpc0, hpar, hkd⟩ := xi_ckh_of ((hOK μ q2 hq2).2 hμ)
  have hpre := xi_ex_pre _ _ _ _ _ _ _ _ _ hrun
  obtain ⟨le1, le2⟩ := xi_pre_le hpre
  intro ρ H locs cells slots lsC hw hl hs
  have hn1 := hw.2.2.2.2.2.2.2.2.1
  have hn2 := hw.2.2.2.2.2.2.2.2.2
  have htg : ∀ w ∈ xi_gw, w.before args s = true := fun w hw => hts w (xi_gw_tb hw)
  have hvs : xi_wst S.1.length (st.take q2.2.2.1).reverse := fun v hv => hs v (List.mem_of_mem_take (List.mem_reverse.mp hv))
  have hrs : xi_wst S.1.length (st.drop q2.2.2.1) := fun v hv => hs v (List.mem_of_mem_drop hv)
  have hM := xi_met hBd hOK hq2 hμ hrun hw.2.2.2.2.2.2.1 hvs hlen hN l D cs ρ H.size
  have hcd := xi_code_mem hq2 hμ.1
  have hyq := xi_y_eq hq2 hμ.1
  have hfr : (xi_rm d2 S S2).frames + 1 ≤ R.frames ∧ 8 + (q2.2.1 + 11) + (xi_rm d2 S S2).locals ≤ R.locals := ⟨by show d2 + 1 + 1 ≤ _; omega, by show 8 + (q2.2.1 + 11) + 60 * (d2 + 1) ≤ _; omega⟩
  have hfit : cells + (S2.1.length - S.1.length) ≤ R.cells ∧ slots + (xi_sz S2 - xi_sz S) ≤ R.slots := ⟨by omega, by omega⟩
  have hwsg : ∀ w ∈ Cond.code (xi_yM q2.1) q2.1.2.2.2.1 q2.2.1 q2.1.2.2.2.2.1 :: xi_gw, w ∈ xi_gw := fun w hw => (List.mem_cons.mp hw).elim (fun e => by rw [e]; exact xi_gw_of hcd rfl) id
  have hbf := xi_before (vs := (st.take q2.2.2.1).reverse) (xi_nw_of hts) hw
  obtain ⟨hpos, hret, hnm, him⟩ : 0 < q2.2.2.1 ∧ q2.1.2.2.2.2.1 = none ∧ q2.1.2.1 = "<init>" ∧ μ ∈ xi_im := by
    rcases hkd with ⟨h0, -⟩ | ⟨h0, -⟩ | ⟨-, h0, h1, h2, h3⟩
    · rw [h0] at hk1; cases hk1
    · rw [h0] at hk1; cases hk1
    · exact ⟨h0, h1, h2, h3⟩
  obtain ⟨k0, hk0⟩ : ∃ k0, q2.2.2.1 = k0 + 1 := ⟨q2.2.2.1 - 1, by omega⟩
  rw [hk0] at hna hlen hsum hrun hvs hrs k hM hbf
  rw [show q2.2.2.1 - 1 = k0 by omega] at hrc
  obtain ⟨ht1, ht2⟩ := xi_split hrc
  have hrev : (st.take (k0 + 1)).reverse = .ref b :: (st.take k0).reverse := by rw [ht1, List.reverse_append]; rfl
  have hAs : ((st.take k0).reverse.map (xi_cv ρ)).length = k0 := by simp; omega
  have hstk : st.map (xi_cv ρ) = ((st.take k0).reverse.map (xi_cv ρ)).reverse ++ .ref (ρ b) :: (st.drop (k0 + 1)).map (xi_cv ρ) := by
    conv => lhs; rw [ht2]
    rw [List.map_append, List.map_cons, List.map_reverse, List.reverse_reverse]
    rfl
  have hvm : ((st.take (k0 + 1)).reverse.map (xi_cv ρ)).toArray = (Value.ref (ρ b) :: (st.take k0).reverse.map (xi_cv ρ)).toArray := by rw [hrev]; rfl
  have hin2 := xi_im_mem him
  rw [hyq] at hin2
  rw [hret] at hM hwsg hcd
  have hG : GoodIn xi_gw (Cond.code (xi_yM q2.1) q2.1.2.2.2.1 q2.2.1 none :: xi_gw) := xi_goodIn hwsg
  rw [if_neg (by rw [hk1]; decide), hk0] at hpar
  rw [hstk]
  rcases hML with hML | hMN
  · have hlink := xi_ML_mem hML
    rw [hyq] at hlink
    exact xi_after (rest := st.drop (k0 + 1)) (va_runI (As := (st.take k0).reverse.map (xi_cv ρ)) (rest := (st.drop (k0 + 1)).map (xi_cv ρ)) (b := ρ b) (Ts := xi_gw) ⟨hx, hb, hml, hown, htg⟩ hM (cwI k0 htg hG rfl rfl rfl (hts _ (xi_in_mem hin)) (hts _ hlink) (hts _ hin2) hnm ⟨hMH.1, hMH.2, hpar⟩ hfr) ⟨xi_Pc_blind, fun U hU hW => by rw [← hvm]; exact hbf U hU hW⟩ rfl hAs hl.2.1 rfl (lv_room (by rw [xi_cv_sum]; exact hsum)) hd hfit) hw hl hrs hpre k
  · have hlink := xi_MN_mem hMN
    rw [hyq] at hlink
    exact xi_after (rest := st.drop (k0 + 1)) (va_runIN (As := (st.take k0).reverse.map (xi_cv ρ)) (rest := (st.drop (k0 + 1)).map (xi_cv ρ)) (b := ρ b) (Ts := xi_gw) ⟨hx, hb, hml, hown, htg⟩ hM ⟨va_cnB k0 htg hG rfl rfl rfl (va_Nw.of rfl (hts _ hlink)) (hts _ (xi_in_mem hin)) ⟨hMH.1, hMH.2, hpar⟩ hfr, hnm, hts _ hin2⟩ ⟨xi_Pc_blind, fun U hU hW => by rw [← hvm]; exact hbf U hU hW⟩ rfl hAs hl.2.1 rfl (lv_room (by rw [xi_cv_sum]; exact hsum)) hd hfit) hw hl hrs hpre k
end XIS
