/-! A RUN of the interpreter is a run of the machine -/
abbrev xi_Q : Type := xi_M × Nat × Nat × List xi_E
def xi_OK : Prop := ∀ (μ : Nat) (q : xi_Q), xi_tab[μ]? = some q → xi_cka q = true ∧ (μ < 257 ∧ ¬ μ = 28 ∧ ¬ μ = 108 → xi_ckh μ q = true)
/-- the body of every method, with fuel n -/
def xi_Bd (n : Nat) : Prop := ∀ (d μ : Nat) (q : xi_Q), xi_tab[μ]? = some q → ∀ (p : Program) (l : Launch) (en : Env) (R : Room) (s : State) (m : MethodId) (args : Array Value) (below : List Frame) (meth : Method) (c : Code) (Q : State → Prop) (D : va_G) (cs : Nat → ClassId) (scr : xi_X) (A : Nat → Prop) (ρ0 : Nat → Nat) (N0 L0 : Nat),
  p.tables.exec = Jvm.exec → c.code = q.1.2.2.2.1 → c.maxLocals = q.2.1 → s.vm.findClass (xi_cA q.1.1) = some m.cls → (∀ w ∈ xi_tb, w.before args s = true) → (q.1.2.2.2.2.2.1 = 2 → meth.name = "<init>") → d + 1 ≤ R.frames → 60 * (d + 1) ≤ R.locals →
  ∀ (i : Nat) (ls : xi_L) (st : List Value) (S : xi_S) (r : Option Value) (S3 : xi_S), xi_ex xi_pg scr n d q.2.2.2 i ls st S = some (r, S3) → S3.1.length ≤ N0 + R.cells → xi_sz S3 ≤ L0 + R.slots → S3.1.length < 1000000 →
  (∀ (pc : Nat) (ls2 : xi_L), xi_rt q.1.2.2.2.1 q.1.2.2.2.2.1 pc r → xi_G p l en R s m args below meth c Q D cs scr A q.2.1 ρ0 N0 L0 (pc) ls2 (r.toList) S3) → xi_G p l en R s m args below meth c Q D cs scr A q.2.1 ρ0 N0 L0 (xi_pcs q.1.2.2.2.2.2.2 i) ls (st) S
def xi_rm (d : Nat) (S S3 : xi_S) : Room := { frames := d + 1, cells := S3.1.length - S.1.length, slots := xi_sz S3 - xi_sz S, locals := 60 * (d + 1) }
theorem xi_ckh_of {μ : Nat} {q : xi_Q} (h : xi_ckh μ q = true) : plainName (xi_yM q.1).cls = true ∧ ((xi_yM q.1).cls ≠ "java/lang/invoke/MethodHandle" ∧ (xi_yM q.1).cls ≠ "java/lang/invoke/VarHandle") ∧ q.1.1 ∈ xi_inL ∧ q.2.1 ≤ 40 ∧ xi_pcs q.1.2.2.2.2.2.2 0 = 0 ∧ (parseMethodDescriptor (xi_yM q.1).desc).map (fun d => d.parameters.length) = some (if q.1.2.2.2.2.2.1 = 0 then q.2.2.1 else q.2.2.1 - 1) ∧
    ((q.1.2.2.2.2.2.1 = 0 ∧ μ ∈ xi_sm) ∨ (q.1.2.2.2.2.2.1 = 1 ∧ 0 < q.2.2.1 ∧ μ ∈ xi_im ∧ μ ∈ xi_s1 ++ xi_s2 ∧ q.1.1 < 9) ∨ (q.1.2.2.2.2.2.1 = 2 ∧ 0 < q.2.2.1 ∧ q.1.2.2.2.2.1 = none ∧ q.1.2.1 = "<init>" ∧ μ ∈ xi_im)) := by
  simp only [xi_ckh, Bool.and_eq_true, Bool.or_eq_true, decide_eq_true_eq] at h
  obtain ⟨⟨⟨⟨⟨⟨⟨h1, h2⟩, h3⟩, h4⟩, h5⟩, h6⟩, h7⟩, h8⟩ := h
  refine ⟨h1, ⟨h2, h3⟩, h4, h5, h6, h7, ?_⟩
  rcases h8 with (⟨a, b⟩ | ⟨⟨⟨⟨a, b⟩, c⟩, d⟩, e⟩) | ⟨⟨⟨⟨a, b⟩, c⟩, d⟩, e⟩
  · exact Or.inl ⟨a, b⟩
  · exact Or.inr (Or.inl ⟨a, b, c, d, e⟩)
  · exact Or.inr (Or.inr ⟨a, b, c, d, e⟩)
/-- the contract of a method out of its body -/
theorem xi_met {n : Nat} (hBd : xi_Bd n) (hOK : xi_OK) {d μ : Nat} {q : xi_Q} (hq : xi_tab[μ]? = some q) (hμ : μ < 257 ∧ ¬ μ = 28 ∧ ¬ μ = 108) {scr : xi_X} {vs : List Value} {S S3 : xi_S} {r : Option Value} (hrun : xi_ex xi_pg scr n d q.2.2.2 0 (xi_en vs q.2.1) [] S = some (r, S3)) (hwf : xi_wf S) (hvs : xi_wst S.1.length vs) (hlen : (xi_av vs).length ≤ q.2.1) (hN : S3.1.length < 1000000) (l : Launch) (D : va_G) (cs : Nat → ClassId) (ρ : Nat → Nat) (sz : Nat) :
    Met l (xi_yM q.1) (Cond.code (xi_yM q.1) q.1.2.2.2.1 q.2.1 q.1.2.2.2.2.1 :: xi_gw) (xi_rm d S S3) (xi_Pc D cs scr ρ S vs sz) (xi_Qc D cs ρ S r S3 (va_A (xi_ws cs ρ S) sz)) (S3.1.length - S.1.length) (xi_sz S3 - xi_sz S) (va_A (xi_ws cs ρ S) sz) := by
  obtain ⟨hpl, hMH, hin, h40, hpc0, hpar, hkd⟩ := xi_ckh_of ((hOK μ q hq).2 hμ)
  obtain ⟨le1, le2⟩ := xi_pre_le (xi_ex_pre _ _ _ _ _ _ _ _ _ hrun)
  refine Met.ofW (cc := q.1.2.2.2.1) (maxL := q.2.1) (ret := q.1.2.2.2.2.1) hpl rfl ?_
  intro p e s m args below meth c s₁ B hml hv
  obtain ⟨rfl, hsz, hK, hP, hD, hro, hnw⟩ := hv
  have hx := B.exec
  have hb := B.bytes
  have hr := B.returns
  have hts0 := atoms_spec (ws := Cond.code (xi_yM q.1) q.1.2.2.2.1 q.2.1 q.1.2.2.2.2.1 :: xi_gw) B.pre
  have hown : s.vm.findClass (xi_cA q.1.1) = some m.cls := findClass_of_methodNamed B.named
  have hlocks := B.notSynchronized
  have hnm := (name_of_methodNamed B.named B.method).1
  have hts := xi_hts (fun w hw => hts0 w (List.mem_cons_of_mem _ hw)) hnw
  subst hsz
  have hini : q.1.2.2.2.2.2.1 = 2 → meth.name = "<init>" := fun h2 => by
    rw [hnm]
    rcases hkd with ⟨h0, -⟩ | ⟨h0, -⟩ | ⟨-, -, -, h0, -⟩
    · rw [h0] at h2; cases h2
    · rw [h0] at h2; cases h2
    · exact h0
  have hG := hBd d μ q hq p l e (xi_rm d S S3) s m (vs.map (xi_cv ρ)).toArray below meth c (MQ below (xi_Qc D cs ρ S r S3 (va_A (xi_ws cs ρ S) s.heap.size)) (vs.map (xi_cv ρ)).toArray s (S3.1.length - S.1.length) (xi_sz S3 - xi_sz S) (va_A (xi_ws cs ρ S) s.heap.size)) D cs scr (va_A (xi_ws cs ρ S) s.heap.size) ρ S.1.length (xi_sz S) hx hb hml hown hts hini (Nat.le_refl _) (Nat.le_refl _) 0 (xi_en vs q.2.1) [] S r S3 hrun (by show _ ≤ _ + (_ - _); omega) (by show _ ≤ _ + (_ - _); omega) hN (by
    intro pc ls2 hrt ρ2 H locs cells slots lsC hw hl hs
    obtain ⟨hK2, hP2, hD2, hS2, hA2, hro2, hwf2, hρ2, hn2, hz2⟩ := hw
    have hc1 : S3.1.length - S.1.length = cells := by omega
    have hc2 : xi_sz S3 - xi_sz S = slots := by omega
    rw [hc1, hc2]
    have hq : ∀ t : State, t.heap = H → s.WarmedH t.vm → xi_Qc D cs ρ S r S3 (va_A (xi_ws cs ρ S) s.heap.size) (vs.map (xi_cv ρ)).toArray s (.returned (r.map (xi_cv ρ2))) t := fun t ht _ => ⟨ρ2, hρ2, rfl, by rw [ht]; exact hP2, hD2, hS2.F ht, hwf2, fun v hv => hs v (by rw [hv]; exact List.mem_singleton.mpr rfl)⟩
    rcases hrt with ⟨hd, v, ty, rfl, hty, hnar⟩ | ⟨hd, hty, v, rfl⟩ | ⟨hd, hty, rfl⟩
    · exact W.zret hx hb (hr.trans hty) hnar hq hS2.2.2 hd
    · exact W.lret hx hb (hr.trans hty) hq hS2.2.2 hd
    · exact W.vret hx hb (hr.trans hty) hq hS2.2.2 hd)
  rw [lg_entry_eq]
  rw [hpc0] at hG
  exact hG ρ s.heap [] 0 0 _ ⟨hK, hP, hD, va_S.rf, fun a ha => Or.inr ha, hro, hwf, fun _ _ => rfl, rfl, rfl⟩ (xi_en_lr hvs hlen) (fun v hv => by cases hv)
