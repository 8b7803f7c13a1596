/-! A STEP of the interpreter is a step of the machine -/
def xi_ts (cs : Nat → ClassId) : List (ClassId × FieldType) := [(cs 9, .int), (cs 10, .byte), (cs 11, .long), (cs 12, .object "GuineaHours$Day"), (cs 13, .array .byte), (cs 14, .array .int)]
theorem xi_ts_at (cs : Nat → ClassId) {t : Nat} (h : 9 ≤ t) (h2 : t ≤ 14) : (xi_ts cs)[t - 9]? = some (cs t, xi_at t) := by
  rcases (show t = 9 ∨ t = 10 ∨ t = 11 ∨ t = 12 ∨ t = 13 ∨ t = 14 by omega) with rfl | rfl | rfl | rfl | rfl | rfl <;> rfl
def xi_ro (scr : xi_X) (ρ : Nat → Nat) (A : Nat → Prop) (s : State) (H : Heap) : Prop :=
  va_T .byte (ρ 1000000) 6 (fun i => .int (xi_letters i)) A s H ∧ va_T .int (ρ 1000001) 6 (fun i => .int (xi_extra i)) A s H ∧ va_T .int (ρ 1000002) scr.1 (fun i => .int (scr.2 i)) A s H ∧
  va_Z "GuineaHours" "KIND_LETTERS" "[B" (.ref (ρ 1000000)) A s H ∧ va_Z "GuineaHours" "KIND_EXTRA" "[I" (.ref (ρ 1000001)) A s H
def xi_sz (S : xi_S) : Nat := (S.1.map (fun q => q.2)).sum
/-- the store stands in the heap -/
def xi_wr (D : va_G) (cs : Nat → ClassId) (scr : xi_X) (A : Nat → Prop) (s : State) (ρ0 : Nat → Nat) (N0 L0 cells slots : Nat) (ρ : Nat → Nat) (S : xi_S) (H : Heap) (locs : List Loc) : Prop :=
  va_K D xi_cl (xi_ts cs) s ∧ va_P D xi_cl (xi_ws cs ρ S) H ∧ va_D A (xi_ws cs ρ S) ∧ va_S A s.heap H locs ∧ (∀ q, s.heap.size ≤ q → A q) ∧ xi_ro scr ρ0 A s s.heap ∧ xi_wf S ∧ (∀ k, k < N0 ∨ 1000000 ≤ k → ρ k = ρ0 k) ∧ S.1.length = N0 + cells ∧ xi_sz S = L0 + slots
/-- from here the machine comes to Q -/
def xi_G (p : Program) (l : Launch) (en : Env) (R : Room) (s : State) (m : MethodId) (args : Array Value) (below : List Frame) (meth : Method) (c : Code) (Q : State → Prop) (D : va_G) (cs : Nat → ClassId) (scr : xi_X) (A : Nat → Prop) (nL : Nat) (ρ0 : Nat → Nat) (N0 L0 : Nat) (pc : Nat) (ls : xi_L) (st : List Value) (S : xi_S) : Prop :=
  ∀ (ρ : Nat → Nat) (H : Heap) (locs : List Loc) (cells slots : Nat) (lsC : Array Slot), xi_wr D cs scr A s ρ0 N0 L0 cells slots ρ S H locs → xi_lr ρ S.1.length ls lsC nL → xi_wst S.1.length st →
    W p l en R s m args below meth c H locs cells slots Q (F0 m pc lsC (st.map (xi_cv ρ)))
section XIS
variable {p : Program} {l : Launch} {en : Env} {R : Room} {s : State} {m : MethodId} {args : Array Value} {below : List Frame} {meth : Method} {c : Code} {Q : State → Prop} {D : va_G} {cs : Nat → ClassId} {scr : xi_X} {A : Nat → Prop} {nL : Nat} {ρ0 : Nat → Nat} {N0 L0 : Nat} {cc : ByteArray} {pcs : Nat → Nat} {i i2 : Nat} {ls ls2 : xi_L} {st st2 : List Value} {S S2 : xi_S} {nf : List Nat} {k1 : Int32} {k2 : Int64}
theorem xi_dn_of {e : xi_E} {len : Nat} (h : xi_dn cc pcs i e len = true) : decode cc (pcs i) = .ok (e.1, len) ∧ pcs (i + 1) = pcs i + len := by
  simpa [xi_dn, xi_d] using h
theorem xi_s_iconst (hx : p.tables.exec = Jvm.exec) (hb : c.code = cc) {n : Int} (hd : xi_dn cc pcs i (.iconst n, nf, k1, k2) 1 = true) (hv : Int32.ofInt n = k1) (h : xi_stp scr (.iconst n, nf, k1, k2) i ls st S = some (i2, ls2, st2, S2)) (k : xi_G p l en R s m args below meth c Q D cs scr A nL ρ0 N0 L0 (pcs i2) ls2 (st2) S2) : xi_G p l en R s m args below meth c Q D cs scr A nL ρ0 N0 L0 (pcs i) ls (st) S := by
  obtain ⟨hd, hn⟩ := xi_dn_of hd
  simp only [xi_stp, Option.some.injEq, Prod.mk.injEq] at h
  obtain ⟨rfl, rfl, rfl, rfl⟩ := h
  intro ρ H locs cells slots lsC hw hl hs
  rw [hn] at k
  exact lv_iconst hx hb hd hv (k ρ H locs cells slots lsC hw hl (hs.cons trivial))
theorem xi_s_bipush (hx : p.tables.exec = Jvm.exec) (hb : c.code = cc) {n : Int} (hd : xi_dn cc pcs i (.bipush n, nf, k1, k2) 2 = true) (hv : (Int8.ofInt n).toInt32 = k1) (h : xi_stp scr (.bipush n, nf, k1, k2) i ls st S = some (i2, ls2, st2, S2)) (k : xi_G p l en R s m args below meth c Q D cs scr A nL ρ0 N0 L0 (pcs i2) ls2 (st2) S2) : xi_G p l en R s m args below meth c Q D cs scr A nL ρ0 N0 L0 (pcs i) ls (st) S := by
  obtain ⟨hd, hn⟩ := xi_dn_of hd
  simp only [xi_stp, Option.some.injEq, Prod.mk.injEq] at h
  obtain ⟨rfl, rfl, rfl, rfl⟩ := h
  intro ρ H locs cells slots lsC hw hl hs
  rw [hn] at k
  exact lv_bipush hx hb hd hv (k ρ H locs cells slots lsC hw hl (hs.cons trivial))
theorem xi_s_sipush (hx : p.tables.exec = Jvm.exec) (hb : c.code = cc) {n : Int} (hd : xi_dn cc pcs i (.sipush n, nf, k1, k2) 3 = true) (hv : (Int16.ofInt n).toInt32 = k1) (h : xi_stp scr (.sipush n, nf, k1, k2) i ls st S = some (i2, ls2, st2, S2)) (k : xi_G p l en R s m args below meth c Q D cs scr A nL ρ0 N0 L0 (pcs i2) ls2 (st2) S2) : xi_G p l en R s m args below meth c Q D cs scr A nL ρ0 N0 L0 (pcs i) ls (st) S := by
  obtain ⟨hd, hn⟩ := xi_dn_of hd
  simp only [xi_stp, Option.some.injEq, Prod.mk.injEq] at h
  obtain ⟨rfl, rfl, rfl, rfl⟩ := h
  intro ρ H locs cells slots lsC hw hl hs
  rw [hn] at k
  exact lv_sipush hx hb hd hv (k ρ H locs cells slots lsC hw hl (hs.cons trivial))
theorem xi_s_lconst (hx : p.tables.exec = Jvm.exec) (hb : c.code = cc) {n : Fin 2} (hd : xi_dn cc pcs i (.lconst n, nf, k1, k2) 1 = true) (hv : Int64.ofNat (n : Nat) = k2) (h : xi_stp scr (.lconst n, nf, k1, k2) i ls st S = some (i2, ls2, st2, S2)) (k : xi_G p l en R s m args below meth c Q D cs scr A nL ρ0 N0 L0 (pcs i2) ls2 (st2) S2) : xi_G p l en R s m args below meth c Q D cs scr A nL ρ0 N0 L0 (pcs i) ls (st) S := by
  obtain ⟨hd, hn⟩ := xi_dn_of hd
  simp only [xi_stp, Option.some.injEq, Prod.mk.injEq] at h
  obtain ⟨rfl, rfl, rfl, rfl⟩ := h
  intro ρ H locs cells slots lsC hw hl hs
  rw [hn] at k
  exact lv_lconst hx hb hd hv (k ρ H locs cells slots lsC hw hl (hs.cons trivial))
theorem xi_s_ldcw (hx : p.tables.exec = Jvm.exec) (hb : c.code = cc) {own : String} (hown : s.vm.findClass own = some m.cls) {n : Nat} (hd : xi_dn cc pcs i (.ldc_w n, nf, k1, k2) 3 = true) (hv : (Jvm.Cond.constant own n k1).before args s = true) (h : xi_stp scr (.ldc_w n, nf, k1, k2) i ls st S = some (i2, ls2, st2, S2)) (k : xi_G p l en R s m args below meth c Q D cs scr A nL ρ0 N0 L0 (pcs i2) ls2 (st2) S2) : xi_G p l en R s m args below meth c Q D cs scr A nL ρ0 N0 L0 (pcs i) ls (st) S := by
  obtain ⟨hd, hn⟩ := xi_dn_of hd
  simp only [xi_stp, Option.some.injEq, Prod.mk.injEq] at h
  obtain ⟨rfl, rfl, rfl, rfl⟩ := h
  intro ρ H locs cells slots lsC hw hl hs
  rw [hn] at k
  exact lv_ldcw hx hb hown hv hd (k ρ H locs cells slots lsC hw hl (hs.cons trivial))
theorem xi_s_ldc2 (hx : p.tables.exec = Jvm.exec) (hb : c.code = cc) {own : String} (hown : s.vm.findClass own = some m.cls) {n : Nat} (hd : xi_dn cc pcs i (.ldc2_w n, nf, k1, k2) 3 = true) (hv : (Jvm.Cond.constantLong own n k2).before args s = true) (h : xi_stp scr (.ldc2_w n, nf, k1, k2) i ls st S = some (i2, ls2, st2, S2)) (k : xi_G p l en R s m args below meth c Q D cs scr A nL ρ0 N0 L0 (pcs i2) ls2 (st2) S2) : xi_G p l en R s m args below meth c Q D cs scr A nL ρ0 N0 L0 (pcs i) ls (st) S := by
  obtain ⟨hd, hn⟩ := xi_dn_of hd
  simp only [xi_stp, Option.some.injEq, Prod.mk.injEq] at h
  obtain ⟨rfl, rfl, rfl, rfl⟩ := h
  intro ρ H locs cells slots lsC hw hl hs
  rw [hn] at k
  exact lv_ldc2 hx hb hown hv hd (k ρ H locs cells slots lsC hw hl (hs.cons trivial))
theorem xi_s_iload (hx : p.tables.exec = Jvm.exec) (hb : c.code = cc) {n : Nat} (hd : xi_dn cc pcs i (.iload n, nf, k1, k2) 2 = true) (hv : n = xi_k (.iload n, nf, k1, k2)) (h : xi_stp scr (.iload n, nf, k1, k2) i ls st S = some (i2, ls2, st2, S2)) (k : xi_G p l en R s m args below meth c Q D cs scr A nL ρ0 N0 L0 (pcs i2) ls2 (st2) S2) : xi_G p l en R s m args below meth c Q D cs scr A nL ρ0 N0 L0 (pcs i) ls (st) S := by
  obtain ⟨hd, hn⟩ := xi_dn_of hd
  simp only [xi_stp, xi_lod, ← hv] at h
  split at h
  · next x hj =>
    simp only [Option.some.injEq, Prod.mk.injEq] at h
    obtain ⟨rfl, rfl, rfl, rfl⟩ := h
    intro ρ H locs cells slots lsC hw hl hs
    rw [hn] at k
    exact lv_iload hx hb hd (hl.2.2.2.2 _ _ hj) (k ρ H locs cells slots lsC hw hl (hs.cons trivial))
  · cases h
theorem xi_s_iload_n (hx : p.tables.exec = Jvm.exec) (hb : c.code = cc) {n : Fin 4} (hd : xi_dn cc pcs i (.iload_n n, nf, k1, k2) 1 = true) (hv : n.val = xi_k (.iload_n n, nf, k1, k2)) (h : xi_stp scr (.iload_n n, nf, k1, k2) i ls st S = some (i2, ls2, st2, S2)) (k : xi_G p l en R s m args below meth c Q D cs scr A nL ρ0 N0 L0 (pcs i2) ls2 (st2) S2) : xi_G p l en R s m args below meth c Q D cs scr A nL ρ0 N0 L0 (pcs i) ls (st) S := by
  obtain ⟨hd, hn⟩ := xi_dn_of hd
  simp only [xi_stp, xi_lod, ← hv] at h
  split at h
  · next x hj =>
    simp only [Option.some.injEq, Prod.mk.injEq] at h
    obtain ⟨rfl, rfl, rfl, rfl⟩ := h
    intro ρ H locs cells slots lsC hw hl hs
    rw [hn] at k
    exact lv_iload_n hx hb hd rfl (hl.2.2.2.2 _ _ hj) (k ρ H locs cells slots lsC hw hl (hs.cons trivial))
  · cases h
theorem xi_s_lload (hx : p.tables.exec = Jvm.exec) (hb : c.code = cc) {n : Nat} (hd : xi_dn cc pcs i (.lload n, nf, k1, k2) 2 = true) (hv : n = xi_k (.lload n, nf, k1, k2)) (h : xi_stp scr (.lload n, nf, k1, k2) i ls st S = some (i2, ls2, st2, S2)) (k : xi_G p l en R s m args below meth c Q D cs scr A nL ρ0 N0 L0 (pcs i2) ls2 (st2) S2) : xi_G p l en R s m args below meth c Q D cs scr A nL ρ0 N0 L0 (pcs i) ls (st) S := by
  obtain ⟨hd, hn⟩ := xi_dn_of hd
  simp only [xi_stp, xi_loL, ← hv] at h
  split at h
  · next x hj =>
    simp only [Option.some.injEq, Prod.mk.injEq] at h
    obtain ⟨rfl, rfl, rfl, rfl⟩ := h
    intro ρ H locs cells slots lsC hw hl hs
    rw [hn] at k
    exact lv_lload hx hb hd (hl.2.2.2.2 _ _ hj) (k ρ H locs cells slots lsC hw hl (hs.cons trivial))
  · cases h
theorem xi_s_lload_n (hx : p.tables.exec = Jvm.exec) (hb : c.code = cc) {n : Fin 4} (hd : xi_dn cc pcs i (.lload_n n, nf, k1, k2) 1 = true) (hv : n.val = xi_k (.lload_n n, nf, k1, k2)) (h : xi_stp scr (.lload_n n, nf, k1, k2) i ls st S = some (i2, ls2, st2, S2)) (k : xi_G p l en R s m args below meth c Q D cs scr A nL ρ0 N0 L0 (pcs i2) ls2 (st2) S2) : xi_G p l en R s m args below meth c Q D cs scr A nL ρ0 N0 L0 (pcs i) ls (st) S := by
  obtain ⟨hd, hn⟩ := xi_dn_of hd
  simp only [xi_stp, xi_loL, ← hv] at h
  split at h
  · next x hj =>
    simp only [Option.some.injEq, Prod.mk.injEq] at h
    obtain ⟨rfl, rfl, rfl, rfl⟩ := h
    intro ρ H locs cells slots lsC hw hl hs
    rw [hn] at k
    exact lv_lload_n hx hb hd rfl (hl.2.2.2.2 _ _ hj) (k ρ H locs cells slots lsC hw hl (hs.cons trivial))
  · cases h
theorem xi_s_aload_n (hx : p.tables.exec = Jvm.exec) (hb : c.code = cc) {n : Fin 4} (hd : xi_dn cc pcs i (.aload_n n, nf, k1, k2) 1 = true) (hv : n.val = xi_k (.aload_n n, nf, k1, k2)) (h : xi_stp scr (.aload_n n, nf, k1, k2) i ls st S = some (i2, ls2, st2, S2)) (k : xi_G p l en R s m args below meth c Q D cs scr A nL ρ0 N0 L0 (pcs i2) ls2 (st2) S2) : xi_G p l en R s m args below meth c Q D cs scr A nL ρ0 N0 L0 (pcs i) ls (st) S := by
  obtain ⟨hd, hn⟩ := xi_dn_of hd
  simp only [xi_stp, xi_loA, ← hv] at h
  split at h
  · next x hj =>
    simp only [Option.some.injEq, Prod.mk.injEq] at h
    obtain ⟨rfl, rfl, rfl, rfl⟩ := h
    intro ρ H locs cells slots lsC hw hl hs
    rw [hn] at k
    exact lv_aload_n hx hb hd rfl (hl.2.2.2.2 _ _ hj) (k ρ H locs cells slots lsC hw hl (hs.cons (hl.2.2.2.1 _ (List.mem_of_getElem? hj))))
  · cases h
theorem xi_lr_sl {ρ : Nat → Nat} {N : Nat} {lsC ls' : Array Slot} {k : Nat} {v : Value} (hl : xi_lr ρ N ls lsC nL) (hv : xi_wv N v) (hc : v.category = 1) (hl2 : lv_has ls' nL ((k, xi_cv ρ v) :: (xi_lv ρ ls).filter (fun q => !(q.1 == k) && !(q.1 + 1 == k && q.2.category == 2)))) : xi_lr ρ N (xi_sl ls k v) ls' nL := by
  refine xi_lr.of (by rw [xi_sl_len]; exact hl.1) (fun u hu => ?_) hl2 (fun q hq => ?_)
  · obtain ⟨j, hj⟩ := List.getElem?_of_mem hu
    rcases xi_sl_at hj with ⟨-, rfl⟩ | ⟨-, h, -⟩
    · exact hv
    · exact hl.2.2.2.1 u (List.mem_of_getElem? h)
  · obtain ⟨u, hu, h2⟩ := xi_lv_mem.mp hq
    rcases xi_sl_at hu with ⟨h3, rfl⟩ | ⟨h3, h, h4⟩
    · rw [← h3, ← h2]
      exact List.mem_cons_self
    · refine List.mem_cons_of_mem _ (List.mem_filter.mpr ⟨xi_lv_mem.mpr ⟨u, h, h2⟩, ?_⟩)
      rw [h2, xi_cv_cat]
      have hb : ¬ (q.1 + 1 = k ∧ u.category = 2) := fun e => by
        refine h4 ⟨e.1, e.2, ?_⟩
        cases u with
        | long z => exact ⟨z, rfl⟩
        | double z => exact (show False from hl.2.2.2.1 _ (List.mem_of_getElem? h)).elim
        | _ => cases e.2
      simp only [Bool.and_eq_true, Bool.not_eq_true', beq_eq_false_iff_ne, ne_eq, Bool.and_eq_false_iff]
      refine ⟨h3, ?_⟩
      by_cases h5 : q.1 + 1 = k
      · exact Or.inr (fun e => hb ⟨h5, e⟩)
      · exact Or.inl h5
theorem xi_s_istore (hx : p.tables.exec = Jvm.exec) (hb : c.code = cc) {n : Nat} (hd : xi_dn cc pcs i (.istore n, nf, k1, k2) 2 = true) (hv : n = xi_k (.istore n, nf, k1, k2)) (h : xi_stp scr (.istore n, nf, k1, k2) i ls st S = some (i2, ls2, st2, S2)) (k : xi_G p l en R s m args below meth c Q D cs scr A nL ρ0 N0 L0 (pcs i2) ls2 (st2) S2) : xi_G p l en R s m args below meth c Q D cs scr A nL ρ0 N0 L0 (pcs i) ls (st) S := by
  obtain ⟨hd, hn⟩ := xi_dn_of hd
  simp only [xi_stp, xi_sto, ← hv] at h
  split at h
  · next x r =>
    split at h
    · next hlt =>
      simp only [Option.some.injEq, Prod.mk.injEq] at h
      obtain ⟨rfl, rfl, rfl, rfl⟩ := h
      intro ρ H locs cells slots lsC hw hl hs
      rw [hn] at k
      exact lv_istore hx hb hd hl.has (by rw [← hl.1]; exact hlt) rfl (fun ls' hl2 => k ρ H locs cells slots ls' hw (xi_lr_sl (v := .int x) hl trivial rfl hl2) hs.tail)
    · cases h
  · cases h
theorem xi_s_istore_n (hx : p.tables.exec = Jvm.exec) (hb : c.code = cc) {n : Fin 4} (hd : xi_dn cc pcs i (.istore_n n, nf, k1, k2) 1 = true) (hv : n.val = xi_k (.istore_n n, nf, k1, k2)) (h : xi_stp scr (.istore_n n, nf, k1, k2) i ls st S = some (i2, ls2, st2, S2)) (k : xi_G p l en R s m args below meth c Q D cs scr A nL ρ0 N0 L0 (pcs i2) ls2 (st2) S2) : xi_G p l en R s m args below meth c Q D cs scr A nL ρ0 N0 L0 (pcs i) ls (st) S := by
  obtain ⟨hd, hn⟩ := xi_dn_of hd
  simp only [xi_stp, xi_sto, ← hv] at h
  split at h
  · next x r =>
    split at h
    · next hlt =>
      simp only [Option.some.injEq, Prod.mk.injEq] at h
      obtain ⟨rfl, rfl, rfl, rfl⟩ := h
      intro ρ H locs cells slots lsC hw hl hs
      rw [hn] at k
      exact lv_istore_n hx hb hd rfl hl.has (by rw [← hl.1]; exact hlt) rfl (fun ls' hl2 => k ρ H locs cells slots ls' hw (xi_lr_sl (v := .int x) hl trivial rfl hl2) hs.tail)
    · cases h
  · cases h
theorem xi_s_astore_n (hx : p.tables.exec = Jvm.exec) (hb : c.code = cc) {n : Fin 4} (hd : xi_dn cc pcs i (.astore_n n, nf, k1, k2) 1 = true) (hv : n.val = xi_k (.astore_n n, nf, k1, k2)) (h : xi_stp scr (.astore_n n, nf, k1, k2) i ls st S = some (i2, ls2, st2, S2)) (k : xi_G p l en R s m args below meth c Q D cs scr A nL ρ0 N0 L0 (pcs i2) ls2 (st2) S2) : xi_G p l en R s m args below meth c Q D cs scr A nL ρ0 N0 L0 (pcs i) ls (st) S := by
  obtain ⟨hd, hn⟩ := xi_dn_of hd
  simp only [xi_stp, xi_stA, ← hv] at h
  split at h
  · next x r =>
    split at h
    · next hlt =>
      simp only [Option.some.injEq, Prod.mk.injEq] at h
      obtain ⟨rfl, rfl, rfl, rfl⟩ := h
      intro ρ H locs cells slots lsC hw hl hs
      rw [hn] at k
      exact lv_astore_n hx hb hd rfl hl.has (by rw [← hl.1]; exact hlt) rfl (fun ls' hl2 => k ρ H locs cells slots ls' hw (xi_lr_sl (v := .ref x) hl hs.head rfl hl2) hs.tail)
    · cases h
  · cases h
theorem xi_lr_sL {ρ : Nat → Nat} {N : Nat} {lsC ls' : Array Slot} {k : Nat} {v : Value} (hl : xi_lr ρ N ls lsC nL) (hv : xi_wv N v) (hl2 : lv_has ls' nL ((k, xi_cv ρ v) :: (xi_lv ρ ls).filter (fun q => !(q.1 == k) && (!(q.1 == k + 1) && !(q.1 + 1 == k && q.2.category == 2))))) : xi_lr ρ N (xi_sL ls k v) ls' nL := by
  have key : ∀ (j : Nat) (u : Value), (xi_sL ls k v)[j]? = some (some u) → j ≠ k + 1 ∧ (xi_sl ls k v)[j]? = some (some u) := by
    intro j u h
    unfold xi_sL at h
    rw [List.getElem?_set] at h
    by_cases e : k + 1 = j
    · rw [if_pos e] at h
      split at h <;> cases h
    · rw [if_neg e] at h
      exact ⟨fun e2 => e e2.symm, h⟩
  refine xi_lr.of (by unfold xi_sL; rw [List.length_set, xi_sl_len]; exact hl.1) (fun u hu => ?_) hl2 (fun q hq => ?_)
  · obtain ⟨j, hj⟩ := List.getElem?_of_mem hu
    rcases xi_sl_at (key j u hj).2 with ⟨-, rfl⟩ | ⟨-, h, -⟩
    · exact hv
    · exact hl.2.2.2.1 u (List.mem_of_getElem? h)
  · obtain ⟨u, hu, h2⟩ := xi_lv_mem.mp hq
    obtain ⟨h6, hu⟩ := key _ _ hu
    rcases xi_sl_at hu with ⟨h3, rfl⟩ | ⟨h3, h, h4⟩
    · rw [← h3, ← h2]
      exact List.mem_cons_self
    · refine List.mem_cons_of_mem _ (List.mem_filter.mpr ⟨xi_lv_mem.mpr ⟨u, h, h2⟩, ?_⟩)
      rw [h2, xi_cv_cat]
      have hb : ¬ (q.1 + 1 = k ∧ u.category = 2) := fun e => by
        refine h4 ⟨e.1, e.2, ?_⟩
        cases u with
        | long z => exact ⟨z, rfl⟩
        | double z => exact (show False from hl.2.2.2.1 _ (List.mem_of_getElem? h)).elim
        | _ => cases e.2
      simp only [Bool.and_eq_true, Bool.not_eq_true', beq_eq_false_iff_ne, ne_eq, Bool.and_eq_false_iff]
      refine ⟨h3, h6, ?_⟩
      by_cases h5 : q.1 + 1 = k
      · exact Or.inr (fun e => hb ⟨h5, e⟩)
      · exact Or.inl h5
theorem xi_s_lstore (hx : p.tables.exec = Jvm.exec) (hb : c.code = cc) {n : Nat} (hd : xi_dn cc pcs i (.lstore n, nf, k1, k2) 2 = true) (hv : n = xi_k (.lstore n, nf, k1, k2)) (h : xi_stp scr (.lstore n, nf, k1, k2) i ls st S = some (i2, ls2, st2, S2)) (k : xi_G p l en R s m args below meth c Q D cs scr A nL ρ0 N0 L0 (pcs i2) ls2 (st2) S2) : xi_G p l en R s m args below meth c Q D cs scr A nL ρ0 N0 L0 (pcs i) ls (st) S := by
  obtain ⟨hd, hn⟩ := xi_dn_of hd
  simp only [xi_stp, xi_stL, ← hv] at h
  split at h
  · next x r =>
    split at h
    · next hlt =>
      simp only [Option.some.injEq, Prod.mk.injEq] at h
      obtain ⟨rfl, rfl, rfl, rfl⟩ := h
      intro ρ H locs cells slots lsC hw hl hs
      rw [hn] at k
      exact lv_lstore hx hb hd hl.has (by rw [← hl.1]; exact hlt) rfl (fun ls' hl2 => k ρ H locs cells slots ls' hw (xi_lr_sL (v := .long x) hl trivial hl2) hs.tail)
    · cases h
  · cases h
theorem xi_s_lstore_n (hx : p.tables.exec = Jvm.exec) (hb : c.code = cc) {n : Fin 4} (hd : xi_dn cc pcs i (.lstore_n n, nf, k1, k2) 1 = true) (hv : n.val = xi_k (.lstore_n n, nf, k1, k2)) (h : xi_stp scr (.lstore_n n, nf, k1, k2) i ls st S = some (i2, ls2, st2, S2)) (k : xi_G p l en R s m args below meth c Q D cs scr A nL ρ0 N0 L0 (pcs i2) ls2 (st2) S2) : xi_G p l en R s m args below meth c Q D cs scr A nL ρ0 N0 L0 (pcs i) ls (st) S := by
  obtain ⟨hd, hn⟩ := xi_dn_of hd
  simp only [xi_stp, xi_stL, ← hv] at h
  split at h
  · next x r =>
    split at h
    · next hlt =>
      simp only [Option.some.injEq, Prod.mk.injEq] at h
      obtain ⟨rfl, rfl, rfl, rfl⟩ := h
      intro ρ H locs cells slots lsC hw hl hs
      rw [hn] at k
      exact lv_lstore_n hx hb hd rfl hl.has (by rw [← hl.1]; exact hlt) rfl (fun ls' hl2 => k ρ H locs cells slots ls' hw (xi_lr_sL (v := .long x) hl trivial hl2) hs.tail)
    · cases h
  · cases h
theorem xi_s_iinc (hx : p.tables.exec = Jvm.exec) (hb : c.code = cc) {n : Nat} {z : Int} (hd : xi_dn cc pcs i (.iinc n z, nf, k1, k2) 3 = true) (hv : n = xi_k (.iinc n z, nf, k1, k2)) (hz : Int32.ofInt z = k1) (h : xi_stp scr (.iinc n z, nf, k1, k2) i ls st S = some (i2, ls2, st2, S2)) (k : xi_G p l en R s m args below meth c Q D cs scr A nL ρ0 N0 L0 (pcs i2) ls2 (st2) S2) : xi_G p l en R s m args below meth c Q D cs scr A nL ρ0 N0 L0 (pcs i) ls (st) S := by
  obtain ⟨hd, hn⟩ := xi_dn_of hd
  simp only [xi_stp, xi_inc, ← hv] at h
  split at h
  · next x hj =>
    simp only [Option.some.injEq, Prod.mk.injEq] at h
    obtain ⟨rfl, rfl, rfl, rfl⟩ := h
    intro ρ H locs cells slots lsC hw hl hs
    rw [hn] at k
    have hlt := (List.getElem?_eq_some_iff.mp hj).1
    obtain ⟨kk, hkk⟩ := List.getElem?_of_mem (xi_lv_mem (ρ := ρ) (ls := ls) (q := (n, .int x)) |>.mpr ⟨_, hj, rfl⟩)
    refine lv_iinc hx hb hd hl.has (k := kk) hkk (by rw [hz]) (by rw [← hl.1]; exact hlt) rfl (fun ls' hl2 => ?_)
    refine k ρ H locs cells slots ls' hw (xi_lr.of (by rw [List.length_set]; exact hl.1) (fun u hu => ?_) hl2 (fun q hq => ?_)) hs
    · obtain ⟨j, hj2⟩ := List.getElem?_of_mem hu
      rw [List.getElem?_set] at hj2
      split at hj2
      · cases hj2
        trivial
      · exact hl.2.2.2.1 u (List.mem_of_getElem? hj2)
    · obtain ⟨u, hu, h2⟩ := xi_lv_mem.mp hq
      rw [List.getElem?_set] at hu
      by_cases e : n = q.1
      · rw [if_pos e, if_pos hlt] at hu
        cases hu
        rw [e]
        have : q = (q.1, Value.int (x + k1)) := by rw [show Value.int (x + k1) = q.2 from h2.symm]
        rw [this]
        exact List.mem_cons_self
      · rw [if_neg e] at hu
        refine List.mem_cons_of_mem _ (List.mem_filter.mpr ⟨xi_lv_mem.mpr ⟨u, hu, h2⟩, ?_⟩)
        simp only [Bool.and_eq_true, Bool.not_eq_true', beq_eq_false_iff_ne, ne_eq, Bool.and_eq_false_iff]
        refine ⟨fun e2 => e e2.symm, ?_⟩
        by_cases h5 : q.1 + 1 = n
        · refine Or.inr (fun e3 => ?_)
          rw [h2, xi_cv_cat] at e3
          have h7 := hl.2.2.1.1 q.1 (xi_cv ρ u) (hl.2.2.2.2 q.1 u hu) (by rw [xi_cv_cat]; exact e3)
          rw [h5, hl.2.2.2.2 n _ hj] at h7
          cases h7
        · exact Or.inl h5
  · cases h
theorem xi_s_iadd (hx : p.tables.exec = Jvm.exec) (hb : c.code = cc) (hd : xi_dn cc pcs i (.iadd, nf, k1, k2) 1 = true) (h : xi_stp scr (.iadd, nf, k1, k2) i ls st S = some (i2, ls2, st2, S2)) (k : xi_G p l en R s m args below meth c Q D cs scr A nL ρ0 N0 L0 (pcs i2) ls2 (st2) S2) : xi_G p l en R s m args below meth c Q D cs scr A nL ρ0 N0 L0 (pcs i) ls (st) S := by
  obtain ⟨hd, hn⟩ := xi_dn_of hd
  simp only [xi_stp, xi_ii] at h
  split at h
  · simp only [Option.some.injEq, Prod.mk.injEq] at h
    obtain ⟨rfl, rfl, rfl, rfl⟩ := h
    intro ρ H locs cells slots lsC hw hl hs
    rw [hn] at k
    exact lv_iadd hx hb hd (k ρ H locs cells slots lsC hw hl (hs.tail.tail.cons trivial))
  · cases h
theorem xi_s_isub (hx : p.tables.exec = Jvm.exec) (hb : c.code = cc) (hd : xi_dn cc pcs i (.isub, nf, k1, k2) 1 = true) (h : xi_stp scr (.isub, nf, k1, k2) i ls st S = some (i2, ls2, st2, S2)) (k : xi_G p l en R s m args below meth c Q D cs scr A nL ρ0 N0 L0 (pcs i2) ls2 (st2) S2) : xi_G p l en R s m args below meth c Q D cs scr A nL ρ0 N0 L0 (pcs i) ls (st) S := by
  obtain ⟨hd, hn⟩ := xi_dn_of hd
  simp only [xi_stp, xi_ii] at h
  split at h
  · simp only [Option.some.injEq, Prod.mk.injEq] at h
    obtain ⟨rfl, rfl, rfl, rfl⟩ := h
    intro ρ H locs cells slots lsC hw hl hs
    rw [hn] at k
    exact lv_isub hx hb hd (k ρ H locs cells slots lsC hw hl (hs.tail.tail.cons trivial))
  · cases h
theorem xi_s_imul (hx : p.tables.exec = Jvm.exec) (hb : c.code = cc) (hd : xi_dn cc pcs i (.imul, nf, k1, k2) 1 = true) (h : xi_stp scr (.imul, nf, k1, k2) i ls st S = some (i2, ls2, st2, S2)) (k : xi_G p l en R s m args below meth c Q D cs scr A nL ρ0 N0 L0 (pcs i2) ls2 (st2) S2) : xi_G p l en R s m args below meth c Q D cs scr A nL ρ0 N0 L0 (pcs i) ls (st) S := by
  obtain ⟨hd, hn⟩ := xi_dn_of hd
  simp only [xi_stp, xi_ii] at h
  split at h
  · simp only [Option.some.injEq, Prod.mk.injEq] at h
    obtain ⟨rfl, rfl, rfl, rfl⟩ := h
    intro ρ H locs cells slots lsC hw hl hs
    rw [hn] at k
    exact lv_imul hx hb hd (k ρ H locs cells slots lsC hw hl (hs.tail.tail.cons trivial))
  · cases h
theorem xi_s_iand (hx : p.tables.exec = Jvm.exec) (hb : c.code = cc) (hd : xi_dn cc pcs i (.iand, nf, k1, k2) 1 = true) (h : xi_stp scr (.iand, nf, k1, k2) i ls st S = some (i2, ls2, st2, S2)) (k : xi_G p l en R s m args below meth c Q D cs scr A nL ρ0 N0 L0 (pcs i2) ls2 (st2) S2) : xi_G p l en R s m args below meth c Q D cs scr A nL ρ0 N0 L0 (pcs i) ls (st) S := by
  obtain ⟨hd, hn⟩ := xi_dn_of hd
  simp only [xi_stp, xi_ii] at h
  split at h
  · simp only [Option.some.injEq, Prod.mk.injEq] at h
    obtain ⟨rfl, rfl, rfl, rfl⟩ := h
    intro ρ H locs cells slots lsC hw hl hs
    rw [hn] at k
    exact lv_iand hx hb hd (k ρ H locs cells slots lsC hw hl (hs.tail.tail.cons trivial))
  · cases h
theorem xi_s_ior (hx : p.tables.exec = Jvm.exec) (hb : c.code = cc) (hd : xi_dn cc pcs i (.ior, nf, k1, k2) 1 = true) (h : xi_stp scr (.ior, nf, k1, k2) i ls st S = some (i2, ls2, st2, S2)) (k : xi_G p l en R s m args below meth c Q D cs scr A nL ρ0 N0 L0 (pcs i2) ls2 (st2) S2) : xi_G p l en R s m args below meth c Q D cs scr A nL ρ0 N0 L0 (pcs i) ls (st) S := by
  obtain ⟨hd, hn⟩ := xi_dn_of hd
  simp only [xi_stp, xi_ii] at h
  split at h
  · simp only [Option.some.injEq, Prod.mk.injEq] at h
    obtain ⟨rfl, rfl, rfl, rfl⟩ := h
    intro ρ H locs cells slots lsC hw hl hs
    rw [hn] at k
    exact lv_ior hx hb hd (k ρ H locs cells slots lsC hw hl (hs.tail.tail.cons trivial))
  · cases h
theorem xi_s_ixor (hx : p.tables.exec = Jvm.exec) (hb : c.code = cc) (hd : xi_dn cc pcs i (.ixor, nf, k1, k2) 1 = true) (h : xi_stp scr (.ixor, nf, k1, k2) i ls st S = some (i2, ls2, st2, S2)) (k : xi_G p l en R s m args below meth c Q D cs scr A nL ρ0 N0 L0 (pcs i2) ls2 (st2) S2) : xi_G p l en R s m args below meth c Q D cs scr A nL ρ0 N0 L0 (pcs i) ls (st) S := by
  obtain ⟨hd, hn⟩ := xi_dn_of hd
  simp only [xi_stp, xi_ii] at h
  split at h
  · simp only [Option.some.injEq, Prod.mk.injEq] at h
    obtain ⟨rfl, rfl, rfl, rfl⟩ := h
    intro ρ H locs cells slots lsC hw hl hs
    rw [hn] at k
    exact lv_ixor hx hb hd (k ρ H locs cells slots lsC hw hl (hs.tail.tail.cons trivial))
  · cases h
theorem xi_s_ishl (hx : p.tables.exec = Jvm.exec) (hb : c.code = cc) (hd : xi_dn cc pcs i (.ishl, nf, k1, k2) 1 = true) (h : xi_stp scr (.ishl, nf, k1, k2) i ls st S = some (i2, ls2, st2, S2)) (k : xi_G p l en R s m args below meth c Q D cs scr A nL ρ0 N0 L0 (pcs i2) ls2 (st2) S2) : xi_G p l en R s m args below meth c Q D cs scr A nL ρ0 N0 L0 (pcs i) ls (st) S := by
  obtain ⟨hd, hn⟩ := xi_dn_of hd
  simp only [xi_stp, xi_ii] at h
  split at h
  · simp only [Option.some.injEq, Prod.mk.injEq] at h
    obtain ⟨rfl, rfl, rfl, rfl⟩ := h
    intro ρ H locs cells slots lsC hw hl hs
    rw [hn] at k
    exact lv_ishl hx hb hd (k ρ H locs cells slots lsC hw hl (hs.tail.tail.cons trivial))
  · cases h
theorem xi_s_ishr (hx : p.tables.exec = Jvm.exec) (hb : c.code = cc) (hd : xi_dn cc pcs i (.ishr, nf, k1, k2) 1 = true) (h : xi_stp scr (.ishr, nf, k1, k2) i ls st S = some (i2, ls2, st2, S2)) (k : xi_G p l en R s m args below meth c Q D cs scr A nL ρ0 N0 L0 (pcs i2) ls2 (st2) S2) : xi_G p l en R s m args below meth c Q D cs scr A nL ρ0 N0 L0 (pcs i) ls (st) S := by
  obtain ⟨hd, hn⟩ := xi_dn_of hd
  simp only [xi_stp, xi_ii] at h
  split at h
  · simp only [Option.some.injEq, Prod.mk.injEq] at h
    obtain ⟨rfl, rfl, rfl, rfl⟩ := h
    intro ρ H locs cells slots lsC hw hl hs
    rw [hn] at k
    exact lv_ishr hx hb hd (k ρ H locs cells slots lsC hw hl (hs.tail.tail.cons trivial))
  · cases h
theorem xi_s_iushr (hx : p.tables.exec = Jvm.exec) (hb : c.code = cc) (hd : xi_dn cc pcs i (.iushr, nf, k1, k2) 1 = true) (h : xi_stp scr (.iushr, nf, k1, k2) i ls st S = some (i2, ls2, st2, S2)) (k : xi_G p l en R s m args below meth c Q D cs scr A nL ρ0 N0 L0 (pcs i2) ls2 (st2) S2) : xi_G p l en R s m args below meth c Q D cs scr A nL ρ0 N0 L0 (pcs i) ls (st) S := by
  obtain ⟨hd, hn⟩ := xi_dn_of hd
  simp only [xi_stp, xi_ii] at h
  split at h
  · simp only [Option.some.injEq, Prod.mk.injEq] at h
    obtain ⟨rfl, rfl, rfl, rfl⟩ := h
    intro ρ H locs cells slots lsC hw hl hs
    rw [hn] at k
    exact lv_iushr hx hb hd rfl (k ρ H locs cells slots lsC hw hl (hs.tail.tail.cons trivial))
  · cases h
theorem xi_s_ladd (hx : p.tables.exec = Jvm.exec) (hb : c.code = cc) (hd : xi_dn cc pcs i (.ladd, nf, k1, k2) 1 = true) (h : xi_stp scr (.ladd, nf, k1, k2) i ls st S = some (i2, ls2, st2, S2)) (k : xi_G p l en R s m args below meth c Q D cs scr A nL ρ0 N0 L0 (pcs i2) ls2 (st2) S2) : xi_G p l en R s m args below meth c Q D cs scr A nL ρ0 N0 L0 (pcs i) ls (st) S := by
  obtain ⟨hd, hn⟩ := xi_dn_of hd
  simp only [xi_stp, xi_ll] at h
  split at h
  · simp only [Option.some.injEq, Prod.mk.injEq] at h
    obtain ⟨rfl, rfl, rfl, rfl⟩ := h
    intro ρ H locs cells slots lsC hw hl hs
    rw [hn] at k
    exact lv_ladd hx hb hd (k ρ H locs cells slots lsC hw hl (hs.tail.tail.cons trivial))
  · cases h
theorem xi_s_lsub (hx : p.tables.exec = Jvm.exec) (hb : c.code = cc) (hd : xi_dn cc pcs i (.lsub, nf, k1, k2) 1 = true) (h : xi_stp scr (.lsub, nf, k1, k2) i ls st S = some (i2, ls2, st2, S2)) (k : xi_G p l en R s m args below meth c Q D cs scr A nL ρ0 N0 L0 (pcs i2) ls2 (st2) S2) : xi_G p l en R s m args below meth c Q D cs scr A nL ρ0 N0 L0 (pcs i) ls (st) S := by
  obtain ⟨hd, hn⟩ := xi_dn_of hd
  simp only [xi_stp, xi_ll] at h
  split at h
  · simp only [Option.some.injEq, Prod.mk.injEq] at h
    obtain ⟨rfl, rfl, rfl, rfl⟩ := h
    intro ρ H locs cells slots lsC hw hl hs
    rw [hn] at k
    exact lv_lsub hx hb hd (k ρ H locs cells slots lsC hw hl (hs.tail.tail.cons trivial))
  · cases h
theorem xi_s_lmul (hx : p.tables.exec = Jvm.exec) (hb : c.code = cc) (hd : xi_dn cc pcs i (.lmul, nf, k1, k2) 1 = true) (h : xi_stp scr (.lmul, nf, k1, k2) i ls st S = some (i2, ls2, st2, S2)) (k : xi_G p l en R s m args below meth c Q D cs scr A nL ρ0 N0 L0 (pcs i2) ls2 (st2) S2) : xi_G p l en R s m args below meth c Q D cs scr A nL ρ0 N0 L0 (pcs i) ls (st) S := by
  obtain ⟨hd, hn⟩ := xi_dn_of hd
  simp only [xi_stp, xi_ll] at h
  split at h
  · simp only [Option.some.injEq, Prod.mk.injEq] at h
    obtain ⟨rfl, rfl, rfl, rfl⟩ := h
    intro ρ H locs cells slots lsC hw hl hs
    rw [hn] at k
    exact lv_lmul hx hb hd (k ρ H locs cells slots lsC hw hl (hs.tail.tail.cons trivial))
  · cases h
theorem xi_s_lcmp (hx : p.tables.exec = Jvm.exec) (hb : c.code = cc) (hd : xi_dn cc pcs i (.lcmp, nf, k1, k2) 1 = true) (h : xi_stp scr (.lcmp, nf, k1, k2) i ls st S = some (i2, ls2, st2, S2)) (k : xi_G p l en R s m args below meth c Q D cs scr A nL ρ0 N0 L0 (pcs i2) ls2 (st2) S2) : xi_G p l en R s m args below meth c Q D cs scr A nL ρ0 N0 L0 (pcs i) ls (st) S := by
  obtain ⟨hd, hn⟩ := xi_dn_of hd
  simp only [xi_stp, xi_cmp] at h
  split at h
  · simp only [Option.some.injEq, Prod.mk.injEq] at h
    obtain ⟨rfl, rfl, rfl, rfl⟩ := h
    intro ρ H locs cells slots lsC hw hl hs
    rw [hn] at k
    exact W.lcmp hx hb hd (k ρ H locs cells slots lsC hw hl (hs.tail.tail.cons trivial))
  · cases h
theorem xi_s_idiv (hx : p.tables.exec = Jvm.exec) (hb : c.code = cc) (hd : xi_dn cc pcs i (.idiv, nf, k1, k2) 1 = true) (h : xi_stp scr (.idiv, nf, k1, k2) i ls st S = some (i2, ls2, st2, S2)) (k : xi_G p l en R s m args below meth c Q D cs scr A nL ρ0 N0 L0 (pcs i2) ls2 (st2) S2) : xi_G p l en R s m args below meth c Q D cs scr A nL ρ0 N0 L0 (pcs i) ls (st) S := by
  obtain ⟨hd, hn⟩ := xi_dn_of hd
  simp only [xi_stp, xi_id] at h
  split at h
  · split at h
    · cases h
    · next hne =>
      simp only [Option.some.injEq, Prod.mk.injEq] at h
      obtain ⟨rfl, rfl, rfl, rfl⟩ := h
      intro ρ H locs cells slots lsC hw hl hs
      rw [hn] at k
      exact lv_idiv hx hb hd hne (k ρ H locs cells slots lsC hw hl (hs.tail.tail.cons trivial))
  · cases h
theorem xi_s_irem (hx : p.tables.exec = Jvm.exec) (hb : c.code = cc) (hd : xi_dn cc pcs i (.irem, nf, k1, k2) 1 = true) (h : xi_stp scr (.irem, nf, k1, k2) i ls st S = some (i2, ls2, st2, S2)) (k : xi_G p l en R s m args below meth c Q D cs scr A nL ρ0 N0 L0 (pcs i2) ls2 (st2) S2) : xi_G p l en R s m args below meth c Q D cs scr A nL ρ0 N0 L0 (pcs i) ls (st) S := by
  obtain ⟨hd, hn⟩ := xi_dn_of hd
  simp only [xi_stp, xi_id] at h
  split at h
  · split at h
    · cases h
    · next hne =>
      simp only [Option.some.injEq, Prod.mk.injEq] at h
      obtain ⟨rfl, rfl, rfl, rfl⟩ := h
      intro ρ H locs cells slots lsC hw hl hs
      rw [hn] at k
      exact lv_irem hx hb hd hne (k ρ H locs cells slots lsC hw hl (hs.tail.tail.cons trivial))
  · cases h
theorem xi_s_ldiv (hx : p.tables.exec = Jvm.exec) (hb : c.code = cc) (hd : xi_dn cc pcs i (.ldiv, nf, k1, k2) 1 = true) (h : xi_stp scr (.ldiv, nf, k1, k2) i ls st S = some (i2, ls2, st2, S2)) (k : xi_G p l en R s m args below meth c Q D cs scr A nL ρ0 N0 L0 (pcs i2) ls2 (st2) S2) : xi_G p l en R s m args below meth c Q D cs scr A nL ρ0 N0 L0 (pcs i) ls (st) S := by
  obtain ⟨hd, hn⟩ := xi_dn_of hd
  simp only [xi_stp, xi_ld] at h
  split at h
  · split at h
    · cases h
    · next hne =>
      simp only [Option.some.injEq, Prod.mk.injEq] at h
      obtain ⟨rfl, rfl, rfl, rfl⟩ := h
      intro ρ H locs cells slots lsC hw hl hs
      rw [hn] at k
      exact lv_ldiv hx hb hd hne (k ρ H locs cells slots lsC hw hl (hs.tail.tail.cons trivial))
  · cases h
theorem xi_s_lrem (hx : p.tables.exec = Jvm.exec) (hb : c.code = cc) (hd : xi_dn cc pcs i (.lrem, nf, k1, k2) 1 = true) (h : xi_stp scr (.lrem, nf, k1, k2) i ls st S = some (i2, ls2, st2, S2)) (k : xi_G p l en R s m args below meth c Q D cs scr A nL ρ0 N0 L0 (pcs i2) ls2 (st2) S2) : xi_G p l en R s m args below meth c Q D cs scr A nL ρ0 N0 L0 (pcs i) ls (st) S := by
  obtain ⟨hd, hn⟩ := xi_dn_of hd
  simp only [xi_stp, xi_ld] at h
  split at h
  · split at h
    · cases h
    · next hne =>
      simp only [Option.some.injEq, Prod.mk.injEq] at h
      obtain ⟨rfl, rfl, rfl, rfl⟩ := h
      intro ρ H locs cells slots lsC hw hl hs
      rw [hn] at k
      exact lv_lrem hx hb hd hne (k ρ H locs cells slots lsC hw hl (hs.tail.tail.cons trivial))
  · cases h
theorem xi_s_i2l (hx : p.tables.exec = Jvm.exec) (hb : c.code = cc) (hd : xi_dn cc pcs i (.i2l, nf, k1, k2) 1 = true) (h : xi_stp scr (.i2l, nf, k1, k2) i ls st S = some (i2, ls2, st2, S2)) (k : xi_G p l en R s m args below meth c Q D cs scr A nL ρ0 N0 L0 (pcs i2) ls2 (st2) S2) : xi_G p l en R s m args below meth c Q D cs scr A nL ρ0 N0 L0 (pcs i) ls (st) S := by
  obtain ⟨hd, hn⟩ := xi_dn_of hd
  simp only [xi_stp, xi_i2l] at h
  split at h
  · simp only [Option.some.injEq, Prod.mk.injEq] at h
    obtain ⟨rfl, rfl, rfl, rfl⟩ := h
    intro ρ H locs cells slots lsC hw hl hs
    rw [hn] at k
    exact lv_i2l hx hb hd rfl (k ρ H locs cells slots lsC hw hl (hs.tail.cons trivial))
  · cases h
theorem xi_s_l2i (hx : p.tables.exec = Jvm.exec) (hb : c.code = cc) (hd : xi_dn cc pcs i (.l2i, nf, k1, k2) 1 = true) (h : xi_stp scr (.l2i, nf, k1, k2) i ls st S = some (i2, ls2, st2, S2)) (k : xi_G p l en R s m args below meth c Q D cs scr A nL ρ0 N0 L0 (pcs i2) ls2 (st2) S2) : xi_G p l en R s m args below meth c Q D cs scr A nL ρ0 N0 L0 (pcs i) ls (st) S := by
  obtain ⟨hd, hn⟩ := xi_dn_of hd
  simp only [xi_stp, xi_l2i] at h
  split at h
  · simp only [Option.some.injEq, Prod.mk.injEq] at h
    obtain ⟨rfl, rfl, rfl, rfl⟩ := h
    intro ρ H locs cells slots lsC hw hl hs
    rw [hn] at k
    exact lv_l2i hx hb hd rfl (k ρ H locs cells slots lsC hw hl (hs.tail.cons trivial))
  · cases h
theorem xi_s_i2b (hx : p.tables.exec = Jvm.exec) (hb : c.code = cc) (hd : xi_dn cc pcs i (.i2b, nf, k1, k2) 1 = true) (h : xi_stp scr (.i2b, nf, k1, k2) i ls st S = some (i2, ls2, st2, S2)) (k : xi_G p l en R s m args below meth c Q D cs scr A nL ρ0 N0 L0 (pcs i2) ls2 (st2) S2) : xi_G p l en R s m args below meth c Q D cs scr A nL ρ0 N0 L0 (pcs i) ls (st) S := by
  obtain ⟨hd, hn⟩ := xi_dn_of hd
  simp only [xi_stp, xi_i2b] at h
  split at h
  · simp only [Option.some.injEq, Prod.mk.injEq] at h
    obtain ⟨rfl, rfl, rfl, rfl⟩ := h
    intro ρ H locs cells slots lsC hw hl hs
    rw [hn] at k
    exact lv_i2b hx hb hd rfl (k ρ H locs cells slots lsC hw hl (hs.tail.cons trivial))
  · cases h
theorem xi_s_dup (hx : p.tables.exec = Jvm.exec) (hb : c.code = cc) (hd : xi_dn cc pcs i (.dup, nf, k1, k2) 1 = true) (h : xi_stp scr (.dup, nf, k1, k2) i ls st S = some (i2, ls2, st2, S2)) (k : xi_G p l en R s m args below meth c Q D cs scr A nL ρ0 N0 L0 (pcs i2) ls2 (st2) S2) : xi_G p l en R s m args below meth c Q D cs scr A nL ρ0 N0 L0 (pcs i) ls (st) S := by
  obtain ⟨hd, hn⟩ := xi_dn_of hd
  simp only [xi_stp, xi_dup] at h
  split at h
  · split at h
    · next hc =>
      simp only [Option.some.injEq, Prod.mk.injEq] at h
      obtain ⟨rfl, rfl, rfl, rfl⟩ := h
      intro ρ H locs cells slots lsC hw hl hs
      rw [hn] at k
      exact lv_dup hx hb hd (by rw [xi_cv_cat]; exact hc) (k ρ H locs cells slots lsC hw hl (hs.cons hs.head))
    · cases h
  · cases h
theorem xi_s_pop (hx : p.tables.exec = Jvm.exec) (hb : c.code = cc) (hd : xi_dn cc pcs i (.pop, nf, k1, k2) 1 = true) (h : xi_stp scr (.pop, nf, k1, k2) i ls st S = some (i2, ls2, st2, S2)) (k : xi_G p l en R s m args below meth c Q D cs scr A nL ρ0 N0 L0 (pcs i2) ls2 (st2) S2) : xi_G p l en R s m args below meth c Q D cs scr A nL ρ0 N0 L0 (pcs i) ls (st) S := by
  obtain ⟨hd, hn⟩ := xi_dn_of hd
  simp only [xi_stp, xi_pop] at h
  split at h
  · split at h
    · next hc =>
      simp only [Option.some.injEq, Prod.mk.injEq] at h
      obtain ⟨rfl, rfl, rfl, rfl⟩ := h
      intro ρ H locs cells slots lsC hw hl hs
      rw [hn] at k
      exact lv_pop hx hb hd (by rw [xi_cv_cat]; exact hc) (k ρ H locs cells slots lsC hw hl (hs.tail))
    · cases h
  · cases h
theorem xi_s_dup2 (hx : p.tables.exec = Jvm.exec) (hb : c.code = cc) (hd : xi_dn cc pcs i (.dup2, nf, k1, k2) 1 = true) (h : xi_stp scr (.dup2, nf, k1, k2) i ls st S = some (i2, ls2, st2, S2)) (k : xi_G p l en R s m args below meth c Q D cs scr A nL ρ0 N0 L0 (pcs i2) ls2 (st2) S2) : xi_G p l en R s m args below meth c Q D cs scr A nL ρ0 N0 L0 (pcs i) ls (st) S := by
  obtain ⟨hd, hn⟩ := xi_dn_of hd
  simp only [xi_stp, xi_dup2] at h
  split at h
  · split at h
    · next hc =>
      simp only [Option.some.injEq, Prod.mk.injEq] at h
      obtain ⟨rfl, rfl, rfl, rfl⟩ := h
      intro ρ H locs cells slots lsC hw hl hs
      rw [hn] at k
      exact lv_dup2_11 hx hb hd (by rw [xi_cv_cat]; exact hc.1) (by rw [xi_cv_cat]; exact hc.2) (k ρ H locs cells slots lsC hw hl ((hs.cons hs.tail.head).cons hs.head))
    · cases h
  · cases h
end XIS
