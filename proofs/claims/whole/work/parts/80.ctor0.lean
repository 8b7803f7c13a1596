/-! CONSTRUCTORS: a store as lists of writes, and the rules that the generated part 81 uses -/
def iz : List (Nat × Nat × Int32) → Nat → Nat → Int32
  | [] => fun _ _ => 0
  | q :: l => xi_up (iz l) q.1 q.2.1 q.2.2
def jz : List (Nat × Nat × Int64) → Nat → Nat → Int64
  | [] => fun _ _ => 0
  | q :: l => xi_up (jz l) q.1 q.2.1 q.2.2
def pz : List (Nat × Nat × Nat) → Nat → Nat → Option Nat
  | [] => fun _ _ => none
  | q :: l => xi_up (pz l) q.1 q.2.1 (some q.2.2)
def bel {α : Type} (n : Nat) : List (Nat × Nat × α) → Bool
  | [] => true
  | q :: l => Nat.blt q.1 n && bel n l
theorem bel_c {α : Type} {n : Nat} {q : Nat × Nat × α} {l : List (Nat × Nat × α)} (h : bel n (q :: l) = true) : q.1 < n ∧ bel n l = true := by
  have h2 : (Nat.blt q.1 n && bel n l) = true := h
  rw [Bool.and_eq_true] at h2
  exact ⟨Nat.blt_eq.mp h2.1, h2.2⟩
theorem iz_out {n k : Nat} (hk : n ≤ k) : ∀ l, bel n l = true → iz l k = fun _ => 0 := by
  intro l
  induction l with
  | nil => exact fun _ => rfl
  | cons q l ih =>
    intro h
    obtain ⟨h1, h2⟩ := bel_c h
    show xi_up (iz l) q.1 q.2.1 q.2.2 k = _
    rw [xu_fr (by omega), ih h2]
theorem jz_out {n k : Nat} (hk : n ≤ k) : ∀ l, bel n l = true → jz l k = fun _ => 0 := by
  intro l
  induction l with
  | nil => exact fun _ => rfl
  | cons q l ih =>
    intro h
    obtain ⟨h1, h2⟩ := bel_c h
    show xi_up (jz l) q.1 q.2.1 q.2.2 k = _
    rw [xu_fr (by omega), ih h2]
theorem pz_out {n k : Nat} (hk : n ≤ k) : ∀ l, bel n l = true → pz l k = fun _ => none := by
  intro l
  induction l with
  | nil => exact fun _ => rfl
  | cons q l ih =>
    intro h
    obtain ⟨h1, h2⟩ := bel_c h
    show xi_up (pz l) q.1 q.2.1 (some q.2.2) k = _
    rw [xu_fr (by omega), ih h2]
theorem iz_ua {n : Nat} {l : List (Nat × Nat × Int32)} (h : bel n l = true) : xi_ua (iz l) n (fun _ => 0) = iz l := by
  funext k
  by_cases e : k = n
  · subst e; rw [xa_eq, iz_out (Nat.le_refl k) l h]
  · rw [xa_fr e]
theorem jz_ua {n : Nat} {l : List (Nat × Nat × Int64)} (h : bel n l = true) : xi_ua (jz l) n (fun _ => 0) = jz l := by
  funext k
  by_cases e : k = n
  · subst e; rw [xa_eq, jz_out (Nat.le_refl k) l h]
  · rw [xa_fr e]
theorem pz_ua {n : Nat} {l : List (Nat × Nat × Nat)} (h : bel n l = true) : xi_ua (pz l) n (fun _ => none) = pz l := by
  funext k
  by_cases e : k = n
  · subst e; rw [xa_eq, pz_out (Nat.le_refl k) l h]
  · rw [xa_fr e]
def mnl (n : Nat) : Nat → List (Nat × Nat × Nat)
  | 0 => []
  | m + 1 => (n, m, n + 1 + m) :: mnl n m
theorem pz_mn {n : Nat} {l : List (Nat × Nat × Nat)} (h : bel n l = true) : ∀ m, pz (mnl n m ++ l) = fun a => if n ≤ a then (fun j => if a = n ∧ j < m then some (n + 1 + j) else none) else pz l a := by
  intro m
  induction m with
  | zero =>
    funext a
    by_cases e : n ≤ a
    · rw [if_pos e]
      show pz l a = _
      rw [pz_out e l h]
      funext j
      rw [if_neg (by omega)]
    · rw [if_neg e]; rfl
  | succ m ih =>
    funext a
    show xi_up (pz (mnl n m ++ l)) n m (some (n + 1 + m)) a = _
    rw [ih]
    by_cases e : a = n
    · subst e
      funext j
      rw [xu_at]
      by_cases e2 : j = m
      · subst e2
        rw [if_pos rfl, if_pos (Nat.le_refl a), if_pos ⟨rfl, Nat.lt_succ_self j⟩]
      · rw [if_neg e2, if_pos (Nat.le_refl a), if_pos (Nat.le_refl a)]
        by_cases e3 : j < m
        · rw [if_pos ⟨rfl, e3⟩, if_pos ⟨rfl, by omega⟩]
        · rw [if_neg (fun q => e3 q.2), if_neg (by omega)]
    · rw [xu_fr e]
      by_cases e2 : n ≤ a
      · rw [if_pos e2, if_pos e2]
        funext j
        rw [if_neg (fun q => e q.1), if_neg (fun q => e q.1)]
      · rw [if_neg e2, if_neg e2]
theorem iz_mn {n : Nat} {l : List (Nat × Nat × Int32)} (h : bel n l = true) : (fun a => if n ≤ a then (fun _ => 0) else iz l a) = iz l := by
  funext a
  by_cases e : n ≤ a
  · rw [if_pos e, iz_out e l h]
  · rw [if_neg e]
theorem jz_mn {n : Nat} {l : List (Nat × Nat × Int64)} (h : bel n l = true) : (fun a => if n ≤ a then (fun _ => 0) else jz l a) = jz l := by
  funext a
  by_cases e : n ≤ a
  · rw [if_pos e, jz_out e l h]
  · rw [if_neg e]
section CTOR
variable {scr : xi_X} {d : Nat} {code : List xi_E} {i : Nat} {ls ls2 : xi_L} {st st2 : List Value} {Q : Option Value → xi_S → Prop} {li : List (Nat × Nat × Int32)} {lj : List (Nat × Nat × Int64)} {lp : List (Nat × Nat × Nat)} {sh sh2 : List (Nat × Nat)} {n : Nat} {nf : List Nat} {k1 : Int32} {k2 : Int64}
theorem xz_new {z ci : Nat} (hc : code[i]? = some (.new z, [ci], k1, k2)) (hci : ci < 9) (hl : sh.length = n) (ht : sh ++ [(ci, xi_nf ci)] = sh2) (h1 : bel n li = true) (h2 : bel n lj = true) (h3 : bel n lp = true) : xr scr d code i ls st (sh, iz li, jz lj, pz lp) Q = xr scr d code (i + 1) ls (.ref n :: st) (sh2, iz li, jz lj, pz lp) Q := by
  subst hl
  subst ht
  refine xr_go (fun go => ?_)
  unfold xi_one
  rw [hc]
  show (match xi_new [ci] i ls st (sh, iz li, jz lj, pz lp) with | some (a, b, c, e) => go d code a b c e | none => none) = _
  simp only [xi_new, if_pos hci]
  rw [iz_ua h1, jz_ua h2, pz_ua h3]
theorem xz_newa {z : ArrayType} {tag m : Nat} {x : Int32} (hc : code[i]? = some (.newarray z, [tag], k1, k2)) (hx : ¬ (x < 0 ∨ 1000 < x.toNatClampNeg)) (hm : x.toNatClampNeg = m) (hl : sh.length = n) (ht : sh ++ [(tag, m)] = sh2) (h1 : bel n li = true) (h2 : bel n lj = true) (h3 : bel n lp = true) : xr scr d code i ls (.int x :: st) (sh, iz li, jz lj, pz lp) Q = xr scr d code (i + 1) ls (.ref n :: st) (sh2, iz li, jz lj, pz lp) Q := by
  subst hl
  subst ht
  subst hm
  refine xr_go (fun go => ?_)
  unfold xi_one
  rw [hc]
  show (match xi_newa tag i ls (.int x :: st) (sh, iz li, jz lj, pz lp) with | some (a, b, c, e) => go d code a b c e | none => none) = _
  simp only [xi_newa, if_neg hx]
  rw [iz_ua h1, jz_ua h2, pz_ua h3]
theorem xz_anewa {z m : Nat} {x : Int32} (hc : code[i]? = some (.anewarray z, nf, k1, k2)) (hx : ¬ (x < 0 ∨ 1000 < x.toNatClampNeg)) (hm : x.toNatClampNeg = m) (hl : sh.length = n) (ht : sh ++ [(12, m)] = sh2) (h1 : bel n li = true) (h2 : bel n lj = true) (h3 : bel n lp = true) : xr scr d code i ls (.int x :: st) (sh, iz li, jz lj, pz lp) Q = xr scr d code (i + 1) ls (.ref n :: st) (sh2, iz li, jz lj, pz lp) Q := by
  subst hl
  subst ht
  subst hm
  refine xr_go (fun go => ?_)
  unfold xi_one
  rw [hc]
  show (match xi_newa 12 i ls (.int x :: st) (sh, iz li, jz lj, pz lp) with | some (a, b, c, e) => go d code a b c e | none => none) = _
  simp only [xi_newa, if_neg hx]
  rw [iz_ua h1, jz_ua h2, pz_ua h3]
theorem xz_mna {z w o q m u : Nat} {x y : Int32} (hc : code[i]? = some (.multianewarray z w, [o, q], k1, k2)) (hx : ¬ (x < 0 ∨ y < 0 ∨ 1000 < x.toNatClampNeg ∨ 1000 < y.toNatClampNeg)) (hm : x.toNatClampNeg = m) (hu : y.toNatClampNeg = u) (hl : sh.length = n) (ht : sh ++ [(o, m)] ++ List.replicate m (q, u) = sh2) (h1 : bel n li = true) (h2 : bel n lj = true) (h3 : bel n lp = true) : xr scr d code i ls (.int y :: .int x :: st) (sh, iz li, jz lj, pz lp) Q = xr scr d code (i + 1) ls (.ref n :: st) (sh2, iz li, jz lj, pz (mnl n m ++ lp)) Q := by
  subst hl
  subst ht
  subst hm
  subst hu
  rw [pz_mn h3]
  refine xr_go (fun go => ?_)
  unfold xi_one
  rw [hc]
  show (match xi_mna o q i ls (.int y :: .int x :: st) (sh, iz li, jz lj, pz lp) with | some (a, b, c, e) => go d code a b c e | none => none) = _
  simp only [xi_mna, if_neg hx]
  rw [iz_mn h1, jz_mn h2]
theorem xz_oin {z b : Nat} (hc : code[i]? = some (.invokespecial z, [], k1, k2)) (hst : (st.map fun v => v.category).sum ≤ 8) : xr scr d code i ls (.ref b :: st) (sh, iz li, jz lj, pz lp) Q = xr scr d code (i + 1) ls st (sh, iz li, jz lj, pz lp) Q := by
  refine xr_go (fun go => ?_)
  unfold xi_one
  rw [hc]
  show (match xi_oin i ls (.ref b :: st) (sh, iz li, jz lj, pz lp) with | some (a, b, c, e) => go d code a b c e | none => none) = _
  simp only [xi_oin, if_pos hst]
theorem xz_spc {z d2 μ na mL ci nn b : Nat} {c2 : List xi_E} {l2 : xi_L} {S2 : xi_S} (hc : code[i]? = some (.invokespecial z, [μ, na, ci], k1, k2)) (hp : xi_pg μ = some (mL, na, c2)) (hna : na ≤ st.length) (hb : st[na - 1]? = some (.ref b)) (hs : sh[b]? = some (ci, nn)) (hlen : (xi_av (st.take na).reverse).length ≤ mL) (hsum : ((st.drop na).map fun v => v.category).sum ≤ 8) (he : xi_en (st.take na).reverse mL = l2) (hst : st.drop na = st2) (hq : ∀ Q : Option Value → xi_S → Prop, xr scr d2 c2 0 l2 [] (sh, iz li, jz lj, pz lp) Q = Q none S2) : xr scr (d2 + 1) code i ls st (sh, iz li, jz lj, pz lp) Q = xr scr (d2 + 1) code (i + 1) ls st2 S2 Q := by
  subst hst
  refine Eq.trans (xr_call (c2 := c2) (l2 := l2) (d2 := d2) (st2 := st.drop na) (fun go => ?_)) (hq _)
  unfold xi_one
  rw [hc]
  show xi_cal xi_pg (d2 + 1) (.invokespecial z, [μ, na, ci], k1, k2) st (sh, iz li, jz lj, pz lp) (fun d2 c2 l2 S2 => go d2 c2 0 l2 [] S2) (fun st2 S2 => go (d2 + 1) code (i + 1) ls st2 S2) = _
  simp only [xi_cal]
  rw [show xi_pg (xi_k (.invokespecial z, [μ, na, ci], k1, k2)) = some (mL, na, c2) from hp]
  simp only
  rw [if_pos ⟨rfl, hna, by simp only [xi_rcv, hb, hs, decide_true], hlen, hsum⟩, he]
  rfl
theorem xz_ins {z d2 μ na mL : Nat} {c2 : List xi_E} {l2 : xi_L} {S2 : xi_S} (hc : code[i]? = some (.invokestatic z, [μ, na], k1, k2)) (hp : xi_pg μ = some (mL, na, c2)) (hna : na ≤ st.length) (hlen : (xi_av (st.take na).reverse).length ≤ mL) (hsum : ((st.drop na).map fun v => v.category).sum ≤ 8) (he : xi_en (st.take na).reverse mL = l2) (hst : st.drop na = st2) (hq : ∀ Q : Option Value → xi_S → Prop, xr scr d2 c2 0 l2 [] (sh, iz li, jz lj, pz lp) Q = Q none S2) : xr scr (d2 + 1) code i ls st (sh, iz li, jz lj, pz lp) Q = xr scr (d2 + 1) code (i + 1) ls st2 S2 Q := by
  subst hst
  exact Eq.trans (xr_ins hc hp hna hlen hsum he) (hq _)
theorem xz_putI {z ci j k nn : Nat} {x : Int32} (hc : code[i]? = some (.putfield z, [ci, j, 0], k1, k2)) (hs : sh[k]? = some (ci, nn)) : xr scr d code i ls (.int x :: .ref k :: st) (sh, iz li, jz lj, pz lp) Q = xr scr d code (i + 1) ls st (sh, iz ((k, j, x) :: li), jz lj, pz lp) Q := xr_putI hc hs
theorem xz_putZ {z ci j k nn : Nat} {x : Int32} (hc : code[i]? = some (.putfield z, [ci, j, 3], k1, k2)) (hs : sh[k]? = some (ci, nn)) (hx : x &&& 1 = x) : xr scr d code i ls (.int x :: .ref k :: st) (sh, iz li, jz lj, pz lp) Q = xr scr d code (i + 1) ls st (sh, iz ((k, j, x) :: li), jz lj, pz lp) Q := xr_putZ hc hs hx
theorem xz_putJ {z ci j k nn : Nat} {x : Int64} (hc : code[i]? = some (.putfield z, [ci, j, 1], k1, k2)) (hs : sh[k]? = some (ci, nn)) : xr scr d code i ls (.long x :: .ref k :: st) (sh, iz li, jz lj, pz lp) Q = xr scr d code (i + 1) ls st (sh, iz li, jz ((k, j, x) :: lj), pz lp) Q := xr_putJ hc hs
theorem xz_putR {z ci j k nn a : Nat} (hc : code[i]? = some (.putfield z, [ci, j, 2], k1, k2)) (hs : sh[k]? = some (ci, nn)) (ha : a < sh.length) : xr scr d code i ls (.ref a :: .ref k :: st) (sh, iz li, jz lj, pz lp) Q = xr scr d code (i + 1) ls st (sh, iz li, jz lj, pz ((k, j, a) :: lp)) Q := xr_putR hc hs ha
theorem xz_iast {x y : Int32} {k j nn : Nat} (hc : code[i]? = some (.iastore, nf, k1, k2)) (hs : sh[k]? = some (9, nn)) (hj : x.toNatClampNeg = j) (hx : vp_in x nn) : xr scr d code i ls (.int y :: .int x :: .ref k :: st) (sh, iz li, jz lj, pz lp) Q = xr scr d code (i + 1) ls st (sh, iz ((k, j, y) :: li), jz lj, pz lp) Q := by
  subst hj
  exact xr_iast hc hs hx
theorem xz_aast {x : Int32} {k j a nn n2 : Nat} (hc : code[i]? = some (.aastore, nf, k1, k2)) (hs : sh[k]? = some (12, nn)) (ha : sh[a]? = some (1, n2)) (hj : x.toNatClampNeg = j) (hx : ¬ (x < 0 ∨ nn ≤ x.toNatClampNeg)) : xr scr d code i ls (.ref a :: .int x :: .ref k :: st) (sh, iz li, jz lj, pz lp) Q = xr scr d code (i + 1) ls st (sh, iz li, jz lj, pz ((k, j, a) :: lp)) Q := by
  subst hj
  refine xr_go (fun go => ?_)
  unfold xi_one
  rw [hc]
  show (match xi_aast i ls (.ref a :: .int x :: .ref k :: st) (sh, iz li, jz lj, pz lp) with | some (a, b, c, e) => go d code a b c e | none => none) = _
  simp only [xi_aast, hs, ha, and_self, if_pos]
  rw [if_neg hx]
  rfl
theorem xz_iinc {z k : Nat} {y : Int} {x w : Int32} (hc : code[i]? = some (.iinc z y, [k], k1, k2)) (hl : ls[k]? = some (some (.int x))) (hw : x + k1 = w) (he : ls.set k (some (.int w)) = ls2) : xr scr d code i ls st (sh, iz li, jz lj, pz lp) Q = xr scr d code (i + 1) ls2 st (sh, iz li, jz lj, pz lp) Q := by
  subst hw
  exact xr_iinc hc hl he
theorem xz_imul {x y w : Int32} (hc : code[i]? = some (.imul, nf, k1, k2)) (hw : x * y = w) : xr scr d code i ls (.int y :: .int x :: st) (sh, iz li, jz lj, pz lp) Q = xr scr d code (i + 1) ls (.int w :: st) (sh, iz li, jz lj, pz lp) Q := by
  subst hw
  exact xr_imul hc
theorem xz_ge1 {z : Int} {t : Nat} {x y : Int32} (hc : code[i]? = some (.if_icmp .ge z, [t], k1, k2)) (h : x < y) : xr scr d code i ls (.int y :: .int x :: st) (sh, iz li, jz lj, pz lp) Q = xr scr d code (i + 1) ls st (sh, iz li, jz lj, pz lp) Q := Eq.trans (xr_ic_ge hc) (if_pos h)
theorem xz_ge2 {z : Int} {t : Nat} {x y : Int32} (hc : code[i]? = some (.if_icmp .ge z, [t], k1, k2)) (h : ¬ x < y) : xr scr d code i ls (.int y :: .int x :: st) (sh, iz li, jz lj, pz lp) Q = xr scr d code t ls st (sh, iz li, jz lj, pz lp) Q := Eq.trans (xr_ic_ge hc) (if_neg h)
theorem xz_alen {t nn k : Nat} {w : Int32} (hc : code[i]? = some (.arraylength, nf, k1, k2)) (hs : sh[k]? = some (t, nn)) (hk : k < 1000000) (ht : 9 ≤ t ∧ t ≤ 14) (hw : Int32.ofNat nn = w) : xr scr d code i ls (.ref k :: st) (sh, iz li, jz lj, pz lp) Q = xr scr d code (i + 1) ls (.int w :: st) (sh, iz li, jz lj, pz lp) Q := by
  subst hw
  exact xr_alen hc hs hk ht
end CTOR
