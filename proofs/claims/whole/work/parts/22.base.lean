/-! THE WORLD of the run behind both constructors: shapes wS, references wP t dr G (t the town's cell, dr the draft's, G the grounds of the cells 32, 38, 44, 46) -/
def wS : List (Nat × Nat) := [(7, 19), (14, 6), (9, 40), (9, 40), (9, 40), (9, 40), (9, 40), (9, 40), (9, 6), (13, 4), (10, 80), (10, 80), (10, 80), (10, 80), (9, 4), (4, 6), (9, 7), (9, 7), (9, 35), (9, 35), (4, 6), (9, 7), (9, 7), (9, 35), (9, 35), (1, 4), (9, 6), (12, 3), (3, 5), (9, 8), (9, 8), (9, 8), (6, 11), (9, 7), (9, 7), (9, 6), (9, 6), (9, 42), (6, 11), (9, 7), (9, 7), (9, 6), (9, 6), (9, 42), (5, 2), (9, 42), (0, 2), (11, 42), (2, 2), (9, 7), (9, 7), (9, 6), (1, 4), (9, 6), (1, 4), (9, 6), (1, 4), (9, 6), (8, 34), (9, 6), (9, 6), (9, 240), (9, 40), (9, 4), (9, 320), (9, 98), (9, 6), (9, 6), (9, 6), (9, 42), (9, 30), (9, 24)]
def wP0 (t dr j : Nat) : Option Nat := if j = 0 then some 1 else if j = 1 then some 8 else if j = 2 then some 9 else if j = 3 then some 14 else if j = 4 then some t else if j = 5 then some dr else if j = 6 then some 25 else if j = 7 then some 27 else if j = 8 then some 28 else if j = 9 then some 32 else if j = 10 then some 38 else if j = 11 then some 44 else if j = 12 then some 46 else if j = 13 then some 48 else if j = 18 then some 51 else none
def wP58 (j : Nat) : Option Nat := if j = 1 then some 59 else if j = 5 then some 60 else if j = 6 then some 61 else if j = 7 then some 62 else if j = 8 then some 63 else if j = 9 then some 64 else if j = 12 then some 65 else if j = 19 then some 66 else if j = 20 then some 67 else if j = 25 then some 68 else if j = 26 then some 69 else if j = 28 then some 70 else if j = 31 then some 71 else none
def wP (t dr : Nat) (G : Nat → Nat) (k j : Nat) : Option Nat :=
  if k = 0 then wP0 t dr j
  else if k = 1 then (if j < 6 then some (2 + j) else none)
  else if k = 9 then (if j < 4 then some (10 + j) else none)
  else if k = 15 ∨ k = 20 then (if j = 2 then some (k + 1) else if j = 3 then some (k + 2) else if j = 4 then some (k + 3) else if j = 5 then some (k + 4) else none)
  else if k = 25 ∨ k = 52 ∨ k = 54 ∨ k = 56 then (if j = 3 then some (k + 1) else none)
  else if k = 27 then (if j < 3 then some (52 + 2 * j) else none)
  else if k = 28 then (if j = 2 then some 29 else if j = 3 then some 30 else if j = 4 then some 31 else none)
  else if k = 32 ∨ k = 38 then (if j = 3 then some (G k) else if j = 6 then some (k + 1) else if j = 7 then some (k + 2) else if j = 8 then some (k + 3) else if j = 9 then some (k + 4) else if j = 10 then some (k + 5) else none)
  else if k = 44 then (if j = 0 then some (G 44) else if j = 1 then some 45 else none)
  else if k = 46 then (if j = 0 then some (G 46) else if j = 1 then some 47 else none)
  else if k = 48 then (if j = 0 then some 49 else if j = 1 then some 50 else none)
  else if k = 58 then wP58 j
  else none
def wU (w v : Nat) (G : Nat → Nat) : Nat → Nat := fun k => if k = w then v else G k
abbrev tw (a : Nat) : Prop := a = 15 ∨ a = 20
abbrev dy (a : Nat) : Prop := a = 25 ∨ a = 52 ∨ a = 54 ∨ a = 56
abbrev wk (a : Nat) : Prop := a = 32 ∨ a = 38
abbrev rwc (a : Nat) : Prop := 2 ≤ a ∧ a ≤ 7
abbrev txc (a : Nat) : Prop := 10 ≤ a ∧ a ≤ 13
theorem tw_s {a : Nat} (h : tw a) : wS[a]? = some (4, 6) := by rcases h with rfl | rfl <;> rfl
theorem tw_lt {a : Nat} (h : tw a) : a < wS.length := by rcases h with rfl | rfl <;> decide
theorem tw_s2 {a : Nat} (h : tw a) : wS[a + 1]? = some (9, 7) := by rcases h with rfl | rfl <;> rfl
theorem tw_s3 {a : Nat} (h : tw a) : wS[a + 2]? = some (9, 7) := by rcases h with rfl | rfl <;> rfl
theorem tw_s4 {a : Nat} (h : tw a) : wS[a + 3]? = some (9, 35) := by rcases h with rfl | rfl <;> rfl
theorem tw_s5 {a : Nat} (h : tw a) : wS[a + 4]? = some (9, 35) := by rcases h with rfl | rfl <;> rfl
theorem dy_s {a : Nat} (h : dy a) : wS[a]? = some (1, 4) := by rcases h with rfl | rfl | rfl | rfl <;> rfl
theorem dy_s1 {a : Nat} (h : dy a) : wS[a + 1]? = some (9, 6) := by rcases h with rfl | rfl | rfl | rfl <;> rfl
theorem wk_s {a : Nat} (h : wk a) : wS[a]? = some (6, 11) := by rcases h with rfl | rfl <;> rfl
theorem wk_s6 {a : Nat} (h : wk a) : wS[a + 1]? = some (9, 7) := by rcases h with rfl | rfl <;> rfl
theorem wk_s7 {a : Nat} (h : wk a) : wS[a + 2]? = some (9, 7) := by rcases h with rfl | rfl <;> rfl
theorem wk_s8 {a : Nat} (h : wk a) : wS[a + 3]? = some (9, 6) := by rcases h with rfl | rfl <;> rfl
theorem wk_s9 {a : Nat} (h : wk a) : wS[a + 4]? = some (9, 6) := by rcases h with rfl | rfl <;> rfl
theorem wk_s10 {a : Nat} (h : wk a) : wS[a + 5]? = some (9, 42) := by rcases h with rfl | rfl <;> rfl
theorem rwc_s {a : Nat} (h : rwc a) : wS[a]? = some (9, 40) := by
  rcases (show a = 2 ∨ a = 3 ∨ a = 4 ∨ a = 5 ∨ a = 6 ∨ a = 7 by omega) with rfl | rfl | rfl | rfl | rfl | rfl <;> rfl
theorem txc_s {a : Nat} (h : txc a) : wS[a]? = some (10, 80) := by
  rcases (show a = 10 ∨ a = 11 ∨ a = 12 ∨ a = 13 by omega) with rfl | rfl | rfl | rfl <;> rfl
theorem vp_lt {x : Int32} {n : Nat} (h : vp_in x n) : x.toNatClampNeg < n := Nat.lt_of_not_le (fun h2 => h (Or.inr h2))
theorem wS_row {x : Int32} (h : vp_in x 6) : wS[2 + x.toNatClampNeg]? = some (9, 40) := rwc_s (by have := vp_lt h; omega)
theorem wS_txt {x : Int32} (h : vp_in x 4) : wS[10 + x.toNatClampNeg]? = some (10, 80) := txc_s (by have := vp_lt h; omega)
theorem dy_kep {x : Int32} (h : vp_in x 3) : dy (52 + 2 * x.toNatClampNeg) := by have := vp_lt h; omega
theorem wS_lt {k : Nat} {q : Nat × Nat} (h : wS[k]? = some q) : k < 1000000 := by
  have h1 : k < wS.length := (List.getElem?_eq_some_iff.mp h).1
  have h2 : wS.length = 72 := rfl
  omega
section WP
variable {t dr : Nat} {G : Nat → Nat} {a v : Nat}
theorem wP_tw2 (h : tw a) : wP t dr G a 2 = some (a + 1) := by rcases h with rfl | rfl <;> rfl
theorem wP_tw3 (h : tw a) : wP t dr G a 3 = some (a + 2) := by rcases h with rfl | rfl <;> rfl
theorem wP_tw4 (h : tw a) : wP t dr G a 4 = some (a + 3) := by rcases h with rfl | rfl <;> rfl
theorem wP_tw5 (h : tw a) : wP t dr G a 5 = some (a + 4) := by rcases h with rfl | rfl <;> rfl
theorem wP_dy (h : dy a) : wP t dr G a 3 = some (a + 1) := by rcases h with rfl | rfl | rfl | rfl <;> rfl
theorem wP_wk3 (h : wk a) : wP t dr G a 3 = some (G a) := by rcases h with rfl | rfl <;> rfl
theorem wP_wk6 (h : wk a) : wP t dr G a 6 = some (a + 1) := by rcases h with rfl | rfl <;> rfl
theorem wP_wk7 (h : wk a) : wP t dr G a 7 = some (a + 2) := by rcases h with rfl | rfl <;> rfl
theorem wP_wk8 (h : wk a) : wP t dr G a 8 = some (a + 3) := by rcases h with rfl | rfl <;> rfl
theorem wP_wk9 (h : wk a) : wP t dr G a 9 = some (a + 4) := by rcases h with rfl | rfl <;> rfl
theorem wP_wk10 (h : wk a) : wP t dr G a 10 = some (a + 5) := by rcases h with rfl | rfl <;> rfl
theorem wP_row {x : Int32} (h : vp_in x 6) : wP t dr G 1 x.toNatClampNeg = some (2 + x.toNatClampNeg) := if_pos (vp_lt h)
theorem wP_txt {x : Int32} (h : vp_in x 4) : wP t dr G 9 x.toNatClampNeg = some (10 + x.toNatClampNeg) := if_pos (vp_lt h)
theorem wP_kep {x : Int32} (h : vp_in x 3) : wP t dr G 27 x.toNatClampNeg = some (52 + 2 * x.toNatClampNeg) := if_pos (vp_lt h)
theorem wP_at {α : Type} {f : Nat → Nat → α} {k j : Nat} {v : α} {g : Nat → Nat → α} (h1 : g k j = v) (h2 : ∀ b, b ≠ j → g k b = f k b) (h3 : ∀ a, a ≠ k → g a = f a) : xi_up f k j v = g := by
  funext a
  unfold xi_up
  by_cases ha : a = k
  · rw [if_pos ha]
    funext b
    by_cases hb : b = j
    · rw [if_pos hb, ha, hb, h1]
    · rw [if_neg hb, ha, h2 b hb]
  · rw [if_neg ha, h3 a ha]
theorem wP_up4 : xi_up (wP t dr G) 0 4 (some v) = wP v dr G := wP_at rfl (fun b hb => by
  show wP0 v dr b = wP0 t dr b
  unfold wP0
  rw [if_neg hb, if_neg hb]) (fun a ha => by funext j; unfold wP; rw [if_neg ha, if_neg ha])
theorem wP_up5 : xi_up (wP t dr G) 0 5 (some v) = wP t v G := wP_at rfl (fun b hb => by
  show wP0 t v b = wP0 t dr b
  unfold wP0
  rw [if_neg hb, if_neg hb]) (fun a ha => by funext j; unfold wP; rw [if_neg ha, if_neg ha])
theorem wP_upw (h : wk a) : xi_up (wP t dr G) a 3 (some v) = wP t dr (wU a v G) := wP_at (by rw [wP_wk3 h]; simp [wU]) (fun b hb => by
  rcases h with rfl | rfl <;> simp [wP, hb]) (fun c hc => by
  funext j
  have h44 : wU a v G 44 = G 44 := if_neg (by omega)
  have h46 : wU a v G 46 = G 46 := if_neg (by omega)
  have hcc : wU a v G c = G c := if_neg hc
  simp only [wP, h44, h46, hcc])
theorem wP_up44 : xi_up (wP t dr G) 44 0 (some v) = wP t dr (wU 44 v G) := wP_at rfl (fun b hb => by simp [wP, hb]) (fun c hc => by
  funext j
  have h46 : wU 44 v G 46 = G 46 := if_neg (by decide)
  have hcc : wU 44 v G c = G c := if_neg hc
  simp only [wP, h46, hcc, if_neg hc])
theorem wP_up46 : xi_up (wP t dr G) 46 0 (some v) = wP t dr (wU 46 v G) := wP_at rfl (fun b hb => by simp [wP, hb]) (fun c hc => by
  funext j
  have h46 : wU 46 v G 44 = G 44 := if_neg (by decide)
  have hcc : wU 46 v G c = G c := if_neg hc
  simp only [wP, h46, hcc, if_neg hc])
theorem wU_eq {w : Nat} : wU w v G w = v := if_pos rfl
theorem wU_ne {w k : Nat} (h : k ≠ w) : wU w v G k = G k := if_neg h
end WP
theorem xr_putRw {scr : xi_X} {d : Nat} {code : List xi_E} {i z k j ci nn a : Nat} {ls : xi_L} {st : List Value} {Q : Option Value → xi_S → Prop} {sh : List (Nat × Nat)} {I : Nat → Nat → Int32} {J : Nat → Nat → Int64} {P P2 : Nat → Nat → Option Nat} {k1 : Int32} {k2 : Int64} (hc : code[i]? = some (.putfield z, [ci, j, 2], k1, k2)) (hs : sh[k]? = some (ci, nn)) (ha : a < sh.length) (hP : xi_up P k j (some a) = P2) : xr scr d code i ls (.ref a :: .ref k :: st) (sh, I, J, P) Q = xr scr d code (i + 1) ls (st) (sh, I, J, P2) Q := by
  rw [xr_putR hc hs ha, hP]
