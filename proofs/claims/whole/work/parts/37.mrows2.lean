/-! meetRow, rowsOn, setRows, setFits -/
def cS (ss : Option (List SGT)) : Nat → Nat → Bool := match ss with
  | none => fun _ _ => true
  | some l => sgB l
def SGo (I : Nat → Nat → Int32) (ss : Option (List SGT)) : Prop := match ss with
  | none => True
  | some l => SG I l
theorem SGo_frM {I I2 : Nat → Nat → Int32} {ss : Option (List SGT)} (h : FrM I I2) (h2 : SGo I ss) : SGo I2 ss := by
  cases ss with
  | none => trivial
  | some l => exact SG_frM h h2
theorem alR_app (A B : List (List Nat)) (x : Nat) : alR (A ++ B) x = (alR A x && alR B x) := List.all_append
section MROWS2
variable {scr : xi_X} {d : Nat} {Q : Option Value → xi_S → Prop} {I : Nat → Nat → Int32} {J : Nat → Nat → Int64} {t dr : Nat} {G : Nat → Nat} {T : TN} {v : Nat} {bk : Bool} {C : Nat → Nat → Bool} {pre : List Nat}
theorem m_meetRow {gl : Option Nat} {row : List Nat} {R E : List (List Nat)} (hM : MT I T) (hg : I 58 23 = glI gl) (hgl : ∀ y, gl = some y → y < 7) (hp : HD I row) (hin : inP (tN T) row) (hl : row.length = tH T + 1) (hR : MRS I T R E) (hb : R.length + 1 < 2 ^ 31)
    (hq : ∀ I2 : Nat → Nat → Int32, FrM I I2 → I2 66 = I 66 → MRS I2 T (R ++ [row].filter (pasB gl (tH T))) (E ++ [row]) → Q none (wS, I2, J, wP t dr G)) : xr scr d xc_209 0 [some (.ref 58), none, none, none] [] (wS, I, J, wP t dr G) Q := by
  have hn := MT_n hM
  have hh5 := MT_h hM
  have h6 := hp (tH T) (by omega)
  have hz : row.getD (tH T) 0 < tN T := inP_get hin (by omega)
  have h11 := MT_11 hM
  obtain ⟨r1, r2, r3, r4, r5, r6⟩ := hR
  have e22 : I 58 22 ||| nI 1 <<< (nI (row.getD (tH T) 0) &&& 31) = nI (bs (tN T) (fun x => (E ++ [row]).any (fun r => r.getD (tH T) 0 == x))) := by
    rw [r2, sb_one _ (by omega), sb_or, bs_one hz, bs_or]
    congr 1
    refine bs_c (fun x _ => ?_)
    rw [List.any_append]
    congr 1
    simp only [List.any_cons, List.any_nil, Bool.or_false]
    by_cases e : x = row.getD (tH T) 0
    · rw [e]
    · have e2 : ¬ row.getD (tH T) 0 = x := fun e3 => e e3.symm
      rw [beq_eq_false_iff_ne.mpr e, beq_eq_false_iff_ne.mpr e2]
  rw [xs_209_0 (by rw [h11]; exact vp_in_nI (by omega) (by omega)), h11, nI_clamp (by omega), h6, e22, hg]
  obtain ⟨I1, hI1⟩ : ∃ I1 : Nat → Nat → Int32, I1 = xi_up I 58 22 (nI (bs (tN T) (fun x => (E ++ [row]).any (fun r => r.getD (tH T) 0 == x)))) := ⟨_, rfl⟩
  rw [← hI1]
  have f1 : ∀ k, k ≠ 58 → I1 k = I k := fun k hk => by rw [hI1, xu_fr hk]
  have g1 : ∀ j, j ≠ 22 → I1 58 j = I 58 j := fun j hj => by rw [hI1, xu_nj hj]
  have s22 : I1 58 22 = nI (bs (tN T) (fun x => (E ++ [row]).any (fun r => r.getD (tH T) 0 == x))) := by rw [hI1, xu_eq]
  have i66 : ∀ i, i ≤ tH T → I1 66 i = nI (row.getD i 0) := fun i hi => by rw [f1 66 (by decide), hp i (by omega)]
  -- the row counts
  have yes : (∀ I2 : Nat → Nat → Int32, FrM I I2 → I2 66 = I 66 → MRS I2 T (R ++ [row]) (E ++ [row]) → Q none (wS, I2, J, wP t dr G)) → xr scr d xc_209 23 [some (.ref 58), some (.int (nI (row.getD (tH T) 0))), none, none] [] (wS, I1, J, wP t dr G) Q := by
    intro hq2
    rw [xs_209_23]
    have hb0 : nI 0 = nI (bs (tN T) (fun z => (row.take 0).contains z)) := by rw [bs_z.mpr (fun x _ => by simp)]
    rw [show (xr scr d xc_209 27 [some (Value.ref 58), some (Value.int (nI (row.getD (tH T) 0))), some (Value.int (nI 0)), some (Value.int (nI 0))] [] (wS, I1, J, wP t dr G) Q) = (xr scr d xc_209 27 [some (Value.ref 58), some (Value.int (nI (row.getD (tH T) 0))), some (Value.int (nI (bs (tN T) (fun z => (row.take 0).contains z)))), some (Value.int (nI 0))] [] (wS, I1, J, wP t dr G) Q) by rw [← hb0]]
    have h1R := ctR_app R [row]
    refine up_0 (P := fun x => ∀ I3 : Nat → Nat → Int32, (∀ k, k ≠ 68 → k ≠ 69 → I3 k = I1 k) → (∀ i, i ≤ tH T → ∀ z, z < tN T → I3 69 (7 * i + z) = nI (if i < x then ctR (R ++ [row]) i z else ctR R i z)) → (R = [] → ∀ i, i < x → I3 68 i = nI (row.getD i 0)) → (∀ r M, R = r :: M → ∀ i, i ≤ tH T → I3 68 i = nI (r.getD i 0)) → xr scr d xc_209 27 [some (.ref 58), some (.int (nI (row.getD (tH T) 0))), some (.int (nI (bs (tN T) (fun z => (row.take x).contains z)))), some (.int (nI x))] [] (wS, I3, J, wP t dr G) Q) (tH T + 1) (fun x hx h I3 f3 a1 a2 a3 => ?_) (fun I3 f3 a1 a2 a3 => ?_) I1 (fun _ _ _ => rfl) (fun i hi z hz => by rw [if_neg (Nat.not_lt_zero _), f1 69 (by decide), r5 i hi z hz]) (fun _ i hi => absurd hi (Nat.not_lt_zero _)) (fun r M hr i hi => by rw [f1 68 (by decide), r6 r M hr i hi])
    · have hx6 : x < 6 := by omega
      have hzx : row.getD x 0 < tN T := inP_get hin (by omega)
      have c66 : I3 66 x = nI (row.getD x 0) := by rw [f3 66 (by decide) (by decide), i66 x (by omega)]
      have c11 : I3 58 11 = nI (tH T) := by rw [f3 58 (by decide) (by decide), g1 11 (by decide), h11]
      have c21 : I3 58 21 = nI R.length := by rw [f3 58 (by decide) (by decide), g1 21 (by decide), r1]
      have c69 := a1 x (by omega) _ hzx
      rw [if_neg (Nat.lt_irrefl x)] at c69
      have hnx : ¬ tH T < x := by omega
      have hcl : (nI x).toNatClampNeg = x := nI_clamp (by omega)
      have eset : bs (tN T) (fun z => (row.take x).contains z) ||| 2 ^ row.getD x 0 = bs (tN T) (fun z => (row.take (x + 1)).contains z) := by
        rw [bs_one hzx, bs_or]
        refine bs_c (fun z _ => ?_)
        rw [take_s (by omega), contains_app]
      rw [xs_209_27, c11]
      simp (disch := first | assumption | omega | decide | exact vp_in_nI (by omega) (by omega) | exact and1_bN _ | (simp only [pk_mul, nI_add, pred_s]; exact vp_in_nI (by omega) (by omega))) only [nI_add, pk_mul, nI_ltI, nI_eq, z_eq, z_lt, z_gt, z_bN, bN_z, bN_p, bN_i1, nI_clamp, rng_nI, ↓reduceIte, if_true, if_false, not_true_eq_false, not_false_eq_true, true_and, and_true, and_self, false_and, and_false, hnx]
      rw [xs_209_31 (vp_in_nI (by omega) (by omega)) (by rw [hcl, c66, pk_mul, nI_add]; exact vp_in_nI (by omega) (by omega)), hcl, c66, c21, pk_mul, nI_add, nI_clamp (by omega), c69, nI_add, sb_one _ (by omega), sb_or, eset]
      obtain ⟨I4, hI4⟩ : ∃ I4 : Nat → Nat → Int32, I4 = xi_up I3 69 (7 * x + row.getD x 0) (nI (ctR R x (row.getD x 0) + 1)) := ⟨_, rfl⟩
      rw [← hI4]
      have fin : ∀ q : Int32, (R = [] → q = nI (row.getD x 0)) → (∀ r M, R = r :: M → q = nI (r.getD x 0)) → xr scr d xc_209 70 [some (Value.ref 58), some (Value.int (nI (row.getD (tH T) 0))), some (Value.int (nI (bs (tN T) (fun z => (row.take (x + 1)).contains z)))), some (Value.int (nI x))] [.int q, .int (nI x), .ref 68] (wS, I4, J, wP t dr G) Q := by
        intro q q1 q2
        rw [xs_209_70 (vp_in_nI (by omega) (by omega)), hcl, nI_add]
        refine h _ (fun k b c => by rw [xu_fr b, hI4, xu_fr c, f3 k b c]) (fun i hi z hz => ?_) (fun e i hi => ?_) (fun r M hr i hi => ?_)
        · rw [xu_nc (by decide), hI4, xu_at]
          by_cases e : i = x
          · subst e
            rw [if_pos (Nat.lt_succ_self i), ctR_app]
            by_cases e2 : z = row.getD i 0
            · rw [if_pos (by rw [e2]), e2]
              congr 2
              simp [ctR]
            · rw [if_neg (by omega), a1 i hi z hz, if_neg (Nat.lt_irrefl i)]
              have : ctR [row] i z = 0 := List.countP_eq_zero.mpr (fun r hr => by
                rw [List.mem_singleton.mp hr]
                simp only [beq_iff_eq]
                exact fun e3 => e2 e3.symm)
              rw [this, Nat.add_zero]
          · rw [if_neg (by omega), a1 i hi z hz]
            by_cases e3 : i < x
            · rw [if_pos e3, if_pos (by omega)]
            · rw [if_neg e3, if_neg (by omega)]
        · rw [xu_at]
          by_cases e2 : i = x
          · rw [if_pos e2, q1 e, e2]
          · rw [if_neg e2, hI4, xu_nc (by decide), a2 e i (by omega)]
        · rw [xu_at]
          by_cases e2 : i = x
          · rw [if_pos e2, q2 r M hr, e2]
          · rw [if_neg e2, hI4, xu_nc (by decide), a3 r M hr i hi]
      cases R with
      | nil =>
        simp (disch := first | assumption | omega | decide | exact vp_in_nI (by omega) (by omega) | exact and1_bN _ | (simp only [pk_mul, nI_add, pred_s]; exact vp_in_nI (by omega) (by omega))) only [List.length_nil, nI_add, pk_mul, nI_ltI, nI_eq, z_eq, z_lt, z_gt, z_bN, bN_z, bN_p, bN_i1, nI_clamp, rng_nI, ↓reduceIte, if_true, if_false, not_true_eq_false, not_false_eq_true, true_and, and_true, and_self, false_and, and_false]
        rw [xs_209_61 (vp_in_nI (by omega) (by omega)), hcl]
        refine fin _ (fun _ => ?_) (fun r M hr => by cases hr)
        rw [hI4, xu_nc (by decide), c66]
      | cons r M =>
        have hne : ¬ nI (r :: M).length = 0 := nI_ne0 (by simp) (by omega)
        rw [if_neg hne, xs_209_66 (vp_in_nI (by omega) (by omega)), hcl]
        refine fin _ (fun e => by cases e) (fun r2 M2 hr => ?_)
        rw [hI4, xu_nc (by decide), a3 r2 M2 hr x (by omega)]
    · have c11 : I3 58 11 = nI (tH T) := by rw [f3 58 (by decide) (by decide), g1 11 (by decide), h11]
      have hlt : tH T < tH T + 1 := Nat.lt_succ_self _
      have c66 : I3 66 0 = nI (row.getD 0 0) := by rw [f3 66 (by decide) (by decide), i66 0 (by omega)]
      have hz0 : row.getD 0 0 < tN T := inP_get hin (by omega)
      have c21 : I3 58 21 = nI R.length := by rw [f3 58 (by decide) (by decide), g1 21 (by decide), r1]
      have c24 : I3 58 24 = nI (bs (tN T) (alR R)) := by rw [f3 58 (by decide) (by decide), g1 24 (by decide), r3]
      have c27 : I3 58 27 = nI (bs (tN T) (fun x => R.any (fun r => r.getD 0 0 == x))) := by rw [f3 58 (by decide) (by decide), g1 27 (by decide), r4]
      rw [xs_209_27, c11]
      simp (disch := first | assumption | omega | decide | exact vp_in_nI (by omega) (by omega) | exact and1_bN _ | (simp only [pk_mul, nI_add, pred_s]; exact vp_in_nI (by omega) (by omega))) only [nI_add, pk_mul, nI_ltI, nI_eq, z_eq, z_lt, z_gt, z_bN, bN_z, bN_p, bN_i1, nI_clamp, rng_nI, ↓reduceIte, if_true, if_false, not_true_eq_false, not_false_eq_true, true_and, and_true, and_self, false_and, and_false, hlt]
      rw [List.take_of_length_le (by omega), xs_209_73 (vp_in_nI (by decide) (by decide)), nI_clamp (by decide), c66, c21, c24, c27, nI_add, sb_and, bs_and, sb_one _ (by omega), sb_or, bs_one hz0, bs_or]
      refine hq2 _ ⟨fun k a b c e => by rw [xu_fr a, xu_fr a, xu_fr a, f3 k c e, f1 k a], fun j a b c e => by rw [xu_nj e, xu_nj c, xu_nj a, f3 58 (by decide) (by decide), g1 j b]⟩ (by rw [xu_fr (by decide), xu_fr (by decide), xu_fr (by decide), f3 66 (by decide) (by decide), f1 66 (by decide)]) ⟨?_, ?_, ?_, ?_, fun i hi z hz => ?_, fun r M hr i hi => ?_⟩
      · rw [xu_nj (by decide), xu_nj (by decide), xu_eq, List.length_append]
        rfl
      · rw [xu_nj (by decide), xu_nj (by decide), xu_nj (by decide), f3 58 (by decide) (by decide), s22]
      · rw [xu_nj (by decide), xu_eq]
        congr 1
        refine bs_c (fun z _ => ?_)
        rw [alR_app]
        simp [alR]
      · rw [xu_eq]
        congr 1
        refine bs_c (fun z _ => ?_)
        rw [List.any_append]
        congr 1
        simp only [List.any_cons, List.any_nil, Bool.or_false]
        by_cases e : z = row.getD 0 0
        · rw [e]
        · have e2 : ¬ row.getD 0 0 = z := fun e3 => e e3.symm
          rw [beq_eq_false_iff_ne.mpr e, beq_eq_false_iff_ne.mpr e2]
      · rw [xu_fr (by decide), xu_fr (by decide), xu_fr (by decide), a1 i hi z hz, if_pos (by omega)]
      · rw [xu_fr (by decide), xu_fr (by decide), xu_fr (by decide)]
        cases R with
        | nil =>
          rw [List.nil_append] at hr
          rw [← (List.cons.inj hr).1]
          exact a2 rfl i (by omega)
        | cons r2 M2 =>
          rw [List.cons_append] at hr
          rw [← (List.cons.inj hr).1]
          exact a3 r2 M2 rfl i hi
  cases gl with
  | none =>
    rw [show glI none = -9 from rfl, if_pos rfl]
    exact yes (fun I2 a b c => hq I2 a b c)
  | some y =>
    have hy := hgl y rfl
    rw [show glI (some y) = nI y from rfl, if_neg (fun e => (m9_ne (by omega)).mp e), xs_209_18, g1 23 (by decide), hg]
    rw [show glI (some y) = nI y from rfl]
    by_cases e : row.getD (tH T) 0 = y
    · rw [if_pos (by rw [e])]
      refine yes (fun I2 a b c => hq I2 a b ?_)
      have : [row].filter (pasB (some y) (tH T)) = [row] := by
        rw [List.filter_cons, if_pos (by simp only [pasB, e, beq_self_eq_true])]
        rfl
      rw [this]
      exact c
    · rw [if_neg (fun e2 => e ((nI_eq (by omega) (by omega)).mp e2)), xs_209_22]
      have : [row].filter (pasB (some y) (tH T)) = [] := by
        rw [List.filter_cons, if_neg (by simp only [pasB, beq_iff_eq]; exact e)]
        rfl
      have hq2 := hq I1
      rw [this, List.append_nil] at hq2
      exact hq2 ⟨fun k a b c e => f1 k a, fun j a b c e => g1 j b⟩ (f1 66 (by decide)) ⟨by rw [g1 21 (by decide), r1], s22, by rw [g1 24 (by decide), r3], by rw [g1 27 (by decide), r4], by rw [f1 69 (by decide)]; exact r5, by rw [f1 68 (by decide)]; exact r6⟩
end MROWS2
