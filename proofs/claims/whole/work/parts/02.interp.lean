/-! THE INTERPRETER: a pure function that runs resolved bytecode over an abstract store.
A store: the shapes of the cells (kind, length), ints, longs and references by (cell, slot). Kinds 0 to 8: objects of xi_cl; 9 int[], 10 byte[], 11 long[], 12 Day[], 13 byte[][], 14 int[][].
Cells from 1000000 on are read only: 0 KIND_LETTERS, 1 KIND_EXTRA, 2 the script. -/
abbrev xi_E : Type := Instr × List Nat × Int32 × Int64
abbrev xi_L : Type := List (Option Value)
abbrev xi_S : Type := List (Nat × Nat) × (Nat → Nat → Int32) × (Nat → Nat → Int64) × (Nat → Nat → Option Nat)
abbrev xi_X : Type := Nat × (Nat → Int32)
abbrev xi_P : Type := Nat → Option (Nat × Nat × List xi_E)
def xi_up {α : Type} (f : Nat → Nat → α) (k j : Nat) (v : α) : Nat → Nat → α := fun a => if a = k then (fun b => if b = j then v else f k b) else f a
def xi_ua {α : Type} (f : Nat → Nat → α) (k : Nat) (g : Nat → α) : Nat → Nat → α := fun a => if a = k then g else f a
def xi_letters : Nat → Int32 := fun i => match i with
  | 0 => 109
  | 1 => 112
  | 2 => 115
  | 3 => 101
  | 4 => 103
  | _ => 116
def xi_extra : Nat → Int32 := fun i => match i with
  | 3 => 1
  | 5 => 2
  | _ => 0
def xi_ros (scr : xi_X) (j : Nat) : Option (Nat × Nat × (Nat → Int32)) := match j with
  | 0 => some (10, 6, xi_letters)
  | 1 => some (9, 6, xi_extra)
  | 2 => some (9, scr.1, scr.2)
  | _ => none
/-- an array of ints or bytes: its kind, its length, what it holds -/
def xi_ar (scr : xi_X) (S : xi_S) (k : Nat) : Option (Nat × Nat × (Nat → Int32)) :=
  if k < 1000000 then (match S.1[k]? with
    | some (t, n) => some (t, n, S.2.1 k)
    | none => none) else xi_ros scr (k - 1000000)
def xi_k (e : xi_E) : Nat := e.2.1.headD 0
/-- a store into a local of one slot -/
def xi_sl (ls : xi_L) (k : Nat) (v : Value) : xi_L := match k with
  | 0 => ls.set 0 (some v)
  | k + 1 => match ls[k]? with
    | some (some (.long _)) => (ls.set k none).set (k + 1) (some v)
    | _ => ls.set (k + 1) (some v)
def xi_sL (ls : xi_L) (k : Nat) (v : Value) : xi_L := (xi_sl ls k v).set (k + 1) none
abbrev xi_R : Type := Option (Nat × xi_L × List Value × xi_S)
def xi_ii (f : Int32 → Int32 → Int32) (i : Nat) (ls : xi_L) (st : List Value) (S : xi_S) : xi_R := match st with
  | .int y :: .int x :: r => some (i + 1, ls, .int (f x y) :: r, S)
  | _ => none
def xi_id (f : Int32 → Int32 → Int32) (i : Nat) (ls : xi_L) (st : List Value) (S : xi_S) : xi_R := match st with
  | .int y :: .int x :: r => if y = 0 then none else some (i + 1, ls, .int (f x y) :: r, S)
  | _ => none
def xi_ll (f : Int64 → Int64 → Int64) (i : Nat) (ls : xi_L) (st : List Value) (S : xi_S) : xi_R := match st with
  | .long y :: .long x :: r => some (i + 1, ls, .long (f x y) :: r, S)
  | _ => none
def xi_ld (f : Int64 → Int64 → Int64) (i : Nat) (ls : xi_L) (st : List Value) (S : xi_S) : xi_R := match st with
  | .long y :: .long x :: r => if y = 0 then none else some (i + 1, ls, .long (f x y) :: r, S)
  | _ => none
def xi_lod (k : Nat) (i : Nat) (ls : xi_L) (st : List Value) (S : xi_S) : xi_R := match ls[k]? with
  | some (some (.int x)) => some (i + 1, ls, .int x :: st, S)
  | _ => none
def xi_loL (k : Nat) (i : Nat) (ls : xi_L) (st : List Value) (S : xi_S) : xi_R := match ls[k]? with
  | some (some (.long x)) => some (i + 1, ls, .long x :: st, S)
  | _ => none
def xi_loA (k : Nat) (i : Nat) (ls : xi_L) (st : List Value) (S : xi_S) : xi_R := match ls[k]? with
  | some (some (.ref x)) => some (i + 1, ls, .ref x :: st, S)
  | _ => none
def xi_sto (k : Nat) (i : Nat) (ls : xi_L) (st : List Value) (S : xi_S) : xi_R := match st with
  | .int x :: r => if k < ls.length then some (i + 1, xi_sl ls k (.int x), r, S) else none
  | _ => none
def xi_stL (k : Nat) (i : Nat) (ls : xi_L) (st : List Value) (S : xi_S) : xi_R := match st with
  | .long x :: r => if k + 1 < ls.length then some (i + 1, xi_sL ls k (.long x), r, S) else none
  | _ => none
def xi_stA (k : Nat) (i : Nat) (ls : xi_L) (st : List Value) (S : xi_S) : xi_R := match st with
  | .ref x :: r => if k < ls.length then some (i + 1, xi_sl ls k (.ref x), r, S) else none
  | _ => none
/-- a field's value by its kind: 0 int, 1 long, 3 boolean, else a reference -/
def xi_gv (S : xi_S) (k j : Nat) (f : Nat) : Value := match f with
  | 0 => .int (S.2.1 k j)
  | 1 => .long (S.2.2.1 k j)
  | 3 => .int (S.2.1 k j)
  | _ => va_rf (S.2.2.2 k j)
def xi_get (n : List Nat) (i : Nat) (ls : xi_L) (st : List Value) (S : xi_S) : xi_R := match n, st with
  | [ci, j, f], .ref k :: r => (match S.1[k]? with
    | some (t, _) => if t = ci then some (i + 1, ls, xi_gv S k j f :: r, S) else none
    | none => none)
  | _, _ => none
/-- a value into a field -/
def xi_pv (S : xi_S) (k j f : Nat) (v : Value) : Option xi_S := match f, v with
  | 0, .int x => some (S.1, xi_up S.2.1 k j x, S.2.2)
  | 1, .long x => some (S.1, S.2.1, xi_up S.2.2.1 k j x, S.2.2.2)
  | 2, .ref a => if a < S.1.length then some (S.1, S.2.1, S.2.2.1, xi_up S.2.2.2 k j (some a)) else none
  | 3, .int x => if x &&& 1 = x then some (S.1, xi_up S.2.1 k j x, S.2.2) else none
  | _, _ => none
def xi_put (n : List Nat) (i : Nat) (ls : xi_L) (st : List Value) (S : xi_S) : xi_R := match n, st with
  | [ci, j, f], v :: .ref k :: r => (match S.1[k]? with
    | some (t, _) => if t = ci then (match xi_pv S k j f v with
      | some S2 => some (i + 1, ls, r, S2)
      | none => none) else none
    | none => none)
  | _, _ => none
def xi_ald (scr : xi_X) (tag : Nat) (i : Nat) (ls : xi_L) (st : List Value) (S : xi_S) : xi_R := match st with
  | .int j :: .ref k :: r => (match xi_ar scr S k with
    | some (t, n, f) => if t = tag then (if j < 0 ∨ n ≤ j.toNatClampNeg then none else some (i + 1, ls, .int (f j.toNatClampNeg) :: r, S)) else none
    | none => none)
  | _ => none
def xi_lald (i : Nat) (ls : xi_L) (st : List Value) (S : xi_S) : xi_R := match st with
  | .int j :: .ref k :: r => (match S.1[k]? with
    | some (t, n) => if t = 11 then (if j < 0 ∨ n ≤ j.toNatClampNeg then none else some (i + 1, ls, .long (S.2.2.1 k j.toNatClampNeg) :: r, S)) else none
    | none => none)
  | _ => none
def xi_aald (i : Nat) (ls : xi_L) (st : List Value) (S : xi_S) : xi_R := match st with
  | .int j :: .ref k :: r => (match S.1[k]? with
    | some (t, n) => if 12 ≤ t ∧ t ≤ 14 then (if j < 0 ∨ n ≤ j.toNatClampNeg then none else some (i + 1, ls, va_rf (S.2.2.2 k j.toNatClampNeg) :: r, S)) else none
    | none => none)
  | _ => none
def xi_ast (tag : Nat) (i : Nat) (ls : xi_L) (st : List Value) (S : xi_S) : xi_R := match st with
  | .int x :: .int j :: .ref k :: r => (match S.1[k]? with
    | some (t, n) => if t = tag then (if j < 0 ∨ n ≤ j.toNatClampNeg then none else some (i + 1, ls, r, (S.1, xi_up S.2.1 k j.toNatClampNeg (if tag = 10 then x.toInt8.toInt32 else x), S.2.2))) else none
    | none => none)
  | _ => none
def xi_last (i : Nat) (ls : xi_L) (st : List Value) (S : xi_S) : xi_R := match st with
  | .long x :: .int j :: .ref k :: r => (match S.1[k]? with
    | some (t, n) => if t = 11 then (if j < 0 ∨ n ≤ j.toNatClampNeg then none else some (i + 1, ls, r, (S.1, S.2.1, xi_up S.2.2.1 k j.toNatClampNeg x, S.2.2.2))) else none
    | none => none)
  | _ => none
def xi_aast (i : Nat) (ls : xi_L) (st : List Value) (S : xi_S) : xi_R := match st with
  | .ref a :: .int j :: .ref k :: r => (match S.1[k]?, S.1[a]? with
    | some (t, n), some (t2, _) => if t = 12 ∧ t2 = 1 then (if j < 0 ∨ n ≤ j.toNatClampNeg then none else some (i + 1, ls, r, (S.1, S.2.1, S.2.2.1, xi_up S.2.2.2 k j.toNatClampNeg (some a)))) else none
    | _, _ => none)
  | _ => none
def xi_alen (scr : xi_X) (i : Nat) (ls : xi_L) (st : List Value) (S : xi_S) : xi_R := match st with
  | .ref k :: r => (match xi_ar scr S k with
    | some (t, n, _) => if 9 ≤ t ∧ t ≤ 14 then some (i + 1, ls, .int (Int32.ofNat n) :: r, S) else none
    | none => none)
  | _ => none
/-- how many fields an object of a kind has -/
def xi_nf (t : Nat) : Nat := [2, 4, 2, 5, 6, 2, 11, 19, 34].getD t 0
def xi_new (n : List Nat) (i : Nat) (ls : xi_L) (st : List Value) (S : xi_S) : xi_R := match n with
  | [ci] => if ci < 9 then some (i + 1, ls, .ref S.1.length :: st, (S.1 ++ [(ci, xi_nf ci)], xi_ua S.2.1 S.1.length (fun _ => 0), xi_ua S.2.2.1 S.1.length (fun _ => 0), xi_ua S.2.2.2 S.1.length (fun _ => none))) else none
  | _ => none
def xi_newa (tag : Nat) (i : Nat) (ls : xi_L) (st : List Value) (S : xi_S) : xi_R := match st with
  | .int n :: r => if n < 0 ∨ 1000 < n.toNatClampNeg then none else some (i + 1, ls, .ref S.1.length :: r, (S.1 ++ [(tag, n.toNatClampNeg)], xi_ua S.2.1 S.1.length (fun _ => 0), xi_ua S.2.2.1 S.1.length (fun _ => 0), xi_ua S.2.2.2 S.1.length (fun _ => none)))
  | _ => none
/-- new T[n][k]: the outer array, then the inner ones -/
def xi_mna (out inn : Nat) (i : Nat) (ls : xi_L) (st : List Value) (S : xi_S) : xi_R := match st with
  | .int k :: .int n :: r => if n < 0 ∨ k < 0 ∨ 1000 < n.toNatClampNeg ∨ 1000 < k.toNatClampNeg then none else some (i + 1, ls, .ref S.1.length :: r,
      (S.1 ++ [(out, n.toNatClampNeg)] ++ List.replicate n.toNatClampNeg (inn, k.toNatClampNeg),
        (fun a => if S.1.length ≤ a then (fun _ => 0) else S.2.1 a), (fun a => if S.1.length ≤ a then (fun _ => 0) else S.2.2.1 a),
        (fun a => if S.1.length ≤ a then (fun j => if a = S.1.length ∧ j < n.toNatClampNeg then some (S.1.length + 1 + j) else none) else S.2.2.2 a)))
  | _ => none
/-- System.arraycopy of ints -/
def xi_cpy (i : Nat) (ls : xi_L) (st : List Value) (S : xi_S) : xi_R := match st with
  | .int n :: .int dp :: .ref b :: .int sp :: .ref a :: r => (match S.1[a]?, S.1[b]? with
    | some (t, n0), some (t2, n1) => if t = 9 ∧ t2 = 9 ∧ ¬ sp < 0 ∧ ¬ dp < 0 ∧ ¬ n < 0 ∧ sp.toNatClampNeg + n.toNatClampNeg ≤ n0 ∧ dp.toNatClampNeg + n.toNatClampNeg ≤ n1 ∧ (r.map fun v => v.category).sum ≤ 8 then
        some (i + 1, ls, r, (S.1, xi_ua S.2.1 b (va_cpy (S.2.1 a) (S.2.1 b) sp.toNatClampNeg dp.toNatClampNeg n.toNatClampNeg), S.2.2)) else none
    | _, _ => none)
  | _ => none
def xi_dup (i : Nat) (ls : xi_L) (st : List Value) (S : xi_S) : xi_R := match st with
  | v :: r => if v.category = 1 then some (i + 1, ls, v :: v :: r, S) else none
  | _ => none
def xi_dup2 (i : Nat) (ls : xi_L) (st : List Value) (S : xi_S) : xi_R := match st with
  | v :: u :: r => if v.category = 1 ∧ u.category = 1 then some (i + 1, ls, v :: u :: v :: u :: r, S) else none
  | _ => none
def xi_pop (i : Nat) (ls : xi_L) (st : List Value) (S : xi_S) : xi_R := match st with
  | v :: r => if v.category = 1 then some (i + 1, ls, r, S) else none
  | _ => none
def xi_i2l (i : Nat) (ls : xi_L) (st : List Value) (S : xi_S) : xi_R := match st with
  | .int x :: r => some (i + 1, ls, .long x.toInt64 :: r, S)
  | _ => none
def xi_l2i (i : Nat) (ls : xi_L) (st : List Value) (S : xi_S) : xi_R := match st with
  | .long x :: r => some (i + 1, ls, .int x.toInt32 :: r, S)
  | _ => none
def xi_i2b (i : Nat) (ls : xi_L) (st : List Value) (S : xi_S) : xi_R := match st with
  | .int x :: r => some (i + 1, ls, .int x.toInt8.toInt32 :: r, S)
  | _ => none
def xi_cmp (i : Nat) (ls : xi_L) (st : List Value) (S : xi_S) : xi_R := match st with
  | .long y :: .long x :: r => some (i + 1, ls, .int (lg_cmp x y) :: r, S)
  | _ => none
def xi_inc (k : Nat) (n : Int32) (i : Nat) (ls : xi_L) (st : List Value) (S : xi_S) : xi_R := match ls[k]? with
  | some (some (.int x)) => some (i + 1, ls.set k (some (.int (x + n))), st, S)
  | _ => none
/-- Object's constructor -/
def xi_oin (i : Nat) (ls : xi_L) (st : List Value) (S : xi_S) : xi_R := match st with
  | .ref _ :: r => if (r.map fun v => v.category).sum ≤ 8 then some (i + 1, ls, r, S) else none
  | _ => none
/-- Math.max (1) and Math.min (2) -/
def xi_mm (k : Nat) (i : Nat) (ls : xi_L) (st : List Value) (S : xi_S) : xi_R := match st with
  | .int y :: .int x :: r => if (r.map fun v => v.category).sum ≤ 8 then some (i + 1, ls, .int (if k = 1 then (if x < y then y else x) else (if y < x then y else x)) :: r, S) else none
  | _ => none
/-- one instruction that neither branches nor calls nor returns -/
def xi_stp (scr : xi_X) (e : xi_E) (i : Nat) (ls : xi_L) (st : List Value) (S : xi_S) : xi_R := match e.1 with
  | .iconst _ => some (i + 1, ls, .int e.2.2.1 :: st, S)
  | .bipush _ => some (i + 1, ls, .int e.2.2.1 :: st, S)
  | .sipush _ => some (i + 1, ls, .int e.2.2.1 :: st, S)
  | .ldc_w _ => some (i + 1, ls, .int e.2.2.1 :: st, S)
  | .lconst _ => some (i + 1, ls, .long e.2.2.2 :: st, S)
  | .ldc2_w _ => some (i + 1, ls, .long e.2.2.2 :: st, S)
  | .iload _ => xi_lod (xi_k e) i ls st S
  | .iload_n _ => xi_lod (xi_k e) i ls st S
  | .lload _ => xi_loL (xi_k e) i ls st S
  | .lload_n _ => xi_loL (xi_k e) i ls st S
  | .aload_n _ => xi_loA (xi_k e) i ls st S
  | .istore _ => xi_sto (xi_k e) i ls st S
  | .istore_n _ => xi_sto (xi_k e) i ls st S
  | .lstore _ => xi_stL (xi_k e) i ls st S
  | .lstore_n _ => xi_stL (xi_k e) i ls st S
  | .astore_n _ => xi_stA (xi_k e) i ls st S
  | .iinc _ _ => xi_inc (xi_k e) e.2.2.1 i ls st S
  | .iadd => xi_ii (fun x y => x + y) i ls st S
  | .isub => xi_ii (fun x y => x - y) i ls st S
  | .imul => xi_ii (fun x y => x * y) i ls st S
  | .iand => xi_ii (fun x y => x &&& y) i ls st S
  | .ior => xi_ii (fun x y => x ||| y) i ls st S
  | .ixor => xi_ii (fun x y => x ^^^ y) i ls st S
  | .ishl => xi_ii (fun x y => x <<< (y &&& 31)) i ls st S
  | .ishr => xi_ii (fun x y => x >>> (y &&& 31)) i ls st S
  | .iushr => xi_ii (fun x y => (x.toUInt32 >>> (y.toUInt32 &&& Int32.toUInt32 31)).toInt32) i ls st S
  | .idiv => xi_id (fun x y => x / y) i ls st S
  | .irem => xi_id (fun x y => x - x / y * y) i ls st S
  | .ladd => xi_ll (fun x y => x + y) i ls st S
  | .lsub => xi_ll (fun x y => x - y) i ls st S
  | .lmul => xi_ll (fun x y => x * y) i ls st S
  | .ldiv => xi_ld (fun x y => x / y) i ls st S
  | .lrem => xi_ld (fun x y => x - x / y * y) i ls st S
  | .lcmp => xi_cmp i ls st S
  | .i2l => xi_i2l i ls st S
  | .l2i => xi_l2i i ls st S
  | .i2b => xi_i2b i ls st S
  | .dup => xi_dup i ls st S
  | .dup2 => xi_dup2 i ls st S
  | .pop => xi_pop i ls st S
  | .getfield _ => xi_get e.2.1 i ls st S
  | .putfield _ => xi_put e.2.1 i ls st S
  | .getstatic _ => some (i + 1, ls, .ref (1000000 + xi_k e) :: st, S)
  | .iaload => xi_ald scr 9 i ls st S
  | .baload => xi_ald scr 10 i ls st S
  | .laload => xi_lald i ls st S
  | .aaload => xi_aald i ls st S
  | .iastore => xi_ast 9 i ls st S
  | .bastore => xi_ast 10 i ls st S
  | .lastore => xi_last i ls st S
  | .aastore => xi_aast i ls st S
  | .arraylength => xi_alen scr i ls st S
  | .new _ => xi_new e.2.1 i ls st S
  | .newarray _ => xi_newa (xi_k e) i ls st S
  | .anewarray _ => xi_newa 12 i ls st S
  | .multianewarray _ _ => (match e.2.1 with
    | [o, n] => xi_mna o n i ls st S
    | _ => none)
  | _ => none
/-- the locals at a method's entry -/
def xi_av (vs : List Value) : xi_L := vs.flatMap fun v => if v.category = 2 then [some v, none] else [some v]
def xi_en (vs : List Value) (mL : Nat) : xi_L := xi_av vs ++ List.replicate (mL - (xi_av vs).length) none
/-- the receiver is of the callee's class -/
def xi_rcv (n : List Nat) (st : List Value) (S : xi_S) : Bool := match n with
  | [_, _] => true
  | [_, na, t] => (match st[na - 1]? with
    | some (.ref b) => (match S.1[b]? with
      | some (t2, _) => decide (t2 = t)
      | none => false)
    | _ => false)
  | _ => false
/-- a call of an own method -/
def xi_cal (pg : xi_P) (d : Nat) (e : xi_E) (st : List Value) (S : xi_S) (run : Nat → List xi_E → xi_L → xi_S → Option (Option Value × xi_S)) (go : List Value → xi_S → Option (Option Value × xi_S)) : Option (Option Value × xi_S) := match d with
  | 0 => none
  | d2 + 1 => (match pg (xi_k e) with
    | none => none
    | some (mL, na, c2) => if e.2.1[1]? = some na ∧ na ≤ st.length ∧ xi_rcv e.2.1 st S = true ∧ (xi_av (st.take na).reverse).length ≤ mL ∧ ((st.drop na).map fun v => v.category).sum ≤ 8 then (match run d2 c2 (xi_en (st.take na).reverse mL) S with
      | some (rv, S2) => go (rv.toList ++ st.drop na) S2
      | none => none) else none)
/-- one instruction, then 'go' -/
def xi_one (pg : xi_P) (scr : xi_X) (go : Nat → List xi_E → Nat → xi_L → List Value → xi_S → Option (Option Value × xi_S)) (d : Nat) (code : List xi_E) (i : Nat) (ls : xi_L) (st : List Value) (S : xi_S) : Option (Option Value × xi_S) := match code[i]? with
    | none => none
    | some e => match e.1 with
      | .goto _ => go d code (xi_k e) ls st S
      | .ifCond c _ => (match st with
        | .int x :: r => (match c with
          | .eq => if x = 0 then go d code (xi_k e) ls r S else go d code (i + 1) ls r S
          | .ne => if x = 0 then go d code (i + 1) ls r S else go d code (xi_k e) ls r S
          | .lt => if x < 0 then go d code (xi_k e) ls r S else go d code (i + 1) ls r S
          | .ge => if x < 0 then go d code (i + 1) ls r S else go d code (xi_k e) ls r S
          | .gt => if 0 < x then go d code (xi_k e) ls r S else go d code (i + 1) ls r S
          | .le => if 0 < x then go d code (i + 1) ls r S else go d code (xi_k e) ls r S)
        | _ => none)
      | .if_icmp c _ => (match st with
        | .int y :: .int x :: r => (match c with
          | .eq => if x = y then go d code (xi_k e) ls r S else go d code (i + 1) ls r S
          | .ne => if x = y then go d code (i + 1) ls r S else go d code (xi_k e) ls r S
          | .lt => if x < y then go d code (xi_k e) ls r S else go d code (i + 1) ls r S
          | .ge => if x < y then go d code (i + 1) ls r S else go d code (xi_k e) ls r S
          | .gt => if y < x then go d code (xi_k e) ls r S else go d code (i + 1) ls r S
          | .le => if y < x then go d code (i + 1) ls r S else go d code (xi_k e) ls r S)
        | _ => none)
      | .tableswitch _ lo hi _ => (match st with
        | .int x :: r => if x.toInt < lo ∨ hi < x.toInt then go d code (xi_k e) ls r S else (match e.2.1[(x.toInt - lo).toNat + 1]? with
          | some t => go d code t ls r S
          | none => none)
        | _ => none)
      | .ireturn => (match st with
        | [.int v] => if xi_k e = 1 ∧ ¬ v &&& 1 = v then none else some (some (.int v), S)
        | _ => none)
      | .lreturn => (match st with
        | [.long v] => some (some (.long v), S)
        | _ => none)
      | .return_ => (match st with
        | [] => some (none, S)
        | _ => none)
      | .invokevirtual _ => xi_cal pg d e st S (fun d2 c2 l2 S2 => go d2 c2 0 l2 [] S2) (fun st2 S2 => go d code (i + 1) ls st2 S2)
      | .invokestatic _ => (match e.2.1 with
        | [] => (match xi_cpy i ls st S with
          | some (i2, ls2, st2, S2) => go d code i2 ls2 st2 S2
          | none => none)
        | [k] => (match xi_mm k i ls st S with
          | some (i2, ls2, st2, S2) => go d code i2 ls2 st2 S2
          | none => none)
        | _ => xi_cal pg d e st S (fun d2 c2 l2 S2 => go d2 c2 0 l2 [] S2) (fun st2 S2 => go d code (i + 1) ls st2 S2))
      | .invokespecial _ => (match e.2.1 with
        | [] => (match xi_oin i ls st S with
          | some (i2, ls2, st2, S2) => go d code i2 ls2 st2 S2
          | none => none)
        | _ => xi_cal pg d e st S (fun d2 c2 l2 S2 => go d2 c2 0 l2 [] S2) (fun st2 S2 => go d code (i + 1) ls st2 S2))
      | _ => (match xi_stp scr e i ls st S with
        | some (i2, ls2, st2, S2) => go d code i2 ls2 st2 S2
        | none => none)
/-- the run: fuel n, depth d -/
def xi_ex (pg : xi_P) (scr : xi_X) : Nat → Nat → List xi_E → Nat → xi_L → List Value → xi_S → Option (Option Value × xi_S)
  | 0 => fun _ _ _ _ _ _ => none
  | n + 1 => xi_one pg scr (xi_ex pg scr n)
theorem xi_ex_succ (pg : xi_P) (scr : xi_X) (n d : Nat) (code : List xi_E) (i : Nat) (ls : xi_L) (st : List Value) (S : xi_S) : xi_ex pg scr (n + 1) d code i ls st S = xi_one pg scr (xi_ex pg scr n) d code i ls st S := rfl
