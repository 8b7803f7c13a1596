/-! what a program checks of the tables: that they are the code that the Statement holds -/
def xi_d (cc : ByteArray) (pc : Nat) (e : xi_E) (len : Nat) : Bool := decide (decode cc pc = .ok (e.1, len))
def xi_tg (pcs : Nat → Nat) (i : Nat) (off : Int) (t : Nat) : Bool := decide ((pcs i : Int) + off = (pcs t : Int))
def xi_dn (cc : ByteArray) (pcs : Nat → Nat) (i : Nat) (e : xi_E) (len : Nat) : Bool := xi_d cc (pcs i) e len && decide (pcs (i + 1) = pcs i + len)
def xi_fck (own : Nat) (ini : Bool) (idx w : Nat) (put : Bool) (n : List Nat) : Bool := match n with
  | [ci, j, f] => decide (xi_FL[w]? = some (own, idx, ci, j)) && decide (ci < 9) && decide (j < xi_nf ci) && decide (f = xi_kd ci j) && (!put || (!(xi_T ci j).2.2.2) || (ini && decide (ci = own)))
  | _ => false
def xi_at (t : Nat) : FieldType := match t with
  | 9 => .int
  | 10 => .byte
  | 11 => .long
  | 12 => .object "GuineaHours$Day"
  | 13 => .array .byte
  | _ => .array .int
/-- of a callee: its kind and the link -/
def xi_cck (own kd idx w : Nat) (n : List Nat) : Bool := match xi_tab[n.headD 0]? with
  | some q => decide (n.headD 0 < 257 ∧ ¬ n.headD 0 = 28 ∧ ¬ n.headD 0 = 108) && decide (q.1.2.2.2.2.2.1 = kd) && (decide (xi_ML[w]? = some (own, idx, n.headD 0)) || (decide (kd = 2) && decide (xi_MN[w - 1000]? = some (own, idx, n.headD 0)))) && (if kd = 0 then decide (n.length = 2) else decide (n.length = 3) && decide (n[2]? = some q.1.1) && decide (q.1.1 < 9))
  | none => false
def xi_ck (own : Nat) (ini : Bool) (cc : ByteArray) (ret : Option FieldType) (pcs ws : Nat → Nat) (i : Nat) (e : xi_E) : Bool := match e.1 with
  | .iconst n => xi_dn cc pcs i e 1 && decide (Int32.ofInt n = e.2.2.1)
  | .bipush n => xi_dn cc pcs i e 2 && decide ((Int8.ofInt n).toInt32 = e.2.2.1)
  | .sipush n => xi_dn cc pcs i e 3 && decide ((Int16.ofInt n).toInt32 = e.2.2.1)
  | .ldc_w k => xi_dn cc pcs i e 3 && decide (xi_CK[ws i]? = some (own, k, e.2.2.1))
  | .lconst n => xi_dn cc pcs i e 1 && decide (Int64.ofNat n = e.2.2.2)
  | .ldc2_w k => xi_dn cc pcs i e 3 && decide (xi_CL[ws i]? = some (own, k, e.2.2.2))
  | .iload k => xi_dn cc pcs i e 2 && decide (k = xi_k e)
  | .iload_n k => xi_dn cc pcs i e 1 && decide (k.val = xi_k e)
  | .lload k => xi_dn cc pcs i e 2 && decide (k = xi_k e)
  | .lload_n k => xi_dn cc pcs i e 1 && decide (k.val = xi_k e)
  | .aload_n k => xi_dn cc pcs i e 1 && decide (k.val = xi_k e)
  | .istore k => xi_dn cc pcs i e 2 && decide (k = xi_k e)
  | .istore_n k => xi_dn cc pcs i e 1 && decide (k.val = xi_k e)
  | .lstore k => xi_dn cc pcs i e 2 && decide (k = xi_k e)
  | .lstore_n k => xi_dn cc pcs i e 1 && decide (k.val = xi_k e)
  | .astore_n k => xi_dn cc pcs i e 1 && decide (k.val = xi_k e)
  | .iinc k n => xi_dn cc pcs i e 3 && decide (k = xi_k e) && decide (Int32.ofInt n = e.2.2.1)
  | .getfield idx => xi_dn cc pcs i e 3 && xi_fck own ini idx (ws i) false e.2.1
  | .putfield idx => xi_dn cc pcs i e 3 && xi_fck own ini idx (ws i) true e.2.1
  | .getstatic idx => xi_dn cc pcs i e 3 && decide (xi_FN[ws i]? = some (own, idx, xi_k e)) && decide (xi_k e < 2)
  | .new idx => xi_dn cc pcs i e 3 && decide (xi_KL[ws i]? = some (own, idx, xi_k e)) && decide (xi_k e < 9)
  | .newarray t => xi_dn cc pcs i e 2 && decide (9 ≤ xi_k e ∧ xi_k e ≤ 11 ∧ newarray.typeOf t = xi_at (xi_k e))
  | .anewarray idx => xi_dn cc pcs i e 3 && decide (xi_KL[ws i]? = some (own, idx, 1))
  | .multianewarray idx dim => xi_dn cc pcs i e 4 && decide (dim = 2) && ((decide (e.2.1 = [14, 9]) && decide (xi_KL[ws i]? = some (own, idx, 14))) || (decide (e.2.1 = [13, 10]) && decide (xi_KL[ws i]? = some (own, idx, 13))))
  | .goto off => xi_d cc (pcs i) e 3 && xi_tg pcs i off (xi_k e)
  | .ifCond _ off => xi_dn cc pcs i e 3 && xi_tg pcs i off (xi_k e)
  | .if_icmp _ off => xi_dn cc pcs i e 3 && xi_tg pcs i off (xi_k e)
  | .tableswitch dflt _ _ offs => xi_d cc (pcs i) e (pcs (i + 1) - pcs i) && xi_tg pcs i dflt (xi_k e) && decide (e.2.1.length = offs.size + 1) && (List.range offs.size).all (fun j => xi_tg pcs i (offs.getD j 0) (e.2.1.getD (j + 1) 0))
  | .ireturn => xi_d cc (pcs i) e 1 && ((decide (ret = some .int) && decide (xi_k e = 0)) || (decide (ret = some .boolean) && decide (xi_k e = 1)))
  | .lreturn => xi_d cc (pcs i) e 1 && decide (ret = some .long)
  | .return_ => xi_d cc (pcs i) e 1 && decide (ret = none)
  | .invokevirtual idx => xi_dn cc pcs i e 3 && xi_cck own 1 idx (ws i) e.2.1
  | .invokestatic idx => xi_dn cc pcs i e 3 && (match e.2.1 with
    | [] => decide (xi_ML[ws i]? = some (own, idx, 259))
    | [k] => (decide (k = 1) && decide (xi_ML[ws i]? = some (own, idx, 108))) || (decide (k = 2) && decide (xi_ML[ws i]? = some (own, idx, 28)))
    | n => xi_cck own 0 idx (ws i) n)
  | .invokespecial idx => xi_dn cc pcs i e 3 && (match e.2.1 with
    | [] => decide (xi_ML[ws i]? = some (own, idx, 258))
    | n => xi_cck own 2 idx (ws i) n)
  | _ => xi_dn cc pcs i e 1
def xi_pcs (k : List (Nat × Nat)) (i : Nat) : Nat := (k.getD i (0, 0)).1
def xi_wsf (k : List (Nat × Nat)) (i : Nat) : Nat := (k.getD i (0, 0)).2
def xi_cka (q : xi_M × Nat × Nat × List xi_E) : Bool := (List.range q.2.2.2.length).all (fun i => match q.2.2.2[i]? with
  | some e => xi_ck q.1.1 (decide (q.1.2.2.2.2.2.1 = 2)) q.1.2.2.2.1 q.1.2.2.2.2.1 (xi_pcs q.1.2.2.2.2.2.2) (xi_wsf q.1.2.2.2.2.2.2) i e
  | none => false)
/-- of a method's head -/
def xi_ckh (μ : Nat) (q : xi_M × Nat × Nat × List xi_E) : Bool := plainName (xi_yM q.1).cls && decide ((xi_yM q.1).cls ≠ "java/lang/invoke/MethodHandle") && decide ((xi_yM q.1).cls ≠ "java/lang/invoke/VarHandle") && decide (q.1.1 ∈ xi_inL) &&
  decide (q.2.1 ≤ 40) && decide (xi_pcs q.1.2.2.2.2.2.2 0 = 0) && decide ((parseMethodDescriptor (xi_yM q.1).desc).map (fun d => d.parameters.length) = some (if q.1.2.2.2.2.2.1 = 0 then q.2.2.1 else q.2.2.1 - 1)) &&
  ((decide (q.1.2.2.2.2.2.1 = 0) && decide (μ ∈ xi_sm)) || (decide (q.1.2.2.2.2.2.1 = 1) && decide (0 < q.2.2.1) && decide (μ ∈ xi_im) && decide (μ ∈ xi_s1 ++ xi_s2) && decide (q.1.1 < 9)) || (decide (q.1.2.2.2.2.2.1 = 2) && decide (0 < q.2.2.1) && decide (q.1.2.2.2.2.1 = none) && decide (q.1.2.1 = "<init>") && decide (μ ∈ xi_im)))
