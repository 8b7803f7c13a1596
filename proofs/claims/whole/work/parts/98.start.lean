/-- THE PURE RUN of the law (what is left to prove) -/
theorem pure_run (L : Nat) (xs : Nat → Int32) (hL : L ≤ 3072) : ∃ (n : Nat) (S3 : xi_S), xi_ex xi_pg (L, xs) n 30 xc_257 0 (xi_en [.ref 1000002] 4) [] xi_S0 = some (some (.int 1), S3) ∧ S3.1.length ≤ 600000 ∧ xi_sz S3 ≤ 7302250 := by
  sorry
theorem whole_start {p : Program} {e : Env} {s : State} {m : MethodId} {below : List Frame} {meth : Method} {c : Code} (l : Launch) (hflags : l.flags = flags0) {b L : Nat} {xs : Nat → Int32} (hL : L ≤ 3072) (C0 : lw_At p s m meth c b L xs) : W p l e room_1 s m #[Value.ref b] below meth c s.heap [] 0 0 (lw_Z below #[Value.ref b] s) (entryFrame m ([Value.ref b] : List Value).toArray 4) :=
  xi_start l hL C0 (pure_run L xs hL)
