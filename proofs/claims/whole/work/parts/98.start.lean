/-- THE PURE RUN of the law (what is left to prove) -/
theorem pure_run (L : Nat) (xs : Nat → Int32) (hL : L ≤ 3072) : ∃ (n : Nat) (S3 : xi_S), xi_ex xi_pg (L, xs) n 30 xc_257 0 (xi_en [.ref 1000002] 4) [] xi_S0 = some (some (.int 1), S3) ∧ S3.1.length ≤ 600000 ∧ xi_sz S3 ≤ 7302250 := by
  have h0 := law_loop (scr := (L, xs)) (d := 9) hL (L + 6) 0 (wS, iz ct_I, jz ct_J, wP 15 20 (fun _ => 15)) (by show L + 6 ≤ 0 + (L + 6); omega) (Nat.zero_le L) (PST_i inv_0)
  have e72 : wS.take 72 = wS := rfl
  have h1 : xr (L, xs) 30 xc_257 0 [some (.ref 1000002), none, none, none] [] (wS.take 0, iz [], jz [], pz []) (fun r S2 => r = some (.int 1) ∧ PST S2) := by
    refine Eq.mpr (xz_begin (d := 28)) ?_
    show xr (L, xs) (28 + 2) xc_257 10 [some (.ref 1000002), some (.ref 0), some (.ref 58), some (.int 0)] [] (wS.take 72, iz ct_I, jz ct_J, pz ct_P) _
    rw [e72, pz_wP]
    exact h0
  obtain ⟨n, r, S3, h, hr, hP⟩ := h1
  obtain ⟨I, J, t, dr, G, T, v, bk, pre, ss, rfl, H⟩ := hP
  subst hr
  exact ⟨n, _, h, by show wS.length ≤ 600000; decide, by show (wS.map (fun q => q.2)).sum ≤ 7302250; decide⟩
theorem whole_start {p : Program} {e : Env} {s : State} {m : MethodId} {below : List Frame} {meth : Method} {c : Code} (l : Launch) (hflags : l.flags = flags0) {b L : Nat} {xs : Nat → Int32} (hL : L ≤ 3072) (C0 : lw_At p s m meth c b L xs) : W p l e room_1 s m #[Value.ref b] below meth c s.heap [] 0 0 (lw_Z below #[Value.ref b] s) (entryFrame m ([Value.ref b] : List Value).toArray 4) :=
  xi_start l hL C0 (pure_run L xs hL)
