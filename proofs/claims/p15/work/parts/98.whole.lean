/-- the law's program comes to its end, with true -/
theorem law_open (L : Nat) (xs : Nat → Int32) (hL : L ≤ 2048) : ∃ r, f_L_law_23 L xs 1000 0 st0 = some r :=
  law_run (part_LF L) xs (by omega) 1000 0 0 st0 part_st0 (by decide) (by omega) (by omega)
theorem whole_start {p : Program} {e : Env} {s : State} {m : MethodId} {below : List Frame} {meth : Method} {c : Code} (l : Launch) (htr : l.stackTraces = false) {b L : Nat} {xs : Nat → Int32} (hL : L ≤ 2048) (C0 : lw_At p s m meth c b L xs) : W p l e room_1 s m #[Value.ref b] below meth c s.heap [] 0 0 (lw_Z below #[Value.ref b] s) (entryFrame m ([Value.ref b] : List Value).toArray 7) := by
  obtain ⟨r, hr⟩ := law_open L xs hL
  obtain ⟨n, lo, h, h0, hl, hz, h1⟩ := law_of hr
  exact mi_whole ne_all l htr C0 h0 hl hz h1
