theorem law_pure (L : Nat) (xs : Nat → Int32) (hL : L ≤ 2048) : ∃ (n : Nat) (lo : mL) (h : mH), mi_to t_L_law mi_wr true L xs (mi_call mi_ms true L xs 12) n (0, mi_ent 7 [.float 0], [], []) (23, lo, [], h) ∧ h.length ≤ 1000 ∧ mi_z h ≤ 1000000 ∧ mi_lw 12 L xs 512 (23, lo, [], h) := by
  sorry
theorem whole_start {p : Program} {e : Env} {s : State} {m : MethodId} {below : List Frame} {meth : Method} {c : Code} (l : Launch) (htr : l.stackTraces = false) {b L : Nat} {xs : Nat → Int32} (hL : L ≤ 2048) (C0 : lw_At p s m meth c b L xs) : W p l e room_1 s m #[Value.ref b] below meth c s.heap [] 0 0 (lw_Z below #[Value.ref b] s) (entryFrame m ([Value.ref b] : List Value).toArray 7) := by
  obtain ⟨n, lo, h, h0, hl, hz, h1⟩ := law_pure L xs hL
  exact mi_whole ne_all l htr C0 h0 hl hz h1
