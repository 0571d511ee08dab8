/-! THE LAW: what is known at its start; its run, by runs between the calls of its own six methods. -/
section LW0
theorem mi_startK {p : Program} {s : State} {m : MethodId} {meth : Method} {c : Code} {bs L : Nat} {xs : Nat → Int32} (C0 : lw_At p s m meth c bs L xs) : ∃ (cI cL : ClassId) (D : va_G), mi_K s.heap.size bs cI cL D L xs s := by
  obtain ⟨hx, hb, hr, hml, hown, hts, hX, hbl, hlk, hgv⟩ := C0
  have hg : ∀ w ∈ mi_good, w.before #[Value.ref bs] s = true := fun w hw => hts w (mi_good_tbl hw)
  have hfl := flat_of_before _ hgv
  have kn : ∀ {ci : Nat} {C : String} {T : u_T} {N : Nat} {ty : Nat → FieldType}, mi_CF ci C T N ty → Cond.instantiable C N ∈ mi_good → ∃ f : ClassId × (Nat → Nat), ∀ q : vw_C, mi_cl[ci]? = some q → u_Kn s q.1 q.2.1 q.2.2 f.1 f.2 := by
    intro ci C T N ty hC hi
    obtain ⟨cC, iS, h⟩ := u_known (n := N) hg hC.2.1 (hg _ hi)
    exact ⟨(cC, iS), fun q hq => by cases hC.1.symm.trans hq; exact h⟩
  have H : ∀ k : Nat, ∃ f : ClassId × (Nat → Nat), ∀ q : vw_C, mi_cl[k]? = some q → u_Kn s q.1 q.2.1 q.2.2 f.1 f.2 := by
    intro k
    match k with
    | 0 => exact kn cf_X0 okI_X0
    | 1 => exact kn cf_X1 okI_X1
    | 2 => exact kn cf_X2 okI_X2
    | 3 => exact kn cf_X3 okI_X3
    | 4 => exact kn cf_X4 okI_X4
    | 5 => exact kn cf_X5 okI_X5
    | 6 => exact kn cf_X6 okI_X6
    | 7 => exact kn cf_X7 okI_X7
    | k + 8 => exact ⟨(0, fun _ => 0), fun q hq => by simp [mi_cl] at hq⟩
  obtain ⟨f, hf⟩ := Classical.axiomOfChoice H
  obtain ⟨cI, kI, pI, hI1, hI2, hI3⟩ := Cond.arrayClass_spec (hg _ okA_int)
  obtain ⟨cL, kL, pL, hL1, hL2, hL3⟩ := Cond.arrayClass_spec (hg _ okA_long)
  refine ⟨cI, cL, (fun k => (f k).1, fun k => (f k).2), ⟨fun k q hq => hf k q hq, fun k q hq => ?_⟩, fun w hw => ?_, hX, hbl, hbl, ?_, ?_, fun q hq => ?_, fun q hq => ?_⟩
  · match k, hq with
    | 0, hq => cases hq; exact ⟨fun n z => ⟨fun k h => (by cases h), kI, hI2, pI, hI3⟩, hI1⟩
    | 1, hq => cases hq; exact ⟨fun n z => ⟨fun k h => (by cases h), kL, hL2, pL, hL3⟩, hL1⟩
    | k + 2, hq => simp at hq
  · have hn : mi_isNest w = true := (List.mem_filter.mp hw).2
    have h1 := hts w (List.mem_filter.mp hw).1
    cases w <;> first | (cases hn; done) | exact va_Nw.of rfl h1
  · exact vx_Zqof (hts _ okS_1) (hts _ okS_0) (hfl _ (by decide +kernel)) (fun a ha hq => absurd ha (Nat.not_lt.mpr hq))
  · exact vx_Zqof (hts _ okS_2) (hts _ okS_0) (hfl _ (by decide +kernel)) (fun a ha hq => absurd ha (Nat.not_lt.mpr hq))
  · have h1 : (Cond.stringRef q.1 q.2.1 q.2.2).before #[Value.ref bs] s = true := hts _ (okS_str q hq)
    have h2 : (Cond.exactly (.string q.1 q.2.1) "java/lang/String").before #[Value.ref bs] s = true := hfl _ (okS_ex q hq)
    obtain ⟨a, c9, cell, k9, he, -⟩ := Cond.exactly_spec h2
    exact ⟨a, vk_R.of h1 he⟩
  · exact va_Nc.of (hfl _ (okS_nc q hq))
/-- the law comes to its end and answers 1, with at most k calls of its own six methods -/
def mi_lw (d : Nat) (LS : Nat) (xs : Nat → Int32) : Nat → mS → Prop
  | 0, x => ∃ n lo h, mi_to t_L_law mi_wr false LS xs (mi_call mi_ms false LS xs d) n x (632, lo, [.int 1], h) ∧ h.length ≤ 1000 ∧ mi_z h ≤ 1000000
  | k + 1, x => (∃ n lo h, mi_to t_L_law mi_wr false LS xs (mi_call mi_ms false LS xs d) n x (632, lo, [.int 1], h) ∧ h.length ≤ 1000 ∧ mi_z h ≤ 1000000) ∨
    ∃ n pc lo As rest h v h1 y M np, mi_to t_L_law mi_wr false LS xs (mi_call mi_ms false LS xs d) n x (pc, lo, As.reverse ++ rest, h) ∧ h.length ≤ 1000 ∧ mi_z h ≤ 1000000 ∧ mi_ms[y]? = some M ∧ mi_wok M ∧ mi_OkV RL cL_law pc M np ∧ As.length = np ∧ (rest.map (fun v => v.category)).sum ≤ 8 ∧
      mi_call mi_ms false LS xs d y As h (.inl v, h1) ∧ h1.length = h.length ∧ mi_z h1 = mi_z h ∧ mi_lw d LS xs k (pc + 3, lo, v.toList ++ rest, h1)
theorem mi_lawW (hn : mi_npe) {p : Program} {l : Launch} {e : Env} {s : State} {m : MethodId} {below : List Frame} {meth : Method} {c : Code} {bs LS : Nat} {xs : Nat → Int32} {cI cL : ClassId} {D : va_G} {d : Nat} (hd : d + 1 ≤ 13)
    (X : mi_X s.heap.size bs cI cL D LS xs RL cL_law 7 false p l room_1 s m #[Value.ref bs] meth c) (hr : meth.sig.returnType = ret) :
    ∀ (k : Nat) (x : mS) (kc ks : Nat), mi_lw (d + 1) LS xs k x → kc + k ≤ 500000 → ks + 8 * k ≤ 6000000 → mi_W s.heap.size bs cI cL D 7 p l e room_1 s m #[Value.ref bs] below meth c (lw_Z below #[Value.ref bs] s) kc ks 0 0 x := by
  have hfr : (d + 1) + 7 ≤ room_1.frames := by show _ ≤ 21; omega
  have hlo : 40 * (d + 1 + 1) + 200 ≤ room_1.locals := by show _ ≤ 10874; omega
  have fin : ∀ (x : mS) (kc ks : Nat), (∃ n lo h, mi_to t_L_law mi_wr false LS xs (mi_call mi_ms false LS xs (d + 1)) n x (632, lo, [.int 1], h) ∧ h.length ≤ 1000 ∧ mi_z h ≤ 1000000) → kc ≤ 500000 → ks ≤ 6000000 → mi_W s.heap.size bs cI cL D 7 p l e room_1 s m #[Value.ref bs] below meth c (lw_Z below #[Value.ref bs] s) kc ks 0 0 x := by
    intro x kc ks ⟨n, lo, h, hto, hl, hz⟩ hkc hks
    have hs := mi_simTo (mi_meth (d + 1)) ok_L_law n x hto
    refine hs.2 s.heap.size bs cI cL D p l e room_1 s m #[Value.ref bs] below meth c (lw_Z below #[Value.ref bs] s) kc ks 0 0 X (fun q => by cases q) hfr hlo (Nat.zero_le _) (Nat.zero_le _) (by show _ ≤ 603072; dsimp only; omega) (by show _ ≤ 7262314; dsimp only; omega) ?_
    intro H locs ls hR hh hS
    refine va_forget (fun q hq => hS.2.2 q hq) ?_
    refine W.widen (k := 603072) (n := 7262314) (by dsimp only; omega) (by dsimp only; omega) ?_
    exact lw_ret X.1 X.2.1 hr X.2.2.2.2.2.2.2.2.1 (show decode code 632 = .ok (.ireturn, 1) by decide +kernel)
  intro k
  induction k with
  | zero => intro x kc ks h hkc hks; exact fin x kc ks h (by omega) (by omega)
  | succ k ih =>
    intro x kc ks h hkc hks
    rcases h with h | ⟨n, pc, lo, As, rest, h0, v, h1, y, M, np, hto, hl, hz, hMs, hMw, hV, hA, hsum, hcall, hl1, hz1, hrest⟩
    · exact fin x kc ks h (by omega) (by omega)
    · have hs := mi_simTo (mi_meth (d + 1)) ok_L_law n x hto
      refine hs.2 s.heap.size bs cI cL D p l e room_1 s m #[Value.ref bs] below meth c (lw_Z below #[Value.ref bs] s) kc ks 0 0 X (fun q => by cases q) hfr hlo (Nat.zero_le _) (Nat.zero_le _) (by show _ ≤ 603072; dsimp only; omega) (by show _ ≤ 7262314; dsimp only; omega) ?_
      refine mi_callL X hMw.1 hV (mi_wrap (mi_meth d) (mi_methX hn d) mi_okN hMw.1 hMw.2.1 hMw.2.2.1 hMw.2.2.2 hMs hcall (by omega) (by omega) X.2.2.2.2.2.2.2.2.2.2.2) hA hsum hfr hlo (Nat.zero_le _) (Nat.zero_le _) hl1 hz1 (by show _ ≤ 603072; omega) (by show _ ≤ 7262314; omega) ?_
      exact ih _ (kc + 1) (ks + 8) hrest (by omega) (by omega)
/-- THE LAW FROM ITS ENTRY, out of a run of the small machine -/
theorem mi_whole (hn : mi_npe) {p : Program} {e : Env} {s : State} {m : MethodId} {below : List Frame} {meth : Method} {c : Code} (l : Launch) (htr : l.stackTraces = false) {bs L : Nat} {xs : Nat → Int32} (C0 : lw_At p s m meth c bs L xs)
    {n : Nat} {lo : mL} {h : mH} (h0 : mi_to t_L_law mi_wr true L xs (mi_call mi_ms true L xs 12) n (0, mi_ent 7 [.float 0], [], []) (23, lo, [], h)) (hl : h.length ≤ 1000) (hz : mi_z h ≤ 1000000) (h1 : mi_lw 12 L xs 1000 (23, lo, [], h)) :
    W p l e room_1 s m #[Value.ref bs] below meth c s.heap [] 0 0 (lw_Z below #[Value.ref bs] s) (entryFrame m ([Value.ref bs] : List Value).toArray 7) := by
  obtain ⟨cI, cL, D, hK⟩ := mi_startK C0
  obtain ⟨hx, hb, hr, hml, hown, hts, hX, hbl, hlk, hgv⟩ := C0
  have X : mi_X s.heap.size bs cI cL D L xs RL cL_law 7 false p l room_1 s m #[Value.ref bs] meth c := ⟨hx, hb, hml, hown, fun w hw => hts w (mi_good_tbl hw), hK, Nat.le_refl _, (fun q => by cases q), hlk, by show 1 ≤ 21; omega, by show 40 ≤ 10874; omega, htr⟩
  have hW := mi_lawW hn (d := 11) (by omega) (e := e) (below := below) X hr 1000 _ 0 0 h1 (by omega) (by omega)
  have hs := mi_simTo (mi_meth 12) ok_L_law n _ h0
  have hW0 := hs.2 s.heap.size bs cI cL D p l e room_1 s m #[Value.ref bs] below meth c (lw_Z below #[Value.ref bs] s) 0 0 0 0 X (fun _ => ⟨by omega, rfl⟩) (by show _ ≤ 21; omega) (by show _ ≤ 10874; omega) (Nat.zero_le _) (Nat.zero_le _) (by show _ ≤ 603072; dsimp only; omega) (by show _ ≤ 7262314; dsimp only; omega) hW
  rw [lg_entry_eq]
  have h9 := hW0 s.heap [] ((lg_sl [Value.ref bs] ++ List.replicate (7 - (lg_sl [Value.ref bs]).length) Slot.unset).toArray) (fun k q hq => by simp [mi_w] at hq) (mi_ent_has (b := s.heap.size) (bs := bs) (As := [.float 0]) (by decide)) va_S.rf
  dsimp only at h9
  simp only [List.length_nil, mi_z, Nat.add_zero, Nat.sub_self] at h9
  exact h9
end LW0
