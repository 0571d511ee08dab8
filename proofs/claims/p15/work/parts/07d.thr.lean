/-! METHODS THAT CATCH (the law's own six), and runs of the law between them. -/
section CE4
def mi_wsW (M : mD) : List Cond := .codeWith M.1 M.2.1 M.2.2.1 M.2.2.2.1 M.2.2.2.2.1 :: mi_good
def mi_OkMW (M : mD) : Prop := plainName M.1.cls = true ∧ Cond.codeWith M.1 M.2.1 M.2.2.1 M.2.2.2.1 M.2.2.2.2.1 ∈ mi_good ∧ Cond.initialized M.1.cls ∈ mi_good ∧ M.2.2.1 ≤ 20 ∧ M.1.cls ≠ "java/lang/invoke/MethodHandle" ∧ M.1.cls ≠ "java/lang/invoke/VarHandle"
/-- what the rows of a method's table do with what a call throws: each keeps the exception in a local and answers a number -/
def mi_OkH (own : String) (cc : ByteArray) (nL : Nat) (hh : List (Nat × Nat × Nat × Nat)) (pc : Nat) (hs : List (String × Int32)) : Prop := ∀ (E : String) (k : Int32), hs.lookup E = some k →
  ∃ (pre : List ExceptionTableEntry) (x : ExceptionTableEntry) (suf : List ExceptionTableEntry) (i ln : Nat) (n : Int), tableOf hh = pre ++ x :: suf ∧ covers x pc = true ∧ x.catchType ≠ 0 ∧ Cond.classLink own x.catchType E ∈ mi_good ∧ Cond.castable E E ∈ mi_nw ∧
    (∀ z ∈ pre, covers z pc = true ∧ z.catchType ≠ 0 ∧ ∃ nm : String, Cond.classLink own z.catchType nm ∈ mi_good ∧ (E, nm) ∈ mi_ncs) ∧ i < nL ∧ ((ln = 2 ∧ decode cc x.handlerPc = .ok (.astore i, 2)) ∨ (ln = 1 ∧ ∃ f : Fin 4, (f : Nat) = i ∧ decode cc x.handlerPc = .ok (.astore_n f, 1))) ∧ decode cc (x.handlerPc + ln) = .ok (.iconst n, 1) ∧ Int32.ofInt n = k ∧ decode cc (x.handlerPc + ln + 1) = .ok (.ireturn, 1)
theorem mi_goodInW {M : mD} (hM : mi_OkMW M) : GoodIn mi_good (mi_wsW M) := by
  intro w hw
  rcases List.mem_cons.mp hw with rfl | hw
  · exact ⟨hM.2.1, good_of_word (mi_good_ok hM.2.1)⟩
  · exact ⟨hw, good_of_word (mi_good_ok hw)⟩
theorem mi_wrap {Ms : List mD} {d : Nat} (hS : mi_Sd Ms d) (hX : mi_Xd Ms d) (hN : mi_OkN Ms) {M : mD} (hMW : mi_OkMW M) (hok : ∀ q ∈ M.2.2.2.2.2, mi_OkE Ms M.1.cls M.2.1 M.2.2.1 false M.2.2.2.1 q) (hri : M.2.2.2.1 = some .int)
    (hH : ∀ pc ca, (pc, .inr (.inr (.inl ca))) ∈ M.2.2.2.2.2 → mi_OkH M.1.cls M.2.1 M.2.2.1 M.2.2.2.2.1 pc ca.2.2.2) {LS : Nat} {xs : Nat → Int32} {y : Nat} {As : List Value} {h h1 : mH} {v : Option Value} (hMs : Ms[y]? = some M)
    (hc : mi_call Ms false LS xs (d + 1) y As h (.inl v, h1)) (hl : h1.length ≤ h.length) (hz : mi_z h1 ≤ mi_z h) {b bs : Nat} {cI cL : ClassId} {D : va_G} {l : Launch} (htr : l.stackTraces = false) :
    Met l M.1 (mi_wsW M) (mi_rmX (d + 1)) (mi_Pc false b bs cI cL D LS xs As h) (mi_Qc b bs cI cL D v h1) 1 8 (fun q => b ≤ q) := by
  unfold mi_call at hc
  rw [hMs] at hc
  obtain ⟨hlen, -, n, hrun⟩ := hc
  have hsim := mi_simR hS hok n _ hrun
  have m1 := hsim.1.1
  have m2 := hsim.1.2
  dsimp only at m1 m2
  refine va_MetW (cc := M.2.1) (maxL := M.2.2.1) (ret := M.2.2.2.1) (hh := M.2.2.2.2.1) hMW.1 rfl ?_
  intro p e s m args below meth c s₁ B hml hv
  obtain ⟨rfl, hR, hK, hbs, hex⟩ := hv
  have hts := atoms_spec (ws := mi_wsW M) B.pre
  have htab : c.exceptionTable.toList = tableOf M.2.2.2.2.1 := vx_table (x := M.1) B (hts _ List.mem_cons_self)
  have hown : s.vm.findClass M.1.cls = some m.cls := findClass_of_methodNamed B.named
  have hx : mi_X b bs cI cL D LS xs M.1.cls M.2.1 M.2.2.1 false p l (mi_rmX (d + 1)) s m (As.map (mi_v b bs)).toArray meth c := by
    refine ⟨B.exec, B.bytes, hml, hown, fun w hw => hts w (List.mem_cons_of_mem _ hw), hK, hbs, (fun hi => by cases hi), B.notSynchronized, ?_, ?_, htr⟩
    · show 1 ≤ d + 1 + 6; omega
    · show 40 ≤ 40 * (d + 1) + 200; omega
  have hgo := hsim.2 b bs cI cL D p l e (mi_rmX (d + 1)) s m (As.map (mi_v b bs)).toArray below meth c (MQ below (mi_Qc b bs cI cL D v h1) (As.map (mi_v b bs)).toArray s 1 8 (fun q => b ≤ q)) 0 0 h.length (mi_z h) hx (fun q => by cases q) (by show d + 7 ≤ d + 1 + 6; omega) (by show 40 * (d + 1) + 200 ≤ 40 * (d + 1) + 200; omega) (Nat.le_refl _) (Nat.le_refl _) (by show _ ≤ 1; omega) (by show _ ≤ 8; omega)
    (fun pc k lo st hm hr => mi_retW (hok _ hm) hr (by omega) (by omega) B.exec B.bytes B.returns B.notSynchronized)
    (fun pc ca lo As1 rest E k hm hA hsum hrc hcall hth hlk hvk => ?_)
  · rw [lg_entry_eq]
    have h9 := hgo s.heap [] _ hR (mi_ent_has hlen) va_S.rf
    dsimp only at h9
    simp only [Nat.add_zero, Nat.sub_self] at h9
    exact h9
  · intro H locs ls hR1 hh1 hS1
    have hq : mi_OkC Ms M.1.cls M.2.1 pc ca := hok _ hm
    obtain ⟨M2, hM2, hM2ok, hrest⟩ := id hq
    have hnn := hN ca.1 M2 hth hM2
    have hv2 := hX LS xs ca.1 M2 As1 h1 E hM2 hM2ok hcall b bs cI cL D l htr
    dsimp only
    refine mi_callT hx hq hM2 hnn.1 (fun index host _ => hnn.2 M.1.cls index host) hv2 hA hsum hrc (by show d + 7 ≤ d + 1 + 6; omega) (by show _ ≤ 40 * (d + 1) + 200; omega) (by show _ ≤ 1; omega) (by show _ ≤ 8; omega) hR1 hh1 hS1 (fun q ce H1 locs1 hR2 hS2 hce hcv hcl => ?_)
    obtain ⟨pre, x, suf, i, ln, n9, hsp, hcov, hx0, hlkE, hcast, hpre, hi, da, di, hn9, dr⟩ := hH pc ca hm E k hlk
    have hmw : (Cond.castable E E).before (As.map (mi_v b bs)).toArray s = true := va_Nw.use rfl (hK.2.1 _ hcast)
    refine ce_catch hown pre x suf (htab.trans hsp) (fun z hz => ?_) hcov hx0 (hx.2.2.2.2.1 _ hlkE) (va_Nw.use rfl (hK.2.1 _ hcast)) hce hcv hcl ?_
    · obtain ⟨z1, z2, nm, z3, z4⟩ := hpre z hz
      exact ⟨z1, z2, nm, hx.2.2.2.2.1 _ z3, hK.2.2.2.2.2.2.2.2 _ z4⟩
    · have hend : ∀ ls1 : Array Slot, W p l e (mi_rmX (d + 1)) s m (As.map (mi_v b bs)).toArray below meth c H1 locs1 (h1.length + 0 - h.length + 1) (mi_z h1 + 0 - mi_z h + 8) (MQ below (mi_Qc b bs cI cL D v h1) (As.map (mi_v b bs)).toArray s 1 8 (fun q => b ≤ q)) (F0 m (x.handlerPc + ln) ls1 []) := by
        intro ls1
        refine lv_iconst (v := k) hx.1 hx.2.1 di hn9 ?_
        subst hvk
        refine W.widen (k := 1) (n := 8) (by omega) (by omega) ?_
        exact W.iret (v := k) hx.1 hx.2.1 (B.returns.trans hri) (fun t ht _ => ⟨⟨rfl, by rw [ht]; exact hR2⟩, hS2.F ht⟩) hS2.2.2 dr B.notSynchronized
      rcases da with ⟨rfl, da⟩ | ⟨rfl, f9, hf9, da⟩
      · exact lv_astore hx.1 hx.2.1 da (mi_has_lv hh1) hi rfl (fun ls1 hl1 => hend ls1)
      · exact lv_astore_n hx.1 hx.2.1 da hf9 (mi_has_lv hh1) hi rfl (fun ls1 hl1 => hend ls1)
end CE4
section CE5
variable {p : Program} {l : Launch} {e : Env} {R : Room} {s : State} {m : MethodId} {args : Array Value} {below : List Frame} {meth : Method} {c : Code} {Q : State → Prop}
variable {b bs : Nat} {cI cL : ClassId} {D : va_G} {LS : Nat} {xs : Nat → Int32} {own : String} {cc : ByteArray} {nL : Nat} {ini : Bool}
/-- a call of a method with a table: static, by its name -/
def mi_OkV (own : String) (cc : ByteArray) (pc : Nat) (M : mD) (n : Nat) : Prop := ∃ index : Nat, decode cc pc = .ok (.invokestatic index, 3) ∧ Cond.methodLink own index M.1 ∈ mi_good ∧ Cond.static M.1 ∈ mi_good ∧ (parseMethodDescriptor M.1.desc).map (fun d => d.parameters.length) = some n
theorem mi_callL {M : mD} {pc d n : Nat} {As rest : List Value} {h h1 : mH} {v : Option Value} {kc ks n0 z0 : Nat} {lo : mL}
    (X : mi_X b bs cI cL D LS xs own cc nL ini p l R s m args meth c) (hMW : mi_OkMW M) (hV : mi_OkV own cc pc M n)
    (hM : Met l M.1 (mi_wsW M) (mi_rmX d) (mi_Pc false b bs cI cL D LS xs As h) (mi_Qc b bs cI cL D v h1) 1 8 (fun q => b ≤ q))
    (hA : As.length = n) (hr : (rest.map (fun v => v.category)).sum ≤ 8) (hf : d + 7 ≤ R.frames) (hlo : 40 * (d + 1) + 200 ≤ R.locals) (hn0 : n0 ≤ h.length) (hz0 : z0 ≤ mi_z h) (hl1 : h1.length = h.length) (hz1 : mi_z h1 = mi_z h) (hcl : h.length + kc - n0 + 1 ≤ R.cells) (hsl : mi_z h + ks - z0 + 8 ≤ R.slots)
    (kk : mi_W b bs cI cL D nL p l e R s m args below meth c Q (kc + 1) (ks + 8) n0 z0 (pc + 3, lo, v.toList ++ rest, h1)) : mi_W b bs cI cL D nL p l e R s m args below meth c Q kc ks n0 z0 (pc, lo, As.reverse ++ rest, h) := by
  intro H locs ls hR hh hS
  obtain ⟨index, dg, hl, hstt, hpar⟩ := hV
  obtain ⟨hx, hb, hml, hown, hts, hK, hbs, hnm, hlk, hfr1, hlo1, hst⟩ := X
  have hPc : ∀ U : State, U.heap = H → s.WarmedH U.vm → mi_Pc false b bs cI cL D LS xs As h (As.map (mi_v b bs)).toArray U := fun U hU hW => ⟨rfl, by rw [hU]; exact hR, hK.warm hS hU hW, by rw [hU]; exact Nat.le_trans hbs hS.1, fun ha => by cases ha⟩
  have hR2 : (mi_rmX d).frames + 1 ≤ R.frames ∧ 8 + (M.2.2.1 + 11) + (mi_rmX d).locals ≤ R.locals := by
    have := hMW.2.2.2.1
    exact ⟨by show d + 6 + 1 ≤ _; omega, by show 8 + (M.2.2.1 + 11) + (40 * d + 200) ≤ _; omega⟩
  have hfx : CallFix p m c cc nL s args mi_good own := ⟨hx, hb, hml, hown, hts⟩
  have hd : M.1.cls ≠ "java/lang/invoke/MethodHandle" ∧ M.1.cls ≠ "java/lang/invoke/VarHandle" ∧ (parseMethodDescriptor M.1.desc).map (fun d => d.parameters.length) = some n := ⟨hMW.2.2.2.2.1, hMW.2.2.2.2.2, hpar⟩
  have hsum : ((rest.map (mi_v b bs)).map (fun v => v.category)).sum ≤ 8 := by rw [mi_sum]; exact hr
  have hG : GoodIn mi_good (va_wsS own index M.1 (mi_wsW M)) := by
    intro w hw
    unfold va_wsS at hw
    rcases List.mem_append.mp hw with h9 | h9
    · have : w ∈ mi_good := by
        simp only [List.mem_cons, List.not_mem_nil, or_false] at h9
        rcases h9 with rfl | rfl | rfl
        · exact hl
        · exact hstt
        · exact hMW.2.2.1
      exact ⟨this, good_of_word (mi_good_ok this)⟩
    · exact mi_goodInW hMW w h9
  have hlen : (As.map (mi_v b bs)).length = n := by simpa using hA
  dsimp only
  refine mi_callk (mc := 1) (ms := 8) (vx_runSW (As := As.map (mi_v b bs)) (rest := rest.map (mi_v b bs)) (hh := M.2.2.2.2.1) hfx hM (vx_cwSW n hts hG rfl rfl rfl hd hR2) ⟨mi_Pc.blind, hPc⟩ rfl hlen (by rw [hh.1]) ?_ (by show 2 * 0 + _ ≤ 8; omega) dg ⟨hcl, hsl⟩) hS (fun H1 locs1 hR1 hS1 => ?_)
  · show List.map (mi_v b bs) (As.reverse ++ rest) = _
    simp
  · have h9 := kk H1 locs1 ls hR1 hh hS1
    dsimp only at h9
    have e1 : h1.length + (kc + 1) - n0 = h.length + kc - n0 + 1 := by omega
    have e2 : mi_z h1 + (ks + 8) - z0 = mi_z h + ks - z0 + 8 := by omega
    have e3 : (v.toList ++ rest).map (mi_v b bs) = (v.map (mi_v b bs)).toList ++ rest.map (mi_v b bs) := by cases v <;> simp
    rw [e1, e2, e3] at h9
    exact h9
/-- a run from here to there, with calls that return; calls of the methods that wr names aren't taken -/
def mi_to (t : mT) (wr : Nat → Bool) (al : Bool) (LS : Nat) (xs : Nat → Int32) (Call : mQ) : Nat → mS → mS → Prop
  | 0, x, y => x = y
  | n + 1, x, y => match mi_fnd t x.1 with
    | some (.inl f) => ∃ z, f al LS xs x.2.1 x.2.2.1 x.2.2.2 = some z ∧ mi_to t wr al LS xs Call n z y
    | some (.inr (.inr (.inl ca))) => wr ca.1 = false ∧ ∃ As rest v h1, x.2.2.1 = As.reverse ++ rest ∧ As.length = ca.2.1 ∧ (rest.map (fun v => v.category)).sum ≤ 8 ∧ mi_rcv ca.2.2.1 As x.2.2.2 ∧ Call ca.1 As x.2.2.2 (.inl v, h1) ∧ mi_to t wr al LS xs Call n (x.1 + 3, x.2.1, v.toList ++ rest, h1) y
    | _ => False
theorem mi_simTo {Ms : List mD} {d : Nat} (hS : mi_Sd Ms d) {t : mT} {wr : Nat → Bool} {ret : Option FieldType} (hok : ∀ q ∈ t, (∀ ca, q.2 = .inr (.inr (.inl ca)) → wr ca.1 = false) → mi_OkE Ms own cc nL ini ret q)
    {al : Bool} {y : mS} : ∀ (n : Nat) (x : mS), mi_to t wr al LS xs (mi_call Ms al LS xs d) n x y →
    (x.2.2.2.length ≤ y.2.2.2.length ∧ mi_z x.2.2.2 ≤ mi_z y.2.2.2) ∧
    ∀ (b bs : Nat) (cI cL : ClassId) (D : va_G) (p : Program) (l : Launch) (e : Env) (R : Room) (s : State) (m : MethodId) (args : Array Value) (below : List Frame) (meth : Method) (c : Code) (Q : State → Prop) (kc ks n0 z0 : Nat),
      mi_X b bs cI cL D LS xs own cc nL ini p l R s m args meth c → (al = true → s.heap.size = b + n0 ∧ kc = 0) → d + 7 ≤ R.frames → 40 * (d + 1) + 200 ≤ R.locals → n0 ≤ x.2.2.2.length → z0 ≤ mi_z x.2.2.2 → y.2.2.2.length + kc - n0 ≤ R.cells → mi_z y.2.2.2 + ks - z0 ≤ R.slots →
      mi_W b bs cI cL D nL p l e R s m args below meth c Q kc ks n0 z0 y → mi_W b bs cI cL D nL p l e R s m args below meth c Q kc ks n0 z0 x := by
  intro n
  induction n with
  | zero =>
    intro x hx
    cases hx
    exact ⟨⟨Nat.le_refl _, Nat.le_refl _⟩, fun _ _ _ _ _ _ _ _ _ _ _ _ _ _ _ _ _ _ _ _ _ _ _ _ _ _ _ _ hW => hW⟩
  | succ n ih =>
    intro x hx
    obtain ⟨pc, lo, st, h⟩ := x
    unfold mi_to at hx
    split at hx
    · next f hf =>
      obtain ⟨z, hz, hrun⟩ := hx
      have hq := hok _ (mi_fnd_mem t _ _ hf) (fun ca hca => by cases hca)
      have hm := hq al LS xs _ _ _ _ hz
      have hi := ih z hrun
      have m1 := hm.1.1
      have m2 := hm.1.2
      have m3 := hi.1.1
      have m4 := hi.1.2
      refine ⟨⟨Nat.le_trans m1 m3, Nat.le_trans m2 m4⟩, ?_⟩
      intro b bs cI cL D p l e R s m args below meth c Q kc ks n0 z0 X hal hfr hlo hn0 hz0 hcl hsl hW
      dsimp only at hn0 hz0 m1 m2
      refine hm.2 b bs cI cL D p l e R s m args below meth c Q kc ks n0 z0 X hal hn0 hz0 (by omega) (by omega) ?_
      exact hi.2 b bs cI cL D p l e R s m args below meth c Q kc ks n0 z0 X hal hfr hlo (by omega) (by omega) hcl hsl hW
    · next ca hf =>
      obtain ⟨hwr, As, rest, v, h1, hst, hA, hsum, hrc, hcall, hrun⟩ := hx
      have hmem := mi_fnd_mem t _ _ hf
      have hq : mi_OkC Ms own cc pc ca := hok _ hmem (fun ca2 hca => by cases hca; exact hwr)
      obtain ⟨M, hMs, hMok, hrest⟩ := id hq
      have hc := hS al LS xs ca.1 M As h h1 v hMs hMok hcall
      have hi := ih _ hrun
      have m1 := hc.1.1
      have m2 := hc.1.2
      have m3 := hi.1.1
      have m4 := hi.1.2
      dsimp only at m3 m4
      refine ⟨⟨Nat.le_trans m1 m3, Nat.le_trans m2 m4⟩, ?_⟩
      intro b bs cI cL D p l e R s m args below meth c Q kc ks n0 z0 X hal hfr hlo hn0 hz0 hcl hsl hW
      dsimp only at hst hn0 hz0
      subst hst
      refine mi_callW X hal hq hMs (hc.2 b bs cI cL D l X.2.2.2.2.2.2.2.2.2.2.2) hA hsum hrc hfr hlo hn0 hz0 m1 m2 (by omega) (by omega) ?_
      exact hi.2 b bs cI cL D p l e R s m args below meth c Q kc ks n0 z0 X hal hfr hlo (by dsimp only; omega) (by dsimp only; omega) hcl hsl hW
    · exact absurd hx id
end CE5
