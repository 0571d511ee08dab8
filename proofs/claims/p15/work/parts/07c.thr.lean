section CE3
/-- what may throw: no constructor, no method of a nest mate -/
def mi_OkN (Ms : List mD) : Prop := ∀ (y : Nat) (M : mD), mi_thr.contains y = true → Ms[y]? = some M → M.1.name ≠ "<init>" ∧ ∀ own index host, Cond.methodLinkNest own index M.1 host ∉ mi_nw
def mi_Xd (Ms : List mD) (d : Nat) : Prop := ∀ (LS : Nat) (xs : Nat → Int32) (y : Nat) (M : mD) (As : List Value) (h : mH) (E : String), Ms[y]? = some M → mi_OkM M → mi_call Ms false LS xs d y As h (.inr E, h) →
  ∀ (b bs : Nat) (cI cL : ClassId) (D : va_G) (l : Launch), l.stackTraces = false → vx_Met l M.1 (mi_ws M) (mi_rmX d) (mi_Pc false b bs cI cL D LS xs As h) mi_none (mi_XC b bs cI cL D E h) 1 8 (fun q => b ≤ q)
theorem mi_simX {Ms : List mD} {d : Nat} (hS : mi_Sd Ms d) (hX : mi_Xd Ms d) (hN : mi_OkN Ms) {t : mT} {own : String} {cc : ByteArray} {nL : Nat} {ini : Bool} {ret : Option FieldType} (hok : ∀ q ∈ t, mi_OkE Ms own cc nL ini ret q) (hthr : ∀ pc E, (pc, .inr (.inr (.inr E))) ∈ t → mi_OkT own cc nL pc E)
    {LS : Nat} {xs : Nat → Int32} {E : String} {h1 : mH} : ∀ (n : Nat) (x : mS), mi_run t false LS xs (mi_call Ms false LS xs d) n x (.inr E, h1) →
    (x.2.2.2.length ≤ h1.length ∧ mi_z x.2.2.2 ≤ mi_z h1) ∧
    ∀ (b bs : Nat) (cI cL : ClassId) (D : va_G) (p : Program) (l : Launch) (e : Env) (s : State) (m : MethodId) (args : Array Value) (below : List Frame) (meth : Method) (c : Code),
      mi_X b bs cI cL D LS xs own cc nL ini p l (mi_rmX (d + 1)) s m args meth c → (∀ x ∈ c.exceptionTable.toList, False) → h1.length ≤ x.2.2.2.length → mi_z h1 ≤ mi_z x.2.2.2 →
      mi_W b bs cI cL D nL p l e (mi_rmX (d + 1)) s m args below meth c (vx_MQ below mi_none (mi_XC b bs cI cL D E h1) args s 1 8 (fun q => b ≤ q)) 0 0 h1.length (mi_z h1) x := by
  intro n
  induction n with
  | zero => intro x hx; exact absurd hx (by simp [mi_run])
  | succ n ih =>
    intro x hx
    obtain ⟨pc, lo, st, h⟩ := x
    unfold mi_run at hx
    split at hx
    · exact absurd hx id
    · next f hf =>
      obtain ⟨y, hy, hrun⟩ := hx
      have hq := hok _ (mi_fnd_mem t _ _ hf)
      have hm := hq false LS xs _ _ _ _ hy
      have hi := ih y hrun
      have m1 := hm.1.1
      have m2 := hm.1.2
      have m3 := hi.1.1
      have m4 := hi.1.2
      refine ⟨⟨Nat.le_trans m1 m3, Nat.le_trans m2 m4⟩, ?_⟩
      intro b bs cI cL D p l e s m args below meth c X htab hn0 hz0
      dsimp only at hn0 hz0 m1 m2
      refine hm.2 b bs cI cL D p l e (mi_rmX (d + 1)) s m args below meth c _ 0 0 h1.length (mi_z h1) X (fun q => by cases q) hn0 hz0 (by show _ ≤ 1; omega) (by show _ ≤ 8; omega) ?_
      exact hi.2 b bs cI cL D p l e s m args below meth c X htab (by omega) (by omega)
    · next k hf =>
      obtain ⟨w, hw, hr⟩ := hx
      simp at hr
    · next ca hf =>
      obtain ⟨As, rest, x1, hst, hA, hsum, hrc, hcall, haft⟩ := hx
      have hmem := mi_fnd_mem t _ _ hf
      have hq : mi_OkC Ms own cc pc ca := hok _ hmem
      obtain ⟨r1, h2⟩ := x1
      obtain ⟨M, hMs, hMok, hrest⟩ := id hq
      unfold mi_aft at haft
      cases r1 with
      | inr E1 =>
        dsimp only at haft
        obtain ⟨hth, haft⟩ := haft
        split at haft
        · simp at haft
        · obtain ⟨-, haft⟩ := haft
          simp only [Prod.mk.injEq, Sum.inr.injEq] at haft
          obtain ⟨rfl, rfl⟩ := haft
          have hsame : h1 = h := by
            revert hcall
            cases d with
            | zero => intro q; exact absurd q (by simp [mi_call])
            | succ d =>
              intro q
              unfold mi_call at q
              split at q
              · exact absurd q id
              · exact q.2.1 E rfl
          subst hsame
          refine ⟨⟨Nat.le_refl _, Nat.le_refl _⟩, ?_⟩
          intro b bs cI cL D p l e s m args below meth c X htab hn0 hz0 H locs ls hR hh hS0
          dsimp only at hst
          subst hst
          have hnn := hN ca.1 M hth hMs
          have hv := hX LS xs ca.1 M As h1 E hMs hMok hcall b bs cI cL D l X.2.2.2.2.2.2.2.2.2.2.2
          dsimp only
          simp only [Nat.add_zero, Nat.sub_self]
          refine mi_callT X hq hMs hnn.1 (fun index host _ => hnn.2 own index host) hv hA hsum hrc (by show d + 7 ≤ d + 1 + 6; omega) (by show _ ≤ 40 * (d + 1) + 200; omega) (by show 0 + 1 ≤ 1; omega) (by show 0 + 8 ≤ 8; omega) hR hh hS0 (fun q ce H1 locs1 hR1 hS1 hce hcv hcl => ?_)
          exact vx_out (fun x hx => (htab x hx).elim) X.2.2.2.2.2.2.2.2.1 hce hcv hcl (fun t ht _ => ⟨rfl, by rw [ht]; exact hR1, hS1.F ht⟩) hS1.2.2 (by omega) (by omega)
      | inl w =>
        dsimp only at haft
        have hc := hS false LS xs ca.1 M As h h2 w hMs hMok hcall
        have hi := ih _ haft
        have m1 := hc.1.1
        have m2 := hc.1.2
        have m3 := hi.1.1
        have m4 := hi.1.2
        dsimp only at m3 m4
        refine ⟨⟨Nat.le_trans m1 m3, Nat.le_trans m2 m4⟩, ?_⟩
        intro b bs cI cL D p l e s m args below meth c X htab hn0 hz0
        dsimp only at hst hn0 hz0
        subst hst
        refine mi_callW (al := false) X (fun q => by cases q) hq hMs (hc.2 b bs cI cL D l X.2.2.2.2.2.2.2.2.2.2.2) hA hsum hrc (by show d + 7 ≤ d + 1 + 6; omega) (by show _ ≤ 40 * (d + 1) + 200; omega) hn0 hz0 m1 m2 (by show _ ≤ 1; omega) (by show _ ≤ 8; omega) ?_
        exact hi.2 b bs cI cL D p l e s m args below meth c X htab (by dsimp only; omega) (by dsimp only; omega)
    · next E1 hf =>
      obtain ⟨-, hst, hr⟩ := hx
      simp only [Prod.mk.injEq, Sum.inr.injEq] at hr
      obtain ⟨rfl, rfl⟩ := hr
      refine ⟨⟨Nat.le_refl _, Nat.le_refl _⟩, ?_⟩
      intro b bs cI cL D p l e s m args below meth c X htab hn0 hz0 H locs ls hR hh hS0
      dsimp only at hst
      subst hst
      dsimp only
      simp only [Nat.add_zero, Nat.sub_self]
      exact hthr pc E (mi_fnd_mem t _ _ hf) b bs cI cL D LS xs p l e d s m args below meth c ini H locs ls _ X htab hR hh.1 hS0
/-- THE SMALL MACHINE IS SOUND, for methods that throw -/
theorem mi_soundX {Ms : List mD} (hAll : ∀ (y : Nat) (M : mD), Ms[y]? = some M → mi_OkM M → mi_OkB Ms M) (hN : mi_OkN Ms) (hT : ∀ (y : Nat) (M : mD), Ms[y]? = some M → mi_OkM M → ∀ pc E, (pc, .inr (.inr (.inr E))) ∈ M.2.2.2.2.2 → mi_OkT M.1.cls M.2.1 M.2.2.1 pc E) : ∀ d, mi_Xd Ms d := by
  intro d
  induction d with
  | zero => intro LS xs y M As h E _ _ hc; exact absurd hc (by simp [mi_call])
  | succ d ih =>
    intro LS xs y M As h E hMs hMok hc b bs cI cL D l htr
    unfold mi_call at hc
    rw [hMs] at hc
    obtain ⟨hlen, -, n, hrun⟩ := hc
    obtain ⟨ini, hini, hok, hno⟩ := hAll y M hMs hMok
    have hsim := mi_simX (mi_sound hAll d) ih hN hok (hT y M hMs hMok) n _ hrun
    refine vx_ofW (cc := M.2.1) (maxL := M.2.2.1) (ret := M.2.2.2.1) hMok.1 rfl ?_
    intro p e s m args below meth c s₁ B hml htab hv
    obtain ⟨rfl, hR, hK, hbs, hex⟩ := hv
    have hts := atoms_spec (ws := mi_ws M) B.pre
    have hown : s.vm.findClass M.1.cls = some m.cls := findClass_of_methodNamed B.named
    have hx : mi_X b bs cI cL D LS xs M.1.cls M.2.1 M.2.2.1 ini p l (mi_rmX (d + 1)) s m (As.map (mi_v b bs)).toArray meth c := by
      refine ⟨B.exec, B.bytes, hml, hown, fun w hw => hts w (List.mem_cons_of_mem _ hw), hK, hbs, fun hi => ?_, B.notSynchronized, ?_, ?_, htr⟩
      · rw [← hini hi]
        exact (name_of_methodNamed B.named B.method).1
      · show 1 ≤ d + 1 + 6; omega
      · show 40 ≤ 40 * (d + 1) + 200; omega
    have hgo := hsim.2 b bs cI cL D p l e s m (As.map (mi_v b bs)).toArray below meth c hx htab (Nat.le_refl _) (Nat.le_refl _)
    rw [lg_entry_eq]
    have h9 := hgo s.heap [] _ hR (mi_ent_has hlen) va_S.rf
    dsimp only at h9
    simp only [Nat.add_zero, Nat.sub_self] at h9
    exact h9
/-- throw new E("..") of a class of six fields whose constructors are the usual ones -/
theorem mi_throw_ok {own : String} {cc : ByteArray} {nL pc : Nat} {E : String} {ik is ic : Nat} {text : String} {names : List String} (d0 : decode cc pc = .ok (.new ik, 3)) (d3 : decode cc (pc + 3) = .ok (.dup, 1)) (d4 : decode cc (pc + 4) = .ok (.ldc is, 2)) (d6 : decode cc (pc + 6) = .ok (.invokespecial ic, 3)) (d9 : decode cc (pc + 9) = .ok (.athrow, 1))
    (hcls : Bundle.fit E = true) (hnames : ∀ n ∈ names, Bundle.fit n = true) (hnl : names.length ≤ 3) (hk : Cond.classLink own ik E ∈ mi_good) (hini : Cond.initialized E ∈ mi_good) (hstr : (own, is, text) ∈ mi_str)
    (hat : ∀ w ∈ vx_atS own ic E names, w ∈ mi_good ∨ w ∈ mi_nw) (hgood : ∀ w ∈ Cond.classLink own ik E :: Cond.initialized E :: vx_atS own ic E names, vx_ot w = true) : mi_OkT own cc nL pc E := by
  intro b bs cI cL D LS xs p l e d s m args below meth c ini H locs ls h X htab hR hls hS
  obtain ⟨hx, hb, hml, hown, hts, hK, hbs, hnm, hlk, hfr1, hlo1, htr⟩ := X
  obtain ⟨k1, k2, k3, k4, k5, k6, k7, k8, k9⟩ := hK
  obtain ⟨sa, hsa⟩ := k8 _ hstr
  have hmw : ∀ w ∈ mi_nw, w.onTables = true := fun w hw => by
    have hn : mi_isNest w = true := (List.mem_filter.mp hw).2
    cases w <;> first | (cases hn; done) | rfl
  refine vx_throwS (A := fun q => b ≤ q) (rest := []) hx hb htr hown hcls hnames (hts _ hk) (hts _ hini) hsa (fun w hw => ?_) hgood k6 k7 hS (by rw [hls, hml]) d0 d3 d4 d6 d9 (fun x hx => (htab x hx).elim) ?_ ?_ ?_ ?_ hlk (fun t _ hz hq => ?_) hS.2.2 ?_ ?_
  · rcases hat w hw with h1 | h1
    · exact hts w h1
    · exact va_Nw.use (hmw w h1) (k2 w h1)
  · show names.length + 3 < d + 1 + 6; omega
  · show 0 + (13 * (names.length + 1) + 43) ≤ 40 * (d + 1) + 200; omega
  · show 0 + 1 ≤ 1; omega
  · show 0 + 6 ≤ 8; omega
  · refine ⟨rfl, fun k x hk0 => (hR k x hk0).kept (hq x.1 ((hR k x hk0).lt)), Nat.le_trans hS.1 hz, fun q h1 h2 => ?_⟩
    rw [hq q (Nat.lt_of_lt_of_le h1 hS.1)]
    exact hS.2.1 q h1 h2
  · omega
  · omega
end CE3
