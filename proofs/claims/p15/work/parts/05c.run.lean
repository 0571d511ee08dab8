section MI7
def mi_OkE (Ms : List mD) (own : String) (cc : ByteArray) (nL : Nat) (ini : Bool) (ret : Option FieldType) (q : Nat × mE) : Prop := match q.2 with
  | .inl f => mi_Ok own cc nL ini q.1 f
  | .inr (.inl k) => mi_OkR ret cc q.1 k
  | .inr (.inr (.inl ca)) => mi_OkC Ms own cc q.1 ca
  | .inr (.inr (.inr _)) => True
/-- a method's code -/
def mi_OkB (Ms : List mD) (M : mD) : Prop := ∃ ini : Bool, (ini = true → M.1.name = "<init>") ∧ (∀ q ∈ M.2.2.2.2.2, mi_OkE Ms M.1.cls M.2.1 M.2.2.1 ini M.2.2.2.1 q) ∧ ∀ pc ca, (pc, .inr (.inr (.inl ca))) ∈ M.2.2.2.2.2 → ca.2.2.2 = []
def mi_Sd (Ms : List mD) (d : Nat) : Prop := ∀ (al : Bool) (LS : Nat) (xs : Nat → Int32) (y : Nat) (M : mD) (As : List Value) (h h1 : mH) (v : Option Value), Ms[y]? = some M → mi_OkM M → mi_call Ms al LS xs d y As h (.inl v, h1) →
  (h.length ≤ h1.length ∧ mi_z h ≤ mi_z h1) ∧ ∀ (b bs : Nat) (cI cL : ClassId) (D : va_G) (l : Launch), l.stackTraces = false →
    Met l M.1 (mi_ws M) (mi_rm d (h1.length - h.length) (mi_z h1 - mi_z h)) (mi_Pc al b bs cI cL D LS xs As h) (mi_Qc b bs cI cL D v h1) (h1.length - h.length) (mi_z h1 - mi_z h) (fun q => b ≤ q)
/-- what a run that returns says: nothing of the heap is lost, and the machine goes the same way -/
theorem mi_simR {Ms : List mD} {d : Nat} (hS : mi_Sd Ms d) {t : mT} {own : String} {cc : ByteArray} {nL : Nat} {ini : Bool} {ret : Option FieldType} (hok : ∀ q ∈ t, mi_OkE Ms own cc nL ini ret q)
    {al : Bool} {LS : Nat} {xs : Nat → Int32} {v : Option Value} {h1 : mH} : ∀ (n : Nat) (x : mS), mi_run t al LS xs (mi_call Ms al LS xs d) n x (.inl v, h1) →
    (x.2.2.2.length ≤ h1.length ∧ mi_z x.2.2.2 ≤ mi_z h1) ∧
    ∀ (b bs : Nat) (cI cL : ClassId) (D : va_G) (p : Program) (l : Launch) (e : Env) (R : Room) (s : State) (m : MethodId) (args : Array Value) (below : List Frame) (meth : Method) (c : Code) (Q : State → Prop) (kc ks n0 z0 : Nat),
      mi_X b bs cI cL D LS xs own cc nL ini p l R s m args meth c → (al = true → s.heap.size = b + n0 ∧ kc = 0) → d + 7 ≤ R.frames → 40 * (d + 1) + 200 ≤ R.locals → n0 ≤ x.2.2.2.length → z0 ≤ mi_z x.2.2.2 → h1.length + kc - n0 ≤ R.cells → mi_z h1 + ks - z0 ≤ R.slots →
      (∀ (pc k : Nat) (lo : mL) (st : List Value), (pc, .inr (.inl k)) ∈ t → mi_ret k st = some v → mi_W b bs cI cL D nL p l e R s m args below meth c Q kc ks n0 z0 (pc, lo, st, h1)) →
      (∀ (pc : Nat) (ca : mA) (lo : mL) (As rest : List Value) (E : String) (k : Int32), (pc, .inr (.inr (.inl ca))) ∈ t → As.length = ca.2.1 → (rest.map (fun v => v.category)).sum ≤ 8 → mi_rcv ca.2.2.1 As h1 → mi_call Ms al LS xs d ca.1 As h1 (.inr E, h1) → mi_thr.contains ca.1 = true → ca.2.2.2.lookup E = some k → v = some (.int k) → mi_W b bs cI cL D nL p l e R s m args below meth c Q kc ks n0 z0 (pc, lo, As.reverse ++ rest, h1)) →
      mi_W b bs cI cL D nL p l e R s m args below meth c Q kc ks n0 z0 x := by
  intro n
  induction n with
  | zero => intro x hx; exact absurd hx (by simp [mi_run])
  | succ n ih =>
    intro x hx
    obtain ⟨pc, lo, st, h⟩ := x
    unfold mi_run at hx
    split at hx
    · exact absurd hx id
    · next f hf =>
      obtain ⟨y, hy, hrun⟩ := hx
      have hq := hok _ (mi_fnd_mem t _ _ hf)
      have hm := hq al LS xs _ _ _ _ hy
      have hi := ih y hrun
      refine ⟨⟨Nat.le_trans hm.1.1 hi.1.1, Nat.le_trans hm.1.2 hi.1.2⟩, ?_⟩
      intro b bs cI cL D p l e R s m args below meth c Q kc ks n0 z0 X hal hfr hlo hn0 hz0 hcl hsl hret hcat
      have m1 := hm.1.1
      have m2 := hm.1.2
      have m3 := hi.1.1
      have m4 := hi.1.2
      refine hm.2 b bs cI cL D p l e R s m args below meth c Q kc ks n0 z0 X hal hn0 hz0 (by omega) (by omega) ?_
      exact hi.2 b bs cI cL D p l e R s m args below meth c Q kc ks n0 z0 X hal hfr hlo (by dsimp only at hn0 m1; omega) (by dsimp only at hz0 m2; omega) hcl hsl hret hcat
    · next k hf =>
      obtain ⟨w, hw, hr⟩ := hx
      simp only [Prod.mk.injEq, Sum.inl.injEq] at hr
      obtain ⟨rfl, rfl⟩ := hr
      refine ⟨⟨Nat.le_refl _, Nat.le_refl _⟩, ?_⟩
      intro b bs cI cL D p l e R s m args below meth c Q kc ks n0 z0 X hal hfr hlo hn0 hz0 hcl hsl hret hcat
      exact hret pc k lo st (mi_fnd_mem t _ _ hf) hw
    · next ca hf =>
      obtain ⟨As, rest, x1, hst, hA, hsum, hrc, hcall, haft⟩ := hx
      have hmem := mi_fnd_mem t _ _ hf
      have hq : mi_OkC Ms own cc pc ca := hok _ hmem
      obtain ⟨r1, h2⟩ := x1
      unfold mi_aft at haft
      cases r1 with
      | inr E =>
        dsimp only at haft
        obtain ⟨hth, haft⟩ := haft
        split at haft
        · next k hk =>
          simp only [Prod.mk.injEq, Sum.inl.injEq] at haft
          obtain ⟨rfl, rfl⟩ := haft
          have hsame : h1 = h := by
            revert hcall
            cases d with
            | zero => intro q; exact absurd q (by simp [mi_call])
            | succ d =>
              intro q
              unfold mi_call at q
              split at q
              · exact absurd q id
              · exact q.2.1 E rfl
          subst hsame
          refine ⟨⟨Nat.le_refl _, Nat.le_refl _⟩, ?_⟩
          intro b bs cI cL D p l e R s m args below meth c Q kc ks n0 z0 X hal hfr hlo hn0 hz0 hcl hsl hret hcat
          dsimp only at hst
          subst hst
          exact hcat pc ca lo As rest E k hmem hA hsum hrc hcall hth hk rfl
        · simp at haft
      | inl w =>
        dsimp only at haft
        obtain ⟨M, hMs, hMok, hrest⟩ := id hq
        have hc := hS al LS xs ca.1 M As h h2 w hMs hMok hcall
        have hi := ih _ haft
        have m1 := hc.1.1
        have m2 := hc.1.2
        have m3 := hi.1.1
        have m4 := hi.1.2
        dsimp only at m3 m4
        refine ⟨⟨Nat.le_trans m1 m3, Nat.le_trans m2 m4⟩, ?_⟩
        intro b bs cI cL D p l e R s m args below meth c Q kc ks n0 z0 X hal hfr hlo hn0 hz0 hcl hsl hret hcat
        dsimp only at hst hn0 hz0
        subst hst
        refine mi_callW X hal hq hMs (hc.2 b bs cI cL D l X.2.2.2.2.2.2.2.2.2.2.2) hA hsum hrc hfr hlo hn0 hz0 m1 m2 (by omega) (by omega) ?_
        exact hi.2 b bs cI cL D p l e R s m args below meth c Q kc ks n0 z0 X hal hfr hlo (by dsimp only; omega) (by dsimp only; omega) hcl hsl hret hcat
    · next E hf =>
      obtain ⟨-, -, hr⟩ := hx
      simp at hr
/-- a method's return -/
theorem mi_retW {ret : Option FieldType} {cc : ByteArray} {pc k : Nat} (hq : mi_OkR ret cc pc k) {st : List Value} {v : Option Value} (hv : mi_ret k st = some v) {b bs : Nat} {cI cL : ClassId} {D : va_G} {nL : Nat} {p : Program} {l : Launch} {e : Env} {R : Room} {s : State} {m : MethodId} {args : Array Value} {below : List Frame} {meth : Method} {c : Code} {kc ks n0 z0 mc ms : Nat} {lo : mL} {h1 : mH} (hmc : h1.length + kc - n0 ≤ mc) (hms : mi_z h1 + ks - z0 ≤ ms)
    (hx : p.tables.exec = Jvm.exec) (hb : c.code = cc) (hr : meth.sig.returnType = ret) (hlk : meth.locks = false) :
    mi_W b bs cI cL D nL p l e R s m args below meth c (MQ below (mi_Qc b bs cI cL D v h1) args s mc ms (fun q => b ≤ q)) kc ks n0 z0 (pc, lo, st, h1) := by
  intro H locs ls hR hh hS
  refine W.widen hmc hms ?_
  have hQ : ∀ t : State, t.heap = H → s.WarmedH t.vm → mi_Qc b bs cI cL D v h1 args s (.returned (v.map (mi_v b bs))) t := fun t ht _ => ⟨⟨rfl, by rw [ht]; exact hR⟩, hS.F ht⟩
  rcases hq with ⟨rfl, d, rfl⟩ | ⟨rfl, d, rfl⟩ | ⟨rfl, d, rfl⟩ | ⟨rfl, d, nn, rfl⟩
  · unfold mi_ret at hv
    split at hv <;> first | (cases hv; done) | skip
    all_goals first | (rename_i hk; cases hk; done) | skip
    all_goals (cases hv; exact W.vret hx hb hr hQ hS.2.2 d hlk)
  · unfold mi_ret at hv
    split at hv <;> first | (cases hv; done) | skip
    all_goals first | (rename_i hk; cases hk; done) | skip
    all_goals (cases hv; exact W.iret hx hb hr hQ hS.2.2 d hlk)
  · unfold mi_ret at hv
    split at hv <;> first | (cases hv; done) | skip
    all_goals first | (rename_i hk; cases hk; done) | skip
    all_goals
      split at hv
      · next hc =>
        cases hv
        refine W.zret hx hb hr ?_ hQ hS.2.2 d hlk
        rcases hc with rfl | rfl <;> decide
      · cases hv
  · unfold mi_ret at hv
    split at hv <;> first | (cases hv; done) | skip
    all_goals first | (rename_i hk; cases hk; done) | skip
    all_goals (cases hv; exact W.aret hx hb hr (Or.inl ⟨_, rfl⟩) (Or.inr ⟨_, rfl⟩) hQ hS.2.2 d hlk)
/-- THE SMALL MACHINE IS SOUND, for methods that return -/
theorem mi_sound {Ms : List mD} (hAll : ∀ (y : Nat) (M : mD), Ms[y]? = some M → mi_OkM M → mi_OkB Ms M) : ∀ d, mi_Sd Ms d := by
  intro d
  induction d with
  | zero => intro al LS xs y M As h h1 v _ _ hc; exact absurd hc (by simp [mi_call])
  | succ d ih =>
    intro al LS xs y M As h h1 v hMs hMok hc
    unfold mi_call at hc
    rw [hMs] at hc
    obtain ⟨hlen, -, n, hrun⟩ := hc
    obtain ⟨ini, hini, hok, hno⟩ := hAll y M hMs hMok
    have hsim := mi_simR ih hok n _ hrun
    refine ⟨hsim.1, ?_⟩
    intro b bs cI cL D l htr
    refine Met.ofW (cc := M.2.1) (maxL := M.2.2.1) (ret := M.2.2.2.1) hMok.1 rfl ?_
    intro p e s m args below meth c s₁ B hml hv
    obtain ⟨rfl, hR, hK, hbs, hex⟩ := hv
    have hts := atoms_spec (ws := mi_ws M) B.pre
    have hown : s.vm.findClass M.1.cls = some m.cls := findClass_of_methodNamed B.named
    have hx : mi_X b bs cI cL D LS xs M.1.cls M.2.1 M.2.2.1 ini p l (mi_rm (d + 1) (h1.length - h.length) (mi_z h1 - mi_z h)) s m (As.map (mi_v b bs)).toArray meth c := by
      refine ⟨B.exec, B.bytes, hml, hown, fun w hw => hts w (List.mem_cons_of_mem _ hw), hK, hbs, fun hi => ?_, B.notSynchronized, ?_, ?_, htr⟩
      · rw [← hini hi]
        exact (name_of_methodNamed B.named B.method).1
      · show 1 ≤ d + 1 + 6; omega
      · show 40 ≤ 40 * (d + 1) + 200; omega
    have hgo := hsim.2 b bs cI cL D p l e (mi_rm (d + 1) (h1.length - h.length) (mi_z h1 - mi_z h)) s m (As.map (mi_v b bs)).toArray below meth c (MQ below (mi_Qc b bs cI cL D v h1) (As.map (mi_v b bs)).toArray s (h1.length - h.length) (mi_z h1 - mi_z h) (fun q => b ≤ q)) 0 0 h.length (mi_z h) hx (fun q => ⟨hex q, rfl⟩) (by show d + 7 ≤ d + 1 + 6; omega) (by show 40 * (d + 1) + 200 ≤ 40 * (d + 1) + 200; omega) (Nat.le_refl _) (Nat.le_refl _) (Nat.le_refl _) (Nat.le_refl _)
      (fun pc k lo st hm hr => mi_retW (hok _ hm) hr (Nat.le_refl _) (Nat.le_refl _) B.exec B.bytes B.returns B.notSynchronized)
      (fun pc ca lo As rest E k hm _ _ _ _ _ hlk _ => by rw [hno pc ca hm] at hlk; cases hlk)
    rw [lg_entry_eq]
    have h9 := hgo s.heap [] _ hR (mi_ent_has hlen) va_S.rf
    dsimp only at h9
    simp only [Nat.add_zero, Nat.sub_self] at h9
    exact h9
end MI7
