/-! NULLPOINTEREXCEPTION WITH A TEXT, thrown by the class itself: 'new; dup; ldc; invokespecial; athrow' where the class is NullPointerException, whose fillInStackTrace() is its own. No traces are kept. -/
section NE1
variable {self : Addr}
abbrev ne_ok (e : Env) (u : State) (w : Nat) : Prop := e.platform.stackFull ((u.threads[u.cur]?).getD { frames := [] }) u.frames w = false
theorem ne_rooms {e : Env} {X : State} {g : JFrame} (htop : X.topJava?.isSome) (T : ThrowableC) (N : NpeC) (x : Cell) {lim : Nat × Nat} (hlim : e.platform.stackLimits X.me = lim) (hframes : X.frames.length + 2 < lim.1) (hwords : (stackUse (.java g :: X.frames.tail)).2 + 43 ≤ lim.2) :
    ne_ok e (X.setTop g) (1 + 2) ∧ ne_ok e ((npeInside X g N.toNpeT self x).setTop (fillJ N.fill self 37 [])) (1 + 2) ∧
    ∀ y : Cell, ne_ok e ((fillInside (npeInside X g N.toNpeT self x) (fillJ N.fill self 37 []) T.fill self y).setTop (fillJ T.fill self 16 [])) (nativeFrameWords "java/lang/Throwable" "fillInStackTrace" 2) := by
  obtain ⟨g₀, hg⟩ := Option.isSome_iff_exists.mp htop
  obtain ⟨tl, htl⟩ := State.topJava?_eq_some.mp hg
  have hlen : X.frames.length = (Frame.java g :: X.frames.tail).length := by rw [htl]; rfl
  have hfg : (X.setTop g).frames = .java g :: X.frames.tail := by rw [State.frames_setTop _ htl, htl]; rfl
  have hlimg : e.platform.stackLimits (X.setTop g).me = lim := by rw [State.stackLimits_setTop _ htop]; exact hlim
  have htE : (X.setCell self (x.withEntry X.cur)).topJava?.isSome := htop
  have hfN : (npeInside X g N.toNpeT self x).frames = .java (entryFrameSync N.fill #[.ref self] 1 self) :: .java g :: X.frames.tail := frames_entered (g := g) htE _
  have htN : (npeInside X g N.toNpeT self x).topJava?.isSome := by rw [State.topJava?_of_frames hfN]; rfl
  have hlN : e.platform.stackLimits (npeInside X g N.toNpeT self x).me = lim := by
    show e.platform.stackLimits (((X.setCell self (x.withEntry X.cur)).setTop g).pushFrame _).me = lim
    rw [State.stackLimits_pushFrame, State.stackLimits_setTop _ htE]; exact hlim
  have hw14 : ∀ pc : Nat, (stackUse [Frame.java (fillJ N.fill self pc [])]).2 = 14 := by
    intro pc
    rw [stackUse_java, stackUse_nil]
    simp [operandWords]
  refine ⟨?_, ?_, fun y => ?_⟩
  · exact roomAbove (pushed := []) (base := .java g :: X.frames.tail) (free := 43) (lim := lim) hfg hlimg (by rw [← hlen]; simp only [List.length_nil]; omega) hwords (by simp only [stackUse_nil]; omega)
  · exact roomAbove (pushed := [.java (fillJ N.fill self 37 [])]) (base := .java g :: X.frames.tail) (free := 43) (lim := lim) (State.frames_setTop _ hfN) (by rw [State.stackLimits_setTop _ htN]; exact hlN)
      (by rw [← hlen]; simp only [List.length_cons, List.length_nil]; omega) hwords (by rw [hw14]; omega)
  · generalize npeInside X g N.toNpeT self x = Y at hfN htN hlN
    have htE2 : (Y.setCell self (y.withEntry Y.cur)).topJava?.isSome := htN
    have hfF : (fillInside Y (fillJ N.fill self 37 []) T.fill self y).frames = .java (entryFrameSync T.fill #[.ref self] 1 self) :: .java (fillJ N.fill self 37 []) :: .java g :: X.frames.tail := by
      rw [show (fillInside Y (fillJ N.fill self 37 []) T.fill self y).frames = _ from frames_entered (g := fillJ N.fill self 37 []) htE2 _]
      show _ :: _ :: Y.frames.tail = _
      rw [hfN]; rfl
    have htF : (fillInside Y (fillJ N.fill self 37 []) T.fill self y).topJava?.isSome := by rw [State.topJava?_of_frames hfF]; rfl
    have hlF : e.platform.stackLimits (fillInside Y (fillJ N.fill self 37 []) T.fill self y).me = lim := by
      rw [State.stackLimits_pushFrame, State.stackLimits_setTop _ htE2]; exact hlN
    have hw28 : (stackUse [Frame.java (fillJ T.fill self 16 []), Frame.java (fillJ N.fill self 37 [])]).2 = 28 := by
      rw [stackUse_java, hw14]
      simp [operandWords]
    exact roomAbove (pushed := [.java (fillJ T.fill self 16 []), .java (fillJ N.fill self 37 [])]) (base := .java g :: X.frames.tail) (free := 43) (lim := lim) (State.frames_setTop _ hfF) (by rw [State.stackLimits_setTop _ htF]; exact hlF)
      (by rw [← hlen]; simp only [List.length_cons, List.length_nil]; omega) hwords (by rw [hw28]; decide)
abbrev ne_fin (T : ThrowableC) (N : NpeC) (x : Cell) (u0 : RefV) (t : ThreadId) : Cell := ((((npeCell N.toNpeT x t).withEntry t).setSlot T.fStack.slot u0.v).left)
/-- the exception's own fillInStackTrace(), its first call -/
theorem ne_fill (p : Program) {e : Env} {below : List Frame} {s₀ X : State} {g : JFrame} {c : Code} (hA : At X g.method c below) (hexec : p.tables.exec = Jvm.exec)
    (T : ThrowableC) (L : T.Links e.platform s₀) (N : NpeC) (LN : N.Links T e.platform s₀) (hW : s₀.WarmedH X.vm)
    {x cellS : Cell} {kcell : Class} {u0 : RefV} {ig : Instr} {len : Nat} (acts : List Action)
    (hx : X.heap[self]? = some x) (hobj : ∀ k, x.vm ≠ .statics k) (hknown : x.vm ≠ .unknown) (hfree : x.monitor.owner = none)
    (hkcell : s₀.vm.classes[x.cls]? = some kcell) (hsel0 : selectMethod e.platform s₀.vm x.cls T.fill0 = .method T.fill0)
    (hcellS : X.heap[T.aS]? = some cellS) (hneS : T.aS ≠ self) (hknownS : cellS.vm ≠ .unknown) (hvU : cellS.slots[T.fUnassigned.slot]? = some u0.v)
    (hvS : x.slots[T.fStack.slot]? = some u0.v) (hv0 : x.slots[N.fState.slot]? = some (.int 0)) (hneSt : T.fStack.slot ≠ N.fState.slot)
    (htS : Takes s₀ x T.fStack u0.v) (ht1 : Takes s₀ x N.fState (.int 1))
    (hskip : SkipFacts T e.platform s₀ (fun u => u) u0 ((npeCell N.toNpeT x X.cur).withEntry X.cur)) (htr : e.platform.stackTraces = false)
    (hdg : decode c.code g.pc = .ok (ig, len))
    {lim : Nat × Nat} (hlim : e.platform.stackLimits X.me = lim) (hframes : X.frames.length + 2 < lim.1) (hwords : (stackUse (.java g :: X.frames.tail)).2 + 43 ≤ lim.2) :
    ∃ vm', s₀.WarmedH vm' ∧ ∀ target, Steps p.tables e below (((X.setVm vm').setCell self (ne_fin T N x u0 X.cur).left).setTop { g with pc := g.pc + len, stack := .ref self :: g.stack }) target →
      Steps p.tables e below (doInvoke e (X.setTop g) acts N.fill #[.ref self]).1 target := by
  have hlt : self < X.heap.size := (Array.getElem?_eq_some_iff.mp hx).1
  obtain ⟨t, ht⟩ : ∃ t, t = X.cur := ⟨_, rfl⟩
  rw [← ht] at hskip ⊢
  have hmon : ne_fin T N x u0 t = (npeCell N.toNpeT x t).setSlot T.fStack.slot u0.v := by
    have h1 : ((npeCell N.toNpeT x t).withEntry t).left = npeCell N.toNpeT x t := Cell.left_withEntry_held _ rfl (by show 0 < x.monitor.count + 1; omega)
    show ((((npeCell N.toNpeT x t).withEntry t).setSlot T.fStack.slot u0.v).left) = _
    rw [Cell.left_setSlot, h1]
  refine (fun ⟨vm', hW', st⟩ => ⟨vm', hW', fun target hrest => st target (by rw [setCell_twice]; exact hrest)⟩ : (∃ vm', s₀.WarmedH vm' ∧ ∀ target, Steps p.tables e below ((((X.setVm vm').setCell self (ne_fin T N x u0 t)).setCell self (ne_fin T N x u0 t).left).setTop { g with pc := g.pc + len, stack := .ref self :: g.stack }) target → Steps p.tables e below (doInvoke e (X.setTop g) acts N.fill #[.ref self]).1 target) → _) ?_
  refine Steps.npeFillColdBy p (self := self) hA hexec T L N LN hW (Fi := fun u => u.setCell self (ne_fin T N x u0 t)) (heapOnly_id.thenSetCell self _) (fun _ => rfl) (fun u a b => by simp only [setCell_twice]) (cFi := ne_fin T N x u0 t) acts hx hobj hknown hfree hkcell hv0 ht1
    (fun u hu => heapAt_setCell_self _ (Array.getElem?_eq_some_iff.mp hu).1) (by rw [← ht, hmon]; rfl) hdg (fun vm1 hW1 hB => ?_) (ne_rooms (self := self) hA.top T N x hlim hframes hwords).1
  have hr := ne_rooms (e := e) (self := self) (X := X.setVm vm1) (g := g) (hA.setVm (hW.alike.symm.trans hW1.alike)).top T N x hlim hframes hwords
  have hY : (npeInside (X.setVm vm1) g N.toNpeT self x).heap[self]? = some (npeCell N.toNpeT x t) := by
    rw [ht]
    exact heapAt_setCell_self _ (by show self < (X.heap.setIfInBounds self _).size; simpa using hlt)
  have hYS : (npeInside (X.setVm vm1) g N.toNpeT self x).heap[T.aS]? = some cellS := by
    show ((X.heap.setIfInBounds self _).setIfInBounds self _)[T.aS]? = _
    simp [Ne.symm hneS, hcellS]
  have hYvm : ∀ vm, (npeInside (X.setVm vm1) g N.toNpeT self x).setVm vm = npeInside (X.setVm vm) g N.toNpeT self x := fun vm => by rw [npeInside_setVm, State.setVm_twice]
  have hYc : (npeInside (X.setVm vm1) g N.toNpeT self x).cur = t := ht.symm
  have hYW : s₀.WarmedH (npeInside (X.setVm vm1) g N.toNpeT self x).vm := hW1
  have hN3 : ∀ vm (y : Cell), ne_ok e ((fillInside ((npeInside (X.setVm vm1) g N.toNpeT self x).setVm vm) (fillJ N.fill self 37 []) T.fill self y).setTop (fillJ T.fill self 16 [])) (nativeFrameWords "java/lang/Throwable" "fillInStackTrace" 2) := fun vm y => by
    rw [hYvm]
    exact (ne_rooms (e := e) (self := self) (X := X.setVm vm) (g := g) hA.top T N x hlim hframes hwords).2.2 y
  have hr2 := hr.2.1
  obtain ⟨vm2, hW2, st⟩ : ∃ vm2, s₀.WarmedH vm2 ∧ ∀ target, Steps p.tables e below ((((npeInside (X.setVm vm1) g N.toNpeT self x).setVm vm2).setCell self (ne_fin T N x u0 t)).setTop (fillJ N.fill self 40 [.ref self])) target → Steps p.tables e below (doInvoke e ((npeInside (X.setVm vm1) g N.toNpeT self x).setTop (fillJ N.fill self 37 [])) [] T.fill #[.ref self]).1 target := by
    clear hr hYvm
    generalize npeInside (X.setVm vm1) g N.toNpeT self x = Y at hB hY hYS hYc hYW hN3 hr2 ⊢
    refine Steps.fillColdAnyV p (V := Y) (g := fillJ N.fill self 37 []) (c := N.codeFill) (self := self) hB hexec T L hYW (Nn := fun u => u) heapOnly_id (fun _ _ => rfl) (fun _ => rfl) (fun u a b => setCell_twice _ _ _ _) (cell := npeCell N.toNpeT x t) (cellS := cellS) (cN := (npeCell N.toNpeT x t).withEntry t) (u0 := u0)
      (ig := .invokespecial 24) (len := 3) [] hY hobj hknown (Or.inr (by rw [hYc]; rfl)) ?_ hsel0 hYS hneS hknownS hvU (fun u hu => by rw [hYc] at hu; exact hu) (fun _ hu => hu) rfl rfl (by rw [hYc]) rfl ?_ (by rw [LN.fillBytes]; exact LibCode.NullPointerException.Fill.at_37) (fun _ vm3 hW3 hAt t' hs => ?_) hr2 (by rw [hYc]; exact hskip)
    · simp [npeCell, Cell.setSlot, Cell.withEntry, Ne.symm hneSt, hvS]
    · exact ⟨by simpa [npeCell, Cell.setSlot, Cell.withEntry] using htS.1, htS.2⟩
    · exact L.nativeOff p htr hAt hW3 (hN3 vm3 _) hs
  refine ⟨vm2, hW2, fun t' hs => st t' ?_⟩
  rw [hYvm]
  exact hs
end NE1
section NE2
variable {self : Addr}
/-- Throwable's constructor with a text, for the exception -/
theorem ne_initS (p : Program) {e : Env} {below : List Frame} {s₀ V : State} {g : JFrame} {c : Code} (h : At V g.method c below) (hexec : p.tables.exec = Jvm.exec)
    (T : ThrowableC) (L : T.Links e.platform s₀) (Z : Init0T) (LZ : Z.LaidS T.toThrowableT) (M : MsgC) (LM : M.Links T e.platform s₀) (N : NpeC) (LN : N.Links T e.platform s₀) (hW : s₀.WarmedH V.vm)
    {u0 sen : RefV} {msg : Value} (hmsg : msg.isRef = true) {cell cellS : Cell} {kcell : Class} {t : ThreadId} (ht : V.cur = t)
    (hcell : V.heap[self]? = some cell) (hobj : ∀ k, cell.vm ≠ .statics k) (hknown : cell.vm ≠ .unknown) (hfree : cell.monitor.owner = none)
    (hkcell : s₀.vm.classes[cell.cls]? = some kcell) (hsel0 : selectMethod e.platform s₀.vm cell.cls T.fill0 = .method T.fill0)
    (hcellS : V.heap[T.aS]? = some cellS) (hneS : T.aS ≠ self) (hknownS : cellS.vm ≠ .unknown) (hvU : cellS.slots[T.fUnassigned.slot]? = some u0.v)
    (hv0 : cell.slots[N.fState.slot]? = some (.int 0)) (hneC : T.fCause.slot ≠ N.fState.slot) (hneSt : T.fStack.slot ≠ N.fState.slot) (hneP : T.fSupp.slot ≠ N.fState.slot)
    (htS : Takes s₀ cell T.fStack u0.v) (ht1 : Takes s₀ cell N.fState (.int 1))
    (hskip : SkipFacts T e.platform s₀ (fun u => u) u0 ((npeCell N.toNpeT (preparedCellV T.toThrowableT cell self u0 sen) t).withEntry t)) (htr : e.platform.stackTraces = false)
    (hselF : selectMethod e.platform s₀.vm cell.cls T.fill = .method N.fill) (hvSen : cellS.slots[T.fSentinel.slot]? = some sen.v)
    (htC : Takes s₀ cell T.fCause (.ref self)) (htP : Takes s₀ cell T.fSupp sen.v) (htM : Takes s₀ cell T.fMsg msg) (hobjLocals : T.codeObj.maxLocals = 1)
    {ig : Instr} {len : Nat} (acts : List Action)
    {lim : Nat × Nat} (hlim : e.platform.stackLimits V.me = lim) (hframes : V.frames.length + 3 < lim.1) (hwords : (stackUse (.java g :: V.frames.tail)).2 + 56 ≤ lim.2)
    (hdg : decode c.code g.pc = .ok (ig, len)) :
    ∃ vm', s₀.WarmedH vm' ∧ ∀ target, Steps p.tables e below (((V.setVm vm').setCell self ((ne_fin T N (preparedCellV T.toThrowableT cell self u0 sen) u0 t).left.setSlot T.fMsg.slot msg)).setTop { g with pc := g.pc + len }) target →
      Steps p.tables e below (doInvoke e (V.setTop g) acts (Z.m T.toThrowableT) #[.ref self, msg]).1 target := by
  have hlt : self < V.heap.size := (Array.getElem?_eq_some_iff.mp hcell).1
  obtain ⟨r1, r2, -, -⟩ := plainRoomsV (e := e) (g := g) (self := self) h.top T hobjLocals Z cell u0 sen msg hlim (by omega) (by omega)
  obtain ⟨x, hx⟩ : ∃ x, x = preparedCellV T.toThrowableT cell self u0 sen := ⟨_, rfl⟩
  have hxs : x.slots.size = cell.slots.size := by rw [hx]; simp [preparedCellV, Cell.setSlot]
  have tk : ∀ {f : Field} {v : Value}, Takes s₀ cell f v → Takes s₀ x f v := fun h' => by
    rw [hx]
    exact ⟨by simpa [preparedCellV, Cell.setSlot] using h'.1, h'.2⟩
  have hvS : x.slots[T.fStack.slot]? = some u0.v := by
    have h1 : T.fStack.slot < cell.slots.size := htS.1
    rw [hx]
    simp [preparedCellV, Cell.setSlot, Ne.symm L.stackApartSupp, h1]
  have hv0P : x.slots[N.fState.slot]? = some (.int 0) := by
    rw [hx]
    simp [preparedCellV, Cell.setSlot, hneC, hneSt, hneP, hv0]
  have hxv : x.vm = cell.vm := by rw [hx]; rfl
  have hxc : x.cls = cell.cls := by rw [hx]; rfl
  have hxm : x.monitor = cell.monitor := by rw [hx]; rfl
  rw [← hx] at hskip
  have hfill : ∀ vm1, s₀.WarmedH vm1 → At ((initSInside (V.setVm vm1) g T.toThrowableT Z self msg).setCell self x) (Z.m T.toThrowableT) Z.code below → ∃ vm2, s₀.WarmedH vm2 ∧ ∀ t' : State,
      Steps p.tables e below ((((initSInside (V.setVm vm2) g T.toThrowableT Z self msg).setCell self x).setCell self (ne_fin T N x u0 t).left).setTop (initSJ T.toThrowableT Z self msg 27 [.ref self])) t' →
      Steps p.tables e below (doInvoke e (((initSInside (V.setVm vm1) g T.toThrowableT Z self msg).setCell self x).setTop (initSJ T.toThrowableT Z self msg 24 [])) [] N.fill #[.ref self]).1 t' := fun vm1 hW1 hA => by
    have htopV : (V.setVm vm1).topJava?.isSome := h.top
    have hfU : ((initSInside (V.setVm vm1) g T.toThrowableT Z self msg).setCell self x).frames = .java (initSJ T.toThrowableT Z self msg 0 []) :: .java g :: V.frames.tail := frames_entered htopV _
    have hlU : e.platform.stackLimits ((initSInside (V.setVm vm1) g T.toThrowableT Z self msg).setCell self x).me = lim := by
      show e.platform.stackLimits (initSInside (V.setVm vm1) g T.toThrowableT Z self msg).me = lim
      rw [State.stackLimits_pushFrame, State.stackLimits_setTop _ htopV]; exact hlim
    have hXvm : ∀ vm, ((initSInside (V.setVm vm1) g T.toThrowableT Z self msg).setCell self x).setVm vm = ((initSInside (V.setVm vm) g T.toThrowableT Z self msg).setCell self x) := fun vm => by rw [State.setCell_setVm, initSInside_setVm, State.setVm_twice]
    have hXc : ((initSInside (V.setVm vm1) g T.toThrowableT Z self msg).setCell self x).cur = t := ht
    have hXW : s₀.WarmedH ((initSInside (V.setVm vm1) g T.toThrowableT Z self msg).setCell self x).vm := hW1
    have hXh : ((initSInside (V.setVm vm1) g T.toThrowableT Z self msg).setCell self x).heap[self]? = some x := heapAt_setCell_self (s := initSInside (V.setVm vm1) g T.toThrowableT Z self msg) _ hlt
    have hXS : ((initSInside (V.setVm vm1) g T.toThrowableT Z self msg).setCell self x).heap[T.aS]? = some cellS := by rw [heapAt_setCell_ne _ (Ne.symm hneS)]; exact hcellS
    obtain ⟨g₀, hg⟩ := Option.isSome_iff_exists.mp h.top
    obtain ⟨tl, htl⟩ := State.topJava?_eq_some.mp hg
    have hlen : V.frames.length = (Frame.java g :: V.frames.tail).length := by rw [htl]; rfl
    have hlen2 : ((initSInside (V.setVm vm1) g T.toThrowableT Z self msg).setCell self x).frames.length + 2 < lim.1 := by
      rw [hfU]
      simp only [List.length_cons] at hlen ⊢
      omega
    have hw2 : (stackUse (.java (initSJ T.toThrowableT Z self msg 24 []) :: ((initSInside (V.setVm vm1) g T.toThrowableT Z self msg).setCell self x).frames.tail)).2 + 43 ≤ lim.2 := by
      rw [hfU, List.tail_cons, stackUse_java]
      show (stackUse (Frame.java g :: V.frames.tail)).2 + (2 + 11 + 2 * 0 + operandWords []) + 43 ≤ lim.2
      simp only [operandWords, List.foldl_nil]
      omega
    obtain ⟨vm2, hW2, st⟩ := ne_fill p (self := self) (g := initSJ T.toThrowableT Z self msg 24 []) (c := Z.code) hA hexec T L N LN hXW (x := x) (cellS := cellS) (kcell := kcell) (u0 := u0) (ig := .invokevirtual 27) (len := 3) [] hXh (by rw [hxv]; exact hobj) (by rw [hxv]; exact hknown) (by rw [hxm]; exact hfree)
      (by rw [hxc]; exact hkcell) (by rw [hxc]; exact hsel0) hXS hneS hknownS hvU hvS hv0P hneSt (tk htS) (tk ht1) (by rw [hXc]; exact hskip) htr (by rw [LZ.bytes]; exact LibCode.Throwable.InitS.at_24) hlU hlen2 hw2
    refine ⟨vm2, hW2, fun t' hs => st t' ?_⟩
    rw [hXc, hXvm]
    exact hs
  have hfs : (ne_fin T N x u0 t).left.slots.size = cell.slots.size := by
    rw [Cell.left_slots]
    show ((((npeCell N.toNpeT x t).withEntry t).setSlot T.fStack.slot u0.v).left).slots.size = _
    rw [Cell.left_slots]
    simp [npeCell, Cell.setSlot, Cell.withEntry, hxs]
  have hfc : (ne_fin T N x u0 t).left.cls = cell.cls := by
    rw [Cell.left_cls]
    show ((((npeCell N.toNpeT x t).withEntry t).setSlot T.fStack.slot u0.v).left).cls = _
    rw [Cell.left_cls]; exact hxc
  have hfv : (ne_fin T N x u0 t).left.vm = cell.vm := by
    rw [Cell.left_data]
    show ((((npeCell N.toNpeT x t).withEntry t).setSlot T.fStack.slot u0.v).left).vm = _
    rw [Cell.left_data]; exact hxv
  rw [hx] at hfill hfs hfc hfv
  obtain ⟨vm', hW', st⟩ := Steps.throwableInitSColdByV p h hexec T L Z LZ M LM hW (F := fun u => u.setCell self (ne_fin T N (preparedCellV T.toThrowableT cell self u0 sen) u0 t).left) (heapOnly_id.thenSetCell self _) (fun u vm => rfl)
    hmsg (cF := (ne_fin T N (preparedCellV T.toThrowableT cell self u0 sen) u0 t).left) hcell hknown (fun u hu => heapAt_setCell_self _ (Array.getElem?_eq_some_iff.mp hu).1) hfc hfv hfs htM hdg (mSel := N.fill) (methSel := N.methFill) (kSel := N.kN) hobj hselF LN.method LN.fillAbstract LN.cls LN.notInterface hfill acts
    hcellS hneS hknownS hvU hvSen htC htS htP r1 r2
  refine ⟨vm', hW', fun target hrest => st target ?_⟩
  rw [setCell_twice, setCell_twice]
  exact hrest
/-- the whole construction, over the constructors that only pass the text on -/
theorem ne_init (p : Program) {e : Env} {below : List Frame} {s₀ V : State} {g : JFrame} {c : Code} (h : At V g.method c below) (hexec : p.tables.exec = Jvm.exec)
    (T : ThrowableC) (L : T.Links e.platform s₀) (Z : Init0T) (LZ : Z.LaidS T.toThrowableT) (M : MsgC) (LM : M.Links T e.platform s₀) (N : NpeC) (LN : N.Links T e.platform s₀) (hW : s₀.WarmedH V.vm)
    {u0 sen : RefV} {msg : Value} (hmsg : msg.isRef = true) {cell cellS : Cell} {kcell : Class} {t : ThreadId} (ht : V.cur = t)
    (hcell : V.heap[self]? = some cell) (hobj : ∀ k, cell.vm ≠ .statics k) (hknown : cell.vm ≠ .unknown) (hfree : cell.monitor.owner = none)
    (hkcell : s₀.vm.classes[cell.cls]? = some kcell) (hsel0 : selectMethod e.platform s₀.vm cell.cls T.fill0 = .method T.fill0)
    (hcellS : V.heap[T.aS]? = some cellS) (hneS : T.aS ≠ self) (hknownS : cellS.vm ≠ .unknown) (hvU : cellS.slots[T.fUnassigned.slot]? = some u0.v)
    (hv0 : cell.slots[N.fState.slot]? = some (.int 0)) (hneC : T.fCause.slot ≠ N.fState.slot) (hneSt : T.fStack.slot ≠ N.fState.slot) (hneP : T.fSupp.slot ≠ N.fState.slot)
    (htS : Takes s₀ cell T.fStack u0.v) (ht1 : Takes s₀ cell N.fState (.int 1))
    (hskip : SkipFacts T e.platform s₀ (fun u => u) u0 ((npeCell N.toNpeT (preparedCellV T.toThrowableT cell self u0 sen) t).withEntry t)) (htr : e.platform.stackTraces = false)
    (hselF : selectMethod e.platform s₀.vm cell.cls T.fill = .method N.fill) (hvSen : cellS.slots[T.fSentinel.slot]? = some sen.v)
    (htC : Takes s₀ cell T.fCause (.ref self)) (htP : Takes s₀ cell T.fSupp sen.v) (htM : Takes s₀ cell T.fMsg msg) (hobjLocals : T.codeObj.maxLocals = 1)
    (Ps : List PassC) (hL : ∀ P, P ∈ Ps → P.LinksS e.platform s₀) (hlink : PassesOn (Z.m T.toThrowableT) (Ps.map (·.toPassT))) {ig : Instr} {len : Nat} (acts : List Action)
    {lim : Nat × Nat} (hlim : e.platform.stackLimits V.me = lim) (hframes : V.frames.length + Ps.length + 3 < lim.1) (hwords : (stackUse (.java g :: V.frames.tail)).2 + 13 * Ps.length + 56 ≤ lim.2)
    (hdg : decode c.code g.pc = .ok (ig, len)) :
    ∃ vm', s₀.WarmedH vm' ∧ ∀ target, Steps p.tables e below (((V.setVm vm').setCell self ((ne_fin T N (preparedCellV T.toThrowableT cell self u0 sen) u0 t).left.setSlot T.fMsg.slot msg)).setTop { g with pc := g.pc + len }) target →
      Steps p.tables e below (doInvoke e (V.setTop g) acts (firstOf (Z.m T.toThrowableT) (Ps.map (·.toPassT))) #[.ref self, msg]).1 target := by
  obtain ⟨f1, -, -, f4, f5, f6⟩ := chainEnd_facts e.platform self msg (Ps.map (·.toPassT)) V g h.top
  have fc := chainEnd_cur self msg (Ps.map (·.toPassT)) V g
  rw [List.length_map] at f5 f6
  refine Steps.initChainSCold hexec (H := fun u => u.setCell self ((ne_fin T N (preparedCellV T.toThrowableT cell self u0 sen) u0 t).left.setSlot T.fMsg.slot msg)) (heapOnly_id.thenSetCell self _) (Z.m T.toThrowableT) hmsg lim Ps V g c ig len acts h hW hL hlink hdg hlim (by omega) (by omega) (fun vm1 hW1 c' ig' len' hA' hdg' => ?_)
  simp only [chainEnd_setVm] at hA' hdg' ⊢
  generalize chainEnd self msg V g (Ps.map (·.toPassT)) = E at f1 f4 f5 f6 fc hA' hdg' ⊢
  obtain ⟨vm2, hW2, st⟩ := ne_initS p (V := E.1.setVm vm1) (g := E.2) (self := self) hA' hexec T L Z LZ M LM N LN hW1 (u0 := u0) (sen := sen) hmsg (t := t) (fc.trans ht)
    (by show E.1.heap[self]? = _; rw [f1]; exact hcell) hobj hknown hfree hkcell hsel0 (by show E.1.heap[T.aS]? = _; rw [f1]; exact hcellS) hneS hknownS hvU hv0 hneC hneSt hneP htS ht1 hskip htr
    hselF hvSen htC htP htM hobjLocals [] (lim := lim) (by show e.platform.stackLimits E.1.me = lim; rw [f4]; exact hlim) (by show E.1.frames.length + 3 < lim.1; rw [f5]; omega)
    (by show (stackUse (.java E.2 :: E.1.frames.tail)).2 + 56 ≤ lim.2; rw [f6]; omega) hdg'
  exact ⟨vm2, hW2, fun t' hs => st t' (by rw [State.setVm_twice]; exact hs)⟩
end NE2
section NE3
variable {p : Program} {l : Launch} {e : Env} {R : Room} {s : State} {m₀ : MethodId} {args : Array Value} {below : List Frame} {meth : Method} {c : Code} {W : State} {locs : List Loc} {cells slots : Nat}
abbrev ne_bare (T : ThrowableC) (N : NpeC) (cell : Cell) (self : Addr) (u0 sen : RefV) (msg : Value) : Cell := (npeBareV T.toThrowableT N.toNpeT cell self u0 sen).setSlot T.fMsg.slot msg
/-- the words of 'new NullPointerException(text)' -/
def ne_at (own : String) (ic : Nat) (names : List String) : List Cond :=
  Bundle.throwableAtoms ++ Bundle.throwableSAtoms ++ Bundle.npeAtoms ++ Bundle.chainSAtoms Bundle.nN names ++
  [.methodLink own ic (Bundle.initS Bundle.nN), .instantiable Bundle.nN 8, .selects Bundle.nN Bundle.tFill0 Bundle.tFill0, .selects Bundle.nN Bundle.tFill Bundle.nFill,
   .lays Bundle.nN Bundle.tN "cause" "Ljava/lang/Throwable;", .lays Bundle.nN Bundle.tN "stackTrace" Bundle.steD, .lays Bundle.nN Bundle.tN "suppressedExceptions" Bundle.listD, .lays Bundle.nN Bundle.tN "detailMessage" "Ljava/lang/String;",
   .isRef (.static Bundle.tN "UNASSIGNED_STACK" Bundle.steD), .isRef (.static Bundle.tN "SUPPRESSED_SENTINEL" Bundle.listD),
   .fieldLink Bundle.tN 198 Bundle.tN "backtrace" "Ljava/lang/Object;", .lays Bundle.tN Bundle.tN "backtrace" "Ljava/lang/Object;", .lays Bundle.nN Bundle.tN "backtrace" "Ljava/lang/Object;"]
set_option maxHeartbeats 1000000 in
theorem ne_throw (X : Stand p l e R s m₀ args below meth c W locs cells slots) (hexec : p.tables.exec = Jvm.exec) (htr : e.platform.stackTraces = false) {own : String} {names : List String} {ic : Nat}
    (hown : s.vm.findClass own = some m₀.cls) (hcls : Bundle.fit Bundle.nN = true) (hnames : ∀ n ∈ names, Bundle.fit n = true)
    (h : ∀ a ∈ ne_at own ic names, a.before args s = true)
    (hlocs : ∀ x ∈ locs, ∀ cell, s.heap[x.base]? = some cell → cell.vm.isStatics = false)
    {a : Addr} {cX : ClassId} {kX : Class} (hfoundX : s.vm.findClass Bundle.nN = some cX) (hkX : s.vm.classes[cX]? = some kX) (hcell : W.heap[a]? = some (freshCell cX kX)) (hnew : s.heap.size ≤ a)
    {msg : Value} (hmsg : msg.isRef = true)
    {g : JFrame} (hg : g.method = m₀) (hsize : g.locals.size = c.maxLocals) (hlocked : g.locked = none) (hentered : g.entered = []) {rest : List Value} (hstack : g.stack = msg :: .ref a :: .ref a :: rest)
    (hd6 : decode c.code g.pc = .ok (.invokespecial ic, 3)) (hd9 : decode c.code (g.pc + 3) = .ok (.athrow, 1)) (hout : ∀ x ∈ c.exceptionTable.toList, covers x (g.pc + 3) = false)
    (hRframes : names.length + 4 < R.frames) (hRlocals : 2 * g.monitorRoom + ((Value.ref a :: rest).map fun v => v.category).sum + (13 * (names.length + 1) + 56) ≤ R.locals) (hlocks : meth.locks = false) :
    ∃ U : State, Steps p.tables e below (W.setTop g) U ∧ U.status = .running ∧ Ended U below (.threw a) ∧ s.WarmedH U.vm ∧ s.sameButNew ({ U with vm := s.vm } : State) locs cells slots ∧
      ∃ ce, U.heap[a]? = some ce ∧ ce.vm = .none ∧ s.vm.findClass Bundle.nN = some ce.cls := by
  have howns : e.platform.frameOwnsMonitors = true := by rw [X.admits.platform]
  have hfin : e.platform.finalization = false := by rw [X.admits.platform]
  have hpl : e.platform.magicAccessors = ({} : Platform).magicAccessors := by rw [X.admits.platform]
  have hpl2 : e.platform.arrayCloneIsPublic = true := by rw [X.admits.platform]
  have a' : ∀ x, x ∈ ne_at own ic names → x.holds args s none s [] = true := fun x hx => h x hx
  obtain ⟨T, Z0, L, -, Y⟩ := ThrowableC.of_atoms (args := args) howns hfin hpl (fun x hx => h x (by simp [ne_at, hx]))
  obtain ⟨Z, M, LZ, LM, hnZ⟩ := Init0T.ofS_atoms (args := args) hpl L Y (fun x hx => h x (by simp [ne_at, hx]))
  obtain ⟨N, LN, hcN, hnNF, hordN, hffS⟩ := NpeC.of_atoms (args := args) hpl hpl2 L Y (fun x hx => h x (by simp [ne_at, hx]))
  obtain ⟨P1, Ps, hlen, L1, hL, hP1m, hlink1, hlink⟩ := Bundle.chainS (args := args) hpl hnZ names Bundle.nN hcls hnames (fun x hx => h x (by simp [ne_at, hx]))
  have hfound : s.vm.findClass Bundle.nN = some P1.m.cls := findClass_of_methodNamed hP1m
  cases Option.some.inj (hfoundX.symm.trans hfound)
  obtain ⟨c1, kX', hc1, hk, hord, -, -, hn8⟩ := Cond.instantiable_spec (a' (.instantiable Bundle.nN 8) (by simp [ne_at]))
  cases Option.some.inj (hc1.symm.trans hfound)
  cases Option.some.inj (hkX.symm.trans hk)
  have hsel0 : selectMethod e.platform s.vm P1.m.cls T.fill0 = .method T.fill0 := by
    obtain ⟨c2, r2, m2, q1, q2, q3, q4, -⟩ := Cond.selects_spec (a' (.selects Bundle.nN Bundle.tFill0 Bundle.tFill0) (by simp [ne_at]))
    cases Option.some.inj (q1.symm.trans hfound)
    cases Option.some.inj (q2.symm.trans (State.methodFound?_of_named Y.fill0 (by decide)))
    cases Option.some.inj (q3.symm.trans Y.fill0)
    rw [Launch.admits_selectMethod X.admits]; exact q4
  have hselF : selectMethod e.platform s.vm P1.m.cls T.fill = .method N.fill := by
    obtain ⟨c2, r2, m2, q1, q2, q3, q4, -⟩ := Cond.selects_spec (a' (.selects Bundle.nN Bundle.tFill Bundle.nFill) (by simp [ne_at]))
    cases Option.some.inj (q1.symm.trans hfound)
    cases Option.some.inj (q2.symm.trans (State.methodFound?_of_named Y.fill (by decide)))
    cases Option.some.inj (q3.symm.trans hnNF)
    rw [Launch.admits_selectMethod X.admits]; exact q4
  obtain ⟨cellS0, hcS0, hiss⟩ := Y.statics
  obtain ⟨u0, hu0⟩ := Cond.staticRefV Y.unassigned L.unassignedStatic L.statics hcS0 hiss (a' (.isRef (.static Bundle.tN "UNASSIGNED_STACK" Bundle.steD)) (by simp [ne_at]))
  obtain ⟨sen, hsen⟩ := Cond.staticRefV Y.sentinel L.sentinelStatic L.statics hcS0 hiss (a' (.isRef (.static Bundle.tN "SUPPRESSED_SENTINEL" Bundle.listD)) (by simp [ne_at]))
  obtain ⟨ci198, i198, fB, hk198, hg198, ha198, hsB, -, hnB, htB, hffB⟩ := Cond.ownField (t := .object "java/lang/Object") Y.found L.cls (by decide +kernel) (a' (.fieldLink Bundle.tN 198 Bundle.tN "backtrace" "Ljava/lang/Object;") (by simp [ne_at])) (a' (.lays Bundle.tN Bundle.tN "backtrace" "Ljava/lang/Object;") (by simp [ne_at])) e.platform hpl
  obtain ⟨cellS, hcS', heS, -, hkeep⟩ := X.same.2.2.2.2.2 T.aS cellS0 hcS0
  have hcellS : W.heap[T.aS]? = some cellS := hcS'
  have hout' : ∀ i, (⟨T.aS, i⟩ : Loc) ∉ locs := fun i hmem => by
    have := hlocs _ hmem cellS0 hcS0
    rw [hiss] at this; cases this
  have hknownS : cellS.vm ≠ .unknown := by
    rw [heS]; intro hu
    rw [show cellS0.vm = .unknown from hu] at hiss
    cases hiss
  have hneS : T.aS ≠ a := Nat.ne_of_lt (Nat.lt_of_lt_of_le (Array.getElem?_eq_some_iff.mp hcS0).1 hnew)
  obtain ⟨iM, hffM⟩ := Y.msg
  obtain ⟨tyC, dC, hdC, hdnC⟩ := Cond.laysAt hfound hk Y.cause (a' (.lays Bundle.nN Bundle.tN "cause" "Ljava/lang/Throwable;") (by simp [ne_at]))
  obtain ⟨tyS, dS, hdS, hdnS⟩ := Cond.laysAt hfound hk Y.stack (a' (.lays Bundle.nN Bundle.tN "stackTrace" Bundle.steD) (by simp [ne_at]))
  obtain ⟨tyP, dP, hdP, hdnP⟩ := Cond.laysAt hfound hk Y.supp (a' (.lays Bundle.nN Bundle.tN "suppressedExceptions" Bundle.listD) (by simp [ne_at]))
  obtain ⟨tyM, dM, hdM, hdnM⟩ := Cond.laysAt hfound hk hffM (a' (.lays Bundle.nN Bundle.tN "detailMessage" "Ljava/lang/String;") (by simp [ne_at]))
  obtain ⟨tyX, dX, hdX, hdnX⟩ := Cond.laysAt hfound hk hffS (a' (.lays Bundle.nN Bundle.nN "extendedMessageState" "I") (by simp [ne_at, Bundle.npeAtoms]))
  obtain ⟨tyB, dB, hdB, hdnB⟩ := Cond.laysAt hfound hk hffB (a' (.lays Bundle.nN Bundle.tN "backtrace" "Ljava/lang/Object;") (by simp [ne_at]))
  have hnX : N.fState.name = "extendedMessageState" := (State.fieldFound?_type hffS (t := .int) (by decide +kernel)).1
  have bC := Cond.laysApart hdB hdC hdnB hdnC (by rw [hnB, Y.causeName]; decide)
  have bS := Cond.laysApart hdB hdS hdnB hdnS (by rw [hnB, Y.stackName]; decide)
  have bP := Cond.laysApart hdB hdP hdnB hdnP (by rw [hnB, Y.suppName]; decide)
  have bX := Cond.laysApart hdB hdX hdnB hdnX (by rw [hnB, hnX]; decide)
  have hskip : SkipFacts T e.platform s (fun u => u) u0 ((npeCell N.toNpeT (preparedCellV T.toThrowableT (freshCell P1.m.cls kX) a u0 sen) W.cur).withEntry W.cur) :=
    ⟨{ ci198 := ci198, i198 := i198, fBack := fB }, ⟨hk198, hg198, ha198, hsB⟩, by
      have := fresh_default (c := P1.m.cls) tyB
      rw [htB] at this
      simpa [npeCell, preparedCellV, Cell.setSlot, Cell.withEntry, Array.getElem?_setIfInBounds, bC, bS, bP, bX, bC.symm, bS.symm, bP.symm, bX.symm, defaultValue] using this, fun _ _ => rfl⟩
  obtain ⟨tm, methC, cdC, kC, vm₁, hnC, -, -, -, -, -, -, -, hW₁, st1⟩ := Steps.initColdS (tb := p.tables) (e := e) (below := below) (s := s) (U := W) X.here hexec X.warmed hpl hown (t := Bundle.initS Bundle.nN) rfl rfl (Bundle.fit_spec hcls).2
    (a' (.methodLink own ic (Bundle.initS Bundle.nN)) (by simp [ne_at])) (h (.instanceMethod (Bundle.initS Bundle.nN)) (by cases names <;> simp [ne_at, Bundle.chainSAtoms, Bundle.passSAtoms])) (bytes := Bundle.six) (maxL := 2) (h (.code (Bundle.initS Bundle.nN) Bundle.six 2 none) (by cases names <;> simp [ne_at, Bundle.chainSAtoms, Bundle.passSAtoms]))
    (f := g) hg (a := a) (msg := msg) (rest := .ref a :: rest) hstack hd6
  cases Option.some.inj (hnC.symm.trans hP1m)
  have X₁ := X.noted hW₁
  have hA1 : At (W.setVm vm₁) ({ g with stack := .ref a :: rest } : JFrame).method c below := by
    show At (W.setVm vm₁) g.method c below
    rw [hg]; exact X₁.here
  have hfr' : (W.setVm vm₁).frames.length + (P1 :: Ps).length + 3 < (e.platform.stackLimits (W.setVm vm₁).me).1 := by
    have := X₁.framesAbove (n := names.length + 4) hRframes
    simp only [List.length_cons, hlen]; omega
  have hwd' : (stackUse (.java ({ g with stack := .ref a :: rest } : JFrame) :: (W.setVm vm₁).frames.tail)).2 + 13 * (P1 :: Ps).length + 56 ≤ (e.platform.stackLimits (W.setVm vm₁).me).2 := by
    have := X₁.stackAbove (g := { g with stack := .ref a :: rest }) hsize (K := 13 * (names.length + 1) + 56) hRlocals
    simp only [List.length_cons, hlen]; omega
  obtain ⟨vm₂, hW₂, st2⟩ := ne_init p (self := a) (V := W.setVm vm₁) (g := { g with stack := .ref a :: rest }) hA1 hexec T L Z LZ M LM N LN X₁.warmed (u0 := u0) (sen := sen) hmsg (cell := freshCell P1.m.cls kX) (cellS := cellS) (kcell := kX) (t := W.cur) rfl
    hcell (fun _ => by simp) (by simp) rfl hk hsel0 hcellS hneS hknownS (by rw [hkeep _ (hout' _)]; exact hu0) (by rw [fresh_default tyX, LN.stateInt]; rfl)
    (Cond.laysApart hdC hdX hdnC hdnX (by rw [Y.causeName, hnX]; decide)) (Cond.laysApart hdS hdX hdnS hdnX (by rw [Y.stackName, hnX]; decide)) (Cond.laysApart hdP hdX hdnP hdnX (by rw [Y.suppName, hnX]; decide))
    (Takes.of_laid hk hord tyS (by rw [Y.stackType]; exact fits_refV_array _ u0)) (Takes.of_laid hk hord tyX (by rw [LN.stateInt]; rfl)) hskip htr hselF (by rw [hkeep _ (hout' _)]; exact hsen)
    (Takes.of_laid hk hord tyC (by rw [Y.causeType]; rfl)) (Takes.of_laid hk hord tyP (by rw [Y.suppType]; exact fits_refV_object _ sen)) (Takes.of_laid hk hord tyM (by rw [Y.msgType]; exact fits_refV_object _ ⟨msg, hmsg⟩)) Y.objLocals
    (P1 :: Ps) (fun P hP => by rcases List.mem_cons.mp hP with rfl | hP; exact L1; exact hL P hP) ⟨hlink1, hlink⟩ [] rfl hfr' hwd' hd6
  rw [show ne_fin T N (preparedCellV T.toThrowableT (freshCell P1.m.cls kX) a u0 sen) u0 W.cur = _ from rfl, npeBareV_eq T.toThrowableT N.toNpeT a u0 sen W.cur rfl rfl] at st2
  have X2 := X₁.noted hW₂
  have ha : a < ((W.setVm vm₁).setVm vm₂).heap.size := (Array.getElem?_eq_some_iff.mp hcell).1
  have X3 := (((((X2.stored (a := a) hcell T.fCause.slot (.ref a)).storedAgain ha T.fStack.slot u0.v).storedAgain ha T.fSupp.slot sen.v).storedAgain ha N.fState.slot (.int 1)).storedAgain ha T.fStack.slot u0.v).storedAgain ha T.fMsg.slot msg
  obtain ⟨hwalk, hrun, hended, hWU, hsame⟩ := X3.athrowLeaves hexec (g := { g with stack := .ref a :: rest, pc := g.pc + 3 }) hg hlocked hentered hout (a := a) (rest := rest) rfl hd9
  have hU := heapAt_setCell_self (s := (W.setVm vm₁).setVm vm₂) (ne_bare T N (freshCell P1.m.cls kX) a u0 sen msg) ha
  refine ⟨_, st1 _ (fun acts => ?_), hrun, hended, hWU, hsame.weaken (fun y hy hlt' => ?_) (Nat.le_refl _) (Nat.le_refl _), _, hU, rfl, hfound⟩
  · rw [doInvoke_state]
    exact st2 _ hwalk
  · simp only [List.append_assoc, List.cons_append, List.nil_append] at hy
    rcases List.mem_append.mp hy with h1 | h1
    · exact h1
    · exfalso
      have hb : y.base = a := by
        simp only [List.mem_cons, List.not_mem_nil, or_false] at h1
        rcases h1 with rfl | rfl | rfl | rfl | rfl | rfl <;> rfl
      rw [hb] at hlt'
      exact Nat.not_lt.mpr hnew hlt'
end NE3
section NE4
variable {p : Program} {l : Launch} {e : Env} {R : Room} {s : State} {m : MethodId} {args : Array Value} {below : List Frame} {meth : Method} {c : Code} {H : Heap} {locs : List Loc} {cells slots : Nat} {ls : Array Slot} {rest : List Value}
variable {Qc : Array Value → State → Outcome → State → Prop} {XC : String → State → State → Prop} {free : Addr → Prop}
def ne_atS (own : String) (ic : Nat) (names : List String) : List Cond := (ne_at own ic names).filter vx_no
/-- 'throw new NullPointerException("text")': new; dup; ldc; invokespecial; athrow -/
theorem ne_throwS {cc : ByteArray} {pc : Nat} (hexec : p.tables.exec = Jvm.exec) (hb : c.code = cc) (hl : l.stackTraces = false) {own text : String} {names : List String} {ik is ic mc ms sa : Nat} {A : Nat → Prop}
    (hown : s.vm.findClass own = some m.cls) (hcls : Bundle.fit Bundle.nN = true) (hnames : ∀ n ∈ names, Bundle.fit n = true)
    (hk : (Cond.classLink own ik Bundle.nN).before args s = true) (hini : (Cond.initialized Bundle.nN).before args s = true) (hstr : vk_R own is text sa s) (hat : ∀ w ∈ ne_atS own ic names, w.before args s = true)
    (hgood : ∀ w ∈ Cond.classLink own ik Bundle.nN :: Cond.initialized Bundle.nN :: ne_atS own ic names, vx_ot w = true)
    (hU : vx_Zq Bundle.tN "UNASSIGNED_STACK" Bundle.steD A s s.heap) (hN : vx_Zq Bundle.tN "SUPPRESSED_SENTINEL" Bundle.listD A s s.heap) (hS : va_S A s.heap H locs) (hsize : ls.size = c.maxLocals)
    (d0 : decode cc pc = .ok (.new ik, 3)) (d3 : decode cc (pc + 3) = .ok (.dup, 1)) (d4 : decode cc (pc + 4) = .ok (.ldc is, 2)) (d6 : decode cc (pc + 6) = .ok (.invokespecial ic, 3)) (d9 : decode cc (pc + 9) = .ok (.athrow, 1))
    (hout : ∀ x ∈ c.exceptionTable.toList, covers x (pc + 9) = false)
    (hRframes : names.length + 4 < R.frames) (hRlocals : (rest.map fun v => v.category).sum + (13 * (names.length + 1) + 57) ≤ R.locals) (hRcells : cells + 1 ≤ R.cells) (hRslots : slots + 8 ≤ R.slots) (hlocks : meth.locks = false)
    (hx : ∀ t : State, s.vm.Alike t.vm → H.size ≤ t.heap.size → (∀ q : Nat, q < H.size → t.heap[q]? = H[q]?) → XC Bundle.nN s t)
    (hf : ∀ z ∈ locs, free z.base) (hc : cells + 1 ≤ mc) (hs : slots + 8 ≤ ms) :
    W p l e R s m args below meth c H locs cells slots (vx_MQ below Qc XC args s mc ms free) (F0 m pc ls rest) := by
  intro T hT X
  have htr : e.platform.stackTraces = false := (show e.platform.stackTraces = l.stackTraces by rw [X.admits.platform]).trans hl
  have Y := vx_rebase X (R' := { frames := R.frames, locals := R.locals, cells := 1, slots := 8 }) (Nat.le_refl _) (Nat.le_refl _) hRcells hRslots
  obtain ⟨s', hA⟩ : ∃ z, z = (T.setVm s.vm).setFrames (.invoking m args :: below) := ⟨_, rfl⟩
  rw [← hA] at Y
  have hvm : s'.vm = s.vm := by rw [hA]; rfl
  have hhp : s'.heap = H := by rw [hA]; exact hT
  have hW0 : s.WarmedH s'.vm := by rw [hvm]; exact State.WarmedH.refl s
  have hat' : ∀ w ∈ ne_atS own ic names, w.before args s' = true := fun w hw => vx_ot_at hW0 hvm.symm (hgood w (List.mem_cons_of_mem _ (List.mem_cons_of_mem _ hw))) (hat w hw)
  have hk' : (Cond.classLink own ik Bundle.nN).before args s' = true := vx_ot_at hW0 hvm.symm (hgood _ List.mem_cons_self) hk
  have hini' : (Cond.initialized Bundle.nN).before args s' = true := vx_ot_at hW0 hvm.symm (hgood _ (List.mem_cons_of_mem _ List.mem_cons_self)) hini
  have hU' : vx_Zq Bundle.tN "UNASSIGNED_STACK" Bundle.steD A s' s'.heap := by rw [hhp]; exact vx_Zq.moved hW0.alike (hU.kept hS.2.1)
  have hN' : vx_Zq Bundle.tN "SUPPRESSED_SENTINEL" Bundle.listD A s' s'.heap := by rw [hhp]; exact vx_Zq.moved hW0.alike (hN.kept hS.2.1)
  have h : ∀ w ∈ ne_at own ic names, w.before args s' = true := vx_own hat' (vx_isRefq hU'.1) (vx_isRefq hN'.1) hU'.2.word hN'.2.word
  have hown' : s'.vm.findClass own = some m.cls := by rw [hvm]; exact hown
  have hins : (Cond.instantiable Bundle.nN 8).before args s' = true := h _ (by simp [ne_at])
  obtain ⟨vm₁, cX, kX, hfX, hkX, -, -, X₁, st1⟩ := Y.newCold hexec (own := own) (C := Bundle.nN) (index := ik) (n := 8) hown' hk' hins hini'
    (g := F0 m pc ls rest) rfl (by rw [hb]; exact d0) (Nat.le_refl _) (Nat.le_refl _)
  generalize hT1 : (T.setVm vm₁).pushCell { cls := cX, slots := kX.instanceTypes.map defaultValue, vm := .none } = T1 at X₁ st1
  have hcat : (Value.ref T.heap.size).category = 1 := rfl
  have hcellA : T1.heap[T.heap.size]? = some (freshCell cX kX) := by rw [← hT1]; exact State.heap_pushCell_size _ _
  have d3' : decode c.code (pc + 3) = .ok (.dup, 1) := by rw [hb]; exact d3
  have d4' : decode c.code (pc + 4) = .ok (.ldc is, 2) := by rw [hb]; exact d4
  have hstr' : vk_R own is text sa s' := vk_R.warm hW0 hstr
  obtain ⟨U, hsteps, hrun, hend, hW, hsame, ce, hce, hcv, hcc⟩ := ne_throw X₁ hexec htr (own := own) (names := names) (ic := ic) hown' hcls hnames h (fun x hx => nomatch hx) hfX hkX hcellA (by rw [hhp, hT]; exact Nat.le_refl _) (msg := .ref sa) rfl
    (g := { method := m, pc := pc + 6, locals := ls, stack := .ref sa :: .ref T.heap.size :: .ref T.heap.size :: rest, locked := none }) rfl hsize rfl rfl (rest := rest) rfl
    (by rw [hb]; exact d6) (by rw [hb]; exact d9) hout hRframes (by simp only [List.map_cons, List.sum_cons, hcat]; omega) hlocks
  obtain ⟨f1, f2⟩ := vx_frame hsame
  rw [hhp] at f1 f2
  have hWs : s.WarmedH U.vm := State.WarmedH.trans hW0 hW
  have hcl : s.vm.findClass Bundle.nN = some ce.cls := by
    rw [hvm] at hcc
    exact hcc
  have hall : s.sameButNew ({ U with vm := s.vm } : State) locs mc ms := by
    subst hA
    obtain ⟨e1, e2⟩ := hsame
    rw [State.setFrames_setFrames] at e1
    have h2 : (T.setVm s.vm).sameButNew ({ U with vm := s.vm } : State) [] (0 + 1) (0 + 8) := ⟨e1, e2⟩
    have h3 := X.same.trans h2
    rw [List.append_nil] at h3
    exact h3.mono hc hs
  refine ⟨U, ?_, .threw T.heap.size, hrun, hend, Or.inr ⟨T.heap.size, rfl, Bundle.nN, ce, locs, hx U hWs.alike f1 (fun q hq => f2 q hq (fun z hz => nomatch hz)), hce, hcv, hcl, hWs, hall, hf⟩⟩
  refine st1 _ ?_
  show Steps p.tables e below (T1.setTop { method := m, pc := pc + 3, locals := ls, stack := .ref T.heap.size :: rest, locked := none }) _
  jvm_step X₁.here [X₁.here.top, hexec, d3', Value.category]
  exact X₁.ldcString hexec (own := own) (text := text) (index := is) (a := sa) hown' hstr'.1 hstr'.2
    (g := { method := m, pc := pc + 4, locals := ls, stack := .ref T.heap.size :: .ref T.heap.size :: rest, locked := none }) rfl d4' _ hsteps
end NE4
section NE5
/-- throw new NullPointerException("..") -/
theorem mi_throwN_ok {own : String} {cc : ByteArray} {nL pc : Nat} {ik is ic : Nat} {text : String} {names : List String} (d0 : decode cc pc = .ok (.new ik, 3)) (d3 : decode cc (pc + 3) = .ok (.dup, 1)) (d4 : decode cc (pc + 4) = .ok (.ldc is, 2)) (d6 : decode cc (pc + 6) = .ok (.invokespecial ic, 3)) (d9 : decode cc (pc + 9) = .ok (.athrow, 1))
    (hcls : Bundle.fit Bundle.nN = true) (hnames : ∀ n ∈ names, Bundle.fit n = true) (hnl : names.length ≤ 2) (hk : Cond.classLink own ik Bundle.nN ∈ mi_good) (hini : Cond.initialized Bundle.nN ∈ mi_good) (hstr : (own, is, text) ∈ mi_str)
    (hat : ∀ w ∈ ne_atS own ic names, w ∈ mi_good ∨ w ∈ mi_nw) (hgood : ∀ w ∈ Cond.classLink own ik Bundle.nN :: Cond.initialized Bundle.nN :: ne_atS own ic names, vx_ot w = true) : mi_OkT own cc nL pc Bundle.nN := by
  intro b bs cI cL D LS xs p l e d s m args below meth c ini H locs ls h X htab hR hls hS
  obtain ⟨hx, hb, hml, hown, hts, hK, hbs, hnm, hlk, hfr1, hlo1, htr⟩ := X
  obtain ⟨k1, k2, k3, k4, k5, k6, k7, k8, k9⟩ := hK
  obtain ⟨sa, hsa⟩ := k8 _ hstr
  have hmw : ∀ w ∈ mi_nw, w.onTables = true := fun w hw => by
    have hn : mi_isNest w = true := (List.mem_filter.mp hw).2
    cases w <;> first | (cases hn; done) | rfl
  refine ne_throwS (A := fun q => b ≤ q) (rest := []) hx hb htr hown hcls hnames (hts _ hk) (hts _ hini) hsa (fun w hw => ?_) hgood k6 k7 hS (by rw [hls, hml]) d0 d3 d4 d6 d9 (fun x hx => (htab x hx).elim) ?_ ?_ ?_ ?_ hlk (fun t _ hz hq => ?_) hS.2.2 ?_ ?_
  · rcases hat w hw with h1 | h1
    · exact hts w h1
    · exact va_Nw.use (hmw w h1) (k2 w h1)
  · show names.length + 4 < d + 1 + 6; omega
  · show 0 + (13 * (names.length + 1) + 57) ≤ 40 * (d + 1) + 200; omega
  · show 0 + 1 ≤ 1; omega
  · show 0 + 8 ≤ 8; omega
  · refine ⟨rfl, fun k x hk0 => (hR k x hk0).kept (hq x.1 ((hR k x hk0).lt)), Nat.le_trans hS.1 hz, fun q h1 h2 => ?_⟩
    rw [hq q (Nat.lt_of_lt_of_le h1 hS.1)]
    exact hS.2.1 q h1 h2
  · omega
  · omega
end NE5
