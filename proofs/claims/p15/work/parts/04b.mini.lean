/-! THE STATIC SIDE: the classes' tables, the words, what is known of a state all the time. -/
section MI1
def mi_good : List Cond := lw_tbl.filter goodWord
def mi_isNest (w : Cond) : Bool := match w with
  | .fieldLinkNest _ _ _ _ _ _ => true
  | .methodLinkNest _ _ _ _ => true
  | .declares _ => true
  | .castable _ _ => true
  | _ => false
def mi_nw : List Cond := lw_tbl.filter mi_isNest
theorem mi_good_ok {w : Cond} (h : w ∈ mi_good) : goodWord w = true := (List.mem_filter.mp h).2
theorem mi_good_tbl {w : Cond} (h : w ∈ mi_good) : w ∈ lw_tbl := (List.mem_filter.mp h).1
/-- a class of the list: its words, its fields' types, their names apart -/
def mi_CF (ci : Nat) (C : String) (T : u_T) (N : Nat) (ty : Nat → FieldType) : Prop :=
  mi_cl[ci]? = some (C, T, N) ∧ (∀ w ∈ u_ws C T N, w ∈ mi_good) ∧ (∀ k, k < N → parseFieldDescriptor (T k).2.2.1 = some (ty k)) ∧ (∀ a, a < N → ∀ b, b < N → a ≠ b → (T a).2.1 ≠ (T b).2.1)
/-- entry 'index' of the class own names field k of class ci, of type fty, final or not -/
def mi_FL (own : String) (index ci k : Nat) (fty : FieldType) (fin : Bool) : Prop :=
  ∃ (C : String) (T : u_T) (N : Nat) (ty : Nat → FieldType), mi_CF ci C T N ty ∧ k < N ∧ ty k = fty ∧ (T k).2.2.2 = fin ∧ (T k).1 = C ∧
    (Cond.fieldLink own index (T k).1 (T k).2.1 (T k).2.2.1 ∈ mi_good ∨ ∃ host, Cond.fieldLinkNest own index (T k).1 (T k).2.1 (T k).2.2.1 host ∈ mi_nw)
/-- what is known of a state all the time -/
def mi_K (b bs : Nat) (cI cL : ClassId) (D : va_G) (LS : Nat) (xs : Nat → Int32) (U : State) : Prop :=
  va_K D mi_cl [(cI, .int), (cL, .long)] U ∧ (∀ w ∈ mi_nw, va_Nw w U) ∧ va_X bs LS xs U U.heap ∧ bs < b ∧ bs < U.heap.size ∧
  (vx_Zq Bundle.tN "UNASSIGNED_STACK" Bundle.steD (fun q => b ≤ q) U U.heap ∧ vx_Zq Bundle.tN "SUPPRESSED_SENTINEL" Bundle.listD (fun q => b ≤ q) U U.heap ∧ (∀ q ∈ mi_str, ∃ a, vk_R q.1 q.2.1 q.2.2 a U) ∧ ∀ q ∈ mi_ncs, va_Nc q.1 q.2 U)
theorem mi_nw_warm {w : Cond} (hw : w ∈ mi_nw) {s U : State} (hW : s.WarmedH U.vm) (h : va_Nw w s) : va_Nw w U := by
  have hn : mi_isNest w = true := (List.mem_filter.mp hw).2
  cases w <;> first | (cases hn; done) | exact va_Nw.warmF hW h | exact va_Nw.warmM hW h | exact va_Nw.warmD hW h | exact va_tabs rfl (rfl : (s.setVm U.vm).vm = U.vm) (by rw [Cond.castable_setVm hW.alike]; exact h)
theorem mi_K.warm {b bs : Nat} {cI cL : ClassId} {D : va_G} {LS : Nat} {xs : Nat → Int32} {s U : State} {H : Heap} {locs : List Loc} (h : mi_K b bs cI cL D LS xs s) (hS : va_S (fun q => b ≤ q) s.heap H locs) (hU : U.heap = H) (hW : s.WarmedH U.vm) : mi_K b bs cI cL D LS xs U := by
  obtain ⟨h1, h2, h3, h4, h5, h6, h7, h8, h9⟩ := h
  have hkp : ∀ a : Nat, a < s.heap.size → ¬ (fun q => b ≤ q) a → U.heap[a]? = s.heap[a]? := fun a ha hn => by rw [hU]; exact hS.2.1 a ha hn
  refine ⟨va_K.moved hW.alike h1, fun w hw => mi_nw_warm hw hW (h2 w hw), va_X.moved hW.alike (h3.kept (hkp bs h5 (Nat.not_le.mpr h4))), h4, ?_, ?_, ?_, fun q hq => ?_, fun q hq => (h9 q hq).moved hW.alike⟩
  · rw [hU]; exact Nat.lt_of_lt_of_le h5 hS.1
  · exact vx_Zq.moved hW.alike (h6.kept hkp)
  · exact vx_Zq.moved hW.alike (h7.kept hkp)
  · obtain ⟨a, ha⟩ := h8 q hq
    exact ⟨a, ha.warm hW⟩
theorem mi_K.calling {b bs : Nat} {cI cL : ClassId} {D : va_G} {LS : Nat} {xs : Nat → Int32} {U : State} (h : mi_K b bs cI cL D LS xs U) (g : JFrame) (mk : MethodId) (a : Array Value) : mi_K b bs cI cL D LS xs (U.calling g mk a) :=
  mi_K.warm (U := U.calling g mk a) (H := U.heap) (locs := []) h va_S.rf rfl (State.WarmedH.refl U)
/-- the heap holds the cells -/
def mi_R (b bs : Nat) (cI cL : ClassId) (D : va_G) (h : mH) (H : Heap) : Prop := va_P D mi_cl (mi_w b bs cI cL 0 h) H
theorem mi_R.size {b bs : Nat} {cI cL : ClassId} {D : va_G} {h : mH} {H : Heap} (hR : mi_R b bs cI cL D h H) (hb : b ≤ H.size) : b + h.length ≤ H.size := by
  cases hl : h.length with
  | zero => exact hb
  | succ n =>
    have h1 : n < h.length := by omega
    have h2 : (mi_w b bs cI cL 0 h)[n]? = some (b + (0 + n), mi_e b bs cI cL h[n]) := by rw [mi_w_get, List.getElem?_eq_getElem h1]; rfl
    have h3 : b + (0 + n) < H.size := (hR n _ h2).lt
    omega
/-- where a method stands: fixed -/
def mi_X (b bs : Nat) (cI cL : ClassId) (D : va_G) (LS : Nat) (xs : Nat → Int32) (own : String) (cc : ByteArray) (nL : Nat) (ini : Bool) (p : Program) (l : Launch) (R : Room) (s : State) (m : MethodId) (args : Array Value) (meth : Method) (c : Code) : Prop :=
  p.tables.exec = Jvm.exec ∧ c.code = cc ∧ c.maxLocals = nL ∧ s.vm.findClass own = some m.cls ∧ (∀ w ∈ mi_good, w.before args s = true) ∧ mi_K b bs cI cL D LS xs s ∧ b ≤ s.heap.size ∧ (ini = true → meth.name = "<init>") ∧ meth.locks = false ∧ 1 ≤ R.frames ∧ 40 ≤ R.locals ∧ l.stackTraces = false
/-- the machine comes to Q from the small state -/
def mi_W (b bs : Nat) (cI cL : ClassId) (D : va_G) (nL : Nat) (p : Program) (l : Launch) (e : Env) (R : Room) (s : State) (m : MethodId) (args : Array Value) (below : List Frame) (meth : Method) (c : Code) (Q : State → Prop) (kc ks n0 z0 : Nat) (x : mS) : Prop :=
  ∀ (H : Heap) (locs : List Loc) (ls : Array Slot), mi_R b bs cI cL D x.2.2.2 H → mi_has b bs ls nL x.2.1 → va_S (fun q => b ≤ q) s.heap H locs →
    W p l e R s m args below meth c H locs (x.2.2.2.length + kc - n0) (mi_z x.2.2.2 + ks - z0) Q (F0 m x.1 ls (x.2.2.1.map (mi_v b bs)))
/-- a step of the small machine is one of the machine -/
def mi_Ok (own : String) (cc : ByteArray) (nL : Nat) (ini : Bool) (pc : Nat) (f : mF) : Prop :=
  ∀ (al : Bool) (LS : Nat) (xs : Nat → Int32) (lo : mL) (st : List Value) (h : mH) (x : mS), f al LS xs lo st h = some x →
    (h.length ≤ x.2.2.2.length ∧ mi_z h ≤ mi_z x.2.2.2) ∧
    ∀ (b bs : Nat) (cI cL : ClassId) (D : va_G) (p : Program) (l : Launch) (e : Env) (R : Room) (s : State) (m : MethodId) (args : Array Value) (below : List Frame) (meth : Method) (c : Code) (Q : State → Prop) (kc ks n0 z0 : Nat),
      mi_X b bs cI cL D LS xs own cc nL ini p l R s m args meth c → (al = true → s.heap.size = b + n0 ∧ kc = 0) → n0 ≤ h.length → z0 ≤ mi_z h → x.2.2.2.length + kc - n0 ≤ R.cells → mi_z x.2.2.2 + ks - z0 ≤ R.slots →
      mi_W b bs cI cL D nL p l e R s m args below meth c Q kc ks n0 z0 x → mi_W b bs cI cL D nL p l e R s m args below meth c Q kc ks n0 z0 (pc, lo, st, h)
end MI1
