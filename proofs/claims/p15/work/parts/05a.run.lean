/-! RUNS of the small machine; methods; that a run is the machine's. -/
section MI5
/-- a call: the method's number, how many values, the receiver's kind, what a thrown exception answers -/
abbrev mA : Type := Nat × Nat × Option Nat × List (String × Int32)
abbrev mE : Type := mF ⊕ (Nat ⊕ (mA ⊕ String))
abbrev mT : Type := List (Nat × mE)
/-- a method: name, bytes, locals, answer's type, table of handlers, code -/
abbrev mD : Type := MethodName × ByteArray × Nat × Option FieldType × List (Nat × Nat × Nat × Nat) × mT
abbrev mQ : Type := Nat → List Value → mH → mR × mH → Prop
def mi_fnd : mT → Nat → Option mE
  | [], _ => none
  | q :: t, pc => if q.1 = pc then some q.2 else mi_fnd t pc
theorem mi_fnd_mem : ∀ (t : mT) (pc : Nat) (i : mE), mi_fnd t pc = some i → (pc, i) ∈ t
  | [], pc, i, h => by simp [mi_fnd] at h
  | q :: t, pc, i, h => by
    unfold mi_fnd at h
    split at h
    · next hq =>
      cases h
      subst hq
      exact List.mem_cons_self
    · exact List.mem_cons_of_mem _ (mi_fnd_mem t pc i h)
def mi_ret (k : Nat) (st : List Value) : Option (Option Value) := match k, st with
  | 0, [] => some none
  | 1, [.int x] => some (some (.int x))
  | 2, [.int x] => if x = 0 ∨ x = 1 then some (some (.int x)) else none
  | 3, [.ref a] => some (some (.ref a))
  | _, _ => none
/-- the receiver is an object of that kind -/
def mi_rcv (rk : Option Nat) (As : List Value) (h : mH) : Prop := match rk with
  | none => True
  | some ci => ∃ a fs, As.head? = some (.ref a) ∧ h[a]? = some (.inl (ci, fs))
def mi_aft (y : Nat) (hs : List (String × Int32)) (x r : mR × mH) (K : Option Value → Prop) : Prop := match x.1 with
  | .inl v => K v
  | .inr E => mi_thr.contains y = true ∧ match hs.lookup E with
    | some n => r = (.inl (some (.int n)), x.2)
    | none => hs = [] ∧ r = (.inr E, x.2)
def mi_run (t : mT) (al : Bool) (LS : Nat) (xs : Nat → Int32) (Call : mQ) : Nat → mS → mR × mH → Prop
  | 0, _, _ => False
  | n + 1, x, r => match mi_fnd t x.1 with
    | none => False
    | some (.inl f) => ∃ y, f al LS xs x.2.1 x.2.2.1 x.2.2.2 = some y ∧ mi_run t al LS xs Call n y r
    | some (.inr (.inl k)) => ∃ v, mi_ret k x.2.2.1 = some v ∧ r = (.inl v, x.2.2.2)
    | some (.inr (.inr (.inl c))) => ∃ As rest x1, x.2.2.1 = As.reverse ++ rest ∧ As.length = c.2.1 ∧ (rest.map (fun v => v.category)).sum ≤ 8 ∧ mi_rcv c.2.2.1 As x.2.2.2 ∧ Call c.1 As x.2.2.2 x1 ∧ mi_aft c.1 c.2.2.2 x1 r (fun v => mi_run t al LS xs Call n (x.1 + 3, x.2.1, v.toList ++ rest, x1.2) r)
    | some (.inr (.inr (.inr E))) => al = false ∧ x.2.2.1 = [] ∧ r = (.inr E, x.2.2.2)
def mi_sl : List Value → mL
  | [] => []
  | v :: l => (if v.category = 2 then [some v, none] else [some v]) ++ mi_sl l
def mi_ent (nL : Nat) (As : List Value) : mL := mi_sl As ++ List.replicate (nL - (mi_sl As).length) none
def mi_call (Ms : List mD) (al : Bool) (LS : Nat) (xs : Nat → Int32) : Nat → mQ
  | 0, _, _, _, _ => False
  | d + 1, y, As, h, r => match Ms[y]? with
    | none => False
    | some M => (mi_sl As).length ≤ M.2.2.1 ∧ (∀ E, r.1 = .inr E → r.2 = h) ∧ ∃ n, mi_run M.2.2.2.2.2 al LS xs (mi_call Ms al LS xs d) n (0, mi_ent M.2.2.1 As, [], h) r
theorem mi_sl_len {b bs : Nat} : ∀ (vs : List Value), (lg_sl (vs.map (mi_v b bs))).length = (mi_sl vs).length
  | [] => rfl
  | v :: l => by
    have h1 := mi_sl_len (b := b) (bs := bs) l
    unfold lg_sl at h1 ⊢
    simp only [List.map_cons, List.flatMap_cons, List.length_append, mi_sl, mi_v_cat, h1]
    by_cases hc : v.category = 2
    · simp [hc]
    · simp [hc]
theorem mi_sl_get {b bs : Nat} : ∀ (vs : List Value) (i : Nat) (v : Value), (mi_sl vs)[i]? = some (some v) → (lg_sl (vs.map (mi_v b bs)))[i]? = some (.val (mi_v b bs v))
  | [], i, v, h => by simp [mi_sl] at h
  | w :: l, i, v, h => by
    have ih := mi_sl_get (b := b) (bs := bs) l
    unfold lg_sl at ih ⊢
    simp only [List.map_cons, List.flatMap_cons, mi_sl, mi_v_cat] at h ⊢
    by_cases hc : w.category = 2
    · simp only [hc, if_true] at h ⊢
      match i, h with
      | 0, h => simp at h; subst h; simp
      | 1, h => simp at h
      | i + 2, h => simpa using ih i v (by simpa using h)
    · simp only [hc, if_false] at h ⊢
      match i, h with
      | 0, h => simp at h; subst h; simp
      | i + 1, h => simpa using ih i v (by simpa using h)
theorem mi_ent_has {b bs nL : Nat} {As : List Value} (h : (mi_sl As).length ≤ nL) : mi_has b bs ((lg_sl (As.map (mi_v b bs)) ++ List.replicate (nL - (lg_sl (As.map (mi_v b bs))).length) Slot.unset).toArray) nL (mi_ent nL As) := by
  have hl := lv_entry (As.map (mi_v b bs)) (n := nL) (by rw [mi_sl_len]; exact h)
  refine ⟨hl.1, hl.2.1, fun i v hi => ?_⟩
  unfold mi_ent at hi
  by_cases hc : i < (mi_sl As).length
  · rw [List.getElem?_append_left hc] at hi
    have := mi_sl_get (b := b) (bs := bs) As i v hi
    rw [List.getElem?_toArray, List.getElem?_append_left (by rw [mi_sl_len]; exact hc)]
    exact this
  · rw [List.getElem?_append_right (by omega), List.getElem?_replicate] at hi
    split at hi
    · cases hi
    · cases hi
/-- how a method starts and ends -/
def mi_Pc (al : Bool) (b bs : Nat) (cI cL : ClassId) (D : va_G) (LS : Nat) (xs : Nat → Int32) (As : List Value) (h : mH) : Array Value → State → Prop := fun a U =>
  a = (As.map (mi_v b bs)).toArray ∧ mi_R b bs cI cL D h U.heap ∧ mi_K b bs cI cL D LS xs U ∧ b ≤ U.heap.size ∧ (al = true → U.heap.size = b + h.length)
def mi_Qc (b bs : Nat) (cI cL : ClassId) (D : va_G) (v : Option Value) (h : mH) : Array Value → State → Outcome → State → Prop := fun _ st oc t =>
  (oc = .returned (v.map (mi_v b bs)) ∧ mi_R b bs cI cL D h t.heap) ∧ va_F (fun q => b ≤ q) st t
theorem mi_Pc.blind {al : Bool} {b bs : Nat} {cI cL : ClassId} {D : va_G} {LS : Nat} {xs : Nat → Int32} {As : List Value} {h : mH} : FrameBlind (mi_Pc al b bs cI cL D LS xs As h) := by
  intro a U g mk q
  obtain ⟨q1, q2, q3, q4, q5⟩ := q
  exact ⟨q1, q2, q3.calling g mk a, q4, q5⟩
def mi_rm (d mc ms : Nat) : Room := { frames := d + 6, cells := mc, slots := ms, locals := 40 * d + 200 }
def mi_ws (M : mD) : List Cond := .code M.1 M.2.1 M.2.2.1 M.2.2.2.1 :: mi_good
/-- a method of the list: its words -/
def mi_OkM (M : mD) : Prop := plainName M.1.cls = true ∧ Cond.code M.1 M.2.1 M.2.2.1 M.2.2.2.1 ∈ mi_good ∧ Cond.initialized M.1.cls ∈ mi_good ∧ M.2.2.1 ≤ 20 ∧ M.1.cls ≠ "java/lang/invoke/MethodHandle" ∧ M.1.cls ≠ "java/lang/invoke/VarHandle"
/-- a call's site -/
def mi_OkC (Ms : List mD) (own : String) (cc : ByteArray) (pc : Nat) (c : mA) : Prop := ∃ M : mD, Ms[c.1]? = some M ∧ mi_OkM M ∧ ∃ index n : Nat, (parseMethodDescriptor M.1.desc).map (fun d => d.parameters.length) = some n ∧
  ((decode cc pc = .ok (.invokevirtual index, 3) ∧ c.2.1 = n + 1 ∧ Cond.methodLink own index M.1 ∈ mi_good ∧ Cond.instanceMethod M.1 ∈ mi_good ∧ Cond.selects M.1.cls M.1 M.1 ∈ mi_good ∧ ∃ ci T N, c.2.2.1 = some ci ∧ mi_cl[ci]? = some (M.1.cls, T, N)) ∨
   (decode cc pc = .ok (.invokespecial index, 3) ∧ c.2.1 = n + 1 ∧ Cond.methodLink own index M.1 ∈ mi_good ∧ Cond.instanceMethod M.1 ∈ mi_good ∧ M.1.name = "<init>" ∧ M.2.2.2.1 = none ∧ ∃ ci, c.2.2.1 = some ci) ∨
   (decode cc pc = .ok (.invokestatic index, 3) ∧ c.2.1 = n ∧ Cond.static M.1 ∈ mi_good ∧ (Cond.methodLink own index M.1 ∈ mi_good ∨ ∃ host, Cond.methodLinkNest own index M.1 host ∈ mi_nw)))
def mi_OkR (ret : Option FieldType) (cc : ByteArray) (pc k : Nat) : Prop :=
  (k = 0 ∧ decode cc pc = .ok (.return_, 1) ∧ ret = none) ∨ (k = 1 ∧ decode cc pc = .ok (.ireturn, 1) ∧ ret = some .int) ∨ (k = 2 ∧ decode cc pc = .ok (.ireturn, 1) ∧ ret = some .boolean) ∨ (k = 3 ∧ decode cc pc = .ok (.areturn, 1) ∧ ∃ n, ret = some (.object n))
end MI5
