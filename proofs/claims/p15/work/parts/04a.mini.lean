/-! A SMALL MACHINE. Its heap is a list of cells at b, b + 1, ..; its values are the machine's, but that a reference is told from b on, and the script by a float. A method's code is a list of small steps; a step is a function. mi_Ok: a step is the machine's. -/
section MI0
abbrev mL : Type := List (Option Value)
abbrev mC : Type := (Nat × List Value) ⊕ (List Int32 ⊕ List Int64)
abbrev mH : Type := List mC
abbrev mR : Type := Option Value ⊕ String
abbrev mS : Type := Nat × mL × List Value × mH
abbrev mF : Type := Bool → Nat → (Nat → Int32) → mL → List Value → mH → Option mS
def mi_v (b bs : Nat) (v : Value) : Value := match v with
  | .ref a => .ref (b + a)
  | .float _ => .ref bs
  | .int x => .int x
  | .long x => .long x
  | .double x => .double x
  | .null => .null
  | .retAddr q => .retAddr q
theorem mi_v_cat (b bs : Nat) (v : Value) : (mi_v b bs v).category = v.category := by cases v <;> rfl
def mi_e (b bs : Nat) (cI cL : ClassId) (c : mC) : va_E := match c with
  | .inl o => .inr (o.1, o.2.map (mi_v b bs))
  | .inr (.inl xs) => .inl (cI, xs.length, .inl (fun j => xs.getD j 0))
  | .inr (.inr xs) => .inl (cL, xs.length, .inr (.inl (fun j => xs.getD j 0)))
def mi_w (b bs : Nat) (cI cL : ClassId) : Nat → mH → va_W
  | _, [] => []
  | k, c :: h => (b + k, mi_e b bs cI cL c) :: mi_w b bs cI cL (k + 1) h
theorem mi_w_get {b bs : Nat} {cI cL : ClassId} : ∀ (h : mH) (k i : Nat), (mi_w b bs cI cL k h)[i]? = (h[i]?).map (fun c => (b + (k + i), mi_e b bs cI cL c))
  | [], k, i => by simp [mi_w]
  | c :: h, k, 0 => by simp [mi_w]
  | c :: h, k, i + 1 => by
    simp only [mi_w, List.getElem?_cons_succ]
    rw [mi_w_get h (k + 1) i]
    have e : k + 1 + i = k + (i + 1) := by omega
    rw [e]
theorem mi_w_set {b bs : Nat} {cI cL : ClassId} : ∀ (h : mH) (k i : Nat) (c : mC), (mi_w b bs cI cL k h).set i (b + (k + i), mi_e b bs cI cL c) = mi_w b bs cI cL k (h.set i c)
  | [], k, i, c => by simp [mi_w]
  | c0 :: h, k, 0, c => by simp [mi_w]
  | c0 :: h, k, i + 1, c => by
    simp only [mi_w, List.set_cons_succ]
    have e : k + (i + 1) = k + 1 + i := by omega
    rw [e, mi_w_set h (k + 1) i c]
theorem mi_w_push {b bs : Nat} {cI cL : ClassId} : ∀ (h : mH) (k : Nat) (c : mC), mi_w b bs cI cL k (h ++ [c]) = mi_w b bs cI cL k h ++ [(b + (k + h.length), mi_e b bs cI cL c)]
  | [], k, c => by simp [mi_w]
  | c0 :: h, k, c => by
    simp only [mi_w, List.cons_append, List.length_cons]
    rw [mi_w_push h (k + 1) c]
    have e : k + 1 + h.length = k + (h.length + 1) := by omega
    rw [e]
theorem mi_w_len {b bs : Nat} {cI cL : ClassId} : ∀ (h : mH) (k : Nat), (mi_w b bs cI cL k h).length = h.length
  | [], k => rfl
  | c :: h, k => by simp [mi_w, mi_w_len h (k + 1)]
/-- the cells lie apart, from b on -/
theorem mi_w_D {b bs : Nat} {cI cL : ClassId} (h : mH) : va_D (fun q => b ≤ q) (mi_w b bs cI cL 0 h) := by
  refine ⟨fun i j p q hi hj hpq => ?_, fun k q hk => ?_⟩
  · rw [mi_w_get] at hi hj
    cases h1 : h[i]? with
    | none => rw [h1] at hi; cases hi
    | some c1 =>
      cases h2 : h[j]? with
      | none => rw [h2] at hj; cases hj
      | some c2 =>
        rw [h1] at hi; rw [h2] at hj
        cases hi; cases hj
        have e : b + (0 + i) = b + (0 + j) := hpq
        omega
  · rw [mi_w_get] at hk
    cases h1 : h[k]? with
    | none => rw [h1] at hk; cases hk
    | some c1 =>
      rw [h1] at hk
      cases hk
      exact Nat.le_add_right _ _
/-- how many places a cell has, and a heap -/
def mi_zc (c : mC) : Nat := match c with
  | .inl o => o.2.length
  | .inr (.inl xs) => xs.length
  | .inr (.inr xs) => xs.length
def mi_z : mH → Nat
  | [] => 0
  | c :: h => mi_zc c + mi_z h
theorem mi_z_set : ∀ (h : mH) (i : Nat) (c c0 : mC), h[i]? = some c0 → mi_zc c = mi_zc c0 → mi_z (h.set i c) = mi_z h
  | [], i, c, c0, h1, _ => by simp at h1
  | d :: h, 0, c, c0, h1, h2 => by
    simp only [List.getElem?_cons_zero, Option.some.injEq] at h1
    subst h1
    simp [mi_z, h2]
  | d :: h, i + 1, c, c0, h1, h2 => by
    simp only [List.getElem?_cons_succ] at h1
    simp [mi_z, mi_z_set h i c c0 h1 h2]
theorem mi_z_push : ∀ (h : mH) (c : mC), mi_z (h ++ [c]) = mi_z h + mi_zc c
  | [], c => by simp [mi_z]
  | d :: h, c => by simp [mi_z, mi_z_push h c]; omega
/-- the locals -/
def mi_has (b bs : Nat) (ls : Array Slot) (nL : Nat) (lo : mL) : Prop := ls.size = nL ∧ lv_wf ls ∧ ∀ (i : Nat) (v : Value), lo[i]? = some (some v) → ls[i]? = some (.val (mi_v b bs v))
def mi_lv (b bs : Nat) (lo : mL) : List (Nat × Value) := lo.zipIdx.filterMap (fun q => q.1.map (fun v => (q.2, mi_v b bs v)))
theorem mi_lv_mem {b bs : Nat} {lo : mL} {q : Nat × Value} : q ∈ mi_lv b bs lo ↔ ∃ v, lo[q.1]? = some (some v) ∧ q.2 = mi_v b bs v := by
  obtain ⟨i, w⟩ := q
  constructor
  · intro h
    obtain ⟨⟨o, j⟩, h1, h2⟩ := List.mem_filterMap.mp h
    rw [List.mem_zipIdx_iff_getElem?] at h1
    cases o with
    | none => cases h2
    | some v =>
      simp only [Option.map_some, Option.some.injEq, Prod.mk.injEq] at h2
      obtain ⟨rfl, rfl⟩ := h2
      exact ⟨v, h1, rfl⟩
  · rintro ⟨v, h1, h2⟩
    refine List.mem_filterMap.mpr ⟨(some v, i), ?_, ?_⟩
    · rw [List.mem_zipIdx_iff_getElem?]
      exact h1
    · simp only [Option.map_some]
      exact congrArg (fun z => some (i, z)) h2.symm
theorem mi_has_lv {b bs : Nat} {ls : Array Slot} {nL : Nat} {lo : mL} (h : mi_has b bs ls nL lo) : lv_has ls nL (mi_lv b bs lo) := by
  refine ⟨h.1, h.2.1, fun q hq => ?_⟩
  obtain ⟨v, h1, h2⟩ := mi_lv_mem.mp hq
  rw [h2]
  exact h.2.2 q.1 v h1
/-- a store of a value of one slot: not behind a long's first half -/
def mi_st (lo : mL) (i : Nat) (v : Value) : Option mL := match lo[i]? with
  | none => none
  | some (some _) => some (lo.set i (some v))
  | some none => match i with
    | 0 => some (lo.set 0 (some v))
    | j + 1 => match lo[j]? with
      | some (some (.long _)) => none
      | some (some (.double _)) => none
      | _ => some (lo.set (j + 1) (some v))
theorem mi_st_has {b bs : Nat} {ls ls' : Array Slot} {nL i : Nat} {lo lo' : mL} {v : Value} (h : mi_has b bs ls nL lo) (hs : mi_st lo i v = some lo')
    (h' : lv_has ls' nL ((i, mi_v b bs v) :: (mi_lv b bs lo).filter (fun q => !(q.1 == i) && !(q.1 + 1 == i && q.2.category == 2)))) : mi_has b bs ls' nL lo' := by
  have key : lo' = lo.set i (some v) ∧ i < lo.length ∧ ∀ (j : Nat) (w : Value), j + 1 = i → lo[j]? = some (some w) → ¬ w.category = 2 := by
    unfold mi_st at hs
    cases h1 : lo[i]? with
    | none => rw [h1] at hs; cases hs
    | some o =>
      have hi := (List.getElem?_eq_some_iff.mp h1).1
      rw [h1] at hs
      cases o with
      | some w0 =>
        simp only [Option.some.injEq] at hs
        refine ⟨hs.symm, hi, fun j w hj hw hc => ?_⟩
        subst hj
        have a1 := h.2.1.1 j _ (h.2.2 j w hw) (by rw [mi_v_cat]; exact hc)
        have a2 := h.2.2 (j + 1) w0 h1
        rw [a1] at a2
        cases a2
      | none =>
        cases i with
        | zero =>
          simp only [Option.some.injEq] at hs
          exact ⟨hs.symm, hi, fun j w hj _ _ => by omega⟩
        | succ j0 =>
          simp only at hs
          refine ⟨?_, hi, fun j w hj hw hc => ?_⟩
          · revert hs
            split
            · intro q; cases q
            · intro q; cases q
            · intro q; exact (Option.some.inj q).symm
          · have : j = j0 := by omega
            subst this
            rw [hw] at hs
            cases w <;> simp [Value.category] at hc <;> simp at hs
  obtain ⟨rfl, hi, hc⟩ := key
  refine ⟨h'.1, h'.2.1, fun j w hj => ?_⟩
  by_cases hji : j = i
  · subst hji
    rw [List.getElem?_set_self hi] at hj
    cases hj
    exact h'.2.2 (j, mi_v b bs v) List.mem_cons_self
  · rw [List.getElem?_set_ne (Ne.symm hji)] at hj
    refine h'.2.2 (j, mi_v b bs w) (List.mem_cons_of_mem _ (List.mem_filter.mpr ⟨mi_lv_mem.mpr ⟨w, hj, rfl⟩, ?_⟩))
    simp only [Bool.and_eq_true, Bool.not_eq_true', beq_eq_false_iff_ne, ne_eq, Bool.and_eq_false_iff]
    refine ⟨hji, ?_⟩
    by_cases hj1 : j + 1 = i
    · right
      rw [mi_v_cat]
      exact hc j w hj1 hj
    · left
      exact hj1
end MI0
