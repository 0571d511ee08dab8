section FO2
variable {α : Type} {t : mT} {LS : Nat} {xs : Nat → Int32} {C : mQ} {cv : α → mR × mH} {pc nx : Nat} {lo : mL} {st rest : List Value} {h : mH} {o o' : Option α}
def fuel : Nat := 20000
theorem fo_sw {tb : Int32 → Nat} {x : Int32} (hp : mi_fnd t pc = some (.inl (mi_sw tb))) (q : fo cv t LS xs C (tb x, lo, rest, h) o) : fo cv t LS xs C (pc, lo, .int x :: rest, h) o := fo_st hp rfl q
theorem fo_lk {k : Int} {t1 d : Nat} {ps : List (Int × Nat)} {x : Int32} (k1 : fo cv t LS xs C (t1, lo, rest, h) o) (k2 : fo cv t LS xs C (mi_look ps d x, lo, rest, h) o') : fo cv t LS xs C (mi_look ((k, t1) :: ps) d x, lo, rest, h) (bif decide (x.toInt = k) then o else o') := by
  unfold mi_look
  by_cases hx : x.toInt = k
  · rw [if_pos hx, decide_eq_true hx]; exact k1
  · rw [if_neg hx, decide_eq_false hx]; exact k2
def mi_lks : Int → List Nat → List (Int × Nat)
  | _, [] => []
  | l, t :: ts => (l, t) :: mi_lks (l + 1) ts
theorem mi_lks_ok : ∀ (ts : List Nat) (l : Int) (d : Nat) (x : Int32), mi_look (mi_lks l ts) d x = if x.toInt < l ∨ l + ts.length - 1 < x.toInt then d else ts.getD (x.toInt - l).toNat d
  | [], l, d, x => by
    simp only [mi_lks, mi_look, List.length_nil]
    split <;> rfl
  | t :: ts, l, d, x => by
    simp only [mi_lks, mi_look]
    rw [mi_lks_ok ts (l + 1) d x]
    by_cases hx : x.toInt = l
    · rw [if_pos hx, if_neg (by simp only [List.length_cons]; omega), hx, Int.sub_self]; rfl
    · rw [if_neg hx]
      by_cases hb : x.toInt < l + 1 ∨ l + 1 + (ts.length : Int) - 1 < x.toInt
      · rw [if_pos hb, if_pos (by simp only [List.length_cons]; omega)]
      · rw [if_neg hb, if_neg (by simp only [List.length_cons]; omega)]
        have e : (x.toInt - l).toNat = (x.toInt - (l + 1)).toNat + 1 := by omega
        rw [e, List.getD_cons_succ]
theorem fo_tab {l0 h0 : Int} {ts : List Nat} {d : Nat} {x : Int32} (hp : mi_fnd t pc = some (.inl (mi_sw (mi_tab l0 h0 ts d)))) (hh : h0 = l0 + (ts.length : Int) - 1) (q : fo cv t LS xs C (mi_look (mi_lks l0 ts) d x, lo, rest, h) o) : fo cv t LS xs C (pc, lo, .int x :: rest, h) o := by
  refine fo_sw hp ?_
  rw [mi_lks_ok] at q
  unfold mi_tab
  rw [hh]
  exact q
theorem fo_callI {y n : Nat} {rk : Option Nat} {As : List Value} {oc : Option (Int32 × fS)} {K : Int32 × fS → Option α} (hp : mi_fnd t pc = some (.inr (.inr (.inl (y, n, rk, []))))) (hst : st = As.reverse ++ rest) (hn : As.length = n) (hs : Nat.ble (rest.map (fun v => v.category)).sum 8 = true) (hrc : mi_rcv rk As h) (hc : ∀ r, oc = some r → C y As h (cvI r))
    (k : ∀ r : Int32 × fS, fo cv t LS xs C (pc + 3, lo, .int r.1 :: rest, enc r.2) (K r)) : fo cv t LS xs C (pc, lo, st, h) (oc.bind K) := fo_call (top := fun r : Int32 × fS => some (.int r.1)) (hh := fun r => enc r.2) hp hst hn hs hrc (fun _ => rfl) hc k
theorem fo_callV {y n : Nat} {rk : Option Nat} {As : List Value} {oc : Option fS} {K : fS → Option α} (hp : mi_fnd t pc = some (.inr (.inr (.inl (y, n, rk, []))))) (hst : st = As.reverse ++ rest) (hn : As.length = n) (hs : Nat.ble (rest.map (fun v => v.category)).sum 8 = true) (hrc : mi_rcv rk As h) (hc : ∀ r, oc = some r → C y As h (cvV r))
    (k : ∀ r : fS, fo cv t LS xs C (pc + 3, lo, rest, enc r) (K r)) : fo cv t LS xs C (pc, lo, st, h) (oc.bind K) := fo_call (top := fun _ => none) (hh := fun r => enc r) hp hst hn hs hrc (fun _ => rfl) hc k
def cvX (q : (Int32 ⊕ String) × fS) : mR × mH := (match q.1 with | .inl v => .inl (some (.int v)) | .inr E => .inr E, enc q.2)
theorem fo_throw {E : String} {r : (Int32 ⊕ String) × fS} (hp : mi_fnd t pc = some (.inr (.inr (.inr E)))) (hc : cvX r = (.inr E, h)) : fo cvX t LS xs C (pc, lo, [], h) (some r) := by
  intro r' hr'
  cases hr'
  refine ⟨1, ?_⟩
  unfold mi_run
  dsimp only
  rw [hp]
  exact ⟨rfl, rfl, hc⟩
theorem fm_ofX {Ms : List mD} {d y : Nat} {M : mD} {As : List Value} {s : fS} {o : Option ((Int32 ⊕ String) × fS)} (hM : Ms[y]? = some M) (hl : Nat.ble (mi_sl As).length M.2.2.1 = true) (hx : ∀ r, o = some r → r.2 = s) (k : fo cvX M.2.2.2.2.2 LS xs (mi_call Ms false LS xs d) (0, mi_ent M.2.2.1 As, [], enc s) o) : fm Ms cvX LS xs (d + 1) y As (enc s) o := by
  intro r hr
  obtain ⟨n, hn⟩ := k r hr
  unfold mi_call
  rw [hM]
  refine ⟨Nat.le_of_ble_eq_true hl, fun E hE => ?_, n, hn⟩
  obtain ⟨r1, r2⟩ := r
  cases r1 with
  | inl v => cases hE
  | inr E' => show enc r2 = enc s; rw [show r2 = s from hx _ hr]
end FO2
section FP
variable {β : Type} {γ : Type} {s : fS}
/-- the program leaves the state as it is -/
def pu (s : fS) (o : Option (β × fS)) : Prop := ∀ r, o = some r → r.2 = s
theorem pu_none : pu s (none : Option (β × fS)) := fun r h => by cases h
theorem pu_some {v : β} {s' : fS} (h : s' = s) : pu s (some (v, s')) := fun r hr => by cases hr; exact h
theorem pu_ck {c : Bool} {o : Option (β × fS)} (h : pu s o) : pu s (fchk c o) := fun r hr => by
  cases c with
  | false => cases hr
  | true => exact h r hr
theorem pu_b {c : Bool} {o o' : Option (β × fS)} (h : pu s o) (h' : pu s o') : pu s (bif c then o else o') := by cases c <;> assumption
theorem pu_bind {oc : Option (γ × fS)} {K : γ × fS → Option (β × fS)} (h : pu s oc) (k : ∀ v, pu s (K (v, s))) : pu s (oc.bind K) := fun r hr => by
  cases ho : oc with
  | none => rw [ho] at hr; cases hr
  | some q =>
    rw [ho, Option.bind_some] at hr
    have := h q ho
    obtain ⟨q1, q2⟩ := q
    cases this
    exact k q1 r hr
def fbx (oc : Option ((Int32 ⊕ String) × fS)) (K : Int32 × fS → Option ((Int32 ⊕ String) × fS)) : Option ((Int32 ⊕ String) × fS) := oc.bind fun q => match q.1 with
  | .inl v => K (v, q.2)
  | .inr E => some (.inr E, q.2)
theorem pu_fbx {oc : Option ((Int32 ⊕ String) × fS)} {K : Int32 × fS → Option ((Int32 ⊕ String) × fS)} (h : pu s oc) (k : ∀ v, pu s (K (v, s))) : pu s (fbx oc K) := by
  refine pu_bind h (fun v => ?_)
  cases v with
  | inl v => exact k v
  | inr E => exact pu_some rfl
theorem fo_callX {t : mT} {LS : Nat} {xs : Nat → Int32} {C : mQ} {pc : Nat} {lo : mL} {st rest : List Value} {h : mH} {y n : Nat} {rk : Option Nat} {As : List Value} {oc : Option ((Int32 ⊕ String) × fS)} {K : Int32 × fS → Option ((Int32 ⊕ String) × fS)} (hp : mi_fnd t pc = some (.inr (.inr (.inl (y, n, rk, []))))) (hst : st = As.reverse ++ rest) (hn : As.length = n) (hs : Nat.ble (rest.map (fun v => v.category)).sum 8 = true) (hrc : mi_rcv rk As h) (hth : mi_thr.contains y = true) (hc : ∀ r, oc = some r → C y As h (cvX r))
    (k : ∀ r : Int32 × fS, fo cvX t LS xs C (pc + 3, lo, .int r.1 :: rest, enc r.2) (K r)) : fo cvX t LS xs C (pc, lo, st, h) (fbx oc K) := by
  intro r hr
  unfold fbx at hr
  cases ho : oc with
  | none => rw [ho] at hr; cases hr
  | some q =>
    rw [ho, Option.bind_some] at hr
    have hq := hc q ho
    obtain ⟨q1, q2⟩ := q
    cases q1 with
    | inl v =>
      obtain ⟨m, hm⟩ := k (v, q2) r hr
      refine ⟨m + 1, ?_⟩
      unfold mi_run
      dsimp only
      rw [hp]
      exact ⟨As, rest, _, hst, hn, Nat.le_of_ble_eq_true hs, hrc, hq, hm⟩
    | inr E =>
      dsimp only at hr
      cases hr
      refine ⟨1, ?_⟩
      unfold mi_run
      dsimp only
      rw [hp]
      exact ⟨As, rest, _, hst, hn, Nat.le_of_ble_eq_true hs, hrc, hq, hth, rfl, rfl⟩
end FP
