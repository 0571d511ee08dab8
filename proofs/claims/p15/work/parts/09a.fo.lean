section FO
variable {α : Type} {t : mT} {LS : Nat} {xs : Nat → Int32} {C : mQ} {cv : α → mR × mH} {pc nx : Nat} {lo : mL} {st rest : List Value} {h : mH} {o o' : Option α}
/-- what the small machine does from x on is what the program o says -/
def fo (cv : α → mR × mH) (t : mT) (LS : Nat) (xs : Nat → Int32) (C : mQ) (x : mS) (o : Option α) : Prop := ∀ r, o = some r → ∃ n, mi_run t false LS xs C n x (cv r)
def fchk {β : Type} (c : Bool) (o : Option β) : Option β := bif c then o else none
theorem fo_none {x : mS} : fo cv t LS xs C x none := fun r hr => by cases hr
theorem fo_st {f : mF} {y : mS} (hp : mi_fnd t pc = some (.inl f)) (hf : f false LS xs lo st h = some y) (k : fo cv t LS xs C y o) : fo cv t LS xs C (pc, lo, st, h) o := by
  intro r hr
  obtain ⟨n, hn⟩ := k r hr
  refine ⟨n + 1, ?_⟩
  unfold mi_run
  dsimp only
  rw [hp]
  exact ⟨y, hf, hn⟩
theorem fo_ck {c : Bool} {x : mS} (k : c = true → fo cv t LS xs C x o) : fo cv t LS xs C x (fchk c o) := by
  intro r hr
  cases c with
  | false => cases hr
  | true => exact k rfl r hr
theorem fo_b {f : mF} {c : Bool} {tgt : Nat} (hp : mi_fnd t pc = some (.inl f)) (hf : f false LS xs lo st h = some (if c = true then tgt else nx, lo, rest, h)) (k1 : fo cv t LS xs C (tgt, lo, rest, h) o) (k2 : fo cv t LS xs C (nx, lo, rest, h) o') : fo cv t LS xs C (pc, lo, st, h) (bif c then o else o') := by
  cases c with
  | true => exact fo_st hp hf k1
  | false => exact fo_st hp (by rw [hf]; rfl) k2
theorem fo_get {a ci k : Nat} {fs : List Value} {v : Value} (hp : mi_fnd t pc = some (.inl (mi_get ci k nx))) (hg : h[a]? = some (.inl (ci, fs))) (hf : fs[k]? = some v) (q : fo cv t LS xs C (nx, lo, v :: rest, h) o) : fo cv t LS xs C (pc, lo, .ref a :: rest, h) o :=
  fo_st hp (by simp only [mi_get, hg, if_true, hf]) q
theorem fo_put {a ci k : Nat} {fs : List Value} {v : Value} {ty : FieldType} {h' : mH} (hp : mi_fnd t pc = some (.inl (mi_put ci k ty nx))) (hg : h[a]? = some (.inl (ci, fs))) (hv : fits ty v = true) (hk : Nat.blt k fs.length = true) (hs : h.set a (.inl (ci, fs.set k v)) = h') (q : fo cv t LS xs C (nx, lo, rest, h') o) : fo cv t LS xs C (pc, lo, v :: .ref a :: rest, h) o :=
  fo_st hp (by
    have hk' : k < fs.length := Nat.le_of_ble_eq_true hk
    simp only [mi_put, hg, hv, hk', and_self, if_true, hs]) q
theorem fo_iald {a : Nat} {i : Int32} {ys : List Int32} (hp : mi_fnd t pc = some (.inl (mi_iald nx))) (hg : h[a]? = some (.inr (.inl ys))) (q : fo cv t LS xs C (nx, lo, .int (ys.getD i.toNatClampNeg 0) :: rest, h) o) : fo cv t LS xs C (pc, lo, .int i :: .ref a :: rest, h) (fchk (mi_in i ys.length) o) :=
  fo_ck fun hc => fo_st hp (by simp only [mi_iald, hg, hc, if_true]) q
theorem fo_iast {a : Nat} {i x : Int32} {ys : List Int32} {h' : mH} (hp : mi_fnd t pc = some (.inl (mi_iast nx))) (hg : h[a]? = some (.inr (.inl ys))) (hs : h.set a (.inr (.inl (ys.set i.toNatClampNeg x))) = h') (q : fo cv t LS xs C (nx, lo, rest, h') o) : fo cv t LS xs C (pc, lo, .int x :: .int i :: .ref a :: rest, h) (fchk (mi_in i ys.length) o) :=
  fo_ck fun hc => fo_st hp (by simp only [mi_iast, hg, hc, if_true, hs]) q
theorem fo_alen {a : Nat} {ys : List Int32} (hp : mi_fnd t pc = some (.inl (mi_alen nx))) (hg : h[a]? = some (.inr (.inl ys))) (q : fo cv t LS xs C (nx, lo, .int (Int32.ofNat ys.length) :: rest, h) o) : fo cv t LS xs C (pc, lo, .ref a :: rest, h) o :=
  fo_st hp (by simp only [mi_alen, hg]) q
theorem fo_std {i : Nat} {v : Value} {d : Option Value} {lo' : mL} {f : mF} (hp : mi_fnd t pc = some (.inl f)) (hf : f false LS xs lo (v :: rest) h = (match mi_st lo i v with | some lo' => some (nx, lo', rest, h) | none => none)) (h1 : lo[i]? = some d) (h2 : mi_st (lo.set i none) i v = some lo') (h3 : lo.set i (some v) = lo') (q : fo cv t LS xs C (nx, lo', rest, h) o) : fo cv t LS xs C (pc, lo, v :: rest, h) o := by
  have key : mi_st lo i v = some lo' := by
    have hi : i < lo.length := (List.getElem?_eq_some_iff.mp h1).1
    cases d with
    | some w => unfold mi_st; rw [h1]; simp only; rw [h3]
    | none =>
      have e : lo.set i none = lo := by
        apply List.ext_getElem?
        intro j
        by_cases hj : j = i
        · subst hj; rw [List.getElem?_set_self hi, h1]
        · rw [List.getElem?_set_ne (Ne.symm hj)]
      rw [e] at h2
      exact h2
  exact fo_st hp (by rw [hf, key]) q
theorem fo_d2 {op : Int32 → Int32 → Int32} {x y : Int32} (hp : mi_fnd t pc = some (.inl (mi_d2 op nx))) (q : fo cv t LS xs C (nx, lo, .int (op x y) :: rest, h) o) : fo cv t LS xs C (pc, lo, .int y :: .int x :: rest, h) (fchk (decide (¬ y = 0)) o) :=
  fo_ck fun hc => fo_st hp (by
    have := of_decide_eq_true hc
    simp only [mi_d2, this, if_false]) q
theorem fo_ret {k : Nat} {v : Option Value} {r : α} (hp : mi_fnd t pc = some (.inr (.inl k))) (hr : mi_ret k st = some v) (hc : cv r = (.inl v, h)) : fo cv t LS xs C (pc, lo, st, h) (some r) := by
  intro r' hr'
  cases hr'
  refine ⟨1, ?_⟩
  unfold mi_run
  dsimp only
  rw [hp]
  exact ⟨v, hr, hc⟩
def fbl (x : Int32) : Bool := decide (x = 0 ∨ x = 1)
theorem fo_ret2 {x : Int32} {r : α} (hp : mi_fnd t pc = some (.inr (.inl 2))) (hc : cv r = (.inl (some (.int x)), h)) : fo cv t LS xs C (pc, lo, [.int x], h) (fchk (fbl x) (some r)) :=
  fo_ck fun hq => fo_ret hp (by
    have := of_decide_eq_true hq
    simp only [mi_ret, this, if_true]) hc
theorem fo_call {β : Type} {y n : Nat} {rk : Option Nat} {As : List Value} {oc : Option β} {cw : β → mR × mH} {K : β → Option α} {top : β → Option Value} {hh : β → mH} (hp : mi_fnd t pc = some (.inr (.inr (.inl (y, n, rk, []))))) (hst : st = As.reverse ++ rest) (hn : As.length = n) (hs : Nat.ble (rest.map (fun v => v.category)).sum 8 = true) (hrc : mi_rcv rk As h) (hcw : ∀ r, cw r = (.inl (top r), hh r)) (hc : ∀ r, oc = some r → C y As h (cw r))
    (k : ∀ r, fo cv t LS xs C (pc + 3, lo, (top r).toList ++ rest, hh r) (K r)) : fo cv t LS xs C (pc, lo, st, h) (oc.bind K) := by
  intro r hr
  cases ho : oc with
  | none => rw [ho] at hr; cases hr
  | some q =>
    rw [ho, Option.bind_some] at hr
    obtain ⟨m, hm⟩ := k q r hr
    refine ⟨m + 1, ?_⟩
    unfold mi_run
    dsimp only
    rw [hp]
    refine ⟨As, rest, cw q, hst, hn, Nat.le_of_ble_eq_true hs, hrc, hc q ho, ?_⟩
    rw [hcw]
    exact hm
theorem mi_rcv_of {ci a : Nat} {fs As : List Value} {h : mH} (hg : h[a]? = some (.inl (ci, fs))) : mi_rcv (some ci) (.ref a :: As) h := ⟨a, fs, rfl, hg⟩
/-- a method, as a program -/
def fm (Ms : List mD) (cv : α → mR × mH) (LS : Nat) (xs : Nat → Int32) (d y : Nat) (As : List Value) (h : mH) (o : Option α) : Prop := ∀ r, o = some r → mi_call Ms false LS xs d y As h (cv r)
theorem fm_of {Ms : List mD} {d y : Nat} {M : mD} {As : List Value} (hM : Ms[y]? = some M) (hl : Nat.ble (mi_sl As).length M.2.2.1 = true) (hv : ∀ r, ∃ v, (cv r).1 = .inl v) (k : fo cv M.2.2.2.2.2 LS xs (mi_call Ms false LS xs d) (0, mi_ent M.2.2.1 As, [], h) o) : fm Ms cv LS xs (d + 1) y As h o := by
  intro r hr
  obtain ⟨n, hn⟩ := k r hr
  unfold mi_call
  rw [hM]
  obtain ⟨v, hv⟩ := hv r
  exact ⟨Nat.le_of_ble_eq_true hl, (fun E hE => by rw [hv] at hE; cases hE), n, hn⟩
end FO
