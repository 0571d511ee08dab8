section EV
/-- the small machine, as a program: runs that return -/
def mi_rcvb (rk : Option Nat) (As : List Value) (h : mH) : Bool := match rk with
  | none => true
  | some ci => match As with
    | .ref a :: _ => match h[a]? with
      | some (.inl o) => o.1 == ci
      | _ => false
    | _ => false
theorem mi_rcvb_ok {rk : Option Nat} {As : List Value} {h : mH} (q : mi_rcvb rk As h = true) : mi_rcv rk As h := by
  unfold mi_rcvb at q
  unfold mi_rcv
  cases rk with
  | none => trivial
  | some ci =>
    dsimp only at q ⊢
    split at q
    · next a r =>
      split at q
      · next o ho =>
        refine ⟨a, o.2, rfl, ?_⟩
        rw [ho]
        have := eq_of_beq q
        rw [← this]
      · cases q
    · cases q
def mi_evr (t : mT) (al : Bool) (LS : Nat) (xs : Nat → Int32) (Call : Nat → List Value → mH → Option (Option Value × mH)) : Nat → mS → Option (Option Value × mH)
  | 0, _ => none
  | n + 1, x => match mi_fnd t x.1 with
    | none => none
    | some (.inl f) => match f al LS xs x.2.1 x.2.2.1 x.2.2.2 with
      | none => none
      | some y => mi_evr t al LS xs Call n y
    | some (.inr (.inl k)) => match mi_ret k x.2.2.1 with
      | none => none
      | some v => some (v, x.2.2.2)
    | some (.inr (.inr (.inl c))) => bif (x.2.2.1.take c.2.1).length == c.2.1 && Nat.ble ((x.2.2.1.drop c.2.1).map (fun v => v.category)).sum 8 && mi_rcvb c.2.2.1 (x.2.2.1.take c.2.1).reverse x.2.2.2 then
        (match Call c.1 (x.2.2.1.take c.2.1).reverse x.2.2.2 with
        | none => none
        | some q => mi_evr t al LS xs Call n (x.1 + 3, x.2.1, q.1.toList ++ x.2.2.1.drop c.2.1, q.2))
      else none
    | some (.inr (.inr (.inr _))) => none
def mi_ev (Ms : List mD) (al : Bool) (LS : Nat) (xs : Nat → Int32) (F : Nat) : Nat → Nat → List Value → mH → Option (Option Value × mH)
  | 0, _, _, _ => none
  | d + 1, y, As, h => match Ms[y]? with
    | none => none
    | some M => bif Nat.ble (mi_sl As).length M.2.2.1 then mi_evr M.2.2.2.2.2 al LS xs (mi_ev Ms al LS xs F d) F (0, mi_ent M.2.2.1 As, [], h) else none
theorem mi_evr_ok {t : mT} {al : Bool} {LS : Nat} {xs : Nat → Int32} {Call : mQ} {C : Nat → List Value → mH → Option (Option Value × mH)} (hC : ∀ y As h v h1, C y As h = some (v, h1) → Call y As h (.inl v, h1)) :
    ∀ (n : Nat) (x : mS) (v : Option Value) (h1 : mH), mi_evr t al LS xs C n x = some (v, h1) → mi_run t al LS xs Call n x (.inl v, h1) := by
  intro n
  induction n with
  | zero => intro x v h1 h; simp [mi_evr] at h
  | succ n ih =>
    intro x v h1 h
    unfold mi_evr at h
    unfold mi_run
    split at h
    · cases h
    · next f hf =>
      rw [hf]
      dsimp only
      split at h
      · cases h
      · next y hy => exact ⟨y, hy, ih y v h1 h⟩
    · next k hk =>
      rw [hk]
      dsimp only
      split at h
      · cases h
      · next w hw =>
        simp only [Option.some.injEq, Prod.mk.injEq] at h
        obtain ⟨rfl, rfl⟩ := h
        exact ⟨w, hw, rfl⟩
    · next c hc =>
      rw [hc]
      dsimp only
      cases hb : ((x.2.2.1.take c.2.1).length == c.2.1 && Nat.ble ((x.2.2.1.drop c.2.1).map (fun v => v.category)).sum 8 && mi_rcvb c.2.2.1 (x.2.2.1.take c.2.1).reverse x.2.2.2) with
      | false => rw [hb] at h; cases h
      | true =>
        rw [hb, cond_true] at h
        simp only [Bool.and_eq_true, beq_iff_eq] at hb
        obtain ⟨⟨b1, b2⟩, b3⟩ := hb
        split at h
        · cases h
        · next q hq =>
          obtain ⟨w, h2⟩ := q
          exact ⟨(x.2.2.1.take c.2.1).reverse, x.2.2.1.drop c.2.1, (.inl w, h2), by rw [List.reverse_reverse, List.take_append_drop], by rw [List.length_reverse]; exact b1, Nat.le_of_ble_eq_true b2, mi_rcvb_ok b3, hC _ _ _ _ _ hq, ih _ v h1 h⟩
    · cases h
theorem mi_ev_ok {Ms : List mD} {al : Bool} {LS : Nat} {xs : Nat → Int32} {F : Nat} : ∀ (d y : Nat) (As : List Value) (h : mH) (v : Option Value) (h1 : mH), mi_ev Ms al LS xs F d y As h = some (v, h1) → mi_call Ms al LS xs d y As h (.inl v, h1) := by
  intro d
  induction d with
  | zero => intro y As h v h1 q; simp [mi_ev] at q
  | succ d ih =>
    intro y As h v h1 q
    unfold mi_ev at q
    unfold mi_call
    split at q
    · cases q
    · next M hM =>
      rw [hM]
      dsimp only
      cases hb : Nat.ble (mi_sl As).length M.2.2.1 with
      | false => rw [hb] at q; cases q
      | true =>
        rw [hb, cond_true] at q
        exact ⟨Nat.le_of_ble_eq_true hb, (fun E hE => by cases hE), F, mi_evr_ok (fun y As h v h1 => ih y As h v h1) F _ v h1 q⟩
end EV
