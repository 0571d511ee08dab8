section ST
/-- runs of the law between calls of its own, as a program -/
def mi_evt (t : mT) (wr : Nat → Bool) (al : Bool) (LS : Nat) (xs : Nat → Int32) (C : Nat → List Value → mH → Option (Option Value × mH)) : Nat → mS → Option mS
  | 0, x => some x
  | n + 1, x => match mi_fnd t x.1 with
    | some (.inl f) => match f al LS xs x.2.1 x.2.2.1 x.2.2.2 with
      | none => none
      | some y => mi_evt t wr al LS xs C n y
    | some (.inr (.inr (.inl c))) => bif !(wr c.1) && ((x.2.2.1.take c.2.1).length == c.2.1 && Nat.ble ((x.2.2.1.drop c.2.1).map (fun v => v.category)).sum 8 && mi_rcvb c.2.2.1 (x.2.2.1.take c.2.1).reverse x.2.2.2) then
        (match C c.1 (x.2.2.1.take c.2.1).reverse x.2.2.2 with
        | none => none
        | some q => mi_evt t wr al LS xs C n (x.1 + 3, x.2.1, q.1.toList ++ x.2.2.1.drop c.2.1, q.2))
      else none
    | _ => none
theorem mi_evt_ok {t : mT} {wr : Nat → Bool} {al : Bool} {LS : Nat} {xs : Nat → Int32} {Call : mQ} {C : Nat → List Value → mH → Option (Option Value × mH)} (hC : ∀ y As h v h1, C y As h = some (v, h1) → Call y As h (.inl v, h1)) :
    ∀ (n : Nat) (x y : mS), mi_evt t wr al LS xs C n x = some y → mi_to t wr al LS xs Call n x y := by
  intro n
  induction n with
  | zero => intro x y h; exact Option.some.inj h
  | succ n ih =>
    intro x y h
    unfold mi_evt at h
    unfold mi_to
    split at h
    · next f hf =>
      rw [hf]
      dsimp only
      split at h
      · cases h
      · next z hz => exact ⟨z, hz, ih z y h⟩
    · next c hc =>
      rw [hc]
      dsimp only
      cases hb : (!(wr c.1) && ((x.2.2.1.take c.2.1).length == c.2.1 && Nat.ble ((x.2.2.1.drop c.2.1).map (fun v => v.category)).sum 8 && mi_rcvb c.2.2.1 (x.2.2.1.take c.2.1).reverse x.2.2.2)) with
      | false => rw [hb] at h; cases h
      | true =>
        rw [hb, cond_true] at h
        simp only [Bool.and_eq_true, beq_iff_eq, Bool.not_eq_true'] at hb
        obtain ⟨b0, ⟨b1, b2⟩, b3⟩ := hb
        split at h
        · cases h
        · next q hq =>
          obtain ⟨w, h2⟩ := q
          exact ⟨b0, (x.2.2.1.take c.2.1).reverse, x.2.2.1.drop c.2.1, w, h2, by rw [List.reverse_reverse, List.take_append_drop], by rw [List.length_reverse]; exact b1, Nat.le_of_ble_eq_true b2, mi_rcvb_ok b3, hC _ _ _ _ _ hq, ih _ y h⟩
    · cases h
end ST
