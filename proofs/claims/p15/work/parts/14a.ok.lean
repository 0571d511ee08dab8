section OKS
def ok {α : Type} (o : Option α) (Q : α → Prop) : Prop := ∃ r, o = some r ∧ Q r
theorem ok_some {α : Type} {r : α} {Q : α → Prop} (h : Q r) : ok (some r) Q := ⟨r, rfl, h⟩
theorem ok_eq {α : Type} {o : Option α} {r : α} {Q : α → Prop} (e : o = some r) (h : Q r) : ok o Q := ⟨r, e, h⟩
theorem ok_chk {α : Type} {c : Prop} [Decidable c] {o : Option α} {Q : α → Prop} (h : c) (k : ok o Q) : ok (if c then o else none) Q := by rw [if_pos h]; exact k
theorem ok_if {α : Type} {c : Prop} [Decidable c] {o o' : Option α} {Q : α → Prop} (k : c → ok o Q) (k' : ¬ c → ok o' Q) : ok (if c then o else o') Q := by
  by_cases h : c
  · rw [if_pos h]; exact k h
  · rw [if_neg h]; exact k' h
theorem ok_bind {α β : Type} {o : Option α} {K : α → Option β} {P : α → Prop} {Q : β → Prop} (h : ok o P) (k : ∀ r, P r → ok (K r) Q) : ok (o.bind K) Q := by
  obtain ⟨r, e, hr⟩ := h
  rw [e, Option.bind_some]
  exact k r hr
theorem ok_mono {α : Type} {o : Option α} {P Q : α → Prop} (h : ok o P) (k : ∀ r, P r → Q r) : ok o Q := by
  obtain ⟨r, e, hr⟩ := h
  exact ⟨r, e, k r hr⟩
theorem jI_eq {S : iS} {a f : Nat} {v : Int} : jI (kI S a f v) a f = v := if_pos ⟨rfl, rfl⟩
theorem jI_ne {S : iS} {a f a' f' : Nat} {v : Int} (h : a' ≠ a ∨ f' ≠ f) : jI (kI S a f v) a' f' = jI S a' f' := if_neg (fun q => by omega)
theorem jI_kA {S : iS} {a a' f' : Nat} {l : List Int} : jI (kA S a l) a' f' = jI S a' f' := rfl
theorem jA_kI {S : iS} {a f a' : Nat} {v : Int} : jA (kI S a f v) a' = jA S a' := rfl
theorem jA_eq {S : iS} {a : Nat} {l : List Int} : jA (kA S a l) a = l := if_pos rfl
theorem jA_ne {S : iS} {a a' : Nat} {l : List Int} (h : a' ≠ a) : jA (kA S a l) a' = jA S a' := if_neg h
theorem jP0_kI {S : iS} {a f : Nat} {v : Int} : jP0 (kI S a f v) = jP0 S := rfl
theorem jP1_kI {S : iS} {a f : Nat} {v : Int} : jP1 (kI S a f v) = jP1 S := rfl
theorem jP2_kI {S : iS} {a f : Nat} {v : Int} : jP2 (kI S a f v) = jP2 S := rfl
theorem jP0_kA {S : iS} {a : Nat} {l : List Int} : jP0 (kA S a l) = jP0 S := rfl
theorem jP1_kA {S : iS} {a : Nat} {l : List Int} : jP1 (kA S a l) = jP1 S := rfl
theorem jP2_kA {S : iS} {a : Nat} {l : List Int} : jP2 (kA S a l) = jP2 S := rfl
theorem kI_kI {S : iS} {a f : Nat} {v w : Int} : kI (kI S a f v) a f w = kI S a f w := by
  unfold kI
  refine Prod.ext (funext fun a' => funext fun f' => ?_) rfl
  show (if a' = a ∧ f' = f then w else if a' = a ∧ f' = f then v else S.1 a' f') = (if a' = a ∧ f' = f then w else S.1 a' f')
  by_cases h : a' = a ∧ f' = f
  · rw [if_pos h, if_pos h]
  · rw [if_neg h, if_neg h, if_neg h]
theorem kA_kA {S : iS} {a : Nat} {l m : List Int} : kA (kA S a l) a m = kA S a m := by
  unfold kA
  refine Prod.ext rfl (Prod.ext (funext fun a' => ?_) rfl)
  show (if a' = a then m else if a' = a then l else S.2.1 a') = (if a' = a then m else S.2.1 a')
  by_cases h : a' = a
  · rw [if_pos h, if_pos h]
  · rw [if_neg h, if_neg h, if_neg h]
/-- every array has its size -/
def zS (S : iS) : Prop := ∀ a, (jA S a).length = asz a
theorem zS_kI {S : iS} {a f : Nat} {v : Int} (h : zS S) : zS (kI S a f v) := h
theorem zS_kA {S : iS} {a : Nat} {l : List Int} (h : zS S) (hl : l.length = asz a) : zS (kA S a l) := by
  intro a'
  by_cases e : a' = a
  · subst e; rw [jA_eq]; exact hl
  · rw [jA_ne e]; exact h a'
theorem zS_set {S : iS} {a i : Nat} {x : Int} (h : zS S) : zS (kA S a ((jA S a).set i x)) := zS_kA h (by rw [List.length_set]; exact h a)
theorem bif_le {c : Bool} {m n k : Nat} (h : m ≤ k) (h' : n ≤ k) : (bif c then m else n) ≤ k := by cases c <;> assumption
theorem asz_le (a : Nat) : asz a ≤ 12600 := by
  unfold asz
  repeat' (refine bif_le (by decide) ?_)
  decide
theorem zS_le {S : iS} (h : zS S) (a : Nat) : (jA S a).length ≤ 12600 := by rw [h a]; exact asz_le a
set_option maxRecDepth 100000 in
theorem zok_of {s : fS} (h : ∀ a, (gA s a).length = asz a) : zok s = true := by
  have e : mi_z (enc s) = 26353 := by
    unfold enc
    simp only [mi_z, mi_zc, List.length_cons, List.length_nil, h]
    rfl
  unfold zok
  rw [e]
  rfl
theorem zok_sr {S : iS} {s : fS} (h : sr S s) (z : zS S) : zok s = true := zok_of fun a => by rw [l_len (h.2.1 a)]; exact z a
/-- the start state -/
def S0 : iS := (fun a f => if a = 81 ∧ f = 2 then -1 else if a = 82 ∧ f = 4 then -1 else if a = 82 ∧ f = 5 then -1 else 0, fun a => List.replicate (asz a) 0, false, true, true, 0)
theorem zS0 : zS S0 := fun a => List.length_replicate
theorem beq_f {a b : Nat} (h : ¬ a = b) : Nat.beq a b = false := by
  cases hb : Nat.beq a b with
  | false => rfl
  | true => exact absurd (Nat.eq_of_beq_eq_true hb) h
theorem sr0 : sr S0 st0 := by
  refine ⟨fun a f => ?_, fun a => ?_, rfl, rfl, rfl, rfl⟩
  · show (bif Nat.beq f 2 && Nat.beq a 81 then (-1 : Int32) else bif Nat.beq f 4 && Nat.beq a 82 then (-1 : Int32) else bif Nat.beq f 5 && Nat.beq a 82 then (-1 : Int32) else 0).toInt = (if a = 81 ∧ f = 2 then (-1 : Int) else if a = 82 ∧ f = 4 then -1 else if a = 82 ∧ f = 5 then -1 else 0)
    have key : ∀ (c d : Nat) (X Y : Int32) (x y : Int), X.toInt = x → Y.toInt = y → (bif Nat.beq f d && Nat.beq a c then X else Y).toInt = if a = c ∧ f = d then x else y := by
      intro c d X Y x y hx hy
      by_cases h1 : f = d
      · by_cases h2 : a = c
        · subst h1 h2; rw [if_pos ⟨rfl, rfl⟩, Nat.beq_refl, Nat.beq_refl]; exact hx
        · rw [if_neg (fun q => h2 q.1), beq_f h2, Bool.and_false]; exact hy
      · rw [if_neg (fun q => h1 q.2), beq_f h1, Bool.false_and]; exact hy
    exact key 81 2 _ _ _ _ (by decide) (key 82 4 _ _ _ _ (by decide) (key 82 5 _ _ _ _ (by decide) (by decide)))
  · show (List.replicate (asz a) (0 : Int32)).map Int32.toInt = List.replicate (asz a) 0
    rw [List.map_replicate]; rfl
end OKS
