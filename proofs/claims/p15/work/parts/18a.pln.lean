section PLN
theorem tl_le (r : List Int) : r.tail.length ≤ r.length := by cases r <;> simp
theorem plK_le : ∀ {k : Nat} {r : List Int} {q : List Int × List Int}, plK k r = some q → q.2.length ≤ r.length := by
  intro k
  induction k with
  | zero =>
    intro r q h
    rw [plK] at h
    split at h
    · cases h
    · cases h; exact Nat.le_refl _
  | succ k ih =>
    intro r q h
    rw [plK] at h
    split at h
    · cases ho : plK k r.tail with
      | none => rw [ho] at h; cases h
      | some p =>
        rw [ho] at h
        cases h
        have i := ih ho
        exact Nat.le_trans i (tl_le r)
    · cases h; exact Nat.le_refl _
theorem fgK_le : ∀ {k : Nat} {r : List Int} {q : List Int × List Int}, fgK k r = some q → q.2.length ≤ r.length := by
  intro k
  induction k with
  | zero =>
    intro r q h
    rw [fgK] at h
    split at h
    · cases h
    · cases h; exact Nat.le_refl _
  | succ k ih =>
    intro r q h
    rw [fgK] at h
    split at h
    · cases ho : fgK k r.tail with
      | none => rw [ho] at h; cases h
      | some p =>
        rw [ho] at h
        cases h
        have i := ih ho
        exact Nat.le_trans i (tl_le r)
    · cases h; exact Nat.le_refl _
theorem cmK_le : ∀ {k : Nat} {r : List Int} {q : List Int × List Int}, cmK k r = some q → q.2.length ≤ r.length ∧ hd q.2 = -1 ∧ q.1.length ≤ k := by
  intro k
  induction k with
  | zero =>
    intro r q h
    rw [cmK] at h
    split at h
    · next e => cases h; exact ⟨Nat.le_refl _, e, Nat.le_refl _⟩
    · cases h
  | succ k ih =>
    intro r q h
    rw [cmK] at h
    split at h
    · next e => cases h; exact ⟨Nat.le_refl _, e, Nat.zero_le _⟩
    · split at h
      · cases ho : cmK k r.tail with
        | none => rw [ho] at h; cases h
        | some p =>
          rw [ho] at h
          cases h
          obtain ⟨i1, i2, i3⟩ := ih ho
          exact ⟨Nat.le_trans i1 (tl_le r), i2, by rw [List.length_cons]; omega⟩
      · cases h
theorem quK_le : ∀ {k : Nat} {r : List Int} {q : List Int × List Int}, quK k r = some q → q.2.length ≤ r.length := by
  intro k
  induction k with
  | zero =>
    intro r q h
    rw [quK] at h
    split at h
    · cases h; exact tl_le r
    · cases h
  | succ k ih =>
    intro r q h
    rw [quK] at h
    split at h
    · cases h; exact tl_le r
    · split at h
      · cases h
      · split at h
        · split at h
          · cases ho : quK k r.tail.tail with
            | none => rw [ho] at h; cases h
            | some p =>
              rw [ho] at h
              cases h
              have i := ih ho
              exact Nat.le_trans i (Nat.le_trans (tl_le _) (tl_le r))
          · cases h
        · cases ho : quK k r.tail with
          | none => rw [ho] at h; cases h
          | some p =>
            rw [ho] at h
            cases h
            have i := ih ho
            exact Nat.le_trans i (tl_le r)
theorem nmS_le {r : List Int} {q : List Int × List Int} (h : nmS r = some q) : q.2.length ≤ r.length := by
  unfold nmS at h
  split at h
  · split at h
    · cases h
    · exact Nat.le_trans (quK_le h) (tl_le r)
  · split at h
    · exact plK_le h
    · cases h
theorem nmS_lt {r : List Int} {q : List Int × List Int} (h : nmS r = some q) : q.2.length + 1 ≤ r.length := by
  unfold nmS at h
  split at h
  · next e =>
    split at h
    · cases h
    · have := quK_le h
      obtain ⟨c, s, e', _⟩ := hd_cons (r := r) (by omega)
      rw [e', List.tail_cons] at this
      rw [e', List.length_cons]; omega
  · split at h
    · next hp =>
      rw [plK, if_pos hp] at h
      cases ho : plK 7 r.tail with
      | none => rw [ho] at h; cases h
      | some p =>
        rw [ho] at h
        have i := plK_le ho
        cases h
        obtain ⟨c, s, e', _⟩ := hd_cons (r := r) (by omega)
        rw [e', List.tail_cons] at i
        rw [e', List.length_cons]
        show p.2.length + 1 ≤ _
        omega
    · cases h
theorem gpS_le {r r1 : List Int} (h : gpS r = some r1) : r1.length ≤ r.length := by
  unfold gpS at h
  split at h
  · cases h; exact skb_len r
  · cases h
theorem leS_le {r r1 : List Int} (h : leS r = some r1) : r1.length ≤ r.length ∧ hd r1 = -1 := by
  unfold leS at h
  split at h
  · next e => cases h; exact ⟨skb_len r, e⟩
  · cases h
theorem nuS_le {r : List Int} {q : Int × List Int} (h : nuS r = some q) : q.2.length ≤ r.length := by
  unfold nuS at h
  split at h
  · cases ho : fgK 2 r with
    | none => rw [ho] at h; cases h
    | some p => rw [ho] at h; cases h; exact fgK_le ho
  · cases h
theorem frS_le {m ds r : List Int} {q : vT × List Int} (h : frS m ds r = some q) : q.2.length ≤ r.length ∧ q.1.1 = 2 := by
  unfold frS at h
  split at h
  · cases h
  · split at h
    · cases ho : fgK 3 r.tail with
      | none => rw [ho] at h; cases h
      | some p => rw [ho] at h; cases h; exact ⟨Nat.le_trans (fgK_le ho) (tl_le r), rfl⟩
    · cases h
theorem numS_le {told : Int} {m r : List Int} {q : vT × List Int} (h : numS told m r = some q) : q.2.length ≤ r.length ∧ (q.1.1 = 1 ∨ q.1.1 = 2) := by
  unfold numS at h
  split at h
  · cases h
  · split at h
    · cases h
    · cases ho : (if hd r = 48 then fgK 1 r else fgK 6 r) with
      | none => rw [ho] at h; cases h
      | some p =>
        have hp : p.2.length ≤ r.length := by
          split at ho
          · exact fgK_le ho
          · exact fgK_le ho
        rw [ho, Option.bind_some] at h
        split at h
        · obtain ⟨i1, i2⟩ := frS_le h
          exact ⟨Nat.le_trans i1 hp, .inr i2⟩
        · split at h
          · cases h
          · cases h; exact ⟨hp, .inl rfl⟩
theorem gsS_le {r : List Int} {q : vT × List Int} (h : gsS r = some q) : q.2.length ≤ r.length ∧ 1 ≤ q.1.1 ∧ q.1.1 ≤ 3 := by
  unfold gsS at h
  split at h
  · cases h
  · cases ho : plK 8 r with
    | none => rw [ho] at h; cases h
    | some p =>
      have hp := plK_le ho
      rw [ho, Option.bind_some] at h
      split at h
      · split at h
        · cases h
        · obtain ⟨i1, i2⟩ := frS_le h
          exact ⟨Nat.le_trans i1 hp, by omega, by omega⟩
      · split at h
        · cases h; exact ⟨hp, (show (1 : Int) ≤ 1 by decide), (show (1 : Int) ≤ 3 by decide)⟩
        · cases h; exact ⟨hp, (show (1 : Int) ≤ 3 by decide), (show (3 : Int) ≤ 3 by decide)⟩
theorem vlS_le {k : Int} {r : List Int} {q : vT × List Int} (h : vlS k r = some q) : q.2.length ≤ r.length ∧ 0 ≤ q.1.1 ∧ q.1.1 ≤ 3 := by
  unfold vlS at h
  split at h
  · split at h
    · cases h; exact ⟨tl_le r, (show (0 : Int) ≤ 0 by decide), (show (0 : Int) ≤ 3 by decide)⟩
    · split at h
      · cases h
      · obtain ⟨i1, i2⟩ := numS_le h
        exact ⟨Nat.le_trans i1 (tl_le r), by omega, by omega⟩
  · split at h
    · cases ho : nmS r with
      | none => rw [ho] at h; cases h
      | some p => rw [ho] at h; cases h; exact ⟨nmS_le ho, (show (0 : Int) ≤ 3 by decide), (show (3 : Int) ≤ 3 by decide)⟩
    · split at h
      · obtain ⟨i1, i2, i3⟩ := gsS_le h
        exact ⟨i1, by omega, i3⟩
      · obtain ⟨i1, i2⟩ := numS_le h
        exact ⟨i1, by omega, by omega⟩
theorem vsS_le : ∀ (ks r : List Int) (q : List vT × List Int), vsS ks r = some q → q.2.length ≤ r.length ∧ q.1.length = ks.length ∧ ∀ v ∈ q.1, 0 ≤ v.1 ∧ v.1 ≤ 3 := by
  intro ks
  induction ks with
  | nil => intro r q h; cases h; exact ⟨Nat.le_refl _, rfl, fun v hv => absurd hv List.not_mem_nil⟩
  | cons k ks ih =>
    intro r q h
    rw [vsS] at h
    cases h1 : gpS r with
    | none => rw [h1] at h; cases h
    | some r1 =>
      rw [h1, Option.bind_some] at h
      cases h2 : vlS k r1 with
      | none => rw [h2] at h; cases h
      | some v =>
        rw [h2, Option.bind_some] at h
        cases h3 : vsS ks v.2 with
        | none => rw [h3] at h; cases h
        | some w =>
          rw [h3] at h
          cases h
          obtain ⟨i1, i2, i3⟩ := ih v.2 w h3
          obtain ⟨j1, j2, j3⟩ := vlS_le h2
          have j0 := gpS_le h1
          refine ⟨by show w.2.length ≤ r.length; omega, by rw [List.length_cons, List.length_cons, i2], fun x hx => ?_⟩
          rcases List.mem_cons.mp hx with e | e
          · rw [e]; exact ⟨j2, j3⟩
          · exact i3 x e
/-- what a graph keeps to -/
def wfG (G : gT) : Prop := (gNo G).length ≤ 30 ∧ (gHe G).length ≤ 3 ∧ (gAr G).length ≤ 40 ∧ (∀ x ∈ gAr G, x.2.2.2.length = (gHe G).length ∧ ∀ v ∈ x.2.2.2, 0 ≤ v.1 ∧ v.1 ≤ 3) ∧ (gCo G).length ≤ 300 ∧ (gLi G).length ≤ 300
theorem ndS_len {l N : List (List Int)} {x : List Int} (hl : l.length ≤ 30) (h : ndS l x = some N) : N.length ≤ 30 := by
  unfold ndS at h
  split at h
  · cases h; exact hl
  · split at h
    · cases h
    · cases h; rw [List.length_append, List.length_singleton]; omega
theorem liS_le {man ln : Int} {G : gT} {r : List Int} {q : gT × List Int} (h : liS man ln G r = some q) (hb : bdG G r) (hw : wfG G) : q.2.length ≤ r.length ∧ hd q.2 = -1 ∧ wfG q.1 ∧ (q.2.tail ≠ [] → bdG q.1 q.2.tail) := by
  obtain ⟨b1, b2, b3, b4, b5⟩ := hb
  obtain ⟨w1, w2, w3, w4, w5, w6⟩ := hw
  have hs := skb_len r
  have htl : ∀ {s : List Int}, s.tail ≠ [] → s.tail.length + 1 = s.length := by
    intro s hs
    cases s with
    | nil => exact absurd rfl hs
    | cons c s => rfl
  unfold liS at h
  split at h
  · next e =>
    cases h
    refine ⟨hs, e, ⟨w1, w2, w3, w4, w5, w6⟩, fun ht => ?_⟩
    have := htl (s := skb r) ht
    refine ⟨?_, ?_, b3, ?_, b5⟩
    · show 2 * (gCo G).length + (skb r).tail.length ≤ 600
      omega
    · show 2 * (gLi G).length + (skb r).tail.length ≤ 600
      omega
    · show gLo G + ((skb r).tail.length : Int) ≤ 600
      omega
  · next hne =>
    have hr1 : 1 ≤ (skb r).length := by
      obtain ⟨c, s, e, _⟩ := hd_cons hne
      rw [e, List.length_cons]; omega
    have hrt : (skb r).tail.length + 1 = (skb r).length := by
      obtain ⟨c, s, e, _⟩ := hd_cons hne
      rw [e]; rfl
    split at h
    · unfold cmL at h
      cases ho : cmK 20 (skb r).tail with
      | none => rw [ho] at h; cases h
      | some p =>
        rw [ho] at h
        cases h
        obtain ⟨i1, i2, i3⟩ := cmK_le ho
        have h1 : (skb r).tail.length + 1 = (skb r).length := by
          obtain ⟨c, s, e, _⟩ := hd_cons hne
          rw [e]; rfl
        refine ⟨by show p.2.length ≤ _; omega, i2, ⟨w1, w2, w3, w4, (by show (gCo G ++ [p.1]).length ≤ 300; rw [List.length_append, List.length_singleton]; omega), (by show (gLi G ++ [0]).length ≤ 300; rw [List.length_append, List.length_singleton]; omega)⟩, fun ht => ?_⟩
        have h2 := htl (s := p.2) ht
        refine ⟨?_, ?_, b3, ?_, b5⟩
        · show 2 * (gCo G ++ [p.1]).length + p.2.tail.length ≤ 600
          rw [List.length_append, List.length_singleton]; omega
        · show 2 * (gLi G ++ [0]).length + p.2.tail.length ≤ 600
          rw [List.length_append, List.length_singleton]; omega
        · show gLo G + (p.2.tail.length : Int) ≤ 600
          omega
    · split at h
      · unfold ctL at h
        split at h
        · cases h
        · cases h1 : gpS (skb r).tail with
          | none => rw [h1] at h; cases h
          | some r1 =>
            rw [h1, Option.bind_some] at h
            cases h2 : nuS r1 with
            | none => rw [h2] at h; cases h
            | some a =>
              rw [h2, Option.bind_some] at h
              cases h3 : gpS a.2 with
              | none => rw [h3] at h; cases h
              | some r2 =>
                rw [h3, Option.bind_some] at h
                cases h4 : nuS r2 with
                | none => rw [h4] at h; cases h
                | some b =>
                  rw [h4, Option.bind_some] at h
                  cases h5 : leS b.2 with
                  | none => rw [h5] at h; cases h
                  | some r3 =>
                    rw [h5] at h
                    cases h
                    have j1 := gpS_le h1
                    have j2 := nuS_le h2
                    have j3 := gpS_le h3
                    have j4 := nuS_le h4
                    obtain ⟨j5, j6⟩ := leS_le h5
                    have j0 := tl_le (skb r)
                    refine ⟨by show r3.length ≤ _; omega, j6, ⟨w1, w2, w3, w4, w5, (by show (gLi G ++ [1]).length ≤ 300; rw [List.length_append, List.length_singleton]; omega)⟩, fun ht => ?_⟩
                    have h2 := htl (s := r3) ht
                    refine ⟨?_, ?_, b3, ?_, b5⟩
                    · show 2 * (gCo G).length + r3.tail.length ≤ 600
                      omega
                    · show 2 * (gLi G ++ [1]).length + r3.tail.length ≤ 600
                      rw [List.length_append, List.length_singleton]; omega
                    · show gLo G + (r3.tail.length : Int) ≤ 600
                      omega
      · split at h
        · unfold heL at h
          split at h
          · cases h
          · next hord =>
            cases h1 : gpS (skb r).tail with
            | none => rw [h1] at h; cases h
            | some r1 =>
              rw [h1, Option.bind_some] at h
              cases h2 : nmS r1 with
              | none => rw [h2] at h; cases h
              | some a =>
                rw [h2, Option.bind_some] at h
                split at h
                · cases h
                · cases h3 : gpS a.2 with
                  | none => rw [h3] at h; cases h
                  | some r2 =>
                    rw [h3, Option.bind_some] at h
                    split at h
                    · cases h
                    · cases h5 : leS r2.tail with
                      | none => rw [h5] at h; cases h
                      | some r3 =>
                        rw [h5] at h
                        cases h
                        have j1 := gpS_le h1
                        have j2 := nmS_le h2
                        have j3 := gpS_le h3
                        obtain ⟨j5, j6⟩ := leS_le h5
                        have j0 := tl_le (skb r)
                        have j4 := tl_le r2
                        have hwa : gWa G = false := by
                          cases hg : gWa G with
                          | false => rfl
                          | true => exact absurd (.inl hg) hord
                        have har := b5 hwa
                        refine ⟨by show r3.length ≤ _; omega, j6, ⟨w1, ?_, w3, ?_, w5, (by show (gLi G ++ [2]).length ≤ 300; rw [List.length_append, List.length_singleton]; omega)⟩, fun ht => ?_⟩
                        · show (gHe G ++ [(a.1, kdS (hd r2))]).length ≤ 3
                          have : ¬ 3 ≤ (gHe G).length := fun q => hord (.inr q)
                          rw [List.length_append, List.length_singleton]; omega
                        · show ∀ x ∈ gAr G, _
                          rw [har]
                          exact fun x hx => absurd hx List.not_mem_nil
                        · have h2 := htl (s := r3) ht
                          refine ⟨?_, ?_, b3, ?_, b5⟩
                          · show 2 * (gCo G).length + r3.tail.length ≤ 600
                            omega
                          · show 2 * (gLi G ++ [2]).length + r3.tail.length ≤ 600
                            rw [List.length_append, List.length_singleton]; omega
                          · show gLo G + (r3.tail.length : Int) ≤ 600
                            omega
        · unfold arL at h
          cases h1 : nmS (skb r) with
          | none => rw [h1] at h; cases h
          | some a =>
            rw [h1, Option.bind_some] at h
            cases h2 : ndS (gNo G) a.1 with
            | none => rw [h2] at h; cases h
            | some N1 =>
              rw [h2, Option.bind_some] at h
              cases h3 : gpS a.2 with
              | none => rw [h3] at h; cases h
              | some r1 =>
                rw [h3, Option.bind_some] at h
                cases h4 : nmS r1 with
                | none => rw [h4] at h; cases h
                | some b =>
                  rw [h4, Option.bind_some] at h
                  cases h5 : ndS N1 b.1 with
                  | none => rw [h5] at h; cases h
                  | some N2 =>
                    rw [h5, Option.bind_some] at h
                    unfold arE at h
                    have hN2 := ndS_len (ndS_len w1 h2) h5
                    split at h
                    · cases h
                    · cases h6 : vsS ((gHe G).map (fun h => h.2)) b.2 with
                      | none => rw [h6] at h; cases h
                      | some v =>
                        rw [h6, Option.bind_some] at h
                        cases h7 : leS v.2 with
                        | none => rw [h7] at h; cases h
                        | some r3 =>
                          rw [h7, Option.bind_some] at h
                          have j1 := nmS_lt h1
                          have j3 := gpS_le h3
                          have j4 := nmS_le h4
                          obtain ⟨j5, j5b, j5c⟩ := vsS_le _ _ _ h6
                          rw [List.length_map] at j5b
                          obtain ⟨j6, j7⟩ := leS_le h7
                          split at h
                          · cases h
                            refine ⟨by show r3.length ≤ _; omega, j7, ⟨hN2, w2, w3, w4, w5, w6⟩, fun ht => ?_⟩
                            have h2 := htl (s := r3) ht
                            refine ⟨?_, ?_, ?_, ?_, fun q => by cases q⟩
                            · show 2 * (gCo G).length + r3.tail.length ≤ 600
                              omega
                            · show 2 * (gLi G).length + r3.tail.length ≤ 600
                              omega
                            · show 0 ≤ gLo G + 1
                              omega
                            · show gLo G + 1 + (r3.tail.length : Int) ≤ 600
                              omega
                          · split at h
                            · cases h
                            · next h40 =>
                              cases h
                              refine ⟨by show r3.length ≤ _; omega, j7, ⟨hN2, w2, ?_, fun x hx => ?_, w5, (by show (gLi G ++ [3]).length ≤ 300; rw [List.length_append, List.length_singleton]; omega)⟩, fun ht => ?_⟩
                              · show (gAr G ++ [(_, _, ln, v.1)]).length ≤ 40
                                rw [List.length_append, List.length_singleton]; omega
                              · have hx' : x ∈ gAr G ++ [((ixO N2 a.1 : Int), (ixO N2 b.1 : Int), ln, v.1)] := hx
                                rcases List.mem_append.mp hx' with e | e
                                · exact w4 x e
                                · rw [List.mem_singleton.mp e]
                                  exact ⟨j5b, j5c⟩
                              · have h2 := htl (s := r3) ht
                                refine ⟨?_, ?_, b3, ?_, fun q => by cases q⟩
                                · show 2 * (gCo G).length + r3.tail.length ≤ 600
                                  omega
                                · show 2 * (gLi G ++ [3]).length + r3.tail.length ≤ 600
                                  rw [List.length_append, List.length_singleton]; omega
                                · show gLo G + (r3.tail.length : Int) ≤ 600
                                  omega
end PLN
