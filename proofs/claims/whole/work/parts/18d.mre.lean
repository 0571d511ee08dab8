section MRE
variable {S S' S'' : iS} {L : List Int}
/-- what the model's lower halves tell -/
def lNo (S : iS) (l : List (List Int)) : Prop := (jA S 84).getD 0 0 = l.length ∧ l.length ≤ 30 ∧ ∀ i, i < l.length → nmAt (jA S 85) (9 * i) (l.getD i []) ∧ (l.getD i []).length ≤ 8
def lHe (S : iS) (l : List (List Int × Int)) : Prop := (jA S 90).getD 0 0 = l.length ∧ l.length ≤ 3 ∧ ∀ i, i < l.length → nmAt (jA S 92) (9 * i) (l.getD i ([], 0)).1 ∧ (l.getD i ([], 0)).1.length ≤ 8 ∧ (jA S 91).getD i 0 = (l.getD i ([], 0)).2
def lCo (S : iS) (l : List (List Int)) : Prop := (jA S 97).getD 0 0 = l.length ∧ l.length ≤ 300 ∧ ∀ i, i < l.length → nmAt (jA S 98) (21 * i) (l.getD i []) ∧ (l.getD i []).length ≤ 20
def lAr (S : iS) (nh : Nat) (l : List (Int × Int × Int × List vT)) : Prop := (jA S 86).getD 0 0 = l.length ∧ l.length ≤ 40 ∧ nh ≤ 3 ∧ ∀ i, i < l.length → arAt S i (l.getD i (0, 0, 0, [])) ∧ (l.getD i (0, 0, 0, [])).2.2.2.length = nh
def lLi (S : iS) (l : List Int) : Prop := (jA S 99).getD 0 0 = l.length ∧ l.length ≤ 600 ∧ ∀ i, i < l.length → (jA S 100).getD i 0 = l.getD i 0 + 1
def lCt (S : iS) (c : Option (Int × Int)) : Prop := match c with
  | none => True
  | some c => (jA S 101).getD 0 0 = c.1 ∧ (jA S 101).getD 1 0 = c.2
def lG (S : iS) (G : gT) : Prop := lNo S (gNo G) ∧ lHe S (gHe G) ∧ lCo S (gCo G) ∧ lAr S (gHe G).length (gAr G) ∧ lLi S (gLi G) ∧ (jA S 96).getD 0 0 = gLo G ∧ lCt S (gCt G)
/-- the lower halves are the same -/
def lwS (S S' : iS) : Prop := ∀ a i, i < lw a → (jA S' a).getD i 0 = (jA S a).getD i 0
theorem lG_lw {G : gT} (h : lG S G) (hl : lwS S S') : lG S' G := by
  obtain ⟨⟨a1, a2, a3⟩, ⟨b1, b2, b3⟩, ⟨c1, c2, c3⟩, ⟨d1, d2, d0, d3⟩, ⟨e1, e2, e3⟩, f1, g1⟩ := h
  have w84 : lw 84 = 1 := rfl
  have w85 : lw 85 = 270 := rfl
  have w86 : lw 86 = 1 := rfl
  have w87 : lw 87 = 40 := rfl
  have w88 : lw 88 = 40 := rfl
  have w89 : lw 89 = 40 := rfl
  have w90 : lw 90 = 1 := rfl
  have w91 : lw 91 = 3 := rfl
  have w92 : lw 92 = 27 := rfl
  have w93 : lw 93 = 120 := rfl
  have w94 : lw 94 = 120 := rfl
  have w95 : lw 95 = 1080 := rfl
  have w96 : lw 96 = 1 := rfl
  have w97 : lw 97 = 1 := rfl
  have w98 : lw 98 = 6300 := rfl
  have w99 : lw 99 = 1 := rfl
  have w100 : lw 100 = 601 := rfl
  have w101 : lw 101 = 2 := rfl
  refine ⟨⟨by rw [hl 84 0 (by omega)]; exact a1, a2, fun i hi => ?_⟩, ⟨by rw [hl 90 0 (by omega)]; exact b1, b2, fun i hi => ?_⟩, ⟨by rw [hl 97 0 (by omega)]; exact c1, c2, fun i hi => ?_⟩, ⟨by rw [hl 86 0 (by omega)]; exact d1, d2, d0, fun i hi => ?_⟩, ⟨by rw [hl 99 0 (by omega)]; exact e1, e2, fun i hi => ?_⟩, by rw [hl 96 0 (by omega)]; exact f1, ?_⟩
  · obtain ⟨p, q⟩ := a3 i hi
    exact ⟨nmAt_eq p (fun j j1 j2 => hl 85 j (by omega)), q⟩
  · obtain ⟨p, q, r⟩ := b3 i hi
    exact ⟨nmAt_eq p (fun j j1 j2 => hl 92 j (by omega)), q, by rw [hl 91 i (by omega)]; exact r⟩
  · obtain ⟨p, q⟩ := c3 i hi
    exact ⟨nmAt_eq p (fun j j1 j2 => hl 98 j (by omega)), q⟩
  · obtain ⟨⟨p1, p2, p3, p4⟩, q⟩ := d3 i hi
    refine ⟨⟨by rw [hl 87 i (by omega)]; exact p1, by rw [hl 88 i (by omega)]; exact p2, by rw [hl 89 i (by omega)]; exact p3, fun c hc => ?_⟩, q⟩
    obtain ⟨r1, r2, r3, r4⟩ := p4 c hc
    exact ⟨by rw [hl 93 _ (by omega)]; exact r1, by rw [hl 94 _ (by omega)]; exact r2, nmAt_eq r3 (fun j j1 j2 => hl 95 j (by omega)), r4⟩
  · rw [hl 100 i (by omega)]; exact e3 i hi
  · cases hc : gCt G with
    | none => trivial
    | some c =>
      rw [hc] at g1
      exact ⟨by rw [hl 101 0 (by omega)]; exact g1.1, by rw [hl 101 1 (by omega)]; exact g1.2⟩
theorem stG_he {G : gT} {i : Nat} (hi : i < (gHe G).length) : (gHe (stG G)).getD i ([], 0) = (((gHe G).getD i ([], 0)).1, stK G i ((gHe G).getD i ([], 0)).2) := by
  show ((gHe G).mapIdx _).getD i ([], 0) = _
  rw [List.getD_eq_getElem?_getD, List.getElem?_mapIdx, List.getElem?_eq_getElem hi, List.getD_eq_getElem?_getD, List.getElem?_eq_getElem hi]
  rfl
theorem stG_len {G : gT} : (gHe (stG G)).length = (gHe G).length := List.length_mapIdx
/-- the halves are taken over -/
theorem lG_take {G : gT} {T : iS} (h : mG S G) (hw : wfG G) (h91 : ∀ i, i < (gHe G).length → (jA S 91).getD (3 + i) 0 = stK G i ((gHe G).getD i ([], 0)).2) (hC : ∀ a, isC a → (jA T a).getD 0 0 = (jA S a).getD 1 0) (hO : (jA T 101).getD 0 0 = (jA S 101).getD 2 0 ∧ (jA T 101).getD 1 0 = (jA S 101).getD 3 0) (hH : ∀ a, isH a → ∀ i, i < tkH a → (jA T a).getD i 0 = (jA S a).getD (tkH a + i) 0) : lG T (stG G) := by
  sorry
end MRE
