section CUT
variable {S S' S'' : iS} {b : Bool}
theorem rT_cut {a : Nat} {l : List Int} (h : rT S a l) {n : Nat} (hn : n ≤ l.length) : j_X3_cut a (n : Int) S = some (kI S a 1 (n : Int)) ∧ rT (kI S a 1 (n : Int)) a (l.take n) := by
  have hl := rv_len h.1
  rw [h.2] at hl
  have h2 := h.1.2
  have e : (if (n : Int) < jI S a 1 then (n : Int) else jI S a 1) = n := by split <;> omega
  refine ⟨?_, ⟨by rw [jI_eq]; omega, by rw [jI_eq, jA_kI]; omega⟩, ?_⟩
  · unfold j_X3_cut j_X3_cut_0
    rw [e, show (if (0 : Int) < (n : Int) then (n : Int) else 0) = n by split <;> omega]
  · rw [← h.2]
    unfold rv gv
    rw [jI_eq, jA_kI, List.take_take]
    congr 1
    omega
theorem getD_take {α : Type} {l : List α} {n i : Nat} {d : α} (h : i < n) : (l.take n).getD i d = l.getD i d := by
  rw [List.getD_eq_getElem?_getD, List.getD_eq_getElem?_getD, List.getElem?_take, if_pos h]
theorem spn_cut {a : Nat} {ss : List Int} {l : List (List Int)} (h : spn S a ss l) {n : Nat} (hn : n ≤ l.length) : ∃ S', j_X4_cut a (n : Int) S = some S' ∧ S' = kI (kI (kI S (a + 1) 1 (n : Int)) (a + 3) 1 (n : Int)) a 3 (n : Int) ∧ spn S' a ss (l.take n) := by
  obtain ⟨s1, s2, s3, s4, s5, s6⟩ := h
  obtain ⟨e1, t1⟩ := rT_cut (S := S) (a := a + 1) (l := rv S (a + 1)) ⟨s1, rfl⟩ (n := n) (by omega)
  have t2 : rT (kI S (a + 1) 1 (n : Int)) (a + 3) (rv S (a + 3)) := rT_eq ⟨s2, rfl⟩ (jI_ne (.inl (by omega))) rfl
  obtain ⟨e2, t3⟩ := rT_cut t2 (n := n) (by omega)
  have t4 : rT (kI (kI (kI S (a + 1) 1 (n : Int)) (a + 3) 1 (n : Int)) a 3 (n : Int)) (a + 1) ((rv S (a + 1)).take n) := rT_eq t1 (by rw [jI_ne (.inl (by omega)), jI_ne (.inl (by omega))]) rfl
  have t5 : rT (kI (kI (kI S (a + 1) 1 (n : Int)) (a + 3) 1 (n : Int)) a 3 (n : Int)) (a + 3) ((rv S (a + 3)).take n) := rT_eq t3 (jI_ne (.inl (by omega))) rfl
  refine ⟨_, ?_, rfl, t4.1, t5.1, ?_, ?_, ?_, ?_⟩
  · unfold j_X4_cut j_X4_cut_0
    rw [e1, Option.bind_some, e2, Option.bind_some, jI_eq]
  · rw [t4.2, List.length_take, List.length_take]; omega
  · rw [t5.2, List.length_take, List.length_take]; omega
  · rw [jI_eq, List.length_take]; omega
  · intro i hi
    rw [List.length_take] at hi
    obtain ⟨st, ln, q1, q2, q3, q4⟩ := s6 i (by omega)
    refine ⟨st, ln, ?_, ?_, q3, ?_⟩
    · rw [t4.2, getD_take (by omega)]; exact q1
    · rw [t5.2, getD_take (by omega)]; exact q2
    · rw [getD_take (by omega)]; exact q4
end CUT
