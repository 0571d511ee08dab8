section MLA
variable {S S' : iS} {ns ms : List Int} {L L' : List Int}
/-- a counted piece of a row -/
def nmAt (L : List Int) (p : Nat) (ns : List Int) : Prop := L.getD p 0 = ns.length ∧ ∀ j, j < ns.length → L.getD (p + 1 + j) 0 = ns.getD j 0
theorem nmAt_eq {p : Nat} (h : nmAt L p ns) (he : ∀ i, p ≤ i → i ≤ p + ns.length → L'.getD i 0 = L.getD i 0) : nmAt L' p ns := by
  refine ⟨(he p (by omega) (by omega)).trans h.1, fun j hj => ?_⟩
  rw [he (p + 1 + j) (by omega) (by omega)]
  exact h.2 j hj
theorem nmd_get (h : nmd S ns) : (jA S 103).getD 0 0 = ns.length ∧ ∀ j, j < ns.length → (jA S 103).getD (1 + j) 0 = ns.getD j 0 := by
  obtain ⟨l, e, h1, h2⟩ := h
  refine ⟨by rw [e, List.getD_cons_zero], fun j hj => ?_⟩
  rw [e, Nat.add_comm, List.getD_cons_succ, ← h2, List.getD_eq_getElem?_getD, List.getD_eq_getElem?_getD, List.getElem?_take, if_pos hj]
theorem nmd_len (z : zS S) : (jA S 103).length = 9 := z 103
/-- a name laid into a row -/
theorem l7_lay (z : zS S) (hn : nmd S ns) {a p : Nat} (ha : a ≠ 103) (O : List Int) (hp : p + 9 ≤ O.length) (hO : O.length ≤ 12600) : ∀ (m n k : Nat) (L : List Int), k + m = ns.length + 1 → m < n → L.length = O.length → (∀ i, i < p ∨ p + k ≤ i → L.getD i 0 = O.getD i 0) → (∀ j, j < k → L.getD (p + j) 0 = (jA S 103).getD j 0) → ∃ L', j_X7_layName_2 a n p k (kA S a L) = some (kA S a L') ∧ L'.length = O.length ∧ (∀ i, i < p ∨ p + ns.length + 1 ≤ i → L'.getD i 0 = O.getD i 0) ∧ ∀ j, j < ns.length + 1 → L'.getD (p + j) 0 = (jA S 103).getD j 0 := by
  have l9 := nmd_len z
  have h8 := nmd_le hn
  have hg := nmd_get hn
  have e103 : ∀ L, jA (kA S a L) 103 = jA S 103 := fun L => jA_ne (Ne.symm ha)
  intro m
  induction m with
  | zero =>
    intro n k L hk hn' hl h1 h2
    obtain ⟨n, rfl⟩ : ∃ m, n = m + 1 := ⟨n - 1, by omega⟩
    refine ⟨L, ?_, hl, fun i hi => h1 i (by omega), fun j hj => h2 j (by omega)⟩
    rw [j_X7_layName_2, e103]
    exact it (by omega) (it (by rw [hg.1]; omega) rfl)
  | succ m ih =>
    intro n k L hk hn' hl h1 h2
    obtain ⟨n, rfl⟩ : ∃ m, n = m + 1 := ⟨n - 1, by omega⟩
    rw [j_X7_layName_2, e103, jA_eq, kA_kA, show ((p : Int) + (k : Int)).toNat = p + k by omega, show ((k : Int)).toNat = k by omega, show ((k : Int) + 1) = ((k + 1 : Nat) : Int) by omega]
    obtain ⟨L', e, q1, q2, q3⟩ := ih n (k + 1) (L.set (p + k) ((jA S 103).getD k 0)) (by omega) (by omega) (by rw [List.length_set]; exact hl) (fun i hi => by
        rw [getD_set, if_neg (by omega)]; exact h1 i (by omega)) (fun j hj => by
        rw [getD_set]
        by_cases e : j = k
        · rw [if_pos ⟨by omega, by omega⟩, e]
        · rw [if_neg (by omega)]; exact h2 j (by omega))
    exact ⟨L', it (by omega) (ie (by rw [hg.1]; omega) (it ⟨by omega, by omega⟩ (it ⟨by omega, by omega⟩ (it ⟨by omega, by omega⟩ (it ⟨by omega, by omega⟩ e))))), q1, q2, q3⟩
theorem e7_lay (z : zS S) (hn : nmd S ns) {a p : Nat} (ha : a ≠ 103) (hp : p + 9 ≤ (jA S a).length) : ∃ L, j_X7_layName a p S = some (kA S a L) ∧ L.length = (jA S a).length ∧ (∀ i, i < p ∨ p + ns.length + 1 ≤ i → L.getD i 0 = (jA S a).getD i 0) ∧ nmAt L p ns := by
  have hl := zS_le z a
  have h8 := nmd_le hn
  obtain ⟨L, e, h1, h2, h3⟩ := l7_lay z hn ha (jA S a) hp hl (ns.length + 1) fuel 0 (jA S a) (by omega) (by unfold fuel; omega) rfl (fun _ _ => rfl) (fun j hj => absurd hj (by omega))
  rw [kA_self] at e
  have hg := nmd_get hn
  refine ⟨L, e, h1, h2, ?_, fun j hj => ?_⟩
  · have := h3 0 (by omega)
    rw [Nat.add_zero] at this
    exact this.trans hg.1
  · rw [Nat.add_assoc, h3 (1 + j) (by omega)]
    exact hg.2 j hj
theorem list_eq_getD {a b : List Int} (hl : a.length = b.length) (h : ∀ j, j < a.length → a.getD j 0 = b.getD j 0) : a = b := by
  apply List.ext_getElem hl
  intro i h1 h2
  have := h i h1
  rw [List.getD_eq_getElem?_getD, List.getD_eq_getElem?_getD, List.getElem?_eq_getElem h1, List.getElem?_eq_getElem h2] at this
  exact this
theorem drop_getD {l : List Int} {k : Nat} (h : k < l.length) : l.drop k = l.getD k 0 :: l.drop (k + 1) := by
  rw [List.drop_eq_getElem_cons h, List.getD_eq_getElem?_getD, List.getElem?_eq_getElem h]
  rfl
theorem l7_same (z : zS S) (hn : nmd S ns) {a p : Nat} (hm : nmAt (jA S a) p ms) (hml : ms.length = ns.length) (hp : p + 9 ≤ (jA S a).length) : ∀ (m n k : Nat) (t : Int), k + m = ns.length → m < n → (t = 0 ∨ t = 1) → j_X7_isSame_21 a n p t ((k : Int) + 1) S = some (bi (t = 1 ∧ ms.drop k = ns.drop k), S) := by
  have l9 := nmd_len z
  have h8 := nmd_le hn
  have hg := nmd_get hn
  have hz := zS_le z a
  intro m
  induction m with
  | zero =>
    intro n k t hk hn' ht
    obtain ⟨n, rfl⟩ : ∃ m, n = m + 1 := ⟨n - 1, by omega⟩
    rw [j_X7_isSame_21]
    unfold j_X7_isSame_64
    refine it (by omega) (it (by rw [hg.1]; omega) ?_)
    refine it ht ?_
    rcases ht with h | h
    · rw [bi_f (fun q => by omega), h]
    · rw [bi_t ⟨h, by rw [List.drop_eq_nil_of_le (by omega), List.drop_eq_nil_of_le (by omega)]⟩, h]
  | succ m ih =>
    intro n k t hk hn' ht
    obtain ⟨n, rfl⟩ : ∃ m, n = m + 1 := ⟨n - 1, by omega⟩
    rw [j_X7_isSame_21]
    unfold j_X7_isSame_64 j_X7_isSame_57
    refine it (by omega) (ie (by rw [hg.1]; omega) ?_)
    by_cases h0 : t = 0
    · rw [bi_f (fun q => by omega)]
      refine it h0 (it ht ?_)
      rw [h0]
    · refine ie h0 (it ⟨by omega, by omega⟩ (it ⟨by omega, by omega⟩ (it ⟨by omega, by omega⟩ ?_)))
      rw [show ((p : Int) + ((k : Int) + 1)).toNat = p + 1 + k by omega, show ((k : Int) + 1).toNat = 1 + k by omega, hm.2 k (by omega), hg.2 k (by omega)]
      by_cases he : ms.getD k 0 = ns.getD k 0
      · refine ie (nn he) (it ⟨by omega, by omega⟩ ?_)
        have := ih n (k + 1) 1 (by omega) (by omega) (.inr rfl)
        rw [show (((k + 1 : Nat) : Int) + 1) = (k : Int) + 1 + 1 by omega] at this
        dsimp only
        rw [this]
        congr 2
        have h1 : t = 1 := by omega
        by_cases ha : ms.drop (k + 1) = ns.drop (k + 1)
        · rw [bi_t ⟨rfl, ha⟩, bi_t ⟨h1, by rw [drop_getD (l := ms) (by omega), drop_getD (l := ns) (by omega), he, ha]⟩]
        · rw [bi_f (fun q => ha q.2), bi_f (fun q => ha (by
            have q2 := q.2
            rw [drop_getD (l := ms) (by omega), drop_getD (l := ns) (by omega)] at q2
            exact (List.cons.inj q2).2))]
      · refine it he (it ⟨by omega, by omega⟩ ?_)
        have := ih n (k + 1) 0 (by omega) (by omega) (.inl rfl)
        rw [show (((k + 1 : Nat) : Int) + 1) = (k : Int) + 1 + 1 by omega] at this
        dsimp only
        rw [this, bi_f (fun q => absurd q.1 (by decide)), bi_f (fun q => he (by
            have q2 := q.2
            rw [drop_getD (l := ms) (by omega), drop_getD (l := ns) (by omega)] at q2
            exact (List.cons.inj q2).1))]
theorem e7_same (z : zS S) (hn : nmd S ns) {a p : Nat} (hm : nmAt (jA S a) p ms) (hp : p + 9 ≤ (jA S a).length) : j_X7_isSame a p S = some (bi (ms = ns), S) := by
  have l9 := nmd_len z
  have h8 := nmd_le hn
  have hg := nmd_get hn
  have hz := zS_le z a
  unfold j_X7_isSame j_X7_isSame_0 j_X7_isSame_17
  refine it ⟨by omega, by omega⟩ (it (by omega) ?_)
  rw [show ((p : Int)).toNat = p by omega, hm.1, hg.1]
  by_cases hl : ms.length = ns.length
  · refine ie (nn (by omega)) ?_
    have := l7_same z hn hm hl hp ns.length fuel 0 1 (by omega) (by unfold fuel; omega) (.inr rfl)
    rw [show (((0 : Nat) : Int) + 1) = 1 by omega] at this
    rw [this]
    congr 2
    by_cases e : ms = ns
    · rw [bi_t e, bi_t ⟨rfl, by rw [e]⟩]
    · rw [bi_f e, bi_f (fun q => e q.2)]
  · refine it (by omega) ?_
    rw [bi_f (fun q => hl (by rw [q])), show fuel = 19999 + 1 from rfl, j_X7_isSame_21]
    unfold j_X7_isSame_64
    refine it (by omega) ?_
    by_cases h1 : (jA S 103).getD 0 0 < 1
    · exact it h1 (it (.inl rfl) rfl)
    · exact ie h1 (it rfl (it (.inl rfl) rfl))
end MLA
