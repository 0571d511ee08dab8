section FD
variable {S : iS} {w : Int64}
theorem getD_set {l : List Int} {i j : Nat} {x : Int} : (l.set i x).getD j 0 = if j = i ∧ i < l.length then x else l.getD j 0 := by
  rw [List.getD_eq_getElem?_getD, List.getD_eq_getElem?_getD, List.getElem?_set]
  by_cases h : i = j
  · subst h
    by_cases h' : i < l.length
    · simp [h']
    · simp [h']
  · rw [if_neg h, if_neg (fun q => h q.1.symm)]
def bysC (w : Int64) : Nat → List Int
  | 0 => []
  | k + 1 => byC w k :: bysC w k
def bysM (w : Int64) : Nat → List Int
  | 0 => []
  | k + 1 => byM w k :: bysM w k
theorem bysC_len (k : Nat) : (bysC w k).length = k := by
  induction k with
  | zero => rfl
  | succ k ih => rw [bysC, List.length_cons, ih]
theorem bysM_len (k : Nat) : (bysM w k).length = k := by
  induction k with
  | zero => rfl
  | succ k ih => rw [bysM, List.length_cons, ih]
theorem z2 (z : zS S) : (jA S 2).length = 600 := z 2
theorem z83 (z : zS S) : (jA S 83).length = 600 := z 83
theorem l6_feed (l1 : Int) : ∀ (k n : Nat) (S : iS), zS S → 0 ≤ jI S 1 1 → jI S 1 1 + k ≤ 600 → k ≤ 8 → k < n → j_X6_feed_37 n l1 w ((k : Int) - 1) S = some (jI S 1 1 + k, gaL S 1 1 2 (bysC w k)) := by
  intro k
  induction k with
  | zero =>
    intro n S z h0 h1 h8 hn
    obtain ⟨m, rfl⟩ : ∃ m, n = m + 1 := ⟨n - 1, by omega⟩
    rw [j_X6_feed_37, if_pos (by omega)]
    simp [gaL, bysC]
  | succ k ih =>
    intro n S z h0 h1 h8 hn
    obtain ⟨m, rfl⟩ : ∃ m, n = m + 1 := ⟨n - 1, by omega⟩
    rw [j_X6_feed_37, if_neg (by omega), show (((k + 1 : Nat) : Int) - 1) = (k : Int) by omega, eR_add z h0 (by rw [z2 z]; omega), Option.bind_some, if_pos ⟨by omega, by omega⟩, show ((k : Int) + -1) = (k : Int) - 1 by omega,
      ih m _ (ga_zS z) (by rw [ga_len]; omega) (by rw [ga_len]; omega) (by omega) (by omega), ga_len, bysC, gaL]
    congr 2
    omega
theorem it {α : Type} {c : Prop} [Decidable c] {x y r : α} (h : c) (k : x = r) : (if c then x else y) = r := by rw [if_pos h]; exact k
theorem ie {α : Type} {c : Prop} [Decidable c] {x y r : α} (h : ¬ c) (k : y = r) : (if c then x else y) = r := by rw [if_neg h]; exact k
theorem m6_feedO {n : Int} (h : n < 1 ∨ 8 < n) : j_X6_feed n w S = some (-102, S) := by
  unfold j_X6_feed j_X6_feed_0 j_X6_feed_11
  by_cases a1 : n < 1
  · exact it a1 rfl
  · exact ie a1 (ie (by omega) rfl)
theorem m6_feedF (h0 : 0 ≤ jI S 1 1) (h1 : jI S 1 1 ≤ 600) {n : Int} (h : ¬ (n < 1 ∨ 8 < n)) (hf : 600 < jI S 1 1 + n) : j_X6_feed n w S = some (-104, S) := by
  unfold j_X6_feed j_X6_feed_0
  exact ie (by omega) (it (by omega) (it ⟨by omega, by omega⟩ (ie (by omega) rfl)))
theorem m6_feed (z : zS S) (h0 : 0 ≤ jI S 1 1) {n : Int} (h : ¬ (n < 1 ∨ 8 < n)) (hf : ¬ 600 < jI S 1 1 + n) : j_X6_feed n w S = some (jI S 1 1 + n, gaL S 1 1 2 (bysC w n.toNat)) := by
  unfold j_X6_feed j_X6_feed_0
  refine ie (by omega) (it (by omega) (it ⟨by omega, by omega⟩ (it (by omega) (it ⟨by omega, by omega⟩ ?_))))
  have e : n = ((n.toNat : Nat) : Int) := by omega
  have := l6_feed (w := w) n n.toNat fuel S z h0 (by omega) (by omega) (by unfold fuel; omega)
  rw [← e] at this
  exact this
theorem l7_feed (l1 : Int) : ∀ (k n : Nat) (S : iS), zS S → 0 ≤ jI S 82 2 → jI S 82 2 + k ≤ 600 → k ≤ 8 → k < n → j_X7_feed_38 n l1 w ((k : Int) - 1) S = some (jI S 82 2 + k, gaL S 82 2 83 (bysM w k)) := by
  intro k
  induction k with
  | zero =>
    intro n S z h0 h1 h8 hn
    obtain ⟨m, rfl⟩ : ∃ m, n = m + 1 := ⟨n - 1, by omega⟩
    rw [j_X7_feed_38, if_pos (by omega)]
    simp [gaL, bysM]
  | succ k ih =>
    intro n S z h0 h1 h8 hn
    obtain ⟨m, rfl⟩ : ∃ m, n = m + 1 := ⟨n - 1, by omega⟩
    have z8 := z83 z
    rw [j_X7_feed_38, if_neg (by omega), show (((k + 1 : Nat) : Int) - 1) = (k : Int) by omega, if_pos ⟨by omega, by omega⟩, if_pos ⟨by omega, by omega⟩, if_pos ⟨by omega, by omega⟩, show ((k : Int) + -1) = (k : Int) - 1 by omega]
    have := ih m (ga S 82 2 83 (byM w k)) (ga_zS z) (by rw [ga_len]; omega) (by rw [ga_len]; omega) (by omega) (by omega)
    unfold ga at this
    rw [this, bysM, gaL, ga, jI_eq]
    congr 2
    omega
theorem e820 {f : Nat} (h : f ≠ 0) : jI (kI S 82 0 0) 82 f = jI S 82 f := jI_ne (.inr h)
theorem m7_feedO {n : Int} (h : n < 1 ∨ 8 < n) : j_X7_feed n w S = some (-102, kI S 82 0 0) := by
  unfold j_X7_feed j_X7_feed_0
  rw [e_in, Option.bind_some]
  exact ie (nn (bi_0.mpr (by omega))) rfl
theorem m7_feedF (h0 : 0 ≤ jI S 82 2) (h1 : jI S 82 2 ≤ 600) {n : Int} (h : ¬ (n < 1 ∨ 8 < n)) (hf : 600 < jI S 82 2 + n) : j_X7_feed n w S = some (-104, kI S 82 0 0) := by
  unfold j_X7_feed j_X7_feed_0
  rw [e_in, Option.bind_some]
  dsimp only
  rw [e820 (by decide)]
  exact it (bi_n (by omega)) (it ⟨by omega, by omega⟩ (ie (by omega) rfl))
theorem m7_feed (z : zS S) (h0 : 0 ≤ jI S 82 2) {n : Int} (h : ¬ (n < 1 ∨ 8 < n)) (hf : ¬ 600 < jI S 82 2 + n) : j_X7_feed n w S = some (jI S 82 2 + n, gaL (kI S 82 0 0) 82 2 83 (bysM w n.toNat)) := by
  unfold j_X7_feed j_X7_feed_0
  rw [e_in, Option.bind_some]
  dsimp only
  have e0 : jI (kI S 82 0 0) 82 2 = jI S 82 2 := e820 (by decide)
  rw [e0]
  refine it (bi_n (by omega)) (it ⟨by omega, by omega⟩ (it (by omega) (it ⟨by omega, by omega⟩ ?_)))
  have e : n = ((n.toNat : Nat) : Int) := by omega
  have := l7_feed (w := w) n n.toNat fuel (kI S 82 0 0) (zS_kI z) (by rw [e0]; exact h0) (by rw [e0]; omega) (by omega) (by unfold fuel; omega)
  rw [← e, e0] at this
  exact this
/-- the upper half of a row over its lower half -/
theorem l7_take (a half : Nat) (hh : half ≤ 6300) (O : List Int) : ∀ (m n k : Nat) (L : List Int), k + m = half → m < n → L.length = 2 * half → (∀ i, i < k → L.getD i 0 = O.getD (half + i) 0) → (∀ i, half ≤ i → L.getD i 0 = O.getD i 0) → ∃ L', j_X7_takeRow_2 a n half k (kA S a L) = some (kA S a L') ∧ L'.length = 2 * half ∧ ∀ i, i < half → L'.getD i 0 = O.getD (half + i) 0 := by
  intro m
  induction m with
  | zero =>
    intro n k L hk hn hl h1 h2
    obtain ⟨n, rfl⟩ : ∃ m, n = m + 1 := ⟨n - 1, by omega⟩
    refine ⟨L, ?_, hl, fun i hi => h1 i (by omega)⟩
    rw [j_X7_takeRow_2, if_pos (by omega)]
  | succ m ih =>
    intro n k L hk hn hl h1 h2
    obtain ⟨n, rfl⟩ : ∃ m, n = m + 1 := ⟨n - 1, by omega⟩
    rw [j_X7_takeRow_2, jA_eq, kA_kA, if_neg (by omega), if_pos ⟨by omega, by omega⟩, if_pos ⟨by omega, by omega⟩, if_pos ⟨by omega, by omega⟩, if_pos ⟨by omega, by omega⟩, show ((k : Int) + 1) = ((k + 1 : Nat) : Int) by omega, show ((k : Int)).toNat = k by omega, show (((half : Int) + (k : Int))).toNat = half + k by omega]
    refine ih n (k + 1) _ (by omega) (by omega) (by rw [List.length_set]; exact hl) (fun i hi => ?_) (fun i hi => ?_)
    · rw [getD_set]
      by_cases e : i = k
      · rw [if_pos ⟨e, by omega⟩, e]; exact h2 _ (by omega)
      · rw [if_neg (fun q => e q.1)]; exact h1 i (by omega)
    · rw [getD_set, if_neg (by omega)]; exact h2 i hi
theorem kA_self {S : iS} {a : Nat} : kA S a (jA S a) = S := by
  unfold kA jA
  refine Prod.ext rfl (Prod.ext (funext fun a' => ?_) rfl)
  show (if a' = a then S.2.1 a else S.2.1 a') = S.2.1 a'
  by_cases h : a' = a
  · subst h; rw [if_pos rfl]
  · rw [if_neg h]
theorem e7_takeRow (a half : Nat) (hh : half ≤ 6300) (hl : (jA S a).length = 2 * half) : ∃ L, j_X7_takeRow a half S = some (kA S a L) ∧ L.length = 2 * half ∧ ∀ i, i < half → L.getD i 0 = (jA S a).getD (half + i) 0 := by
  unfold j_X7_takeRow j_X7_takeRow_0
  have := l7_take (S := S) a half hh (jA S a) half fuel 0 (jA S a) (by omega) (by unfold fuel; omega) hl (fun i hi => absurd hi (by omega)) (fun i _ => rfl)
  rw [kA_self] at this
  exact this
end FD
