section MNR
variable {S S' : iS} {ns : List Int}
theorem p10 (k : Nat) : (1 : Int) ≤ 10 ^ k := by
  induction k with
  | zero => decide
  | succ k ih => rw [Int.pow_succ]; omega
theorem s7_83 (w : wM S) {r : Int → Int → Int → Int → Int → iS → Option iS} {l1 l2 l3 l4 l5 : Int} (h : ¬ (¬ l1 = 0 ∧ ¬ l2 = 0 ∧ hd (mRs S) = 48 ∧ l5 = 0)) : j_X7_readNumber_83 r l1 l2 l3 l4 l5 S = j_X7_readNumber_117 r l1 l2 l3 l4 l5 S := by
  unfold j_X7_readNumber_83
  by_cases h1 : l1 = 0
  · exact it h1 rfl
  · refine ie h1 ?_
    by_cases h2 : l2 = 0
    · exact it h2 rfl
    · refine ie h2 ?_
      rw [e7_here w, Option.bind_some]
      by_cases h3 : hd (mRs S) = 48
      · exact ie (nn h3) (it (fun h4 => h ⟨h1, h2, h3, h4⟩) rfl)
      · exact it h3 rfl
theorem s7_83w (w : wM S) {r : Int → Int → Int → Int → Int → iS → Option iS} {l1 l2 l3 l4 l5 : Int} (h : ¬ l1 = 0 ∧ ¬ l2 = 0 ∧ hd (mRs S) = 48 ∧ l5 = 0) : j_X7_readNumber_83 r l1 l2 l3 l4 l5 S = j_X7_readNumber_105 r l1 l2 l3 l4 l5 S := by
  unfold j_X7_readNumber_83
  refine ie h.1 (ie h.2.1 ?_)
  rw [e7_here w, Option.bind_some]
  exact ie (nn h.2.2.1) (ie (nn h.2.2.2) rfl)
/-- a loop of readNumber that has a FAULT -/
theorem q7_50 {n : Nat} {l1 l2 l3 l4 l5 : Int} (h : ¬ jI S 82 30 = 0) : j_X7_readNumber_50 (n + 1) l1 l2 l3 l4 l5 S = j_X7_readNumber_179 l1 l2 l3 l4 l5 S := by
  rw [j_X7_readNumber_50]
  exact it h rfl
/-- one figure that finds room -/
theorem s7_117 (u : uM S) (hn : nmd S ns) (hl : ns.length < 8) (hf : isFig (hd (mRs S))) {m : Nat} {l1 l2 l3 v c : Int} (hc : ¬ c = 6) (hc0 : 0 ≤ c) (hc1 : c ≤ 6) (v0 : 0 ≤ v) (v1 : v ≤ 99999) : ∃ T, j_X7_readNumber_117 (fun l1' l2' l3' l4' l5' S' => j_X7_readNumber_50 m l1' l2' l3' l4' l5' S') l1 l2 l3 v c S = j_X7_readNumber_50 m l1 l2 l3 (10 * v + (hd (mRs S) - 48)) (c + 1) T ∧ fr FN RN S T ∧ uM T ∧ nmd T (ns ++ [hd (mRs S)]) ∧ mRs T = (mRs S).tail := by
  have a1 := u.1.2.2.1
  have a2 := u.1.2.2.2.1
  have a3 := u.2.2
  obtain ⟨T, e1, ⟨l, hT⟩, u2, m2, n2, i2, u3, m3⟩ := u7_sign (c := hd (mRs S)) (p := jI S 82 27) u hn hl (by omega)
  refine ⟨kI T 82 27 (jI S 82 27 + 1), ?_, ?_, u3, n2, m3⟩
  · unfold j_X7_readNumber_117
    refine it hc ?_
    rw [e7_here u.1, Option.bind_some]
    dsimp only
    rw [e7_here u.1, Option.bind_some]
    dsimp only
    rw [e1, Option.bind_some, i2]
    refine it ⟨by omega, by omega⟩ (it ⟨by omega, by omega⟩ (it ⟨by omega, by omega⟩ (it ⟨by omega, by omega⟩ (it ⟨by omega, by omega⟩ ?_))))
    rw [show 10 * v + hd (mRs S) - 48 = 10 * v + (hd (mRs S) - 48) by omega]
  · subst hT
    exact fr_trans (fr_kA rfl) (fr_kI (by omega))
theorem l7_fig {l1 l2 l3 z : Int} (h3 : 0 ≤ l3) (h3' : l3 < 600) : ∀ (k n : Nat) (S : iS) (ns : List Int) (v c : Int), uM S → nmd S ns → ns.length + k ≤ 8 → k + 1 < n → (jA S 83).getD l3.toNat 0 = z → 1 ≤ c → (z = 48 ∧ k = 0 ∧ c ≤ 6) ∨ (z ≠ 48 ∧ c + k = 6) → 0 ≤ v → (v + 1) * 10 ^ k ≤ 1000000 → ∃ S1 v' c', j_X7_readNumber_50 n l1 l2 l3 v c S = j_X7_readNumber_179 l1 l2 l3 v' c' S1 ∧ fr FN RN S S1 ∧ (∃ ms, nmd S1 ms) ∧ 0 ≤ v' ∧ v' ≤ 999999 ∧ rs (fgK k (mRs S)) S1 (fun q => nmd S1 (ns ++ q.1) ∧ mRs S1 = q.2 ∧ v' = dvF v q.1 ∧ c' = c + q.1.length) := by
  intro k
  induction k with
  | zero =>
    intro n S ns v c u hn hk hm hz hc hzk v0 v1
    obtain ⟨m, rfl⟩ : ∃ m, n = m + 2 := ⟨n - 2, by omega⟩
    have a1 := u.1.2.2.1
    have a2 := u.1.2.2.2.1
    have a3 := u.2.2
    have l83 := z83 u.1.1
    rw [Int.pow_zero, Int.mul_one] at v1
    by_cases h : isFig (hd (mRs S))
    · rw [fgK, if_pos h]
      have hw : ∀ j, (¬ j = 0 ∧ 1 ≤ j ∧ j ≤ 7) → j_X7_readNumber_50 (m + 2) l1 l2 l3 v c S = ((j_X7_wrong j (jI S 82 27) S).bind fun q => j_X7_readNumber_50 (m + 1) l1 l2 l3 v c q) → ∃ S1 v' c', j_X7_readNumber_50 (m + 2) l1 l2 l3 v c S = j_X7_readNumber_179 l1 l2 l3 v' c' S1 ∧ fr FN RN S S1 ∧ (∃ ms, nmd S1 ms) ∧ 0 ≤ v' ∧ v' ≤ 999999 ∧ rs (none : Option (List Int × List Int)) S1 (fun q => nmd S1 (ns ++ q.1) ∧ mRs S1 = q.2 ∧ v' = dvF v q.1 ∧ c' = c + q.1.length) := by
        intro j hj e
        refine ⟨kI (kI S 82 30 j) 82 31 (jI S 82 27), v, c, ?_, fr_w (by omega) (by omega), ⟨ns, hn⟩, v0, by omega, vM_w' u.1 hj.1 (by omega) (by omega) (by omega) hj.2.1 hj.2.2⟩
        rw [e, e7_wrong0 u.2.1, Option.bind_some, q7_50 (S := kI (kI S 82 30 j) 82 31 (jI S 82 27)) hj.1]
      by_cases hz48 : z = 48
      · refine hw 1 (by decide) ?_
        rw [j_X7_readNumber_50]
        refine ie (nn u.2.1) ?_
        rw [e7_here u.1, Option.bind_some, e7_fig, Option.bind_some]
        dsimp only
        refine ie (bi_n h) (ie (by omega) (it ⟨h3, by omega⟩ (it (by rw [hz]; exact hz48) rfl)))
      · refine hw 2 (by decide) ?_
        rw [j_X7_readNumber_50]
        refine ie (nn u.2.1) ?_
        rw [e7_here u.1, Option.bind_some, e7_fig, Option.bind_some]
        dsimp only
        refine ie (bi_n h) (ie (by omega) (it ⟨h3, by omega⟩ (ie (by rw [hz]; exact hz48) ?_)))
        rw [s7_83 u.1 (by omega)]
        unfold j_X7_readNumber_117
        exact ie (nn (by omega)) rfl
    · refine ⟨S, v, c, ?_, fr_refl, ⟨ns, hn⟩, v0, by omega, ?_⟩
      · rw [j_X7_readNumber_50]
        refine ie (nn u.2.1) ?_
        rw [e7_here u.1, Option.bind_some, e7_fig, Option.bind_some]
        exact it (bi_0.mpr h) rfl
      · rw [fgK_n h]
        exact ⟨u, by rw [List.append_nil]; exact hn, rfl, rfl, by rw [List.length_nil]; omega⟩
  | succ k ih =>
    intro n S ns v c u hn hk hm hz hc hzk v0 v1
    obtain ⟨m, rfl⟩ : ∃ m, n = m + 2 := ⟨n - 2, by omega⟩
    have a1 := u.1.2.2.1
    have a2 := u.1.2.2.2.1
    have a3 := u.2.2
    have l83 := z83 u.1.1
    have hz48 : z ≠ 48 := by omega
    have p1 : (1 : Int) ≤ 10 ^ k := p10 k
    have v2 : v + 1 ≤ 100000 := by
      rw [Int.pow_succ, Int.mul_comm (10 ^ k : Int) 10, ← Int.mul_assoc] at v1
      have : (v + 1) * 10 * 1 ≤ (v + 1) * 10 * 10 ^ k := Int.mul_le_mul_of_nonneg_left p1 (by omega)
      omega
    by_cases h : isFig (hd (mRs S))
    · obtain ⟨T, e1, f1, u1, n1, m1⟩ := s7_117 (m := m + 1) (l1 := l1) (l2 := l2) (l3 := l3) (v := v) (c := c) u hn (by omega) h (by omega) (by omega) (by omega) v0 (by omega)
      have v3 : (10 * v + (hd (mRs S) - 48) + 1) * 10 ^ k ≤ 1000000 := by
        refine Int.le_trans ?_ v1
        rw [Int.pow_succ, Int.mul_comm (10 ^ k : Int) 10, ← Int.mul_assoc]
        exact Int.mul_le_mul_of_nonneg_right (by omega) (by omega)
      obtain ⟨S1, v', c', e2, f2, n2, v4, v5, r2⟩ := ih (m + 1) T (ns ++ [hd (mRs S)]) (10 * v + (hd (mRs S) - 48)) (c + 1) u1 n1 (by rw [List.length_append, List.length_singleton]; omega) (by omega) (by rw [f1.2.1 83 (by decide)]; exact hz) (by omega) (.inr ⟨hz48, by omega⟩) (by omega) v3
      refine ⟨S1, v', c', ?_, fr_trans f1 f2, n2, v4, v5, ?_⟩
      · rw [j_X7_readNumber_50]
        refine ie (nn u.2.1) ?_
        rw [e7_here u.1, Option.bind_some, e7_fig, Option.bind_some]
        dsimp only
        refine ie (bi_n h) (ie (by omega) (it ⟨h3, by omega⟩ (ie (by rw [hz]; exact hz48) ?_)))
        rw [s7_83 u.1 (by omega), e1, e2]
      · rw [m1] at r2
        rw [fgK, if_pos h]
        refine rs_map (rs_mono r2 fun q _ hq => ?_)
        obtain ⟨q1, q2, q3, q4⟩ := hq
        rw [List.append_assoc] at q1
        exact ⟨q1, q2, q3, by rw [q4, List.length_cons]; omega⟩
    · refine ⟨S, v, c, ?_, fr_refl, ⟨ns, hn⟩, v0, by omega, ?_⟩
      · rw [j_X7_readNumber_50]
        refine ie (nn u.2.1) ?_
        rw [e7_here u.1, Option.bind_some, e7_fig, Option.bind_some]
        exact it (bi_0.mpr h) rfl
      · rw [fgK_n h]
        exact ⟨u, by rw [List.append_nil]; exact hn, rfl, rfl, by rw [List.length_nil]; omega⟩
end MNR
