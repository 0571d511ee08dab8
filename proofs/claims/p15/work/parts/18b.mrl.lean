section MRL
variable {S S' S'' : iS} {L : List Int}
abbrev FQ (f : Nat) : Prop := f = 28 ∨ f = 29 ∨ FL f
def lq (S S' : iS) : Prop := (∀ a f, ¬ (a = 82 ∧ FQ f) → jI S' a f = jI S a f) ∧ S'.2.2 = S.2.2 ∧ (∀ a i, i < lw a → (jA S' a).getD i 0 = (jA S a).getD i 0) ∧ ∀ a, ¬ tch a → jA S' a = jA S a
theorem lq_trans (h : lq S S') (h' : lq S' S'') : lq S S'' := ⟨fun a f q => (h'.1 a f q).trans (h.1 a f q), h'.2.1.trans h.2.1, fun a i q => (h'.2.2.1 a i q).trans (h.2.2.1 a i q), fun a q => (h'.2.2.2 a q).trans (h.2.2.2 a q)⟩
theorem lq_lo (h : lo S S') : lq S S' := ⟨fun a f q => h.1 a f (fun k => q ⟨k.1, .inr (.inr k.2)⟩), h.2⟩
theorem lq_refl : lq S S := lq_lo lo_refl
theorem lq_kI {f : Nat} {v : Int} (h : FQ f) : lq S (kI S 82 f v) := ⟨fun a g q => jI_ne (by
  by_cases e : a = 82
  · by_cases e' : g = f
    · subst e e'; exact absurd ⟨rfl, h⟩ q
    · exact .inr e'
  · exact .inl e), rfl, fun _ _ _ => rfl, fun _ _ => rfl⟩
theorem lq_kA {a : Nat} (h : tch a) (hl : ∀ i, i < lw a → L.getD i 0 = (jA S a).getD i 0) : lq S (kA S a L) := lq_lo (lo_kA h hl)
theorem byt_lq (h : byt S) (hl : lq S S') : byt S' := by
  unfold byt gv
  rw [hl.1 82 2 (by omega), hl.2.2.2 83 (by omega)]
  exact h
theorem tx_nil {k : Nat} {man ln : Int} {G : gT} : tx k man ln G [] = some G := by
  cases k with
  | zero => rw [tx, if_pos rfl]
  | succ k => rw [tx, if_pos rfl]
/-- all LINES of the model -/
theorem l7_rd : ∀ (k n : Nat) (S : iS) (G : gT), uM S → byt S → mG S G → bdG G (mRs S) → wfG G → mRs S ≠ [] → (mRs S).length ≤ k → 0 ≤ jI S 82 28 → jI S 82 28 + k ≤ 100000 → 0 ≤ jI S 82 29 → jI S 82 29 ≤ 600 → k < n → ∃ n' S1, j_X7_read_90 n 1 S = j_X7_read_90 (n' + 1) 0 S1 ∧ lq S S1 ∧ 0 ≤ jI S1 82 29 ∧ jI S1 82 29 ≤ 600 ∧ rL (tx k (jI S 82 3) (jI S 82 28) G (mRs S)) S1 (fun G' => mG S1 G' ∧ wfG G') := by
  intro k
  induction k with
  | zero =>
    intro n S G u hb hg hbd hw hne hk
    exact absurd (List.eq_nil_of_length_eq_zero (by omega)) hne
  | succ k ih =>
    intro n S G u hb hg hbd hw hne hk l0 l1 f0 f1 hn
    obtain ⟨m, rfl⟩ : ∃ m, n = m + 2 := ⟨n - 2, by omega⟩
    obtain ⟨S1, e1, lo1, r1⟩ := e7_line u hb hg hbd
    have i28 : jI S1 82 28 = jI S 82 28 := lo1.1 82 28 (by decide)
    have i29 : jI S1 82 29 = jI S 82 29 := lo1.1 82 29 (by decide)
    have i2 : jI S1 82 2 = jI S 82 2 := lo1.1 82 2 (by decide)
    have i3 : jI S1 82 3 = jI S 82 3 := lo1.1 82 3 (by decide)
    have h600 := u.1.2.2.1
    rw [tx, if_neg hne]
    cases hq : liS (jI S 82 3) (jI S 82 28) G (mRs S) with
    | none =>
      rw [hq] at r1
      refine ⟨m, S1, ?_, lq_lo lo1, by omega, by omega, r1⟩
      rw [j_X7_read_90]
      refine ie (by decide) ?_
      rw [e1, Option.bind_some]
      exact it r1.2.1 rfl
    | some q =>
      rw [hq] at r1
      obtain ⟨u1, g1, m1, hd1⟩ := r1
      obtain ⟨le1, _, wf1, bd1⟩ := liS_le hq hbd hw
      have hml := mRs_len u1.1 u1.2.2
      rw [m1] at hml
      have c1 := u1.1.2.2.1
      have c2 := u1.1.2.2.2.1
      have c3 := u1.2.2
      rw [Option.bind_some]
      have htail : (q.2.tail.length : Int) = q.2.length - 1 ∨ q.2 = [] := by
        cases q.2 with
        | nil => exact .inr rfl
        | cons c r => left; rw [List.tail_cons, List.length_cons]; omega
      by_cases hmore : jI S1 82 2 - 1 ≤ jI S1 82 27
      · have hnil : q.2.tail = [] := by
          rcases htail with h | h
          · exact List.eq_nil_of_length_eq_zero (by omega)
          · rw [h]; rfl
        rw [hnil, tx_nil]
        refine ⟨m, S1, ?_, lq_lo lo1, by omega, by omega, u1, g1, wf1⟩
        rw [j_X7_read_90]
        refine ie (by decide) ?_
        rw [e1, Option.bind_some]
        exact ie (nn u1.2.1) (it ⟨by omega, by omega⟩ (it hmore rfl))
      · have hne2 : q.2.tail ≠ [] := by
          intro h
          rcases htail with h2 | h2
          · rw [h, List.length_nil] at h2; omega
          · rw [h2, List.length_nil] at hml; omega
        have w2 := wM_step u1.1 (by omega)
        have m2 := mRs_step u1.1
        rw [m1] at m2
        have hT : uM (kI (kI (kI S1 82 27 (jI S1 82 27 + 1)) 82 28 (jI S1 82 28 + 1)) 82 29 (jI S1 82 27 + 1)) := by
          refine ⟨w2, u1.2.1, ?_⟩
          show jI S1 82 27 + 1 ≤ jI S1 82 2
          omega
        have mT : mRs (kI (kI (kI S1 82 27 (jI S1 82 27 + 1)) 82 28 (jI S1 82 28 + 1)) 82 29 (jI S1 82 27 + 1)) = q.2.tail := m2
        have lT : lq S (kI (kI (kI S1 82 27 (jI S1 82 27 + 1)) 82 28 (jI S1 82 28 + 1)) 82 29 (jI S1 82 27 + 1)) := lq_trans (lq_lo lo1) (lq_trans (lq_kI (by omega)) (lq_trans (lq_kI (by omega)) (lq_kI (by omega))))
        have gT' : mG (kI (kI (kI S1 82 27 (jI S1 82 27 + 1)) 82 28 (jI S1 82 28 + 1)) 82 29 (jI S1 82 27 + 1)) q.1 := mG_fr g1 (F := fun f => f = 27 ∨ f = 28 ∨ f = 29) (R := fun _ => False) (fr_trans (fr_kI (by omega)) (fr_trans (fr_kI (by omega)) (fr_kI (by omega)))) (by omega) (by omega) (fun a q => absurd q (fun q => q)) (fun q => q)
        have t28 : jI (kI (kI (kI S1 82 27 (jI S1 82 27 + 1)) 82 28 (jI S1 82 28 + 1)) 82 29 (jI S1 82 27 + 1)) 82 28 = jI S 82 28 + 1 := by
          show jI S1 82 28 + 1 = _
          rw [i28]
        have t29 : jI (kI (kI (kI S1 82 27 (jI S1 82 27 + 1)) 82 28 (jI S1 82 28 + 1)) 82 29 (jI S1 82 27 + 1)) 82 29 = jI S1 82 27 + 1 := rfl
        have t3 : jI (kI (kI (kI S1 82 27 (jI S1 82 27 + 1)) 82 28 (jI S1 82 28 + 1)) 82 29 (jI S1 82 27 + 1)) 82 3 = jI S 82 3 := i3
        have est : j_X7_read_90 (m + 2) 1 S = j_X7_read_90 (m + 1) 1 (kI (kI (kI S1 82 27 (jI S1 82 27 + 1)) 82 28 (jI S1 82 28 + 1)) 82 29 (jI S1 82 27 + 1)) := by
          rw [j_X7_read_90]
          refine ie (by decide) ?_
          rw [e1, Option.bind_some]
          refine ie (nn u1.2.1) (it ⟨by omega, by omega⟩ (ie hmore ?_))
          unfold j_X7_read_123
          exact ie (by decide) (it ⟨by omega, by omega⟩ (it ⟨by omega, by omega⟩ rfl))
        generalize kI (kI (kI S1 82 27 (jI S1 82 27 + 1)) 82 28 (jI S1 82 28 + 1)) 82 29 (jI S1 82 27 + 1) = T at *
        have hlk : (mRs T).length ≤ k := by
          rw [mT]
          rcases htail with h | h
          · omega
          · rw [h] at hne2; exact absurd rfl hne2
        obtain ⟨n', S2, e2, l2, x0, x1, r2⟩ := ih (m + 1) T q.1 hT (byt_lq hb lT) gT' (by rw [mT]; exact bd1 hne2) wf1 (by rw [mT]; exact hne2) hlk (by omega) (by omega) (by omega) (by omega) (by omega)
        rw [t28, t3, mT] at r2
        exact ⟨n', S2, est.trans e2, lq_trans lT l2, x0, x1, r2⟩
/-- lie: nothing to tell -/
theorem e7_lie0 {m k : Int} (h : ¬ jI S 82 30 = 0 ∨ jI S 82 35 = 0) : j_X7_lie m k S = some S := by
  unfold j_X7_lie j_X7_lie_0 j_X7_lie_94
  by_cases h1 : jI S 82 30 = 0
  · exact ie (nn h1) (it (h.resolve_left (fun q => q h1)) rfl)
  · exact it h1 rfl
theorem l7_lie {m k : Int} : ∀ (j n : Nat) (S : iS), zS S → jI S 82 29 = j → j ≤ 600 → j < n → ∃ v, j_X7_lie_58 n m k S = some (kI S 82 29 v) ∧ 0 ≤ v ∧ v ≤ 600 := by
  intro j
  induction j with
  | zero =>
    intro n S z hj _ hn
    obtain ⟨n, rfl⟩ : ∃ m, n = m + 1 := ⟨n - 1, by omega⟩
    refine ⟨0, ?_, by decide, by decide⟩
    rw [j_X7_lie_58]
    refine it (by omega) ?_
    unfold j_X7_lie_94
    have : kI S 82 29 0 = S := by
      unfold kI
      refine Prod.ext (funext fun a' => funext fun f' => ?_) rfl
      show (if a' = 82 ∧ f' = 29 then 0 else S.1 a' f') = S.1 a' f'
      by_cases h : a' = 82 ∧ f' = 29
      · rw [if_pos h, h.1, h.2]; exact hj.symm
      · rw [if_neg h]
    rw [this]
  | succ j ih =>
    intro n S z hj h6 hn
    obtain ⟨n, rfl⟩ : ∃ m, n = m + 1 := ⟨n - 1, by omega⟩
    have l83 := z83 z
    rw [j_X7_lie_58]
    have hself : kI S 82 29 (jI S 82 29) = S := by
      unfold kI jI
      refine Prod.ext (funext fun a' => funext fun f' => ?_) rfl
      show (if a' = 82 ∧ f' = 29 then S.1 82 29 else S.1 a' f') = S.1 a' f'
      by_cases h : a' = 82 ∧ f' = 29
      · rw [if_pos h, h.1, h.2]
      · rw [if_neg h]
    by_cases h10 : (jA S 83).getD (jI S 82 29 - 1).toNat 0 = 10
    · refine ⟨jI S 82 29, ie (by omega) (it ⟨by omega, by omega⟩ (it ⟨by omega, by omega⟩ (it h10 ?_))), by omega, by omega⟩
      rw [hself]
      rfl
    · obtain ⟨v, e, v0, v1⟩ := ih n (kI S 82 29 (jI S 82 29 - 1)) z (by rw [jI_eq]; omega) (by omega) (by omega)
      rw [kI_kI] at e
      exact ⟨v, ie (by omega) (it ⟨by omega, by omega⟩ (it ⟨by omega, by omega⟩ (ie h10 e))), v0, v1⟩
/-- lie: the COUNT told -/
theorem e7_lie (u : uM S) {c : Int × Int} (hc : mCt S (some c)) {many : Int} {k : Nat} (hk : k < 2) : ∃ S', j_X7_lie many k S = some S' ∧ lq S S' ∧ jA S' = jA S ∧ ((if k = 0 then c.1 else c.2) = many → S' = S) ∧ (¬ (if k = 0 then c.1 else c.2) = many → vL S' ∧ 0 ≤ jI S' 82 29 ∧ jI S' 82 29 ≤ 600) := by
  obtain ⟨h35, c0, c1, d0, d1, d2, d3⟩ := hc
  have l101 : (jA S 101).length = 4 := u.1.1 101
  have l104 : (jA S 104).length = 2 := u.1.1 104
  have l105 : (jA S 105).length = 2 := u.1.1 105
  have hv : (jA S 101).getD (2 + (k : Int)).toNat 0 = (if k = 0 then c.1 else c.2) := by
    by_cases e : k = 0
    · rw [if_pos e, e]; exact c0
    · rw [if_neg e, show k = 1 by omega]; exact c1
  have hat : 0 ≤ (jA S 104).getD k 0 ∧ (jA S 104).getD k 0 ≤ 600 := by
    by_cases e : k = 0
    · rw [e]; exact ⟨d0, d1⟩
    · rw [show k = 1 by omega]; exact ⟨d2, d3⟩
  unfold j_X7_lie j_X7_lie_0 j_X7_lie_94
  by_cases he : (if k = 0 then c.1 else c.2) = many
  · refine ⟨S, ie (nn u.2.1) (ie (by omega) (it ⟨by omega, by omega⟩ (it ⟨by omega, by omega⟩ (it (by rw [hv]; exact he) rfl)))), lq_refl, rfl, fun _ => rfl, fun q => absurd he q⟩
  · obtain ⟨v, e, v0, v1⟩ := l7_lie (m := many) (k := k) ((jA S 104).getD k 0).toNat fuel (kI (kI (kI (kI S 82 30 7) 82 31 ((jA S 104).getD k 0)) 82 28 ((jA S 105).getD k 0)) 82 29 ((jA S 104).getD k 0)) u.1.1 (by rw [jI_eq]; omega) (by omega) (by unfold fuel; omega)
    refine ⟨kI (kI (kI (kI (kI S 82 30 7) 82 31 ((jA S 104).getD k 0)) 82 28 ((jA S 105).getD k 0)) 82 29 ((jA S 104).getD k 0)) 82 29 v, ie (nn u.2.1) (ie (by omega) (it ⟨by omega, by omega⟩ (it ⟨by omega, by omega⟩ (ie (by rw [hv]; exact he) (it ⟨by omega, by omega⟩ ?_))))), ?_, rfl, fun q => absurd q he, fun _ => ⟨?_, v0, v1⟩⟩
    · rw [e7_wrong0 u.2.1, Option.bind_some, show ((k : Int)).toNat = k by omega]
      exact it ⟨by omega, by show (k : Int) < ((jA S 105).length : Int); omega⟩ (it ⟨by omega, by show (k : Int) < ((jA S 104).length : Int); omega⟩ e)
    · exact lq_trans (lq_kI (by omega)) (lq_trans (lq_kI (by omega)) (lq_trans (lq_kI (by omega)) (lq_trans (lq_kI (by omega)) (lq_kI (by omega)))))
    · have a1 := u.1.2.2.1
      have a2 := u.1.2.2.2.1
      have a3 := u.2.2
      exact ⟨⟨u.1.1, u.1.2⟩, (show ¬ (7 : Int) = 0 by decide), hat.1, (show (jA S 104).getD k 0 ≤ 1000 by omega), (show (1 : Int) ≤ 7 by decide), (show (7 : Int) ≤ 7 by decide)⟩
end MRL
