section CNU
variable {S S' S'' : iS} {b : Bool}
abbrev FU (a f : Nat) : Prop := (a = 80 ∧ f = 7) ∨ FC a f
theorem frC_U (h : frC FC R0 S S') : frC FU R0 S S' := frC_mono h (fun _ _ q => .inr q) (fun _ q => q)
theorem wC_U (w : wC b S) {v : Int} : wC b (kI S 80 7 v) ∧ cR (kI S 80 7 v) = cR S := wC_fr w (F := fun a f => a = 80 ∧ f = 7) (R := R0) (frC_kI (by omega)) w.1 (by omega) (by omega) (by omega) (by omega) (by have := g_or b; omega) (fun q => q)
theorem l6_nu : ∀ (k n : Nat) (S : iS) (c : Int), wC b S → c + k = 2 → (c = 0 ∧ jI S 80 7 = 0) ∨ (c = 1 ∧ 0 ≤ jI S 80 7 ∧ jI S 80 7 ≤ 9) ∨ (c = 2 ∧ 0 ≤ jI S 80 7 ∧ jI S 80 7 ≤ 99) → k + 1 < n → ∃ x S', j_X2_readNumber_36 n c S = some (x, S') ∧ frC FU R0 S S' ∧ rc b (fgK k (cR S)) x S' (fun q => jI S' 80 7 = dvF (jI S 80 7) q.1 ∧ cR S' = q.2) := by
  intro k
  induction k with
  | zero =>
    intro n S c w hc hv hn
    obtain ⟨m, rfl⟩ : ∃ m, n = m + 2 := ⟨n - 2, by omega⟩
    rw [j_X2_readNumber_36, w.2.2.2.2.1]
    unfold j_X2_readNumber_110
    by_cases h : isFig (hd (cR S))
    · obtain ⟨S', e, z', f'⟩ := c_fail w (k := 2) (c_at w)
      refine ⟨0, S', ie (by omega) ?_, frC_U f', ?_⟩
      · rw [e6_fig, Option.bind_some]
        refine ie (bi_n h) (ie (nn (by omega)) ?_)
        dsimp only
        rw [e]
        rfl
      · rw [fgK, if_pos h]
        exact ⟨rfl, z'⟩
    · refine ⟨1, S, ie (by omega) ?_, frC_refl, ?_⟩
      · rw [e6_fig, Option.bind_some]
        exact it (bi_0.mpr h) rfl
      · rw [fgK, if_neg h]
        exact ⟨rfl, w, rfl, rfl⟩
  | succ k ih =>
    intro n S c w hc hv hn
    obtain ⟨m, rfl⟩ : ∃ m, n = m + 2 := ⟨n - 2, by omega⟩
    rw [j_X2_readNumber_36, w.2.2.2.2.1]
    unfold j_X2_readNumber_110
    by_cases h : isFig (hd (cR S))
    · have h' := h
      unfold isFig at h'
      obtain ⟨w0, c0⟩ := wC_U w (v := jI S 80 7 * 10 + (hd (cR S) - 48))
      have hlt := cR_lt w (by omega)
      have ht := w.2.2.1.2
      obtain ⟨S1, e1, w1, c1, f1⟩ := c_stepC w0 (by rw [jI_ne (.inl (by decide))]; omega)
      have hv1 : jI S1 80 7 = jI S 80 7 * 10 + (hd (cR S) - 48) := by rw [f1.1 80 7 (by omega), jI_eq]
      obtain ⟨x, S', e3, f3, r3⟩ := ih (m + 1) S1 (c + 1) w1 (by omega) (by rw [hv1]; omega) (by omega)
      refine ⟨x, S', ie (by omega) ?_, frC_trans (frC_kI (.inl ⟨rfl, rfl⟩)) (frC_trans (frC_U f1) f3), ?_⟩
      · rw [e6_fig, Option.bind_some]
        refine ie (bi_n h) (it (by omega) ?_)
        dsimp only
        rw [w.2.2.2.2.1]
        refine it ⟨by omega, by omega⟩ (it ⟨by omega, by omega⟩ (it ⟨by omega, by omega⟩ ?_))
        rw [e1, Option.bind_some]
        exact it ⟨by omega, by omega⟩ e3
      · rw [c1, c0] at r3
        rw [fgK, if_pos h]
        refine rc_map (rc_mono r3 fun v _ hv => ?_)
        refine ⟨?_, hv.2⟩
        rw [hv.1, hv1]
        show dvF _ v.1 = dvF (10 * jI S 80 7 + (hd (cR S) - 48)) v.1
        rw [Int.mul_comm]
    · refine ⟨1, S, ie (by omega) ?_, frC_refl, ?_⟩
      · rw [e6_fig, Option.bind_some]
        exact it (bi_0.mpr h) rfl
      · rw [fgK, if_neg h]
        exact ⟨rfl, w, rfl, rfl⟩
/-- readNumber -/
theorem c_nu (w : wC b S) : ∃ x S', j_X2_readNumber S = some (x, S') ∧ frC FU R0 S S' ∧ rc b (nuS (cR S)) x S' (fun q => jI S' 80 7 = q.1 ∧ cR S' = q.2) := by
  unfold j_X2_readNumber j_X2_readNumber_0 nuS
  rw [w.2.2.2.2.1, e6_fig, Option.bind_some]
  dsimp only
  by_cases h : isFig (hd (cR S))
  · obtain ⟨w0, c0⟩ := wC_U w (v := 0)
    obtain ⟨x, S', e, f, r⟩ := l6_nu 2 fuel _ 0 w0 (by decide) (.inl ⟨rfl, jI_eq⟩) (by unfold fuel; decide)
    refine ⟨x, S', it (bi_n h) e, frC_trans (frC_kI (.inl ⟨rfl, rfl⟩)) f, ?_⟩
    rw [if_pos h]
    rw [c0, jI_eq] at r
    exact rc_map r
  · obtain ⟨S', e, z', f'⟩ := c_fail w (k := 1) (c_at w)
    refine ⟨0, S', ie (nn (bi_0.mpr h)) (by rw [e]; rfl), frC_U f', ?_⟩
    rw [if_neg h]
    exact ⟨rfl, z'⟩
end CNU
