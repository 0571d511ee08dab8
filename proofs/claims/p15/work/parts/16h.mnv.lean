section MNV
variable {S S' : iS} {ns : List Int}
theorem dvF_ge : ∀ (ds : List Int) (v : Int), (∀ c ∈ ds, isFig c) → 0 ≤ v → v ≤ dvF v ds := by
  intro ds
  induction ds with
  | nil => intro v _ _; exact Int.le_refl _
  | cons c ds ih =>
    intro v hf h
    have hc := hf c List.mem_cons_self
    have := ih (10 * v + (c - 48)) (fun x hx => hf x (List.mem_cons_of_mem _ hx)) (by omega)
    show v ≤ dvF (10 * v + (c - 48)) ds
    omega
/-- what enE leaves of a number -/
theorem enE_none {α : Type} : enE (none : Option (α × List Int)) = none := rfl
theorem enE_some {α : Type} {q : α × List Int} : enE (some q) = if isE q.2 then some q else none := rfl
theorem rs_en {α : Type} {q : α × List Int} {P : Unit → Prop} {Q : α × List Int → Prop} (h : rs (if isE q.2 then some () else none) S P) (k : P () → Q q) : rs (enE (some q)) S Q := by
  rw [enE_some]
  by_cases hE : isE q.2
  · rw [if_pos hE] at h ⊢; exact ⟨h.1, k h.2⟩
  · rw [if_neg hE] at h ⊢; exact h
theorem fgK_s {k : Nat} {r : List Int} (h : isFig (hd r)) : fgK (k + 1) r = (fgK k r.tail).map (fun q => (hd r :: q.1, q.2)) := by rw [fgK, if_pos h]
theorem e7_39 (u : uM S) {m : List Int} (hn : nmd S m) {l1 l2 told : Int} (hl : ¬ l1 = 0 ↔ told = 0) (hm : (l2 = 0 ∧ m = []) ∨ (¬ l2 = 0 ∧ m = [45])) : ∃ S', j_X7_readNumber_39 l1 l2 S = some S' ∧ fr FD RN S S' ∧ (∃ ms, nmd S' ms) ∧ rs (enE (numS told m (mRs S))) S' (fun q => mRs S' = q.2 ∧ jI S' 82 33 = q.1.1 ∧ jI S' 82 34 = q.1.2.1 ∧ nmd S' q.1.2.2) := by
  have a1 := u.1.2.2.1
  have a2 := u.1.2.2.2.1
  have a3 := u.2.2
  have l83 := z83 u.1.1
  have hml : m.length ≤ 1 := by rcases hm with ⟨_, h⟩ | ⟨_, h⟩ <;> rw [h] <;> decide
  have hm0 : m ≠ [] ↔ ¬ l2 = 0 := by
    rcases hm with ⟨h1, h2⟩ | ⟨h1, h2⟩
    · exact ⟨fun q => absurd h2 q, fun q => absurd h1 q⟩
    · exact ⟨fun _ => h1, fun _ => by rw [h2]; decide⟩
  have hsg : (if l2 = 0 then (1 : Int) else -1) = (if m = [] then 1 else -1) := by
    rcases hm with ⟨h1, h2⟩ | ⟨h1, h2⟩
    · rw [if_pos h1, if_pos h2]
    · rw [if_neg h1, if_neg (by rw [h2]; decide)]
  unfold j_X7_readNumber_39
  rw [show fuel = 19998 + 2 from rfl, numS]
  have wend : ∀ (T : iS), vM T → fr FN RN S T → (∃ ms, nmd T ms) → ∀ v c, 0 ≤ v → v ≤ 999999 → j_X7_readNumber_50 (19998 + 2) l1 l2 (jI S 82 27) 0 0 S = j_X7_readNumber_179 l1 l2 (jI S 82 27) v c T → ∃ S', j_X7_readNumber_50 (19998 + 2) l1 l2 (jI S 82 27) 0 0 S = some S' ∧ fr FD RN S S' ∧ (∃ ms, nmd S' ms) ∧ rs (enE (none : Option (vT × List Int))) S' (fun q => mRs S' = q.2 ∧ jI S' 82 33 = q.1.1 ∧ jI S' 82 34 = q.1.2.1 ∧ nmd S' q.1.2.2) := by
    intro T vT fT nT v c v0 v1 e
    obtain ⟨S', e', f', g', v'⟩ := v7_179 (l1 := l1) (l2 := l2) (l3 := jI S 82 27) (l5 := c) vT v0 v1
    refine ⟨S', e.trans e', fr_trans (fr_mono fT FN_FD (fun _ q => q)) f', ?_, v'⟩
    obtain ⟨ms, h⟩ := nT
    exact ⟨ms, by unfold nmd; rw [g']; exact h⟩
  by_cases h : isFig (hd (mRs S))
  · rw [if_neg (nn h)]
    have hlt := uM_lt u (by omega)
    by_cases hw : ¬ l1 = 0 ∧ ¬ l2 = 0 ∧ hd (mRs S) = 48 ∧ (0 : Int) = 0
    · rw [if_pos ⟨hw.2.2.1, hm0.mpr hw.2.1, hl.mp hw.1⟩]
      refine wend (kI (kI S 82 30 1) 82 31 (jI S 82 27)) (vM_w' u.1 (by decide) (by omega) (by omega) (by omega)) (fr_w (by omega) (by omega)) ⟨m, hn⟩ 0 0 (by decide) (by decide) ?_
      rw [j_X7_readNumber_50]
      refine ie (nn u.2.1) ?_
      rw [e7_here u.1, Option.bind_some, e7_fig, Option.bind_some]
      dsimp only
      refine ie (bi_n h) (it (by decide) ?_)
      rw [s7_83w u.1 hw]
      unfold j_X7_readNumber_105
      rw [e7_wrong0 u.2.1, Option.bind_some]
      exact q7_50 (S := kI (kI S 82 30 1) 82 31 (jI S 82 27)) (show ¬ (1 : Int) = 0 by decide)
    · rw [if_neg (fun q => hw ⟨hl.mpr q.2.2, hm0.mp q.2.1, q.1, rfl⟩)]
      obtain ⟨T, e1, f1, u1, n1, m1⟩ := s7_117 (m := 19998 + 1) (l1 := l1) (l2 := l2) (l3 := jI S 82 27) (v := 0) (c := 0) u hn (by omega) h (by decide) (by decide) (by decide) (by decide) (by decide)
      have hz : (jA T 83).getD (jI S 82 27).toNat 0 = hd (mRs S) := by
        rw [f1.2.1 83 (by decide), hd_eq, mRs_get u.1 0, if_pos (by omega)]
        dsimp only
        rw [Nat.add_zero]
        by_cases h10 : (jA S 83).getD (jI S 82 27).toNat 0 = 10
        · exfalso
          rw [hd_eq, mRs_get u.1 0, if_pos (by omega)] at h
          dsimp only at h
          rw [Nat.add_zero, if_pos h10] at h
          omega
        · rw [if_neg h10]
      have e50 : ∀ X, j_X7_readNumber_50 (19998 + 1) l1 l2 (jI S 82 27) (10 * 0 + (hd (mRs S) - 48)) (0 + 1) T = X → j_X7_readNumber_50 (19998 + 2) l1 l2 (jI S 82 27) 0 0 S = X := by
        intro X hX
        rw [j_X7_readNumber_50]
        refine ie (nn u.2.1) ?_
        rw [e7_here u.1, Option.bind_some, e7_fig, Option.bind_some]
        dsimp only
        refine ie (bi_n h) (it (by decide) ?_)
        rw [s7_83 u.1 hw, e1]
        exact hX
      obtain ⟨k, hk⟩ : ∃ k : Nat, (if hd (mRs S) = 48 then k = 0 else k = 5) := by
        by_cases q : hd (mRs S) = 48
        · exact ⟨0, by rw [if_pos q]⟩
        · exact ⟨5, by rw [if_neg q]⟩
      have hk5 : k ≤ 5 := by split at hk <;> omega
      have hfg : (if hd (mRs S) = 48 then fgK 1 (mRs S) else fgK 6 (mRs S)) = (fgK k (mRs S).tail).map (fun q => (hd (mRs S) :: q.1, q.2)) := by
        by_cases q : hd (mRs S) = 48
        · rw [if_pos q] at hk ⊢; subst hk; exact fgK_s h
        · rw [if_neg q] at hk ⊢; subst hk; exact fgK_s h
      have hb : (10 * 0 + (hd (mRs S) - 48) + 1) * 10 ^ k ≤ 1000000 := by
        split at hk
        · subst hk; rw [Int.pow_zero]; omega
        · subst hk; rw [show (10 : Int) ^ 5 = 100000 from rfl]; omega
      obtain ⟨S1, v', c', e2, f2, n2, v4, v5, r2⟩ := l7_fig (l1 := l1) (l2 := l2) (l3 := jI S 82 27) (z := hd (mRs S)) (by omega) (by omega) k (19998 + 1) T (m ++ [hd (mRs S)]) (10 * 0 + (hd (mRs S) - 48)) (0 + 1) u1 n1 (by rw [List.length_append, List.length_singleton]; omega) (by omega) hz (by decide) (by
        split at hk
        · next q => exact .inl ⟨q, hk, by decide⟩
        · next q => exact .inr ⟨q, by omega⟩) (by omega) hb
      rw [m1] at r2
      rw [hfg]
      cases hfk : fgK k (mRs S).tail with
      | none =>
        rw [hfk] at r2
        exact wend S1 r2 (fr_trans f1 f2) n2 v' c' v4 v5 (e50 _ e2)
      | some q =>
        rw [hfk] at r2
        obtain ⟨u2, nq, mq, hv, hc⟩ := r2
        obtain ⟨ql, qf, qn⟩ := fgK_len hfk
        rw [Option.map_some, Option.bind_some]
        dsimp only
        have hds : ∀ c ∈ hd (mRs S) :: q.1, isFig c := fun c hc => by
          rcases List.mem_cons.mp hc with e | e
          · rw [e]; exact h
          · exact qf c e
        have hdv : dv (hd (mRs S) :: q.1) = v' := by rw [hv]; rfl
        have hlen : ((hd (mRs S) :: q.1).length : Int) = c' := by rw [hc, List.length_cons]; omega
        have nd : nmd S1 (m ++ (hd (mRs S) :: q.1)) := by rw [List.append_assoc] at nq; exact nq
        have hv0 : v' = 0 ↔ hd (mRs S) = 48 := by
          constructor
          · intro e
            have := dvF_ge q.1 (10 * 0 + (hd (mRs S) - 48)) qf (by omega)
            omega
          · intro e
            rw [if_pos e] at hk
            subst hk
            have : q.1 = [] := List.eq_nil_of_length_eq_zero (by omega)
            rw [hv, this, e]
            rfl
        obtain ⟨u3, m3⟩ := uM_D u2 (f := 33) (v := 1) (.inl rfl)
        obtain ⟨u4, m4⟩ := uM_D u3 (f := 34) (v := 1000 * v') (.inr rfl)
        have m5 := m4.trans (m3.trans mq)
        have fF : fr FD RN S (kI (kI S1 82 33 1) 82 34 (1000 * v')) := fr_trans (fr_mono (fr_trans f1 f2) FN_FD (fun _ q => q)) (fr_trans (fr_kI (by omega)) (fr_kI (by omega)))
        have w259 : ∀ X, ¬ (hd q.2 = 46 ∧ told ≠ 0) → j_X7_readNumber_259 l1 l2 (jI S 82 27) v' c' (kI (kI S1 82 33 1) 82 34 (1000 * v')) = X → j_X7_readNumber_50 (19998 + 2) l1 l2 (jI S 82 27) 0 0 S = X := by
          intro X hno hX
          refine e50 _ (e2.trans ?_)
          unfold j_X7_readNumber_179 j_X7_readNumber_200
          refine ie (nn u2.2.1) (it (by omega) (ie (nn u2.2.1) ?_))
          by_cases hl1 : l1 = 0
          · refine ie (nn hl1) (it ⟨by omega, by omega⟩ ?_)
            rw [e7_here u4.1, Option.bind_some, m5]
            exact it (fun q46 => hno ⟨q46, fun t0 => hl.mpr t0 hl1⟩) hX
          · exact it hl1 (it ⟨by omega, by omega⟩ hX)
        by_cases hp : hd q.2 = 46 ∧ told ≠ 0
        · rw [if_pos hp]
          have hl1 : l1 = 0 := by
            by_cases q0 : l1 = 0
            · exact q0
            · exact absurd (hl.mp q0) hp.2
          have w200 : ∀ X, (if c' ≤ (3 : Int) then ((j_X7_readDecimals (kI (kI S1 82 33 1) 82 34 (1000 * v'))).bind fun qx2 => (j_X7_readNumber_281 l1 l2 (jI S 82 27) v' c' qx2)) else (if rg ((jI S 82 27) + (3 : Int)) then ((j_X7_wrong (2 : Int) ((jI S 82 27) + (3 : Int)) (kI (kI S1 82 33 1) 82 34 (1000 * v'))).bind fun qx3 => (j_X7_readNumber_281 l1 l2 (jI S 82 27) v' c' qx3)) else none)) = X → j_X7_readNumber_50 (19998 + 2) l1 l2 (jI S 82 27) 0 0 S = X := by
            intro X hX
            refine e50 _ (e2.trans ?_)
            unfold j_X7_readNumber_179 j_X7_readNumber_200
            refine ie (nn u2.2.1) (it (by omega) (ie (nn u2.2.1) (ie (nn hl1) (it ⟨by omega, by omega⟩ ?_))))
            rw [e7_here u4.1, Option.bind_some, m5]
            exact ie (nn hp.1) hX
          rw [frS]
          by_cases h3 : 3 < (hd (mRs S) :: q.1).length
          · rw [if_pos h3]
            have v1 : vM (kI (kI (kI (kI S1 82 33 1) 82 34 (1000 * v')) 82 30 2) 82 31 (jI S 82 27 + 3)) := vM_w' u4.1 (by decide) (by omega) (by omega) (by have := u4.2.2; have := u4.1.2.2.1; omega)
            obtain ⟨S', e3, f3, g3, h4, _⟩ := e7_298 (.inr v1) (l1 := l1) (l2 := l2) (l3 := jI S 82 27) (l4 := v') (l5 := c') (show rg (-(1000 * v')) from ⟨by omega, by omega⟩)
            refine ⟨S', w200 _ (ie (by omega) (it ⟨by omega, by omega⟩ ?_)), fr_trans fF (fr_trans (fr_w (by omega) (by omega)) f3), ⟨_, by unfold nmd; rw [g3]; exact nd⟩, h4 v1⟩
            rw [e7_wrong0 u4.2.1, Option.bind_some]
            exact e3
          · rw [if_neg h3]
            obtain ⟨S2, e3, f3, n3, g3, r3⟩ := e7_decs u4 (ns := m ++ (hd (mRs S) :: q.1)) nd (by rw [List.length_append]; omega) (by rw [m5]; exact hp.1) (show 0 ≤ 1000 * v' by omega) (show 1000 * v' ≤ 999999000 by omega)
            rw [m5] at r3
            by_cases hf : isFig (hd q.2.tail)
            · rw [if_pos hf] at r3 ⊢
              cases hfr : fgK 3 q.2.tail with
              | none =>
                rw [hfr] at r3
                obtain ⟨S', e4, f4, g4, h4, _⟩ := e7_298 (.inr r3) (l1 := l1) (l2 := l2) (l3 := jI S 82 27) (l4 := v') (l5 := c') g3
                refine ⟨S', w200 _ (it (by omega) ?_), fr_trans fF (fr_trans f3 f4), ?_, h4 r3⟩
                · rw [e3, Option.bind_some]; exact e4
                · obtain ⟨ms, h⟩ := n3
                  exact ⟨ms, by unfold nmd; rw [g4]; exact h⟩
              | some p =>
                rw [hfr] at r3
                obtain ⟨u5, np, mp, tp, sp⟩ := r3
                obtain ⟨S', e4, f4, g4, _, h4⟩ := e7_298 (.inl u5) (l1 := l1) (l2 := l2) (l3 := jI S 82 27) (l4 := v') (l5 := c') g3
                refine ⟨S', w200 _ (it (by omega) ?_), fr_trans fF (fr_trans f3 f4), ⟨_, by unfold nmd; rw [g4]; exact np⟩, ?_⟩
                · rw [e3, Option.bind_some]; exact e4
                · have h5 := h4 u5
                  rw [mp] at h5
                  refine rs_en h5 fun hq => ?_
                  obtain ⟨q1, q2, q3⟩ := hq
                  refine ⟨q1, by rw [q2, sp], ?_, ?_⟩
                  · rw [q3, tp, hsg, hdv, cbD_3 (fgK_len hfr).1]; rfl
                  · unfold nmd; rw [g4]; dsimp only; exact np
            · rw [if_neg hf] at r3 ⊢
              obtain ⟨S', e4, f4, g4, h4, _⟩ := e7_298 (.inr r3) (l1 := l1) (l2 := l2) (l3 := jI S 82 27) (l4 := v') (l5 := c') g3
              refine ⟨S', w200 _ (it (by omega) ?_), fr_trans fF (fr_trans f3 f4), ?_, h4 r3⟩
              · rw [e3, Option.bind_some]; exact e4
              · obtain ⟨ms, h⟩ := n3
                exact ⟨ms, by unfold nmd; rw [g4]; exact h⟩
        · rw [if_neg hp]
          by_cases hz0 : hd (mRs S) = 48 ∧ m ≠ []
          · rw [if_pos hz0]
            have v1 : vM (kI (kI (kI (kI S1 82 33 1) 82 34 (1000 * v')) 82 30 1) 82 31 (jI S 82 27)) := vM_w' u4.1 (by decide) (by omega) (by omega) (by have := u4.2.2; have := u4.1.2.2.1; omega)
            obtain ⟨S', e3, f3, g3, h4, _⟩ := e7_298 (.inr v1) (l1 := l1) (l2 := l2) (l3 := jI S 82 27) (l4 := v') (l5 := c') (show rg (-(1000 * v')) from ⟨by omega, by omega⟩)
            refine ⟨S', w259 _ hp ?_, fr_trans fF (fr_trans (fr_w (by omega) (by omega)) f3), ⟨_, by unfold nmd; rw [g3]; exact nd⟩, h4 v1⟩
            unfold j_X7_readNumber_259
            refine ie (nn u4.2.1) (ie (hm0.mp hz0.2) (ie (nn (hv0.mpr hz0.1)) ?_))
            rw [e7_wrong0 u4.2.1, Option.bind_some]
            exact e3
          · rw [if_neg hz0]
            obtain ⟨S', e4, f4, g4, _, h4⟩ := e7_298 (.inl u4) (l1 := l1) (l2 := l2) (l3 := jI S 82 27) (l4 := v') (l5 := c') (show rg (-(1000 * v')) from ⟨by omega, by omega⟩)
            refine ⟨S', w259 _ hp ?_, fr_trans fF f4, ⟨_, by unfold nmd; rw [g4]; exact nd⟩, ?_⟩
            · unfold j_X7_readNumber_259
              refine ie (nn u4.2.1) ?_
              by_cases hl2 : l2 = 0
              · exact it hl2 e4
              · exact ie hl2 (it (fun e => hz0 ⟨hv0.mp e, hm0.mpr hl2⟩) e4)
            · have h5 := h4 u4
              rw [m5] at h5
              refine rs_en h5 fun hq => ?_
              obtain ⟨q1, q2, q3⟩ := hq
              refine ⟨q1, by rw [q2]; rfl, ?_, ?_⟩
              · rw [q3, hsg, hdv]; rfl
              · unfold nmd; rw [g4]; exact nd
  · rw [if_pos h]
    have v1 : vM (kI (kI S 82 30 1) 82 31 (jI S 82 27)) := vM_w' u.1 (by decide) (by omega) (by omega) (by omega)
    have v2 := vM_D (vM_D v1 (f := 33) (x := 1) (.inl rfl)) (f := 34) (x := 1000 * 0) (.inr rfl)
    obtain ⟨S', e, f, g, hv, _⟩ := e7_298 (.inr v2) (l1 := l1) (l2 := l2) (l3 := jI S 82 27) (l4 := 0) (l5 := 0) (show rg (-(1000 * 0)) by decide)
    refine ⟨S', ?_, fr_trans (fr_w (by omega) (by omega)) (fr_trans (fr_trans (fr_kI (by omega)) (fr_kI (by omega))) f), ⟨m, by unfold nmd; rw [g]; exact hn⟩, hv v2⟩
    rw [j_X7_readNumber_50]
    refine ie (nn u.2.1) ?_
    rw [e7_here u.1, Option.bind_some, e7_fig, Option.bind_some]
    dsimp only
    refine it (bi_0.mpr h) ?_
    unfold j_X7_readNumber_179 j_X7_readNumber_200 j_X7_readNumber_259
    refine ie (nn u.2.1) (ie (nn rfl) ?_)
    rw [e7_wrong0 u.2.1, Option.bind_some]
    exact it v1.2.1 (it (by decide) (it v2.2.1 e))
/-- the model's numbers -/
theorem e7_num (u : uM S) (hn : nmd S []) {l1 told : Int} (hl : ¬ l1 = 0 ↔ told = 0) : ∃ S', j_X7_readNumber l1 S = some S' ∧ fr FD RN S S' ∧ (∃ ms, nmd S' ms) ∧ rs (enE (if hd (mRs S) = 45 then numS told [45] (mRs S).tail else numS told [] (mRs S))) S' (fun q => mRs S' = q.2 ∧ jI S' 82 33 = q.1.1 ∧ jI S' 82 34 = q.1.2.1 ∧ nmd S' q.1.2.2) := by
  have a1 := u.1.2.2.1
  have a2 := u.1.2.2.2.1
  have a3 := u.2.2
  unfold j_X7_readNumber j_X7_readNumber_0
  rw [e7_here u.1, Option.bind_some]
  dsimp only
  by_cases h : hd (mRs S) = 45
  · rw [if_pos h]
    obtain ⟨T, e1, ⟨l, hT⟩, u2, m2, n2, i2, u3, m3⟩ := u7_sign (c := 45) (p := jI S 82 27) u hn (by decide) (by omega)
    obtain ⟨S', e, f, n, r⟩ := e7_39 u3 (m := [45]) n2 (l1 := l1) (l2 := 1) hl (.inr ⟨by decide, rfl⟩)
    rw [m3] at r
    refine ⟨S', ie (nn h) ?_, fr_trans ?_ f, n, r⟩
    · unfold j_X7_readNumber_14
      refine ie (by decide) ?_
      rw [e1, Option.bind_some, i2]
      exact it ⟨by omega, by omega⟩ e
    · subst hT
      exact fr_trans (fr_kA rfl) (fr_kI (by omega))
  · rw [if_neg h]
    obtain ⟨S', e, f, n, r⟩ := e7_39 u (m := []) hn (l1 := l1) (l2 := 0) hl (.inl ⟨rfl, rfl⟩)
    refine ⟨S', it h ?_, f, n, r⟩
    unfold j_X7_readNumber_14
    exact it rfl e
end MNV
