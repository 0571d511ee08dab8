section CFI
variable {S S' S'' : iS} {b : Bool}
abbrev FV (b : Bool) (a f : Nat) : Prop := (a = 80 ∧ (f = 8 ∨ f = 9 ∨ f = 10 ∨ f = 11)) ∨ FS b a f
theorem frC_V (h : frC (FS b) (RS b) S S') : frC (FV b) (RS b) S S' := frC_mono h (fun _ _ q => .inr q) (fun _ q => q)
theorem fgK_app : ∀ {k : Nat} {r : List Int} {q : List Int × List Int}, fgK k r = some q → r = q.1 ++ q.2 := by
  intro k
  induction k with
  | zero =>
    intro r q h
    rw [fgK] at h
    split at h
    · cases h
    · cases h; rfl
  | succ k ih =>
    intro r q h
    rw [fgK] at h
    split at h
    · next hf =>
      cases ho : fgK k r.tail with
      | none => rw [ho] at h; cases h
      | some p =>
        rw [ho] at h
        have i := ih ho
        cases h
        obtain ⟨c, s, e, ec⟩ := hd_cons (r := r) (by omega)
        show r = hd r :: (p.1 ++ p.2)
        rw [← i, ec, e]
        rfl
    · cases h; rfl
theorem plK_app : ∀ {k : Nat} {r : List Int} {q : List Int × List Int}, plK k r = some q → r = q.1 ++ q.2 := by
  intro k r q h
  rw [plK_plP] at h
  split at h
  · cases h
    have : ∀ r : List Int, r = plP r ++ r.drop (plP r).length := by
      intro r
      induction r with
      | nil => rfl
      | cons c r ih =>
        rw [plP]
        by_cases h : isPln c
        · rw [if_pos h, List.length_cons, List.drop_succ_cons, List.cons_append, ← ih]
        · rw [if_neg h]; rfl
    exact this r
  · cases h
/-- where the cursor is, by what is left -/
theorem c_pos (w : wC b S) (h : cR S ≠ []) : jI S 81 1 = jI S 1 1 - (cR S).length := by
  have hl : (cR S).length = (gv S 1 1 2).length - (jI S 81 1).toNat := by unfold cR; rw [List.length_drop]
  have hg := gv_len (S := S) (l := 1) (f := 1) (a := 2) w.2.2.1.1 (by rw [z2 w.1]; exact w.2.2.1.2)
  have h0 := w.2.2.2.1.1
  have : 0 < (cR S).length := List.length_pos_iff.mpr h
  omega
theorem ne_nil_hd {r : List Int} (h : hd r ≠ -1) : r ≠ [] := by
  intro e; rw [e] at h; exact h rfl
theorem l6_fra {l1 : Int} : ∀ (k n : Nat) (S : iS) (c : Int), wC b S → c + k = 3 → 0 ≤ c → k + 1 < n → ∃ x S', j_X2_readFraction_85 n l1 c S = some (x, S') ∧ frC (FS b) (RS b) S S' ∧ rc b (fgK k (cR S)) x S' (fun q => sg b S' = sg b S ++ q.1 ∧ cR S' = q.2) := by
  intro k
  induction k with
  | zero =>
    intro n S c w hc h0 hn
    obtain ⟨m, rfl⟩ : ∃ m, n = m + 2 := ⟨n - 2, by omega⟩
    rw [j_X2_readFraction_85, w.2.2.2.2.1]
    unfold j_X2_readFraction_154
    by_cases h : isFig (hd (cR S))
    · obtain ⟨S', e, z', f'⟩ := c_fail w (k := 2) (c_at w)
      refine ⟨0, S', ie (by omega) ?_, frC_C f', ?_⟩
      · rw [e6_fig, Option.bind_some]
        refine ie (bi_n h) (ie (nn (by omega)) ?_)
        dsimp only
        rw [e]
        rfl
      · rw [fgK, if_pos h]
        exact ⟨rfl, z'⟩
    · refine ⟨1, S, ie (by omega) ?_, frC_refl, ?_⟩
      · rw [e6_fig, Option.bind_some]
        exact it (bi_0.mpr h) rfl
      · rw [fgK_n h]
        exact ⟨rfl, w, by rw [List.append_nil], rfl⟩
  | succ k ih =>
    intro n S c w hc h0 hn
    obtain ⟨m, rfl⟩ : ∃ m, n = m + 2 := ⟨n - 2, by omega⟩
    rw [j_X2_readFraction_85, w.2.2.2.2.1]
    unfold j_X2_readFraction_154
    by_cases h : isFig (hd (cR S))
    · obtain ⟨T, S1, e1, e2, pT, w1, f1, s1, c1, _⟩ := c_addstep w (by omega) (x := hd (cR S))
      obtain ⟨x, S', e3, f3, r3⟩ := ih (m + 1) S1 (c + 1) w1 (by omega) (by omega) (by omega)
      refine ⟨x, S', ie (by omega) ?_, frC_trans f1 f3, ?_⟩
      · rw [e6_fig, Option.bind_some]
        refine ie (bi_n h) (it (by omega) ?_)
        dsimp only
        rw [w.2.1, w.2.2.2.2.1, e1, Option.bind_some, e2, Option.bind_some]
        exact it ⟨by omega, by omega⟩ e3
      · rw [c1] at r3
        rw [fgK, if_pos h]
        refine rc_map (rc_mono r3 fun v _ hv => ?_)
        rw [s1, List.append_assoc] at hv
        exact hv
    · refine ⟨1, S, ie (by omega) ?_, frC_refl, ?_⟩
      · rw [e6_fig, Option.bind_some]
        exact it (bi_0.mpr h) rfl
      · rw [fgK_n h]
        exact ⟨rfl, w, by rw [List.append_nil], rfl⟩
/-- a point, and what is behind it -/
theorem c_fra (w : wC b S) {l1 : Int} {nd : Nat} (hp : hd (cR S) = 46) (hat : jI S 81 1 - l1 = nd) (hl0 : 0 ≤ l1) : ∃ x S', j_X2_readFraction l1 S = some (x, S') ∧ frC (FV b) (RS b) S S' ∧ rc b (if 3 < nd then none else if isFig (hd (cR S).tail) then fgK 3 (cR S).tail else none) x S' (fun q => sg b S' = sg b S ++ 46 :: q.1 ∧ cR S' = q.2 ∧ jI S' 80 10 = 2 ∧ jI S' 80 11 = jI S 80 11) := by
  have hg := g_or b
  have h7 := w.2.2.2.1.2
  unfold j_X2_readFraction j_X2_readFraction_0
  rw [hat, w.2.1, w.2.2.2.2.1, hp]
  by_cases h3 : 3 < nd
  · obtain ⟨S', e, z', f'⟩ := c_fail w (k := 2) (p := l1 + 3) ⟨by omega, by omega⟩
    refine ⟨0, S', it ⟨by omega, by omega⟩ (ie (by omega) (it ⟨by omega, by omega⟩ (by rw [e]; rfl))), frC_V (frC_C f'), ?_⟩
    rw [if_pos h3]
    exact ⟨rfl, z'⟩
  · rw [if_neg h3]
    obtain ⟨w1, c1⟩ := wC_fr w (F := fun a f => a = 80 ∧ f = 10) (R := R0) (S' := kI S 80 10 2) (frC_kI (by omega)) w.1 (by omega) (by omega) (by omega) (by omega) (by omega) (fun q => q)
    have f0 : frC (FV b) (RS b) S (kI S 80 10 2) := frC_kI (by omega)
    have s0 : sg b (kI S 80 10 2) = sg b S := by
      unfold sg gv
      rw [jI_ne (.inl (by omega)), jA_kI]
    obtain ⟨T, S1, e1, e2, pT, w2, f1, s1, c2, _⟩ := c_addstep w1 (by rw [c1, hp]; decide) (x := 46)
    rw [c1] at c2
    rw [s0] at s1
    have i10 : jI (kI S 80 10 2) 80 10 = 2 := jI_eq
    have i11 : jI (kI S 80 10 2) 80 11 = jI S 80 11 := jI_ne (.inr (by decide))
    by_cases hf : isFig (hd (cR S).tail)
    · obtain ⟨x, S', e3, f3, r3⟩ := l6_fra (l1 := l1) 3 fuel S1 0 w2 (by decide) (by decide) (by unfold fuel; decide)
      refine ⟨x, S', it ⟨by omega, by omega⟩ (it (by omega) ?_), frC_trans f0 (frC_V (frC_trans f1 f3)), ?_⟩
      · rw [e1, Option.bind_some, e2, Option.bind_some, w2.2.2.2.2.1, c2, e6_fig, Option.bind_some]
        exact it (bi_n hf) e3
      · rw [if_pos hf]
        rw [c2] at r3
        refine rc_mono r3 fun v _ hv => ?_
        rw [s1, List.append_assoc] at hv
        exact ⟨hv.1, hv.2, by rw [f3.1 80 10 (by omega), f1.1 80 10 (by omega), i10], by rw [f3.1 80 11 (by omega), f1.1 80 11 (by omega), i11]⟩
    · obtain ⟨S', e, z', f'⟩ := c_fail w2 (k := 1) (c_at w2)
      refine ⟨0, S', it ⟨by omega, by omega⟩ (it (by omega) ?_), frC_trans f0 (frC_V (frC_trans f1 (frC_C f'))), ?_⟩
      · rw [e1, Option.bind_some, e2, Option.bind_some, w2.2.2.2.2.1, c2, e6_fig, Option.bind_some]
        refine ie (nn (bi_0.mpr hf)) ?_
        dsimp only
        rw [e]
        rfl
      · rw [if_neg hf]
        exact ⟨rfl, z'⟩
theorem l6_fig {l1 l2 l3 l4 : Int} : ∀ (k n : Nat) (S : iS) (c : Int), wC b S → 1 ≤ c → (¬ l4 = 0 ∧ k = 0 ∧ c ≤ 6) ∨ (l4 = 0 ∧ c + k = 6) → k + 1 < n → (∃ q c' S1, fgK k (cR S) = some q ∧ j_X2_readFigures_59 n l1 l2 l3 l4 c S = j_X2_readFigures_158 l1 l2 l3 l4 c' S1 ∧ frC (FS b) (RS b) S S1 ∧ wC b S1 ∧ sg b S1 = sg b S ++ q.1 ∧ cR S1 = q.2) ∨ (fgK k (cR S) = none ∧ ∃ S', j_X2_readFigures_59 n l1 l2 l3 l4 c S = some (0, S') ∧ frC (FS b) (RS b) S S' ∧ zF S') := by
  intro k
  induction k with
  | zero =>
    intro n S c w hc hz hn
    obtain ⟨m, rfl⟩ : ∃ m, n = m + 2 := ⟨n - 2, by omega⟩
    rw [j_X2_readFigures_59, w.2.2.2.2.1]
    by_cases h : isFig (hd (cR S))
    · right
      refine ⟨by rw [fgK, if_pos h], ?_⟩
      by_cases h4 : l4 = 0
      · obtain ⟨S', e, z', f'⟩ := c_fail w (k := 2) (c_at w)
        refine ⟨S', ie (by omega) ?_, frC_C f', z'⟩
        rw [e6_fig, Option.bind_some]
        refine ie (bi_n h) (it h4 ?_)
        unfold j_X2_readFigures_105
        refine ie (nn (by omega)) ?_
        dsimp only
        rw [e]
        rfl
      · obtain ⟨S', e, z', f'⟩ := c_fail w (k := 1) (c_at w)
        refine ⟨S', ie (by omega) ?_, frC_C f', z'⟩
        rw [e6_fig, Option.bind_some]
        refine ie (bi_n h) (ie h4 (ie (by omega) ?_))
        dsimp only
        rw [e]
        rfl
    · left
      refine ⟨([], cR S), c, S, fgK_n h, ie (by omega) ?_, frC_refl, w, by rw [List.append_nil], rfl⟩
      rw [e6_fig, Option.bind_some]
      exact it (bi_0.mpr h) rfl
  | succ k ih =>
    intro n S c w hc hz hn
    obtain ⟨m, rfl⟩ : ∃ m, n = m + 2 := ⟨n - 2, by omega⟩
    rw [j_X2_readFigures_59, w.2.2.2.2.1]
    have h4 : l4 = 0 := by omega
    by_cases h : isFig (hd (cR S))
    · obtain ⟨T, S1, e1, e2, pT, w1, f1, s1, c1, _⟩ := c_addstep w (by omega) (x := hd (cR S))
      have est : ∀ X, j_X2_readFigures_59 (m + 1) l1 l2 l3 l4 (c + 1) S1 = X → (if (6 : Int) < c then (j_X2_readFigures_158 l1 l2 l3 l4 c S) else ((j_X6_isFigure (hd (cR S)) S).bind fun qx1 => (if qx1.1 = (0 : Int) then (j_X2_readFigures_158 l1 l2 l3 l4 c qx1.2) else (if l4 = (0 : Int) then (j_X2_readFigures_105 (fun l1' l2' l3' l4' l5' S' => j_X2_readFigures_59 (m + 1) l1' l2' l3' l4' l5' S') l1 l2 l3 l4 c qx1.2) else (if c ≤ (0 : Int) then (j_X2_readFigures_105 (fun l1' l2' l3' l4' l5' S' => j_X2_readFigures_59 (m + 1) l1' l2' l3' l4' l5' S') l1 l2 l3 l4 c qx1.2) else ((j_X0_wrong (1 : Int) (jI qx1.2 81 1) qx1.2).bind fun qx2 => (if (qx2.1 = 0 ∨ qx2.1 = 1) then (some (qx2.1, qx2.2)) else none))))))) = X := by
        intro X hX
        refine ie (by omega) ?_
        rw [e6_fig, Option.bind_some]
        refine ie (bi_n h) (it h4 ?_)
        unfold j_X2_readFigures_105
        refine it (by omega) ?_
        dsimp only
        rw [w.2.1, w.2.2.2.2.1, e1, Option.bind_some, e2, Option.bind_some]
        exact it ⟨by omega, by omega⟩ hX
      rcases ih (m + 1) S1 (c + 1) w1 (by omega) (.inr ⟨h4, by omega⟩) (by omega) with ⟨q, c', S2, e3, e4, f4, w4, s4, c4⟩ | ⟨e3, S2, e4, f4, z4⟩
      · left
        rw [c1] at e3
        refine ⟨(hd (cR S) :: q.1, q.2), c', S2, by rw [fgK, if_pos h, e3]; rfl, est _ e4, frC_trans f1 f4, w4, by rw [s4, s1, List.append_assoc]; rfl, c4⟩
      · right
        rw [c1] at e3
        exact ⟨by rw [fgK, if_pos h, e3]; rfl, S2, est _ e4, frC_trans f1 f4, z4⟩
    · left
      refine ⟨([], cR S), c, S, fgK_n h, ie (by omega) ?_, frC_refl, w, by rw [List.append_nil], rfl⟩
      rw [e6_fig, Option.bind_some]
      exact it (bi_0.mpr h) rfl
/-- a number: without its - -/
theorem c_figs (w : wC b S) {told minus : Int} {m : List Int} (hm : (minus = 0 ∧ m = []) ∨ (¬ minus = 0 ∧ m = [45])) (hf : isFig (hd (cR S))) : ∃ x S', j_X2_readFigures told minus S = some (x, S') ∧ frC (FV b) (RS b) S S' ∧ rc b (numS told m (cR S)) x S' (fun q => cR S' = q.2 ∧ jI S' 80 10 = q.1.1 ∧ jI S' 80 11 = jI S 80 11 ∧ ∃ ds, q.1.2.2 = m ++ ds ∧ sg b S' = sg b S ++ ds) := by
  have hg := g_or b
  have h7 := w.2.2.2.1
  have hm0 : m ≠ [] ↔ ¬ minus = 0 := by
    rcases hm with ⟨h1, h2⟩ | ⟨h1, h2⟩
    · exact ⟨fun q => absurd h2 q, fun q => absurd h1 q⟩
    · exact ⟨fun _ => h1, fun _ => by rw [h2]; decide⟩
  obtain ⟨zf, hzf⟩ : ∃ zf : Int, (hd (cR S) = 48 ∧ zf = 1) ∨ (hd (cR S) ≠ 48 ∧ zf = 0) := by
    by_cases h : hd (cR S) = 48
    · exact ⟨1, .inl ⟨h, rfl⟩⟩
    · exact ⟨0, .inr ⟨h, rfl⟩⟩
  have h25 : ∀ X, j_X2_readFigures_25 told minus (jI S 81 1) zf S = X → j_X2_readFigures told minus S = X := by
    intro X hX
    unfold j_X2_readFigures j_X2_readFigures_0
    rw [w.2.2.2.2.1]
    rcases hzf with ⟨h, e⟩ | ⟨h, e⟩
    · rw [e] at hX; exact ie (nn h) hX
    · rw [e] at hX; exact it h hX
  rw [numS, if_neg (nn hf)]
  by_cases hw : hd (cR S) = 48 ∧ m ≠ [] ∧ told = 0
  · rw [if_pos hw]
    obtain ⟨S', e, z', f'⟩ := c_fail w (k := 1) (c_at w)
    refine ⟨0, S', h25 _ ?_, frC_V (frC_C f'), rfl, z'⟩
    unfold j_X2_readFigures_25
    refine ie (by omega) (ie (hm0.mp hw.2.1) (ie (nn hw.2.2) ?_))
    rw [e]
    rfl
  · rw [if_neg hw]
    obtain ⟨T, S1, e1, e2, pT, w1, f1, s1, c1, _⟩ := c_addstep w (by omega) (x := hd (cR S))
    have h56 : ∀ X, j_X2_readFigures_59 19999 told minus (jI S 81 1) zf 1 S1 = X → j_X2_readFigures told minus S = X := by
      intro X hX
      refine h25 _ ?_
      have e59 : j_X2_readFigures_56 told minus (jI S 81 1) zf S = X := by
        unfold j_X2_readFigures_56
        rw [show fuel = 19999 + 1 from rfl, j_X2_readFigures_59, w.2.2.2.2.1]
        have e105 : j_X2_readFigures_105 (fun l1' l2' l3' l4' l5' S' => j_X2_readFigures_59 19999 l1' l2' l3' l4' l5' S') told minus (jI S 81 1) zf 0 S = X := by
          unfold j_X2_readFigures_105
          refine it (by decide) ?_
          rw [w.2.1, w.2.2.2.2.1, e1, Option.bind_some, e2, Option.bind_some]
          exact it (by decide) hX
        refine ie (by decide) ?_
        rw [e6_fig, Option.bind_some]
        refine ie (bi_n hf) ?_
        by_cases hz : zf = 0
        · exact it hz e105
        · exact ie hz (it (by decide) e105)
      unfold j_X2_readFigures_25
      by_cases hz : zf = 0
      · exact it hz e59
      · refine ie hz ?_
        by_cases h2 : minus = 0
        · exact it h2 e59
        · exact ie h2 (it (fun ht => hw ⟨by omega, hm0.mpr h2, ht⟩) e59)
    obtain ⟨k, hk⟩ : ∃ k : Nat, (hd (cR S) = 48 ∧ k = 0) ∨ (hd (cR S) ≠ 48 ∧ k = 5) := by
      by_cases q : hd (cR S) = 48
      · exact ⟨0, .inl ⟨q, rfl⟩⟩
      · exact ⟨5, .inr ⟨q, rfl⟩⟩
    have hfg : (if hd (cR S) = 48 then fgK 1 (cR S) else fgK 6 (cR S)) = (fgK k (cR S).tail).map (fun q => (hd (cR S) :: q.1, q.2)) := by
      rcases hk with ⟨q, e⟩ | ⟨q, e⟩
      · rw [if_pos q, e]; exact fgK_s hf
      · rw [if_neg q, e]; exact fgK_s hf
    rw [hfg]
    rcases l6_fig (l1 := told) (l2 := minus) (l3 := jI S 81 1) (l4 := zf) k 19999 S1 1 w1 (by decide) (by omega) (by omega) with ⟨q, c', S2, e3, e4, f4, w4, s4, c4⟩ | ⟨e3, S2, e4, f4, z4⟩
    · rw [c1] at e3
      rw [e3, Option.map_some, Option.bind_some]
      dsimp only
      have fS2 : frC (FS b) (RS b) S S2 := frC_trans f1 f4
      have sS2 : sg b S2 = sg b S ++ (hd (cR S) :: q.1) := by rw [s4, s1, List.append_assoc]; rfl
      have i11 : jI S2 80 11 = jI S 80 11 := fS2.1 80 11 (by omega)
      have hsplit : cR S = (hd (cR S) :: q.1) ++ q.2 := by
        obtain ⟨c, s, e, ec⟩ := hd_cons (r := cR S) (by omega)
        have := fgK_app e3
        rw [ec, List.cons_append, ← this, e]
        rfl
      by_cases hp : hd q.2 = 46 ∧ told ≠ 0
      · rw [if_pos hp, frS]
        have hpos1 := c_pos w (ne_nil_hd (by omega))
        have hpos2 := c_pos w4 (by rw [c4]; exact ne_nil_hd (by omega))
        rw [c4, fS2.1 1 1 (by omega)] at hpos2
        have hlen := congrArg List.length hsplit
        rw [List.length_append] at hlen
        obtain ⟨x, S', e5, f5, r5⟩ := c_fra w4 (l1 := jI S 81 1) (nd := (hd (cR S) :: q.1).length) (by rw [c4]; exact hp.1) (by omega) h7.1
        rw [c4] at r5
        refine ⟨x, S', h56 _ (e4.trans ?_), frC_trans (frC_V fS2) f5, ?_⟩
        · unfold j_X2_readFigures_158
          refine ie (nn (by rw [w4.2.2.2.2.1, c4]; exact hp.1)) (ie hp.2 ?_)
          rw [e5, Option.bind_some]
          refine it ?_ rfl
          cases ho : (if 3 < (hd (cR S) :: q.1).length then none else if isFig (hd q.2.tail) then fgK 3 q.2.tail else none) with
          | none => rw [ho] at r5; exact .inl r5.1
          | some v => rw [ho] at r5; exact .inr r5.1
        · by_cases h3 : 3 < (hd (cR S) :: q.1).length
          · rw [if_pos h3] at r5 ⊢; exact r5
          · rw [if_neg h3] at r5 ⊢
            by_cases hf2 : isFig (hd q.2.tail)
            · rw [if_pos hf2] at r5 ⊢
              refine rc_map (rc_mono r5 fun v _ hv => ?_)
              obtain ⟨v1, v2, v3, v4⟩ := hv
              refine ⟨v2, v3, v4.trans i11, (hd (cR S) :: q.1) ++ 46 :: v.1, ?_, ?_⟩
              · show m ++ (hd (cR S) :: q.1) ++ 46 :: v.1 = _
                rw [List.append_assoc]
              · rw [v1, sS2, List.append_assoc]
            · rw [if_neg hf2] at r5 ⊢; exact r5
      · rw [if_neg hp]
        have h158 : ∀ X, j_X2_readFigures_180 told minus (jI S 81 1) zf c' S2 = X → j_X2_readFigures told minus S = X := by
          intro X hX
          refine h56 _ (e4.trans ?_)
          unfold j_X2_readFigures_158
          rw [w4.2.2.2.2.1, c4]
          by_cases h46 : hd q.2 = 46
          · exact ie (nn h46) (it (by
              by_cases ht : told = 0
              · exact ht
              · exact absurd ⟨h46, ht⟩ hp) hX)
          · exact it h46 hX
        by_cases hz0 : hd (cR S) = 48 ∧ m ≠ []
        · rw [if_pos hz0]
          obtain ⟨S', e, z', f'⟩ := c_fail w4 (k := 1) (p := jI S 81 1) ⟨by omega, by omega⟩
          refine ⟨0, S', h158 _ ?_, frC_V (frC_trans fS2 (frC_C f')), rfl, z'⟩
          unfold j_X2_readFigures_180
          refine ie (by omega) (ie (hm0.mp hz0.2) ?_)
          rw [e]
          rfl
        · rw [if_neg hz0]
          obtain ⟨w5, c5⟩ := wC_fr w4 (F := fun a f => a = 80 ∧ f = 10) (R := R0) (S' := kI S2 80 10 1) (frC_kI (by omega)) w4.1 (by omega) (by omega) (by omega) (by omega) (by omega) (fun q => q)
          refine ⟨1, kI S2 80 10 1, h158 _ ?_, frC_trans (frC_V fS2) (frC_kI (by omega)), rfl, w5, by rw [c5]; exact c4, jI_eq, by rw [jI_ne (.inr (by decide))]; exact i11, hd (cR S) :: q.1, rfl, ?_⟩
          · unfold j_X2_readFigures_180 j_X2_readFigures_199
            by_cases hz : zf = 0
            · exact it hz rfl
            · refine ie hz (it ?_ rfl)
              by_cases h2 : minus = 0
              · exact h2
              · exact absurd ⟨by omega, hm0.mpr h2⟩ hz0
          · unfold sg gv
            rw [jI_ne (.inl (by omega)), jA_kI]
            exact sS2
    · rw [c1] at e3
      rw [e3]
      exact ⟨0, S2, h56 _ e4, frC_V (frC_trans f1 f4), rfl, z4⟩
end CFI
