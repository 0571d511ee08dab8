section CNM
variable {S S' S'' : iS} {b : Bool}
abbrev FC (a f : Nat) : Prop := a = 81 ∧ (f = 1 ∨ f = 2 ∨ f = 5 ∨ f = 6 ∨ f = 7)
abbrev R0 (_ : Nat) : Prop := False
theorem FC_FS {a f : Nat} (h : FC a f) : FS b a f := .inl h
theorem frC_C (h : frC FC R0 S S') : frC (FS b) (RS b) S S' := frC_mono h (fun _ _ q => .inl q) (fun _ q => absurd q (fun q => q))
theorem sg_C (h : frC FC R0 S S') : sg b S' = sg b S := by
  have hg := g_or b
  unfold sg gv
  rw [h.1 (gadr b + 1) 1 (by omega), h.2.1 _ (fun q => q)]
theorem cR_len (w : wC b S) : (cR S).length ≤ 600 := by
  have := w.2.2.2.2.2.2
  omega
theorem c_stepC (w : wC b S) (h : jI S 81 1 < 600) : ∃ S', j_X0_step S = some S' ∧ wC b S' ∧ cR S' = (cR S).tail ∧ frC FC R0 S S' := by
  obtain ⟨S', e, hS, w', c', _, _⟩ := c_step w h
  refine ⟨S', e, w', c', ?_⟩
  subst hS
  exact frC_step (by omega) (by omega)
theorem l6_skip : ∀ (n : Nat) (S : iS) (l1 : Int), wC b S → 0 ≤ l1 → l1 + (cR S).length ≤ 600 → (cR S).length < n → ∃ S', j_X0_skipBlanks_2 n l1 S = some S' ∧ wC b S' ∧ frC FC R0 S S' ∧ cR S' = skb (cR S) := by
  intro n
  induction n with
  | zero => intro S l1 _ _ _ h; omega
  | succ n ih =>
    intro S l1 w h0 h1 hn
    rw [j_X0_skipBlanks_2]
    unfold j_X0_skipBlanks_28
    by_cases h : hd (cR S) = 32
    · obtain ⟨c, r, er, ec⟩ := hd_cons (r := cR S) (by omega)
      have hlt := cR_lt w (by omega)
      have ht := w.2.2.1.2
      obtain ⟨S1, e1, w1, c1, f1⟩ := c_stepC w (by omega)
      rw [er, List.length_cons] at h1 hn
      have hc1 : cR S1 = r := by rw [c1, er]; rfl
      obtain ⟨S', e2, w2, f2, c2⟩ := ih S1 (l1 + 1) w1 (by omega) (by rw [hc1]; omega) (by rw [hc1]; omega)
      refine ⟨S', ie (by omega) (ie (nn (w.2.2.2.2.1.trans h)) ?_), w2, frC_trans f1 f2, ?_⟩
      · rw [e1, Option.bind_some]
        exact it ⟨by omega, by omega⟩ e2
      · rw [c2, hc1, er, skb, if_pos (by rw [← ec]; exact h)]
    · refine ⟨S, ?_, w, frC_refl, (skb_e h).symm⟩
      by_cases h6 : 600 ≤ l1
      · exact it h6 rfl
      · exact ie h6 (it (by rw [w.2.2.2.2.1]; exact h) rfl)
theorem c_skip (w : wC b S) : ∃ S', j_X0_skipBlanks S = some S' ∧ wC b S' ∧ frC FC R0 S S' ∧ cR S' = skb (cR S) := by
  have := cR_len w
  exact l6_skip fuel S 0 w (by decide) (by omega) (by unfold fuel; omega)
theorem c_at (w : wC b S) : -1 ≤ jI S 81 1 ∧ jI S 81 1 ≤ 1000 := by
  have := w.2.2.2.1
  omega
/-- a FAULT is told -/
theorem c_fail (w : wC b S) {k p : Int} (hp : -1 ≤ p ∧ p ≤ 1000) (hk : 1 ≤ k ∧ k ≤ 7 := by decide) : ∃ S', j_X0_wrong k p S = some (0, S') ∧ zF S' ∧ frC FC R0 S S' := ⟨_, c_wrong w hp.1 hp.2, ⟨w.1, by rw [jI_ne (.inr (by decide)), jI_ne (.inr (by decide)), jI_eq]; exact hk⟩, frC_w (by omega) (by omega) (by omega)⟩
theorem c_gap (w : wC b S) : ∃ x S', j_X2_readGap S = some (x, S') ∧ frC FC R0 S S' ∧ rc b (gpS (cR S)) x S' (fun r => cR S' = r) := by
  unfold j_X2_readGap j_X2_readGap_0 gpS
  by_cases h : hd (cR S) = 32
  · obtain ⟨S', e, w', f', c'⟩ := c_skip w
    refine ⟨1, S', it (by rw [w.2.2.2.2.1]; exact h) (by rw [e]; rfl), f', ?_⟩
    rw [if_pos h]
    exact ⟨rfl, w', c'⟩
  · obtain ⟨S', e, z', f'⟩ := c_fail w (k := 1) (c_at w)
    refine ⟨0, S', ie (by rw [w.2.2.2.2.1]; exact h) (by rw [e]; rfl), f', ?_⟩
    rw [if_neg h]
    exact ⟨rfl, z'⟩
theorem c_lend (w : wC b S) : ∃ x S', j_X2_readLineEnd S = some (x, S') ∧ frC FC R0 S S' ∧ rc b (leS (cR S)) x S' (fun r => cR S' = r) := by
  obtain ⟨S1, e1, w1, f1, c1⟩ := c_skip w
  unfold j_X2_readLineEnd j_X2_readLineEnd_0 j_X2_readLineEnd_36 j_X2_readLineEnd_41 leS
  rw [e1, Option.bind_some]
  by_cases h : hd (skb (cR S)) = -1
  · refine ⟨1, S1, it (by rw [w1.2.2.2.2.1, c1]; exact h) rfl, f1, ?_⟩
    rw [if_pos h]
    exact ⟨rfl, w1, c1⟩
  · obtain ⟨S', e, z', f'⟩ := c_fail w1 (k := 1) (c_at w1)
    refine ⟨0, S', ie (by rw [w1.2.2.2.2.1, c1]; exact h) (by rw [e]; rfl), frC_trans f1 f', ?_⟩
    rw [if_neg h]
    exact ⟨rfl, z'⟩
theorem l6_plain : ∀ (k n : Nat) (S : iS) (c : Int), wC b S → c + k = 8 → 0 ≤ c → k + 1 < n → ∃ x S', j_X2_readPlain_31 n c S = some (x, S') ∧ frC (FS b) (RS b) S S' ∧ rc b (plK k (cR S)) x S' (fun q => sg b S' = sg b S ++ q.1 ∧ cR S' = q.2) := by
  intro k
  induction k with
  | zero =>
    intro n S c w hc h0 hn
    obtain ⟨m, rfl⟩ : ∃ m, n = m + 2 := ⟨n - 2, by omega⟩
    rw [j_X2_readPlain_31, w.2.2.2.2.1]
    unfold j_X2_readPlain_102
    by_cases h : isPln (hd (cR S))
    · obtain ⟨S', e, z', f'⟩ := c_fail w (k := 2) (c_at w)
      refine ⟨0, S', ie (by omega) ?_, frC_C f', ?_⟩
      · rw [e6_pln, Option.bind_some]
        refine ie (bi_n h) (ie (nn (by omega)) ?_)
        dsimp only
        rw [e]
        rfl
      · rw [plK, if_pos h]
        exact ⟨rfl, z'⟩
    · refine ⟨1, S, ie (by omega) ?_, frC_refl, ?_⟩
      · rw [e6_pln, Option.bind_some]
        exact it (bi_0.mpr h) rfl
      · rw [plK_n h]
        exact ⟨rfl, w, by rw [List.append_nil], rfl⟩
  | succ k ih =>
    intro n S c w hc h0 hn
    obtain ⟨m, rfl⟩ : ∃ m, n = m + 2 := ⟨n - 2, by omega⟩
    rw [j_X2_readPlain_31, w.2.2.2.2.1]
    unfold j_X2_readPlain_102
    by_cases h : isPln (hd (cR S))
    · obtain ⟨T, S1, e1, e2, pT, w1, f1, s1, c1, _⟩ := c_addstep w (by omega) (x := hd (cR S))
      obtain ⟨x, S', e3, f3, r3⟩ := ih (m + 1) S1 (c + 1) w1 (by omega) (by omega) (by omega)
      refine ⟨x, S', ie (by omega) ?_, frC_trans f1 f3, ?_⟩
      · rw [e6_pln, Option.bind_some]
        refine ie (bi_n h) (it (by omega) ?_)
        dsimp only
        rw [w.2.1, w.2.2.2.2.1, e1, Option.bind_some, e2, Option.bind_some]
        exact it ⟨by omega, by omega⟩ e3
      · rw [c1] at r3
        rw [plK, if_pos h]
        refine rc_map (rc_mono r3 fun v _ hv => ?_)
        rw [s1, List.append_assoc] at hv
        exact hv
    · refine ⟨1, S, ie (by omega) ?_, frC_refl, ?_⟩
      · rw [e6_pln, Option.bind_some]
        exact it (bi_0.mpr h) rfl
      · rw [plK_n h]
        exact ⟨rfl, w, by rw [List.append_nil], rfl⟩
theorem c_plain (w : wC b S) : ∃ x S', j_X2_readPlain S = some (x, S') ∧ frC (FS b) (RS b) S S' ∧ rc b (if isPln (hd (cR S)) then plK 8 (cR S) else none) x S' (fun q => sg b S' = sg b S ++ q.1 ∧ cR S' = q.2) := by
  unfold j_X2_readPlain j_X2_readPlain_0
  rw [w.2.2.2.2.1, e6_pln, Option.bind_some]
  dsimp only
  by_cases h : isPln (hd (cR S))
  · obtain ⟨x, S', e, f, r⟩ := l6_plain 8 fuel S 0 w (by decide) (by decide) (by unfold fuel; decide)
    refine ⟨x, S', it (bi_n h) e, f, ?_⟩
    rw [if_pos h]
    exact r
  · obtain ⟨S', e, z', f'⟩ := c_fail w (k := 1) (c_at w)
    refine ⟨0, S', ie (nn (bi_0.mpr h)) (by rw [e]; rfl), frC_C f', ?_⟩
    rw [if_neg h]
    exact ⟨rfl, z'⟩
theorem l6_quo : ∀ (k n : Nat) (S : iS) (c : Int), wC b S → c + k = 8 → 0 ≤ c → k + 1 < n → ∃ x S', j_X2_readQuoted_37 n c S = some (x, S') ∧ frC (FS b) (RS b) S S' ∧ rc b (quK k (cR S)) x S' (fun q => sg b S' = sg b S ++ q.1 ∧ cR S' = q.2) := by
  intro k
  have hend : ∀ (S : iS) (c : Int), wC b S → hd (cR S) = 34 → ∃ S', j_X2_readQuoted_195 c S = some (1, S') ∧ frC (FS b) (RS b) S S' ∧ wC b S' ∧ sg b S' = sg b S ∧ cR S' = (cR S).tail := by
    intro S c w h
    have hlt := cR_lt w (by omega)
    have ht := w.2.2.1.2
    obtain ⟨S1, e1, w1, c1, f1⟩ := c_stepC w (by omega)
    refine ⟨S1, ?_, frC_C f1, w1, sg_C f1, c1⟩
    unfold j_X2_readQuoted_195
    rw [e1]
    rfl
  induction k with
  | zero =>
    intro n S c w hc h0 hn
    obtain ⟨m, rfl⟩ : ∃ m, n = m + 2 := ⟨n - 2, by omega⟩
    rw [j_X2_readQuoted_37, quK]
    by_cases hq : hd (cR S) = 34
    · obtain ⟨S', e, f, w', s', c'⟩ := hend S c w hq
      refine ⟨1, S', ie (by omega) (it (by rw [w.2.2.2.2.1]; exact hq) e), f, ?_⟩
      rw [if_pos hq]
      exact ⟨rfl, w', by rw [List.append_nil]; exact s', c'⟩
    · rw [if_neg hq]
      by_cases hp : isPrn (hd (cR S))
      · obtain ⟨S', e, z', f'⟩ := c_fail w (k := 2) (c_at w)
        refine ⟨0, S', ie (by omega) (ie (by rw [w.2.2.2.2.1]; exact hq) ?_), frC_C f', rfl, z'⟩
        rw [w.2.2.2.2.1, e6_prn, Option.bind_some]
        refine it (bi_n hp) (ie (nn (by omega)) ?_)
        dsimp only
        rw [e]
        rfl
      · obtain ⟨S', e, z', f'⟩ := c_fail w (k := 1) (c_at w)
        refine ⟨0, S', ie (by omega) (ie (by rw [w.2.2.2.2.1]; exact hq) ?_), frC_C f', rfl, z'⟩
        rw [w.2.2.2.2.1, e6_prn, Option.bind_some]
        refine ie (nn (bi_0.mpr hp)) ?_
        dsimp only
        rw [e]
        rfl
  | succ k ih =>
    intro n S c w hc h0 hn
    obtain ⟨m, rfl⟩ : ∃ m, n = m + 2 := ⟨n - 2, by omega⟩
    rw [j_X2_readQuoted_37, quK]
    by_cases hq : hd (cR S) = 34
    · obtain ⟨S', e, f, w', s', c'⟩ := hend S c w hq
      refine ⟨1, S', ie (by omega) (it (by rw [w.2.2.2.2.1]; exact hq) e), f, ?_⟩
      rw [if_pos hq]
      exact ⟨rfl, w', by rw [List.append_nil]; exact s', c'⟩
    · rw [if_neg hq]
      by_cases hp : isPrn (hd (cR S))
      · rw [if_neg (nn hp)]
        have h165 : ∀ T, wC b T → hd (cR T) ≠ -1 → ∃ x S', j_X2_readQuoted_165 (fun l1' S' => j_X2_readQuoted_37 (m + 1) l1' S') c T = some (x, S') ∧ frC (FS b) (RS b) T S' ∧ rc b ((quK k (cR T).tail).map (fun q => (hd (cR T) :: q.1, q.2))) x S' (fun q => sg b S' = sg b T ++ q.1 ∧ cR S' = q.2) := by
          intro T wT hT
          obtain ⟨T', S1, e1, e2, pT, w1, f1, s1, c1, _⟩ := c_addstep wT hT (x := hd (cR T))
          obtain ⟨x, S', e3, f3, r3⟩ := ih (m + 1) S1 (c + 1) w1 (by omega) (by omega) (by omega)
          refine ⟨x, S', ?_, frC_trans f1 f3, ?_⟩
          · unfold j_X2_readQuoted_165
            rw [wT.2.1, wT.2.2.2.2.1, e1, Option.bind_some, e2, Option.bind_some]
            exact it ⟨by omega, by omega⟩ e3
          · rw [c1] at r3
            refine rc_map (rc_mono r3 fun v _ hv => ?_)
            rw [s1, List.append_assoc] at hv
            exact hv
        by_cases hb : hd (cR S) = 92
        · rw [if_pos hb]
          have hlt := cR_lt w (by omega)
          have ht := w.2.2.1.2
          obtain ⟨S1, e1, w1, c1, f1⟩ := c_stepC w (by omega)
          have key : ∀ X, (if (jI S1 81 2) = (34 : Int) then (j_X2_readQuoted_165 (fun l1' S' => j_X2_readQuoted_37 (m + 1) l1' S') c S1) else (if (jI S1 81 2) = (92 : Int) then (j_X2_readQuoted_165 (fun l1' S' => j_X2_readQuoted_37 (m + 1) l1' S') c S1) else ((j_X0_wrong (1 : Int) (jI S1 81 1) S1).bind fun qx3 => (if (qx3.1 = 0 ∨ qx3.1 = 1) then (some (qx3.1, qx3.2)) else none)))) = X → (if (8 : Int) < c then (j_X2_readQuoted_195 c S) else (if (jI S 81 2) = (34 : Int) then (j_X2_readQuoted_195 c S) else ((j_X6_isPrintable (jI S 81 2) S).bind fun qx1 => (if ¬ qx1.1 = (0 : Int) then (if ¬ c = (8 : Int) then (if ¬ (jI qx1.2 81 2) = (92 : Int) then (j_X2_readQuoted_165 (fun l1' S' => j_X2_readQuoted_37 (m + 1) l1' S') c qx1.2) else ((j_X0_step qx1.2).bind fun qx2 => (if (jI qx2 81 2) = (34 : Int) then (j_X2_readQuoted_165 (fun l1' S' => j_X2_readQuoted_37 (m + 1) l1' S') c qx2) else (if (jI qx2 81 2) = (92 : Int) then (j_X2_readQuoted_165 (fun l1' S' => j_X2_readQuoted_37 (m + 1) l1' S') c qx2) else ((j_X0_wrong (1 : Int) (jI qx2 81 1) qx2).bind fun qx3 => (if (qx3.1 = 0 ∨ qx3.1 = 1) then (some (qx3.1, qx3.2)) else none)))))) else ((j_X0_wrong (2 : Int) (jI qx1.2 81 1) qx1.2).bind fun qx4 => (if (qx4.1 = 0 ∨ qx4.1 = 1) then (some (qx4.1, qx4.2)) else none))) else ((j_X0_wrong (1 : Int) (jI qx1.2 81 1) qx1.2).bind fun qx5 => (if (qx5.1 = 0 ∨ qx5.1 = 1) then (some (qx5.1, qx5.2)) else none)))))) = X := by
            intro X hX
            refine ie (by omega) (ie (by rw [w.2.2.2.2.1]; exact hq) ?_)
            rw [w.2.2.2.2.1, e6_prn, Option.bind_some]
            refine it (bi_n hp) (it (by omega) (ie (nn (by show jI S 81 2 = 92; rw [w.2.2.2.2.1]; exact hb)) ?_))
            dsimp only
            rw [e1, Option.bind_some]
            exact hX
          by_cases hc2 : hd (cR S).tail = 34 ∨ hd (cR S).tail = 92
          · obtain ⟨x, S', e3, f3, r3⟩ := h165 S1 w1 (by rw [c1]; omega)
            rw [c1] at r3
            refine ⟨x, S', key _ ?_, frC_trans (frC_C f1) f3, ?_⟩
            · rw [w1.2.2.2.2.1, c1]
              by_cases h34 : hd (cR S).tail = 34
              · exact it h34 e3
              · exact ie h34 (it (hc2.resolve_left h34) e3)
            · rw [if_pos hc2]
              rw [sg_C f1] at r3
              exact r3
          · obtain ⟨S', e, z', f'⟩ := c_fail w1 (k := 1) (c_at w1)
            refine ⟨0, S', key _ ?_, frC_trans (frC_C f1) (frC_C f'), ?_⟩
            · rw [w1.2.2.2.2.1, c1]
              refine ie (fun q => hc2 (.inl q)) (ie (fun q => hc2 (.inr q)) ?_)
              rw [e]
              rfl
            · rw [if_neg hc2]
              exact ⟨rfl, z'⟩
        · rw [if_neg hb]
          obtain ⟨x, S', e3, f3, r3⟩ := h165 S w (by omega)
          refine ⟨x, S', ie (by omega) (ie (by rw [w.2.2.2.2.1]; exact hq) ?_), f3, r3⟩
          rw [w.2.2.2.2.1, e6_prn, Option.bind_some]
          exact it (bi_n hp) (it (by omega) (it (by show ¬ jI S 81 2 = 92; rw [w.2.2.2.2.1]; exact hb) e3))
      · rw [if_pos hp]
        obtain ⟨S', e, z', f'⟩ := c_fail w (k := 1) (c_at w)
        refine ⟨0, S', ie (by omega) (ie (by rw [w.2.2.2.2.1]; exact hq) ?_), frC_C f', rfl, z'⟩
        rw [w.2.2.2.2.1, e6_prn, Option.bind_some]
        refine ie (nn (bi_0.mpr hp)) ?_
        dsimp only
        rw [e]
        rfl
abbrev FM (b : Bool) (a f : Nat) : Prop := (a = 80 ∧ (f = 8 ∨ f = 9)) ∨ FS b a f
theorem frC_M (h : frC (FS b) (RS b) S S') : frC (FM b) (RS b) S S' := frC_mono h (fun _ _ q => .inr q) (fun _ q => q)
/-- the class's NAMES -/
theorem c_nameP (w : wC b S) : ∃ x S', j_X2_readName S = some (x, S') ∧ frC (FM b) (RS b) S S' ∧ rc b (nmS (cR S)) x S' (fun q => sg b S' = sg b S ++ q.1 ∧ cR S' = q.2 ∧ jI S' 80 9 = jI S (gadr b + 1) 1 ∧ jI S' 80 8 = jI S 81 1) := by
  have hg := g_or b
  obtain ⟨w1, c1⟩ := wC_fr w (F := fun a f => a = 80 ∧ (f = 8 ∨ f = 9)) (R := R0) (S' := kI (kI S 80 8 (jI S 81 1)) 80 9 (jI S (gadr b + 1) 1)) (frC_trans (frC_kI (by omega)) (frC_kI (by omega))) w.1 (by omega) (by omega) (by omega) (by omega) (by omega) (fun q => q)
  have f1 : frC (FM b) (RS b) S (kI (kI S 80 8 (jI S 81 1)) 80 9 (jI S (gadr b + 1) 1)) := frC_trans (frC_kI (by omega)) (frC_kI (by omega))
  have s1 : sg b (kI (kI S 80 8 (jI S 81 1)) 80 9 (jI S (gadr b + 1) 1)) = sg b S := by
    unfold sg gv
    rw [jI_ne (.inl (by omega)), jI_ne (.inl (by omega)), jA_kI, jA_kI]
  have i1 : jI (kI (kI S 80 8 (jI S 81 1)) 80 9 (jI S (gadr b + 1) 1)) 80 9 = jI S (gadr b + 1) 1 := jI_eq
  have i8 : jI (kI (kI S 80 8 (jI S 81 1)) 80 9 (jI S (gadr b + 1) 1)) 80 8 = jI S 81 1 := by rw [jI_ne (.inr (by decide)), jI_eq]
  have fin : ∀ {x : Int} {S' : iS} {o : Option (List Int × List Int)}, frC (FS b) (RS b) (kI (kI S 80 8 (jI S 81 1)) 80 9 (jI S (gadr b + 1) 1)) S' → rc b o x S' (fun q => sg b S' = sg b (kI (kI S 80 8 (jI S 81 1)) 80 9 (jI S (gadr b + 1) 1)) ++ q.1 ∧ cR S' = q.2) → j_X2_readName_48 x S' = some (x, S') ∧ rc b o x S' (fun q => sg b S' = sg b S ++ q.1 ∧ cR S' = q.2 ∧ jI S' 80 9 = jI S (gadr b + 1) 1 ∧ jI S' 80 8 = jI S 81 1) := by
    intro x S' o f r
    refine ⟨?_, rc_mono r fun v _ hv => ⟨by rw [hv.1, s1], hv.2, by rw [f.1 80 9 (by omega), i1], by rw [f.1 80 8 (by omega), i8]⟩⟩
    unfold j_X2_readName_48
    refine it ?_ rfl
    cases o with
    | none => exact .inl r.1
    | some v => exact .inr r.1
  unfold j_X2_readName j_X2_readName_0 nmS
  rw [w.2.1, w.2.2.2.2.1]
  by_cases hq : hd (cR S) = 34
  · rw [if_pos hq]
    have hlt := cR_lt w1 (by rw [c1]; omega)
    have ht := w1.2.2.1.2
    obtain ⟨S2, e2, w2, c2, f2⟩ := c_stepC w1 (by omega)
    rw [c1] at c2
    by_cases hq2 : hd (cR S).tail = 34
    · obtain ⟨S3, e3, z3, f3⟩ := c_fail w2 (k := 1) (c_at w2)
      have fA : frC (FS b) (RS b) (kI (kI S 80 8 (jI S 81 1)) 80 9 (jI S (gadr b + 1) 1)) S3 := frC_trans (frC_C f2) (frC_C f3)
      obtain ⟨q1, q2⟩ := fin (x := 0) (o := none) fA ⟨rfl, z3⟩
      refine ⟨0, S3, ie (nn hq) ?_, frC_trans f1 (frC_M fA), by rw [if_pos hq2]; exact q2⟩
      unfold j_X2_readQuoted j_X2_readQuoted_0
      rw [e2, Option.bind_some, w2.2.2.2.2.1, c2, if_neg (nn hq2), e3]
      exact q1
    · obtain ⟨x, S3, e3, f3, r3⟩ := l6_quo 8 fuel S2 0 w2 (by decide) (by decide) (by unfold fuel; decide)
      rw [c2, sg_C f2] at r3
      have fA : frC (FS b) (RS b) (kI (kI S 80 8 (jI S 81 1)) 80 9 (jI S (gadr b + 1) 1)) S3 := frC_trans (frC_C f2) f3
      obtain ⟨q1, q2⟩ := fin fA r3
      refine ⟨x, S3, ie (nn hq) ?_, frC_trans f1 (frC_M fA), by rw [if_neg hq2]; exact q2⟩
      unfold j_X2_readQuoted j_X2_readQuoted_0
      rw [e2, Option.bind_some, w2.2.2.2.2.1, c2, if_pos hq2, e3]
      exact q1
  · rw [if_neg hq]
    obtain ⟨x, S2, e2, f2, r2⟩ := c_plain w1
    rw [c1] at r2
    obtain ⟨q1, q2⟩ := fin f2 r2
    refine ⟨x, S2, it hq ?_, frC_trans f1 (frC_M f2), q2⟩
    rw [e2]
    exact q1
theorem c_name (w : wC b S) : ∃ x S', j_X2_readName S = some (x, S') ∧ frC (FM b) (RS b) S S' ∧ rc b (nmS (cR S)) x S' (fun q => sg b S' = sg b S ++ q.1 ∧ cR S' = q.2 ∧ jI S' 80 9 = jI S (gadr b + 1) 1) := by
  obtain ⟨x, S', e, f, r⟩ := c_nameP w
  exact ⟨x, S', e, f, rc_mono r fun v _ hv => ⟨hv.1, hv.2.1, hv.2.2.1⟩⟩
end CNM
