section CVB
variable {S S' S'' : iS} {b : Bool}
theorem c_we (w : wC b S) : j_X0_isWordEnd S = some (bi (isE (cR S)), S) := by
  unfold j_X0_isWordEnd j_X0_isWordEnd_0 j_X0_isWordEnd_17 j_X0_isWordEnd_22
  rw [w.2.2.2.2.1]
  by_cases h1 : hd (cR S) = 32
  · rw [bi_t (.inl h1)]; exact it h1 rfl
  · by_cases h2 : hd (cR S) = -1
    · rw [bi_t (.inr h2)]; exact ie h1 (ie (nn h2) rfl)
    · rw [bi_f (fun q => q.elim h1 h2)]; exact ie h1 (it h2 rfl)
/-- the signs that the class keeps of a VALUE -/
def vsg (v : vT) : List Int := if v.1 = 0 then [45] else v.2.2
theorem rc_x {α : Type} {o : Option α} {x : Int} {Q : α → Prop} (h : rc b o x S Q) : x = 0 ∨ x = 1 := by
  cases o with
  | none => exact .inl h.1
  | some v => exact .inr h.1
theorem numS_1 {told : Int} {m r : List Int} {q : vT × List Int} (h : numS told m r = some q) : ¬ q.1.1 = 0 := by
  have := (numS_le h).2
  omega
/-- the class's VALUES -/
theorem c_value (w : wC b S) {k : Int} (hk0 : 0 ≤ k) (hk3 : k ≤ 3) : ∃ x S', j_X2_readValue k S = some (x, S') ∧ frC (FV b) (RS b) S S' ∧ rc b (vlS k (cR S)) x S' (fun q => cR S' = q.2 ∧ jI S' 80 10 = q.1.1 ∧ jI S' 80 11 = jI S (gadr b + 1) 1 ∧ sg b S' = sg b S ++ vsg q.1) := by
  have hg := g_or b
  have f0 : frC (FV b) (RS b) S (kI S 80 11 (jI S (gadr b + 1) 1)) := frC_kI (by omega)
  obtain ⟨w0, c0⟩ := wC_fr w (F := fun a f => a = 80 ∧ f = 11) (R := R0) (S' := kI S 80 11 (jI S (gadr b + 1) 1)) (frC_kI (by omega)) w.1 (by omega) (by omega) (by omega) (by omega) (by omega) (fun q => q)
  have s0 : sg b (kI S 80 11 (jI S (gadr b + 1) 1)) = sg b S := by
    unfold sg gv
    rw [jI_ne (.inl (by omega)), jA_kI]
  have i11 : jI (kI S 80 11 (jI S (gadr b + 1) 1)) 80 11 = jI S (gadr b + 1) 1 := jI_eq
  have il : jI (kI S 80 11 (jI S (gadr b + 1) 1)) (gadr b + 1) 1 = jI S (gadr b + 1) 1 := jI_ne (.inl (by omega))
  unfold j_X2_readValue j_X2_readValue_0
  rw [w.2.1, w.2.2.2.2.1, ← c0]
  generalize kI S 80 11 (jI S (gadr b + 1) 1) = T at *
  -- figures, or none
  have h185 : ∀ (V : iS) (minus : Int) (m : List Int), wC b V → ((minus = 0 ∧ m = []) ∨ (¬ minus = 0 ∧ m = [45])) → ¬ k = 2 → frC (FV b) (RS b) S V → sg b V = sg b S ++ m → jI V 80 11 = jI S (gadr b + 1) 1 → ∃ x S', j_X2_readValue_185 k minus V = some (x, S') ∧ frC (FV b) (RS b) S S' ∧ rc b (numS k m (cR V)) x S' (fun q => cR S' = q.2 ∧ jI S' 80 10 = q.1.1 ∧ jI S' 80 11 = jI S (gadr b + 1) 1 ∧ sg b S' = sg b S ++ vsg q.1) := by
    intro V minus m wV hm hk2 fV sV iV
    unfold j_X2_readValue_185 j_X2_readValue_203
    rw [wV.2.2.2.2.1]
    by_cases hf : isFig (hd (cR V))
    · obtain ⟨x, S', e, f, r⟩ := c_figs wV (told := k) hm hf
      refine ⟨x, S', ie hk2 ?_, frC_trans fV f, ?_⟩
      · rw [e6_fig, Option.bind_some]
        refine it (bi_n hf) ?_
        dsimp only
        rw [e, Option.bind_some]
        exact it (rc_x r) rfl
      · refine rc_mono r fun q hq hv => ?_
        obtain ⟨v1, v2, v3, ds, v4, v5⟩ := hv
        refine ⟨v1, v2, v3.trans iV, ?_⟩
        rw [v5, sV, List.append_assoc, ← v4, vsg, if_neg (numS_1 hq)]
    · obtain ⟨S', e, z', f'⟩ := c_fail wV (k := 1) (c_at wV)
      refine ⟨0, S', ie hk2 ?_, frC_trans fV (frC_V (frC_C f')), ?_⟩
      · rw [e6_fig, Option.bind_some]
        refine ie (nn (bi_0.mpr hf)) ?_
        dsimp only
        rw [e]
        rfl
      · rw [numS, if_pos hf]
        exact ⟨rfl, z'⟩
  by_cases h45 : hd (cR T) = 45
  · obtain ⟨T', S1, e1, e2, pT, w1, f1, s1, c1, l1⟩ := c_addstep w0 (by omega) (x := 45)
    have fS1 : frC (FV b) (RS b) S S1 := frC_trans f0 (frC_V f1)
    have j11 : jI S1 80 11 = jI S (gadr b + 1) 1 := by rw [f1.1 80 11 (by omega)]; exact i11
    rw [s0] at s1
    have h31 : ∀ X, (if bi (isE (cR S1)) = (0 : Int) then (j_X2_readValue_77 k 1 S1) else (some ((1 : Int), (kI S1 80 10 (0 : Int))))) = X → (if ¬ hd (cR T) = (45 : Int) then (j_X2_readValue_31 k (0 : Int) T) else (j_X2_readValue_31 k (1 : Int) T)) = X := by
      intro X hX
      refine ie (nn h45) ?_
      unfold j_X2_readValue_31
      refine ie (by decide) ?_
      rw [w0.2.1, w0.2.2.2.2.1, h45, e1, Option.bind_some, e2, Option.bind_some, c_we w1, Option.bind_some]
      exact hX
    rw [vlS, if_pos h45, ← c1]
    by_cases hE : isE (cR S1)
    · rw [if_pos hE]
      obtain ⟨w5, c5⟩ := wC_fr w1 (F := fun a f => a = 80 ∧ f = 10) (R := R0) (S' := kI S1 80 10 0) (frC_kI (by omega)) w1.1 (by omega) (by omega) (by omega) (by omega) (by omega) (fun q => q)
      refine ⟨1, kI S1 80 10 0, h31 _ (ie (bi_n hE) rfl), frC_trans fS1 (frC_kI (by omega)), rfl, w5, c5, jI_eq, by rw [jI_ne (.inr (by decide))]; exact j11, ?_⟩
      unfold sg gv
      rw [jI_ne (.inl (by omega)), jA_kI]
      exact s1
    · rw [if_neg hE]
      have h77 : ∀ X, j_X2_readValue_185 k 1 S1 = X → (if ¬ hd (cR T) = (45 : Int) then (j_X2_readValue_31 k (0 : Int) T) else (j_X2_readValue_31 k (1 : Int) T)) = X := by
        intro X hX
        refine h31 _ (it (bi_0.mpr hE) ?_)
        unfold j_X2_readValue_77 j_X2_readValue_113 j_X2_readValue_127
        exact it (by decide) (it (by decide) (it (by decide) hX))
      by_cases hk2 : k = 2
      · rw [if_pos hk2]
        obtain ⟨S', e, z', f'⟩ := c_fail w1 (k := 1) (c_at w1)
        refine ⟨0, S', h77 _ ?_, frC_trans fS1 (frC_V (frC_C f')), rfl, z'⟩
        unfold j_X2_readValue_185 j_X2_readValue_203
        refine it hk2 ?_
        rw [e]
        rfl
      · rw [if_neg hk2]
        obtain ⟨x, S', e, f, r⟩ := h185 S1 1 [45] w1 (.inr ⟨by decide, rfl⟩) hk2 fS1 s1 j11
        exact ⟨x, S', h77 _ e, f, r⟩
  · rw [vlS, if_neg h45]
    have h77 : ∀ X, j_X2_readValue_77 k 0 T = X → (if ¬ hd (cR T) = (45 : Int) then (j_X2_readValue_31 k (0 : Int) T) else (j_X2_readValue_31 k (1 : Int) T)) = X := by
      intro X hX
      refine it h45 ?_
      unfold j_X2_readValue_31
      exact it rfl hX
    by_cases hnm : k = 2 ∨ (k = 3 ∧ hd (cR T) = 34)
    · rw [if_pos hnm]
      obtain ⟨w5, c5⟩ := wC_fr w0 (F := fun a f => a = 80 ∧ f = 10) (R := R0) (S' := kI T 80 10 3) (frC_kI (by omega)) w0.1 (by omega) (by omega) (by omega) (by omega) (by omega) (fun q => q)
      have s5 : sg b (kI T 80 10 3) = sg b S := by
        unfold sg gv
        rw [jI_ne (.inl (by omega)), jA_kI]
        exact s0
      obtain ⟨x, S', e, f, r⟩ := c_name w5
      rw [c5, s5] at r
      have f' : frC (FV b) (RS b) (kI T 80 10 3) S' := frC_mono f (fun a g q => by omega) (fun _ q => q)
      have e103 : j_X2_readValue_103 k 0 T = some (x, S') := by
        unfold j_X2_readValue_103
        rw [e, Option.bind_some]
        exact it (rc_x r) rfl
      refine ⟨x, S', h77 _ ?_, frC_trans f0 (frC_trans (frC_kI (by omega)) f'), ?_⟩
      · unfold j_X2_readValue_77
        refine ie (nn rfl) ?_
        by_cases hk2 : k = 2
        · exact it hk2 e103
        · have h3 := hnm.resolve_left hk2
          exact ie hk2 (ie (nn h3.1) (ie (nn (by rw [w0.2.2.2.2.1]; exact h3.2)) e103))
      · refine rc_map (rc_mono r fun q _ hv => ?_)
        obtain ⟨v1, v2, v3⟩ := hv
        refine ⟨v2, ?_, ?_, v1⟩
        · rw [f.1 80 10 (by omega)]; exact jI_eq
        · rw [f.1 80 11 (by omega), jI_ne (.inr (by decide))]; exact i11
    · rw [if_neg hnm]
      have hk2 : ¬ k = 2 := fun q => hnm (.inl q)
      have h113 : ∀ X, j_X2_readValue_113 k 0 T = X → (if ¬ hd (cR T) = (45 : Int) then (j_X2_readValue_31 k (0 : Int) T) else (j_X2_readValue_31 k (1 : Int) T)) = X := by
        intro X hX
        refine h77 _ ?_
        unfold j_X2_readValue_77
        refine ie (nn rfl) (ie hk2 ?_)
        by_cases hk3' : k = 3
        · exact ie (nn hk3') (it (by rw [w0.2.2.2.2.1]; exact fun q => hnm (.inr ⟨hk3', q⟩)) hX)
        · exact it hk3' hX
      by_cases hk3' : k = 3
      · rw [if_pos hk3']
        obtain ⟨x, S', e, f, r⟩ := c_guess w0 (i11.trans il.symm)
        refine ⟨x, S', h113 _ ?_, frC_trans f0 f, ?_⟩
        · unfold j_X2_readValue_113
          refine ie (nn rfl) (ie (nn hk3') ?_)
          rw [e, Option.bind_some]
          exact it (rc_x r) rfl
        · refine rc_mono r fun q hq hv => ?_
          obtain ⟨v1, v2, v3, v4⟩ := hv
          refine ⟨v1, v2, v3.trans i11, ?_⟩
          have := (gsS_le hq).2.1
          rw [v4, s0, vsg, if_neg (by omega)]
      · rw [if_neg hk3']
        have h127 : ∀ X, j_X2_readValue_127 k 0 T = X → (if ¬ hd (cR T) = (45 : Int) then (j_X2_readValue_31 k (0 : Int) T) else (j_X2_readValue_31 k (1 : Int) T)) = X := by
          intro X hX
          refine h113 _ ?_
          unfold j_X2_readValue_113
          exact ie (nn rfl) (it hk3' hX)
        have h169 : ¬ isFig (hd (cR T)) → ∃ x S', j_X2_readValue_169 k 0 T = some (x, S') ∧ frC (FV b) (RS b) S S' ∧ rc b (numS k [] (cR T)) x S' (fun q => cR S' = q.2 ∧ jI S' 80 10 = q.1.1 ∧ jI S' 80 11 = jI S (gadr b + 1) 1 ∧ sg b S' = sg b S ++ vsg q.1) := by
          intro hf
          obtain ⟨S', e, z', f'⟩ := c_fail w0 (k := 3) (c_at w0)
          refine ⟨0, S', ?_, frC_trans f0 (frC_V (frC_C f')), ?_⟩
          · unfold j_X2_readValue_169
            rw [e]
            rfl
          · rw [numS, if_pos hf]
            exact ⟨rfl, z'⟩
        by_cases h34 : hd (cR T) = 34
        · obtain ⟨x, S', e, q⟩ := h169 (by omega)
          refine ⟨x, S', h127 _ ?_, q⟩
          unfold j_X2_readValue_127
          exact ie (nn rfl) (it (by rw [w0.2.2.2.2.1]; exact h34) e)
        · by_cases hp : isPln (hd (cR T)) ∧ ¬ isFig (hd (cR T))
          · obtain ⟨x, S', e, q⟩ := h169 hp.2
            refine ⟨x, S', h127 _ ?_, q⟩
            unfold j_X2_readValue_127
            refine ie (nn rfl) (ie (by rw [w0.2.2.2.2.1]; exact h34) ?_)
            rw [w0.2.2.2.2.1, e6_pln, Option.bind_some]
            refine ie (bi_n hp.1) ?_
            dsimp only
            rw [w0.2.2.2.2.1, e6_fig, Option.bind_some]
            exact ie (nn (bi_0.mpr hp.2)) e
          · obtain ⟨x, S', e, q⟩ := h185 T 0 [] w0 (.inl ⟨rfl, rfl⟩) hk2 f0 (by rw [List.append_nil]; exact s0) i11
            refine ⟨x, S', h127 _ ?_, q⟩
            unfold j_X2_readValue_127
            refine ie (nn rfl) (ie (by rw [w0.2.2.2.2.1]; exact h34) ?_)
            rw [w0.2.2.2.2.1, e6_pln, Option.bind_some]
            by_cases hpl : isPln (hd (cR T))
            · refine ie (bi_n hpl) ?_
              dsimp only
              rw [w0.2.2.2.2.1, e6_fig, Option.bind_some]
              refine it (bi_n ?_) e
              by_cases hf : isFig (hd (cR T))
              · exact hf
              · exact absurd ⟨hpl, hf⟩ hp
            · exact it (bi_0.mpr hpl) e
end CVB
