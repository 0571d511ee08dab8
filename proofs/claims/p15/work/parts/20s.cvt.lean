section CVT
variable {S S' S'' : iS} {b : Bool} {No Hn Co : List (List Int)} {Hk Af At Al : List Int} {Vs : List (List Int)} {Vt Vh Li : List Int} {Lo : Int} {Ct : Option (Int × Int)} {Wa : Bool}
theorem frS_ty {m ds r : List Int} {q : vT × List Int} (h : frS m ds r = some q) : q.1.1 = 2 := by
  unfold frS at h
  split at h
  · cases h
  · split at h
    · cases ho : fgK 3 r.tail with
      | none => rw [ho] at h; cases h
      | some p => rw [ho] at h; cases h; rfl
    · cases h
theorem numS_ty {k : Int} {m r : List Int} {q : vT × List Int} (h : numS k m r = some q) : q.1.1 = 1 ∨ q.1.1 = 2 := by
  unfold numS at h
  split at h
  · cases h
  · split at h
    · cases h
    · cases ho : (if hd r = 48 then fgK 1 r else fgK 6 r) with
      | none => rw [ho] at h; cases h
      | some p =>
        rw [ho, Option.bind_some] at h
        split at h
        · exact .inr (frS_ty h)
        · split at h
          · cases h
          · cases h; exact .inl rfl
theorem gsS_ty {r : List Int} {q : vT × List Int} (h : gsS r = some q) : q.1.1 = 1 ∨ q.1.1 = 2 ∨ q.1.1 = 3 := by
  unfold gsS at h
  split at h
  · cases h
  · cases ho : plK 8 r with
    | none => rw [ho] at h; cases h
    | some p =>
      rw [ho, Option.bind_some] at h
      split at h
      · split at h
        · cases h
        · exact .inr (.inl (frS_ty h))
      · split at h
        · cases h; exact .inl rfl
        · cases h; exact .inr (.inr rfl)
theorem vlS_ty {k : Int} {r : List Int} {q : vT × List Int} (h : vlS k r = some q) : q.1.1 = 0 ∨ q.1.1 = 1 ∨ q.1.1 = 2 ∨ q.1.1 = 3 := by
  unfold vlS at h
  split at h
  · split at h
    · cases h; exact .inl rfl
    · split at h
      · cases h
      · have := numS_ty h; omega
  · split at h
    · cases ho : nmS r with
      | none => rw [ho] at h; cases h
      | some p => rw [ho] at h; cases h; exact .inr (.inr (.inr rfl))
    · split at h
      · have := gsS_ty h; omega
      · have := numS_ty h; omega
theorem frC_Vs (h : frC (FV b) (RS b) S S') : frC (FVs b) (RVs b) S S' := frC_mono h (fun _ _ q => .inl q) (fun _ q => .inl q)
theorem l6_vs (hk : ∀ k ∈ Hk, 0 ≤ k ∧ k ≤ 3) (hk3 : Hk.length ≤ 3) : ∀ (m n i : Nat) (S : iS) (Vs : List (List Int)) (Vt Vh : List Int), i + m = Hk.length → m < n → wC b S → cH b S No Hn Co Hk Af At Al Vs Vt Vh Li Lo Ct Wa → Vs.length + m ≤ 123 → Vt.length + m ≤ 123 → Vh.length + m ≤ 123 → ∃ x S', j_X2_readValues_2 n (i : Int) S = some (x, S') ∧ frC (FVs b) (RVs b) S S' ∧ rc b (vsS (Hk.drop i) (cR S)) x S' (fun q => cR S' = q.2 ∧ cH b S' No Hn Co Hk Af At Al (Vs ++ q.1.map vsg) (Vt ++ q.1.map (fun v => v.1)) (Vh ++ q.1.map (fun v => v.2.1)) Li Lo Ct Wa) := by
  have hg := g_or b
  intro m
  induction m with
  | zero =>
    intro n i S Vs Vt Vh hi hn w h _ _ _
    obtain ⟨n, rfl⟩ : ∃ p, n = p + 1 := ⟨n - 1, by omega⟩
    have hc : jI S (gadr b + 18) 1 = Hk.length := by
      have := rv_len h.2.2.2.1.1
      rw [h.2.2.2.1.2] at this
      exact this.symm
    rw [j_X2_readValues_2, w.2.1, hc, List.drop_eq_nil_of_le (by omega)]
    refine ⟨1, S, it (by omega) rfl, frC_refl, rfl, w, rfl, ?_⟩
    rw [List.map_nil, List.map_nil, List.map_nil, List.append_nil, List.append_nil, List.append_nil]
    exact h
  | succ m ih =>
    intro n i S Vs Vt Vh hi hn w h c1 c2 c3
    obtain ⟨n, rfl⟩ : ∃ p, n = p + 1 := ⟨n - 1, by omega⟩
    have hlt : i < Hk.length := by omega
    have hc : jI S (gadr b + 18) 1 = Hk.length := by
      have := rv_len h.2.2.2.1.1
      rw [h.2.2.2.1.2] at this
      exact this.symm
    rw [j_X2_readValues_2, w.2.1, hc, List.drop_eq_getElem_cons hlt, vsS, if_neg (show ¬ (Hk.length : Int) ≤ (i : Int) by omega)]
    unfold j_X2_readValues_41 j_X2_readValues_59 j_X2_readValues_67
    obtain ⟨x1, S1, e1, f1, r1⟩ := c_gap w
    rw [e1, Option.bind_some]
    have g1 : frC (FVs b) (RVs b) S S1 := frC_Vs (frC_V (frC_C f1))
    cases o1 : gpS (cR S) with
    | none =>
      rw [o1] at r1
      exact ⟨0, S1, it r1.1 rfl, g1, rfl, r1.2⟩
    | some r =>
      rw [o1] at r1
      obtain ⟨rfl, w1, d1⟩ := r1
      have h1 := cH_S (xs := []) h (frC_V (frC_C f1)) (by rw [List.append_nil]; exact sg_C f1)
      have hat : rat S1 (gadr b + 18) i = Hk[i] := by
        have := h1.2.2.2.1
        rw [rv_at this.1 (by rw [this.2]; exact hlt), this.2, List.getD_eq_getElem?_getD, List.getElem?_eq_getElem hlt]
        rfl
      rw [if_neg (show ¬ (1 : Int) = 0 by decide), Option.bind_some]
      dsimp only
      rw [eR_at w1.1, Option.bind_some, w1.2.1, hat]
      dsimp only
      have hkk := hk _ (List.getElem_mem hlt)
      obtain ⟨x2, S2, e2, f2, r2⟩ := c_value w1 hkk.1 hkk.2
      rw [d1] at r2
      rw [e2, Option.bind_some]
      have g2 := frC_trans g1 (frC_Vs f2)
      cases o2 : vlS Hk[i] r with
      | none =>
        rw [o2] at r2
        exact ⟨0, S2, ie (nn r2.1) rfl, g2, rfl, r2.2⟩
      | some v =>
        rw [o2] at r2
        obtain ⟨rfl, w2, d2, t2, p2, s2⟩ := r2
        have h2 := cH_S (xs := vsg v.1) h1 f2 s2
        have sh := vlS_sh o2
        have ty := vlS_ty o2
        have p2' : jI S2 80 11 = ((sg b S1).length : Int) := by rw [p2, sg_len w1]
        obtain ⟨S3, e3, f3, w3, d3, h3⟩ := c_av w2 h2 (ty := v.1.1) (th := v.1.2.1) s2 (by omega) (by omega) (by omega)
        obtain ⟨x4, S4, e4, f4, r4⟩ := ih n (i + 1) S3 _ _ _ (by omega) (by omega) w3 h3 (by rw [List.length_append]; simp; omega) (by rw [List.length_append]; simp; omega) (by rw [List.length_append]; simp; omega)
        rw [d3, d2] at r4
        have g4 := frC_trans g2 (frC_trans f3 f4)
        rw [if_pos (show ¬ (1 : Int) = 0 by decide), Option.bind_some]
        dsimp only
        have go : ∀ T, T = S2 → ((j_X1_addValue (jP2 T) (jI T 80 10) v.1.2.1 (jI T 80 11) T).bind fun qx1 => (if rg ((i : Int) + (1 : Int)) then (j_X2_readValues_2 n ((i : Int) + (1 : Int)) qx1) else none)) = some (x4, S4) := by
          intro T hT
          rw [hT, w2.2.1, t2, p2', e3, Option.bind_some]
          exact it ⟨by omega, by omega⟩ e4
        refine ⟨x4, S4, ?_, g4, ?_⟩
        · rw [t2]
          by_cases t1 : v.1.1 = 1
          · refine it t1 ?_
            rw [c_th w2 sh (.inl t1) (pre := sg b S1) (by rw [s2]; unfold vsg; rw [if_neg (by omega)]) p2', Option.bind_some]
            exact go S2 rfl
          · refine ie t1 ?_
            by_cases t3 : v.1.1 = 2
            · refine ie (nn t3) ?_
              rw [c_th w2 sh (.inr t3) (pre := sg b S1) (by rw [s2]; unfold vsg; rw [if_neg (by omega)]) p2', Option.bind_some]
              exact go S2 rfl
            · refine it t3 ?_
              have z0 : v.1.2.1 = 0 := sh.2.2 (by omega)
              rw [z0] at go
              rw [← t2]
              exact go S2 rfl
        · refine rc_map (rc_mono r4 fun p _ hp => ⟨hp.1, ?_⟩)
          have := hp.2
          rw [List.append_assoc, List.append_assoc, List.append_assoc] at this
          exact this
end CVT
