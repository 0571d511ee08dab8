section CHE
variable {S S' S'' : iS} {b : Bool} {G : gT}
theorem rk_sg (w : wC b S) : rk S (gadr b + 1) := by
  have h := w.2.2.2.2.2.2
  refine ⟨h.1, ?_⟩
  have : (jA S (gadr b + 1 + 1)).length = 600 := by
    rw [w.1 (gadr b + 1 + 1)]
    cases b <;> rfl
  omega
theorem c_ix (w : wC b S) {k : Nat} (hk : sgn (gadr b + k) = gadr b + 1) {l : List (List Int)} (h : spn S (gadr b + k) (sg b S) l) {st ln : Nat} (h2 : st + ln ≤ (sg b S).length) (hl : l.length ≤ 10000) : j_X4_indexOf (gadr b + k) (gadr b + 1) st ln S = some (if ((sg b S).drop st).take ln ∈ l then (ixO l (((sg b S).drop st).take ln) : Int) else -1, S) := c_idx w.1 h (by rw [hk]; rfl) (by rw [hk]; exact rk_sg w) (rk_sg w) h2 hl
theorem frC_MV (h : frC (FM b) (RS b) S S') : frC (FV b) (RS b) S S' := frC_mono h (fun _ _ q => by omega) (fun _ q => q)
theorem c_kd {c : Int} : j_X2_kindOfLetter c S = some (kdS c, S) := by
  unfold j_X2_kindOfLetter j_X2_kindOfLetter_0 kdS
  by_cases h1 : c = 100
  · subst h1; rfl
  · rw [if_neg h1]
    by_cases h2 : c = 103
    · subst h2; rfl
    · rw [if_neg h2]
      by_cases h3 : c = 116
      · subst h3; rfl
      · rw [if_neg h3]
        by_cases h4 : c = 119
        · subst h4; rfl
        · rw [if_neg h4, if_neg h4, if_neg h1, if_neg h3, if_neg h2]
theorem kd_ne {c : Int} (h : kdS c ≠ -1) : c ≠ -1 := fun q => h (by rw [q]; rfl)
/-- readHead -/
theorem c_hea (w : wC b S) (hG : cG b S G) (hh : hd (cR S) = 37) (h2 : (gLi G).length < 300) : ∃ x S', j_X2_readHead S = some (x, S') ∧ frC (FLn b) (RLn b) S S' ∧ rc b (heL G (cR S)) x S' (fun q => cG b S' q.1 ∧ cR S' = q.2) := by
  have hg := g_or b
  have hH := cG_cH.mp hG
  have hwa : jI S 80 3 = (if gWa G = true then 1 else 0) := hH.2.2.2.2.2.2.2.2.2
  have hct : jI S (gadr b + 8) 3 = (gHe G).length := by rw [hH.2.1.2.2.2.2.1, List.length_map]
  unfold j_X2_readHead j_X2_readHead_0 heL j_X2_readHead_21 j_X2_readHead_58
  rw [w.2.1, hct]
  by_cases hc : gWa G = true ∨ 3 ≤ (gHe G).length
  · obtain ⟨S', e, z', f'⟩ := c_fail w (k := 4) (c_at w)
    refine ⟨0, S', ?_, frC_LC f', ?_⟩
    · by_cases hw : gWa G = true
      · rw [if_pos hw] at hwa
        exact it (by omega) (by rw [e]; rfl)
      · rw [if_neg hw] at hwa
        have := hc.resolve_left hw
        exact ie (by omega) (ie (by omega) (by rw [e]; rfl))
    · rw [if_pos hc]
      exact ⟨rfl, z'⟩
  · have hw : ¬ gWa G = true := fun q => hc (.inl q)
    have h3 : ¬ 3 ≤ (gHe G).length := fun q => hc (.inr q)
    rw [if_neg hw] at hwa
    rw [if_neg hc, if_neg (show ¬ ¬ jI S 80 3 = 0 from nn hwa), if_pos (show ((gHe G).length : Int) < 3 by omega)]
    have hlt := cR_lt w (by omega)
    have ht := w.2.2.1.2
    obtain ⟨S1, e1, w1, c1, f1⟩ := c_stepC w (by omega)
    obtain ⟨x2, S2, e2, f2, r2⟩ := c_gap w1
    rw [c1] at r2
    rw [e1, Option.bind_some, e2, Option.bind_some]
    have g2 : frC FC R0 S S2 := frC_trans f1 f2
    cases o2 : gpS (cR S).tail with
    | none =>
      rw [o2] at r2
      exact ⟨0, S2, it r2.1 rfl, frC_LC g2, rfl, r2.2⟩
    | some r1 =>
      rw [o2] at r2
      obtain ⟨rfl, w2, c2⟩ := r2
      rw [if_neg (show ¬ (1 : Int) = 0 by decide), Option.bind_some]
      dsimp only
      obtain ⟨x3, S3, e3, f3, r3⟩ := c_nameP w2
      rw [c2] at r3
      rw [e3, Option.bind_some]
      have g3 : frC (FV b) (RS b) S S3 := frC_trans (frC_V (frC_C g2)) (frC_MV f3)
      cases o3 : nmS r1 with
      | none =>
        rw [o3] at r3
        rw [Option.bind_none]
        exact ⟨0, S3, ie (nn r3.1) rfl, frC_L1 g3, rfl, r3.2⟩
      | some a =>
        rw [o3] at r3
        obtain ⟨rfl, w3, s3, c3, n3, p3⟩ := r3
        rw [if_pos (show ¬ (1 : Int) = 0 by decide), Option.bind_some]
        dsimp only
        rw [w3.2.1]
        have m2 := sg_len w2
        have m3 := sg_len w3
        have mm : (sg b S3).length = (sg b S2).length + a.1.length := by rw [s3, List.length_append]
        have m4 : jI S3 (gadr b + 1) 1 - jI S3 80 9 = (a.1.length : Nat) := by omega
        have m5 := w3.2.2.2.2.2.2
        have hH3 := cH_S (xs := a.1) hH g3 (by rw [s3, sg_C g2])
        have hx := c_ix w3 (sgn_8 b) hH3.2.1 (st := (sg b S2).length) (ln := a.1.length) (by omega) (by rw [List.length_map]; omega)
        rw [show ((sg b S3).drop (sg b S2).length).take a.1.length = a.1 by rw [s3, app_cut], m2, ← n3] at hx
        rw [m4, if_pos (show rg ((a.1.length : Nat) : Int) from ⟨by omega, by omega⟩), hx, Option.bind_some]
        dsimp only
        by_cases hin : a.1 ∈ (gHe G).map (fun h => h.1)
        · rw [if_pos hin, if_pos hin]
          have w2a := c_at w2
          obtain ⟨S', e, z', f'⟩ := c_fail w3 (k := 4) (p := jI S3 80 8) (by rw [p3]; exact w2a)
          exact ⟨0, S', ie (by omega) (by rw [e]; rfl), frC_trans (frC_L1 g3) (frC_LC f'), rfl, z'⟩
        · rw [if_neg hin, if_neg hin, if_pos rfl, w3.2.1]
          obtain ⟨S4, e4, z4, f4, s4, hH4⟩ := cH_Hn w3.1 hH3 (st := (sg b S2).length) (ln := a.1.length) (by omega) (by rw [List.length_map]; omega)
          rw [show ((sg b S3).drop (sg b S2).length).take a.1.length = a.1 by rw [s3, app_cut]] at hH4
          rw [m2, ← n3] at e4
          rw [e4, Option.bind_some]
          obtain ⟨w4, c4⟩ := wC_O (by decide) (by decide) w3 f4 z4
          have g4 : frC (FLn b) (RLn b) S S4 := frC_trans (frC_L1 g3) (frC_L2 (by decide) f4)
          obtain ⟨x5, S5, e5, f5, r5⟩ := c_gap w4
          rw [c4, c3] at r5
          rw [e5, Option.bind_some]
          have g5 := frC_trans g4 (frC_LC f5)
          cases o5 : gpS a.2 with
          | none =>
            rw [o5] at r5
            rw [Option.bind_none]
            exact ⟨0, S5, ie (nn r5.1) rfl, g5, rfl, r5.2⟩
          | some r2 =>
            rw [o5] at r5
            obtain ⟨rfl, w5, c5⟩ := r5
            rw [if_pos (show ¬ (1 : Int) = 0 by decide), Option.bind_some]
            dsimp only
            rw [c_kd, Option.bind_some, w5.2.2.2.2.1, c5]
            dsimp only
            by_cases hk : kdS (hd r2) = -1
            · obtain ⟨S', e, z', f'⟩ := c_fail w5 (k := 1) (c_at w5)
              rw [if_pos hk]
              exact ⟨0, S', ie (nn hk) (by rw [e]; rfl), frC_trans g5 (frC_LC f'), rfl, z'⟩
            · rw [if_neg hk, if_pos hk, w5.2.1]
              have hH5 := cH_S (xs := []) hH4 (frC_V (frC_C f5)) (by rw [List.append_nil]; exact sg_C f5)
              obtain ⟨S6, e6, z6, f6, s6, hH6⟩ := cH_Hk w5.1 hH5 (x := kdS (hd r2)) (by rw [List.length_map]; omega)
              obtain ⟨w6, c6⟩ := wC_R (by decide) (by decide) w5 f6 z6
              rw [e6, Option.bind_some, w6.2.1]
              obtain ⟨S7, e7, z7, f7, s7, hH7⟩ := cH_Li w6.1 hH6 (x := 2) h2
              obtain ⟨w7, c7⟩ := wC_R (by decide) (by decide) w6 f7 z7
              rw [e7, Option.bind_some]
              have c57 : cR S7 = r2 := by rw [c7, c6, c5]
              have hlt7 := cR_lt w7 (by rw [c57]; exact kd_ne hk)
              have ht7 := w7.2.2.1.2
              obtain ⟨S8, e8, w8, c8, f8⟩ := c_stepC w7 (by omega)
              rw [e8, Option.bind_some]
              obtain ⟨x9, S9, e9, f9, r9⟩ := c_lend w8
              rw [c8, c57] at r9
              rw [e9, Option.bind_some]
              dsimp only
              have f89 := frC_trans f8 f9
              have gF : frC (FLn b) (RLn b) S S9 := frC_trans g5 (frC_trans (frC_L3 (by decide) f6) (frC_trans (frC_L3 (by decide) f7) (frC_LC f89)))
              have hH9 := cH_S (xs := []) hH7 (frC_V (frC_C f89)) (by rw [List.append_nil]; exact sg_C f89)
              cases o9 : leS r2.tail with
              | none =>
                rw [o9] at r9
                exact ⟨0, S9, it (.inl r9.1) (by rw [r9.1]), gF, rfl, r9.2⟩
              | some r3 =>
                rw [o9] at r9
                obtain ⟨rfl, w9, c9⟩ := r9
                refine ⟨1, S9, it (.inr rfl) rfl, gF, rfl, w9, cG_cH.mpr ?_, c9⟩
                show cH b S9 (gNo G) ((gHe G ++ [(a.1, kdS (hd r2))]).map (fun h => h.1)) (gCo G) ((gHe G ++ [(a.1, kdS (hd r2))]).map (fun h => h.2)) _ _ _ _ _ _ (gLi G ++ [2]) (gLo G) (gCt G) (gWa G)
                rw [List.map_append, List.map_append]
                exact hH9
end CHE
