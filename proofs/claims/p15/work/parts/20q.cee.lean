section CEE
variable {S S' S'' : iS} {b : Bool} {G : gT}
theorem ix_ne {N : List (List Int)} {x : List Int} : ¬ (ixO N x : Int) = -1 := by omega
/-- readEnds -/
theorem c_ends {man : Int} (w : wC b S) (h : cG b S G) (hm : jI S 80 2 = man) (hn : (gNo G).length ≤ 30) (ha : (gAr G).length ≤ 1000) : ∃ x S', j_X2_readEnds S = some (x, S') ∧ frC (FLn b) (RLn b) S S' ∧ jI S' 80 2 = man ∧ rc b (enS man G (cR S)) x S' (fun q => cR S' = q.2 ∧ cHN b S' G q.1.1 ∧ jI S' 80 13 = q.1.2.1 ∧ jI S' 80 14 = q.1.2.2 ∧ jI S' 80 15 = bi (dbS (gAr G) q.1.2.1 q.1.2.2 = true) ∧ jI S' 80 12 = jI S 81 1) := by
  have hg := g_or b
  have hH : cHN b S G (gNo G) := cG_cH.mp h
  obtain ⟨w0, c0⟩ := wC_k w (a := 80) (f := 12) (v := jI S 81 1) (by decide) (by decide) (by omega)
  have h0 : cHN b (kI S 80 12 (jI S 81 1)) G (gNo G) := cH_8 (by decide) hH
  have g0 : frC (FLn b) (RLn b) S (kI S 80 12 (jI S 81 1)) := frC_8 (by decide)
  have i0 : jI (kI S 80 12 (jI S 81 1)) 80 12 = jI S 81 1 := jI_eq
  have m0 : jI (kI S 80 12 (jI S 81 1)) 80 2 = man := by rw [jI_ne (.inr (by decide))]; exact hm
  unfold j_X2_readEnds j_X2_readEnds_0 enS j_X2_readEnds_50 j_X2_readEnds_117
  generalize kI S 80 12 (jI S 81 1) = T0 at w0 c0 h0 g0 i0 m0 ⊢
  obtain ⟨x1, S1, e1, g1, i1, m1, r1⟩ := c_nt w0 h0 hn
  rw [c0] at r1
  rw [e1, Option.bind_some]
  cases o1 : nmS (cR S) with
  | none =>
    rw [o1] at r1
    exact ⟨0, S1, ie (nn r1.1) rfl, frC_trans g0 g1, by rw [m1, m0], rfl, r1.2⟩
  | some a =>
    rw [o1] at r1
    obtain ⟨rfl, y2, S2, e2, g2, i2, m2, r2⟩ := r1
    rw [if_pos (show ¬ (1 : Int) = 0 by decide), Option.bind_some]
    dsimp only
    rw [e2, Option.bind_some]
    dsimp only
    cases o2 : ndS (gNo G) a.1 with
    | none =>
      rw [o2] at r2
      exact ⟨0, kI S2 80 13 y2, it r2.1 rfl, frC_trans g0 (frC_trans g2 (frC_8 (by decide))), by rw [jI_ne (.inr (by decide)), m2, m0], rfl, r2.2⟩
    | some N1 =>
      rw [o2] at r2
      obtain ⟨rfl, w2, c2, h2, _⟩ := r2
      obtain ⟨hin, hN1⟩ := ndS_in o2 hn
      rw [if_neg ix_ne, Option.bind_some]
      obtain ⟨w3, c3⟩ := wC_k w2 (a := 80) (f := 13) (v := (ixO N1 a.1 : Int)) (by decide) (by decide) (by omega)
      have h3 : cHN b (kI S2 80 13 (ixO N1 a.1 : Int)) G N1 := cH_8 (by decide) h2
      have g3 : frC (FLn b) (RLn b) S (kI S2 80 13 (ixO N1 a.1 : Int)) := frC_trans g0 (frC_trans g2 (frC_8 (by decide)))
      have i3 : jI (kI S2 80 13 (ixO N1 a.1 : Int)) 80 12 = jI S 81 1 := by rw [jI_ne (.inr (by decide)), i2 12 (by decide), i0]
      have j3 : jI (kI S2 80 13 (ixO N1 a.1 : Int)) 80 13 = (ixO N1 a.1 : Int) := jI_eq
      have m3 : jI (kI S2 80 13 (ixO N1 a.1 : Int)) 80 2 = man := by rw [jI_ne (.inr (by decide)), m2, m0]
      generalize kI S2 80 13 (ixO N1 a.1 : Int) = T3 at w3 c3 h3 g3 i3 j3 m3 ⊢
      obtain ⟨x4, S4, e4, f4, r4⟩ := c_gap w3
      rw [c3, c2] at r4
      rw [e4, Option.bind_some]
      have g4 := frC_trans g3 (frC_LC f4)
      have m4 : jI S4 80 2 = man := by rw [f4.1 80 2 (by omega), m3]
      cases o4 : gpS a.2 with
      | none =>
        rw [o4] at r4
        exact ⟨0, S4, it r4.1 rfl, g4, m4, rfl, r4.2⟩
      | some r1 =>
        rw [o4] at r4
        obtain ⟨rfl, w4, c4⟩ := r4
        rw [if_neg (show ¬ (1 : Int) = 0 by decide), Option.bind_some]
        dsimp only
        have h4 : cHN b S4 G N1 := cH_S (xs := []) h3 (frC_V (frC_C f4)) (by rw [List.append_nil]; exact sg_C f4)
        obtain ⟨x5, S5, e5, g5, i5, m5, r5⟩ := c_nt w4 h4 hN1
        rw [c4] at r5
        rw [e5, Option.bind_some]
        cases o5 : nmS r1 with
        | none =>
          rw [o5] at r5
          exact ⟨0, S5, ie (nn r5.1) rfl, frC_trans g4 g5, by rw [m5, m4], rfl, r5.2⟩
        | some c =>
          rw [o5] at r5
          obtain ⟨rfl, y6, S6, e6, g6, i6, m6, r6⟩ := r5
          rw [if_pos (show ¬ (1 : Int) = 0 by decide), Option.bind_some]
          dsimp only
          rw [e6, Option.bind_some]
          dsimp only
          cases o6 : ndS N1 c.1 with
          | none =>
            rw [o6] at r6
            exact ⟨0, kI S6 80 14 y6, ie (nn r6.1) rfl, frC_trans g4 (frC_trans g6 (frC_8 (by decide))), by rw [jI_ne (.inr (by decide)), m6, m4], rfl, r6.2⟩
          | some N2 =>
            rw [o6] at r6
            obtain ⟨rfl, w6, c6, h6, p6⟩ := r6
            have hix : ixO N2 a.1 = ixO N1 a.1 := ndS_ix o6 hin
            have j6 : jI S6 80 13 = (ixO N2 a.1 : Int) := by rw [i6 13 (by decide), f4.1 80 13 (by omega), j3, hix]
            have k6 : jI S6 80 12 = jI S 81 1 := by rw [i6 12 (by decide), f4.1 80 12 (by omega), i3]
            rw [if_pos (show ¬ (ixO N2 c.1 : Int) = -1 from ix_ne), Option.bind_some, w6.2.1, j6]
            obtain ⟨w7, c7⟩ := wC_k w6 (a := 80) (f := 14) (v := (ixO N2 c.1 : Int)) (by decide) (by decide) (by omega)
            have h7 : cHN b (kI S6 80 14 (ixO N2 c.1 : Int)) G N2 := cH_8 (by decide) h6
            have g7 : frC (FLn b) (RLn b) S (kI S6 80 14 (ixO N2 c.1 : Int)) := frC_trans g4 (frC_trans g6 (frC_8 (by decide)))
            have i7 : jI (kI S6 80 14 (ixO N2 c.1 : Int)) 80 12 = jI S 81 1 := by rw [jI_ne (.inr (by decide)), k6]
            have j7 : jI (kI S6 80 14 (ixO N2 c.1 : Int)) 80 13 = (ixO N2 a.1 : Int) := by rw [jI_ne (.inr (by decide)), j6]
            have k7 : jI (kI S6 80 14 (ixO N2 c.1 : Int)) 80 14 = (ixO N2 c.1 : Int) := jI_eq
            have m7 : jI (kI S6 80 14 (ixO N2 c.1 : Int)) 80 2 = man := by rw [jI_ne (.inr (by decide)), m6, m4]
            have p7 : jI (kI S6 80 14 (ixO N2 c.1 : Int)) 80 8 = jI S4 81 1 := by rw [jI_ne (.inr (by decide)), p6]
            generalize kI S6 80 14 (ixO N2 c.1 : Int) = T7 at w7 c7 h7 g7 i7 j7 k7 m7 p7 ⊢
            have hha := c_ha (b := b) (l := gAr G) w7.1 h7.2.2.2.2.1.1 h7.2.2.2.2.1.2.1 (f := (ixO N2 a.1 : Int)) (t := (ixO N2 c.1 : Int)) ha
            rw [hha, Option.bind_some]
            dsimp only
            obtain ⟨w8, c8⟩ := wC_k w7 (a := 80) (f := 15) (v := bi (dbS (gAr G) (ixO N2 a.1) (ixO N2 c.1) = true)) (by decide) (by decide) (by omega)
            have h8 : cHN b (kI T7 80 15 (bi (dbS (gAr G) (ixO N2 a.1) (ixO N2 c.1) = true))) G N2 := cH_8 (by decide) h7
            have good : rc b (some ((N2, (ixO N2 a.1 : Int), (ixO N2 c.1 : Int)), c.2)) 1 (kI T7 80 15 (bi (dbS (gAr G) (ixO N2 a.1) (ixO N2 c.1) = true))) (fun q => cR (kI T7 80 15 (bi (dbS (gAr G) (ixO N2 a.1) (ixO N2 c.1) = true))) = q.2 ∧ cHN b (kI T7 80 15 (bi (dbS (gAr G) (ixO N2 a.1) (ixO N2 c.1) = true))) G q.1.1 ∧ jI (kI T7 80 15 (bi (dbS (gAr G) (ixO N2 a.1) (ixO N2 c.1) = true))) 80 13 = q.1.2.1 ∧ jI (kI T7 80 15 (bi (dbS (gAr G) (ixO N2 a.1) (ixO N2 c.1) = true))) 80 14 = q.1.2.2 ∧ jI (kI T7 80 15 (bi (dbS (gAr G) (ixO N2 a.1) (ixO N2 c.1) = true))) 80 15 = bi (dbS (gAr G) q.1.2.1 q.1.2.2 = true) ∧ jI (kI T7 80 15 (bi (dbS (gAr G) (ixO N2 a.1) (ixO N2 c.1) = true))) 80 12 = jI S 81 1) := ⟨rfl, w8, by rw [c8, c7, c6], h8, by rw [jI_ne (.inr (by decide)), j7], by rw [jI_ne (.inr (by decide)), k7], jI_eq, by rw [jI_ne (.inr (by decide)), i7]⟩
            have g8 : frC (FLn b) (RLn b) S (kI T7 80 15 (bi (dbS (gAr G) (ixO N2 a.1) (ixO N2 c.1) = true))) := frC_trans g7 (frC_8 (by decide))
            have m8 : jI (kI T7 80 15 (bi (dbS (gAr G) (ixO N2 a.1) (ixO N2 c.1) = true))) 80 2 = man := by rw [jI_ne (.inr (by decide)), m7]
            by_cases hd : dbS (gAr G) (ixO N2 a.1) (ixO N2 c.1) = true
            · by_cases h2m : man = 2
              · rw [if_pos (And.intro hd h2m)]
                have hat := c_at w4
                obtain ⟨S9, e9, z9, f9⟩ := c_fail w8 (k := 5) (p := jI T7 80 8) (by rw [p7]; exact hat)
                refine ⟨0, S9, it (.inr (bi_t hd)) (ie (bi_n hd) (ie (nn (m7.trans h2m)) (by rw [e9]; rfl))), frC_trans g8 (frC_LC f9), by rw [f9.1 80 2 (by omega), m8], rfl, z9⟩
              · rw [if_neg (show ¬ (dbS (gAr G) (ixO N2 a.1) (ixO N2 c.1) = true ∧ man = 2) from fun q => h2m q.2)]
                exact ⟨1, _, it (.inr (bi_t hd)) (ie (bi_n hd) (it (by rw [m7]; exact h2m) rfl)), g8, m8, good⟩
            · rw [if_neg (show ¬ (dbS (gAr G) (ixO N2 a.1) (ixO N2 c.1) = true ∧ man = 2) from fun q => hd q.1)]
              exact ⟨1, _, it (.inl (bi_f hd)) (it (bi_f hd) rfl), g8, m8, good⟩
end CEE
