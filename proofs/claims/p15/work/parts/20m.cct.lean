section CCT
variable {S S' S'' : iS} {b : Bool} {G : gT}
theorem wC_k (w : wC b S) {a f : Nat} {v : Int} (h1 : a ≠ 1) (h2 : a ≠ 81) (h3 : a ≠ gadr b + 1) : wC b (kI S a f v) ∧ cR (kI S a f v) = cR S := wC_fr w (F := fun a' f' => a' = a ∧ f' = f) (R := R0) (frC_kI ⟨rfl, rfl⟩) w.1 (by omega) (by omega) (by omega) (by omega) (by omega) (fun q => q)
theorem c_pl (w : wC b S) : j_X0_placeOf (jI S 81 1) S = some (jI S 81 1 - jI S 81 4 + 1, S) := by
  have h1 := w.2.2.2.1
  have h2 := w.2.2.2.2.2.1
  unfold j_X0_placeOf j_X0_placeOf_0
  exact it ⟨by omega, by omega⟩ (it ⟨by omega, by omega⟩ rfl)
abbrev FT (b : Bool) (a f : Nat) : Prop := (a = 80 ∧ 4 ≤ f) ∨ FC a f ∨ (a = gadr b ∧ (f = 13 ∨ f = 14))
theorem frC_T (h : frC FC R0 S S') : frC (FT b) R0 S S' := frC_mono h (fun _ _ q => .inr (.inl q)) (fun _ q => q)
theorem frC_TU (h : frC FU R0 S S') : frC (FT b) R0 S S' := frC_mono h (fun _ _ q => by omega) (fun _ q => q)
theorem frC_TL (h : frC (FT b) R0 S S') : frC (FLn b) (RLn b) S S' := frC_mono h (fun _ _ q => by omega) (fun _ q => absurd q (fun q => q))
theorem cH_ct {No Hn Co : List (List Int)} {Hk Af At Al : List Int} {Vs : List (List Int)} {Vt Vh Li : List Int} {Lo : Int} {Ct Ct' : Option (Int × Int)} {Wa : Bool} (h : cH b S No Hn Co Hk Af At Al Vs Vt Vh Li Lo Ct Wa) (f : frC (FT b) R0 S S') (hq : ctQ b S' Ct') : cH b S' No Hn Co Hk Af At Al Vs Vt Vh Li Lo Ct' Wa := by
  have hg := g_or b
  obtain ⟨h1, h2, h3, h4, ⟨h5, h6, h7⟩, ⟨h8, h9, h10⟩, h11, h12, h13, h14⟩ := h
  have hs : sg b S' = sg b S := by
    unfold sg gv
    rw [f.1 (gadr b + 1) 1 (by omega), f.2.1 (gadr b + 2) (fun q => q)]
  have K : ∀ a q, gadr b + 3 ≤ a → a ≤ gadr b + 36 → jI S' a q = jI S a q ∧ jA S' a = jA S a := fun a q p1 p2 => ⟨f.1 a q (by omega), f.2.1 a (fun q => q)⟩
  unfold cH
  rw [hs]
  exact ⟨sp_k h1 (fun a q p1 p2 => K a q (by omega) (by omega)), sp_k h2 (fun a q p1 p2 => K a q (by omega) (by omega)), sp_k h3 (fun a q p1 p2 => K a q (by omega) (by omega)), rt_k h4 (fun a q p1 p2 => K a q (by omega) (by omega)), ⟨rt_k h5 (fun a q p1 p2 => K a q (by omega) (by omega)), rt_k h6 (fun a q p1 p2 => K a q (by omega) (by omega)), rt_k h7 (fun a q p1 p2 => K a q (by omega) (by omega))⟩, ⟨sp_k h8 (fun a q p1 p2 => K a q (by omega) (by omega)), rt_k h9 (fun a q p1 p2 => K a q (by omega) (by omega)), rt_k h10 (fun a q p1 p2 => K a q (by omega) (by omega))⟩, rt_k h11 (fun a q p1 p2 => K a q (by omega) (by omega)), (f.1 (gadr b) 12 (by omega)).trans h12, hq, (f.1 80 3 (by omega)).trans h14⟩
/-- readCount -/
theorem c_cnt (w : wC b S) (hG : cG b S G) (hh : hd (cR S) = 33) (hl : 1 ≤ jI S 81 3) (h2 : (gLi G).length < 300) : ∃ x S', j_X2_readCount S = some (x, S') ∧ frC (FLn b) (RLn b) S S' ∧ rc b (ctL G (cR S)) x S' (fun q => cG b S' q.1 ∧ cR S' = q.2) := by
  have hg := g_or b
  have hH := cG_cH.mp hG
  have hq : ctQ b S (gCt G) := hH.2.2.2.2.2.2.2.2.1
  unfold j_X2_readCount j_X2_readCount_0 ctL
  cases hct : gCt G with
  | some c =>
    rw [hct] at hq
    obtain ⟨S', e, z', f'⟩ := c_fail w (k := 4) (c_at w)
    refine ⟨0, S', ie hq.1 (by rw [e]; rfl), frC_LC f', ?_⟩
    exact ⟨rfl, z'⟩
  | none =>
    rw [hct] at hq
    rw [if_neg (show ¬ (none : Option (Int × Int)).isSome = true from fun q => nomatch q)]
    rw [if_pos (show jI S 80 4 = 0 from hq)]
    have hlt := cR_lt w (by omega)
    have ht := w.2.2.1.2
    obtain ⟨w0, c0⟩ := wC_k w (a := 80) (f := 4) (v := jI S 81 3) (by decide) (by decide) (by omega)
    have f0 : frC (FT b) R0 S (kI S 80 4 (jI S 81 3)) := frC_kI (by omega)
    obtain ⟨S1, e1, w1, c1, f1⟩ := c_stepC w0 (by rw [jI_ne (.inl (by decide))]; omega)
    rw [c0] at c1
    have g1 : frC (FT b) R0 S S1 := frC_trans f0 (frC_T f1)
    have q1 : jI S1 80 4 = jI S 81 3 := by rw [f1.1 80 4 (by omega), jI_eq]
    obtain ⟨x2, S2, e2, f2, r2⟩ := c_gap w1
    rw [c1] at r2
    rw [e1, Option.bind_some, e2, Option.bind_some]
    have g2 : frC (FT b) R0 S S2 := frC_trans g1 (frC_T f2)
    have q2 : jI S2 80 4 = jI S 81 3 := by rw [f2.1 80 4 (by omega), q1]
    cases o2 : gpS (cR S).tail with
    | none =>
      rw [o2] at r2
      exact ⟨0, S2, ie (nn r2.1) rfl, frC_TL g2, rfl, r2.2⟩
    | some r1 =>
      rw [o2] at r2
      obtain ⟨rfl, w2, c2⟩ := r2
      rw [if_pos (show ¬ (1 : Int) = 0 by decide), c_pl w2, Option.bind_some, Option.bind_some]
      dsimp only
      obtain ⟨w3, c3⟩ := wC_k w2 (a := 80) (f := 5) (v := jI S2 81 1 - jI S2 81 4 + 1) (by decide) (by decide) (by omega)
      have g3 : frC (FT b) R0 S (kI S2 80 5 (jI S2 81 1 - jI S2 81 4 + 1)) := frC_trans g2 (frC_kI (by omega))
      have q3 : jI (kI S2 80 5 (jI S2 81 1 - jI S2 81 4 + 1)) 80 4 = jI S 81 3 := by rw [jI_ne (.inr (by decide)), q2]
      generalize kI S2 80 5 (jI S2 81 1 - jI S2 81 4 + 1) = T3 at w3 c3 g3 q3 ⊢
      obtain ⟨x4, S4, e4, f4, r4⟩ := c_nu w3
      rw [c3, c2] at r4
      rw [e4, Option.bind_some]
      have g4 : frC (FT b) R0 S S4 := frC_trans g3 (frC_TU f4)
      have q4 : jI S4 80 4 = jI S 81 3 := by rw [f4.1 80 4 (by omega), q3]
      cases o4 : nuS r1 with
      | none =>
        rw [o4] at r4
        rw [Option.bind_none]
        exact ⟨0, S4, ie (nn r4.1) rfl, frC_TL g4, rfl, r4.2⟩
      | some n1 =>
        rw [o4] at r4
        obtain ⟨rfl, w4, v4, c4⟩ := r4
        rw [if_pos (show ¬ (1 : Int) = 0 by decide), Option.bind_some]
        dsimp only
        rw [w4.2.1, v4]
        obtain ⟨w5, c5⟩ := wC_k w4 (a := gadr b) (f := 13) (v := n1.1) (by omega) (by omega) (by omega)
        have g5 : frC (FT b) R0 S (kI S4 (gadr b) 13 n1.1) := frC_trans g4 (frC_kI (by omega))
        have q5 : jI (kI S4 (gadr b) 13 n1.1) 80 4 = jI S 81 3 := by rw [jI_ne (.inl (by omega)), q4]
        have u5 : jI (kI S4 (gadr b) 13 n1.1) (gadr b) 13 = n1.1 := jI_eq
        generalize kI S4 (gadr b) 13 n1.1 = T5 at w5 c5 g5 q5 u5 ⊢
        obtain ⟨x6, S6, e6, f6, r6⟩ := c_gap w5
        rw [c5, c4] at r6
        rw [e6, Option.bind_some]
        have g6 : frC (FT b) R0 S S6 := frC_trans g5 (frC_T f6)
        have q6 : jI S6 80 4 = jI S 81 3 := by rw [f6.1 80 4 (by omega), q5]
        have u6 : jI S6 (gadr b) 13 = n1.1 := by rw [f6.1 (gadr b) 13 (by omega), u5]
        cases o6 : gpS n1.2 with
        | none =>
          rw [o6] at r6
          rw [Option.bind_none]
          exact ⟨0, S6, ie (nn r6.1) rfl, frC_TL g6, rfl, r6.2⟩
        | some r2 =>
          rw [o6] at r6
          obtain ⟨rfl, w6, c6⟩ := r6
          rw [if_pos (show ¬ (1 : Int) = 0 by decide), c_pl w6, Option.bind_some, Option.bind_some]
          dsimp only
          obtain ⟨w7, c7⟩ := wC_k w6 (a := 80) (f := 6) (v := jI S6 81 1 - jI S6 81 4 + 1) (by decide) (by decide) (by omega)
          have g7 : frC (FT b) R0 S (kI S6 80 6 (jI S6 81 1 - jI S6 81 4 + 1)) := frC_trans g6 (frC_kI (by omega))
          have q7 : jI (kI S6 80 6 (jI S6 81 1 - jI S6 81 4 + 1)) 80 4 = jI S 81 3 := by rw [jI_ne (.inr (by decide)), q6]
          have u7 : jI (kI S6 80 6 (jI S6 81 1 - jI S6 81 4 + 1)) (gadr b) 13 = n1.1 := by rw [jI_ne (.inl (by omega)), u6]
          generalize kI S6 80 6 (jI S6 81 1 - jI S6 81 4 + 1) = T7 at w7 c7 g7 q7 u7 ⊢
          obtain ⟨x8, S8, e8, f8, r8⟩ := c_nu w7
          rw [c7, c6] at r8
          rw [e8, Option.bind_some]
          have g8 : frC (FT b) R0 S S8 := frC_trans g7 (frC_TU f8)
          have q8 : jI S8 80 4 = jI S 81 3 := by rw [f8.1 80 4 (by omega), q7]
          have u8 : jI S8 (gadr b) 13 = n1.1 := by rw [f8.1 (gadr b) 13 (by omega), u7]
          cases o8 : nuS r2 with
          | none =>
            rw [o8] at r8
            rw [Option.bind_none]
            exact ⟨0, S8, ie (nn r8.1) rfl, frC_TL g8, rfl, r8.2⟩
          | some n2 =>
            rw [o8] at r8
            obtain ⟨rfl, w8, v8, c8⟩ := r8
            rw [if_pos (show ¬ (1 : Int) = 0 by decide), Option.bind_some]
            dsimp only
            rw [w8.2.1, v8]
            obtain ⟨w9, c9⟩ := wC_k w8 (a := gadr b) (f := 14) (v := n2.1) (by omega) (by omega) (by omega)
            have g9 : frC (FT b) R0 S (kI S8 (gadr b) 14 n2.1) := frC_trans g8 (frC_kI (by omega))
            have q9 : jI (kI S8 (gadr b) 14 n2.1) 80 4 = jI S 81 3 := by rw [jI_ne (.inl (by omega)), q8]
            have u9 : jI (kI S8 (gadr b) 14 n2.1) (gadr b) 13 = n1.1 := by rw [jI_ne (.inr (by decide)), u8]
            have p9 : jI (kI S8 (gadr b) 14 n2.1) (gadr b) 14 = n2.1 := jI_eq
            have pP : jP2 (kI S8 (gadr b) 14 n2.1) = b := w9.2.1
            generalize kI S8 (gadr b) 14 n2.1 = T9 at w9 c9 g9 q9 u9 p9 pP ⊢
            have hH9 := cH_ct hH g9 (Ct' := some (n1.1, n2.1)) ⟨by omega, u9, p9⟩
            obtain ⟨S10, e10, z10, f10, s10, hH10⟩ := cH_Li w9.1 hH9 (x := 1) h2
            obtain ⟨w10, c10⟩ := wC_R (by decide) (by decide) w9 f10 z10
            rw [e10, Option.bind_some]
            obtain ⟨x11, S11, e11, f11, r11⟩ := c_lend w10
            rw [c10, c9, c8] at r11
            rw [e11, Option.bind_some]
            dsimp only
            have gF : frC (FLn b) (RLn b) S S11 := frC_trans (frC_TL g9) (frC_trans (frC_L3 (by decide) f10) (frC_LC f11))
            have hH11 := cH_S (xs := []) hH10 (frC_V (frC_C f11)) (by rw [List.append_nil]; exact sg_C f11)
            cases o11 : leS n2.2 with
            | none =>
              rw [o11] at r11
              exact ⟨0, S11, it (.inl r11.1) (by rw [r11.1]), gF, rfl, r11.2⟩
            | some r3 =>
              rw [o11] at r11
              obtain ⟨rfl, w11, c11⟩ := r11
              exact ⟨1, S11, it (.inr rfl) rfl, gF, rfl, w11, cG_cH.mpr hH11, c11⟩
end CCT
