section CCO
variable {S S' S'' : iS} {b : Bool} {G : gT}
/-- what a LINE changes -/
abbrev FLn (b : Bool) (a f : Nat) : Prop := (a = 80 ∧ 3 ≤ f) ∨ FC a f ∨ (gadr b ≤ a ∧ a ≤ gadr b + 36)
abbrev RLn (b : Bool) (a : Nat) : Prop := gadr b ≤ a ∧ a ≤ gadr b + 36
theorem frC_L1 (h : frC (FV b) (RS b) S S') : frC (FLn b) (RLn b) S S' := frC_mono h (fun a f q => by have := g_or b; omega) (fun a q => by omega)
theorem frC_L2 {k : Nat} (hk : k ≤ 32) (h : frC (FO b k) (RP b k) S S') : frC (FLn b) (RLn b) S S' := frC_mono h (fun a f q => by have := g_or b; omega) (fun a q => by omega)
theorem frC_L3 {k : Nat} (hk : k ≤ 35) (h : frC (FR b k) (RR b k) S S') : frC (FLn b) (RLn b) S S' := frC_mono h (fun a f q => by have := g_or b; omega) (fun a q => by omega)
theorem frC_LC (h : frC FC R0 S S') : frC (FLn b) (RLn b) S S' := frC_mono h (fun a f q => .inr (.inl q)) (fun a q => absurd q (fun q => q))
theorem wC_O {k : Nat} (hk : 3 ≤ k) (hk2 : k ≤ 30) (w : wC b S) (h : frC (FO b k) (RP b k) S S') (z : zS S') : wC b S' ∧ cR S' = cR S := by
  have hg := g_or b
  exact wC_fr w h z (by omega) (by omega) (by omega) (by omega) (by omega) (by omega)
theorem wC_R {k : Nat} (hk : 3 ≤ k) (hk2 : k ≤ 35) (w : wC b S) (h : frC (FR b k) (RR b k) S S') (z : zS S') : wC b S' ∧ cR S' = cR S := by
  have hg := g_or b
  exact wC_fr w h z (by omega) (by omega) (by omega) (by omega) (by omega) (by omega)
theorem l6_com {l1 : Int} : ∀ (k n : Nat) (S : iS) (c : Int), wC b S → c + k = 20 → 0 ≤ c → k + 1 < n → (∃ q c' S1, cmK k (cR S) = some q ∧ j_X2_readComment_20 n l1 c S = j_X2_readComment_118 l1 c' S1 ∧ frC (FS b) (RS b) S S1 ∧ wC b S1 ∧ sg b S1 = sg b S ++ q.1 ∧ cR S1 = q.2) ∨ (cmK k (cR S) = none ∧ ∃ S', j_X2_readComment_20 n l1 c S = some (0, S') ∧ frC (FS b) (RS b) S S' ∧ zF S') := by
  intro k
  induction k with
  | zero =>
    intro n S c w hc h0 hn
    obtain ⟨m, rfl⟩ : ∃ m, n = m + 2 := ⟨n - 2, by omega⟩
    rw [j_X2_readComment_20, w.2.2.2.2.1, cmK]
    by_cases h : hd (cR S) = -1
    · exact .inl ⟨_, c, S, if_pos h, ie (by omega) (it h rfl), frC_refl, w, by rw [List.append_nil], rfl⟩
    · refine .inr ⟨if_neg h, ?_⟩
      by_cases hp : isPrn (hd (cR S))
      · obtain ⟨S', e, z', f'⟩ := c_fail w (k := 2) (c_at w)
        refine ⟨S', ie (by omega) (ie h ?_), frC_C f', z'⟩
        rw [e6_prn, Option.bind_some]
        refine it (bi_n hp) (ie (nn (by omega)) ?_)
        dsimp only
        rw [e]
        rfl
      · obtain ⟨S', e, z', f'⟩ := c_fail w (k := 1) (c_at w)
        refine ⟨S', ie (by omega) (ie h ?_), frC_C f', z'⟩
        rw [e6_prn, Option.bind_some]
        refine ie (nn (bi_0.mpr hp)) ?_
        dsimp only
        rw [e]
        rfl
  | succ k ih =>
    intro n S c w hc h0 hn
    obtain ⟨m, rfl⟩ : ∃ m, n = m + 2 := ⟨n - 2, by omega⟩
    rw [j_X2_readComment_20, w.2.2.2.2.1, cmK]
    by_cases h : hd (cR S) = -1
    · exact .inl ⟨_, c, S, if_pos h, ie (by omega) (it h rfl), frC_refl, w, by rw [List.append_nil], rfl⟩
    · rw [if_neg h]
      by_cases hp : isPrn (hd (cR S))
      · obtain ⟨T, S1, e1, e2, pT, w1, f1, s1, c1, _⟩ := c_addstep w h (x := hd (cR S))
        have key : ∀ X, j_X2_readComment_20 (m + 1) l1 (c + 1) S1 = X → (if (20 : Int) < c then (j_X2_readComment_118 l1 c S) else (if hd (cR S) = (-1 : Int) then (j_X2_readComment_118 l1 c S) else ((j_X6_isPrintable (hd (cR S)) S).bind fun qx1 => (if ¬ qx1.1 = (0 : Int) then (if ¬ c = (20 : Int) then ((j_X3_add ((gadr (jP2 qx1.2)) + 1) (jI qx1.2 81 2) qx1.2).bind fun qx2 => ((j_X0_step qx2).bind fun qx3 => (if rg (c + (1 : Int)) then (j_X2_readComment_20 (m + 1) l1 (c + (1 : Int)) qx3) else none))) else ((j_X0_wrong (2 : Int) (jI qx1.2 81 1) qx1.2).bind fun qx4 => (if (qx4.1 = 0 ∨ qx4.1 = 1) then (some (qx4.1, qx4.2)) else none))) else ((j_X0_wrong (1 : Int) (jI qx1.2 81 1) qx1.2).bind fun qx5 => (if (qx5.1 = 0 ∨ qx5.1 = 1) then (some (qx5.1, qx5.2)) else none)))))) = X := by
          intro X hX
          refine ie (by omega) (ie h ?_)
          rw [e6_prn, Option.bind_some]
          refine it (bi_n hp) (it (by omega) ?_)
          dsimp only
          rw [w.2.1, w.2.2.2.2.1, e1, Option.bind_some, e2, Option.bind_some]
          exact it ⟨by omega, by omega⟩ hX
        rw [if_pos hp]
        rcases ih (m + 1) S1 (c + 1) w1 (by omega) (by omega) (by omega) with ⟨q, c', S2, eq, e3, f3, w3, s3, c3⟩ | ⟨eq, S', e3, f3, z3⟩
        · rw [c1] at eq
          exact .inl ⟨(hd (cR S) :: q.1, q.2), c', S2, by rw [eq]; rfl, key _ e3, frC_trans f1 f3, w3, by rw [s3, s1, List.append_assoc]; rfl, c3⟩
        · rw [c1] at eq
          exact .inr ⟨by rw [eq]; rfl, S', key _ e3, frC_trans f1 f3, z3⟩
      · rw [if_neg hp]
        obtain ⟨S', e, z', f'⟩ := c_fail w (k := 1) (c_at w)
        refine .inr ⟨rfl, S', ie (by omega) (ie h ?_), frC_C f', z'⟩
        rw [e6_prn, Option.bind_some]
        refine ie (nn (bi_0.mpr hp)) ?_
        dsimp only
        rw [e]
        rfl
theorem app_cut (l x : List Int) : ((l ++ x).drop l.length).take x.length = x := by
  rw [List.drop_left, List.take_length]
/-- readComment -/
theorem c_com (w : wC b S) (hG : cG b S G) (hh : hd (cR S) = 35) (h1 : (gCo G).length < 300) (h2 : (gLi G).length < 300) : ∃ x S', j_X2_readComment S = some (x, S') ∧ frC (FLn b) (RLn b) S S' ∧ rc b (cmL G (cR S)) x S' (fun q => cG b S' q.1 ∧ cR S' = q.2) := by
  have hlt := cR_lt w (by omega)
  have ht := w.2.2.1.2
  obtain ⟨S1, e1, w1, c1, f1⟩ := c_stepC w (by omega)
  unfold j_X2_readComment j_X2_readComment_0 cmL
  rw [e1, Option.bind_some, w1.2.1]
  rcases l6_com (l1 := jI S1 (gadr b + 1) 1) 20 fuel S1 0 w1 (by decide) (by decide) (by unfold fuel; decide) with ⟨q, c', S2, eq, e3, f3, w3, s3, c3⟩ | ⟨eq, S', e3, f3, z3⟩
  · rw [c1] at eq
    rw [eq, e3]
    have fA : frC (FV b) (RS b) S S2 := frC_trans (frC_V (frC_C f1)) (frC_V f3)
    rw [sg_C f1] at s3
    have hG2 := cG_cH.mp (cG_S hG fA s3)
    have n1 := sg_len w1
    have n2 := sg_len w3
    have nn2 : (sg b S2).length = (sg b S).length + q.1.length := by rw [s3, List.length_append]
    rw [sg_C f1] at n1
    have e5 : jI S2 (gadr b + 1) 1 - jI S1 (gadr b + 1) 1 = (q.1.length : Nat) := by omega
    obtain ⟨S3, e6, z6, f6, s6, hG3⟩ := cH_Co w3.1 hG2 (st := (sg b S).length) (ln := q.1.length) (by omega) h1
    obtain ⟨w6, c6⟩ := wC_O (by decide) (by decide) w3 f6 z6
    obtain ⟨S4, e7, z7, f7, s7, hG4⟩ := cH_Li z6 hG3 (x := 0) h2
    obtain ⟨w7, c7⟩ := wC_R (by decide) (by decide) w6 f7 z7
    refine ⟨1, S4, ?_, frC_trans (frC_L1 fA) (frC_trans (frC_L2 (by decide) f6) (frC_L3 (by decide) f7)), rfl, w7, ?_, by rw [c7, c6, c3]⟩
    · unfold j_X2_readComment_118
      rw [w3.2.1, e5]
      refine it ⟨by omega, by have := w3.2.2.2.2.2.2; omega⟩ ?_
      rw [← n1, e6, Option.bind_some, w6.2.1, e7, Option.bind_some]
    · rw [s3, app_cut] at hG4
      exact cG_cH.mpr hG4
  · rw [c1] at eq
    rw [eq, e3]
    exact ⟨0, S', rfl, frC_trans (frC_LC f1) (frC_L1 (frC_V f3)), rfl, z3⟩
end CCO
