section CTX
variable {S S' S'' : iS} {b : Bool} {G : gT}
theorem cH_far {No Hn Co : List (List Int)} {Hk Af At Al : List Int} {Vs : List (List Int)} {Vt Vh Li : List Int} {Lo : Int} {Ct : Option (Int × Int)} {Wa : Bool} (h : cH b S No Hn Co Hk Af At Al Vs Vt Vh Li Lo Ct Wa) (e : ∀ a q, gadr b ≤ a → a ≤ gadr b + 36 → jI S' a q = jI S a q ∧ jA S' a = jA S a) (e3 : jI S' 80 3 = jI S 80 3) (e4 : jI S' 80 4 = jI S 80 4) : cH b S' No Hn Co Hk Af At Al Vs Vt Vh Li Lo Ct Wa := by
  obtain ⟨h1, h2, h3, h4, ⟨h5, h6, h7⟩, ⟨h8, h9, h10⟩, h11, h12, h13, h14⟩ := h
  have hs : sg b S' = sg b S := by
    unfold sg gv
    rw [(e (gadr b + 1) 1 (by omega) (by omega)).1, (e (gadr b + 2) 1 (by omega) (by omega)).2]
  unfold cH
  rw [hs]
  exact ⟨sp_k h1 (fun a q p1 p2 => e a q (by omega) (by omega)), sp_k h2 (fun a q p1 p2 => e a q (by omega) (by omega)), sp_k h3 (fun a q p1 p2 => e a q (by omega) (by omega)), rt_k h4 (fun a q p1 p2 => e a q (by omega) (by omega)), ⟨rt_k h5 (fun a q p1 p2 => e a q (by omega) (by omega)), rt_k h6 (fun a q p1 p2 => e a q (by omega) (by omega)), rt_k h7 (fun a q p1 p2 => e a q (by omega) (by omega))⟩, ⟨sp_k h8 (fun a q p1 p2 => e a q (by omega) (by omega)), rt_k h9 (fun a q p1 p2 => e a q (by omega) (by omega)), rt_k h10 (fun a q p1 p2 => e a q (by omega) (by omega))⟩, rt_k h11 (fun a q p1 p2 => e a q (by omega) (by omega)), (e (gadr b) 12 (by omega) (by omega)).1.trans h12, ct_k e4 (e (gadr b) 13 (by omega) (by omega)).1 (e (gadr b) 14 (by omega) (by omega)).1 h13, e3.trans h14⟩
theorem cG_81 (h : cG b S G) (f : frC (fun a _ => a = 81) R0 S S') : cG b S' G := by
  have hg := g_or b
  exact cG_cH.mpr (cH_far (cG_cH.mp h) (fun a q p1 p2 => ⟨f.1 a q (by omega), f.2.1 a (fun q => q)⟩) (f.1 80 3 (by decide)) (f.1 80 4 (by decide)))
abbrev FTx (b : Bool) (a f : Nat) : Prop := a = 81 ∨ FLn b a f
theorem frC_LT (h : frC (FLn b) (RLn b) S S') : frC (FTx b) (RLn b) S S' := frC_mono h (fun _ _ q => .inr q) (fun _ q => q)
theorem frC_81T (h : frC (fun a _ => a = 81) R0 S S') : frC (FTx b) (RLn b) S S' := frC_mono h (fun _ _ q => .inl q) (fun _ q => absurd q (fun q => q))
theorem cR_nil (t0 : 0 ≤ jI S 1 1) (t1 : jI S 1 1 ≤ 600) (z : zS S) (a0 : 0 ≤ jI S 81 1) : cR S = [] ↔ jI S 1 1 ≤ jI S 81 1 := by
  have := gv_len (S := S) (l := 1) (f := 1) (a := 2) t0 (by rw [z2 z]; exact t1)
  unfold cR
  rw [List.drop_eq_nil_iff]
  omega
theorem c_has1 (h : jI S 1 1 ≤ jI S 81 1) : j_X0_hasLine S = some (0, S) := by
  unfold j_X0_hasLine j_X0_hasLine_0 j_X0_hasLine_19
  exact it h rfl
theorem c_has0 (h : ¬ jI S 1 1 ≤ jI S 81 1) : j_X0_hasLine S = some (1, S) := by
  unfold j_X0_hasLine j_X0_hasLine_0 j_X0_hasLine_19
  exact ie h rfl
theorem l6_end {b2 : Bool} {n : Nat} {l3 c : Int} (h : jI S 1 1 ≤ jI S 81 1) : j_X2_readText_38 b2 (n + 1) l3 c S = j_X2_readText_78 b2 l3 c S := by
  rw [j_X2_readText_38]
  by_cases h6 : 600 ≤ c
  · exact it h6 rfl
  · refine ie h6 ?_
    rw [c_has1 h, Option.bind_some]
    exact it rfl rfl
/-- all LINES of the class -/
theorem l6_tx {b2 : Bool} {l3 man : Int} : ∀ (k n : Nat) (S : iS) (G : gT) (ln c : Int), wC b S → cG b S G → (cR S ≠ [] → bdG G (cR S)) → wfG G → kdG G → jI S 80 2 = man → jI S 81 3 = ln → 1 ≤ ln → ln + k ≤ 100000 → (cR S).length ≤ k → 0 ≤ c → c + k ≤ 600 → k < n → (∃ G' c' S1, tx k man ln G (cR S) = some G' ∧ j_X2_readText_38 b2 n l3 c S = j_X2_readText_78 b2 l3 c' S1 ∧ frC (FTx b) (RLn b) S S1 ∧ zS S1 ∧ rk S1 (gadr b + 1) ∧ cG b S1 G' ∧ wfG G' ∧ kdG G') ∨ (tx k man ln G (cR S) = none ∧ ∃ S', j_X2_readText_38 b2 n l3 c S = some (0, S') ∧ frC (FTx b) (RLn b) S S' ∧ zF S') := by
  have hg := g_or b
  intro k
  induction k with
  | zero =>
    intro n S G ln c w hG hbd hw hk hm hln hl1 hlk hck h0 h6 hn
    obtain ⟨n, rfl⟩ : ∃ p, n = p + 1 := ⟨n - 1, by omega⟩
    have hnil : cR S = [] := List.eq_nil_of_length_eq_zero (by omega)
    rw [hnil, tx_nil]
    exact .inl ⟨G, c, S, rfl, l6_end ((cR_nil w.2.2.1.1 w.2.2.1.2 w.1 w.2.2.2.1.1).mp hnil), frC_refl, w.1, rk_sg w, hG, hw, hk⟩
  | succ k ih =>
    intro n S G ln c w hG hbd hw hk hm hln hl1 hlk hck h0 h6 hn
    obtain ⟨n, rfl⟩ : ∃ p, n = p + 2 := ⟨n - 2, by omega⟩
    have hcn := cR_nil w.2.2.1.1 w.2.2.1.2 w.1 w.2.2.2.1.1
    by_cases hnil : cR S = []
    · rw [hnil, tx_nil]
      exact .inl ⟨G, c, S, rfl, l6_end (hcn.mp hnil), frC_refl, w.1, rk_sg w, hG, hw, hk⟩
    · rw [tx, if_neg hnil]
      obtain ⟨x1, S1, e1, f1, r1⟩ := c_line w hG hm hln hl1 (hbd hnil) hw hk
      have hstep : ∀ X, (if ¬ x1 = (0 : Int) then ((j_X0_nextLine S1).bind fun qx3 => (if rg (c + (1 : Int)) then (j_X2_readText_38 b2 (n + 1) l3 (c + (1 : Int)) qx3) else none)) else (some ((0 : Int), S1))) = X → j_X2_readText_38 b2 (n + 2) l3 c S = X := by
        intro X hX
        rw [j_X2_readText_38]
        refine ie (by omega) ?_
        rw [c_has0 (fun q => hnil (hcn.mpr q)), Option.bind_some]
        refine ie (show ¬ (1 : Int) = 0 by decide) ?_
        dsimp only
        rw [e1, Option.bind_some]
        exact hX
      cases hq : liS man ln G (cR S) with
      | none =>
        rw [hq] at r1
        exact .inr ⟨rfl, S1, hstep _ (ie (nn r1.1) rfl), frC_LT f1, r1.2⟩
      | some q =>
        rw [hq] at r1
        obtain ⟨rfl, w1, g1, c1⟩ := r1
        obtain ⟨le1, _, wf1, bd1⟩ := liS_le hq (hbd hnil) hw
        have kd1 := liS_kd hq hk
        have n1 : jI S1 81 3 = ln := by rw [f1.1 81 3 (by omega), hln]
        have m1 : jI S1 80 2 = man := by rw [f1.1 80 2 (by omega), hm]
        rw [Option.bind_some]
        by_cases hat : jI S1 81 1 < 600
        · obtain ⟨S2, e2, hS2, w2, c2, i2, a2⟩ := c_step w1 hat
          have n2 : jI S2 81 3 = ln := by rw [hS2, jI_ne (.inr (by decide)), jI_ne (.inr (by decide)), n1]
          have p2 := w2.2.2.2.1
          have fx : frC (fun a _ => a = 81) R0 S1 (kI (kI S2 81 3 (ln + 1)) 81 4 (jI S2 81 1)) := by
            rw [hS2]
            exact frC_trans (frC_kI rfl) (frC_trans (frC_kI rfl) (frC_trans (frC_kI rfl) (frC_kI rfl)))
          have w3 : wC b (kI (kI S2 81 3 (ln + 1)) 81 4 (jI S2 81 1)) ∧ cR (kI (kI S2 81 3 (ln + 1)) 81 4 (jI S2 81 1)) = cR S2 := by
            have hc : cR (kI (kI S2 81 3 (ln + 1)) 81 4 (jI S2 81 1)) = cR S2 := rfl
            obtain ⟨z, hp, t, a, hn', l, s⟩ := w2
            exact ⟨⟨z, hp, t, a, hn', ⟨a.1, by have := a.2; show jI S2 81 1 ≤ 700; omega⟩, by rw [hc, jI_ne (.inl (by omega)), jI_ne (.inl (by omega))]; exact s⟩, hc⟩
          have e3 : j_X0_nextLine S1 = some (kI (kI S2 81 3 (ln + 1)) 81 4 (jI S2 81 1)) := by
            unfold j_X0_nextLine j_X0_nextLine_0
            rw [e2, Option.bind_some, n2]
            exact it ⟨by omega, by omega⟩ rfl
          have g3 := cG_81 g1 fx
          have m3 : jI (kI (kI S2 81 3 (ln + 1)) 81 4 (jI S2 81 1)) 80 2 = man := by rw [fx.1 80 2 (by decide), m1]
          have n3 : jI (kI (kI S2 81 3 (ln + 1)) 81 4 (jI S2 81 1)) 81 3 = ln + 1 := by rw [jI_ne (.inr (by decide)), jI_eq]
          generalize kI (kI S2 81 3 (ln + 1)) 81 4 (jI S2 81 1) = T at *
          have cT : cR T = q.2.tail := by rw [w3.2, c2, c1]
          have hlt : q.2.tail.length ≤ k := by
            have := tl_le q.2
            cases hq2 : q.2 with
            | nil => exact Nat.zero_le _
            | cons y ys => rw [hq2, List.length_cons] at le1; show ys.length ≤ k; omega
          have hst2 : j_X2_readText_38 b2 (n + 2) l3 c S = j_X2_readText_38 b2 (n + 1) l3 (c + 1) T := by
            refine hstep _ (it (by decide) ?_)
            rw [e3, Option.bind_some]
            exact it ⟨by omega, by omega⟩ rfl
          have gT1 := frC_trans (frC_LT f1) (frC_81T (b := b) fx)
          rcases ih (n + 1) T q.1 (ln + 1) (c + 1) w3.1 g3 (by rw [cT]; exact bd1) wf1 kd1 m3 n3 (by omega) (by omega) (by rw [cT]; exact hlt) (by omega) (by omega) (by omega) with ⟨G', c', S4, t4, e4, f4, z4, h4⟩ | ⟨t4, S4, e4, f4, z4⟩
          · rw [cT] at t4
            exact .inl ⟨G', c', S4, t4, hst2.trans e4, frC_trans gT1 f4, z4, h4⟩
          · rw [cT] at t4
            exact .inr ⟨t4, S4, hst2.trans e4, frC_trans gT1 f4, z4⟩
        · have hb1 := w1.2.2.2.1
          have hb2 := w1.2.2.1
          have hnil1 : q.2 = [] := by rw [← c1]; exact (cR_nil w1.2.2.1.1 w1.2.2.1.2 w1.1 w1.2.2.2.1.1).mpr (by omega)
          rw [hnil1, List.tail_nil, tx_nil]
          have e2 := e0_step w1.1 (show rg (jI S1 81 1 + 1) from ⟨by omega, by omega⟩)
          have fx : frC (fun a _ => a = 81) R0 S1 (kI (kI (kI (kI S1 81 1 (jI S1 81 1 + 1)) 81 2 (tbv S1 (jI S1 81 1 + 1))) 81 3 (ln + 1)) 81 4 (jI S1 81 1 + 1)) := frC_trans (frC_kI rfl) (frC_trans (frC_kI rfl) (frC_trans (frC_kI rfl) (frC_kI rfl)))
          have e3 : j_X0_nextLine S1 = some (kI (kI (kI (kI S1 81 1 (jI S1 81 1 + 1)) 81 2 (tbv S1 (jI S1 81 1 + 1))) 81 3 (ln + 1)) 81 4 (jI S1 81 1 + 1)) := by
            unfold j_X0_nextLine j_X0_nextLine_0
            rw [e2, Option.bind_some, show jI (kI (kI S1 81 1 (jI S1 81 1 + 1)) 81 2 (tbv S1 (jI S1 81 1 + 1))) 81 3 = ln by rw [jI_ne (.inr (by decide)), jI_ne (.inr (by decide)), n1]]
            refine it ⟨by omega, by omega⟩ ?_
            rw [show jI (kI (kI S1 81 1 (jI S1 81 1 + 1)) 81 2 (tbv S1 (jI S1 81 1 + 1))) 81 1 = jI S1 81 1 + 1 by rw [jI_ne (.inr (by decide)), jI_eq]]
          have g3 := cG_81 g1 fx
          have i1 : jI (kI (kI (kI (kI S1 81 1 (jI S1 81 1 + 1)) 81 2 (tbv S1 (jI S1 81 1 + 1))) 81 3 (ln + 1)) 81 4 (jI S1 81 1 + 1)) 1 1 = jI S1 1 1 := fx.1 1 1 (by decide)
          have i2 : jI (kI (kI (kI (kI S1 81 1 (jI S1 81 1 + 1)) 81 2 (tbv S1 (jI S1 81 1 + 1))) 81 3 (ln + 1)) 81 4 (jI S1 81 1 + 1)) 81 1 = jI S1 81 1 + 1 := by rw [jI_ne (.inr (by decide)), jI_ne (.inr (by decide)), jI_ne (.inr (by decide)), jI_eq]
          have zT : zS (kI (kI (kI (kI S1 81 1 (jI S1 81 1 + 1)) 81 2 (tbv S1 (jI S1 81 1 + 1))) 81 3 (ln + 1)) 81 4 (jI S1 81 1 + 1)) := w1.1
          generalize kI (kI (kI (kI S1 81 1 (jI S1 81 1 + 1)) 81 2 (tbv S1 (jI S1 81 1 + 1))) 81 3 (ln + 1)) 81 4 (jI S1 81 1 + 1) = T at *
          refine .inl ⟨q.1, c + 1, T, rfl, hstep _ (it (by decide) ?_), frC_trans (frC_LT f1) (frC_81T fx), zT, rk_eq (rk_sg w1) (fx.1 _ _ (by omega)) (fx.2.1 _ (fun q => q)), g3, wf1, kd1⟩
          rw [e3, Option.bind_some]
          exact it ⟨by omega, by omega⟩ (l6_end (by omega))
end CTX
