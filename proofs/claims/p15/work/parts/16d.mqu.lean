section MQU
variable {S S' : iS} {ns : List Int}
theorem q7_quit {n : Nat} {l1 : Int} (h : l1 = 0 ∨ ¬ jI S 82 30 = 0) : j_X7_readQuoted_2 (n + 1) l1 S = some S := by
  rw [j_X7_readQuoted_2]
  unfold j_X7_readQuoted_173
  by_cases h1 : l1 = 0
  · exact it h1 rfl
  · exact ie h1 (it (h.resolve_left h1) rfl)
theorem quK_np {k : Nat} {r : List Int} (h : ¬ isPrn (hd r)) : quK k r = none := by
  cases k with
  | zero => rw [quK, if_neg (by omega)]
  | succ k => rw [quK, if_neg (by omega), if_pos h]
theorem quK_q {k : Nat} {r : List Int} (h : hd r = 34) : quK k r = some ([], r.tail) := by
  cases k with
  | zero => rw [quK, if_pos h]
  | succ k => rw [quK, if_pos h]
theorem q7_44 {n : Nat} {l1 l2 : Int} (hf : jI S 82 30 = 0) (h3 : 0 ≤ jI S 82 27) (h4 : jI S 82 27 ≤ 1000) : j_X7_readQuoted_44 (fun l1' S' => j_X7_readQuoted_2 (n + 1) l1' S') l1 l2 S = some (kI (kI (kI S 82 30 1) 82 31 (jI S 82 27)) 82 27 (jI S 82 27 + 1)) := by
  unfold j_X7_readQuoted_44 j_X7_readQuoted_160
  rw [e7_wrong0 hf, Option.bind_some]
  exact it (show rg (jI S 82 27 + 1) from ⟨by omega, by omega⟩) (q7_quit (.inr (show ¬ (1 : Int) = 0 by decide)))
theorem l7_quo : ∀ (k n : Nat) (S : iS) (ns : List Int), uM S → nmd S ns → ns.length + k = 8 → k + 2 < n → ∃ S', j_X7_readQuoted_2 n 1 S = some S' ∧ fr FN RN S S' ∧ (∃ ms, nmd S' ms) ∧ rs (if ns = [] ∧ hd (mRs S) = 34 then none else quK k (mRs S)) S' (fun q => nmd S' (ns ++ q.1) ∧ mRs S' = q.2) := by
  intro k
  induction k with
  | zero =>
    intro n S ns u hn hk hm
    obtain ⟨m, rfl⟩ : ∃ m, n = m + 2 := ⟨n - 2, by omega⟩
    have a1 := u.1.2.2.1
    have a2 := u.1.2.2.2.1
    have a3 := u.2.2
    have hne : ns ≠ [] := by intro q; rw [q] at hk; exact absurd hk (by decide)
    obtain ⟨l, el, ll, tl⟩ := hn
    rw [j_X7_readQuoted_2]
    by_cases hp : isPrn (hd (mRs S))
    · have hlt := uM_lt u (by omega)
      by_cases hq : hd (mRs S) = 34
      · refine ⟨kI S 82 27 (jI S 82 27 + 1), ?_, fr_kI (by omega), ⟨ns, l, el, ll, tl⟩, ?_⟩
        · refine ie (by decide) (ie (nn u.2.1) ?_)
          rw [e7_here u.1, Option.bind_some, e_in, Option.bind_some]
          refine ie (bi_n hp) (ie (nn hq) (it (by rw [el, List.length_cons]; omega) (it (by rw [el, List.getD_cons_zero]; omega) ?_)))
          unfold j_X7_readQuoted_56 j_X7_readQuoted_160
          exact ie (nn hq) (it (show rg (jI S 82 27 + 1) from ⟨by omega, by omega⟩) (q7_quit (.inl rfl)))
        · rw [if_neg (fun q => hne q.1), quK_q hq]
          exact ⟨uM_step u (by omega), by rw [List.append_nil]; exact ⟨l, el, ll, tl⟩, mRs_step u.1⟩
      · refine ⟨kI (kI (kI S 82 30 2) 82 31 (jI S 82 27)) 82 27 (jI S 82 27 + 1), ?_, fr_trans (fr_w (by omega) (by omega)) (fr_kI (by omega)), ⟨ns, l, el, ll, tl⟩, ?_⟩
        · refine ie (by decide) (ie (nn u.2.1) ?_)
          rw [e7_here u.1, Option.bind_some, e_in, Option.bind_some]
          refine ie (bi_n hp) (it hq ?_)
          unfold j_X7_readQuoted_56 j_X7_readQuoted_160
          refine it hq (it (by show 0 < (jA S 103).length; rw [el, List.length_cons]; omega) (ie (nn (by show (jA S 103).getD 0 0 = 8; rw [el, List.getD_cons_zero]; omega)) ?_))
          rw [e7_wrong0 u.2.1, Option.bind_some]
          exact it (show rg (jI S 82 27 + 1) from ⟨by omega, by omega⟩) (q7_quit (.inr (show ¬ (2 : Int) = 0 by decide)))
        · rw [if_neg (fun q => hne q.1), quK, if_neg hq]
          exact vM_w u.1 (by decide) (by omega) (by omega) (by omega) (by omega)
    · refine ⟨kI (kI (kI S 82 30 1) 82 31 (jI S 82 27)) 82 27 (jI S 82 27 + 1), ?_, fr_trans (fr_w (by omega) (by omega)) (fr_kI (by omega)), ⟨ns, l, el, ll, tl⟩, ?_⟩
      · refine ie (by decide) (ie (nn u.2.1) ?_)
        rw [e7_here u.1, Option.bind_some, e_in, Option.bind_some]
        exact it (bi_0.mpr hp) (q7_44 (S := S) u.2.1 (by omega) (by omega))
      · rw [if_neg (fun q => hne q.1), quK_np hp]
        exact vM_w u.1 (by decide) (by omega) (by omega) (by omega) (by omega)
  | succ k ih =>
    intro n S ns u hn hk hm
    obtain ⟨m, rfl⟩ : ∃ m, n = m + 2 := ⟨n - 2, by omega⟩
    have a1 := u.1.2.2.1
    have a2 := u.1.2.2.2.1
    have a3 := u.2.2
    have hn' := hn
    obtain ⟨l, el, ll, tl⟩ := hn'
    by_cases hp : isPrn (hd (mRs S))
    · have hlt := uM_lt u (by omega)
      by_cases hq : hd (mRs S) = 34
      · by_cases hne : ns = []
        · refine ⟨kI (kI (kI S 82 30 1) 82 31 (jI S 82 27)) 82 27 (jI S 82 27 + 1), ?_, fr_trans (fr_w (by omega) (by omega)) (fr_kI (by omega)), ⟨ns, l, el, ll, tl⟩, ?_⟩
          · rw [j_X7_readQuoted_2]
            refine ie (by decide) (ie (nn u.2.1) ?_)
            rw [e7_here u.1, Option.bind_some, e_in, Option.bind_some]
            refine ie (bi_n hp) (ie (nn hq) (it (by rw [el, List.length_cons]; omega) (ie (nn (by rw [el, List.getD_cons_zero, hne]; rfl)) (q7_44 (S := S) u.2.1 (by omega) (by omega)))))
          · rw [if_pos ⟨hne, hq⟩]
            exact vM_w u.1 (by decide) (by omega) (by omega) (by omega) (by omega)
        · have hn0 : ¬ (ns.length : Int) = 0 := by
            intro q
            exact hne (List.eq_nil_of_length_eq_zero (by omega))
          refine ⟨kI S 82 27 (jI S 82 27 + 1), ?_, fr_kI (by omega), ⟨ns, l, el, ll, tl⟩, ?_⟩
          · rw [j_X7_readQuoted_2]
            refine ie (by decide) (ie (nn u.2.1) ?_)
            rw [e7_here u.1, Option.bind_some, e_in, Option.bind_some]
            refine ie (bi_n hp) (ie (nn hq) (it (by rw [el, List.length_cons]; omega) (it (by rw [el, List.getD_cons_zero]; exact hn0) ?_)))
            unfold j_X7_readQuoted_56 j_X7_readQuoted_160
            exact ie (nn hq) (it (show rg (jI S 82 27 + 1) from ⟨by omega, by omega⟩) (q7_quit (.inl rfl)))
          · rw [if_neg (fun q => hne q.1), quK_q hq]
            exact ⟨uM_step u (by omega), by rw [List.append_nil]; exact ⟨l, el, ll, tl⟩, mRs_step u.1⟩
      · have hsp : (if ns = [] ∧ hd (mRs S) = 34 then none else quK (k + 1) (mRs S)) = quK (k + 1) (mRs S) := if_neg (fun q => hq q.2)
        have h56 : ∀ X, j_X7_readQuoted_56 (fun l1' S' => j_X7_readQuoted_2 (m + 1) l1' S') 1 (hd (mRs S)) S = X → j_X7_readQuoted_2 (m + 2) 1 S = X := by
          intro X hX
          rw [j_X7_readQuoted_2]
          refine ie (by decide) (ie (nn u.2.1) ?_)
          rw [e7_here u.1, Option.bind_some, e_in, Option.bind_some]
          exact ie (bi_n hp) (it hq hX)
        rw [hsp, quK, if_neg hq, if_neg (nn hp)]
        by_cases hb : hd (mRs S) = 92
        · have u1 := uM_step u (by omega)
          have m1 := mRs_step u.1
          have i27 : jI (kI S 82 27 (jI S 82 27 + 1)) 82 27 = jI S 82 27 + 1 := jI_eq
          rw [if_pos hb]
          by_cases hc : hd (mRs S).tail = 34 ∨ hd (mRs S).tail = 92
          · have hn1 : nmd (kI S 82 27 (jI S 82 27 + 1)) ns := hn
            obtain ⟨l', e1, n1, l1⟩ := e7_sign (c := hd (mRs S).tail) (p := jI S 82 27 + 1) u1.1.1 hn1 (by omega)
            have z1 : zS (kA (kI S 82 27 (jI S 82 27 + 1)) 103 l') := zS_kA u1.1.1 l1
            have u2 : uM (kA (kI S 82 27 (jI S 82 27 + 1)) 103 l') := uM_fr u1 (F := fun _ => False) (R := RN) (fr_kA rfl) z1 (fun q => q) (fun q => q) (fun q => q)
            have m2 : mRs (kA (kI S 82 27 (jI S 82 27 + 1)) 103 l') = (mRs S).tail := (mRs_fr (F := fun _ => False) (R := RN) (fr_kA rfl) (fun q => q) (fun q => q) (by decide)).trans m1
            have u3 := uM_step u2 (by rw [m2]; omega)
            have m3 := mRs_step u2.1
            rw [m2] at m3
            obtain ⟨S', e2, f2, n2, r2⟩ := ih (m + 1) _ (ns ++ [hd (mRs S).tail]) u3 n1 (by rw [List.length_append, List.length_singleton]; omega) (by omega)
            have h124 : j_X7_readQuoted_124 (fun l1' S' => j_X7_readQuoted_2 (m + 1) l1' S') 1 (hd (mRs S)) (kI S 82 27 (jI S 82 27 + 1)) = some S' := by
              unfold j_X7_readQuoted_124 j_X7_readQuoted_160
              rw [e7_here u1.1, Option.bind_some, m1]
              dsimp only
              rw [i27, e1, Option.bind_some]
              exact it (show rg (jI S 82 27 + 1 + 1) from ⟨by omega, by omega⟩) e2
            refine ⟨S', h56 _ ?_, fr_trans (fr_kI (by omega)) (fr_trans (fr_kA rfl) (fr_trans (fr_kI (by omega)) f2)), n2, ?_⟩
            · unfold j_X7_readQuoted_56
              refine it hq (it (by rw [el, List.length_cons]; omega) (it (by rw [el, List.getD_cons_zero]; omega) (ie (nn hb) (it ⟨by omega, by omega⟩ ?_))))
              rw [e7_here u1.1, Option.bind_some, m1]
              by_cases h34 : hd (mRs S).tail = 34
              · exact it h34 h124
              · refine ie h34 ?_
                dsimp only
                rw [e7_here u1.1, Option.bind_some, m1]
                exact ie (nn (hc.resolve_left h34)) h124
            · rw [m3, if_neg (by intro q; exact absurd (congrArg List.length q.1) (by rw [List.length_append, List.length_singleton]; exact Nat.succ_ne_zero _))] at r2
              rw [if_pos hc]
              refine rs_map (rs_mono r2 fun v _ hv => ?_)
              rw [List.append_assoc] at hv
              exact hv
          · rw [if_neg hc]
            refine ⟨kI (kI (kI (kI S 82 27 (jI S 82 27 + 1)) 82 30 1) 82 31 (jI S 82 27 + 1)) 82 27 (jI S 82 27 + 1 + 1), h56 _ ?_, fr_trans (fr_kI (by omega)) (fr_trans (fr_w (by omega) (by omega)) (fr_kI (by omega))), ⟨ns, hn⟩, ?_⟩
            · unfold j_X7_readQuoted_56 j_X7_readQuoted_160
              refine it hq (it (by rw [el, List.length_cons]; omega) (it (by rw [el, List.getD_cons_zero]; omega) (ie (nn hb) (it ⟨by omega, by omega⟩ ?_))))
              rw [e7_here u1.1, Option.bind_some, m1]
              refine ie (fun q => hc (.inl q)) ?_
              dsimp only
              rw [e7_here u1.1, Option.bind_some, m1]
              refine it (fun q => hc (.inr q)) ?_
              dsimp only
              rw [e7_wrong0 u1.2.1, Option.bind_some]
              exact it (show rg (jI S 82 27 + 1 + 1) from ⟨by omega, by omega⟩) (q7_quit (.inr (show ¬ (1 : Int) = 0 by decide)))
            · exact vM_w u1.1 (by decide) (by omega) (by omega) (by omega) (by omega)
        · rw [if_neg hb]
          obtain ⟨l', e1, n1, l1⟩ := e7_sign (c := hd (mRs S)) (p := jI S 82 27) u.1.1 hn (by omega)
          have z1 : zS (kA S 103 l') := zS_kA u.1.1 l1
          have u1 : uM (kA S 103 l') := uM_fr u (F := fun _ => False) (R := RN) (fr_kA rfl) z1 (fun q => q) (fun q => q) (fun q => q)
          have m1 : mRs (kA S 103 l') = mRs S := mRs_fr (F := fun _ => False) (R := RN) (fr_kA rfl) (fun q => q) (fun q => q) (by decide)
          have u2 := uM_step u1 (by rw [m1]; omega)
          have m2 := mRs_step u1.1
          rw [m1] at m2
          obtain ⟨S', e2, f2, n2, r2⟩ := ih (m + 1) _ (ns ++ [hd (mRs S)]) u2 n1 (by rw [List.length_append, List.length_singleton]; omega) (by omega)
          refine ⟨S', h56 _ ?_, fr_trans (fr_kA rfl) (fr_trans (fr_kI (by omega)) f2), n2, ?_⟩
          · unfold j_X7_readQuoted_56 j_X7_readQuoted_160
            refine it hq (it (by rw [el, List.length_cons]; omega) (it (by rw [el, List.getD_cons_zero]; omega) (it hb ?_)))
            rw [e1, Option.bind_some]
            exact it (show rg (jI S 82 27 + 1) from ⟨by omega, by omega⟩) e2
          · rw [m2, if_neg (by intro q; exact absurd (congrArg List.length q.1) (by rw [List.length_append, List.length_singleton]; exact Nat.succ_ne_zero _))] at r2
            refine rs_map (rs_mono r2 fun v _ hv => ?_)
            rw [List.append_assoc] at hv
            exact hv
    · have hq : ¬ (ns = [] ∧ hd (mRs S) = 34) := by omega
      refine ⟨kI (kI (kI S 82 30 1) 82 31 (jI S 82 27)) 82 27 (jI S 82 27 + 1), ?_, fr_trans (fr_w (by omega) (by omega)) (fr_kI (by omega)), ⟨ns, l, el, ll, tl⟩, ?_⟩
      · rw [j_X7_readQuoted_2]
        refine ie (by decide) (ie (nn u.2.1) ?_)
        rw [e7_here u.1, Option.bind_some, e_in, Option.bind_some]
        exact it (bi_0.mpr hp) (q7_44 (S := S) u.2.1 (by omega) (by omega))
      · rw [if_neg hq, quK_np hp]
        exact vM_w u.1 (by decide) (by omega) (by omega) (by omega) (by omega)
/-- the model's NAMES -/
theorem e7_name (u : uM S) : ∃ S', j_X7_readName S = some S' ∧ fr FN RN S S' ∧ (∃ ms, nmd S' ms) ∧ rs (enE (nmS (mRs S))) S' (fun q => nmd S' q.1 ∧ mRs S' = q.2) := by
  have l9 : (jA S 103).length = 9 := u.1.1 103
  have a1 := u.1.2.2.1
  have a2 := u.1.2.2.2.1
  have a3 := u.2.2
  obtain ⟨x, l, el⟩ : ∃ x l, jA S 103 = x :: l := by
    cases e : jA S 103 with
    | nil => rw [e] at l9; cases l9
    | cons x l => exact ⟨x, l, rfl⟩
  rw [el, List.length_cons] at l9
  have n0 : nmd (kA S 103 ((jA S 103).set 0 0)) [] := ⟨l, by rw [jA_eq, el]; rfl, by omega, rfl⟩
  have z0 : zS (kA S 103 ((jA S 103).set 0 0)) := zS_set u.1.1
  have u0 : uM (kA S 103 ((jA S 103).set 0 0)) := uM_fr u (F := fun _ => False) (R := RN) (fr_kA rfl) z0 (fun q => q) (fun q => q) (fun q => q)
  have m0 : mRs (kA S 103 ((jA S 103).set 0 0)) = mRs S := mRs_fr (F := fun _ => False) (R := RN) (fr_kA rfl) (fun q => q) (fun q => q) (by decide)
  have f0 : fr FN RN S (kA S 103 ((jA S 103).set 0 0)) := fr_kA rfl
  unfold j_X7_readName j_X7_readName_0
  rw [show (if 0 < (jA S 103).length then ((j_X7_here (kA S 103 ((jA S 103).set 0 (0 : Int)))).bind fun qx1 => (if ¬ qx1.1 = (34 : Int) then ((j_X7_here qx1.2).bind fun qx2 => ((j_X7_isPlain qx2.1 qx2.2).bind fun qx3 => (if ¬ qx3.1 = (0 : Int) then (j_X7_readName_55 fuel qx3.2) else ((j_X7_wrong (1 : Int) (jI qx3.2 82 27) qx3.2).bind fun qx4 => (j_X7_readName_97 qx4))))) else (if rg ((jI qx1.2 82 27) + (1 : Int)) then ((j_X7_readQuoted (kI qx1.2 82 27 ((jI qx1.2 82 27) + (1 : Int)))).bind fun qx5 => (j_X7_readName_97 qx5)) else none))) else none) = ((j_X7_here (kA S 103 ((jA S 103).set 0 (0 : Int)))).bind fun qx1 => (if ¬ qx1.1 = (34 : Int) then ((j_X7_here qx1.2).bind fun qx2 => ((j_X7_isPlain qx2.1 qx2.2).bind fun qx3 => (if ¬ qx3.1 = (0 : Int) then (j_X7_readName_55 fuel qx3.2) else ((j_X7_wrong (1 : Int) (jI qx3.2 82 27) qx3.2).bind fun qx4 => (j_X7_readName_97 qx4))))) else (if rg ((jI qx1.2 82 27) + (1 : Int)) then ((j_X7_readQuoted (kI qx1.2 82 27 ((jI qx1.2 82 27) + (1 : Int)))).bind fun qx5 => (j_X7_readName_97 qx5)) else none))) from it (by rw [el, List.length_cons]; omega) rfl]
  generalize kA S 103 ((jA S 103).set 0 0) = T at *
  rw [← m0]
  have b1 := u0.1.2.2.1
  have b2 := u0.1.2.2.2.1
  have b3 := u0.2.2
  rw [e7_here u0.1, Option.bind_some]
  by_cases hq : hd (mRs T) = 34
  · have hlt := uM_lt u0 (by omega)
    have u1 := uM_step u0 (by omega)
    have m1 := mRs_step u0.1
    obtain ⟨S1, e1, f1, n1, r1⟩ := l7_quo 8 fuel _ [] u1 n0 (by decide) (by unfold fuel; decide)
    rw [m1] at r1
    rw [nmS, if_pos hq]
    have key : ∀ X, (j_X7_readName_97 S1 = X) → (if ¬ hd (mRs T) = (34 : Int) then ((j_X7_here T).bind fun qx2 => ((j_X7_isPlain qx2.1 qx2.2).bind fun qx3 => (if ¬ qx3.1 = (0 : Int) then (j_X7_readName_55 fuel qx3.2) else ((j_X7_wrong (1 : Int) (jI qx3.2 82 27) qx3.2).bind fun qx4 => (j_X7_readName_97 qx4))))) else (if rg ((jI T 82 27) + (1 : Int)) then ((j_X7_readQuoted (kI T 82 27 ((jI T 82 27) + (1 : Int)))).bind fun qx5 => (j_X7_readName_97 qx5)) else none)) = X := by
      intro X hX
      refine ie (nn hq) (it ⟨by omega, by omega⟩ ?_)
      unfold j_X7_readQuoted j_X7_readQuoted_0
      rw [e1, Option.bind_some]
      exact hX
    generalize ho : (if ([] : List Int) = [] ∧ hd (mRs T).tail = 34 then none else quK 8 (mRs T).tail) = o at r1
    have ho' : (if hd (mRs T).tail = 34 then none else quK 8 (mRs T).tail) = o := by
      rw [← ho]
      by_cases h : hd (mRs T).tail = 34
      · rw [if_pos h, if_pos ⟨rfl, h⟩]
      · rw [if_neg h, if_neg (fun q => h q.2)]
    rw [ho']
    cases o with
    | none =>
      refine ⟨S1, key _ ?_, fr_trans f0 (fr_trans (fr_kI (by omega)) f1), n1, r1⟩
      unfold j_X7_readName_97
      rw [e7_endedF r1.2.1]
      rfl
    | some q =>
      obtain ⟨u2, nq, mq⟩ := r1
      obtain ⟨S2, e2, f2, g2, r2⟩ := e7_ended u2
      refine ⟨S2, key _ ?_, fr_trans f0 (fr_trans (fr_kI (by omega)) (fr_trans f1 f2)), ⟨q.1, by unfold nmd; rw [g2]; exact nq⟩, ?_⟩
      · unfold j_X7_readName_97
        rw [e2]
        rfl
      · show rs (if isE q.2 then some q else none) S2 _
        rw [mq] at r2
        by_cases hE : isE q.2
        · rw [if_pos hE] at r2 ⊢
          obtain ⟨r3, r4⟩ := r2
          exact ⟨r3, by rw [r4]; exact nq, by rw [r4]; exact mq⟩
        · rw [if_neg hE] at r2 ⊢
          exact r2
  · rw [nmS, if_neg hq]
    by_cases hp : isPln (hd (mRs T))
    · rw [if_pos hp]
      obtain ⟨S1, e1, f1, n1, r1⟩ := l7_plain 8 fuel T [] u0 n0 (by decide) (by unfold fuel; decide)
      refine ⟨S1, it hq ?_, fr_trans f0 f1, n1, r1⟩
      dsimp only
      rw [e7_here u0.1, Option.bind_some, e7_pln, Option.bind_some]
      exact it (bi_n hp) e1
    · rw [if_neg hp]
      refine ⟨kI (kI T 82 30 1) 82 31 (jI T 82 27), it hq ?_, fr_trans f0 (fr_w (by omega) (by omega)), ⟨[], n0⟩, vM_w' u0.1 (by decide) (by omega) (by omega) (by omega)⟩
      dsimp only
      rw [e7_here u0.1, Option.bind_some, e7_pln, Option.bind_some]
      refine ie (nn (bi_0.mpr hp)) ?_
      rw [e7_wrong0 u0.2.1, Option.bind_some]
      unfold j_X7_readName_97
      rw [e7_endedF (S := kI (kI T 82 30 1) 82 31 (jI T 82 27)) (show ¬ (1 : Int) = 0 by decide)]
      rfl
end MQU
