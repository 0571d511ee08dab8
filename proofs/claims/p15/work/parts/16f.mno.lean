section MNO
variable {S S' : iS} {ns : List Int}
/-- readDecimals: behind the figures a point is at hand -/
theorem e7_decs (u : uM S) (hn : nmd S ns) (hl : ns.length ≤ 4) (hp : hd (mRs S) = 46) (t0 : 0 ≤ jI S 82 34) (t1 : jI S 82 34 ≤ 999999000) : ∃ S', j_X7_readDecimals S = some S' ∧ fr FD RN S S' ∧ (∃ ms, nmd S' ms) ∧ rg (-(jI S' 82 34)) ∧ rs (if isFig (hd (mRs S).tail) then fgK 3 (mRs S).tail else none) S' (fun q => nmd S' (ns ++ 46 :: q.1) ∧ mRs S' = q.2 ∧ jI S' 82 34 = jI S 82 34 + cbD 3 q.1 ∧ jI S' 82 33 = 2) := by
  have a1 := u.1.2.2.1
  have a2 := u.1.2.2.2.1
  have a3 := u.2.2
  obtain ⟨u1, m1⟩ := uM_D u (f := 33) (v := 2) (.inl rfl)
  obtain ⟨T, e1, ⟨l, hT⟩, u2, m2, n2, i2, u3, m3⟩ := u7_sign (c := 46) (p := jI S 82 27) u1 (ns := ns) hn (by omega) (by rw [m1]; omega)
  rw [m1] at m3
  have i34 : jI (kI T 82 27 (jI S 82 27 + 1)) 82 34 = jI S 82 34 := by subst hT; rfl
  have i33 : jI (kI T 82 27 (jI S 82 27 + 1)) 82 33 = 2 := by subst hT; rfl
  have i27 : jI T 82 27 = jI S 82 27 := i2
  have f1 : fr FD RN S (kI T 82 27 (jI S 82 27 + 1)) := by
    subst hT
    exact fr_trans (fr_kI (by omega)) (fr_trans (fr_kA rfl) (fr_kI (by omega)))
  have u3' : uM (kI T 82 27 (jI S 82 27 + 1)) := u3
  have m3' : mRs (kI T 82 27 (jI S 82 27 + 1)) = (mRs S).tail := m3
  have n3 : nmd (kI T 82 27 (jI S 82 27 + 1)) (ns ++ [46]) := n2
  have hat : jI (kI T 82 27 (jI S 82 27 + 1)) 82 27 = jI S 82 27 + 1 := jI_eq
  have hlt := uM_lt u (by omega)
  have key : ∀ X, ((j_X7_here (kI T 82 27 (jI S 82 27 + 1))).bind fun qx2 => ((j_X7_isFigure qx2.1 qx2.2).bind fun qx3 => (if ¬ qx3.1 = (0 : Int) then (j_X7_readDecimals_47 fuel (100 : Int) qx3.2) else ((j_X7_wrong (1 : Int) (jI qx3.2 82 27) qx3.2).bind fun qx4 => (j_X7_readDecimals_47 fuel (100 : Int) qx4))))) = X → j_X7_readDecimals S = X := by
    intro X hX
    unfold j_X7_readDecimals j_X7_readDecimals_0
    rw [e1, Option.bind_some, i27]
    exact it ⟨by omega, by omega⟩ hX
  generalize kI T 82 27 (jI S 82 27 + 1) = V at *
  by_cases h : isFig (hd (mRs S).tail)
  · rw [if_pos h]
    obtain ⟨S', e3, f3, n4, g3, r3⟩ := l7_dec 3 fuel V (ns ++ [46]) (by omega) u3' n3 (by rw [List.length_append, List.length_singleton]; omega) (by unfold fuel; omega) (by omega) (by omega)
    refine ⟨S', key _ ?_, fr_trans f1 f3, n4, g3, ?_⟩
    · rw [e7_here u3'.1, Option.bind_some, e7_fig, Option.bind_some, m3']
      exact it (bi_n h) e3
    · rw [m3'] at r3
      refine rs_mono r3 fun v _ hv => ?_
      obtain ⟨v1, v2, v3, v4⟩ := hv
      rw [List.append_assoc] at v1
      exact ⟨v1, v2, by rw [v3, i34], by rw [v4, i33]⟩
  · rw [if_neg h]
    refine ⟨kI (kI V 82 30 1) 82 31 (jI V 82 27), key _ ?_, fr_trans f1 (fr_w (by omega) (by omega)), ⟨_, n3⟩, ?_, vM_w' u3'.1 (by decide) (by omega) (by omega) (by omega)⟩
    · rw [e7_here u3'.1, Option.bind_some, e7_fig, Option.bind_some, m3']
      refine ie (nn (bi_0.mpr h)) ?_
      dsimp only
      rw [e7_wrong0 u3'.2.1, Option.bind_some, show fuel = 19999 + 1 from rfl, j_X7_readDecimals_47]
      exact it (show ¬ (1 : Int) = 0 by decide) rfl
    · show rg (-(jI V 82 34))
      exact ⟨by omega, by omega⟩
theorem vM_D (v : vM S) {f : Nat} {x : Int} (hf : f = 33 ∨ f = 34) : vM (kI S 82 f x) := by
  obtain ⟨⟨z, h1, h2, h3, h4⟩, h5, h6, h7, h8, h9, h10⟩ := v
  have e : ∀ g, g ≠ f → jI (kI S 82 f x) 82 g = jI S 82 g := fun g hg => jI_ne (.inr hg)
  refine ⟨⟨z, ?_, ?_, ?_, ?_⟩, ?_, ?_, ?_, ?_, ?_, ?_⟩
  all_goals rw [e _ (by omega)]; assumption
/-- the end of readNumber: the sign, and the WORD's end -/
theorem e7_298 (w : uM S ∨ vM S) {l1 l2 l3 l4 l5 : Int} (hr : rg (-(jI S 82 34))) : ∃ S', j_X7_readNumber_281 l1 l2 l3 l4 l5 S = some S' ∧ fr FD RN S S' ∧ jA S' = jA S ∧ (vM S → vM S') ∧ (uM S → rs (if isE (mRs S) then some () else none) S' (fun _ => mRs S' = mRs S ∧ jI S' 82 33 = jI S 82 33 ∧ jI S' 82 34 = (if l2 = 0 then 1 else -1) * jI S 82 34)) := by
  have key : ∀ x, ∃ S', j_X7_readNumber_298 l1 l2 l3 l4 l5 x S = some S' ∧ fr FD RN S S' ∧ jA S' = jA S ∧ (vM S → vM S') ∧ (uM S → rs (if isE (mRs S) then some () else none) S' (fun _ => mRs S' = mRs S ∧ jI S' 82 33 = jI S 82 33 ∧ jI S' 82 34 = x)) := by
    intro x
    unfold j_X7_readNumber_298
    rcases w with u | v
    · obtain ⟨u1, m1⟩ := uM_D u (f := 34) (v := x) (.inr rfl)
      obtain ⟨S', e, f, g, r⟩ := e7_ended u1
      refine ⟨S', by rw [e]; rfl, fr_trans (fr_kI (by omega)) (fr_mono f FN_FD (fun _ q => q)), g, fun v => absurd u.2.1 v.2.1, fun _ => ?_⟩
      rw [m1] at r
      refine rs_mono r fun _ _ h => ?_
      rw [h]
      exact ⟨m1, rfl, rfl⟩
    · have v1 := vM_D v (f := 34) (x := x) (.inr rfl)
      refine ⟨kI S 82 34 x, by rw [e7_endedF v1.2.1]; rfl, fr_kI (by omega), rfl, fun _ => v1, fun u => absurd u.2.1 v.2.1⟩
  unfold j_X7_readNumber_281
  by_cases h : l2 = 0
  · obtain ⟨S', e, q⟩ := key (jI S 82 34)
    refine ⟨S', it h e, ?_⟩
    rw [if_pos h, Int.one_mul]
    exact q
  · obtain ⟨S', e, q⟩ := key (-(jI S 82 34))
    refine ⟨S', ie h (it hr e), ?_⟩
    rw [if_neg h, Int.neg_one_mul]
    exact q
/-- behind a FAULT readNumber goes on to its end -/
theorem v7_179 (v : vM S) {l1 l2 l3 l4 l5 : Int} (h0 : 0 ≤ l4) (h1 : l4 ≤ 999999) : ∃ S', j_X7_readNumber_179 l1 l2 l3 l4 l5 S = some S' ∧ fr FD RN S S' ∧ jA S' = jA S ∧ vM S' := by
  have v1 := vM_D (vM_D v (f := 33) (x := 1) (.inl rfl)) (f := 34) (x := 1000 * l4) (.inr rfl)
  obtain ⟨S', e, f, g, h, _⟩ := e7_298 (.inr v1) (l1 := l1) (l2 := l2) (l3 := l3) (l4 := l4) (l5 := l5) (show rg (-(1000 * l4)) from ⟨by omega, by omega⟩)
  refine ⟨S', ?_, fr_trans (fr_trans (fr_kI (by omega)) (fr_kI (by omega))) f, g, h v1⟩
  unfold j_X7_readNumber_179 j_X7_readNumber_200 j_X7_readNumber_259
  exact it v.2.1 (it v.2.1 (it ⟨by omega, by omega⟩ (it v1.2.1 e)))
theorem dvF_app (v : Int) (a b : List Int) : dvF v (a ++ b) = dvF (dvF v a) b := by unfold dvF; rw [List.foldl_append]
theorem dvF_b : ∀ (ds : List Int) (v : Int), (∀ c ∈ ds, isFig c) → 0 ≤ v → 0 ≤ dvF v ds ∧ dvF v ds < (v + 1) * 10 ^ ds.length := by
  intro ds
  induction ds with
  | nil => intro v _ h; exact ⟨h, by show v < (v + 1) * 10 ^ 0; omega⟩
  | cons c ds ih =>
    intro v hf h
    have hc := hf c List.mem_cons_self
    obtain ⟨i1, i2⟩ := ih (10 * v + (c - 48)) (fun x hx => hf x (List.mem_cons_of_mem _ hx)) (by omega)
    refine ⟨i1, Int.lt_of_lt_of_le i2 ?_⟩
    rw [List.length_cons, Int.pow_succ, Int.mul_comm (10 ^ ds.length : Int) 10, ← Int.mul_assoc]
    exact Int.mul_le_mul_of_nonneg_right (by omega) (Int.pow_nonneg (by decide))
end MNO
