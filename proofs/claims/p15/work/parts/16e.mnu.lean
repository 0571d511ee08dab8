section MNU
variable {S S' : iS} {ns : List Int}
abbrev FD (f : Nat) : Prop := f = 27 ∨ f = 30 ∨ f = 31 ∨ f = 33 ∨ f = 34
theorem FN_FD (f : Nat) (h : FN f) : FD f := by omega
def byO : Nat → Int
  | 0 => 0
  | 1 => 1
  | 2 => 10
  | _ => 100
/-- what figures behind a point are worth -/
def cbD : Nat → List Int → Int
  | _, [] => 0
  | 0, _ :: _ => 0
  | k + 1, d :: ds => byO (k + 1) * (d - 48) + cbD k ds
theorem byO_div {k : Nat} (h : k < 3) : byO (k + 1) / 10 = byO k := by
  match k, h with
  | 0, _ => decide
  | 1, _ => decide
  | 2, _ => decide
theorem byO_b {k : Nat} : 0 ≤ byO k ∧ byO k ≤ 100 := by
  match k with
  | 0 => decide
  | 1 => decide
  | 2 => decide
  | k + 3 => exact (show (0 : Int) ≤ 100 ∧ (100 : Int) ≤ 100 by decide)
theorem byO_n {k : Nat} : ¬ byO (k + 1) = 0 := by
  match k with
  | 0 => decide
  | 1 => decide
  | k + 2 => exact (show ¬ (100 : Int) = 0 by decide)
theorem fgK_n {k : Nat} {r : List Int} (h : ¬ isFig (hd r)) : fgK k r = some ([], r) := by
  cases k with
  | zero => rw [fgK, if_neg h]
  | succ k => rw [fgK, if_neg h]
theorem uM_D (u : uM S) {f : Nat} {v : Int} (hf : f = 33 ∨ f = 34) : uM (kI S 82 f v) ∧ mRs (kI S 82 f v) = mRs S :=
  ⟨uM_fr u (F := fun g => g = f) (R := fun _ => False) (fr_kI rfl) u.1.1 (by omega) (by omega) (by omega), mRs_fr (F := fun g => g = f) (R := fun _ => False) (fr_kI rfl) (by omega) (by omega) (fun q => q)⟩
/-- a sign that finds room -/
theorem u7_sign (u : uM S) (hn : nmd S ns) (hl : ns.length < 8) (hp : hd (mRs S) ≠ -1) {c p : Int} : ∃ T, j_X7_sign c p S = some T ∧ (∃ l, T = kA S 103 l) ∧ uM T ∧ mRs T = mRs S ∧ nmd T (ns ++ [c]) ∧ jI T 82 27 = jI S 82 27 ∧ uM (kI T 82 27 (jI S 82 27 + 1)) ∧ mRs (kI T 82 27 (jI S 82 27 + 1)) = (mRs S).tail := by
  obtain ⟨l, e1, n1, l1⟩ := e7_sign (c := c) (p := p) u.1.1 hn hl
  have z1 : zS (kA S 103 l) := zS_kA u.1.1 l1
  have u1 : uM (kA S 103 l) := uM_fr u (F := fun _ => False) (R := RN) (fr_kA rfl) z1 (fun q => q) (fun q => q) (fun q => q)
  have m1 : mRs (kA S 103 l) = mRs S := mRs_fr (F := fun _ => False) (R := RN) (fr_kA rfl) (fun q => q) (fun q => q) (by decide)
  have u2 := uM_step u1 (by rw [m1]; exact hp)
  have m2 := mRs_step u1.1
  rw [m1] at m2
  exact ⟨_, e1, ⟨l, rfl⟩, u1, m1, n1, rfl, u2, m2⟩
theorem l7_dec : ∀ (k n : Nat) (S : iS) (ns : List Int), k ≤ 3 → uM S → nmd S ns → ns.length + k ≤ 8 → k + 1 < n → 0 ≤ jI S 82 34 → jI S 82 34 ≤ 1000010000 - 1000 * k → ∃ S', j_X7_readDecimals_47 n (byO k) S = some S' ∧ fr FD RN S S' ∧ (∃ ms, nmd S' ms) ∧ rg (-(jI S' 82 34)) ∧ rs (fgK k (mRs S)) S' (fun q => nmd S' (ns ++ q.1) ∧ mRs S' = q.2 ∧ jI S' 82 34 = jI S 82 34 + cbD k q.1 ∧ jI S' 82 33 = jI S 82 33) := by
  intro k
  induction k with
  | zero =>
    intro n S ns hk3 u hn hk hm t0 t1
    obtain ⟨m, rfl⟩ : ∃ m, n = m + 2 := ⟨n - 2, by omega⟩
    have a1 := u.1.2.2.1
    have a2 := u.1.2.2.2.1
    have a3 := u.2.2
    rw [j_X7_readDecimals_47]
    by_cases h : isFig (hd (mRs S))
    · refine ⟨kI (kI S 82 30 2) 82 31 (jI S 82 27), ?_, fr_w (by omega) (by omega), ⟨ns, hn⟩, show rg (-(jI S 82 34)) from ⟨by omega, by omega⟩, ?_⟩
      · refine ie (nn u.2.1) ?_
        rw [e7_here u.1, Option.bind_some, e7_fig, Option.bind_some]
        refine ie (bi_n h) (ie (nn rfl) ?_)
        dsimp only
        rw [e7_wrong0 u.2.1, Option.bind_some, j_X7_readDecimals_47]
        exact it (show ¬ (2 : Int) = 0 by decide) rfl
      · rw [fgK, if_pos h]
        exact vM_w' u.1 (by decide) (by omega) (by omega) (by omega)
    · refine ⟨S, ?_, fr_refl, ⟨ns, hn⟩, ⟨by omega, by omega⟩, ?_⟩
      · refine ie (nn u.2.1) ?_
        rw [e7_here u.1, Option.bind_some, e7_fig, Option.bind_some]
        exact it (bi_0.mpr h) rfl
      · rw [fgK_n h]
        exact ⟨u, by rw [List.append_nil]; exact hn, rfl, by rw [cbD]; omega, rfl⟩
  | succ k ih =>
    intro n S ns hk3 u hn hk hm t0 t1
    obtain ⟨m, rfl⟩ : ∃ m, n = m + 2 := ⟨n - 2, by omega⟩
    have a1 := u.1.2.2.1
    have a2 := u.1.2.2.2.1
    have a3 := u.2.2
    rw [j_X7_readDecimals_47]
    by_cases h : isFig (hd (mRs S))
    · have hb := byO_b (k := k + 1)
      generalize hbe : byO (k + 1) = b at hb
      generalize hce : hd (mRs S) = c at h
      have hm0 : 0 ≤ b * (c - 48) := Int.mul_nonneg hb.1 (by omega)
      have hm1 : b * (c - 48) ≤ 100 * 9 := Int.mul_le_mul hb.2 (by omega) (by omega) (by omega)
      obtain ⟨u1, m1⟩ := uM_D u (f := 34) (v := jI S 82 34 + b * (c - 48)) (.inr rfl)
      obtain ⟨T, e1, ⟨l, hT⟩, u2, m2, n2, i2, u3, m3⟩ := u7_sign (c := c) (p := jI S 82 27) u1 (ns := ns) hn (by omega) (by rw [m1, hce]; omega)
      have i34 : jI (kI T 82 27 (jI S 82 27 + 1)) 82 34 = jI S 82 34 + b * (c - 48) := by subst hT; rfl
      have u3' : uM (kI T 82 27 (jI S 82 27 + 1)) := u3
      have m3' : mRs (kI T 82 27 (jI S 82 27 + 1)) = (mRs S).tail := m3.trans (by rw [m1])
      obtain ⟨S', e2, f2, nn2, g2, r2⟩ := ih (m + 1) (kI T 82 27 (jI S 82 27 + 1)) (ns ++ [c]) (by omega) u3' n2 (by rw [List.length_append, List.length_singleton]; omega) (by omega) (by omega) (by omega)
      have f1 : fr FD RN S (kI T 82 27 (jI S 82 27 + 1)) := by
        subst hT
        exact fr_trans (fr_kI (by omega)) (fr_trans (fr_kA rfl) (fr_kI (by omega)))
      refine ⟨S', ?_, fr_trans f1 f2, nn2, g2, ?_⟩
      · refine ie (nn u.2.1) ?_
        rw [e7_here u.1, Option.bind_some, e7_fig, Option.bind_some, hce]
        refine ie (bi_n h) (it (by rw [← hbe]; exact byO_n) ?_)
        dsimp only
        rw [e7_here u.1, Option.bind_some, hce]
        dsimp only
        refine it ⟨by omega, by omega⟩ (it ⟨by omega, by omega⟩ (it ⟨by omega, by omega⟩ ?_))
        rw [e7_here u1.1, Option.bind_some, m1, hce]
        dsimp only
        rw [show jI (kI S 82 34 (jI S 82 34 + b * (c - 48))) 82 27 = jI S 82 27 from rfl, e1, Option.bind_some, i2, show jI (kI S 82 34 (jI S 82 34 + b * (c - 48))) 82 27 = jI S 82 27 from rfl]
        refine it ⟨by omega, by omega⟩ (it ⟨by omega, by omega⟩ ?_)
        rw [← hbe, byO_div (by omega)]
        exact e2
      · rw [m3'] at r2
        rw [fgK, if_pos (by rw [hce]; exact h), hce]
        refine rs_map (rs_mono r2 fun v _ hv => ?_)
        obtain ⟨v1, v2, v3, v4⟩ := hv
        rw [List.append_assoc] at v1
        refine ⟨v1, v2, ?_, v4.trans (by subst hT; rfl)⟩
        rw [v3, i34, cbD, hbe]
        omega
    · refine ⟨S, ?_, fr_refl, ⟨ns, hn⟩, ⟨by omega, by omega⟩, ?_⟩
      · refine ie (nn u.2.1) ?_
        rw [e7_here u.1, Option.bind_some, e7_fig, Option.bind_some]
        exact it (bi_0.mpr h) rfl
      · rw [fgK_n h]
        refine ⟨u, by rw [List.append_nil]; exact hn, rfl, ?_, rfl⟩
        rw [cbD]; omega
theorem fgK_len : ∀ {k : Nat} {r : List Int} {q : List Int × List Int}, fgK k r = some q → q.1.length ≤ k ∧ (∀ c ∈ q.1, isFig c) ∧ ¬ isFig (hd q.2) := by
  intro k
  induction k with
  | zero =>
    intro r q h
    rw [fgK] at h
    by_cases hf : isFig (hd r)
    · rw [if_pos hf] at h; cases h
    · rw [if_neg hf] at h; cases h; exact ⟨Nat.le_refl _, fun c hc => absurd hc List.not_mem_nil, hf⟩
  | succ k ih =>
    intro r q h
    rw [fgK] at h
    by_cases hf : isFig (hd r)
    · rw [if_pos hf] at h
      cases ho : fgK k r.tail with
      | none => rw [ho] at h; cases h
      | some p =>
        rw [ho] at h
        cases h
        obtain ⟨i1, i2, i3⟩ := ih ho
        refine ⟨by rw [List.length_cons]; omega, fun c hc => ?_, i3⟩
        rcases List.mem_cons.mp hc with e | e
        · rw [e]; exact hf
        · exact i2 c e
    · rw [if_neg hf] at h; cases h; exact ⟨Nat.zero_le _, fun c hc => absurd hc List.not_mem_nil, hf⟩
theorem cbD_3 {ds : List Int} (h : ds.length ≤ 3) : cbD 3 ds = dv ds * 10 ^ (3 - ds.length) := by
  match ds, h with
  | [], _ => rfl
  | [a], _ => simp [cbD, byO, dv, dvF]; omega
  | [a, b], _ => simp [cbD, byO, dv, dvF]; omega
  | [a, b, c], _ => simp [cbD, byO, dv, dvF]; omega
  | _ :: _ :: _ :: _ :: _, h => simp only [List.length_cons] at h; omega
end MNU
