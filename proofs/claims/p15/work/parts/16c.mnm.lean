section MNM
variable {S S' : iS} {ns : List Int}
/-- the model's reading has a FAULT -/
def vM (S : iS) : Prop := wM S ∧ ¬ jI S 82 30 = 0 ∧ 0 ≤ jI S 82 31 ∧ jI S 82 31 ≤ 1000 ∧ jI S 82 27 ≤ 603 ∧ 1 ≤ jI S 82 30 ∧ jI S 82 30 ≤ 7
/-- the model's reading has come to its end, with o -/
def rs {α : Type} (o : Option α) (S : iS) (Q : α → Prop) : Prop := match o with
  | some v => uM S ∧ Q v
  | none => vM S
theorem rs_map {α β : Type} {o : Option α} {g : α → β} {Q : β → Prop} (h : rs o S (fun v => Q (g v))) : rs (o.map g) S Q := by
  cases o with
  | none => exact h
  | some v => exact h
theorem rs_mono {α : Type} {o : Option α} {P Q : α → Prop} (h : rs o S P) (k : ∀ v, o = some v → P v → Q v) : rs o S Q := by
  cases o with
  | none => exact h
  | some v => exact ⟨h.1, k v rfl h.2⟩
/-- with the WORD at its end behind it -/
def enE {α : Type} (o : Option (α × List Int)) : Option (α × List Int) := o.bind fun q => if isE q.2 then some q else none
theorem enE_map {α β : Type} {o : Option (α × List Int)} {g : α → β} : enE (o.map (fun q => (g q.1, q.2))) = (enE o).map (fun q => (g q.1, q.2)) := by
  cases o with
  | none => rfl
  | some q =>
    show (if isE q.2 then some (g q.1, q.2) else none) = (if isE q.2 then some q else none).map _
    by_cases h : isE q.2
    · rw [if_pos h, if_pos h]; rfl
    · rw [if_neg h, if_neg h]; rfl
/-- the model's name row -/
def nmd (S : iS) (ns : List Int) : Prop := ∃ l, jA S 103 = (ns.length : Int) :: l ∧ l.length = 8 ∧ l.take ns.length = ns
theorem nmd_le (h : nmd S ns) : ns.length ≤ 8 := by
  obtain ⟨l, _, h1, h2⟩ := h
  have := congrArg List.length h2
  rw [List.length_take] at this
  omega
theorem nmd_fr {F R : Nat → Prop} (h : nmd S ns) (hf : fr F R S S') (hR : ¬ R 103) : nmd S' ns := by
  unfold nmd
  rw [hf.2.1 103 hR]
  exact h
theorem e7_sign (z : zS S) (h : nmd S ns) (hl : ns.length < 8) {c p : Int} : ∃ l, j_X7_sign c p S = some (kA S 103 l) ∧ nmd (kA S 103 l) (ns ++ [c]) ∧ l.length = 9 := by
  obtain ⟨l, e, h1, h2⟩ := h
  refine ⟨((ns.length : Int) + 1) :: l.set ns.length c, ?_, ⟨l.set ns.length c, ?_, by rw [List.length_set]; exact h1, ?_⟩, by rw [List.length_cons, List.length_set, h1]⟩
  · unfold j_X7_sign j_X7_sign_0 j_X7_sign_42
    rw [e, List.getD_cons_zero, List.set_cons_zero, List.getD_cons_zero, List.length_cons, List.length_cons, h1, kA_kA]
    refine it (by decide) (it (by omega) (it ⟨by omega, by omega⟩ (it (by decide) (it ⟨by omega, by omega⟩ ?_))))
    rw [show ((ns.length : Int) + 1).toNat = ns.length + 1 by omega, List.set_cons_succ]
  · rw [jA_eq, List.length_append]; rfl
  · rw [List.length_append, List.length_singleton, set_take (by omega), h2]
theorem e7_sign8 (h : nmd S ns) (hl : ns.length = 8) (hf : jI S 82 30 = 0) {c p : Int} : j_X7_sign c p S = some (kI (kI S 82 30 2) 82 31 p) := by
  obtain ⟨l, e, h1, h2⟩ := h
  unfold j_X7_sign j_X7_sign_0 j_X7_sign_42
  rw [e, List.getD_cons_zero, hl]
  refine it (by rw [List.length_cons]; omega) (ie (by omega) ?_)
  rw [e7_wrong0 hf]
  rfl
abbrev FN (f : Nat) : Prop := f = 27 ∨ f = 30 ∨ f = 31
abbrev RN (a : Nat) : Prop := a = 103
theorem fr_w {F R : Nat → Prop} {k p : Int} (h0 : F 30) (h1 : F 31) : fr F R S (kI (kI S 82 30 k) 82 31 p) := fr_trans (fr_kI h0) (fr_kI h1)
theorem vM_w (u : wM S) {k p q : Int} (hk : ¬ k = 0) (h0 : 0 ≤ p) (h1 : p ≤ 1000) (hq : 0 ≤ q) (hq' : q ≤ 603) (hk1 : 1 ≤ k := by decide) (hk2 : k ≤ 7 := by decide) : vM (kI (kI (kI S 82 30 k) 82 31 p) 82 27 q) := by
  obtain ⟨z, a1, a2, a3, a4⟩ := u
  have e2 : jI (kI (kI (kI S 82 30 k) 82 31 p) 82 27 q) 82 2 = jI S 82 2 := rfl
  have e27 : jI (kI (kI (kI S 82 30 k) 82 31 p) 82 27 q) 82 27 = q := rfl
  have e30 : jI (kI (kI (kI S 82 30 k) 82 31 p) 82 27 q) 82 30 = k := rfl
  have e31 : jI (kI (kI (kI S 82 30 k) 82 31 p) 82 27 q) 82 31 = p := rfl
  exact ⟨⟨z, by omega, by omega, by omega, by omega⟩, by omega, by omega, by omega, by omega, by omega, by omega⟩
theorem vM_w' (u : wM S) {k p : Int} (hk : ¬ k = 0) (h0 : 0 ≤ p) (h1 : p ≤ 1000) (hq : jI S 82 27 ≤ 603) (hk1 : 1 ≤ k := by decide) (hk2 : k ≤ 7 := by decide) : vM (kI (kI S 82 30 k) 82 31 p) := by
  obtain ⟨z, a1, a2, a3, a4⟩ := u
  have e2 : jI (kI (kI S 82 30 k) 82 31 p) 82 2 = jI S 82 2 := rfl
  have e27 : jI (kI (kI S 82 30 k) 82 31 p) 82 27 = jI S 82 27 := rfl
  have e30 : jI (kI (kI S 82 30 k) 82 31 p) 82 30 = k := rfl
  have e31 : jI (kI (kI S 82 30 k) 82 31 p) 82 31 = p := rfl
  exact ⟨⟨z, by omega, by omega, by omega, by omega⟩, by omega, by omega, by omega, by omega, by omega, by omega⟩
/-- a WORD's end, looked at -/
theorem e7_ended (u : uM S) : ∃ S', j_X7_ended S = some S' ∧ fr FN RN S S' ∧ jA S' = jA S ∧ rs (if isE (mRs S) then some () else none) S' (fun _ => S' = S) := by
  by_cases h : isE (mRs S)
  · exact ⟨S, e7_endedT u.1 h, fr_refl, rfl, by rw [if_pos h]; exact ⟨u, rfl⟩⟩
  · refine ⟨_, e7_endedW u.1 u.2.1 h, fr_w (by omega) (by omega), rfl, ?_⟩
    rw [if_neg h]
    have := u.1.2.2.1
    have := u.1.2.2.2.1
    have := u.2.2
    exact vM_w' u.1 (by decide) (by omega) (by omega) (by omega)
theorem pln_ne {c : Int} (h : isPln c) : c ≠ -1 := by omega
theorem plK_n {k : Nat} {r : List Int} (h : ¬ isPln (hd r)) : plK k r = some ([], r) := by
  cases k with
  | zero => rw [plK, if_neg h]
  | succ k => rw [plK, if_neg h]
theorem l7_plain : ∀ (k n : Nat) (S : iS) (ns : List Int), uM S → nmd S ns → ns.length + k = 8 → k + 1 < n → ∃ S', j_X7_readName_55 n S = some S' ∧ fr FN RN S S' ∧ (∃ ms, nmd S' ms) ∧ rs (enE (plK k (mRs S))) S' (fun q => nmd S' (ns ++ q.1) ∧ mRs S' = q.2) := by
  intro k
  induction k with
  | zero =>
    intro n S ns u hn hk hm
    obtain ⟨m, rfl⟩ : ∃ m, n = m + 2 := ⟨n - 2, by omega⟩
    have a1 := u.1.2.2.1
    have a2 := u.1.2.2.2.1
    have a3 := u.2.2
    rw [j_X7_readName_55]
    by_cases h : isPln (hd (mRs S))
    · have e : j_X7_readName_55 (m + 1) (kI (kI (kI S 82 30 2) 82 31 (jI S 82 27)) 82 27 (jI S 82 27 + 1)) = some (kI (kI (kI S 82 30 2) 82 31 (jI S 82 27)) 82 27 (jI S 82 27 + 1)) := by
        rw [j_X7_readName_55]
        refine it (show ¬ (2 : Int) = 0 by decide) ?_
        unfold j_X7_readName_97
        rw [e7_endedF (S := kI (kI (kI S 82 30 2) 82 31 (jI S 82 27)) 82 27 (jI S 82 27 + 1)) (show ¬ (2 : Int) = 0 by decide)]
        rfl
      refine ⟨kI (kI (kI S 82 30 2) 82 31 (jI S 82 27)) 82 27 (jI S 82 27 + 1), ?_, fr_trans (fr_w (by omega) (by omega)) (fr_kI (by omega)), ⟨ns, hn⟩, ?_⟩
      · refine ie (nn u.2.1) ?_
        rw [e7_here u.1, Option.bind_some, e7_pln, Option.bind_some]
        refine ie (bi_n h) ?_
        rw [e7_here u.1, Option.bind_some, e7_sign8 hn (by omega) u.2.1, Option.bind_some]
        exact it (show rg (jI S 82 27 + 1) from ⟨by omega, by omega⟩) e
      · rw [plK, if_pos h]
        exact vM_w u.1 (by decide) (by omega) (by omega) (by omega) (by omega)
    · obtain ⟨S', e, f, g, r⟩ := e7_ended u
      refine ⟨S', ?_, f, ⟨ns, by unfold nmd; rw [g]; exact hn⟩, ?_⟩
      · refine ie (nn u.2.1) ?_
        rw [e7_here u.1, Option.bind_some, e7_pln, Option.bind_some]
        refine it (bi_0.mpr h) ?_
        unfold j_X7_readName_97
        rw [e]
        rfl
      · rw [plK_n h]
        show rs (if isE (mRs S) then some ([], mRs S) else none) S' _
        by_cases hE : isE (mRs S)
        · rw [if_pos hE] at r ⊢
          obtain ⟨r1, r2⟩ := r
          exact ⟨r1, by rw [List.append_nil, r2]; exact hn, by rw [r2]⟩
        · rw [if_neg hE] at r ⊢
          exact r
  | succ k ih =>
    intro n S ns u hn hk hm
    obtain ⟨m, rfl⟩ : ∃ m, n = m + 2 := ⟨n - 2, by omega⟩
    have a1 := u.1.2.2.1
    have a2 := u.1.2.2.2.1
    have a3 := u.2.2
    rw [j_X7_readName_55]
    by_cases h : isPln (hd (mRs S))
    · obtain ⟨l, e1, n1, l1⟩ := e7_sign (c := hd (mRs S)) (p := jI S 82 27) u.1.1 hn (by omega)
      have f1 : fr FN RN S (kA S 103 l) := fr_kA rfl
      have z1 : zS (kA S 103 l) := zS_kA u.1.1 l1
      have u1 : uM (kA S 103 l) := uM_fr u (F := fun _ => False) (R := RN) (fr_kA rfl) z1 (fun q => q) (fun q => q) (fun q => q)
      have m1 : mRs (kA S 103 l) = mRs S := mRs_fr (F := fun _ => False) (R := RN) (fr_kA rfl) (fun q => q) (fun q => q) (by decide)
      have u2 := uM_step u1 (by rw [m1]; exact pln_ne h)
      have m2 := mRs_step u1.1
      rw [m1] at m2
      obtain ⟨S', e2, f2, n2, r2⟩ := ih (m + 1) _ (ns ++ [hd (mRs S)]) u2 n1 (by rw [List.length_append, List.length_singleton]; omega) (by omega)
      refine ⟨S', ?_, fr_trans f1 (fr_trans (fr_kI (by omega)) f2), n2, ?_⟩
      · refine ie (nn u.2.1) ?_
        rw [e7_here u.1, Option.bind_some, e7_pln, Option.bind_some]
        refine ie (bi_n h) ?_
        rw [e7_here u.1, Option.bind_some, e1, Option.bind_some]
        exact it (show rg (jI S 82 27 + 1) from ⟨by omega, by omega⟩) e2
      · rw [m2] at r2
        rw [plK, if_pos h, enE_map (g := fun q => hd (mRs S) :: q)]
        refine rs_map (rs_mono r2 fun v _ hv => ?_)
        rw [List.append_assoc] at hv
        exact hv
    · obtain ⟨S', e, f, g, r⟩ := e7_ended u
      refine ⟨S', ?_, f, ⟨ns, by unfold nmd; rw [g]; exact hn⟩, ?_⟩
      · refine ie (nn u.2.1) ?_
        rw [e7_here u.1, Option.bind_some, e7_pln, Option.bind_some]
        refine it (bi_0.mpr h) ?_
        unfold j_X7_readName_97
        rw [e]
        rfl
      · rw [plK_n h]
        show rs (if isE (mRs S) then some ([], mRs S) else none) S' _
        by_cases hE : isE (mRs S)
        · rw [if_pos hE] at r ⊢
          obtain ⟨r1, r2⟩ := r
          exact ⟨r1, by rw [List.append_nil, r2]; exact hn, by rw [r2]⟩
        · rw [if_neg hE] at r ⊢
          exact r
end MNM
