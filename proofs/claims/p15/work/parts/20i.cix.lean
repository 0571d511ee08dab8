section CIX
variable {S S' S'' : iS} {b : Bool}
theorem take_len {l : List Int} {st ln : Nat} (h : st + ln ≤ l.length) : ((l.drop st).take ln).length = ln := by
  rw [List.length_take, List.length_drop]; omega
theorem c_same (z : zS S) {a0 a2 : Nat} {ss : List Int} {l : List (List Int)} (h : spn S a0 ss l) (hss : rv S (sgn a0) = ss) (k1 : rk S (sgn a0)) (k2 : rk S a2) {st ln i : Nat} (h2 : st + ln ≤ (rv S a2).length) (hi : i < l.length) : j_X4_isSame a0 i a2 st ln S = some (bi (l.getD i [] = ((rv S a2).drop st).take ln), S) := by
  obtain ⟨s1, s2, s3, s4, s5, s6⟩ := h
  obtain ⟨own, ln', e1, e2, e3, e4⟩ := s6 i hi
  have z2 := zS_le z (a2 + 1)
  have q2 := rv_len k2
  have q4 := k2.2
  have hx := take_len h2
  have hy : (l.getD i []).length = ln' := by rw [← e4]; exact take_len e3
  unfold j_X4_isSame j_X4_isSame_0
  rw [eR_at z, Option.bind_some, rv_at s2 (by omega), e2]
  dsimp only
  by_cases hl : ln' = ln
  · subst hl
    refine it rfl ?_
    rw [eR_at z, Option.bind_some, rv_at s1 (by omega), e1]
    have := l6_same z k1 k2 (own := own) (st := st) (ln := ln') (w := i) (by rw [hss]; exact e3) h2 (by omega) ln' fuel 0 (by omega) (by unfold fuel; omega)
    rw [Nat.add_zero, Nat.add_zero, hss, e4] at this
    exact this
  · refine ie (by omega) ?_
    rw [bi_f (fun q => hl (by rw [← hy, q, hx]))]
theorem l6_idx (z : zS S) {a0 a2 : Nat} {ss : List Int} {l : List (List Int)} (h : spn S a0 ss l) (hss : rv S (sgn a0) = ss) (k1 : rk S (sgn a0)) (k2 : rk S a2) {st ln : Nat} (h2 : st + ln ≤ (rv S a2).length) (hlen : l.length ≤ 10000) : ∀ (j n k : Nat), k + j = l.length → j < n → (∀ i, i < k → l.getD i [] ≠ ((rv S a2).drop st).take ln) → j_X4_indexOf_3 a0 a2 n st ln k S = some (if ((rv S a2).drop st).take ln ∈ l then (ixO l (((rv S a2).drop st).take ln) : Int) else -1, S) := by
  have hc := h.2.2.2.2.1
  intro j
  induction j with
  | zero =>
    intro n k hk hn hno
    obtain ⟨n, rfl⟩ : ∃ m, n = m + 1 := ⟨n - 1, by omega⟩
    rw [j_X4_indexOf_3, hc]
    have hnm : ¬ ((rv S a2).drop st).take ln ∈ l := fun hx => by
      obtain ⟨i, hi, e⟩ := mem_getD hx
      exact hno i (by omega) e
    rw [if_neg hnm]
    exact it (by omega) rfl
  | succ j ih =>
    intro n k hk hn hno
    obtain ⟨n, rfl⟩ : ∃ m, n = m + 1 := ⟨n - 1, by omega⟩
    rw [j_X4_indexOf_3, hc]
    refine ie (by omega) ?_
    rw [c_same z h hss k1 k2 h2 (i := k) (by omega), Option.bind_some]
    by_cases he : l.getD k [] = ((rv S a2).drop st).take ln
    · have hin : ((rv S a2).drop st).take ln ∈ l := by rw [← he]; exact getD_mem (by omega)
      rw [if_pos hin, ixO_at l k _ hno (by omega) he]
      exact ie (bi_n he) rfl
    · refine it (bi_0.mpr he) (it ⟨by omega, by omega⟩ ?_)
      dsimp only
      rw [show (k : Int) + 1 = ((k + 1 : Nat) : Int) by omega]
      exact ih n (k + 1) (by omega) (by omega) (fun i hi => by
        by_cases ei : i = k
        · rw [ei]; exact he
        · exact hno i (by omega))
/-- indexOf -/
theorem c_idx (z : zS S) {a0 a2 : Nat} {ss : List Int} {l : List (List Int)} (h : spn S a0 ss l) (hss : rv S (sgn a0) = ss) (k1 : rk S (sgn a0)) (k2 : rk S a2) {st ln : Nat} (h2 : st + ln ≤ (rv S a2).length) (hlen : l.length ≤ 10000) : j_X4_indexOf a0 a2 st ln S = some (if ((rv S a2).drop st).take ln ∈ l then (ixO l (((rv S a2).drop st).take ln) : Int) else -1, S) :=
  l6_idx z h hss k1 k2 h2 hlen l.length fuel 0 (by omega) (by unfold fuel; omega) (fun i hi => absurd hi (Nat.not_lt_zero _))
/-- a Row tells a list -/
def rT (S : iS) (a : Nat) (l : List Int) : Prop := rk S a ∧ rv S a = l
theorem rT_eq {a : Nat} {l : List Int} (h : rT S a l) (e1 : jI S' a 1 = jI S a 1) (e2 : jA S' (a + 1) = jA S (a + 1)) : rT S' a l := ⟨rk_eq h.1 e1 e2, (rv_eq e1 e2).trans h.2⟩
theorem rT_add {a : Nat} {l : List Int} {x : Int} (z : zS S) (h : rT S a l) (hc : (l.length : Int) < (jA S (a + 1)).length) : j_X3_add a x S = some (ga S a 1 (a + 1) x) ∧ rT (ga S a 1 (a + 1) x) a (l ++ [x]) := by
  have hl := rv_len h.1
  rw [h.2] at hl
  obtain ⟨q1, q2⟩ := rv_add (x := x) h.1 (by omega)
  exact ⟨eR_add z h.1.1 (by omega), q2, by rw [q1, h.2]⟩
/-- all VALUES, one behind the other -/
def flV (l : List (Int × Int × Int × List vT)) : List vT := l.flatMap (fun x => x.2.2.2)
/-- what the class has read so far into the graph b -/
def cG (b : Bool) (S : iS) (G : gT) : Prop := spn S (gadr b + 3) (sg b S) (gNo G) ∧ spn S (gadr b + 8) (sg b S) ((gHe G).map (fun h => h.1)) ∧ spn S (gadr b + 13) (sg b S) (gCo G) ∧ rT S (gadr b + 18) ((gHe G).map (fun h => h.2)) ∧ (rT S (gadr b + 20) ((gAr G).map (fun x => x.1)) ∧ rT S (gadr b + 22) ((gAr G).map (fun x => x.2.1)) ∧ rT S (gadr b + 24) ((gAr G).map (fun x => x.2.2.1))) ∧ (spn S (gadr b + 26) (sg b S) ((flV (gAr G)).map vsg) ∧ rT S (gadr b + 31) ((flV (gAr G)).map (fun v => v.1)) ∧ rT S (gadr b + 33) ((flV (gAr G)).map (fun v => v.2.1))) ∧ rT S (gadr b + 35) (gLi G) ∧ jI S (gadr b) 12 = gLo G ∧ (match gCt G with
  | none => jI S 80 4 = 0
  | some c => ¬ jI S 80 4 = 0 ∧ jI S (gadr b) 13 = c.1 ∧ jI S (gadr b) 14 = c.2) ∧ jI S 80 3 = (if gWa G = true then 1 else 0)
theorem sg_rv : rv S (gadr b + 1) = sg b S := rfl
theorem sgn_3 (b : Bool) : sgn (gadr b + 3) = gadr b + 1 := by cases b <;> rfl
theorem sgn_8 (b : Bool) : sgn (gadr b + 8) = gadr b + 1 := by cases b <;> rfl
theorem sgn_13 (b : Bool) : sgn (gadr b + 13) = gadr b + 1 := by cases b <;> rfl
theorem sgn_26 (b : Bool) : sgn (gadr b + 26) = gadr b + 1 := by cases b <;> rfl
/-- signs may come behind, and the cursor may go on -/
theorem cG_S {G : gT} {xs : List Int} (h : cG b S G) (hf : frC (FV b) (RS b) S S') (hs : sg b S' = sg b S ++ xs) : cG b S' G := by
  have hg := g_or b
  have eI : ∀ k f, 2 ≤ k → jI S' (gadr b + k) f = jI S (gadr b + k) f ∨ (80 ≤ gadr b + k) := fun k f hk => by
    by_cases h80 : 80 ≤ gadr b + k
    · exact .inr h80
    · exact .inl (hf.1 _ _ (by omega))
  have eI' : ∀ k f, 2 ≤ k → k ≤ 36 → jI S' (gadr b + k) f = jI S (gadr b + k) f := fun k f hk hk2 => hf.1 _ _ (by omega)
  have eA : ∀ k, 3 ≤ k → jA S' (gadr b + k) = jA S (gadr b + k) := fun k hk => hf.2.1 _ (by omega)
  obtain ⟨h1, h2, h3, h4, ⟨h5, h6, h7⟩, ⟨h8, h9, h10⟩, h11, h12, h13, h14⟩ := h
  have sp : ∀ k (l : List (List Int)), 3 ≤ k → k ≤ 30 → spn S (gadr b + k) (sg b S) l → spn S' (gadr b + k) (sg b S') l := by
    intro k l hk hk2 hsp
    rw [hs]
    refine spn_app (spn_eq hsp ?_ ?_ ?_ ?_ ?_)
    · rw [Nat.add_assoc]; exact eI' _ _ (by omega) (by omega)
    · rw [Nat.add_assoc]; exact eA _ (by omega)
    · rw [Nat.add_assoc]; exact eI' _ _ (by omega) (by omega)
    · rw [Nat.add_assoc]; exact eA _ (by omega)
    · exact eI' _ _ (by omega) (by omega)
  have rt : ∀ k (l : List Int), 3 ≤ k → k ≤ 35 → rT S (gadr b + k) l → rT S' (gadr b + k) l := by
    intro k l hk hk2 hr
    refine rT_eq hr (eI' _ _ (by omega) (by omega)) ?_
    rw [Nat.add_assoc]; exact eA _ (by omega)
  refine ⟨sp 3 _ (by decide) (by decide) h1, sp 8 _ (by decide) (by decide) h2, sp 13 _ (by decide) (by decide) h3, rt 18 _ (by decide) (by decide) h4, ⟨rt 20 _ (by decide) (by decide) h5, rt 22 _ (by decide) (by decide) h6, rt 24 _ (by decide) (by decide) h7⟩, ⟨sp 26 _ (by decide) (by decide) h8, rt 31 _ (by decide) (by decide) h9, rt 33 _ (by decide) (by decide) h10⟩, rt 35 _ (by decide) (by decide) h11, ?_, ?_, ?_⟩
  · rw [hf.1 (gadr b) 12 (by omega)]; exact h12
  · rw [hf.1 80 4 (by omega), hf.1 (gadr b) 13 (by omega), hf.1 (gadr b) 14 (by omega)]; exact h13
  · rw [hf.1 80 3 (by omega)]; exact h14
end CIX
