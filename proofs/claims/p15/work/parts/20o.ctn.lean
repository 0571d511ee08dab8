section CTN
variable {S S' S'' : iS} {b : Bool} {No Hn Co : List (List Int)} {Hk Af At Al : List Int} {Vs : List (List Int)} {Vt Vh Li : List Int} {Lo : Int} {Ct : Option (Int × Int)} {Wa : Bool}
abbrev FDn (b : Bool) (a f : Nat) : Prop := FO b 3 a f ∨ FC a f
/-- takeNode -/
theorem c_tn (w : wC b S) (h : cH b S No Hn Co Hk Af At Al Vs Vt Vh Li Lo Ct Wa) {st ln : Nat} (h9 : jI S 80 9 = st) (hl : st + ln = (sg b S).length) (h8 : -1 ≤ jI S 80 8 ∧ jI S 80 8 ≤ 1000) (hn : No.length ≤ 30) : ∃ y S', j_X2_takeNode S = some (y, S') ∧ frC (FDn b) (RP b 3) S S' ∧ (match ndS No (((sg b S).drop st).take ln) with
    | none => y = -1 ∧ zF S'
    | some N => y = (ixO N (((sg b S).drop st).take ln) : Int) ∧ wC b S' ∧ cR S' = cR S ∧ sg b S' = sg b S ∧ cH b S' N Hn Co Hk Af At Al Vs Vt Vh Li Lo Ct Wa) := by
  have hg := g_or b
  have m1 := sg_len w
  have m5 := w.2.2.2.2.2.2
  have m4 : jI S (gadr b + 1) 1 - jI S 80 9 = (ln : Int) := by omega
  have hx := c_ix w (sgn_3 b) h.1 (st := st) (ln := ln) (by omega) (by omega)
  have hc : jI S (gadr b + 3) 3 = No.length := h.1.2.2.2.2.1
  unfold j_X2_takeNode j_X2_takeNode_0 ndS
  rw [w.2.1, m4, if_pos (show rg (ln : Int) from ⟨by omega, by omega⟩), h9, hx, Option.bind_some]
  dsimp only
  by_cases hin : ((sg b S).drop st).take ln ∈ No
  · rw [if_pos hin, if_pos hin]
    exact ⟨_, S, ie (by omega) rfl, frC_refl, rfl, w, rfl, rfl, h⟩
  · rw [if_neg hin, if_neg hin, if_pos rfl, w.2.1, hc]
    by_cases h30 : 30 ≤ No.length
    · obtain ⟨S', e, z', f'⟩ := c_fail w (k := 6) h8
      rw [if_pos h30]
      exact ⟨-1, S', ie (by omega) (by rw [e]; rfl), frC_mono f' (fun _ _ q => .inr q) (fun _ q => absurd q (fun q => q)), rfl, z'⟩
    · obtain ⟨S', e, z', f', s', h'⟩ := cH_No w.1 h (st := st) (ln := ln) (by omega) (by omega)
      obtain ⟨w', c'⟩ := wC_O (by decide) (by decide) w f' z'
      have hc' : jI S' (gadr b + 3) 3 = (No.length : Int) + 1 := by rw [h'.1.2.2.2.2.1, List.length_append]; rfl
      rw [if_neg h30, h9, if_pos (show (No.length : Int) < 30 by omega), e, Option.bind_some, w'.2.1, hc']
      refine ⟨(No.length : Int) + 1 - 1, S', it ⟨by omega, by omega⟩ rfl, frC_mono f' (fun _ _ q => .inl q) (fun _ q => q), ?_, w', c', s', h'⟩
      rw [ixO_new _ _ hin]
      omega
theorem l6_ha (z : zS S) {l : List (Int × Int × Int × List vT)} (h1 : rT S (gadr b + 20) (l.map (fun x => x.1))) (h2 : rT S (gadr b + 22) (l.map (fun x => x.2.1))) {f t : Int} (hl : l.length ≤ 1000) : ∀ (m n k : Nat), k + m = l.length → m < n → j_X1_hasArc_2 b n f t (k : Int) S = some (bi (dbS (l.drop k) f t = true), S) := by
  have hc : jI S (gadr b + 20) 1 = l.length := by
    have := rv_len h1.1
    rw [h1.2, List.length_map] at this
    exact this.symm
  intro m
  induction m with
  | zero =>
    intro n k hk hn
    obtain ⟨n, rfl⟩ : ∃ p, n = p + 1 := ⟨n - 1, by omega⟩
    rw [j_X1_hasArc_2, hc]
    refine it (by omega) ?_
    rw [List.drop_eq_nil_of_le (by omega)]
    rfl
  | succ m ih =>
    intro n k hk hn
    obtain ⟨n, rfl⟩ : ∃ p, n = p + 1 := ⟨n - 1, by omega⟩
    have hlt : k < l.length := by omega
    have a1 : rat S (gadr b + 20) k = (l[k]).1 := by
      rw [rv_at h1.1 (by rw [h1.2, List.length_map]; exact hlt), h1.2, List.getD_eq_getElem?_getD, List.getElem?_eq_getElem (by rw [List.length_map]; exact hlt), List.getElem_map]
      rfl
    have a2 : rat S (gadr b + 22) k = (l[k]).2.1 := by
      rw [rv_at h2.1 (by rw [h2.2, List.length_map]; exact hlt), h2.2, List.getD_eq_getElem?_getD, List.getElem?_eq_getElem (by rw [List.length_map]; exact hlt), List.getElem_map]
      rfl
    have key := ih n (k + 1) (by omega) (by omega)
    rw [j_X1_hasArc_2, hc, List.drop_eq_getElem_cons hlt]
    refine ie (by omega) ?_
    rw [eR_at z, Option.bind_some, a1]
    dsimp only
    unfold j_X1_hasArc_39
    have go : (if rg ((k : Int) + 1) then j_X1_hasArc_2 b n f t ((k : Int) + 1) S else none) = some (bi (dbS (l.drop (k + 1)) f t = true), S) := it ⟨by omega, by omega⟩ key
    by_cases e1 : (l[k]).1 = f
    · refine ie (nn e1) ?_
      rw [eR_at z, Option.bind_some, a2]
      dsimp only
      by_cases e2 : (l[k]).2.1 = t
      · refine ie (nn e2) ?_
        rw [bi_t (show dbS (l[k] :: l.drop (k + 1)) f t = true by
          unfold dbS
          rw [List.any_cons, e1, e2]
          simp)]
      · refine it e2 ?_
        rw [go, show dbS (l[k] :: l.drop (k + 1)) f t = dbS (l.drop (k + 1)) f t by
          unfold dbS
          rw [List.any_cons, show (l[k].2.1 == t) = false from beq_false_of_ne e2, Bool.and_false, Bool.false_or]]
    · refine it e1 ?_
      rw [go, show dbS (l[k] :: l.drop (k + 1)) f t = dbS (l.drop (k + 1)) f t by
        unfold dbS
        rw [List.any_cons, show (l[k].1 == f) = false from beq_false_of_ne e1, Bool.false_and, Bool.false_or]]
/-- hasArc -/
theorem c_ha (z : zS S) {l : List (Int × Int × Int × List vT)} (h1 : rT S (gadr b + 20) (l.map (fun x => x.1))) (h2 : rT S (gadr b + 22) (l.map (fun x => x.2.1))) {f t : Int} (hl : l.length ≤ 1000) : j_X1_hasArc b f t S = some (bi (dbS l f t = true), S) := l6_ha z h1 h2 hl l.length fuel 0 (by omega) (by unfold fuel; omega)
end CTN
