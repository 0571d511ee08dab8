section CSP
variable {S S' S'' : iS} {b : Bool}
/-- a Row's numbers -/
def rv (S : iS) (a : Nat) : List Int := gv S a 1 (a + 1)
def rk (S : iS) (a : Nat) : Prop := 0 ≤ jI S a 1 ∧ jI S a 1 ≤ (jA S (a + 1)).length
theorem rv_len {a : Nat} (h : rk S a) : ((rv S a).length : Int) = jI S a 1 := gv_len h.1 h.2
theorem rv_at {a : Nat} (h : rk S a) {i : Nat} (hi : i < (rv S a).length) : rat S a i = (rv S a).getD i 0 := by
  have hl := rv_len h
  unfold rat rv
  rw [gv_get (by omega), if_pos ⟨by omega, by omega, by have := h.2; omega⟩, show ((i : Int)).toNat = i by omega]
theorem rv_no {a : Nat} (h : rk S a) {i : Int} (hi : i < 0 ∨ (rv S a).length ≤ i) : rat S a i = -1 := by
  have hl := rv_len h
  unfold rat
  rw [if_neg (fun q => by omega)]
theorem rv_add {a : Nat} {x : Int} (h : rk S a) (hc : jI S a 1 < (jA S (a + 1)).length) : rv (ga S a 1 (a + 1) x) a = rv S a ++ [x] ∧ rk (ga S a 1 (a + 1) x) a := by
  refine ⟨ga_v h.1 hc, ?_⟩
  unfold rk
  rw [ga_len, ga_AA, List.length_set]
  have := h.1
  omega
theorem rv_eq {a : Nat} (e1 : jI S' a 1 = jI S a 1) (e2 : jA S' (a + 1) = jA S (a + 1)) : rv S' a = rv S a := by
  unfold rv gv
  rw [e1, e2]
theorem rk_eq {a : Nat} (h : rk S a) (e1 : jI S' a 1 = jI S a 1) (e2 : jA S' (a + 1) = jA S (a + 1)) : rk S' a := by
  unfold rk
  rw [e1, e2]
  exact h
/-- Spans over the signs ss tell the list l -/
def spn (S : iS) (a : Nat) (ss : List Int) (l : List (List Int)) : Prop := rk S (a + 1) ∧ rk S (a + 3) ∧ (rv S (a + 1)).length = l.length ∧ (rv S (a + 3)).length = l.length ∧ jI S a 3 = l.length ∧ ∀ i, i < l.length → ∃ st ln : Nat, (rv S (a + 1)).getD i 0 = st ∧ (rv S (a + 3)).getD i 0 = ln ∧ st + ln ≤ ss.length ∧ (ss.drop st).take ln = l.getD i []
theorem spn_app {a : Nat} {ss xs : List Int} {l : List (List Int)} (h : spn S a ss l) : spn S a (ss ++ xs) l := by
  obtain ⟨h1, h2, h3, h4, h5, h6⟩ := h
  refine ⟨h1, h2, h3, h4, h5, fun i hi => ?_⟩
  obtain ⟨st, ln, e1, e2, e3, e4⟩ := h6 i hi
  refine ⟨st, ln, e1, e2, by rw [List.length_append]; omega, ?_⟩
  rw [List.drop_append_of_le_length (by omega), List.take_append_of_le_length (by rw [List.length_drop]; omega), e4]
theorem spn_eq {a : Nat} {ss : List Int} {l : List (List Int)} (h : spn S a ss l) (e1 : jI S' (a + 1) 1 = jI S (a + 1) 1) (e2 : jA S' (a + 2) = jA S (a + 2)) (e3 : jI S' (a + 3) 1 = jI S (a + 3) 1) (e4 : jA S' (a + 4) = jA S (a + 4)) (e5 : jI S' a 3 = jI S a 3) : spn S' a ss l := by
  unfold spn
  rw [rv_eq (S' := S') (S := S) (a := a + 1) e1 e2, rv_eq (S' := S') (S := S) (a := a + 3) e3 e4, e5]
  exact ⟨rk_eq h.1 e1 e2, rk_eq h.2.1 e3 e4, h.2.2⟩
/-- a span more -/
theorem spn_add {a : Nat} {ss : List Int} {l : List (List Int)} (z : zS S) (h : spn S a ss l) {st ln : Nat} (hle : st + ln ≤ ss.length) (c1 : (l.length : Int) < (jA S (a + 2)).length) (c2 : (l.length : Int) < (jA S (a + 4)).length) : ∃ S', j_X4_add a st ln S = some S' ∧ zS S' ∧ spn S' a ss (l ++ [(ss.drop st).take ln]) ∧ frC (fun x f => (x = a + 1 ∧ f = 1) ∨ (x = a + 3 ∧ f = 1) ∨ (x = a ∧ f = 3)) (fun x => x = a + 2 ∨ x = a + 4) S S' := by
  obtain ⟨h1, h2, h3, h4, h5, h6⟩ := h
  have l1 := rv_len h1
  have l2 := rv_len h2
  have g1 : jI S (a + 1) 1 < (jA S (a + 1 + 1)).length := by show _ < ((jA S (a + 2)).length : Int); omega
  have e1 := eR_add (x := (st : Int)) z h1.1 g1
  obtain ⟨v1, k1⟩ := rv_add (x := (st : Int)) h1 g1
  have z1 := ga_zS (l := a + 1) (f := 1) (a := a + 1 + 1) (x := (st : Int)) z
  have i3 : jI (ga S (a + 1) 1 (a + 1 + 1) st) (a + 3) 1 = jI S (a + 3) 1 := ga_I (.inl (by omega))
  have a4 : jA (ga S (a + 1) 1 (a + 1 + 1) st) (a + 3 + 1) = jA S (a + 3 + 1) := ga_A (by omega)
  have g2 : jI (ga S (a + 1) 1 (a + 1 + 1) st) (a + 3) 1 < (jA (ga S (a + 1) 1 (a + 1 + 1) st) (a + 3 + 1)).length := by
    rw [i3, a4]
    show _ < ((jA S (a + 4)).length : Int)
    omega
  have h2' : rk (ga S (a + 1) 1 (a + 1 + 1) st) (a + 3) := rk_eq h2 i3 a4
  have e2 := eR_add (x := (ln : Int)) z1 h2'.1 g2
  obtain ⟨v2, k2⟩ := rv_add (x := (ln : Int)) h2' g2
  have z2 := ga_zS (l := a + 3) (f := 1) (a := a + 3 + 1) (x := (ln : Int)) z1
  have fr1 : frC (fun x f => (x = a + 1 ∧ f = 1) ∨ (x = a + 3 ∧ f = 1) ∨ (x = a ∧ f = 3)) (fun x => x = a + 2 ∨ x = a + 4) S (ga (ga S (a + 1) 1 (a + 1 + 1) st) (a + 3) 1 (a + 3 + 1) ln) := frC_trans (frC_ga (by omega) (by omega)) (frC_ga (by omega) (by omega))
  rw [rv_eq (S' := ga S (a + 1) 1 (a + 1 + 1) st) (S := S) (a := a + 3) i3 a4] at v2
  have w1 : rv (ga (ga S (a + 1) 1 (a + 1 + 1) st) (a + 3) 1 (a + 3 + 1) ln) (a + 1) = rv S (a + 1) ++ [(st : Int)] := by
    rw [rv_eq (S := ga S (a + 1) 1 (a + 1 + 1) st) (ga_I (.inl (by omega))) (ga_A (by omega))]
    exact v1
  have k1' : rk (ga (ga S (a + 1) 1 (a + 1 + 1) st) (a + 3) 1 (a + 3 + 1) ln) (a + 1) := rk_eq k1 (ga_I (.inl (by omega))) (ga_A (by omega))
  generalize ga (ga S (a + 1) 1 (a + 1 + 1) st) (a + 3) 1 (a + 3 + 1) ln = T at *
  have lT := rv_len k2
  rw [v2, List.length_append, List.length_singleton] at lT
  refine ⟨kI T a 3 (jI T (a + 3) 1), ?_, z2, ?_, frC_trans fr1 (frC_kI (by omega))⟩
  · unfold j_X4_add j_X4_add_0
    rw [e1, Option.bind_some, e2, Option.bind_some]
  · have y1 : rv (kI T a 3 (jI T (a + 3) 1)) (a + 1) = rv S (a + 1) ++ [(st : Int)] := by
      rw [rv_eq (S := T) (jI_ne (.inl (by omega))) rfl]; exact w1
    have y2 : rv (kI T a 3 (jI T (a + 3) 1)) (a + 3) = rv S (a + 3) ++ [(ln : Int)] := by
      rw [rv_eq (S := T) (jI_ne (.inl (by omega))) rfl]; exact v2
    refine ⟨rk_eq k1' (jI_ne (.inl (by omega))) rfl, rk_eq k2 (jI_ne (.inl (by omega))) rfl, by rw [y1, List.length_append, List.length_append, h3]; rfl, by rw [y2, List.length_append, List.length_append, h4]; rfl, by rw [jI_eq, List.length_append, List.length_singleton]; omega, fun i hi => ?_⟩
    rw [List.length_append, List.length_singleton] at hi
    rw [y1, y2, getD_app, getD_app, getD_appG]
    by_cases ei : i = l.length
    · refine ⟨st, ln, ?_, ?_, hle, ?_⟩
      · rw [if_neg (by omega), if_pos (by omega)]
      · rw [if_neg (by omega), if_pos (by omega)]
      · rw [if_neg (by omega), if_pos ei]
    · obtain ⟨s', n', q1, q2, q3, q4⟩ := h6 i (by omega)
      refine ⟨s', n', ?_, ?_, q3, ?_⟩
      · rw [if_pos (by omega)]; exact q1
      · rw [if_pos (by omega)]; exact q2
      · rw [if_pos (by omega)]; exact q4
/-- isSame: a span against a piece of a Row -/
theorem l6_same (z : zS S) {a0 a2 : Nat} (k1 : rk S (sgn a0)) (k2 : rk S a2) {own st ln : Nat} (h1 : own + ln ≤ (rv S (sgn a0)).length) (h2 : st + ln ≤ (rv S a2).length) (hs : ln ≤ 13000) {w : Int} : ∀ (j n k : Nat), k + j = ln → j < n → j_X4_isSame_28 a0 a2 n w st ln own k S = some (bi (((rv S (sgn a0)).drop (own + k)).take j = ((rv S a2).drop (st + k)).take j), S) := by
  have z1 := zS_le z (sgn a0 + 1)
  have z2 := zS_le z (a2 + 1)
  have q1 := rv_len k1
  have q2 := rv_len k2
  have q3 := k1.2
  have q4 := k2.2
  intro j
  induction j with
  | zero =>
    intro n k hk hn
    obtain ⟨n, rfl⟩ : ∃ m, n = m + 1 := ⟨n - 1, by omega⟩
    rw [j_X4_isSame_28, bi_t (by rw [List.take_zero, List.take_zero])]
    exact it (by omega) rfl
  | succ j ih =>
    intro n k hk hn
    obtain ⟨n, rfl⟩ : ∃ m, n = m + 1 := ⟨n - 1, by omega⟩
    have d1 := drop_getD (l := rv S (sgn a0)) (k := own + k) (by omega)
    have d2 := drop_getD (l := rv S a2) (k := st + k) (by omega)
    rw [j_X4_isSame_28]
    refine ie (by omega) (it ⟨by omega, by omega⟩ ?_)
    rw [eR_at z, Option.bind_some, show (own : Int) + (k : Int) = ((own + k : Nat) : Int) by omega, rv_at k1 (by omega)]
    dsimp only
    refine it ⟨by omega, by omega⟩ ?_
    rw [eR_at z, Option.bind_some, show (st : Int) + (k : Int) = ((st + k : Nat) : Int) by omega, rv_at k2 (by omega)]
    dsimp only
    rw [d1, d2, List.take_succ_cons, List.take_succ_cons]
    by_cases he : (rv S (sgn a0)).getD (own + k) 0 = (rv S a2).getD (st + k) 0
    · refine it he (it ⟨by omega, by omega⟩ ?_)
      rw [show (k : Int) + 1 = ((k + 1 : Nat) : Int) by omega, ih n (k + 1) (by omega) (by omega)]
      congr 2
      rw [← Nat.add_assoc, ← Nat.add_assoc]
      by_cases ht : ((rv S (sgn a0)).drop (own + k + 1)).take j = ((rv S a2).drop (st + k + 1)).take j
      · rw [bi_t ht, bi_t (by rw [he, ht])]
      · rw [bi_f ht, bi_f (fun q => ht (List.cons.inj q).2)]
    · refine ie he ?_
      rw [bi_f (fun q => he (List.cons.inj q).1)]
end CSP
