section MRD
variable {S S' S'' : iS} {F R : Nat → Prop}
/-- what is left of the model's TEXT -/
def mRs (S : iS) : List Int := (gv S 82 2 83).drop (jI S 82 27).toNat
/-- the model's reading can go on -/
def wM (S : iS) : Prop := zS S ∧ 0 ≤ jI S 82 2 ∧ jI S 82 2 ≤ 600 ∧ 0 ≤ jI S 82 27 ∧ jI S 82 27 ≤ 1000
/-- and has no FAULT so far -/
def uM (S : iS) : Prop := wM S ∧ jI S 82 30 = 0 ∧ jI S 82 27 ≤ jI S 82 2
/-- nothing else has changed -/
def fr (F R : Nat → Prop) (S S' : iS) : Prop := (∀ a f, ¬ (a = 82 ∧ F f) → jI S' a f = jI S a f) ∧ (∀ a, ¬ R a → jA S' a = jA S a) ∧ S'.2.2 = S.2.2
theorem fr_refl : fr F R S S := ⟨fun _ _ _ => rfl, fun _ _ => rfl, rfl⟩
theorem fr_trans (h : fr F R S S') (h' : fr F R S' S'') : fr F R S S'' := ⟨fun a f q => (h'.1 a f q).trans (h.1 a f q), fun a q => (h'.2.1 a q).trans (h.2.1 a q), h'.2.2.trans h.2.2⟩
theorem fr_mono {F' R' : Nat → Prop} (h : fr F R S S') (hF : ∀ f, F f → F' f) (hR : ∀ a, R a → R' a) : fr F' R' S S' := ⟨fun a f q => h.1 a f (fun k => q ⟨k.1, hF f k.2⟩), fun a q => h.2.1 a (fun k => q (hR a k)), h.2.2⟩
theorem fr_kI {f : Nat} {v : Int} (h : F f) : fr F R S (kI S 82 f v) := ⟨fun a g q => jI_ne (by
  by_cases e : a = 82
  · by_cases e' : g = f
    · subst e e'; exact absurd ⟨rfl, h⟩ q
    · exact .inr e'
  · exact .inl e), fun _ _ => rfl, rfl⟩
theorem fr_kA {a : Nat} {l : List Int} (h : R a) : fr F R S (kA S a l) := ⟨fun _ _ _ => rfl, fun b q => jA_ne (fun e => q (e ▸ h)), rfl⟩
theorem mRs_fr (h : fr F R S S') (h2 : ¬ F 2) (h27 : ¬ F 27) (h83 : ¬ R 83) : mRs S' = mRs S := by
  unfold mRs gv
  rw [h.1 82 2 (fun q => h2 q.2), h.1 82 27 (fun q => h27 q.2), h.2.1 83 h83]
theorem drop_tail {l : List Int} {n : Nat} : (l.drop n).tail = l.drop (n + 1) := by rw [List.tail_drop]
theorem mRs_step (w : wM S) : mRs (kI S 82 27 (jI S 82 27 + 1)) = (mRs S).tail := by
  unfold mRs gv
  rw [jI_eq, jI_ne (.inr (by decide)), jA_kI, drop_tail, show (jI S 82 27 + 1).toNat = (jI S 82 27).toNat + 1 by have := w.2.2.2.1; omega]
theorem mRs_len (w : wM S) (h : jI S 82 27 ≤ jI S 82 2) : ((mRs S).length : Int) = jI S 82 2 - jI S 82 27 := by
  obtain ⟨z, h1, h2, h3, h4⟩ := w
  unfold mRs
  rw [List.length_drop]
  have := gv_len (S := S) (l := 82) (f := 2) (a := 83) h1 (by rw [z83 z]; omega)
  omega
theorem mRs_get (w : wM S) (i : Nat) : (mRs S)[i]? = if jI S 82 27 + i < jI S 82 2 then some ((jA S 83).getD ((jI S 82 27).toNat + i) 0) else none := by
  obtain ⟨z, h1, h2, h3, h4⟩ := w
  unfold mRs gv
  rw [List.getElem?_drop, List.getElem?_take]
  have hl := z83 z
  by_cases h : jI S 82 27 + i < jI S 82 2
  · rw [if_pos h, if_pos (by omega), List.getD_eq_getElem?_getD]
    have : (jI S 82 27).toNat + i < (jA S 83).length := by omega
    rw [List.getElem?_eq_getElem this]
    rfl
  · rw [if_neg h, if_neg (by omega)]
theorem hd_eq (r : List Int) : hd r = match r[0]? with | none => -1 | some c => if c = 10 then -1 else c := by
  cases r <;> rfl
theorem e7_here (w : wM S) : j_X7_here S = some (hd (mRs S), S) := by
  have hg := mRs_get w 0
  obtain ⟨z, h1, h2, h3, h4⟩ := w
  have hl := z83 z
  unfold j_X7_here j_X7_here_0 j_X7_here_37 j_X7_here_38
  by_cases h : jI S 82 2 ≤ jI S 82 27
  · rw [if_neg (by omega)] at hg
    rw [hd_eq, hg]
    exact it h rfl
  · rw [if_pos (by omega), Nat.add_zero] at hg
    rw [hd_eq, hg]
    refine ie h (it ⟨by omega, by omega⟩ ?_)
    dsimp only
    by_cases h10 : (jA S 83).getD (jI S 82 27).toNat 0 = 10
    · rw [if_pos h10, if_pos h10]
    · rw [if_neg h10, if_neg h10]
theorem e7_wrong0 {k p : Int} (h : jI S 82 30 = 0) : j_X7_wrong k p S = some (kI (kI S 82 30 k) 82 31 p) := by
  unfold j_X7_wrong j_X7_wrong_0 j_X7_wrong_17
  exact ie (nn h) rfl
theorem e7_wrong1 {k p : Int} (h : ¬ jI S 82 30 = 0) : j_X7_wrong k p S = some S := by
  unfold j_X7_wrong j_X7_wrong_0 j_X7_wrong_17
  exact it h rfl
theorem e7_endedF (h : ¬ jI S 82 30 = 0) : j_X7_ended S = some S := by
  unfold j_X7_ended j_X7_ended_0 j_X7_ended_33
  exact it h rfl
theorem e7_endedT (w : wM S) (h : isE (mRs S)) : j_X7_ended S = some S := by
  by_cases hf : jI S 82 30 = 0
  · unfold j_X7_ended j_X7_ended_0 j_X7_ended_33
    refine ie (nn hf) ?_
    rw [e7_here w, Option.bind_some]
    by_cases h1 : hd (mRs S) = 32
    · exact it h1 rfl
    · refine ie h1 ?_
      rw [e7_here w, Option.bind_some]
      exact it (h.resolve_left h1) rfl
  · exact e7_endedF hf
theorem e7_endedW (w : wM S) (hf : jI S 82 30 = 0) (h : ¬ isE (mRs S)) : j_X7_ended S = some (kI (kI S 82 30 1) 82 31 (jI S 82 27)) := by
  unfold j_X7_ended j_X7_ended_0 j_X7_ended_33
  refine ie (nn hf) ?_
  rw [e7_here w, Option.bind_some]
  refine ie (fun q => h (.inl q)) ?_
  rw [e7_here w, Option.bind_some]
  refine ie (fun q => h (.inr q)) ?_
  rw [e7_wrong0 hf]
  rfl
theorem wM_step (w : wM S) (h : jI S 82 27 < 1000) : wM (kI S 82 27 (jI S 82 27 + 1)) := by
  obtain ⟨z, h1, h2, h3, h4⟩ := w
  refine ⟨z, ?_, ?_, ?_, ?_⟩
  · rw [jI_ne (.inr (by decide))]; exact h1
  · rw [jI_ne (.inr (by decide))]; exact h2
  · rw [jI_eq]; omega
  · rw [jI_eq]; omega
theorem hd_def {c : Int} {r : List Int} : hd (c :: r) = if c = 10 then -1 else c := rfl
theorem hd_cons {r : List Int} (h : hd r ≠ -1) : ∃ c r', r = c :: r' ∧ hd r = c := by
  cases r with
  | nil => exact absurd rfl h
  | cons c r' =>
    refine ⟨c, r', rfl, ?_⟩
    rw [hd_def] at h ⊢
    by_cases e : c = 10
    · rw [if_pos e] at h; exact absurd rfl h
    · rw [if_neg e]
theorem uM_lt (u : uM S) (h : hd (mRs S) ≠ -1) : jI S 82 27 < jI S 82 2 := by
  obtain ⟨c, r', e, _⟩ := hd_cons h
  have := mRs_len u.1 u.2.2
  rw [e, List.length_cons] at this
  omega
theorem uM_step (u : uM S) (h : hd (mRs S) ≠ -1) : uM (kI S 82 27 (jI S 82 27 + 1)) := by
  have hl := uM_lt u h
  have h6 := u.1.2.2.1
  refine ⟨wM_step u.1 (by omega), ?_, ?_⟩
  · rw [jI_ne (.inr (by decide))]; exact u.2.1
  · rw [jI_eq, jI_ne (.inr (by decide))]; omega
theorem uM_fr (u : uM S) (h : fr F R S S') (z : zS S') (h2 : ¬ F 2) (h27 : ¬ F 27) (h30 : ¬ F 30) : uM S' := by
  obtain ⟨⟨_, h1, h2', h3, h4⟩, h5, h6⟩ := u
  have e2 := h.1 82 2 (fun q => h2 q.2)
  have e27 := h.1 82 27 (fun q => h27 q.2)
  have e30 := h.1 82 30 (fun q => h30 q.2)
  exact ⟨⟨z, by omega, by omega, by omega, by omega⟩, by omega, by omega⟩
theorem wM_fr (w : wM S) (h : fr F R S S') (z : zS S') (h2 : ¬ F 2) (h27 : ¬ F 27) : wM S' := by
  obtain ⟨_, h1, h2', h3, h4⟩ := w
  have e2 := h.1 82 2 (fun q => h2 q.2)
  have e27 := h.1 82 27 (fun q => h27 q.2)
  exact ⟨z, by omega, by omega, by omega, by omega⟩
/-- BLANKS -/
theorem l7_blanks : ∀ (n : Nat) (S : iS), wM S → (mRs S).length < n → ∃ p, j_X7_blanks_0 n S = some (kI S 82 27 p) ∧ mRs (kI S 82 27 p) = skb (mRs S) ∧ jI S 82 27 ≤ p ∧ (jI S 82 27 ≤ jI S 82 2 → p ≤ jI S 82 2) ∧ (p = jI S 82 27 ∨ p ≤ jI S 82 2) := by
  intro n
  induction n with
  | zero => intro S _ h; omega
  | succ n ih =>
    intro S w hn
    rw [j_X7_blanks_0, e7_here w, Option.bind_some]
    dsimp only
    have hself : kI S 82 27 (jI S 82 27) = S := by
      unfold kI jI
      refine Prod.ext (funext fun a' => funext fun f' => ?_) rfl
      show (if a' = 82 ∧ f' = 27 then S.1 82 27 else S.1 a' f') = S.1 a' f'
      by_cases h : a' = 82 ∧ f' = 27
      · rw [if_pos h, h.1, h.2]
      · rw [if_neg h]
    by_cases h : hd (mRs S) = 32
    · obtain ⟨c, r', er, ec⟩ := hd_cons (r := mRs S) (by omega)
      have w4 := w.2.2.1
      have w3 := w.2.2.2.1
      have hlt : jI S 82 27 < jI S 82 2 := by
        have hg := mRs_get w 0
        rw [er] at hg
        by_cases q : jI S 82 27 + ((0 : Nat) : Int) < jI S 82 2
        · omega
        · rw [if_neg q] at hg; cases hg
      have ws := wM_step w (by omega)
      have e1 := mRs_step w
      rw [er, List.tail_cons] at e1
      rw [er, List.length_cons] at hn
      obtain ⟨p, q1, q2, q3, q4, q5⟩ := ih _ ws (by rw [e1]; omega)
      rw [kI_kI] at q1 q2
      rw [jI_eq] at q3 q4 q5
      rw [jI_ne (.inr (by decide))] at q4 q5
      refine ⟨p, ?_, ?_, by omega, fun _ => q4 (by omega), ?_⟩
      · refine ie (nn h) (it ⟨by omega, by omega⟩ q1)
      · rw [q2, e1, er, skb, if_pos (by rw [← ec]; exact h)]
      · rcases q5 with q | q
        · exact .inr (by omega)
        · exact .inr q
    · refine ⟨jI S 82 27, ?_, ?_, by omega, fun q => q, .inl rfl⟩
      · rw [hself]; exact it h rfl
      · rw [hself]
        cases er : mRs S with
        | nil => rfl
        | cons c r' =>
          rw [skb, if_neg]
          intro hc
          apply h
          rw [er, hd_def, hc]
          rfl
theorem e7_blanks (w : wM S) : ∃ p, j_X7_blanks S = some (kI S 82 27 p) ∧ mRs (kI S 82 27 p) = skb (mRs S) ∧ jI S 82 27 ≤ p ∧ (jI S 82 27 ≤ jI S 82 2 → p ≤ jI S 82 2) ∧ (p = jI S 82 27 ∨ p ≤ jI S 82 2) := by
  refine l7_blanks fuel S w ?_
  unfold mRs gv fuel
  rw [List.length_drop, List.length_take, z83 w.1]
  omega
theorem uM_at (u : uM S) {p : Int} (h : jI S 82 27 ≤ p) (h' : p ≤ jI S 82 2) : uM (kI S 82 27 p) := by
  obtain ⟨⟨z, h1, h2, h3, h4⟩, h5, h6⟩ := u
  refine ⟨⟨z, ?_, ?_, ?_, ?_⟩, ?_, ?_⟩
  · rw [jI_ne (.inr (by decide))]; exact h1
  · rw [jI_ne (.inr (by decide))]; exact h2
  · rw [jI_eq]; omega
  · rw [jI_eq]; omega
  · rw [jI_ne (.inr (by decide))]; exact h5
  · rw [jI_eq, jI_ne (.inr (by decide))]; exact h'
end MRD
