section MVA
variable {S S' : iS} {ns : List Int}
/-- PLAIN signs, as far as they go -/
def plP : List Int → List Int
  | [] => []
  | c :: r => if isPln c then c :: plP r else []
theorem hd_pln {c : Int} {r : List Int} : isPln (hd (c :: r)) ↔ isPln c := by
  rw [hd_def]
  by_cases h : c = 10
  · rw [if_pos h, h]; decide
  · rw [if_neg h]
theorem hd_fig {c : Int} {r : List Int} : isFig (hd (c :: r)) ↔ isFig c := by
  rw [hd_def]
  by_cases h : c = 10
  · rw [if_pos h, h]; decide
  · rw [if_neg h]
theorem hd_c {c : Int} {r : List Int} (h : c ≠ 10) : hd (c :: r) = c := by
  rw [hd_def, if_neg h]
theorem plK_plP : ∀ (k : Nat) (r : List Int), plK k r = if (plP r).length ≤ k then some (plP r, r.drop (plP r).length) else none := by
  intro k
  induction k with
  | zero =>
    intro r
    cases r with
    | nil => rfl
    | cons c r =>
      rw [plK, plP]
      by_cases h : isPln c
      · rw [if_pos (hd_pln.mpr h), if_pos h, if_neg (by rw [List.length_cons]; omega)]
      · rw [if_neg (fun q => h (hd_pln.mp q)), if_neg h]; rfl
  | succ k ih =>
    intro r
    cases r with
    | nil => rfl
    | cons c r =>
      rw [plK, plP]
      by_cases h : isPln c
      · rw [if_pos (hd_pln.mpr h), if_pos h, List.tail_cons, ih r, hd_c (by omega), List.length_cons]
        by_cases hl : (plP r).length ≤ k
        · rw [if_pos hl, if_pos (by omega)]; rfl
        · rw [if_neg hl, if_neg (by omega)]; rfl
      · rw [if_neg (fun q => h (hd_pln.mp q)), if_neg h]; rfl
theorem plP_hd {r : List Int} (h : isPln (hd r)) : ∃ c s, r = c :: s ∧ hd r = c ∧ plP r = c :: plP s := by
  cases r with
  | nil => exact absurd h (by decide)
  | cons c s =>
    have hc := hd_pln.mp h
    exact ⟨c, s, rfl, hd_c (by omega), by rw [plP, if_pos hc]⟩
theorem plP_drop : ∀ (r : List Int), ¬ isPln (hd (r.drop (plP r).length)) := by
  intro r
  induction r with
  | nil => decide
  | cons c r ih =>
    rw [plP]
    by_cases h : isPln c
    · rw [if_pos h, List.length_cons, List.drop_succ_cons]; exact ih
    · rw [if_neg h]; exact fun q => h (hd_pln.mp q)
theorem fgK_plP : ∀ (k : Nat) (r : List Int), (∀ c ∈ plP r, isFig c) → (plP r).length ≤ k → fgK k r = some (plP r, r.drop (plP r).length) := by
  intro k
  induction k with
  | zero =>
    intro r hf hl
    have : plP r = [] := List.eq_nil_of_length_eq_zero (by omega)
    have hn := plP_drop r
    rw [this] at hn
    rw [this, fgK_n (r := r) (fun q => hn (.inl q))]
    rfl
  | succ k ih =>
    intro r hf hl
    cases r with
    | nil => rfl
    | cons c r =>
      rw [plP] at hf hl ⊢
      by_cases h : isPln c
      · rw [if_pos h] at hf hl ⊢
        have hc := hf c List.mem_cons_self
        rw [fgK, if_pos (hd_fig.mpr hc), List.tail_cons, ih r (fun x hx => hf x (List.mem_cons_of_mem _ hx)) (by rw [List.length_cons] at hl; omega), hd_c (by omega)]
        rfl
      · rw [if_neg h]
        rw [fgK_n (fun q => h (.inl (hd_fig.mp q)))]
        rfl
/-- the model's text at an index -/
theorem t83 (w : wM S) {i : Nat} {c : Int} {s : List Int} (h : (mRs S).drop i = c :: s) : jI S 82 27 + i < jI S 82 2 ∧ (jA S 83).getD (jI S 82 27 + i).toNat 0 = c ∧ (mRs S).drop (i + 1) = s := by
  have hg := mRs_get w i
  have e : (mRs S)[i]? = some c := by
    have := congrArg (fun l : List Int => l[0]?) h
    simpa using this
  rw [e] at hg
  by_cases hl : jI S 82 27 + i < jI S 82 2
  · rw [if_pos hl] at hg
    refine ⟨hl, ?_, ?_⟩
    · have := w.2.2.2.1
      rw [show (jI S 82 27 + i).toNat = (jI S 82 27).toNat + i by omega]
      exact (Option.some.inj hg).symm
    · rw [← List.drop_drop, h]; rfl
  · rw [if_neg hl] at hg; cases hg
theorem t83n (w : wM S) {i : Nat} (h : (mRs S).drop i = []) : jI S 82 2 ≤ jI S 82 27 + i := by
  have hg := mRs_get w i
  have e : (mRs S)[i]? = none := by
    rw [List.getElem?_eq_none]
    have := congrArg List.length h
    rw [List.length_drop] at this
    have h0 : ([] : List Int).length = 0 := rfl
    omega
  rw [e] at hg
  by_cases hl : jI S 82 27 + i < jI S 82 2
  · rw [if_pos hl] at hg; cases hg
  · omega
theorem l7_ps (w : wM S) : ∀ (s : List Int) (i n : Nat) (l2 : Int), (mRs S).drop i = s → s.length < n → (l2 = 0 ∨ l2 = 1) → j_X7_plainSort_7 n (jI S 82 27 + i) l2 S = j_X7_plainSort_55 (jI S 82 27 + i + (plP s).length) (bi (l2 = 1 ∧ ∀ c ∈ plP s, isFig c)) S := by
  have w1 := w.2.2.1
  have w2 := w.2.2.2.1
  have w3 := w.2.2.2.2
  have l83 := z83 w.1
  intro s
  induction s with
  | nil =>
    intro i n l2 hs hn hl
    obtain ⟨m, rfl⟩ : ∃ m, n = m + 1 := ⟨n - 1, by omega⟩
    have h := t83n w hs
    rw [j_X7_plainSort_7]
    refine it (by omega) ?_
    rw [show plP [] = [] from rfl, List.length_nil, show jI S 82 27 + (i : Int) + ((0 : Nat) : Int) = jI S 82 27 + i by omega]
    rcases hl with h | h
    · rw [bi_f (fun q => by omega), h]
    · rw [bi_t ⟨h, fun c hc => absurd hc List.not_mem_nil⟩, h]
  | cons c s ih =>
    intro i n l2 hs hn hl
    obtain ⟨m, rfl⟩ : ∃ m, n = m + 1 := ⟨n - 1, by omega⟩
    obtain ⟨h1, h2, h3⟩ := t83 w hs
    rw [List.length_cons] at hn
    rw [j_X7_plainSort_7]
    refine ie (by omega) (it ⟨by omega, by omega⟩ ?_)
    rw [h2, e7_pln, Option.bind_some, plP]
    dsimp only
    by_cases hp : isPln c
    · rw [if_pos hp]
      refine ie (bi_n hp) ?_
      have e48 : ∀ t, (t = 0 ∨ t = 1) → j_X7_plainSort_48 (fun l1' l2' S' => j_X7_plainSort_7 m l1' l2' S') (jI S 82 27 + i) l2 t S = j_X7_plainSort_55 (jI S 82 27 + (i + 1 : Nat) + (plP s).length) (bi (t = 1 ∧ ∀ c ∈ plP s, isFig c)) S := by
        intro t ht
        unfold j_X7_plainSort_48
        refine it ⟨by omega, by omega⟩ ?_
        rw [show jI S 82 27 + (i : Int) + 1 = jI S 82 27 + ((i + 1 : Nat) : Int) by omega]
        exact ih (i + 1) m t h3 (by omega) ht
      have el : jI S 82 27 + ((i + 1 : Nat) : Int) + ((plP s).length : Int) = jI S 82 27 + (i : Int) + ((c :: plP s).length : Int) := by rw [List.length_cons]; omega
      rw [el] at e48
      have hno : ∀ t : Int, t = 0 → bi (t = 1 ∧ ∀ c ∈ plP s, isFig c) = 0 := fun t ht => bi_f (fun q => by omega)
      by_cases hl2 : l2 = 0
      · refine it hl2 ?_
        unfold j_X7_plainSort_47
        rw [e48 0 (.inl rfl), hno 0 rfl, bi_f (fun q => by omega)]
      · refine ie hl2 (it ⟨by omega, by omega⟩ ?_)
        rw [h2, e7_fig, Option.bind_some]
        dsimp only
        by_cases hf : isFig c
        · refine ie (bi_n hf) ?_
          rw [e48 1 (.inr rfl)]
          congr 1
          by_cases ha : ∀ c ∈ plP s, isFig c
          · rw [bi_t ⟨rfl, ha⟩, bi_t ⟨by omega, fun x hx => by
              rcases List.mem_cons.mp hx with e | e
              · rw [e]; exact hf
              · exact ha x e⟩]
          · rw [bi_f (fun q => ha q.2), bi_f (fun q => ha (fun x hx => q.2 x (List.mem_cons_of_mem _ hx)))]
        · refine it (bi_0.mpr hf) ?_
          unfold j_X7_plainSort_47
          rw [e48 0 (.inl rfl), hno 0 rfl, bi_f (fun q => hf (q.2 c List.mem_cons_self))]
    · rw [if_neg hp]
      refine it (bi_0.mpr hp) ?_
      rw [List.length_nil, show jI S 82 27 + (i : Int) + ((0 : Nat) : Int) = jI S 82 27 + i by omega]
      rcases hl with h | h
      · rw [bi_f (fun q => by omega), h]
      · rw [bi_t ⟨h, fun c hc => absurd hc List.not_mem_nil⟩, h]
/-- which sort PLAIN signs are -/
def psS (r : List Int) : Int := if (∀ c ∈ plP r, isFig c) ∧ hd (r.drop (plP r).length) = 46 then 2 else if (∀ c ∈ plP r, isFig c) ∧ (plP r).length ≤ 6 ∧ ¬ (1 < (plP r).length ∧ hd r = 48) then 1 else 3
theorem e7_ps (u : uM S) (hp : isPln (hd (mRs S))) : j_X7_plainSort S = some (psS (mRs S), S) := by
  have w := u.1
  have w1 := w.2.2.1
  have w2 := w.2.2.2.1
  have w3 := w.2.2.2.2
  have l83 := z83 w.1
  obtain ⟨c, s, er, ec, ep⟩ := plP_hd hp
  have hlen : (mRs S).length < fuel := by
    have := mRs_len w u.2.2
    unfold fuel
    omega
  have h0 := l7_ps w (mRs S) 0 fuel 1 rfl hlen (.inr rfl)
  rw [show jI S 82 27 + ((0 : Nat) : Int) = jI S 82 27 by omega] at h0
  unfold j_X7_plainSort j_X7_plainSort_0
  rw [h0]
  have hL1 : 1 ≤ (plP (mRs S)).length := by rw [ep, List.length_cons]; omega
  have hat : (jA S 83).getD (jI S 82 27).toNat 0 = hd (mRs S) := by
    obtain ⟨_, h2, _⟩ := t83 w (i := 0) (show (mRs S).drop 0 = c :: s from er)
    rw [show jI S 82 27 + ((0 : Nat) : Int) = jI S 82 27 by omega] at h2
    rw [h2, ec]
  have hle : (plP (mRs S)).length ≤ (mRs S).length := by
    have : ∀ r : List Int, (plP r).length ≤ r.length := by
      intro r
      induction r with
      | nil => exact Nat.le_refl _
      | cons c r ih =>
        rw [plP]
        by_cases h : isPln c
        · rw [if_pos h, List.length_cons, List.length_cons]; omega
        · rw [if_neg h]; exact Nat.zero_le _
    exact this _
  have hml := mRs_len w u.2.2
  generalize hP : plP (mRs S) = P at *
  have e80 : ∀ t : Int, (t = 0 ∨ t = 1) → j_X7_plainSort_80 (jI S 82 27 + P.length) t S = some (if t = 1 ∧ P.length ≤ 6 ∧ ¬ (1 < P.length ∧ hd (mRs S) = 48) then 1 else 3, S) := by
    intro t ht
    unfold j_X7_plainSort_80 j_X7_plainSort_123 j_X7_plainSort_119 j_X7_plainSort_124
    have h3v : ¬ (t = 1 ∧ P.length ≤ 6 ∧ ¬ (1 < P.length ∧ hd (mRs S) = 48)) → (if t = 1 ∧ P.length ≤ 6 ∧ ¬ (1 < P.length ∧ hd (mRs S) = 48) then (1 : Int) else 3) = 3 := fun q => if_neg q
    have h1v : (t = 1 ∧ P.length ≤ 6 ∧ ¬ (1 < P.length ∧ hd (mRs S) = 48)) → (if t = 1 ∧ P.length ≤ 6 ∧ ¬ (1 < P.length ∧ hd (mRs S) = 48) then (1 : Int) else 3) = 1 := fun q => if_pos q
    by_cases h1 : t = 0
    · rw [h3v (fun q => by omega)]
      exact it h1 rfl
    · refine ie h1 (it ⟨by omega, by omega⟩ ?_)
      by_cases h2 : (6 : Int) < jI S 82 27 + P.length - jI S 82 27
      · rw [h3v (fun q => by omega)]
        exact it h2 rfl
      · refine ie h2 ?_
        by_cases h3 : jI S 82 27 + (P.length : Int) - jI S 82 27 = 1
        · rw [h1v ⟨by omega, by omega, fun q => by omega⟩]
          exact it h3 rfl
        · refine ie h3 (it ⟨by omega, by omega⟩ ?_)
          rw [hat]
          by_cases h4 : hd (mRs S) = 48
          · rw [h3v (fun q => q.2.2 ⟨by omega, h4⟩)]
            exact it h4 rfl
          · rw [h1v ⟨by omega, by omega, fun q => h4 q.2⟩]
            exact ie h4 rfl
  have hps : ∀ v : Int, (if (∀ c ∈ P, isFig c) ∧ hd ((mRs S).drop P.length) = 46 then (2 : Int) else if (∀ c ∈ P, isFig c) ∧ P.length ≤ 6 ∧ ¬ (1 < P.length ∧ hd (mRs S) = 48) then 1 else 3) = v → psS (mRs S) = v := by
    intro v hv
    unfold psS
    rw [hP]
    exact hv
  have h13 : ¬ (hd ((mRs S).drop P.length) = 46) → (∀ c ∈ P, isFig c) → j_X7_plainSort_80 (jI S 82 27 + P.length) 1 S = some (psS (mRs S), S) := by
    intro hn ha
    rw [e80 1 (.inr rfl)]
    by_cases hc : P.length ≤ 6 ∧ ¬ (1 < P.length ∧ hd (mRs S) = 48)
    · rw [hps 1 (ie (fun q => hn q.2) (it ⟨ha, hc⟩ rfl)), if_pos ⟨rfl, hc⟩]
    · rw [hps 3 (ie (fun q => hn q.2) (ie (fun q => hc q.2) rfl)), if_neg (fun q => hc q.2)]
  unfold j_X7_plainSort_55
  by_cases ha : ∀ c ∈ P, isFig c
  · rw [bi_t ⟨rfl, ha⟩]
    refine ie (by decide) ?_
    cases hd2 : (mRs S).drop P.length with
    | nil =>
      have := t83n w hd2
      exact it (by omega) (h13 (by rw [hd2]; decide) ha)
    | cons d r2 =>
      obtain ⟨h1, h2, _⟩ := t83 w hd2
      refine ie (by omega) (it ⟨by omega, by omega⟩ ?_)
      rw [h2]
      by_cases h46 : d = 46
      · rw [hps 2 (it ⟨ha, by rw [hd2, h46]; rfl⟩ rfl)]
        exact ie (nn h46) rfl
      · refine it h46 (h13 (fun q => h46 ?_) ha)
        rw [hd2, hd_def] at q
        by_cases h10 : d = 10
        · rw [if_pos h10] at q; omega
        · rw [if_neg h10] at q; exact q
  · rw [bi_f (fun q => ha q.2), hps 3 (ie (fun q => ha q.1) (ie (fun q => ha q.1) rfl))]
    refine it rfl ?_
    rw [e80 0 (.inl rfl), if_neg (fun q => absurd q.1 (by decide))]
end MVA
