section RW
variable {S : iS} {l f a a' f' : Nat} {x : Int} {xs ys : List Int}
/-- one more behind a counted row -/
def ga (S : iS) (l f a : Nat) (x : Int) : iS := kI (kA S a ((jA S a).set (jI S l f).toNat x)) l f (jI S l f + 1)
def gaL (S : iS) (l f a : Nat) : List Int → iS
  | [] => S
  | x :: xs => gaL (ga S l f a x) l f a xs
/-- a counted row -/
def gv (S : iS) (l f a : Nat) : List Int := (jA S a).take (jI S l f).toNat
theorem ga_len : jI (ga S l f a x) l f = jI S l f + 1 := jI_eq
theorem ga_I (h : a' ≠ l ∨ f' ≠ f) : jI (ga S l f a x) a' f' = jI S a' f' := by unfold ga; rw [jI_ne h, jI_kA]
theorem ga_A (h : a' ≠ a) : jA (ga S l f a x) a' = jA S a' := by unfold ga; rw [jA_kI, jA_ne h]
theorem ga_AA : jA (ga S l f a x) a = (jA S a).set (jI S l f).toNat x := by unfold ga; rw [jA_kI, jA_eq]
theorem ga_zS (h : zS S) : zS (ga S l f a x) := zS_kI (zS_set h)
theorem set_take {l : List Int} : ∀ {n : Nat} {x : Int}, n < l.length → (l.set n x).take (n + 1) = l.take n ++ [x] := by
  induction l with
  | nil => intro n x h; exact absurd h (Nat.not_lt_zero _)
  | cons b l ih =>
    intro n x h
    cases n with
    | zero => simp
    | succ n => simp only [List.set_cons_succ, List.take_succ_cons, List.cons_append, ih (Nat.lt_of_succ_lt_succ h)]
theorem ga_v (h0 : 0 ≤ jI S l f) (h1 : jI S l f < (jA S a).length) : gv (ga S l f a x) l f a = gv S l f a ++ [x] := by
  unfold gv
  rw [ga_len, ga_AA, show (jI S l f + 1).toNat = (jI S l f).toNat + 1 by omega]
  exact set_take (by omega)
theorem gaL_len : jI (gaL S l f a xs) l f = jI S l f + xs.length := by
  induction xs generalizing S with
  | nil => simp [gaL]
  | cons x xs ih => rw [gaL, ih, ga_len, List.length_cons]; omega
theorem gaL_I (h : a' ≠ l ∨ f' ≠ f) : jI (gaL S l f a xs) a' f' = jI S a' f' := by
  induction xs generalizing S with
  | nil => rfl
  | cons x xs ih => rw [gaL, ih, ga_I h]
theorem gaL_A (h : a' ≠ a) : jA (gaL S l f a xs) a' = jA S a' := by
  induction xs generalizing S with
  | nil => rfl
  | cons x xs ih => rw [gaL, ih, ga_A h]
theorem gaL_zS (h : zS S) : zS (gaL S l f a xs) := by
  induction xs generalizing S with
  | nil => exact h
  | cons x xs ih => exact ih (ga_zS h)
theorem gaL_P : (gaL S l f a xs).2.2 = S.2.2 := by
  induction xs generalizing S with
  | nil => rfl
  | cons x xs ih => rw [gaL, ih]; rfl
theorem gaL_v (h0 : 0 ≤ jI S l f) (h1 : jI S l f + xs.length ≤ (jA S a).length) : gv (gaL S l f a xs) l f a = gv S l f a ++ xs := by
  induction xs generalizing S with
  | nil => simp [gaL]
  | cons x xs ih =>
    rw [List.length_cons] at h1
    rw [gaL, ih (by rw [ga_len]; omega) (by rw [ga_len, ga_AA, List.length_set]; omega), ga_v h0 (by omega), List.append_assoc]
    rfl
theorem gaL_app : gaL (gaL S l f a xs) l f a ys = gaL S l f a (xs ++ ys) := by
  induction xs generalizing S with
  | nil => rfl
  | cons x xs ih => rw [gaL, ih]; rfl
theorem gv_len (h0 : 0 ≤ jI S l f) (h1 : jI S l f ≤ (jA S a).length) : ((gv S l f a).length : Int) = jI S l f := by
  unfold gv
  rw [List.length_take]; omega
theorem gv_get {i : Nat} (h : (i : Int) < jI S l f) : (gv S l f a).getD i 0 = (jA S a).getD i 0 := by
  unfold gv
  rw [List.getD_eq_getElem?_getD, List.getD_eq_getElem?_getD, List.getElem?_take, if_pos (by omega)]
/-- a Prop as 0 or 1 -/
def bi (c : Prop) [Decidable c] : Int := if c then 1 else 0
theorem bi_t {c : Prop} [Decidable c] (h : c) : bi c = 1 := if_pos h
theorem bi_f {c : Prop} [Decidable c] (h : ¬ c) : bi c = 0 := if_neg h
theorem bi_0 {c : Prop} [Decidable c] : bi c = 0 ↔ ¬ c := by
  unfold bi; by_cases h : c
  · simp [h]
  · simp [h]
theorem bi_n {c : Prop} [Decidable c] (h : c) : ¬ bi c = 0 := fun k => bi_0.mp k h
theorem nn {c : Prop} (h : c) : ¬ ¬ c := fun k => k h
theorem bi_01 {c : Prop} [Decidable c] : bi c = 0 ∨ bi c = 1 := by
  unfold bi; by_cases h : c
  · simp [h]
  · simp [h]
theorem eR_add (z : zS S) (h0 : 0 ≤ jI S a 1) (h1 : jI S a 1 < (jA S (a + 1)).length) : j_X3_add a x S = some (ga S a 1 (a + 1) x) := by
  have := zS_le z (a + 1)
  unfold j_X3_add j_X3_add_0 j_X3_add_39
  rw [if_neg (by omega), if_pos (by omega), if_neg (by omega), if_pos ⟨by omega, by omega⟩, if_pos ⟨by omega, by omega⟩]
  rfl
theorem eR_addF (z : zS S) (h : jI S a 1 < 0 ∨ ((jA S (a + 1)).length : Int) ≤ jI S a 1) : j_X3_add a x S = some S := by
  have := zS_le z (a + 1)
  unfold j_X3_add j_X3_add_0 j_X3_add_39
  by_cases h' : jI S a 1 < 0
  · rw [if_pos h']
  · rw [if_neg h', if_pos (by omega), if_pos (by omega)]
def rat (S : iS) (a : Nat) (i : Int) : Int := if 0 ≤ i ∧ i < jI S a 1 ∧ i < (jA S (a + 1)).length then (jA S (a + 1)).getD i.toNat 0 else -1
theorem eR_at (z : zS S) : j_X3_at a x S = some (rat S a x, S) := by
  have := zS_le z (a + 1)
  unfold j_X3_at j_X3_at_0 j_X3_at_30 j_X3_at_31 rat
  by_cases h1 : x < 0
  · rw [if_pos h1, if_neg (by omega)]
  · by_cases h2 : jI S a 1 ≤ x
    · rw [if_neg h1, if_pos h2, if_neg (by omega)]
    · by_cases h3 : ((jA S (a + 1)).length : Int) ≤ x
      · rw [if_neg h1, if_neg h2, if_pos (by omega), if_pos h3, if_neg (by omega)]
      · rw [if_neg h1, if_neg h2, if_pos (by omega), if_neg h3, if_pos ⟨by omega, by omega⟩, if_pos ⟨by omega, by omega, by omega⟩]
theorem eR_has (z : zS S) : j_X3_has a x S = some (bi (0 ≤ x ∧ x < jI S a 1 ∧ x < (jA S (a + 1)).length), S) := by
  have := zS_le z (a + 1)
  unfold j_X3_has j_X3_has_0 j_X3_has_25 j_X3_has_26
  by_cases h1 : x < 0
  · rw [if_pos h1, bi_f (by omega)]; rfl
  · by_cases h2 : jI S a 1 ≤ x
    · rw [if_neg h1, if_pos h2, bi_f (by omega)]; rfl
    · by_cases h3 : ((jA S (a + 1)).length : Int) ≤ x
      · rw [if_neg h1, if_neg h2, if_pos (by omega), if_pos h3, bi_f (by omega)]; rfl
      · rw [if_neg h1, if_neg h2, if_pos (by omega), if_neg h3, bi_t ⟨by omega, by omega, by omega⟩]; rfl
theorem eR_clear : j_X3_clear a S = some (kI S a 1 0) := rfl
theorem e_in {lo hi : Int} : j_X7_in x lo hi S = some (bi (lo ≤ x ∧ x ≤ hi), S) := by
  unfold j_X7_in j_X7_in_0 j_X7_in_14 j_X7_in_15
  by_cases h1 : x < lo
  · rw [if_pos h1, bi_f (by omega)]; rfl
  · by_cases h2 : hi < x
    · rw [if_neg h1, if_pos h2, bi_f (by omega)]; rfl
    · rw [if_neg h1, if_neg h2, bi_t ⟨by omega, by omega⟩]; rfl
abbrev isFig (x : Int) : Prop := 48 ≤ x ∧ x ≤ 57
abbrev isPln (x : Int) : Prop := (48 ≤ x ∧ x ≤ 57) ∨ (97 ≤ x ∧ x ≤ 122) ∨ x = 95
abbrev isPrn (x : Int) : Prop := 32 ≤ x ∧ x ≤ 126
theorem e7_fig : j_X7_isFigure x S = some (bi (isFig x), S) := by
  unfold j_X7_isFigure j_X7_isFigure_0
  rw [e_in, Option.bind_some, if_pos bi_01]
theorem e7_pln : j_X7_isPlain x S = some (bi (isPln x), S) := by
  unfold j_X7_isPlain j_X7_isPlain_0 j_X7_isPlain_24 j_X7_isPlain_29
  rw [e7_fig, Option.bind_some]
  dsimp only
  by_cases h1 : isFig x
  · rw [if_pos (bi_n h1), bi_t (.inl h1)]; rfl
  · rw [if_neg (nn (bi_0.mpr h1)), e_in, Option.bind_some]
    dsimp only
    by_cases h2 : 97 ≤ x ∧ x ≤ 122
    · rw [if_pos (bi_n h2), bi_t (.inr (.inl h2))]; rfl
    · rw [if_neg (nn (bi_0.mpr h2))]
      by_cases h3 : x = 95
      · rw [if_neg (nn h3), bi_t (.inr (.inr h3))]; rfl
      · rw [if_pos h3, bi_f (by omega)]; rfl
theorem e6_fig : j_X6_isFigure x S = some (bi (isFig x), S) := by
  unfold j_X6_isFigure j_X6_isFigure_0 j_X6_isFigure_16 j_X6_isFigure_17
  by_cases h1 : x < 48
  · rw [if_pos h1, bi_f (by omega)]; rfl
  · by_cases h2 : 57 < x
    · rw [if_neg h1, if_pos h2, bi_f (by omega)]; rfl
    · rw [if_neg h1, if_neg h2, bi_t ⟨by omega, by omega⟩]; rfl
theorem e6_prn : j_X6_isPrintable x S = some (bi (isPrn x), S) := by
  unfold j_X6_isPrintable j_X6_isPrintable_0 j_X6_isPrintable_16 j_X6_isPrintable_17
  by_cases h1 : x < 32
  · rw [if_pos h1, bi_f (by omega)]; rfl
  · by_cases h2 : 126 < x
    · rw [if_neg h1, if_pos h2, bi_f (by omega)]; rfl
    · rw [if_neg h1, if_neg h2, bi_t ⟨by omega, by omega⟩]; rfl
theorem e6_pln : j_X6_isPlain x S = some (bi (isPln x), S) := by
  unfold j_X6_isPlain j_X6_isPlain_0 j_X6_isPlain_12 j_X6_isPlain_24 j_X6_isPlain_30 j_X6_isPlain_35
  by_cases h1 : isPln x
  · rw [bi_t h1]
    by_cases h2 : x < 97
    · rw [if_pos h2]
      by_cases h3 : x < 48
      · omega
      · rw [if_neg h3]
        by_cases h4 : x ≤ 57
        · rw [if_pos h4]; rfl
        · rw [if_neg h4, if_neg (nn (by omega))]; rfl
    · rw [if_neg h2, if_pos (by omega)]; rfl
  · rw [bi_f h1]
    by_cases h2 : x < 97
    · rw [if_pos h2]
      by_cases h3 : x < 48
      · rw [if_pos h3, if_pos (by omega)]; rfl
      · rw [if_neg h3, if_neg (by omega), if_pos (by omega)]; rfl
    · rw [if_neg h2, if_neg (by omega), if_neg (by omega), if_neg (by omega), if_pos (by omega)]; rfl
end RW
