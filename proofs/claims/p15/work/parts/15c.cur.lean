section CU
variable {S : iS} {x : Int} {a a' f f' : Nat}
theorem jI_if {v : Int} : jI (kI S a f v) a' f' = if a' = a ∧ f' = f then v else jI S a' f' := rfl
theorem jA_if {l : List Int} : jA (kA S a l) a' = if a' = a then l else jA S a' := rfl
/-- the byte of the class's TEXT at an index, -1 at a LINE's end -/
def tbv (S : iS) (i : Int) : Int := if 0 ≤ i ∧ i < jI S 1 1 ∧ i < (jA S 2).length then (if (jA S 2).getD i.toNat 0 = 10 then -1 else (jA S 2).getD i.toNat 0) else -1
theorem e0_step (z : zS S) (h : rg (jI S 81 1 + 1)) : j_X0_step S = some (kI (kI S 81 1 (jI S 81 1 + 1)) 81 2 (tbv S (jI S 81 1 + 1))) := by
  have hl := zS_le z 2
  unfold j_X0_step j_X0_step_0 j_X0_step_50 j_X0_step_51 j_X0_step_89 j_X0_step_90
  rw [if_pos h]
  rw [jA_kI, jI_eq]
  by_cases h1 : jI S 81 1 + 1 < 0
  · rw [if_pos h1, if_pos rfl, tbv, if_neg (by omega)]
  · rw [if_neg h1]
    by_cases h2 : jI S 1 1 ≤ jI S 81 1 + 1
    · rw [if_pos h2, if_pos rfl, tbv, if_neg (by omega)]
    · rw [if_neg h2, if_pos (by omega)]
      by_cases h3 : ((jA S 2).length : Int) ≤ jI S 81 1 + 1
      · rw [if_pos h3, if_pos rfl, tbv, if_neg (by omega)]
      · have e : tbv S (jI S 81 1 + 1) = (if (jA S 2).getD (jI S 81 1 + 1).toNat 0 = 10 then -1 else (jA S 2).getD (jI S 81 1 + 1).toNat 0) := by
          rw [tbv, if_pos ⟨by omega, by omega, by omega⟩]
        rw [e]
        refine ie h3 (ie (by decide) (it ⟨by omega, by omega⟩ ?_))
        by_cases h4 : (jA S 2).getD (jI S 81 1 + 1).toNat 0 = 10
        · rw [if_pos h4, if_pos h4]
        · rw [if_neg h4, if_neg h4]
/-- takeRow, as it is used -/
theorem tk_step {T : iS} (z : zS T) {a half : Nat} (hl : asz a = 2 * half) (hh : half ≤ 6300) : ∃ T', j_X7_takeRow a half T = some T' ∧ zS T' ∧ T'.2.2 = T.2.2 ∧ (∀ b f, jI T' b f = jI T b f) ∧ (∀ b, b ≠ a → jA T' b = jA T b) ∧ ∀ i, i < half → (jA T' a).getD i 0 = (jA T a).getD (half + i) 0 := by
  obtain ⟨L, e, hL, hg⟩ := e7_takeRow (S := T) a half hh (by rw [z a, hl])
  exact ⟨_, e, zS_kA z (by rw [hL, hl]), rfl, fun _ _ => rfl, fun b hb => jA_ne hb, fun i hi => by rw [jA_eq]; exact hg i hi⟩
/-- the halves' lengths of the model's rows -/
def tkH (a : Nat) : Nat := if a = 85 then 270 else if a = 87 ∨ a = 88 ∨ a = 89 then 40 else if a = 91 then 3 else if a = 92 then 27 else if a = 93 ∨ a = 94 then 120 else if a = 95 then 1080 else if a = 98 then 6300 else if a = 100 then 601 else 0
abbrev isC (a : Nat) : Prop := a = 84 ∨ a = 86 ∨ a = 90 ∨ a = 96 ∨ a = 97 ∨ a = 99
abbrev isH (a : Nat) : Prop := a = 85 ∨ a = 87 ∨ a = 88 ∨ a = 89 ∨ a = 91 ∨ a = 92 ∨ a = 93 ∨ a = 94 ∨ a = 95 ∨ a = 98 ∨ a = 100
theorem e7_takeOver (z : zS S) : ∃ S', j_X7_takeOver S = some S' ∧ zS S' ∧ S'.2.2 = S.2.2 ∧ jI S' 82 6 = 1 ∧ (∀ a f, (a ≠ 82 ∨ f ≠ 6) → jI S' a f = jI S a f) ∧ (∀ a, isC a → (jA S' a).getD 0 0 = (jA S a).getD 1 0) ∧ ((jA S' 101).getD 0 0 = (jA S 101).getD 2 0 ∧ (jA S' 101).getD 1 0 = (jA S 101).getD 3 0) ∧ (∀ a, isH a → ∀ i, i < tkH a → (jA S' a).getD i 0 = (jA S a).getD (tkH a + i) 0) ∧ (∀ a, ¬ isC a → ¬ isH a → a ≠ 101 → jA S' a = jA S a) := by
  have l84 : (jA S 84).length = 2 := z 84
  have l86 : (jA S 86).length = 2 := z 86
  have l90 : (jA S 90).length = 2 := z 90
  have l96 : (jA S 96).length = 2 := z 96
  have l97 : (jA S 97).length = 2 := z 97
  have l99 : (jA S 99).length = 2 := z 99
  have l101 : (jA S 101).length = 4 := z 101
  unfold j_X7_takeOver j_X7_takeOver_0
  rw [l84, l86, l90, l96, l97, l99, l101, List.length_set, l101]
  simp only [Nat.reduceLT, if_true]
  generalize hT : (kA (kA (kA (kA (kA (kA (kA (kA (kI S 82 6 (1 : Int)) 84 ((jA S 84).set 0 ((jA S 84).getD 1 0))) 86 ((jA S 86).set 0 ((jA S 86).getD 1 0))) 90 ((jA S 90).set 0 ((jA S 90).getD 1 0))) 96 ((jA S 96).set 0 ((jA S 96).getD 1 0))) 97 ((jA S 97).set 0 ((jA S 97).getD 1 0))) 99 ((jA S 99).set 0 ((jA S 99).getD 1 0))) 101 ((jA S 101).set 0 ((jA S 101).getD 2 0))) 101 (((jA S 101).set 0 ((jA S 101).getD 2 0)).set 1 (((jA S 101).set 0 ((jA S 101).getD 2 0)).getD 3 0))) = T
  have zT : zS T := by
    subst hT
    repeat (first | exact zS_kI z | refine zS_kA ?_ (by rw [List.length_set]; first | exact z _ | (rw [List.length_set]; exact z _)))
  have iT : ∀ a f, (a ≠ 82 ∨ f ≠ 6) → jI T a f = jI S a f := by subst hT; intro a f h; exact jI_ne h
  have i6 : jI T 82 6 = 1 := by subst hT; rfl
  have pT : T.2.2 = S.2.2 := by subst hT; rfl
  have cT : ∀ a, isC a → (jA T a).getD 0 0 = (jA S a).getD 1 0 := by
    subst hT
    intro a ha
    rcases ha with h | h | h | h | h | h <;> subst h <;> simp only [jA_if, jA_kI, Nat.reduceEqDiff, if_true, if_false, getD_set, l84, l86, l90, l96, l97, l99, true_and, Nat.reduceLT]
  have oT : (jA T 101).getD 0 0 = (jA S 101).getD 2 0 ∧ (jA T 101).getD 1 0 = (jA S 101).getD 3 0 := by
    subst hT
    constructor <;> simp [jA_if, jA_kI, getD_set, l101]
  have aT : ∀ a, ¬ isC a → a ≠ 101 → jA T a = jA S a := by
    subst hT
    intro a ha hb
    rw [jA_ne hb, jA_ne hb, jA_ne (by omega), jA_ne (by omega), jA_ne (by omega), jA_ne (by omega), jA_ne (by omega), jA_ne (by omega), jA_kI]
  obtain ⟨T1, e1, z1, p1, i1, a1, h1⟩ := tk_step zT (a := 85) (half := 270) rfl (by decide)
  obtain ⟨T2, e2, z2, p2, i2, a2, h2⟩ := tk_step z1 (a := 87) (half := 40) rfl (by decide)
  obtain ⟨T3, e3, z3, p3, i3, a3, h3⟩ := tk_step z2 (a := 88) (half := 40) rfl (by decide)
  obtain ⟨T4, e4, z4, p4, i4, a4, h4⟩ := tk_step z3 (a := 89) (half := 40) rfl (by decide)
  obtain ⟨T5, e5, z5, p5, i5, a5, h5⟩ := tk_step z4 (a := 91) (half := 3) rfl (by decide)
  obtain ⟨T6, e6, z6, p6, i6', a6, h6⟩ := tk_step z5 (a := 92) (half := 27) rfl (by decide)
  obtain ⟨T7, e7, z7, p7, i7, a7, h7⟩ := tk_step z6 (a := 93) (half := 120) rfl (by decide)
  obtain ⟨T8, e8, z8, p8, i8, a8, h8⟩ := tk_step z7 (a := 94) (half := 120) rfl (by decide)
  obtain ⟨T9, e9, z9, p9, i9, a9, h9⟩ := tk_step z8 (a := 95) (half := 1080) rfl (by decide)
  obtain ⟨TA, eA, zA, pA, iA, aA, hA⟩ := tk_step z9 (a := 98) (half := 6300) rfl (by decide)
  obtain ⟨TB, eB, zB, pB, iB, aB, hB⟩ := tk_step zA (a := 100) (half := 601) rfl (by decide)
  have hI : ∀ b f, jI TB b f = jI T b f := fun b f => by rw [iB, iA, i9, i8, i7, i6', i5, i4, i3, i2, i1]
  have hN : ∀ b, ¬ isH b → jA TB b = jA T b := fun b hb => by
    rw [aB b (by omega), aA b (by omega), a9 b (by omega), a8 b (by omega), a7 b (by omega), a6 b (by omega), a5 b (by omega), a4 b (by omega), a3 b (by omega), a2 b (by omega), a1 b (by omega)]
  refine ⟨TB, ?_, zB, by rw [pB, pA, p9, p8, p7, p6, p5, p4, p3, p2, p1, pT], by rw [hI]; exact i6, fun a f h => by rw [hI]; exact iT a f h, fun a ha => ?_, ?_, fun a ha i hi => ?_, fun a h1 h2 h3 => by rw [hN a h2]; exact aT a h1 h3⟩
  · rw [show ((270 : Int)) = ((270 : Nat) : Int) from rfl, show ((40 : Int)) = ((40 : Nat) : Int) from rfl, show ((3 : Int)) = ((3 : Nat) : Int) from rfl, show ((27 : Int)) = ((27 : Nat) : Int) from rfl, show ((120 : Int)) = ((120 : Nat) : Int) from rfl, show ((1080 : Int)) = ((1080 : Nat) : Int) from rfl, show ((6300 : Int)) = ((6300 : Nat) : Int) from rfl, show ((601 : Int)) = ((601 : Nat) : Int) from rfl]
    simp only [e1, e2, e3, e4, e5, e6, e7, e8, e9, eA, eB, Option.bind_some]
  · rw [hN a (by omega)]; exact cT a ha
  · rw [hN 101 (by omega)]; exact oT
  · rcases ha with h | h | h | h | h | h | h | h | h | h | h <;> subst h
    · rw [show tkH 85 = 270 from rfl] at hi ⊢
      rw [aB _ (by decide), aA _ (by decide), a9 _ (by decide), a8 _ (by decide), a7 _ (by decide), a6 _ (by decide), a5 _ (by decide), a4 _ (by decide), a3 _ (by decide), a2 _ (by decide), h1 i hi, aT _ (by decide) (by decide)]
    · rw [show tkH 87 = 40 from rfl] at hi ⊢
      rw [aB _ (by decide), aA _ (by decide), a9 _ (by decide), a8 _ (by decide), a7 _ (by decide), a6 _ (by decide), a5 _ (by decide), a4 _ (by decide), a3 _ (by decide), h2 i hi, a1 _ (by decide), aT _ (by decide) (by decide)]
    · rw [show tkH 88 = 40 from rfl] at hi ⊢
      rw [aB _ (by decide), aA _ (by decide), a9 _ (by decide), a8 _ (by decide), a7 _ (by decide), a6 _ (by decide), a5 _ (by decide), a4 _ (by decide), h3 i hi, a2 _ (by decide), a1 _ (by decide), aT _ (by decide) (by decide)]
    · rw [show tkH 89 = 40 from rfl] at hi ⊢
      rw [aB _ (by decide), aA _ (by decide), a9 _ (by decide), a8 _ (by decide), a7 _ (by decide), a6 _ (by decide), a5 _ (by decide), h4 i hi, a3 _ (by decide), a2 _ (by decide), a1 _ (by decide), aT _ (by decide) (by decide)]
    · rw [show tkH 91 = 3 from rfl] at hi ⊢
      rw [aB _ (by decide), aA _ (by decide), a9 _ (by decide), a8 _ (by decide), a7 _ (by decide), a6 _ (by decide), h5 i hi, a4 _ (by decide), a3 _ (by decide), a2 _ (by decide), a1 _ (by decide), aT _ (by decide) (by decide)]
    · rw [show tkH 92 = 27 from rfl] at hi ⊢
      rw [aB _ (by decide), aA _ (by decide), a9 _ (by decide), a8 _ (by decide), a7 _ (by decide), h6 i hi, a5 _ (by decide), a4 _ (by decide), a3 _ (by decide), a2 _ (by decide), a1 _ (by decide), aT _ (by decide) (by decide)]
    · rw [show tkH 93 = 120 from rfl] at hi ⊢
      rw [aB _ (by decide), aA _ (by decide), a9 _ (by decide), a8 _ (by decide), h7 i hi, a6 _ (by decide), a5 _ (by decide), a4 _ (by decide), a3 _ (by decide), a2 _ (by decide), a1 _ (by decide), aT _ (by decide) (by decide)]
    · rw [show tkH 94 = 120 from rfl] at hi ⊢
      rw [aB _ (by decide), aA _ (by decide), a9 _ (by decide), h8 i hi, a7 _ (by decide), a6 _ (by decide), a5 _ (by decide), a4 _ (by decide), a3 _ (by decide), a2 _ (by decide), a1 _ (by decide), aT _ (by decide) (by decide)]
    · rw [show tkH 95 = 1080 from rfl] at hi ⊢
      rw [aB _ (by decide), aA _ (by decide), h9 i hi, a8 _ (by decide), a7 _ (by decide), a6 _ (by decide), a5 _ (by decide), a4 _ (by decide), a3 _ (by decide), a2 _ (by decide), a1 _ (by decide), aT _ (by decide) (by decide)]
    · rw [show tkH 98 = 6300 from rfl] at hi ⊢
      rw [aB _ (by decide), hA i hi, a9 _ (by decide), a8 _ (by decide), a7 _ (by decide), a6 _ (by decide), a5 _ (by decide), a4 _ (by decide), a3 _ (by decide), a2 _ (by decide), a1 _ (by decide), aT _ (by decide) (by decide)]
    · rw [show tkH 100 = 601 from rfl] at hi ⊢
      rw [hB i hi, aA _ (by decide), a9 _ (by decide), a8 _ (by decide), a7 _ (by decide), a6 _ (by decide), a5 _ (by decide), a4 _ (by decide), a3 _ (by decide), a2 _ (by decide), a1 _ (by decide), aT _ (by decide) (by decide)]
end CU
