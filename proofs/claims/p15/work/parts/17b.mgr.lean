section MGR
variable {S S' S'' : iS} {L : List Int}
abbrev FL (f : Nat) : Prop := f = 27 ∨ f = 30 ∨ f = 31 ∨ f = 33 ∨ f = 34 ∨ f = 35 ∨ f = 38
/-- rows that a read touches, and how much of each stays -/
abbrev tch (a : Nat) : Prop := isH a ∨ isC a ∨ (a = 101 ∨ (103 ≤ a ∧ a ≤ 108))
def lw (a : Nat) : Nat := if isH a then tkH a else if isC a then 1 else if a = 101 then 2 else 0
/-- what a read must leave is left -/
def lo (S S' : iS) : Prop := (∀ a f, ¬ (a = 82 ∧ FL f) → jI S' a f = jI S a f) ∧ S'.2.2 = S.2.2 ∧ (∀ a i, i < lw a → (jA S' a).getD i 0 = (jA S a).getD i 0) ∧ ∀ a, ¬ tch a → jA S' a = jA S a
theorem lo_refl : lo S S := ⟨fun _ _ _ => rfl, rfl, fun _ _ _ => rfl, fun _ _ => rfl⟩
theorem lo_trans (h : lo S S') (h' : lo S' S'') : lo S S'' := ⟨fun a f q => (h'.1 a f q).trans (h.1 a f q), h'.2.1.trans h.2.1, fun a i q => (h'.2.2.1 a i q).trans (h.2.2.1 a i q), fun a q => (h'.2.2.2 a q).trans (h.2.2.2 a q)⟩
theorem lo_fr {F R : Nat → Prop} (h : fr F R S S') (hF : ∀ f, F f → FL f) (hR : ∀ a, R a → 103 ≤ a ∧ a ≤ 108) : lo S S' := by
  refine ⟨fun a f q => h.1 a f (fun k => q ⟨k.1, hF f k.2⟩), h.2.2, fun a i q => ?_, fun a q => h.2.1 a (fun k => q (by have := hR a k; omega))⟩
  by_cases e : R a
  · have := hR a e
    rw [show lw a = 0 by unfold lw; rw [if_neg (by omega), if_neg (by omega), if_neg (by omega)]] at q
    omega
  · rw [h.2.1 a e]
theorem lo_FD (h : fr FD RN S S') : lo S S' := lo_fr h (fun f q => by omega) (fun a q => by omega)
theorem lo_FN (h : fr FN RN S S') : lo S S' := lo_fr h (fun f q => by omega) (fun a q => by omega)
theorem lo_kI {f : Nat} {v : Int} (h : FL f) : lo S (kI S 82 f v) := lo_fr (F := FL) (R := fun _ => False) (fr_kI h) (fun f q => q) (fun a q => absurd q (fun q => q))
theorem lo_kA {a : Nat} (h : tch a) (hl : ∀ i, i < lw a → L.getD i 0 = (jA S a).getD i 0) : lo S (kA S a L) := by
  refine ⟨fun _ _ _ => rfl, rfl, fun b i q => ?_, fun b q => jA_ne (fun e => q (e ▸ h))⟩
  by_cases e : b = a
  · subst e; rw [jA_eq]; exact hl i q
  · rw [jA_ne e]
theorem lo_set {a i : Nat} {x : Int} (h : tch a) (hi : lw a ≤ i) : lo S (kA S a ((jA S a).set i x)) := lo_kA h (fun j hj => by rw [getD_set, if_neg (by omega)])
/-- NODES -/
def mNo (S : iS) (l : List (List Int)) : Prop := (jA S 84).getD 1 0 = l.length ∧ l.length ≤ 30 ∧ ∀ i, i < l.length → nmAt (jA S 85) (270 + 9 * i) (l.getD i []) ∧ (l.getD i []).length ≤ 8
/-- HEADS -/
def mHe (S : iS) (l : List (List Int × Int)) : Prop := (jA S 90).getD 1 0 = l.length ∧ l.length ≤ 3 ∧ ∀ i, i < l.length → nmAt (jA S 92) (27 + 9 * i) (l.getD i ([], 0)).1 ∧ (l.getD i ([], 0)).1.length ≤ 8 ∧ (jA S 91).getD (3 + i) 0 = (l.getD i ([], 0)).2 ∧ 0 ≤ (l.getD i ([], 0)).2 ∧ (l.getD i ([], 0)).2 ≤ 3
/-- COMMENTS -/
def mCo (S : iS) (l : List (List Int)) : Prop := (jA S 97).getD 1 0 = l.length ∧ ∀ i, i < l.length → nmAt (jA S 98) (6300 + 21 * i) (l.getD i []) ∧ (l.getD i []).length ≤ 20
/-- one VALUE -/
def vlAt (S : iS) (p : Nat) (v : vT) : Prop := (jA S 93).getD p 0 = v.1 ∧ (jA S 94).getD p 0 = v.2.1 ∧ nmAt (jA S 95) (9 * p) v.2.2 ∧ v.2.2.length ≤ 8
/-- one ARC -/
def arAt (S : iS) (p : Nat) (x : Int × Int × Int × List vT) : Prop := (jA S 87).getD p 0 = x.1 ∧ (jA S 88).getD p 0 = x.2.1 ∧ (jA S 89).getD p 0 = x.2.2.1 ∧ ∀ c, c < x.2.2.2.length → vlAt S (3 * p + c) (x.2.2.2.getD c (0, 0, []))
def mAr (S : iS) (nh : Nat) (l : List (Int × Int × Int × List vT)) : Prop := (jA S 86).getD 1 0 = l.length ∧ l.length ≤ 40 ∧ ∀ i, i < l.length → arAt S (40 + i) (l.getD i (0, 0, 0, [])) ∧ (l.getD i (0, 0, 0, [])).2.2.2.length = nh
/-- LINES -/
def mLi (S : iS) (l : List Int) : Prop := (jA S 99).getD 1 0 = l.length ∧ ∀ i, i < l.length → (jA S 100).getD (601 + i) 0 = l.getD i 0 + 1
/-- the COUNT -/
def mCt (S : iS) (c : Option (Int × Int)) : Prop := match c with
  | none => jI S 82 35 = 0
  | some c => jI S 82 35 = 1 ∧ (jA S 101).getD 2 0 = c.1 ∧ (jA S 101).getD 3 0 = c.2 ∧ 0 ≤ (jA S 104).getD 0 0 ∧ (jA S 104).getD 0 0 ≤ 600 ∧ 0 ≤ (jA S 104).getD 1 0 ∧ (jA S 104).getD 1 0 ≤ 600
/-- what the model has read so far -/
def mG (S : iS) (G : gT) : Prop := mNo S (gNo G) ∧ mHe S (gHe G) ∧ mCo S (gCo G) ∧ mAr S (gHe G).length (gAr G) ∧ mLi S (gLi G) ∧ (jA S 96).getD 1 0 = gLo G ∧ mCt S (gCt G) ∧ jI S 82 38 = (if gWa G = true then 1 else 0)
theorem mNo_eq {l : List (List Int)} (h : mNo S l) (e1 : jA S' 84 = jA S 84) (e2 : jA S' 85 = jA S 85) : mNo S' l := by unfold mNo; rw [e1, e2]; exact h
theorem mHe_eq {l : List (List Int × Int)} (h : mHe S l) (e1 : jA S' 90 = jA S 90) (e2 : jA S' 91 = jA S 91) (e3 : jA S' 92 = jA S 92) : mHe S' l := by unfold mHe; rw [e1, e2, e3]; exact h
theorem mCo_eq {l : List (List Int)} (h : mCo S l) (e1 : jA S' 97 = jA S 97) (e2 : jA S' 98 = jA S 98) : mCo S' l := by unfold mCo; rw [e1, e2]; exact h
theorem mAr_eq {n : Nat} {l : List (Int × Int × Int × List vT)} (h : mAr S n l) (e1 : jA S' 86 = jA S 86) (e2 : jA S' 87 = jA S 87) (e3 : jA S' 88 = jA S 88) (e4 : jA S' 89 = jA S 89) (e5 : jA S' 93 = jA S 93) (e6 : jA S' 94 = jA S 94) (e7 : jA S' 95 = jA S 95) : mAr S' n l := by unfold mAr arAt vlAt; rw [e1, e2, e3, e4, e5, e6, e7]; exact h
theorem mLi_eq {l : List Int} (h : mLi S l) (e1 : jA S' 99 = jA S 99) (e2 : jA S' 100 = jA S 100) : mLi S' l := by unfold mLi; rw [e1, e2]; exact h
theorem mCt_eq {c : Option (Int × Int)} (h : mCt S c) (e0 : jI S' 82 35 = jI S 82 35) (e1 : jA S' 101 = jA S 101) (e2 : jA S' 104 = jA S 104) : mCt S' c := by unfold mCt; rw [e0, e1, e2]; exact h
/-- where only the row of names and the small fields have changed -/
theorem mG_fr {G : gT} {F R : Nat → Prop} (h : mG S G) (hf : fr F R S S') (h35 : ¬ F 35) (h38 : ¬ F 38) (hR : ∀ a, R a → 103 ≤ a) (h104 : ¬ R 104) : mG S' G := by
  obtain ⟨h1, h2, h3, h4, h5, h6, h7, h8⟩ := h
  have e : ∀ a, a < 103 → jA S' a = jA S a := fun a ha => hf.2.1 a (fun q => by have := hR a q; omega)
  refine ⟨mNo_eq h1 (e _ (by decide)) (e _ (by decide)), mHe_eq h2 (e _ (by decide)) (e _ (by decide)) (e _ (by decide)), mCo_eq h3 (e _ (by decide)) (e _ (by decide)), mAr_eq h4 (e _ (by decide)) (e _ (by decide)) (e _ (by decide)) (e _ (by decide)) (e _ (by decide)) (e _ (by decide)) (e _ (by decide)), mLi_eq h5 (e _ (by decide)) (e _ (by decide)), by rw [e 96 (by decide)]; exact h6, mCt_eq h7 (hf.1 82 35 (fun q => h35 q.2)) (e _ (by decide)) (hf.2.1 104 h104), by rw [hf.1 82 38 (fun q => h38 q.2)]; exact h8⟩
theorem getD_app {l : List Int} {x : Int} {i : Nat} : (l ++ [x]).getD i 0 = if i < l.length then l.getD i 0 else if i = l.length then x else 0 := by
  rw [List.getD_eq_getElem?_getD, List.getD_eq_getElem?_getD, List.getElem?_append]
  by_cases h : i < l.length
  · rw [if_pos h, if_pos h]
  · rw [if_neg h, if_neg h]
    by_cases e : i = l.length
    · rw [if_pos e, e, Nat.sub_self]; rfl
    · rw [if_neg e, List.getElem?_eq_none (by rw [List.length_singleton]; omega)]; rfl
/-- laySort -/
theorem e7_laySort (z : zS S) {l : List Int} (h : mLi S l) (hl : l.length ≤ 600) {k : Int} : ∃ L1 L2, j_X7_laySort k S = some (kA (kA S 100 L1) 99 L2) ∧ mLi (kA (kA S 100 L1) 99 L2) (l ++ [k - 1]) ∧ lo S (kA (kA S 100 L1) 99 L2) ∧ zS (kA (kA S 100 L1) 99 L2) := by
  have l99 : (jA S 99).length = 2 := z 99
  have l100 : (jA S 100).length = 1202 := z 100
  refine ⟨(jA S 100).set (601 + l.length) k, (jA S 99).set 1 ((l.length : Int) + 1), ?_, ?_, ?_, ?_⟩
  · unfold j_X7_laySort j_X7_laySort_0
    rw [h.1, show ((601 : Int) + (l.length : Int)).toNat = 601 + l.length by omega]
    exact it (by omega) (it ⟨by omega, by omega⟩ (it ⟨by omega, by omega⟩ (it ⟨by omega, by omega⟩ rfl)))
  · refine ⟨?_, fun i hi => ?_⟩
    · rw [jA_eq, getD_set, if_pos ⟨rfl, by omega⟩, List.length_append]; rfl
    · rw [List.length_append, List.length_singleton] at hi
      rw [jA_ne (by decide), jA_eq, getD_set, getD_app]
      by_cases e : i = l.length
      · rw [if_pos ⟨by omega, by omega⟩, if_neg (by omega), if_pos e]; omega
      · rw [if_neg (by omega), if_pos (by omega)]; exact h.2 i (by omega)
  · refine lo_trans (lo_set (by omega) ?_) (lo_kA (S := kA S 100 ((jA S 100).set (601 + l.length) k)) (by omega) (fun i hi => ?_))
    · rw [show lw 100 = 601 from rfl]; omega
    · rw [show lw 99 = 1 from rfl] at hi
      rw [getD_set, if_neg (by omega), jA_ne (by decide)]
  · exact zS_kA (zS_set z) (by rw [List.length_set]; exact z 99)
end MGR
