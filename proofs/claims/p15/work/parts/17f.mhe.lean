section MHE
variable {S S' S'' : iS} {L : List Int}
/-- a FAULT, where only its bounds matter -/
def vL (S : iS) : Prop := wM S ∧ ¬ jI S 82 30 = 0 ∧ 0 ≤ jI S 82 31 ∧ jI S 82 31 ≤ 1000 ∧ 1 ≤ jI S 82 30 ∧ jI S 82 30 ≤ 7
theorem vM_L (v : vM S) : vL S := ⟨v.1, v.2.1, v.2.2.1, v.2.2.2.1, v.2.2.2.2.2⟩
def rL {α : Type} (o : Option α) (S : iS) (Q : α → Prop) : Prop := match o with
  | some v => uM S ∧ Q v
  | none => vL S
theorem rs_rL {α : Type} {o : Option α} {Q : α → Prop} (h : rs o S Q) : rL o S Q := by
  cases o with
  | none => exact vM_L h
  | some v => exact h
theorem vM_at (v : vM S) {p : Int} (h0 : 0 ≤ p) (h1 : p ≤ 603) : vM (kI S 82 27 p) := by
  obtain ⟨⟨z, a1, a2, a3, a4⟩, b1, b2, b3, b4, b5, b6⟩ := v
  have e2 : jI (kI S 82 27 p) 82 2 = jI S 82 2 := rfl
  have e27 : jI (kI S 82 27 p) 82 27 = p := rfl
  have e30 : jI (kI S 82 27 p) 82 30 = jI S 82 30 := rfl
  have e31 : jI (kI S 82 27 p) 82 31 = jI S 82 31 := rfl
  exact ⟨⟨z, by omega, by omega, by omega, by omega⟩, by omega, by omega, by omega, by omega, by omega, by omega⟩
/-- BLANKS behind a FAULT -/
theorem v7_blanks (v : vM S) : ∃ p, j_X7_blanks S = some (kI S 82 27 p) ∧ vM (kI S 82 27 p) := by
  obtain ⟨p, e, _, p1, _, p3⟩ := e7_blanks v.1
  have := v.1.2.2.1
  have := v.1.2.2.2.1
  have := v.2.2.2.2.1
  exact ⟨p, e, vM_at v (by omega) (by omega)⟩
theorem v7_178 (v : vM S) {l1 l2 l3 : Int} : ∃ S', j_X7_readHead_163 l1 l2 l3 S = some S' ∧ lo S S' ∧ vL S' := by
  have b1 := v.1.2.2.2.1
  have b2 := v.2.2.2.2.1
  have w1 := wM_step v.1 (by omega)
  have hL : vL (kI S 82 27 (jI S 82 27 + 1)) := ⟨w1, v.2.1, v.2.2.1, v.2.2.2.1, v.2.2.2.2.2⟩
  have e178 : j_X7_readHead_178 l1 l2 l3 S = some (kI S 82 27 (jI S 82 27 + 1)) := by
    unfold j_X7_readHead_178 j_X7_readHead_248
    refine it ⟨by omega, by omega⟩ ?_
    rw [e7_endedF (S := kI S 82 27 (jI S 82 27 + 1)) v.2.1, Option.bind_some]
    exact it v.2.1 rfl
  refine ⟨_, ?_, lo_kI (by omega), hL⟩
  unfold j_X7_readHead_163
  by_cases h : l3 = -1
  · refine ie (nn h) ?_
    rw [e7_wrong1 v.2.1, Option.bind_some]
    exact e178
  · exact it h e178
theorem v7_109 (v : vM S) {l1 l2 : Int} : ∃ S', j_X7_readHead_109 l1 l2 S = some S' ∧ lo S S' ∧ vL S' := by
  obtain ⟨p, e, v1⟩ := v7_blanks v
  obtain ⟨S0, q0⟩ := v7_178 v1 (l1 := l1) (l2 := hd (mRs (kI S 82 27 p))) (l3 := 0)
  obtain ⟨S1, q1⟩ := v7_178 v1 (l1 := l1) (l2 := hd (mRs (kI S 82 27 p))) (l3 := 1)
  obtain ⟨S2, q2⟩ := v7_178 v1 (l1 := l1) (l2 := hd (mRs (kI S 82 27 p))) (l3 := 2)
  obtain ⟨S3, q3⟩ := v7_178 v1 (l1 := l1) (l2 := hd (mRs (kI S 82 27 p))) (l3 := 3)
  obtain ⟨S4, q4⟩ := v7_178 v1 (l1 := l1) (l2 := hd (mRs (kI S 82 27 p))) (l3 := -1)
  have lb : lo S (kI S 82 27 p) := lo_kI (by omega)
  unfold j_X7_readHead_109
  rw [e7_endedF v.2.1, Option.bind_some, e, Option.bind_some, e7_here v1.1, Option.bind_some]
  dsimp only
  by_cases c0 : hd (mRs (kI S 82 27 p)) = 119
  · exact ⟨S0, ie (nn c0) q0.1, lo_trans lb q0.2.1, q0.2.2⟩
  by_cases c1 : hd (mRs (kI S 82 27 p)) = 100
  · exact ⟨S1, it c0 (ie (nn c1) q1.1), lo_trans lb q1.2.1, q1.2.2⟩
  by_cases c2 : hd (mRs (kI S 82 27 p)) = 116
  · exact ⟨S2, it c0 (it c1 (ie (nn c2) q2.1)), lo_trans lb q2.2.1, q2.2.2⟩
  by_cases c3 : hd (mRs (kI S 82 27 p)) = 103
  · exact ⟨S3, it c0 (it c1 (it c2 (ie (nn c3) q3.1))), lo_trans lb q3.2.1, q3.2.2⟩
  exact ⟨S4, it c0 (it c1 (it c2 (it c3 q4.1))), lo_trans lb q4.2.1, q4.2.2⟩
theorem v7_62 (v : vM S) {n : Nat} {l1 l2 : Int} : ∃ S', j_X7_readHead_62 (n + 1) l1 l2 S = some S' ∧ lo S S' ∧ vL S' := by
  have l90 : (jA S 90).length = 2 := v.1.1 90
  obtain ⟨S', e, q⟩ := v7_109 v (l1 := l1) (l2 := l2)
  refine ⟨S', ?_, q⟩
  rw [j_X7_readHead_62]
  refine it (by omega) ?_
  by_cases h : (jA S 90).getD 1 0 ≤ l2
  · exact it h e
  · exact ie h (it v.2.1 e)
/-- no HEAD has this NAME -/
theorem l7_he (u : uM S) {a : List Int} (hn : nmd S a) {l : List (List Int × Int)} (hh : mHe S l) {l1 : Int} : ∀ (m n k : Nat), k + m = l.length → m + 1 < n → (¬ a ∈ (l.map (fun h => h.1)).drop k → j_X7_readHead_62 n l1 k S = j_X7_readHead_109 l1 l.length S) ∧ (a ∈ (l.map (fun h => h.1)).drop k → ∃ n' c, j_X7_readHead_62 n l1 k S = j_X7_readHead_62 (n' + 1) l1 c (kI (kI S 82 30 4) 82 31 l1)) := by
  have l90 : (jA S 90).length = 2 := u.1.1 90
  have l92 : (jA S 92).length = 54 := u.1.1 92
  intro m
  induction m with
  | zero =>
    intro n k hk hm
    obtain ⟨n, rfl⟩ : ∃ m, n = m + 2 := ⟨n - 2, by omega⟩
    refine ⟨fun _ => ?_, fun hin => ?_⟩
    · rw [j_X7_readHead_62, hh.1]
      refine it (by omega) (it (by omega) ?_)
      rw [show (k : Int) = (l.length : Int) by omega]
    · rw [List.drop_eq_nil_of_le (by rw [List.length_map]; omega)] at hin
      exact absurd hin List.not_mem_nil
  | succ m ih =>
    intro n k hk hm
    obtain ⟨n, rfl⟩ : ∃ m, n = m + 2 := ⟨n - 2, by omega⟩
    have hl3 := hh.2.1
    obtain ⟨c1, _⟩ := hh.2.2 k (by omega)
    have hs := e7_same u.1.1 hn c1 (by omega)
    obtain ⟨i1, i2⟩ := ih (n + 1) (k + 1) (by omega) (by omega)
    have hdr : (l.map (fun h => h.1)).drop k = (l.getD k ([], 0)).1 :: (l.map (fun h => h.1)).drop (k + 1) := by
      have hkl : k < (l.map (fun h => h.1)).length := by rw [List.length_map]; omega
      rw [List.drop_eq_getElem_cons hkl, List.getElem_map, List.getD_eq_getElem?_getD, List.getElem?_eq_getElem (by omega)]
      rfl
    have h62 : ∀ X, (if bi ((l.getD k ([], 0)).1 = a) = (0 : Int) then (j_X7_readHead_103 (fun l1' l2' S' => j_X7_readHead_62 (n + 1) l1' l2' S') l1 k S) else ((j_X7_wrong (4 : Int) l1 S).bind fun qx2 => (j_X7_readHead_103 (fun l1' l2' S' => j_X7_readHead_62 (n + 1) l1' l2' S') l1 k qx2))) = X → j_X7_readHead_62 (n + 2) l1 k S = X := by
      intro X hX
      rw [j_X7_readHead_62, hh.1]
      refine it (by omega) (ie (by omega) (ie (nn u.2.1) (it ⟨by omega, by omega⟩ (it ⟨by omega, by omega⟩ ?_))))
      rw [show (27 : Int) + 9 * (k : Int) = ((27 + 9 * k : Nat) : Int) by omega, hs, Option.bind_some]
      exact hX
    have h103 : ∀ T, j_X7_readHead_103 (fun l1' l2' S' => j_X7_readHead_62 (n + 1) l1' l2' S') l1 k T = j_X7_readHead_62 (n + 1) l1 ((k + 1 : Nat) : Int) T := by
      intro T
      unfold j_X7_readHead_103
      refine it ⟨by omega, by omega⟩ ?_
      rw [show (k : Int) + 1 = ((k + 1 : Nat) : Int) by omega]
    rw [hdr]
    refine ⟨fun hno => ?_, fun hin => ?_⟩
    · have hne : ¬ (l.getD k ([], 0)).1 = a := fun q => hno (by rw [q]; exact List.mem_cons_self)
      refine h62 _ (it (bi_0.mpr hne) ?_)
      rw [h103]
      exact i1 (fun q => hno (List.mem_cons_of_mem _ q))
    · by_cases heq : (l.getD k ([], 0)).1 = a
      · refine ⟨n, ((k + 1 : Nat) : Int), h62 _ (ie (bi_n heq) ?_)⟩
        rw [e7_wrong0 u.2.1, Option.bind_some, h103]
      · obtain ⟨n', c, e⟩ := i2 (by
          rcases List.mem_cons.mp hin with q | q
          · exact absurd q.symm heq
          · exact q)
        refine ⟨n', c, h62 _ (it (bi_0.mpr heq) ?_)⟩
        rw [h103]
        exact e
/-- a HEAD, as far as its WORDS go -/
def heP (G : gT) (r : List Int) : Option (gT × List Int) := if gWa G = true ∨ 3 ≤ (gHe G).length then none else (gpS r.tail).bind fun r1 => (nmS r1).bind fun a => if a.1 ∈ (gHe G).map (fun h => h.1) then none else (gpS a.2).bind fun r2 => if kdS (hd r2) = -1 then none else if isE r2.tail then some ((G.1, gHe G ++ [(a.1, kdS (hd r2))], G.2.2.1, G.2.2.2.1, gLi G ++ [2], G.2.2.2.2.2), r2.tail) else none
theorem heP_L (G : gT) (r : List Int) : heL G r = (heP G r).bind fun q => (leS q.2).map fun r3 => (q.1, r3) := by
  unfold heL heP
  by_cases h : gWa G = true ∨ 3 ≤ (gHe G).length
  · rw [if_pos h, if_pos h]; rfl
  · rw [if_neg h, if_neg h]
    cases h1 : gpS r.tail with
    | none => rfl
    | some r1 =>
      rw [Option.bind_some, Option.bind_some]
      cases h2 : nmS r1 with
      | none => rfl
      | some a =>
        rw [Option.bind_some, Option.bind_some]
        by_cases hm : a.1 ∈ (gHe G).map (fun h => h.1)
        · rw [if_pos hm, if_pos hm]; rfl
        · rw [if_neg hm, if_neg hm]
          cases h3 : gpS a.2 with
          | none => rfl
          | some r2 =>
            rw [Option.bind_some, Option.bind_some]
            by_cases hk : kdS (hd r2) = -1
            · rw [if_pos hk, if_pos hk]; rfl
            · rw [if_neg hk, if_neg hk]
              by_cases hE : isE r2.tail
              · rw [if_pos hE]; rfl
              · rw [if_neg hE]
                cases h5 : leS r2.tail with
                | none => rfl
                | some r3 => exact absurd (leS_E h5) hE
end MHE
