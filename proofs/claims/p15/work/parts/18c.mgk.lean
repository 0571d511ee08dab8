section MGK
variable {S S' S'' : iS} {L : List Int}
def mxS (m : Int) (vs : List Int) : Int := vs.foldl (fun m v => if v ≤ m then m else v) m
theorem mxS_v : ∀ (vs : List Int) (m : Int), (∀ v ∈ vs, 0 ≤ v ∧ v ≤ 3) → 1 ≤ m → m ≤ 3 → mxS m vs = (if 3 ∈ vs ∨ m = 3 then 3 else if 2 ∈ vs ∨ m = 2 then 2 else 1) := by
  intro vs
  induction vs with
  | nil =>
    intro m _ h1 h3
    show m = _
    simp only [List.not_mem_nil, false_or]
    split
    · assumption
    · split
      · assumption
      · omega
  | cons v vs ih =>
    intro m hv h1 h3
    have hv0 := hv v List.mem_cons_self
    have hr := fun x hx => hv x (List.mem_cons_of_mem v hx)
    show mxS (if v ≤ m then m else v) vs = _
    by_cases hle : v ≤ m
    · rw [if_pos hle, ih m hr h1 h3]
      simp only [List.mem_cons]
      by_cases c3 : 3 ∈ vs ∨ m = 3
      · rw [if_pos c3, if_pos (by rcases c3 with c | c <;> simp [c])]
      · have n3 : ¬ ((3 = v ∨ 3 ∈ vs) ∨ m = 3) := by
          rintro ((c | c) | c)
          · exact c3 (.inr (by omega))
          · exact c3 (.inl c)
          · exact c3 (.inr c)
        rw [if_neg c3, if_neg n3]
        by_cases c2 : 2 ∈ vs ∨ m = 2
        · rw [if_pos c2, if_pos (by rcases c2 with c | c <;> simp [c])]
        · have n2 : ¬ ((2 = v ∨ 2 ∈ vs) ∨ m = 2) := by
            rintro ((c | c) | c)
            · have : m = 3 := by
                have : m ≠ 2 := fun q => c2 (.inr q)
                omega
              exact c3 (.inr this)
            · exact c2 (.inl c)
            · exact c2 (.inr c)
          rw [if_neg c2, if_neg n2]
    · rw [if_neg hle, ih v hr (by omega) hv0.2]
      simp only [List.mem_cons]
      by_cases c3 : 3 ∈ vs ∨ v = 3
      · rw [if_pos c3, if_pos (by rcases c3 with c | c <;> simp [c])]
      · have n3 : ¬ ((3 = v ∨ 3 ∈ vs) ∨ m = 3) := by
          rintro ((c | c) | c)
          · exact c3 (.inr c.symm)
          · exact c3 (.inl c)
          · omega
        rw [if_neg c3, if_neg n3]
        by_cases c2 : 2 ∈ vs ∨ v = 2
        · rw [if_pos c2, if_pos (by rcases c2 with c | c <;> simp [c])]
        · have n2 : ¬ ((2 = v ∨ 2 ∈ vs) ∨ m = 2) := by
            rintro ((c | c) | c)
            · exact c2 (.inr c.symm)
            · exact c2 (.inl c)
            · have : v = 3 := by omega
              exact c3 (.inr this)
          rw [if_neg c2, if_neg n2]
theorem gsK_mx {vs : List Int} (h : ∀ v ∈ vs, 0 ≤ v ∧ v ≤ 3) : mxS 1 vs - 1 = gsK vs := by
  rw [mxS_v vs 1 h (by decide) (by decide)]
  unfold gsK
  by_cases c3 : 3 ∈ vs
  · rw [if_pos (.inl c3), if_pos c3]; rfl
  · rw [if_neg (fun c => c.elim c3 (fun c => absurd c (by decide))), if_neg c3]
    by_cases c2 : 2 ∈ vs
    · rw [if_pos (.inl c2), if_pos c2]; rfl
    · rw [if_neg (fun c => c.elim c2 (fun c => absurd c (by decide))), if_neg c2]; rfl
/-- the sorts of a COLUMN -/
def colS (l : List (Int × Int × Int × List vT)) (i : Nat) : List Int := l.map (fun x => (x.2.2.2.getD i (0, 0, [])).1)
theorem mxS_b {vs : List Int} {m : Int} (h : ∀ v ∈ vs, 0 ≤ v ∧ v ≤ 3) (h1 : 1 ≤ m) (h3 : m ≤ 3) : 1 ≤ mxS m vs ∧ mxS m vs ≤ 3 := by
  rw [mxS_v vs m h h1 h3]
  split
  · decide
  · split <;> decide
theorem l7_gk (z : zS S) {nh : Nat} {l : List (Int × Int × Int × List vT)} (hh : mAr S nh l) {r2 : Int → iS → Option iS} {c : Nat} (hc : c < nh) (hc3 : c < 3) (hv : ∀ v ∈ colS l c, 0 ≤ v ∧ v ≤ 3) : ∀ (j n k : Nat) (m : Int), k + j = l.length → j < n → 1 ≤ m → m ≤ 3 → j_X7_guessKinds_29 r2 n c m (40 + (k : Int)) S = j_X7_guessKinds_88 r2 c (kA S 91 ((jA S 91).set (3 + c) (mxS m (colS (l.drop k) c) - 1))) := by
  have l86 : (jA S 86).length = 2 := z 86
  have l91 : (jA S 91).length = 6 := z 91
  have l93 : (jA S 93).length = 240 := z 93
  have h40 := hh.2.1
  intro j
  induction j with
  | zero =>
    intro n k m hk hn m1 m3
    obtain ⟨n, rfl⟩ : ∃ m, n = m + 1 := ⟨n - 1, by omega⟩
    rw [j_X7_guessKinds_29, hh.1, List.drop_eq_nil_of_le (by omega), show ((3 : Int) + (c : Int)).toNat = 3 + c by omega]
    exact it (by omega) (it ⟨by omega, by omega⟩ (it (by omega) (it ⟨by omega, by omega⟩ (it ⟨by omega, by omega⟩ (it ⟨by omega, by omega⟩ rfl)))))
  | succ j ih =>
    intro n k m hk hn m1 m3
    obtain ⟨n, rfl⟩ : ∃ m, n = m + 1 := ⟨n - 1, by omega⟩
    obtain ⟨⟨_, _, _, c4⟩, c5⟩ := hh.2.2 k (by omega)
    obtain ⟨d1, _⟩ := c4 c (by rw [c5]; exact hc)
    have hdr : l.drop k = l.getD k (0, 0, 0, []) :: l.drop (k + 1) := by
      rw [List.drop_eq_getElem_cons (by omega), List.getD_eq_getElem?_getD, List.getElem?_eq_getElem (by omega)]
      rfl
    have hcol : colS (l.drop k) c = ((l.getD k (0, 0, 0, [])).2.2.2.getD c (0, 0, [])).1 :: colS (l.drop (k + 1)) c := by
      rw [hdr]; rfl
    have hin : ((l.getD k (0, 0, 0, [])).2.2.2.getD c (0, 0, [])).1 ∈ colS l c := by
      refine List.mem_map.mpr ⟨l.getD k (0, 0, 0, []), ?_, rfl⟩
      rw [List.getD_eq_getElem?_getD, List.getElem?_eq_getElem (by omega)]
      exact List.getElem_mem _
    have hb := hv _ hin
    generalize ((l.getD k (0, 0, 0, [])).2.2.2.getD c (0, 0, [])).1 = v at *
    have hst : mxS m (colS (l.drop k) c) = mxS (if v ≤ m then m else v) (colS (l.drop (k + 1)) c) := by rw [hcol]; rfl
    rw [j_X7_guessKinds_29, hh.1, hst, show (3 * (40 + (k : Int)) + (c : Int)).toNat = 3 * (40 + k) + c by omega, d1]
    refine it (by omega) (it ⟨by omega, by omega⟩ (ie (by omega) (it ⟨by omega, by omega⟩ (it ⟨by omega, by omega⟩ (it ⟨by omega, by omega⟩ ?_)))))
    unfold j_X7_guessKinds_70
    by_cases hle : v ≤ m
    · rw [if_pos hle, if_pos hle]
      refine it ⟨by omega, by omega⟩ ?_
      rw [show (40 : Int) + (k : Int) + 1 = 40 + ((k + 1 : Nat) : Int) by omega]
      exact ih n (k + 1) m (by omega) (by omega) m1 m3
    · rw [if_neg hle, if_neg hle]
      refine it ⟨by omega, by omega⟩ ?_
      rw [show (40 : Int) + (k : Int) + 1 = 40 + ((k + 1 : Nat) : Int) by omega]
      exact ih n (k + 1) v (by omega) (by omega) (by omega) hb.2
/-- a kind, when it is settled -/
def stK (G : gT) (i : Nat) (k : Int) : Int := if k = 3 then gsK (colS (gAr G) i) else k
theorem l7_gks {G : gT} (z : zS S) (hh : mHe S (gHe G)) (ha : mAr S (gHe G).length (gAr G)) (hw : wfG G) : ∀ (j n c : Nat) (L : List Int), c + j = (gHe G).length → j < n → L.length = 6 → (∀ i, i < 3 → L.getD i 0 = (jA S 91).getD i 0) → (∀ i, i < c → L.getD (3 + i) 0 = stK G i ((gHe G).getD i ([], 0)).2) → (∀ i, c ≤ i → i < (gHe G).length → L.getD (3 + i) 0 = ((gHe G).getD i ([], 0)).2) → ∃ L', j_X7_guessKinds_2 n c (kA S 91 L) = some (kA S 91 L') ∧ L'.length = 6 ∧ (∀ i, i < 3 → L'.getD i 0 = (jA S 91).getD i 0) ∧ ∀ i, i < (gHe G).length → L'.getD (3 + i) 0 = stK G i ((gHe G).getD i ([], 0)).2 := by
  have l90 : (jA S 90).length = 2 := z 90
  have h3 := hh.2.1
  have e90 : ∀ L, jA (kA S 91 L) 90 = jA S 90 := fun L => jA_ne (by decide)
  intro j
  induction j with
  | zero =>
    intro n c L hc hn hl h1 h2 h4
    obtain ⟨n, rfl⟩ : ∃ m, n = m + 1 := ⟨n - 1, by omega⟩
    refine ⟨L, ?_, hl, h1, fun i hi => h2 i (by omega)⟩
    rw [j_X7_guessKinds_2, e90, hh.1]
    exact it (by omega) (it (by omega) rfl)
  | succ j ih =>
    intro n c L hc hn hl h1 h2 h4
    obtain ⟨n, rfl⟩ : ∃ m, n = m + 1 := ⟨n - 1, by omega⟩
    have hk := h4 c (Nat.le_refl _) (by omega)
    have h88 : ∀ T, j_X7_guessKinds_88 (fun l1' S' => j_X7_guessKinds_2 n l1' S') c T = j_X7_guessKinds_2 n ((c + 1 : Nat) : Int) T := by
      intro T
      unfold j_X7_guessKinds_88
      refine it ⟨by omega, by omega⟩ ?_
      rw [show (c : Int) + 1 = ((c + 1 : Nat) : Int) by omega]
    have start : ∀ X, (if ¬ ((gHe G).getD c ([], 0)).2 = (3 : Int) then (j_X7_guessKinds_88 (fun l1' S' => j_X7_guessKinds_2 n l1' S') c (kA S 91 L)) else (j_X7_guessKinds_29 (fun l1' S' => j_X7_guessKinds_2 n l1' S') fuel c (1 : Int) (40 : Int) (kA S 91 L))) = X → j_X7_guessKinds_2 (n + 1) c (kA S 91 L) = X := by
      intro X hX
      rw [j_X7_guessKinds_2, e90, hh.1, jA_eq, show ((3 : Int) + (c : Int)).toNat = 3 + c by omega, hk]
      exact it (by omega) (ie (by omega) (it ⟨by omega, by omega⟩ (it ⟨by omega, by omega⟩ hX)))
    by_cases hg : ((gHe G).getD c ([], 0)).2 = 3
    · have zL : zS (kA S 91 L) := zS_kA z hl
      have haL : mAr (kA S 91 L) (gHe G).length (gAr G) := mAr_eq ha (jA_ne (by decide)) (jA_ne (by decide)) (jA_ne (by decide)) (jA_ne (by decide)) (jA_ne (by decide)) (jA_ne (by decide)) (jA_ne (by decide))
      have hv : ∀ v ∈ colS (gAr G) c, 0 ≤ v ∧ v ≤ 3 := by
        intro v hv
        obtain ⟨x, hx, e⟩ := List.mem_map.mp hv
        obtain ⟨w1, w2⟩ := hw.2.2.2.1 x hx
        rw [← e]
        refine w2 _ ?_
        rw [List.getD_eq_getElem?_getD, List.getElem?_eq_getElem (by omega)]
        exact List.getElem_mem _
      have e29 := l7_gk zL haL (r2 := fun l1' S' => j_X7_guessKinds_2 n l1' S') (c := c) (by omega) (by omega) hv (gAr G).length fuel 0 1 (by omega) (by have := ha.2.1; unfold fuel; omega) (by decide) (by decide)
      rw [List.drop_zero, gsK_mx hv, jA_eq, kA_kA, h88] at e29
      obtain ⟨L', e, q⟩ := ih n (c + 1) (L.set (3 + c) (gsK (colS (gAr G) c))) (by omega) (by omega) (by rw [List.length_set]; exact hl) (fun i hi => by rw [getD_set, if_neg (by omega)]; exact h1 i hi) (fun i hi => by
          rw [getD_set]
          by_cases ei : i = c
          · rw [if_pos ⟨by omega, by omega⟩, ei, stK, if_pos hg]
          · rw [if_neg (by omega)]; exact h2 i (by omega)) (fun i hi1 hi2 => by rw [getD_set, if_neg (by omega)]; exact h4 i (by omega) hi2)
      exact ⟨L', start _ (ie (nn hg) (e29.trans e)), q⟩
    · obtain ⟨L', e, q⟩ := ih n (c + 1) L (by omega) (by omega) hl h1 (fun i hi => by
          by_cases ei : i = c
          · rw [ei, hk, stK, if_neg hg]
          · exact h2 i (by omega)) (fun i hi1 hi2 => h4 i (by omega) hi2)
      exact ⟨L', start _ (it hg (by rw [h88]; exact e)), q⟩
theorem e7_gk {G : gT} (z : zS S) (hh : mHe S (gHe G)) (ha : mAr S (gHe G).length (gAr G)) (hw : wfG G) : ∃ L, j_X7_guessKinds S = some (kA S 91 L) ∧ L.length = 6 ∧ (∀ i, i < 3 → L.getD i 0 = (jA S 91).getD i 0) ∧ ∀ i, i < (gHe G).length → L.getD (3 + i) 0 = stK G i ((gHe G).getD i ([], 0)).2 := by
  have h3 := hh.2.1
  have := l7_gks z hh ha hw (gHe G).length fuel 0 (jA S 91) (by omega) (by unfold fuel; omega) (z 91) (fun _ _ => rfl) (fun i hi => absurd hi (Nat.not_lt_zero _)) (fun i _ hi => (hh.2.2 i hi).2.2.1)
  rw [kA_self] at this
  exact this
end MGK
