section MAR
variable {S S' S'' : iS} {L : List Int}
theorem v7_203 (v : vM S) {l1 l2 l3 l4 l5 l6 : Int} : ∃ S', j_X7_readArc_203 l1 l2 l3 l4 l5 l6 S = some S' ∧ lo S S' ∧ vM S' := by
  obtain ⟨p, e, v1⟩ := v7_blanks v
  refine ⟨kI S 82 27 p, ?_, lo_kI (by omega), v1⟩
  have e224 : j_X7_readArc_224 l1 l2 l3 l4 l5 l6 (kI S 82 27 p) = some (kI S 82 27 p) := by
    unfold j_X7_readArc_224 j_X7_readArc_257 j_X7_readArc_285 j_X7_readArc_299
    exact it v1.2.1 (it v1.2.1 (it v1.2.1 rfl))
  unfold j_X7_readArc_203
  rw [e, Option.bind_some, e7_here v1.1, Option.bind_some]
  dsimp only
  by_cases h : hd (mRs (kI S 82 27 p)) = -1
  · exact it h e224
  · refine ie h ?_
    rw [e7_wrong1 v1.2.1, Option.bind_some]
    exact e224
theorem v7_123 (v : vM S) {n : Nat} {l1 l2 l3 l4 l5 l6 : Int} : ∃ S', j_X7_readArc_123 (n + 1) l1 l2 l3 l4 l5 l6 S = some S' ∧ lo S S' ∧ vM S' := by
  have l90 : (jA S 90).length = 2 := v.1.1 90
  obtain ⟨S', e, q⟩ := v7_203 v (l1 := l1) (l2 := l2) (l3 := l3) (l4 := l4) (l5 := l5) (l6 := l6)
  refine ⟨S', ?_, q⟩
  rw [j_X7_readArc_123]
  refine it (by omega) ?_
  by_cases h : (jA S 90).getD 1 0 ≤ l6
  · exact it h e
  · exact ie h (it v.2.1 e)
theorem v7_111 (v : vM S) {l1 l2 l3 l4 l5 : Int} : ∃ S', j_X7_readArc_111 l1 l2 l3 l4 l5 S = some S' ∧ lo S S' ∧ vM S' := by
  have v1 : vM (kI S 82 38 1) := ⟨v.1, v.2⟩
  obtain ⟨S', e, lo1, v2⟩ := v7_123 v1 (n := 19999) (l1 := l1) (l2 := l2) (l3 := l3) (l4 := l4) (l5 := l5) (l6 := 0)
  refine ⟨S', ?_, lo_trans (lo_kI (by omega)) lo1, v2⟩
  unfold j_X7_readArc_111
  rw [e7_endedF v.2.1, Option.bind_some]
  exact e
theorem v7_66 (v : vM S) {l1 l2 l3 t : Int} : ∃ S', j_X7_readArc_66 l1 l2 l3 t S = some S' ∧ lo S S' ∧ vM S' := by
  obtain ⟨S', e, q⟩ := v7_111 v (l1 := l1) (l2 := l2) (l3 := l3) (l4 := t) (l5 := 0)
  refine ⟨S', ?_, q⟩
  unfold j_X7_readArc_66 j_X7_readArc_89 j_X7_readArc_90
  exact it v.2.1 (it rfl e)
theorem v7_50 (v : vM S) {l1 l2 l3 : Int} : ∃ S', j_X7_readArc_50 l1 l2 l3 S = some S' ∧ lo S S' ∧ vM S' := by
  obtain ⟨S', e, q⟩ := v7_66 v (l1 := l1) (l2 := l2) (l3 := l3) (t := -1)
  refine ⟨S', ?_, q⟩
  unfold j_X7_readArc_50
  exact it v.2.1 e
theorem v7_25 (v : vM S) {l1 t : Int} : ∃ S', j_X7_readArc_25 l1 t S = some S' ∧ lo S S' ∧ vM S' := by
  obtain ⟨p, e, v1⟩ := v7_blanks v
  obtain ⟨S', e2, lo2, v2⟩ := v7_50 v1 (l1 := l1) (l2 := t) (l3 := p)
  refine ⟨S', ?_, lo_trans (lo_kI (by omega)) lo2, v2⟩
  unfold j_X7_readArc_25
  rw [e7_endedF v.2.1, Option.bind_some, e, Option.bind_some]
  refine it v1.2.1 ?_
  rw [jI_eq]
  exact e2
theorem ixO_cons {y x : List Int} {l : List (List Int)} : ixO (y :: l) x = if y = x then 0 else ixO l x + 1 := by
  unfold ixO
  rw [List.findIdx_cons]
  by_cases h : y = x
  · rw [if_pos h, h, beq_self_eq_true]; rfl
  · rw [if_neg h, show (y == x) = false from beq_false_of_ne h]; rfl
theorem ixO_at : ∀ (l : List (List Int)) (k : Nat) (x : List Int), (∀ i, i < k → l.getD i [] ≠ x) → k < l.length → l.getD k [] = x → ixO l x = k := by
  intro l
  induction l with
  | nil => intro k x _ h _; exact absurd h (Nat.not_lt_zero _)
  | cons y l ih =>
    intro k x h1 h2 h3
    rw [ixO_cons]
    cases k with
    | zero => rw [List.getD_cons_zero] at h3; rw [if_pos h3]
    | succ k =>
      rw [List.getD_cons_succ] at h3
      rw [if_neg (by have := h1 0 (Nat.succ_pos _); rw [List.getD_cons_zero] at this; exact this), ih k x (fun i hi => by have := h1 (i + 1) (by omega); rw [List.getD_cons_succ] at this; exact this) (by rw [List.length_cons] at h2; omega) h3]
theorem ixO_new : ∀ (l : List (List Int)) (x : List Int), ¬ x ∈ l → ixO (l ++ [x]) x = l.length := by
  intro l
  induction l with
  | nil => intro x _; show ixO [x] x = 0; rw [ixO_cons, if_pos rfl]
  | cons y l ih =>
    intro x h
    rw [List.cons_append, ixO_cons, if_neg (fun q => h (by rw [q]; exact List.mem_cons_self)), ih x (fun q => h (List.mem_cons_of_mem _ q)), List.length_cons]
theorem ixO_app : ∀ (l m : List (List Int)) (x : List Int), x ∈ l → ixO (l ++ m) x = ixO l x := by
  intro l
  induction l with
  | nil => intro m x h; exact absurd h List.not_mem_nil
  | cons y l ih =>
    intro m x h
    rw [List.cons_append, ixO_cons, ixO_cons]
    by_cases e : y = x
    · rw [if_pos e, if_pos e]
    · rw [if_neg e, if_neg e, ih m x (by
        rcases List.mem_cons.mp h with q | q
        · exact absurd q.symm e
        · exact q)]
theorem mem_getD {l : List (List Int)} {x : List Int} (h : x ∈ l) : ∃ i, i < l.length ∧ l.getD i [] = x := by
  obtain ⟨i, hi, e⟩ := List.mem_iff_getElem.mp h
  exact ⟨i, hi, by rw [List.getD_eq_getElem?_getD, List.getElem?_eq_getElem hi]; exact e⟩
theorem getD_mem {l : List (List Int)} {i : Nat} (h : i < l.length) : l.getD i [] ∈ l := by
  rw [List.getD_eq_getElem?_getD, List.getElem?_eq_getElem h]
  exact List.getElem_mem h
abbrev FW (f : Nat) : Prop := f = 30 ∨ f = 31
abbrev RNd (a : Nat) : Prop := a = 84 ∨ a = 85
/-- nodeOf -/
theorem l7_nd (u : uM S) {x : List Int} (hn : nmd S x) {l : List (List Int)} (hh : mNo S l) {q : Int} (hq0 : 0 ≤ q) (hq1 : q ≤ 1000) : ∀ (m n k : Nat), k + m = l.length → m + 1 < n → (∀ i, i < k → l.getD i [] ≠ x) → ∃ v S', j_X7_nodeOf_2 n q k S = some (v, S') ∧ fr FW RNd S S' ∧ zS S' ∧ (∀ i, i < 270 → (jA S' 85).getD i 0 = (jA S 85).getD i 0) ∧ (jA S' 84).getD 0 0 = (jA S 84).getD 0 0 ∧ rs (ndS l x) S' (fun N => mNo S' N ∧ v = ixO N x) := by
  have l84 : (jA S 84).length = 2 := u.1.1 84
  have l85 : (jA S 85).length = 540 := u.1.1 85
  have h30 := hh.2.1
  have h8 := nmd_le hn
  intro m
  induction m with
  | zero =>
    intro n k hk hm hno
    obtain ⟨n, rfl⟩ : ∃ m, n = m + 1 := ⟨n - 1, by omega⟩
    have hnm : ¬ x ∈ l := fun hx => by
      obtain ⟨i, hi, e⟩ := mem_getD hx
      exact hno i (by omega) e
    rw [j_X7_nodeOf_2, hh.1]
    by_cases hf : l.length = 30
    · refine ⟨-1, kI (kI S 82 30 6) 82 31 q, it (by omega) (it (by omega) (ie (nn (by omega)) ?_)), fr_w (by omega) (by omega), u.1.1, fun _ _ => rfl, rfl, ?_⟩
      · rw [e7_wrong0 u.2.1]; rfl
      · rw [ndS, if_neg hnm, if_pos (by omega)]
        exact vM_w' u.1 (by decide) hq0 hq1 (by have := u.2.2; have := u.1.2.2.1; omega)
    · obtain ⟨L, eL, lL, oL, nL⟩ := e7_lay u.1.1 hn (a := 85) (p := 270 + 9 * l.length) (by decide) (by omega)
      have z1 : zS (kA S 85 L) := zS_kA u.1.1 (by rw [lL]; exact u.1.1 85)
      have z2 : zS (kA (kA S 85 L) 84 ((jA S 84).set 1 (l.length + 1))) := zS_kA z1 (by rw [List.length_set]; exact u.1.1 84)
      refine ⟨(l.length : Int), kA (kA S 85 L) 84 ((jA S 84).set 1 (l.length + 1)), it (by omega) (it (by omega) (it (by omega) (it ⟨by omega, by omega⟩ (it ⟨by omega, by omega⟩ ?_)))), fr_trans (fr_kA (by omega)) (fr_kA (by omega)), z2, fun i hi => ?_, ?_, ?_⟩
      · rw [show (270 : Int) + 9 * (l.length : Int) = ((270 + 9 * l.length : Nat) : Int) by omega, eL, Option.bind_some, jA_ne (by decide), hh.1, getD_set, if_pos (show (1 = 1 ∧ 1 < (jA S 84).length) from ⟨rfl, by omega⟩), List.length_set]
        refine it (by omega) (it ⟨by omega, by omega⟩ (it (by omega) (it ⟨by omega, by omega⟩ ?_)))
        rw [show (l.length : Int) + 1 - 1 = l.length by omega]
      · rw [jA_ne (by decide), jA_eq]; exact oL i (.inl (by omega))
      · rw [jA_eq, getD_set, if_neg (by omega)]
      · rw [ndS, if_neg hnm, if_neg (by omega)]
        refine ⟨uM_kA (uM_kA u z1) z2, ⟨?_, by rw [List.length_append, List.length_singleton]; omega, fun i hi => ?_⟩, by rw [ixO_new l x hnm]⟩
        · rw [jA_eq, getD_set, if_pos ⟨rfl, by omega⟩, List.length_append]; rfl
        · rw [List.length_append, List.length_singleton] at hi
          rw [jA_ne (by decide), jA_eq, getD_appG]
          by_cases ei : i = l.length
          · rw [if_neg (by omega), if_pos ei, ei]; exact ⟨nL, h8⟩
          · rw [if_pos (by omega)]
            obtain ⟨o1, o2⟩ := hh.2.2 i (by omega)
            exact ⟨nmAt_eq o1 (fun j j1 j2 => oL j (.inl (by omega))), o2⟩
  | succ m ih =>
    intro n k hk hm hno
    obtain ⟨n, rfl⟩ : ∃ m, n = m + 1 := ⟨n - 1, by omega⟩
    obtain ⟨c1, c2⟩ := hh.2.2 k (by omega)
    have hs := e7_same u.1.1 hn c1 (by omega)
    have hstep : ∀ X, (if bi (l.getD k [] = x) = (0 : Int) then (if rg ((k : Int) + (1 : Int)) then (j_X7_nodeOf_2 n q ((k : Int) + (1 : Int)) S) else none) else (some ((k : Int), S))) = X → j_X7_nodeOf_2 (n + 1) q k S = X := by
      intro X hX
      rw [j_X7_nodeOf_2, hh.1]
      refine it (by omega) (ie (by omega) (it ⟨by omega, by omega⟩ (it ⟨by omega, by omega⟩ ?_)))
      rw [show (270 : Int) + 9 * (k : Int) = ((270 + 9 * k : Nat) : Int) by omega, hs, Option.bind_some]
      exact hX
    by_cases he : l.getD k [] = x
    · refine ⟨k, S, hstep _ (ie (bi_n he) rfl), fr_refl, u.1.1, fun _ _ => rfl, rfl, ?_⟩
      rw [ndS, if_pos (by rw [← he]; exact getD_mem (by omega))]
      exact ⟨u, hh, by rw [ixO_at l k x hno (by omega) he]⟩
    · obtain ⟨v, S', e, q1⟩ := ih n (k + 1) (by omega) (by omega) (fun i hi => by
        by_cases ei : i = k
        · rw [ei]; exact he
        · exact hno i (by omega))
      refine ⟨v, S', hstep _ (it (bi_0.mpr he) (it ⟨by omega, by omega⟩ ?_)), q1⟩
      rw [show (k : Int) + 1 = ((k + 1 : Nat) : Int) by omega]
      exact e
theorem e7_nd (u : uM S) {x : List Int} (hn : nmd S x) {l : List (List Int)} (hh : mNo S l) {q : Int} (hq0 : 0 ≤ q) (hq1 : q ≤ 1000) : ∃ v S', j_X7_nodeOf q S = some (v, S') ∧ fr FW RNd S S' ∧ zS S' ∧ (∀ i, i < 270 → (jA S' 85).getD i 0 = (jA S 85).getD i 0) ∧ (jA S' 84).getD 0 0 = (jA S 84).getD 0 0 ∧ rs (ndS l x) S' (fun N => mNo S' N ∧ v = ixO N x) :=
  l7_nd u hn hh hq0 hq1 l.length fuel 0 (by omega) (by have := hh.2.1; unfold fuel; omega) (fun i hi => absurd hi (Nat.not_lt_zero _))
theorem l7_db (z : zS S) {nh : Nat} {l : List (Int × Int × Int × List vT)} (hh : mAr S nh l) {f t : Int} : ∀ (m n k : Nat), k + m = l.length → m < n → j_X7_isDoubled_3 n f t (40 + (k : Int)) S = some (bi (dbS (l.drop k) f t = true), S) := by
  have l86 : (jA S 86).length = 2 := z 86
  have l87 : (jA S 87).length = 80 := z 87
  have l88 : (jA S 88).length = 80 := z 88
  have h40 := hh.2.1
  intro m
  induction m with
  | zero =>
    intro n k hk hm
    obtain ⟨n, rfl⟩ : ∃ m, n = m + 1 := ⟨n - 1, by omega⟩
    rw [j_X7_isDoubled_3, hh.1, List.drop_eq_nil_of_le (by omega)]
    exact it (by omega) (it ⟨by omega, by omega⟩ (it (by omega) (by rw [bi_f (show ¬ dbS [] f t = true from fun q => Bool.noConfusion q)])))
  | succ m ih =>
    intro n k hk hm
    obtain ⟨n, rfl⟩ : ∃ m, n = m + 1 := ⟨n - 1, by omega⟩
    obtain ⟨⟨c1, c2, _, _⟩, _⟩ := hh.2.2 k (by omega)
    have hdr : l.drop k = l.getD k (0, 0, 0, []) :: l.drop (k + 1) := by
      rw [List.drop_eq_getElem_cons (by omega), List.getD_eq_getElem?_getD, List.getElem?_eq_getElem (by omega)]
      rfl
    have h38 : j_X7_isDoubled_38 (fun l1' l2' l3' S' => j_X7_isDoubled_3 n l1' l2' l3' S') f t (40 + (k : Int)) S = some (bi (dbS (l.drop (k + 1)) f t = true), S) := by
      unfold j_X7_isDoubled_38
      refine it ⟨by omega, by omega⟩ ?_
      rw [show (40 : Int) + (k : Int) + 1 = 40 + ((k + 1 : Nat) : Int) by omega]
      exact ih n (k + 1) (by omega) (by omega)
    have hcons : dbS (l.drop k) f t = ((l.getD k (0, 0, 0, [])).1 == f && (l.getD k (0, 0, 0, [])).2.1 == t || dbS (l.drop (k + 1)) f t) := by
      rw [hdr]; rfl
    rw [j_X7_isDoubled_3, hh.1, hcons, show ((40 : Int) + (k : Int)).toNat = 40 + k by omega, c1, c2]
    refine it (by omega) (it ⟨by omega, by omega⟩ (ie (by omega) (it ⟨by omega, by omega⟩ ?_)))
    by_cases e1 : (l.getD k (0, 0, 0, [])).1 = f
    · refine ie (nn e1) (it ⟨by omega, by omega⟩ ?_)
      by_cases e2 : (l.getD k (0, 0, 0, [])).2.1 = t
      · refine ie (nn e2) ?_
        rw [e1, e2, beq_self_eq_true, beq_self_eq_true]
        rw [bi_t (by rfl)]
      · refine it e2 ?_
        rw [h38, show ((l.getD k (0, 0, 0, [])).2.1 == t) = false from beq_false_of_ne e2, Bool.and_false, Bool.false_or]
    · refine it e1 ?_
      rw [h38, show ((l.getD k (0, 0, 0, [])).1 == f) = false from beq_false_of_ne e1, Bool.false_and, Bool.false_or]
theorem e7_db (z : zS S) {nh : Nat} {l : List (Int × Int × Int × List vT)} (hh : mAr S nh l) {f t : Int} : j_X7_isDoubled f t S = some (bi (dbS l f t = true), S) := by
  have := l7_db z hh (f := f) (t := t) l.length fuel 0 (by omega) (by have := hh.2.1; unfold fuel; omega)
  rw [List.drop_zero] at this
  exact this
end MAR
