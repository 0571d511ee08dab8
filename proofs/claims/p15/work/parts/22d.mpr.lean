section MPR
variable {S S' S'' : iS} {G : gT} {xs ys : List Int}
/-- room for n bytes more of the model -/
def mw (S : iS) (n : Nat) : Prop := zS S ∧ 0 ≤ jI S 82 26 ∧ jI S 82 26 + n ≤ 2400
abbrev eM (S : iS) (xs : List Int) : iS := gaL S 82 26 102 xs
theorem mw_e {n : Nat} (h : mw S (xs.length + n)) : mw (eM S xs) n := by
  obtain ⟨h1, h2, h3⟩ := h
  refine ⟨gaL_zS h1, ?_, ?_⟩
  · rw [gaL_len]; omega
  · rw [gaL_len]; omega
theorem mw_m {n m : Nat} (h : mw S n) (hm : m ≤ n) : mw S m := ⟨h.1, h.2.1, by have := h.2.2; omega⟩
theorem eM_app : eM (eM S xs) ys = eM S (xs ++ ys) := gaL_app
theorem eM_A {a : Nat} (h : a ≠ 102) : jA (eM S xs) a = jA S a := gaL_A h
theorem p7_put {x : Int} (h : mw S 1) : j_X7_put x S = some (eM S [x]) := by
  have l : (jA S 102).length = 2400 := h.1 102
  have h1 := h.2.1
  have h2 := h.2.2
  unfold j_X7_put j_X7_put_0
  exact it ⟨h1, by omega⟩ (it ⟨by omega, by omega⟩ rfl)
theorem w18_0 {v : Int} {n : Nat} : j_X7_putWhole_18 (n + 1) v 0 S = some S := by
  rw [j_X7_putWhole_18]
  exact it (by decide) rfl
theorem w18_s {v u : Int} {n : Nat} (hv : 0 ≤ v) (hu : 0 < u) (h : mw S 1) : j_X7_putWhole_18 (n + 1) v u S = j_X7_putWhole_18 n v (u / 10) (eM S [48 + v / u % 10]) := by
  have hq : 0 ≤ v / u := Int.ediv_nonneg hv (by omega)
  have hr1 : 0 ≤ v / u % 10 := Int.emod_nonneg _ (by decide)
  have hr2 : v / u % 10 < 10 := Int.emod_lt_of_pos _ (by decide)
  rw [j_X7_putWhole_18]
  refine ie (by omega) (it (by omega) (it ⟨hv, hu⟩ (it ⟨hq, by decide⟩ (it ⟨by omega, by omega⟩ ?_))))
  rw [p7_put h, Option.bind_some]
  exact it ⟨by omega, by decide⟩ rfl
theorem w18_1 {v : Int} {n : Nat} (hv : 0 ≤ v) (h : mw S 1) : j_X7_putWhole_18 (n + 2) v 1 S = some (eM S [48 + v / 1 % 10]) := by
  rw [w18_s hv (by decide) h, show (1 : Int) / 10 = 0 by decide, w18_0]
theorem w18_2 {v : Int} {n : Nat} (hv : 0 ≤ v) (h : mw S 2) : j_X7_putWhole_18 (n + 3) v 10 S = some (eM S [48 + v / 10 % 10, 48 + v / 1 % 10]) := by
  rw [w18_s hv (by decide) (mw_m h (by decide)), show (10 : Int) / 10 = 1 by decide, w18_1 hv (mw_e h), eM_app]
  rfl
theorem w18_3 {v : Int} {n : Nat} (hv : 0 ≤ v) (h : mw S 3) : j_X7_putWhole_18 (n + 4) v 100 S = some (eM S [48 + v / 100 % 10, 48 + v / 10 % 10, 48 + v / 1 % 10]) := by
  rw [w18_s hv (by decide) (mw_m h (by decide)), show (100 : Int) / 10 = 10 by decide, w18_2 hv (mw_e h), eM_app]
  rfl
theorem w18_4 {v : Int} {n : Nat} (hv : 0 ≤ v) (h : mw S 4) : j_X7_putWhole_18 (n + 5) v 1000 S = some (eM S [48 + v / 1000 % 10, 48 + v / 100 % 10, 48 + v / 10 % 10, 48 + v / 1 % 10]) := by
  rw [w18_s hv (by decide) (mw_m h (by decide)), show (1000 : Int) / 10 = 100 by decide, w18_3 hv (mw_e h), eM_app]
  rfl
theorem w18_5 {v : Int} {n : Nat} (hv : 0 ≤ v) (h : mw S 5) : j_X7_putWhole_18 (n + 6) v 10000 S = some (eM S [48 + v / 10000 % 10, 48 + v / 1000 % 10, 48 + v / 100 % 10, 48 + v / 10 % 10, 48 + v / 1 % 10]) := by
  rw [w18_s hv (by decide) (mw_m h (by decide)), show (10000 : Int) / 10 = 1000 by decide, w18_4 hv (mw_e h), eM_app]
  rfl
theorem w18_6 {v : Int} {n : Nat} (hv : 0 ≤ v) (h : mw S 6) : j_X7_putWhole_18 (n + 7) v 100000 S = some (eM S [48 + v / 100000 % 10, 48 + v / 10000 % 10, 48 + v / 1000 % 10, 48 + v / 100 % 10, 48 + v / 10 % 10, 48 + v / 1 % 10]) := by
  rw [w18_s hv (by decide) (mw_m h (by decide)), show (100000 : Int) / 10 = 10000 by decide, w18_5 hv (mw_e h), eM_app]
  rfl
theorem w2_s {v u : Int} {n : Nat} (hv : 0 ≤ v) (hu : 0 < u) (hu2 : u ≤ 100000) (h9 : ¬ v / u ≤ 9) : j_X7_putWhole_2 (n + 1) v u S = j_X7_putWhole_2 n v (u * 10) S := by
  rw [j_X7_putWhole_2]
  exact it (by omega) (it ⟨hv, hu⟩ (ie h9 (it ⟨by omega, by omega⟩ rfl)))
theorem w2_e {v u : Int} {n : Nat} (hv : 0 ≤ v) (hu : 0 < u) (h9 : v / u ≤ 9) : j_X7_putWhole_2 (n + 1) v u S = j_X7_putWhole_18 fuel v u S := by
  rw [j_X7_putWhole_2]
  exact it (by omega) (it ⟨hv, hu⟩ (it h9 rfl))
theorem dg_y {v u : Int} (h : u ≤ v ∨ u = 1) : dg v u = [48 + v / u % 10] := if_pos h
theorem dg_n {v u : Int} (h : v < u) (h1 : u ≠ 1) : dg v u = [] := if_neg (fun q => by omega)
theorem p7_wh {v : Int} (hv : 0 ≤ v) (hv2 : v ≤ 999999) (h : mw S (pwh v).length) : j_X7_putWhole v S = some (eM S (pwh v)) := by
  unfold j_X7_putWhole j_X7_putWhole_0
  show j_X7_putWhole_2 (19993 + 1 + 1 + 1 + 1 + 1 + 1 + 1) v 1 S = _
  unfold pwh at h ⊢
  by_cases h1 : v < 10
  · rw [dg_n (u := 100000) (by omega) (by decide), dg_n (u := 10000) (by omega) (by decide), dg_n (u := 1000) (by omega) (by decide), dg_n (u := 100) (by omega) (by decide), dg_n (u := 10) (by omega) (by decide), dg_y (u := 1) (.inr rfl)] at h ⊢
    rw [w2_e hv (by decide) (by omega)]
    exact w18_1 hv h
  · by_cases h2 : v < 100
    · rw [dg_n (u := 100000) (by omega) (by decide), dg_n (u := 10000) (by omega) (by decide), dg_n (u := 1000) (by omega) (by decide), dg_n (u := 100) (by omega) (by decide), dg_y (u := 10) (.inl (by omega)), dg_y (u := 1) (.inr rfl)] at h ⊢
      rw [w2_s hv (by decide) (by decide) (by omega), show (1 : Int) * 10 = 10 by decide, w2_e hv (by decide) (by omega)]
      exact w18_2 hv h
    · by_cases h3 : v < 1000
      · rw [dg_n (u := 100000) (by omega) (by decide), dg_n (u := 10000) (by omega) (by decide), dg_n (u := 1000) (by omega) (by decide), dg_y (u := 100) (.inl (by omega)), dg_y (u := 10) (.inl (by omega)), dg_y (u := 1) (.inr rfl)] at h ⊢
        rw [w2_s hv (by decide) (by decide) (by omega), show (1 : Int) * 10 = 10 by decide, w2_s hv (by decide) (by decide) (by omega), show (10 : Int) * 10 = 100 by decide, w2_e hv (by decide) (by omega)]
        exact w18_3 hv h
      · by_cases h4 : v < 10000
        · rw [dg_n (u := 100000) (by omega) (by decide), dg_n (u := 10000) (by omega) (by decide), dg_y (u := 1000) (.inl (by omega)), dg_y (u := 100) (.inl (by omega)), dg_y (u := 10) (.inl (by omega)), dg_y (u := 1) (.inr rfl)] at h ⊢
          rw [w2_s hv (by decide) (by decide) (by omega), show (1 : Int) * 10 = 10 by decide, w2_s hv (by decide) (by decide) (by omega), show (10 : Int) * 10 = 100 by decide, w2_s hv (by decide) (by decide) (by omega), show (100 : Int) * 10 = 1000 by decide, w2_e hv (by decide) (by omega)]
          exact w18_4 hv h
        · by_cases h5 : v < 100000
          · rw [dg_n (u := 100000) (by omega) (by decide), dg_y (u := 10000) (.inl (by omega)), dg_y (u := 1000) (.inl (by omega)), dg_y (u := 100) (.inl (by omega)), dg_y (u := 10) (.inl (by omega)), dg_y (u := 1) (.inr rfl)] at h ⊢
            rw [w2_s hv (by decide) (by decide) (by omega), show (1 : Int) * 10 = 10 by decide, w2_s hv (by decide) (by decide) (by omega), show (10 : Int) * 10 = 100 by decide, w2_s hv (by decide) (by decide) (by omega), show (100 : Int) * 10 = 1000 by decide, w2_s hv (by decide) (by decide) (by omega), show (1000 : Int) * 10 = 10000 by decide, w2_e hv (by decide) (by omega)]
            exact w18_5 hv h
          · rw [dg_y (u := 100000) (.inl (by omega)), dg_y (u := 10000) (.inl (by omega)), dg_y (u := 1000) (.inl (by omega)), dg_y (u := 100) (.inl (by omega)), dg_y (u := 10) (.inl (by omega)), dg_y (u := 1) (.inr rfl)] at h ⊢
            rw [w2_s hv (by decide) (by decide) (by omega), show (1 : Int) * 10 = 10 by decide, w2_s hv (by decide) (by decide) (by omega), show (10 : Int) * 10 = 100 by decide, w2_s hv (by decide) (by decide) (by omega), show (100 : Int) * 10 = 1000 by decide, w2_s hv (by decide) (by decide) (by omega), show (1000 : Int) * 10 = 10000 by decide, w2_s hv (by decide) (by decide) (by omega), show (10000 : Int) * 10 = 100000 by decide, w2_e hv (by decide) (by omega)]
            exact w18_6 hv h
theorem p7_fr {l1 l2 : Int} : ∀ (k n : Nat) (r : Int) (S : iS), 0 ≤ r → r < 1000 → (k = 0 → r = 0) → (k = 1 → r % 100 = 0) → (k = 2 → r % 10 = 0) → k ≤ 3 → k < n → mw S (pfK k r).length → j_X7_putNumber_46 n l1 l2 r S = some (eM S (pfK k r)) := by
  intro k
  induction k with
  | zero =>
    intro n r S h0 h1 a0 _ _ _ hn _
    obtain ⟨n, rfl⟩ : ∃ p, n = p + 1 := ⟨n - 1, by omega⟩
    rw [j_X7_putNumber_46]
    exact it (by have := a0 rfl; omega) rfl
  | succ k ih =>
    intro n r S h0 h1 a0 a1 a2 hk hn h
    obtain ⟨n, rfl⟩ : ∃ p, n = p + 1 := ⟨n - 1, by omega⟩
    rw [j_X7_putNumber_46]
    rw [pfK] at h ⊢
    by_cases hr : r ≤ 0
    · rw [if_pos hr, if_pos hr]; rfl
    · rw [if_neg hr] at h ⊢
      rw [if_neg hr]
      refine it ⟨h0, by decide⟩ (it ⟨by omega, by omega⟩ ?_)
      rw [List.length_cons] at h
      rw [p7_put (mw_m h (by omega)), Option.bind_some]
      refine it ⟨by omega, by omega⟩ ?_
      rw [ih n (r % 100 * 10) _ (by omega) (by omega) (fun e => by have := a1 (by omega); omega) (fun e => by have := a2 (by omega); omega) (fun e => by omega) (by omega) (by omega) (mw_e (by rw [List.length_singleton, Nat.add_comm]; exact h)), eM_app]
      rfl
theorem p7_t1 {l1 v : Int} (hv : 0 ≤ v) (hv2 : v ≤ 999999999) (h : mw S (pt1 v).length) : j_X7_putNumber_21 l1 v S = some (eM S (pt1 v)) := by
  unfold pt1 at h ⊢
  rw [List.length_append] at h
  unfold j_X7_putNumber_21
  refine it ⟨hv, by decide⟩ ?_
  rw [p7_wh (by omega) (by omega) (mw_m h (by omega)), Option.bind_some]
  have h1 := mw_e h
  by_cases hr : v % 1000 ≤ 0
  · rw [if_pos hr] at h1 ⊢
    rw [if_pos hr, p7_fr 3 fuel (v % 1000) _ (by omega) (by omega) (fun e => absurd e (by decide)) (fun e => absurd e (by decide)) (fun e => absurd e (by decide)) (by decide) (by unfold fuel; decide) h1, eM_app]
  · rw [if_neg hr] at h1 ⊢
    rw [List.length_cons] at h1
    rw [if_neg hr, p7_put (mw_m h1 (by omega)), Option.bind_some, p7_fr 3 fuel (v % 1000) _ (by omega) (by omega) (fun e => absurd e (by decide)) (fun e => absurd e (by decide)) (fun e => absurd e (by decide)) (by decide) (by unfold fuel; decide) (mw_e (by rw [List.length_singleton, Nat.add_comm]; exact h1)), eM_app, eM_app]
    simp only [List.append_assoc, List.singleton_append]
theorem p7_th {t : Int} (h0 : -999999999 ≤ t) (h1 : t ≤ 999999999) (h : mw S (pth t).length) : j_X7_putNumber t S = some (eM S (pth t)) := by
  unfold pth at h ⊢
  unfold j_X7_putNumber j_X7_putNumber_0 j_X7_putNumber_10
  by_cases ht : 0 ≤ t
  · rw [if_pos ht] at h ⊢
    rw [if_pos ht, if_pos ht]
    exact p7_t1 ht h1 h
  · rw [if_neg ht] at h ⊢
    rw [List.length_cons] at h
    rw [if_neg ht, if_pos (show rg (-t) from ⟨by omega, by omega⟩), if_neg ht, p7_put (mw_m h (by omega)), Option.bind_some, p7_t1 (by omega) (by omega) (mw_e (by rw [List.length_singleton, Nat.add_comm]; exact h)), eM_app]
    rfl
theorem p7_nl {a p : Nat} {q : Int} {ns : List Int} (ha : a ≠ 102) (hp : p ≤ 20000) (hl : ns.length ≤ 1000) : ∀ (j n k : Nat) (S : iS), nmAt (jA S a) p ns → p + ns.length < (jA S a).length → k + j = ns.length → j < n → mw S (esc (ns.drop k) ++ (if q = 0 then [34] else [])).length → j_X7_putName_54 a n p q ((k : Int) + 1) S = some (eM S (esc (ns.drop k) ++ (if q = 0 then [34] else []))) := by
  intro j
  induction j with
  | zero =>
    intro n k S h hlt hk hn hc
    obtain ⟨n, rfl⟩ : ∃ p, n = p + 1 := ⟨n - 1, by omega⟩
    rw [List.drop_eq_nil_of_le (by omega), esc_nil, List.nil_append] at hc ⊢
    rw [j_X7_putName_54, show ((p : Int)).toNat = p by omega, h.1]
    unfold j_X7_putName_116
    refine it ⟨by omega, by omega⟩ (it (by omega) ?_)
    by_cases hq : q = 0
    · rw [if_pos hq] at hc ⊢
      rw [if_neg (nn hq), p7_put hc, Option.bind_some]
    · rw [if_neg hq, if_pos hq]; rfl
  | succ j ih =>
    intro n k S h hlt hk hn hc
    obtain ⟨n, rfl⟩ : ∃ p, n = p + 1 := ⟨n - 1, by omega⟩
    have e2 : (jA S a).getD ((p : Int) + ((k : Int) + 1)).toNat 0 = ns.getD k 0 := by
      rw [show ((p : Int) + ((k : Int) + 1)).toNat = p + 1 + k by omega]; exact h.2 k (by omega)
    have d := drop_getD (l := ns) (k := k) (by omega)
    rw [d, esc] at hc ⊢
    rw [j_X7_putName_54, show ((p : Int)).toNat = p by omega, h.1, e2]
    refine it ⟨by omega, by omega⟩ (ie (by omega) (it ⟨by omega, by omega⟩ (it ⟨by omega, by omega⟩ ?_)))
    unfold j_X7_putName_84 j_X7_putName_90
    have tl : ∀ ys, mw (eM S ys) ((esc (ns.drop (k + 1)) ++ (if q = 0 then [34] else [])).length + 1) → (if rg ((p : Int) + ((k : Int) + 1)) then (if (0 ≤ ((p : Int) + ((k : Int) + 1)) ∧ ((p : Int) + ((k : Int) + 1)) < (jA (eM S ys) a).length) then ((j_X7_put ((jA (eM S ys) a).getD ((p : Int) + ((k : Int) + 1)).toNat 0) (eM S ys)).bind fun qx1 => (if rg (((k : Int) + 1) + (1 : Int)) then (j_X7_putName_54 a n p q (((k : Int) + 1) + (1 : Int)) qx1) else none)) else none) else none) = some (eM (eM S ys) (ns.getD k 0 :: (esc (ns.drop (k + 1)) ++ (if q = 0 then [34] else [])))) := by
      intro ys hcT
      rw [eM_A ha, e2, p7_put (mw_m hcT (by omega)), Option.bind_some]
      refine it ⟨by omega, by omega⟩ (it ⟨by omega, by omega⟩ (it ⟨by omega, by omega⟩ ?_))
      have := ih n (k + 1) (eM (eM S ys) [ns.getD k 0]) (by rw [eM_A ha, eM_A ha]; exact h) (by rw [eM_A ha, eM_A ha]; exact hlt) (by omega) (by omega) (mw_e (by rw [List.length_singleton, Nat.add_comm]; exact hcT))
      rw [show (((k + 1 : Nat) : Int) + 1) = (k : Int) + 1 + 1 by omega] at this
      rw [this, eM_app]
      rfl
    by_cases hs : ns.getD k 0 = 34 ∨ ns.getD k 0 = 92
    · rw [if_pos hs, List.cons_append, List.cons_append, List.length_cons, List.length_cons] at hc
      rw [if_pos hs, List.cons_append, List.cons_append]
      have t1 := tl [92] (mw_e (by rw [List.length_singleton, Nat.add_comm]; exact hc))
      rw [eM_app] at t1
      by_cases h34 : ns.getD k 0 = 34
      · refine it h34 ?_
        rw [p7_put (mw_m hc (by omega)), Option.bind_some]
        exact t1
      · refine ie h34 (ie (nn (hs.resolve_left h34)) ?_)
        rw [p7_put (mw_m hc (by omega)), Option.bind_some]
        exact t1
    · rw [if_neg hs, List.cons_append, List.length_cons] at hc
      rw [if_neg hs, List.cons_append]
      have t1 := tl [] hc
      exact ie (fun q => hs (.inl q)) (it (fun q => hs (.inr q)) t1)
end MPR
