section CTI
variable {S S' S'' : iS} {b : Bool}
theorem l6_93 (w : wC b S) {l2 l3 : Int} : ∀ (j n : Nat) (v c : Int), c + j = 3 → 0 ≤ c → 0 ≤ v → v * 10 ^ j ≤ 1000000000 → j < n → j_X2_thousandthsRead_93 n v l2 l3 c S = some ((if rat S (gadr b + 1) (jI S 80 11) = 45 then -(v * 10 ^ j) else v * 10 ^ j), S) := by
  intro j
  induction j with
  | zero =>
    intro n v c hc h0 v0 v1 hn
    obtain ⟨n, rfl⟩ : ∃ m, n = m + 1 := ⟨n - 1, by omega⟩
    rw [Int.pow_zero, Int.mul_one] at v1 ⊢
    rw [j_X2_thousandthsRead_93, w.2.1]
    unfold j_X2_thousandthsRead_135
    refine it (by omega) ?_
    rw [eR_at w.1, Option.bind_some]
    by_cases h : rat S (gadr b + 1) (jI S 80 11) = 45
    · rw [if_pos h]
      exact ie (nn h) (it ⟨by omega, by omega⟩ rfl)
    · rw [if_neg h]
      exact it h rfl
  | succ j ih =>
    intro n v c hc h0 v0 v1 hn
    obtain ⟨n, rfl⟩ : ∃ m, n = m + 1 := ⟨n - 1, by omega⟩
    have p1 := p10 j
    have e : v * 10 ^ (j + 1) = v * 10 * 10 ^ j := by rw [Int.pow_succ, Int.mul_comm (10 ^ j : Int) 10, ← Int.mul_assoc]
    rw [e] at v1 ⊢
    have v2 : v * 10 ≤ 1000000000 := by
      have : v * 10 * 1 ≤ v * 10 * 10 ^ j := Int.mul_le_mul_of_nonneg_left p1 (by omega)
      omega
    rw [j_X2_thousandthsRead_93]
    exact ie (by omega) (it ⟨by omega, by omega⟩ (it ⟨by omega, by omega⟩ (ih n (v * 10) (c + 1) (by omega) (by omega) (by omega) v1 (by omega))))
/-- one sign that is no figure -/
theorem s6_12 (w : wC b S) {n k : Nat} {v bh pt c : Int} {rest : List Int} (hd1 : (sg b S).drop k = c :: rest) (hc : ¬ isFig c) : j_X2_thousandthsRead_12 (n + 1) v bh pt k S = j_X2_thousandthsRead_12 n v bh (if c = 46 then 1 else pt) ((k + 1 : Nat) : Int) S ∧ (sg b S).drop (k + 1) = rest ∧ (sg b S).getD k 0 = c ∧ k < (sg b S).length := by
  have hl := sg_len w
  have h600 := w.2.2.2.2.2.2
  have hkl : k < (sg b S).length := by
    have := congrArg List.length hd1
    rw [List.length_drop, List.length_cons] at this
    omega
  have hd2 := drop_getD hkl
  rw [hd1] at hd2
  obtain ⟨hc1, hc2⟩ := List.cons.inj hd2
  refine ⟨?_, hc2.symm, hc1.symm, hkl⟩
  rw [j_X2_thousandthsRead_12, w.2.1]
  unfold j_X2_thousandthsRead_84
  refine ie (by omega) ?_
  rw [eR_at w.1, Option.bind_some, sg_at w (by omega) (by omega), show ((k : Int)).toNat = k by omega, ← hc1, show (k : Int) + 1 = ((k + 1 : Nat) : Int) by omega]
  dsimp only
  by_cases h46 : c = 46
  · rw [if_pos h46, if_neg (nn h46), if_pos ⟨by omega, by omega⟩]
  · rw [if_neg h46, if_pos h46, e6_fig, Option.bind_some]
    exact it (bi_0.mpr hc) (it ⟨by omega, by omega⟩ rfl)
theorem e6_12 (w : wC b S) {n k : Nat} {v bh pt : Int} (hk : (sg b S).length ≤ k) : j_X2_thousandthsRead_12 (n + 1) v bh pt k S = j_X2_thousandthsRead_93 fuel v bh pt bh S := by
  have hl := sg_len w
  rw [j_X2_thousandthsRead_12, w.2.1]
  exact it (by omega) rfl
theorem dv_b {ds : List Int} (h : ∀ c ∈ ds, isFig c) : 0 ≤ dv ds ∧ dv ds + 1 ≤ 10 ^ ds.length := by
  obtain ⟨h1, h2⟩ := dvF_b ds 0 h (by decide)
  have h2' : dv ds < (0 + 1) * 10 ^ ds.length := h2
  rw [Int.zero_add, Int.one_mul] at h2'
  exact ⟨h1, by omega⟩
theorem pow_le {a c : Nat} (h : a ≤ c) : (10 : Int) ^ a ≤ 10 ^ c := by
  obtain ⟨d, rfl⟩ := Nat.le.dest h
  rw [Int.pow_add]
  have h1 := p10 a
  have h2 := p10 d
  have : (10 : Int) ^ a * 1 ≤ 10 ^ a * 10 ^ d := Int.mul_le_mul_of_nonneg_left h2 (by omega)
  omega
/-- the thousandths, read off the signs -/
theorem c_th (w : wC b S) {v : vT} (hs : shp v) (hv : v.1 = 1 ∨ v.1 = 2) {pre : List Int} (hsg : sg b S = pre ++ v.2.2) (h11 : jI S 80 11 = pre.length) : j_X2_thousandthsRead S = some (v.2.1, S) := by
  have hl := sg_len w
  have h600 := w.2.2.2.2.2.2
  have hdrop : (sg b S).drop pre.length = v.2.2 := by rw [hsg, List.drop_left]
  unfold j_X2_thousandthsRead j_X2_thousandthsRead_0
  rw [h11]
  -- behind the -
  have hhead : ∀ (m tl : List Int), (m = [] ∨ m = [45]) → v.2.2 = m ++ tl → (∀ c ∈ tl.take 1, isFig c) → tl ≠ [] → ∀ n, ∃ n', n' + 1 = n + 1 + (1 - m.length) ∧ j_X2_thousandthsRead_12 (n + 2) 0 0 0 (pre.length : Int) S = j_X2_thousandthsRead_12 (n' + 1) 0 0 0 ((pre.length + m.length : Nat) : Int) S ∧ (sg b S).drop (pre.length + m.length) = tl ∧ (rat S (gadr b + 1) (jI S 80 11) = 45 ↔ m ≠ []) := by
    intro m tl hm e hf hne n
    rw [e] at hdrop
    have hrat : rat S (gadr b + 1) (jI S 80 11) = (sg b S).getD pre.length 0 := by
      have hlt : pre.length < (sg b S).length := by
        rw [hsg, e, List.length_append, List.length_append]
        have : 0 < tl.length := List.length_pos_iff.mpr hne
        omega
      rw [sg_at w (by omega) (by omega), h11, show ((pre.length : Int)).toNat = pre.length by omega]
    rcases hm with h | h
    · subst h
      refine ⟨n + 1, rfl, rfl, hdrop, ⟨fun q => ?_, fun q => absurd rfl q⟩⟩
      exfalso
      cases tl with
      | nil => exact hne rfl
      | cons c tl =>
        have hc := hf c (by rw [List.take_succ_cons]; exact List.mem_cons_self)
        have hlt : pre.length < (sg b S).length := by
          rw [hsg, e, List.length_append, List.length_append, List.length_cons]; omega
        have := drop_getD hlt
        rw [hdrop] at this
        have h1 := (List.cons.inj this).1
        rw [hrat, ← h1] at q
        omega
    · subst h
      obtain ⟨q1, q2, q3, q4⟩ := s6_12 w (n := n + 1) (k := pre.length) (v := 0) (bh := 0) (pt := 0) hdrop (by decide : ¬ isFig 45)
      rw [if_neg (by decide)] at q1
      exact ⟨n, rfl, q1, q2, ⟨fun _ => by decide, fun _ => by rw [hrat]; exact q3⟩⟩
  have hsum : ∀ {m : List Int} {x : Int}, (rat S (gadr b + 1) (jI S 80 11) = 45 ↔ m ≠ []) → (if rat S (gadr b + 1) (jI S 80 11) = 45 then -x else x) = sgm m * x := by
    intro m x hm
    by_cases h : m = []
    · rw [if_neg (fun q => hm.mp q h), sgm, if_pos h, Int.one_mul]
    · rw [if_pos (hm.mpr h), sgm, if_neg h, Int.neg_one_mul]
  rcases hv with hv1 | hv2
  · obtain ⟨m, ds, e, hm, hf, h1, h6, ht⟩ := hs.1 hv1
    obtain ⟨n', hn', e1, e2, e3⟩ := hhead m ds hm e (fun c hc => hf c (List.mem_of_mem_take hc)) (List.length_pos_iff.mp h1) 19998
    obtain ⟨d0, d1⟩ := dv_b hf
    have d2 := pow_le h6
    rw [show (10 : Int) ^ 6 = 1000000 from rfl] at d2
    obtain ⟨n2, hn2⟩ : ∃ n2, n' + 1 = (n2 + 1) + ds.length := ⟨n' - ds.length, by omega⟩
    rw [show fuel = 19998 + 2 from rfl, e1, hn2, l6_thA w ds (n2 + 1) _ 0 0 [] (by rw [e2, List.append_nil]) hf (fun _ => rfl) (by decide) (by omega) (by decide) (by rw [Int.zero_add, Int.one_mul]; exact d2), if_pos rfl]
    have hend : (sg b S).length ≤ pre.length + m.length + ds.length := by rw [hsg, e, List.length_append, List.length_append]; omega
    rw [e6_12 w hend, l6_93 w 3 fuel (dvF 0 ds) 0 (by decide) (by decide) d0 (by show dv ds * 10 ^ 3 ≤ _; rw [show (10 : Int) ^ 3 = 1000 from rfl]; omega) (by unfold fuel; decide), hsum e3, ht, show dvF 0 ds * 10 ^ 3 = 1000 * dv ds from by show dv ds * 1000 = _; omega]
  · obtain ⟨m, ds, es, e, hm, hf, hfe, h1, h3, he3, ht⟩ := hs.2.1 hv2
    rw [List.append_assoc] at e
    obtain ⟨n', hn', e1, e2, e3⟩ := hhead m (ds ++ 46 :: es) hm e (fun c hc => by
        cases ds with
        | nil => exact absurd h1 (by decide)
        | cons d ds =>
          rw [List.cons_append, List.take_succ_cons, List.take_zero] at hc
          rw [List.mem_singleton.mp hc]
          exact hf d List.mem_cons_self) (by cases ds <;> simp) 19998
    obtain ⟨d0, d1⟩ := dv_b hf
    have d2 := pow_le h3
    rw [show (10 : Int) ^ 3 = 1000 from rfl] at d2
    have d3 := pow_le he3
    rw [show (10 : Int) ^ 3 = 1000 from rfl] at d3
    obtain ⟨f0, f1⟩ := dv_b hfe
    have p0 := p10 es.length
    obtain ⟨n2, hn2⟩ : ∃ n2, n' + 1 = (n2 + 1 + es.length + 1) + ds.length := ⟨n' - es.length - ds.length - 1, by omega⟩
    rw [show fuel = 19998 + 2 from rfl, e1, hn2, l6_thA w ds (n2 + 1 + es.length + 1) _ 0 0 (46 :: es) e2 hf (fun _ => rfl) (by decide) (by omega) (by decide) (by rw [Int.zero_add, Int.one_mul]; omega), if_pos rfl]
    have e4 : (sg b S).drop (pre.length + m.length + ds.length) = 46 :: es := by
      rw [← List.drop_drop, e2, List.drop_left]
    obtain ⟨q1, q2, _, _⟩ := s6_12 w (n := n2 + 1 + es.length) (v := dvF 0 ds) (bh := 0) (pt := 0) e4 (by decide : ¬ isFig 46)
    rw [if_pos rfl] at q1
    have hprod : (dv ds + 1) * 10 ^ es.length ≤ 1000000 := by
      have a1 : (dv ds + 1) * 10 ^ es.length ≤ 1000 * 10 ^ es.length := Int.mul_le_mul_of_nonneg_right (by omega) (by omega)
      omega
    rw [q1, l6_thA w es (n2 + 1) _ (dvF 0 ds) 0 [] (by rw [q2, List.append_nil]) hfe (fun h => absurd h (by decide)) (by decide) (by omega) d0 hprod, if_neg (by decide)]
    have hend : (sg b S).length ≤ pre.length + m.length + ds.length + 1 + es.length := by rw [hsg, e, List.length_append, List.length_append, List.length_append, List.length_cons]; omega
    have hv0 : dvF (dvF 0 ds) es = dv ds * 10 ^ es.length + dv es := dvF_lin es (dv ds)
    have hpw : (10 : Int) ^ es.length * 10 ^ (3 - es.length) = 1000 := by
      rw [← Int.pow_add, show es.length + (3 - es.length) = 3 by omega]; rfl
    have hfull : dvF (dvF 0 ds) es * 10 ^ (3 - es.length) = 1000 * dv ds + dv es * 10 ^ (3 - es.length) := by
      rw [hv0, Int.add_mul, Int.mul_assoc, hpw]; omega
    have p3 := p10 (3 - es.length)
    have hb : dv es * 10 ^ (3 - es.length) ≤ 1000 := by
      have a1 : dv es * 10 ^ (3 - es.length) ≤ 10 ^ es.length * 10 ^ (3 - es.length) := Int.mul_le_mul_of_nonneg_right (by omega) (by omega)
      omega
    have hnn : 0 ≤ dvF (dvF 0 ds) es := by
      rw [hv0]
      have : 0 ≤ dv ds * 10 ^ es.length := Int.mul_nonneg d0 (by omega)
      omega
    rw [e6_12 w hend, Int.zero_add, l6_93 w (3 - es.length) fuel _ es.length (by omega) (by omega) hnn (by rw [hfull]; omega) (by unfold fuel; omega), hsum e3, hfull, ht]
end CTI
