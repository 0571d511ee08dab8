section COB
variable {S S' S'' : iS} {b : Bool} {G : gT}
abbrev AI : String := "java/lang/ArrayIndexOutOfBoundsException"
abbrev NP : String := "java/lang/NullPointerException"
abbrev CC : String := "java/lang/ClassCastException"
/-- sign i of the w-th piece -/
def soS (l : List (List Int)) (w i : Int) : Int ⊕ String := if 0 ≤ w ∧ w < l.length then (if 0 ≤ i ∧ i < (l.getD w.toNat []).length then .inl ((l.getD w.toNat []).getD i.toNat 0) else .inr AI) else .inl (-101)
theorem c_has4 {a : Nat} {n w : Int} (h : jI S a 3 = n) : j_X4_has a w S = some (bi (0 ≤ w ∧ w < n), S) := by
  unfold j_X4_has j_X4_has_0 j_X4_has_16 j_X4_has_17
  rw [h]
  by_cases h1 : w < 0
  · rw [bi_f (by omega)]; exact it h1 rfl
  · by_cases h2 : n ≤ w
    · rw [bi_f (by omega)]; exact ie h1 (it h2 rfl)
    · rw [bi_t ⟨by omega, by omega⟩]; exact ie h1 (ie h2 rfl)
theorem c_lenOf (z : zS S) {a : Nat} {ss : List Int} {l : List (List Int)} (h : spn S a ss l) {i : Nat} (hi : i < l.length) : j_X4_lengthOf a i S = some (((l.getD i []).length : Int), S) := by
  obtain ⟨s1, s2, s3, s4, s5, s6⟩ := h
  obtain ⟨st, ln, e1, e2, e3, e4⟩ := s6 i hi
  unfold j_X4_lengthOf j_X4_lengthOf_0
  rw [eR_at z, Option.bind_some, rv_at s2 (by omega), e2, ← e4, take_len e3]
theorem cut_getD {ss : List Int} {st ln j : Nat} (hj : j < ln) : ((ss.drop st).take ln).getD j 0 = ss.getD (st + j) 0 := by
  rw [List.getD_eq_getElem?_getD, List.getD_eq_getElem?_getD, List.getElem?_take, if_pos hj, List.getElem?_drop]
theorem c_sgAt (z : zS S) {a : Nat} {ss : List Int} {l : List (List Int)} (h : spn S a ss l) (hss : rv S (sgn a) = ss) (k1 : rk S (sgn a)) {i j : Nat} (hi : i < l.length) (hj : j < (l.getD i []).length) : j_X4_signAt a i j S = some ((l.getD i []).getD j 0, S) := by
  obtain ⟨s1, s2, s3, s4, s5, s6⟩ := h
  obtain ⟨st, ln, e1, e2, e3, e4⟩ := s6 i hi
  have hl : (l.getD i []).length = ln := by rw [← e4]; exact take_len e3
  have q1 := rv_len k1
  have q2 := k1.2
  have q3 := zS_le z (sgn a + 1)
  rw [hss] at q1
  unfold j_X4_signAt j_X4_signAt_0 j_X4_signAt_37
  refine ie (by omega) ?_
  rw [eR_at z, Option.bind_some, rv_at s2 (by omega), e2]
  refine ie (by show ¬ (ln : Int) ≤ j; omega) ?_
  dsimp only
  rw [eR_at z, Option.bind_some, rv_at s1 (by omega), e1]
  dsimp only
  refine it ⟨by omega, by omega⟩ ?_
  rw [eR_at z, Option.bind_some, show (st : Int) + (j : Int) = ((st + j : Nat) : Int) by omega, rv_at k1 (by rw [hss]; omega), hss, ← e4, cut_getD (by omega)]
theorem c_sos (z : zS S) {a : Nat} {ss : List Int} {l : List (List Int)} (h : spn S a ss l) (hss : rv S (sgn a) = ss) (k1 : rk S (sgn a)) {w i : Int} : j_X6_signOfSpan a w i S = some (soS l w i, S) := by
  unfold j_X6_signOfSpan j_X6_signOfSpan_0 j_X6_signOfSpan_24 soS
  rw [c_has4 h.2.2.2.2.1, Option.bind_some]
  dsimp only
  by_cases hw : 0 ≤ w ∧ w < l.length
  · obtain ⟨n, rfl⟩ : ∃ n : Nat, w = n := ⟨w.toNat, by omega⟩
    have hn : n < l.length := by omega
    rw [if_pos (bi_n hw), if_pos hw, show ((n : Int)).toNat = n by omega]
    by_cases hi : i < 0
    · rw [if_neg (show ¬ (0 ≤ i ∧ i < (l.getD n []).length) by omega)]
      exact it hi rfl
    · rw [if_neg hi, c_lenOf z h hn, Option.bind_some]
      dsimp only
      obtain ⟨j, rfl⟩ : ∃ j : Nat, i = j := ⟨i.toNat, by omega⟩
      by_cases hj : j < (l.getD n []).length
      · rw [if_pos (show (j : Int) < (l.getD n []).length by omega), c_sgAt z h hss k1 hn hj, Option.bind_some, if_pos (show 0 ≤ (j : Int) ∧ (j : Int) < (l.getD n []).length by omega), show ((j : Int)).toNat = j by omega]
      · rw [if_neg (show ¬ (j : Int) < (l.getD n []).length by omega), if_neg (show ¬ (0 ≤ (j : Int) ∧ (j : Int) < (l.getD n []).length) by omega)]
  · rw [if_neg (nn (bi_0.mpr hw)), if_neg hw]
theorem jbx_id {r : Int ⊕ String} : jbx (some (r, S)) (fun q => some (.inl q.1, q.2)) = some (r, S) := by
  cases r <;> rfl
theorem c6_node (z : zS S) (h : cO (jP0 S) S G) {w i : Int} : j_X6_node w i S = some (soS (gNo G) w i, S) := by
  unfold j_X6_node j_X6_node_0
  rw [c_sos z h.2.1.1 (by rw [sgn_3]; rfl) (by rw [sgn_3]; exact h.1), jbx_id]
theorem c6_head (z : zS S) (h : cO (jP0 S) S G) {w i : Int} : j_X6_head w i S = some (soS ((gHe G).map (fun h => h.1)) w i, S) := by
  unfold j_X6_head j_X6_head_0
  rw [c_sos z h.2.1.2.1 (by rw [sgn_8]; rfl) (by rw [sgn_8]; exact h.1), jbx_id]
theorem c6_comment (z : zS S) (h : cO (jP0 S) S G) {w i : Int} : j_X6_comment w i S = some (soS (gCo G) w i, S) := by
  unfold j_X6_comment j_X6_comment_0
  rw [c_sos z h.2.1.2.2 (by rw [sgn_13]; rfl) (by rw [sgn_13]; exact h.1), jbx_id]
theorem rT_has (z : zS S) {a : Nat} {l : List Int} (h : rT S a l) {w : Int} : j_X3_has a w S = some (bi (0 ≤ w ∧ w < l.length), S) := by
  have h1 := rT_len h
  have h2 := h.1.2
  rw [eR_has z]
  by_cases hw : 0 ≤ w ∧ w < l.length
  · rw [bi_t hw, bi_t ⟨by omega, by omega, by omega⟩]
  · rw [bi_f hw, bi_f (by omega)]
def kiS (G : gT) (c : Int) : Int := if 0 ≤ c ∧ c < (gHe G).length then ((gHe G).getD c.toNat ([], 0)).2 else -101
theorem c6_kind (z : zS S) (h : cO (jP0 S) S G) {c : Int} : j_X6_kind c S = some (kiS G c, S) := by
  unfold j_X6_kind j_X6_kind_0 j_X6_kind_30 kiS
  rw [rT_has z h.2.2.1, Option.bind_some, List.length_map]
  dsimp only
  by_cases hc : 0 ≤ c ∧ c < (gHe G).length
  · obtain ⟨n, rfl⟩ : ∃ n : Nat, c = n := ⟨c.toNat, by omega⟩
    rw [if_neg (bi_n hc), if_pos hc, rT_at z h.2.2.1 (by rw [List.length_map]; omega), Option.bind_some, map_getD (d := ([], 0)) rfl]
    rfl
  · rw [if_pos (bi_0.mpr hc), if_neg hc]
/-- how many VALUES are MISSING -/
def msS (vs : List vT) : Int := (vs.countP (fun v => v.1 == 0) : Nat)
theorem drop_getDG {α : Type} {l : List α} {d : α} {k : Nat} (h : k < l.length) : l.drop k = l.getD k d :: l.drop (k + 1) := by
  rw [List.drop_eq_getElem_cons h, List.getD_eq_getElem?_getD, List.getElem?_eq_getElem h]
  rfl
theorem msS_cons {v : vT} {vs : List vT} : msS (v :: vs) = msS vs + (if v.1 = 0 then 1 else 0) := by
  unfold msS
  rw [List.countP_cons]
  by_cases h : v.1 = 0
  · rw [if_pos h, if_pos (by simp [h])]; omega
  · rw [if_neg h, if_neg (by simp [h])]; omega
theorem msS_b {vs : List vT} : 0 ≤ msS vs ∧ msS vs ≤ vs.length := by
  unfold msS
  have := List.countP_le_length (p := fun v : vT => v.1 == 0) (l := vs)
  omega
theorem flV_ty {l : List (Int × Int × Int × List vT)} {nh a c : Nat} (hlen : ∀ x ∈ l, x.2.2.2.length = nh) (ha : a < l.length) (hc : c < nh) : ((flV l).map (fun v => v.1)).getD (a * nh + c) 0 = ((l.getD a (0, 0, 0, [])).2.2.2.getD c (0, 0, [])).1 := by
  rw [map_getD (d := (0, 0, [])) rfl, flV_getD hlen ha hc]
theorem getD_memG {α : Type} {l : List α} {d : α} {i : Nat} (h : i < l.length) : l.getD i d ∈ l := by
  rw [List.getD_eq_getElem?_getD, List.getElem?_eq_getElem h]
  exact List.getElem_mem h
theorem l6_mi (z : zS S) {l : List (Int × Int × Int × List vT)} {nh a : Nat} (h31 : rT S (gadr b + 31) ((flV l).map (fun v => v.1))) (h8 : jI S (gadr b + 8) 3 = nh) (hl : l.length ≤ 40) (hn : nh ≤ 3) (hlen : ∀ x ∈ l, x.2.2.2.length = nh) (ha : a < l.length) : ∀ (j n k : Nat) (m : Int), k + j = nh → j < n → 0 ≤ m → m + j ≤ 1000 → j_X1_missingOf_4 b n a m k S = some (m + msS ((l.getD a (0, 0, 0, [])).2.2.2.drop k), S) := by
  have hv : (l.getD a (0, 0, 0, [])).2.2.2.length = nh := hlen _ (getD_memG ha)
  have hfl := flV_len hlen
  intro j
  induction j with
  | zero =>
    intro n k m hk hn' h0 h1
    obtain ⟨n, rfl⟩ : ∃ p, n = p + 1 := ⟨n - 1, by omega⟩
    rw [j_X1_missingOf_4, h8, List.drop_eq_nil_of_le (by omega)]
    refine it (by omega) ?_
    rw [show msS [] = 0 from rfl, Int.add_zero]
  | succ j ih =>
    intro n k m hk hn' h0 h1
    obtain ⟨n, rfl⟩ : ∃ p, n = p + 1 := ⟨n - 1, by omega⟩
    have e : (k : Int) + 1 = ((k + 1 : Nat) : Int) := by omega
    rw [j_X1_missingOf_4, h8, drop_getDG (d := (0, 0, [])) (show k < (l.getD a (0, 0, 0, [])).2.2.2.length by omega), msS_cons]
    unfold j_X1_missingOf_34
    refine ie (by omega) ?_
    rw [c_room h8 (by omega) hn (by omega), Option.bind_some]
    dsimp only
    rw [rT_at z h31 (by rw [List.length_map, hfl]; exact room_lt ha (by omega)), Option.bind_some, flV_ty hlen ha (by omega), e]
    dsimp only
    by_cases hm : ((l.getD a (0, 0, 0, [])).2.2.2.getD k (0, 0, [])).1 = 0
    · refine ie (nn hm) (it ⟨by omega, by omega⟩ (it ⟨by omega, by omega⟩ ?_))
      rw [if_pos hm]
      refine (ih n (k + 1) (m + 1) (by omega) (by omega) (by omega) (by omega)).trans ?_
      congr 2
      omega
    · refine it hm (it ⟨by omega, by omega⟩ ?_)
      rw [if_neg hm, Int.add_zero]
      exact ih n (k + 1) m (by omega) (by omega) (by omega) (by omega)
def acS (G : gT) (a w : Int) : Int := if 0 ≤ a ∧ a < (gAr G).length then (if w = 0 then ((gAr G).getD a.toNat (0, 0, 0, [])).1 else if w = 1 then ((gAr G).getD a.toNat (0, 0, 0, [])).2.1 else if w = 2 then ((gAr G).getD a.toNat (0, 0, 0, [])).2.2.1 else if w = 3 then msS ((gAr G).getD a.toNat (0, 0, 0, [])).2.2.2 else -102) else -101
theorem c6_arc (z : zS S) (h : cO (jP0 S) S G) (hw : wfG G) {a w : Int} : j_X6_arc a w S = some (acS G a w, S) := by
  obtain ⟨h0, ⟨h1, h2, h3⟩, h4, ⟨h5, h6, h7⟩, ⟨h8, h9, h10⟩, h11, h12, h13⟩ := h
  unfold j_X6_arc j_X6_arc_0 acS
  rw [rT_has z h5, Option.bind_some, List.length_map]
  dsimp only
  by_cases ha : 0 ≤ a ∧ a < (gAr G).length
  · obtain ⟨n, rfl⟩ : ∃ n : Nat, a = n := ⟨a.toNat, by omega⟩
    have hn : n < (gAr G).length := by omega
    rw [if_pos (bi_n ha), if_pos ha, show ((n : Int)).toNat = n by omega, rT_at z h5 (by rw [List.length_map]; exact hn), rT_at z h6 (by rw [List.length_map]; exact hn), rT_at z h7 (by rw [List.length_map]; exact hn), map_getD (d := (0, 0, 0, [])) rfl, map_getD (d := (0, 0, 0, [])) rfl, map_getD (d := (0, 0, 0, [])) rfl]
    have hm : j_X1_missingOf (jP0 S) n S = some (msS ((gAr G).getD n (0, 0, 0, [])).2.2.2, S) := by
      unfold j_X1_missingOf j_X1_missingOf_0
      have h3' := hw.2.1
      have := l6_mi (b := jP0 S) z h9 (nh := (gHe G).length) (by rw [h2.2.2.2.2.1, List.length_map]) hw.2.2.1 hw.2.1 (fun x hx => (hw.2.2.2.1 x hx).1) hn (gHe G).length fuel 0 0 (by omega) (by unfold fuel; omega) (by omega) (by omega)
      rw [List.drop_zero, Int.zero_add] at this
      exact this
    rw [hm]
    by_cases w0 : w = 0
    · rw [if_pos w0, if_pos w0]; rfl
    · rw [if_neg w0, if_neg w0]
      by_cases w1 : w = 1
      · rw [if_pos w1, if_pos w1]; rfl
      · rw [if_neg w1, if_neg w1]
        by_cases w2 : w = 2
        · rw [if_pos w2, if_pos w2]; rfl
        · rw [if_neg w2, if_neg w2]
          by_cases w3 : w = 3
          · rw [if_pos w3, if_pos w3]; rfl
          · rw [if_neg w3, if_neg w3]
  · rw [if_neg (nn (bi_0.mpr ha)), if_neg ha]
/-- the VALUE of an ARC in a COLUMN -/
def vaG (G : gT) (a c : Nat) : vT := ((gAr G).getD a (0, 0, 0, [])).2.2.2.getD c (0, 0, [])
def vaS (G : gT) (a c : Int) : Int ⊕ String := if (0 ≤ a ∧ a < (gAr G).length) ∧ (0 ≤ c ∧ c < (gHe G).length) then (if (vaG G a.toNat c.toNat).1 = 0 then .inr NP else if ((gHe G).getD c.toNat ([], 0)).2 = 2 then .inr CC else .inl (vaG G a.toNat c.toNat).2.1) else .inl (-101)
def siS (G : gT) (a c i : Int) : Int ⊕ String := if (0 ≤ a ∧ a < (gAr G).length) ∧ (0 ≤ c ∧ c < (gHe G).length) then (if (vaG G a.toNat c.toNat).1 = 0 then .inr NP else if ¬ ((gHe G).getD c.toNat ([], 0)).2 = 2 then .inr CC else if 0 ≤ i ∧ i < (vaG G a.toNat c.toNat).2.2.length then .inl ((vaG G a.toNat c.toNat).2.2.getD i.toNat 0) else .inr AI) else .inl (-101)
theorem c_hasV (z : zS S) (h : cO b S G) {a c : Int} : j_X1_hasValue b a c S = some (bi ((0 ≤ a ∧ a < (gAr G).length) ∧ (0 ≤ c ∧ c < (gHe G).length)), S) := by
  unfold j_X1_hasValue j_X1_hasValue_0 j_X1_hasValue_26 j_X1_hasValue_27
  rw [rT_has z h.2.2.2.1.1, Option.bind_some, List.length_map]
  dsimp only
  by_cases ha : 0 ≤ a ∧ a < (gAr G).length
  · rw [if_neg (bi_n ha), c_has4 (n := (gHe G).length) (by rw [h.2.1.2.1.2.2.2.2.1, List.length_map]), Option.bind_some]
    dsimp only
    by_cases hc : 0 ≤ c ∧ c < (gHe G).length
    · rw [if_neg (bi_n hc), bi_t (show _ ∧ _ from ⟨ha, hc⟩)]; rfl
    · rw [if_pos (bi_0.mpr hc), bi_f (fun q => hc q.2)]; rfl
  · rw [if_pos (bi_0.mpr ha), bi_f (fun q => ha q.1)]; rfl
theorem c6_value (z : zS S) (h : cO (jP0 S) S G) (hw : wfG G) {a c : Int} : j_X6_value a c S = some (vaS G a c, S) := by
  have hv := c_hasV z h (a := a) (c := c)
  obtain ⟨h0, ⟨h1, h2, h3⟩, h4, ⟨h5, h6, h7⟩, ⟨h8, h9, h10⟩, h11, h12, h13⟩ := h
  have hlen : ∀ x ∈ gAr G, x.2.2.2.length = (gHe G).length := fun x hx => (hw.2.2.2.1 x hx).1
  unfold j_X6_value j_X6_value_0 vaS
  rw [hv, Option.bind_some]
  dsimp only
  by_cases ho : (0 ≤ a ∧ a < (gAr G).length) ∧ (0 ≤ c ∧ c < (gHe G).length)
  · rw [if_pos (bi_n ho), if_pos ho]
    obtain ⟨ha, hc⟩ := ho
    obtain ⟨m, rfl⟩ : ∃ n : Nat, a = n := ⟨a.toNat, by omega⟩
    obtain ⟨k, rfl⟩ : ∃ n : Nat, c = n := ⟨c.toNat, by omega⟩
    have w3 := hw.2.2.1
    have w2 := hw.2.1
    have hr : m * (gHe G).length + k < (flV (gAr G)).length := by rw [flV_len hlen]; exact room_lt (by omega) (by omega)
    rw [c_room (b := jP0 S) (nh := (gHe G).length) (by rw [h2.2.2.2.2.1, List.length_map]) (by omega) w2 (by omega), Option.bind_some, show ((m : Int)).toNat = m by omega, show ((k : Int)).toNat = k by omega]
    dsimp only
    rw [rT_at z h9 (by rw [List.length_map]; exact hr), Option.bind_some, flV_ty hlen (by omega) (by omega)]
    dsimp only
    unfold vaG
    by_cases hm : (((gAr G).getD m (0, 0, 0, [])).2.2.2.getD k (0, 0, [])).1 = 0
    · rw [if_neg (nn hm), if_pos hm]
    · rw [if_pos hm, if_neg hm, rT_at z h4 (by rw [List.length_map]; omega), Option.bind_some, map_getD (d := ([], 0)) rfl]
      dsimp only
      by_cases hk : ((gHe G).getD k ([], 0)).2 = 2
      · rw [if_neg (nn hk), if_pos hk]
      · rw [if_pos hk, if_neg hk, rT_at z h10 (by rw [List.length_map]; exact hr), Option.bind_some, map_getD (d := (0, 0, [])) rfl, flV_getD hlen (by omega) (by omega)]
  · rw [if_neg (nn (bi_0.mpr ho)), if_neg ho]
theorem c6_sign (z : zS S) (h : cO (jP0 S) S G) (hw : wfG G) {a c i : Int} : j_X6_sign a c i S = some (siS G a c i, S) := by
  have hv := c_hasV z h (a := a) (c := c)
  obtain ⟨h0, ⟨h1, h2, h3⟩, h4, ⟨h5, h6, h7⟩, ⟨h8, h9, h10⟩, h11, h12, h13⟩ := h
  have hlen : ∀ x ∈ gAr G, x.2.2.2.length = (gHe G).length := fun x hx => (hw.2.2.2.1 x hx).1
  unfold j_X6_sign j_X6_sign_0 siS
  rw [hv, Option.bind_some]
  dsimp only
  by_cases ho : (0 ≤ a ∧ a < (gAr G).length) ∧ (0 ≤ c ∧ c < (gHe G).length)
  · rw [if_pos (bi_n ho), if_pos ho]
    obtain ⟨ha, hc⟩ := ho
    obtain ⟨m, rfl⟩ : ∃ n : Nat, a = n := ⟨a.toNat, by omega⟩
    obtain ⟨k, rfl⟩ : ∃ n : Nat, c = n := ⟨c.toNat, by omega⟩
    have w3 := hw.2.2.1
    have w2 := hw.2.1
    have hr : m * (gHe G).length + k < (flV (gAr G)).length := by rw [flV_len hlen]; exact room_lt (by omega) (by omega)
    rw [c_room (b := jP0 S) (nh := (gHe G).length) (by rw [h2.2.2.2.2.1, List.length_map]) (by omega) w2 (by omega), Option.bind_some, show ((m : Int)).toNat = m by omega, show ((k : Int)).toNat = k by omega]
    dsimp only
    rw [rT_at z h9 (by rw [List.length_map]; exact hr), Option.bind_some, flV_ty hlen (by omega) (by omega)]
    dsimp only
    have hg : vaG G m k = (flV (gAr G)).getD (m * (gHe G).length + k) (0, 0, []) := by
      unfold vaG
      rw [flV_getD hlen (by omega) (by omega)]
    by_cases hm : (vaG G m k).1 = 0
    · rw [if_neg (show ¬ ¬ (((gAr G).getD m (0, 0, 0, [])).2.2.2.getD k (0, 0, [])).1 = 0 from nn hm), if_pos hm]
    · rw [if_pos (show ¬ (((gAr G).getD m (0, 0, 0, [])).2.2.2.getD k (0, 0, [])).1 = 0 from hm), if_neg hm, rT_at z h4 (by rw [List.length_map]; omega), Option.bind_some, map_getD (d := ([], 0)) rfl]
      dsimp only
      by_cases hk : ((gHe G).getD k ([], 0)).2 = 2
      · rw [if_pos hk, if_neg (nn hk), c_sos z h8 (by rw [sgn_26]; rfl) (by rw [sgn_26]; exact h0), jbx_id]
        unfold soS
        rw [if_pos (show 0 ≤ ((m * (gHe G).length + k : Nat) : Int) ∧ ((m * (gHe G).length + k : Nat) : Int) < ((flV (gAr G)).map vsg).length by rw [List.length_map]; omega), show (((m * (gHe G).length + k : Nat) : Int)).toNat = m * (gHe G).length + k by omega]
        have hx : ((flV (gAr G)).map vsg).getD (m * (gHe G).length + k) [] = (vaG G m k).2.2 := by
          rw [List.getD_eq_getElem?_getD, List.getElem?_map, List.getElem?_eq_getElem hr]
          have : vaG G m k = (flV (gAr G))[m * (gHe G).length + k] := by
            rw [hg, List.getD_eq_getElem?_getD, List.getElem?_eq_getElem hr]; rfl
          rw [← this]
          show vsg (vaG G m k) = _
          unfold vsg
          rw [if_neg hm]
        rw [hx]
      · rw [if_neg hk, if_pos hk]
  · rw [if_neg (nn (bi_0.mpr ho)), if_neg ho]
def abS (t : Int) (G : gT) (o w : Int) : Int := if w = 0 then t else if w = 1 then (gNo G).length else if w = 2 then (gAr G).length else if w = 3 then (gHe G).length else if w = 4 then gLo G else if w = 5 then (gCo G).length else if w = 6 then o else -102
theorem c6_about (h : cO (jP0 S) S G) {w : Int} : j_X6_about w S = some (abS (jI S 1 1) G (jI S 3 1) w, S) := by
  obtain ⟨h0, ⟨h1, h2, h3⟩, h4, ⟨h5, h6, h7⟩, ⟨h8, h9, h10⟩, h11, h12, h13⟩ := h
  unfold j_X6_about j_X6_about_0 j_X1_arcCount j_X1_arcCount_0 abS
  rw [h1.2.2.2.2.1, h2.2.2.2.2.1, h3.2.2.2.2.1, rT_len h5, h12, List.length_map, List.length_map, Option.bind_some]
  dsimp only
  repeat (first | rfl | (split; rfl))
theorem c6_find (z : zS S) (h : cO (jP0 S) S G) (hw : wfG G) (t0 : 0 ≤ jI S 1 1) (t1 : jI S 1 1 ≤ 600) : j_X6_find S = some (if cT S ∈ gNo G then (ixO (gNo G) (cT S) : Int) else -1, kI S 1 1 0) := by
  have hl := cT_len z t0 t1
  have hk : rk S 1 := ⟨t0, by rw [show (1 : Nat) + 1 = 2 from rfl, z2 z]; exact t1⟩
  have h30 := hw.1
  have hx := c_idx z h.2.1.1 (a2 := 1) (st := 0) (ln := (cT S).length) (by rw [sgn_3]; rfl) (by rw [sgn_3]; exact h.1) hk (by show 0 + (cT S).length ≤ (cT S).length; omega) (by omega)
  have hc : ((rv S 1).drop 0).take (cT S).length = cT S := by
    rw [List.drop_zero]
    exact List.take_length
  rw [hc, hl] at hx
  unfold j_X6_find j_X6_find_0 j_X6_find_40
  have hx' : j_X4_indexOf (gadr (jP0 S) + 3) 1 0 (jI S 1 1) S = _ := hx
  rw [hx', Option.bind_some, eR_clear, Option.bind_some]
  dsimp only
  by_cases hin : cT S ∈ gNo G
  · rw [if_pos hin]
    exact it (by omega) rfl
  · rw [if_neg hin]
    exact ie (by omega) rfl
theorem c6_out (z : zS S) (h : rk S 3) {i : Int} : j_X6_out i S = some (if 0 ≤ i ∧ i < jI S 3 1 then .inl ((rv S 3).getD i.toNat 0) else .inr AI, S) := by
  have hl := rv_len h
  unfold j_X6_out j_X6_out_0
  rw [rT_has z (l := rv S 3) ⟨h, rfl⟩, Option.bind_some, hl]
  dsimp only
  by_cases hi : 0 ≤ i ∧ i < jI S 3 1
  · obtain ⟨n, rfl⟩ : ∃ n : Nat, i = n := ⟨i.toNat, by omega⟩
    rw [if_pos (bi_n hi), if_pos hi, rT_at z (l := rv S 3) ⟨h, rfl⟩ (by omega), Option.bind_some]
    rfl
  · rw [if_neg (nn (bi_0.mpr hi)), if_neg hi]
theorem c6_fault {w : Int} : ∃ x, j_X6_fault w S = some (x, S) := by
  unfold j_X6_fault j_X6_fault_0 j_X6_fault_9 j_X6_fault_54
  repeat (first | exact ⟨_, rfl⟩ | split)
theorem c6_manner {m : Int} : j_X6_manner m S = some (if 0 ≤ m ∧ m ≤ 2 then (jI S 0 7, kI S 0 7 m) else (-102, S)) := by
  unfold j_X6_manner j_X6_manner_0 j_X6_manner_9
  by_cases h1 : m < 0
  · rw [if_pos h1, if_neg (by omega)]
  · rw [if_neg h1]
    by_cases h2 : m ≤ 2
    · rw [if_pos h2, if_pos ⟨by omega, h2⟩]
    · rw [if_neg h2, if_neg (by omega)]
end COB
