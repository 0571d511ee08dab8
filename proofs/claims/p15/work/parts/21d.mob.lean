section MOB
variable {S S' S'' : iS} {G : gT}
/-- how the model answers where the class answers or throws r -/
def moR (hs : List (String × Int)) (r : Int ⊕ String) (y t : Int) : Prop := match r with
  | .inl v => t = 0 ∧ y = v
  | .inr E => hs.lookup E = some t ∧ t ≠ 0
theorem nm_at {L ns : List Int} {p : Nat} {i : Int} (h : nmAt L p ns) (h0 : 0 ≤ i) (h1 : i < ns.length) : L.getD ((p : Int) + 1 + i).toNat 0 = ns.getD i.toNat 0 := by
  rw [← h.2 i.toNat (by omega), show ((p : Int) + 1 + i).toNat = p + 1 + i.toNat by omega]
theorem hA_AI : hA.lookup AI = some 1 := by decide
theorem m7_node (z : zS S) (h : lG S G) {w i : Int} (hi' : rg i) : ∃ y t, j_X7_node w i S = some (y, kI S 82 0 t) ∧ moR hA (soS (gNo G) w i) y t := by
  obtain ⟨⟨c0, c1, c2⟩, _⟩ := h
  have l84 : (jA S 84).length = 2 := z 84
  have l85 : (jA S 85).length = 540 := z 85
  unfold j_X7_node j_X7_node_0 j_X7_node_49 j_X7_node_76 soS
  rw [c0, l84, e_in, Option.bind_some, if_pos (show 0 < 2 by decide), if_pos (show rg (((gNo G).length : Int) - 1) from ⟨by omega, by omega⟩)]
  dsimp only
  rw [jA_kI]
  by_cases hw : 0 ≤ w ∧ w < (gNo G).length
  · obtain ⟨n, rfl⟩ : ∃ n : Nat, w = n := ⟨w.toNat, by omega⟩
    obtain ⟨hnm, h8⟩ := c2 n (by omega)
    have e1 : (jA S 85).getD ((9 : Int) * n).toNat 0 = ((gNo G).getD n []).length := by
      rw [show ((9 : Int) * n).toNat = 9 * n by omega]; exact hnm.1
    rw [if_pos (bi_n (show 0 ≤ (n : Int) ∧ (n : Int) ≤ ((gNo G).length : Int) - 1 by omega)), if_pos (show rg ((9 : Int) * n) from ⟨by omega, by omega⟩), e1, l85, if_pos (show 0 ≤ (9 : Int) * n ∧ (9 : Int) * n < ((540 : Nat) : Int) by omega), if_pos (show rg ((((gNo G).getD n []).length : Int) - 1) from ⟨by omega, by omega⟩), e_in, Option.bind_some, if_pos hw, show ((n : Int)).toNat = n by omega]
    dsimp only
    by_cases hi : 0 ≤ i ∧ i < ((gNo G).getD n []).length
    · refine ⟨((gNo G).getD n []).getD i.toNat 0, 0, ?_, ?_⟩
      · refine ie (bi_n (by omega)) (it (by decide) (it ⟨by omega, by omega⟩ (it ⟨by omega, by omega⟩ (it ⟨by omega, by omega⟩ (it ⟨by omega, ?_⟩ ?_)))))
        · show _ < ((jA S 85).length : Int)
          rw [l85]; omega
        · rw [kI_kI, jA_kI]
          have := nm_at hnm hi.1 hi.2
          rw [show (((9 * n : Nat) : Int)) = (9 : Int) * n by omega] at this
          rw [this]
      · rw [if_pos hi]; exact ⟨rfl, rfl⟩
    · refine ⟨0, 1, ?_, ?_⟩
      · refine it (bi_0.mpr (by omega)) (ie (by decide) ?_)
        rw [kI_kI]
      · rw [if_neg hi]; exact ⟨hA_AI, by decide⟩
  · rw [if_neg (nn (bi_0.mpr (show ¬ (0 ≤ w ∧ w ≤ ((gNo G).length : Int) - 1) by omega))), if_neg hw]
    exact ⟨-101, 0, rfl, rfl, rfl⟩
theorem m7_comment (z : zS S) (h : lG S G) {w i : Int} (hi' : rg i) : ∃ y t, j_X7_comment w i S = some (y, kI S 82 0 t) ∧ moR hA (soS (gCo G) w i) y t := by
  obtain ⟨_, _, ⟨c0, c1, c2⟩, _⟩ := h
  have l97 : (jA S 97).length = 2 := z 97
  have l98 : (jA S 98).length = 12600 := z 98
  unfold j_X7_comment j_X7_comment_0 j_X7_comment_49 j_X7_comment_76 soS
  rw [c0, l97, e_in, Option.bind_some, if_pos (show 0 < 2 by decide), if_pos (show rg (((gCo G).length : Int) - 1) from ⟨by omega, by omega⟩)]
  dsimp only
  rw [jA_kI]
  by_cases hw : 0 ≤ w ∧ w < (gCo G).length
  · obtain ⟨n, rfl⟩ : ∃ n : Nat, w = n := ⟨w.toNat, by omega⟩
    obtain ⟨hnm, h8⟩ := c2 n (by omega)
    have e1 : (jA S 98).getD ((21 : Int) * n).toNat 0 = ((gCo G).getD n []).length := by
      rw [show ((21 : Int) * n).toNat = 21 * n by omega]; exact hnm.1
    rw [if_pos (bi_n (show 0 ≤ (n : Int) ∧ (n : Int) ≤ ((gCo G).length : Int) - 1 by omega)), if_pos (show rg ((21 : Int) * n) from ⟨by omega, by omega⟩), e1, l98, if_pos (show 0 ≤ (21 : Int) * n ∧ (21 : Int) * n < ((12600 : Nat) : Int) by omega), if_pos (show rg ((((gCo G).getD n []).length : Int) - 1) from ⟨by omega, by omega⟩), e_in, Option.bind_some, if_pos hw, show ((n : Int)).toNat = n by omega]
    dsimp only
    by_cases hi : 0 ≤ i ∧ i < ((gCo G).getD n []).length
    · refine ⟨((gCo G).getD n []).getD i.toNat 0, 0, ?_, ?_⟩
      · refine ie (bi_n (by omega)) (it (by decide) (it ⟨by omega, by omega⟩ (it ⟨by omega, by omega⟩ (it ⟨by omega, by omega⟩ (it ⟨by omega, ?_⟩ ?_)))))
        · show _ < ((jA S 98).length : Int)
          rw [l98]; omega
        · rw [kI_kI, jA_kI]
          have := nm_at hnm hi.1 hi.2
          rw [show (((21 * n : Nat) : Int)) = (21 : Int) * n by omega] at this
          rw [this]
      · rw [if_pos hi]; exact ⟨rfl, rfl⟩
    · refine ⟨0, 1, ?_, ?_⟩
      · refine it (bi_0.mpr (by omega)) (ie (by decide) ?_)
        rw [kI_kI]
      · rw [if_neg hi]; exact ⟨hA_AI, by decide⟩
  · rw [if_neg (nn (bi_0.mpr (show ¬ (0 ≤ w ∧ w ≤ ((gCo G).length : Int) - 1) by omega))), if_neg hw]
    exact ⟨-101, 0, rfl, rfl, rfl⟩
theorem m7_isC (z : zS S) (h : lG S G) {c : Int} : j_X7_isColumn c S = some (bi (0 ≤ c ∧ c < (gHe G).length), S) := by
  obtain ⟨_, ⟨c0, c1, c2⟩, _⟩ := h
  have l90 : (jA S 90).length = 2 := z 90
  unfold j_X7_isColumn j_X7_isColumn_0
  rw [c0, l90, e_in, Option.bind_some, if_pos (show 0 < 2 by decide), if_pos (show rg (((gHe G).length : Int) - 1) from ⟨by omega, by omega⟩), if_pos bi_01]
  by_cases hc : 0 ≤ c ∧ c < (gHe G).length
  · rw [bi_t hc, bi_t (by omega)]
  · rw [bi_f hc, bi_f (by omega)]
theorem lG_k {f : Nat} {v : Int} (h : lG S G) : lG (kI S 82 f v) G := h
theorem m7_kind (z : zS S) (h : lG S G) {c : Int} : j_X7_kind c S = some (kiS G c, kI S 82 0 0) := by
  obtain ⟨c0, c1, c2⟩ := h.2.1
  have l91 : (jA S 91).length = 6 := z 91
  unfold j_X7_kind j_X7_kind_0 j_X7_kind_24 kiS
  rw [m7_isC (S := kI S 82 0 0) z h, Option.bind_some]
  dsimp only
  by_cases hc : 0 ≤ c ∧ c < (gHe G).length
  · rw [if_neg (bi_n hc), if_pos hc]
    refine it ⟨hc.1, by rw [jA_kI, l91]; omega⟩ ?_
    rw [jA_kI, (c2 c.toNat (by omega)).2.2]
  · rw [if_pos (bi_0.mpr hc), if_neg hc]
theorem m7_head (z : zS S) (h : lG S G) {w i : Int} (hi' : rg i) : ∃ y t, j_X7_head w i S = some (y, kI S 82 0 t) ∧ moR hA (soS ((gHe G).map (fun h => h.1)) w i) y t := by
  obtain ⟨c0, c1, c2⟩ := h.2.1
  have l92 : (jA S 92).length = 54 := z 92
  unfold j_X7_head j_X7_head_0 j_X7_head_41 j_X7_head_68 soS
  rw [m7_isC (S := kI S 82 0 0) z h, Option.bind_some, List.length_map]
  dsimp only
  by_cases hw : 0 ≤ w ∧ w < (gHe G).length
  · obtain ⟨n, rfl⟩ : ∃ n : Nat, w = n := ⟨w.toNat, by omega⟩
    obtain ⟨hnm, h8, _⟩ := c2 n (by omega)
    have e1 : (jA S 92).getD ((9 : Int) * n).toNat 0 = ((gHe G).getD n ([], 0)).1.length := by
      rw [show ((9 : Int) * n).toNat = 9 * n by omega]; exact hnm.1
    rw [jA_kI, if_pos (bi_n hw), if_pos (show rg ((9 : Int) * n) from ⟨by omega, by omega⟩), e1, l92, if_pos (show 0 ≤ (9 : Int) * n ∧ (9 : Int) * n < ((54 : Nat) : Int) by omega), if_pos (show rg ((((gHe G).getD n ([], 0)).1.length : Int) - 1) from ⟨by omega, by omega⟩), e_in, Option.bind_some, if_pos hw, show ((n : Int)).toNat = n by omega, map_getD (d := ([], 0)) rfl]
    dsimp only
    by_cases hi : 0 ≤ i ∧ i < ((gHe G).getD n ([], 0)).1.length
    · refine ⟨((gHe G).getD n ([], 0)).1.getD i.toNat 0, 0, ?_, ?_⟩
      · refine ie (bi_n (by omega)) (it (by decide) (it ⟨by omega, by omega⟩ (it ⟨by omega, by omega⟩ (it ⟨by omega, by omega⟩ (it ⟨by omega, ?_⟩ ?_)))))
        · show _ < ((jA S 92).length : Int)
          rw [l92]; omega
        · rw [kI_kI, jA_kI]
          have := nm_at hnm hi.1 hi.2
          rw [show (((9 * n : Nat) : Int)) = (9 : Int) * n by omega] at this
          rw [this]
      · rw [if_pos hi]; exact ⟨rfl, rfl⟩
    · refine ⟨0, 1, ?_, ?_⟩
      · refine it (bi_0.mpr (by omega)) (ie (by decide) ?_)
        rw [kI_kI]
      · rw [if_neg hi]; exact ⟨hA_AI, by decide⟩
  · rw [if_neg (nn (bi_0.mpr hw)), if_neg hw]
    exact ⟨-101, 0, rfl, rfl, rfl⟩
def acV (x : Int × Int × Int × List vT) (w m : Int) : Int := if w = 0 then x.1 else if w = 1 then x.2.1 else if w = 2 then x.2.2.1 else if w = 3 then m else -102
theorem l7_mi (z : zS S) {l : List (Int × Int × Int × List vT)} {nh a : Nat} (h90 : (jA S 90).getD 0 0 = nh) (h : lAr S nh l) (ha : a < l.length) {w : Int} : ∀ (j n k : Nat) (m : Int), k + j = nh → j < n → 0 ≤ m → m + j ≤ 1000 → j_X7_arc_29 n a w m k S = some (acV (l.getD a (0, 0, 0, [])) w (m + msS ((l.getD a (0, 0, 0, [])).2.2.2.drop k)), S) := by
  obtain ⟨c0, c1, c2, c3⟩ := h
  obtain ⟨⟨a1, a2, a3, a4⟩, hv⟩ := c3 a ha
  have l90 : (jA S 90).length = 2 := z 90
  have l87 : (jA S 87).length = 80 := z 87
  have l88 : (jA S 88).length = 80 := z 88
  have l89 : (jA S 89).length = 80 := z 89
  have l93 : (jA S 93).length = 240 := z 93
  intro j
  induction j with
  | zero =>
    intro n k m hk hn' h0 h1
    obtain ⟨n, rfl⟩ : ∃ p, n = p + 1 := ⟨n - 1, by omega⟩
    rw [j_X7_arc_29, h90, List.drop_eq_nil_of_le (by omega), show msS [] = 0 from rfl, Int.add_zero]
    unfold j_X7_arc_120 acV
    refine it (by omega) (it (by omega) ?_)
    rw [show ((a : Int)).toNat = a by omega, a1, a2, a3, l87, l88, l89]
    by_cases w0 : w = 0
    · rw [if_neg (nn w0), if_pos w0]; exact it ⟨by omega, by omega⟩ rfl
    · rw [if_pos w0, if_neg w0]
      by_cases w1 : w = 1
      · rw [if_neg (nn w1), if_pos w1]; exact it ⟨by omega, by omega⟩ rfl
      · rw [if_pos w1, if_neg w1]
        by_cases w2 : w = 2
        · rw [if_neg (nn w2), if_pos w2]; exact it ⟨by omega, by omega⟩ rfl
        · rw [if_pos w2, if_neg w2]
          by_cases w3 : w = 3
          · rw [if_neg (nn w3), if_pos w3]
          · rw [if_pos w3, if_neg w3]
  | succ j ih =>
    intro n k m hk hn' h0 h1
    obtain ⟨n, rfl⟩ : ∃ p, n = p + 1 := ⟨n - 1, by omega⟩
    have e : (k : Int) + 1 = ((k + 1 : Nat) : Int) := by omega
    obtain ⟨v1, _⟩ := a4 k (by omega)
    rw [j_X7_arc_29, h90, drop_getDG (d := (0, 0, [])) (show k < (l.getD a (0, 0, 0, [])).2.2.2.length by omega), msS_cons]
    unfold j_X7_arc_60
    refine it (by omega) (ie (by omega) (it ⟨by omega, by omega⟩ (it ⟨by omega, by omega⟩ (it ⟨by omega, by omega⟩ ?_))))
    rw [show ((3 : Int) * a + k).toNat = 3 * a + k by omega, v1, e]
    by_cases hm : ((l.getD a (0, 0, 0, [])).2.2.2.getD k (0, 0, [])).1 = 0
    · refine ie (nn hm) (it ⟨by omega, by omega⟩ (it ⟨by omega, by omega⟩ ?_))
      rw [if_pos hm]
      refine (ih n (k + 1) (m + 1) (by omega) (by omega) (by omega) (by omega)).trans ?_
      congr 3
      omega
    · refine it hm (it ⟨by omega, by omega⟩ (it ⟨by omega, by omega⟩ ?_))
      rw [if_neg hm, Int.add_zero, Int.add_zero]
      exact ih n (k + 1) m (by omega) (by omega) (by omega) (by omega)
theorem m7_arc (z : zS S) (h : lG S G) {a w : Int} : j_X7_arc a w S = some (acS G a w, kI S 82 0 0) := by
  have hA := h.2.2.2.1
  obtain ⟨c0, c1, c2, c3⟩ := hA
  have l86 : (jA S 86).length = 2 := z 86
  unfold j_X7_arc j_X7_arc_0 acS
  rw [c0, l86, e_in, Option.bind_some, if_pos (show 0 < 2 by decide), if_pos (show rg (((gAr G).length : Int) - 1) from ⟨by omega, by omega⟩)]
  dsimp only
  by_cases ha : 0 ≤ a ∧ a < (gAr G).length
  · obtain ⟨n, rfl⟩ : ∃ n : Nat, a = n := ⟨a.toNat, by omega⟩
    rw [if_pos (bi_n (show 0 ≤ (n : Int) ∧ (n : Int) ≤ ((gAr G).length : Int) - 1 by omega)), if_pos ha, show ((n : Int)).toNat = n by omega]
    have := l7_mi (S := kI S 82 0 0) z h.2.1.1 h.2.2.2.1 (a := n) (by omega) (w := w) (gHe G).length fuel 0 0 (by omega) (by unfold fuel; omega) (by omega) (by omega)
    rw [List.drop_zero, Int.zero_add] at this
    exact this
  · rw [if_neg (nn (bi_0.mpr (show ¬ (0 ≤ a ∧ a ≤ ((gAr G).length : Int) - 1) by omega))), if_neg ha]
theorem hV_NP : hV.lookup NP = some 1 := by decide
theorem hV_CC : hV.lookup CC = some 2 := by decide
theorem hG_NP : hG.lookup NP = some 1 := by decide
theorem hG_CC : hG.lookup CC = some 2 := by decide
theorem hG_AI : hG.lookup AI = some 3 := by decide
theorem m7_value (z : zS S) (h : lG S G) {a c : Int} : ∃ y t, j_X7_value a c S = some (y, kI S 82 0 t) ∧ moR hV (vaS G a c) y t := by
  have hC := m7_isC (S := kI S 82 0 0) z h (c := c)
  obtain ⟨_, ⟨b0, b1, b2⟩, _, ⟨c0, c1, c2, c3⟩, _⟩ := h
  have l86 : (jA S 86).length = 2 := z 86
  have l91 : (jA S 91).length = 6 := z 91
  have l93 : (jA S 93).length = 240 := z 93
  have l94 : (jA S 94).length = 240 := z 94
  unfold j_X7_value j_X7_value_0 j_X7_value_29 j_X7_value_65 j_X7_value_89 vaS
  rw [c0, l86, e_in, Option.bind_some, if_pos (show 0 < 2 by decide), if_pos (show rg (((gAr G).length : Int) - 1) from ⟨by omega, by omega⟩)]
  dsimp only
  rw [hC, Option.bind_some]
  dsimp only
  by_cases ha : 0 ≤ a ∧ a < (gAr G).length
  · rw [if_neg (bi_n (show 0 ≤ a ∧ a ≤ ((gAr G).length : Int) - 1 by omega))]
    by_cases hc : 0 ≤ c ∧ c < (gHe G).length
    · rw [if_pos (bi_n hc), if_pos (show (0 ≤ a ∧ a < (gAr G).length) ∧ (0 ≤ c ∧ c < (gHe G).length) from ⟨ha, hc⟩), if_pos (show rg ((3 : Int) * a) from ⟨by omega, by omega⟩), if_pos (show rg ((3 : Int) * a + c) from ⟨by omega, by omega⟩), jA_kI, jA_kI, l93, if_pos (show 0 ≤ (3 : Int) * a + c ∧ (3 : Int) * a + c < ((240 : Nat) : Int) by omega), l91, if_pos (show 0 ≤ c ∧ c < ((6 : Nat) : Int) by omega), (b2 c.toNat (by omega)).2.2]
      obtain ⟨⟨a1, a2, a3, a4⟩, hv⟩ := c3 a.toNat (by omega)
      obtain ⟨v1, v2, _⟩ := a4 c.toNat (by omega)
      rw [show ((3 : Int) * a + c).toNat = 3 * a.toNat + c.toNat by omega, v1]
      by_cases hm : (vaG G a.toNat c.toNat).1 = 0
      · rw [if_neg (show ¬ ¬ (((gAr G).getD a.toNat (0, 0, 0, [])).2.2.2.getD c.toNat (0, 0, [])).1 = 0 from nn hm), if_pos hm]
        refine ⟨0, 1, ie (by decide) ?_, hV_NP, by decide⟩
        rw [kI_kI]
      · rw [if_pos (show ¬ (((gAr G).getD a.toNat (0, 0, 0, [])).2.2.2.getD c.toNat (0, 0, [])).1 = 0 from hm), if_neg hm]
        by_cases hk : ((gHe G).getD c.toNat ([], 0)).2 = 2
        · rw [if_neg (nn hk), if_pos hk]
          refine ⟨0, 2, ie (by decide) ?_, hV_CC, by decide⟩
          rw [kI_kI]
        · rw [if_pos hk, if_neg hk]
          refine ⟨(vaG G a.toNat c.toNat).2.1, 0, it (by decide) (it ⟨by omega, by omega⟩ (it ⟨by omega, by omega⟩ ?_)), rfl, rfl⟩
          refine it ⟨by omega, by show _ < ((jA S 94).length : Int); omega⟩ ?_
          rw [kI_kI, jA_kI, v2]
          rfl
    · rw [if_neg (nn (bi_0.mpr hc)), if_neg (show ¬ ((0 ≤ a ∧ a < (gAr G).length) ∧ (0 ≤ c ∧ c < (gHe G).length)) from fun q => hc q.2)]
      exact ⟨-101, 0, rfl, rfl, rfl⟩
  · rw [if_pos (bi_0.mpr (show ¬ (0 ≤ a ∧ a ≤ ((gAr G).length : Int) - 1) by omega)), if_neg (show ¬ ((0 ≤ a ∧ a < (gAr G).length) ∧ (0 ≤ c ∧ c < (gHe G).length)) from fun q => ha q.1)]
    exact ⟨-101, 0, rfl, rfl, rfl⟩
/-- kinds are settled -/
def kd2 (G : gT) : Prop := ∀ h ∈ gHe G, 0 ≤ h.2 ∧ h.2 ≤ 2
theorem m7_sign (z : zS S) (h : lG S G) (hk2 : kd2 G) {a c i : Int} (hi' : rg i) : ∃ y t, j_X7_sign_ a c i S = some (y, kI S 82 0 t) ∧ moR hG (siS G a c i) y t := by
  have hC := m7_isC (S := kI S 82 0 0) z h (c := c)
  obtain ⟨_, ⟨b0, b1, b2⟩, _, ⟨c0, c1, c2, c3⟩, _⟩ := h
  have l86 : (jA S 86).length = 2 := z 86
  have l91 : (jA S 91).length = 6 := z 91
  have l93 : (jA S 93).length = 240 := z 93
  have l95 : (jA S 95).length = 2160 := z 95
  unfold j_X7_sign_ j_X7_sign__0 j_X7_sign__29 j_X7_sign__93 j_X7_sign__121 siS
  rw [c0, l86, e_in, Option.bind_some, if_pos (show 0 < 2 by decide), if_pos (show rg (((gAr G).length : Int) - 1) from ⟨by omega, by omega⟩)]
  dsimp only
  rw [hC, Option.bind_some]
  dsimp only
  by_cases ha : 0 ≤ a ∧ a < (gAr G).length
  · rw [if_neg (bi_n (show 0 ≤ a ∧ a ≤ ((gAr G).length : Int) - 1 by omega))]
    by_cases hc : 0 ≤ c ∧ c < (gHe G).length
    · rw [if_pos (bi_n hc), if_pos (show (0 ≤ a ∧ a < (gAr G).length) ∧ (0 ≤ c ∧ c < (gHe G).length) from ⟨ha, hc⟩), if_pos (show rg ((3 : Int) * a) from ⟨by omega, by omega⟩), if_pos (show rg ((3 : Int) * a + c) from ⟨by omega, by omega⟩), jA_kI, jA_kI, jA_kI, l93, if_pos (show 0 ≤ (3 : Int) * a + c ∧ (3 : Int) * a + c < ((240 : Nat) : Int) by omega), l91, if_pos (show 0 ≤ c ∧ c < ((6 : Nat) : Int) by omega), (b2 c.toNat (by omega)).2.2]
      obtain ⟨⟨a1, a2, a3, a4⟩, hv⟩ := c3 a.toNat (by omega)
      obtain ⟨v1, v2, v3, v4⟩ := a4 c.toNat (by omega)
      have hkk := hk2 _ (getD_memG (d := ([], 0)) (show c.toNat < (gHe G).length by omega))
      rw [show ((3 : Int) * a + c).toNat = 3 * a.toNat + c.toNat by omega, v1]
      have e9 : (jA S 95).getD ((9 : Int) * ((3 : Int) * a + c)).toNat 0 = (vaG G a.toNat c.toNat).2.2.length := by
        rw [show ((9 : Int) * ((3 : Int) * a + c)).toNat = 9 * (3 * a.toNat + c.toNat) by omega]; exact v3.1
      have v4' : (vaG G a.toNat c.toNat).2.2.length ≤ 8 := v4
      by_cases hm : (vaG G a.toNat c.toNat).1 = 0
      · rw [if_neg (show ¬ ¬ (((gAr G).getD a.toNat (0, 0, 0, [])).2.2.2.getD c.toNat (0, 0, [])).1 = 0 from nn hm), if_pos hm]
        refine ⟨0, 1, ie (by decide) ?_, hG_NP, by decide⟩
        rw [kI_kI]
      · rw [if_pos (show ¬ (((gAr G).getD a.toNat (0, 0, 0, [])).2.2.2.getD c.toNat (0, 0, [])).1 = 0 from hm), if_neg hm]
        by_cases hk : ((gHe G).getD c.toNat ([], 0)).2 = 2
        · rw [if_neg (nn hk), if_pos (show 2 ≤ ((gHe G).getD c.toNat ([], 0)).2 by omega), if_pos (show rg ((9 : Int) * ((3 : Int) * a + c)) from ⟨by omega, by omega⟩), l95, if_pos (show 0 ≤ (9 : Int) * ((3 : Int) * a + c) ∧ (9 : Int) * ((3 : Int) * a + c) < ((2160 : Nat) : Int) by omega), e9, if_pos (show rg (((vaG G a.toNat c.toNat).2.2.length : Int) - 1) from ⟨by omega, by omega⟩), e_in, Option.bind_some]
          dsimp only
          by_cases hi : 0 ≤ i ∧ i < (vaG G a.toNat c.toNat).2.2.length
          · rw [if_pos hi]
            refine ⟨(vaG G a.toNat c.toNat).2.2.getD i.toNat 0, 0, ie (bi_n (by omega)) (it (by decide) (it ⟨by omega, by omega⟩ (it ⟨by omega, by omega⟩ (it ⟨by omega, by omega⟩ (it ⟨by omega, ?_⟩ ?_))))), rfl, rfl⟩
            · show _ < ((jA S 95).length : Int)
              omega
            · rw [kI_kI, jA_kI]
              have := nm_at (i := i) v3 hi.1 hi.2
              rw [show (((9 * (3 * a.toNat + c.toNat) : Nat) : Int)) = (9 : Int) * ((3 : Int) * a + c) by omega] at this
              rw [this]
              rfl
          · rw [if_neg hi]
            refine ⟨0, 3, it (bi_0.mpr (by omega)) (ie (by decide) ?_), hG_AI, by decide⟩
            rw [kI_kI]
        · rw [if_pos hk, if_neg (show ¬ 2 ≤ ((gHe G).getD c.toNat ([], 0)).2 by omega)]
          refine ⟨0, 2, ie (by decide) ?_, hG_CC, by decide⟩
          rw [kI_kI]
    · rw [if_neg (nn (bi_0.mpr hc)), if_neg (show ¬ ((0 ≤ a ∧ a < (gAr G).length) ∧ (0 ≤ c ∧ c < (gHe G).length)) from fun q => hc q.2)]
      exact ⟨-101, 0, rfl, rfl, rfl⟩
  · rw [if_pos (bi_0.mpr (show ¬ (0 ≤ a ∧ a ≤ ((gAr G).length : Int) - 1) by omega)), if_neg (show ¬ ((0 ≤ a ∧ a < (gAr G).length) ∧ (0 ≤ c ∧ c < (gHe G).length)) from fun q => ha q.1)]
    exact ⟨-101, 0, rfl, rfl, rfl⟩
theorem m7_about (z : zS S) (h : lG S G) {w : Int} : j_X7_about w S = some (abS (jI S 82 2) G (jI S 82 26) w, kI S 82 0 0) := by
  obtain ⟨⟨a0, _⟩, ⟨b0, _⟩, ⟨c0, _⟩, ⟨d0, _⟩, _, f0, _⟩ := h
  have l84 : (jA S 84).length = 2 := z 84
  have l86 : (jA S 86).length = 2 := z 86
  have l90 : (jA S 90).length = 2 := z 90
  have l96 : (jA S 96).length = 2 := z 96
  have l97 : (jA S 97).length = 2 := z 97
  unfold j_X7_about j_X7_about_0 abS
  rw [l84, l86, l90, l96, l97, a0, b0, c0, d0, f0]
  simp only [if_pos (show 0 < 2 by decide)]
  repeat (first | rfl | (split; rfl))
theorem m7_fault {w : Int} : ∃ y, j_X7_fault w S = some (y, kI S 82 0 0) := by
  unfold j_X7_fault j_X7_fault_0 j_X7_fault_30
  repeat (first | exact ⟨_, rfl⟩ | split)
theorem m7_manner {m : Int} : j_X7_manner m S = some (if 0 ≤ m ∧ m ≤ 2 then (jI S 82 3, kI (kI S 82 0 0) 82 3 m) else (-102, kI S 82 0 0)) := by
  unfold j_X7_manner j_X7_manner_0
  rw [e_in, Option.bind_some]
  dsimp only
  by_cases h : 0 ≤ m ∧ m ≤ 2
  · rw [if_pos (bi_n h), if_pos h, jI_ne (.inr (by decide))]
  · rw [if_neg (nn (bi_0.mpr h)), if_neg h]
theorem m7_out (z : zS S) (h0 : 0 ≤ jI S 82 26) (h1 : jI S 82 26 ≤ 2400) {i : Int} : ∃ y t, j_X7_out i S = some (y, kI S 82 0 t) ∧ moR hA (if 0 ≤ i ∧ i < jI S 82 26 then .inl ((gv S 82 26 102).getD i.toNat 0) else .inr AI) y t := by
  have l : (jA S 102).length = 2400 := z 102
  unfold j_X7_out j_X7_out_0 j_X7_out_20 j_X7_out_40
  rw [if_pos (show rg (jI S 82 26 - 1) from ⟨by omega, by omega⟩), e_in, Option.bind_some]
  dsimp only
  by_cases hi : 0 ≤ i ∧ i < jI S 82 26
  · rw [if_pos hi, if_neg (bi_n (show 0 ≤ i ∧ i ≤ jI S 82 26 - 1 by omega))]
    refine ⟨(gv S 82 26 102).getD i.toNat 0, 0, it (by decide) (it ⟨by omega, by omega⟩ ?_), rfl, rfl⟩
    rw [gv_get (by omega)]
  · rw [if_neg hi, if_pos (bi_0.mpr (show ¬ (0 ≤ i ∧ i ≤ jI S 82 26 - 1) by omega))]
    exact ⟨0, 1, ie (by decide) rfl, hA_AI, by decide⟩
end MOB
