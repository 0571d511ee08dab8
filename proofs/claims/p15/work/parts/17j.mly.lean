section MLY
variable {S S' S'' : iS} {L : List Int}
theorem l7_87 {T : iS} (z : zS T) {r37 : Int → Int → Int → Int → iS → Option iS} {l1 l2 : Int} {na c : Nat} (hna : na < 40) (hc : c < 3) {ms : List Int} (hm : nmAt (jA T 108) (9 * c) ms) (hm8 : ms.length ≤ 8) (O : List Int) (hO : O.length = 2160) : ∀ (j n k : Nat) (L : List Int), k + j = ms.length + 1 → j < n → L.length = O.length → (∀ i, i < 9 * (3 * (40 + na) + c) ∨ 9 * (3 * (40 + na) + c) + k ≤ i → L.getD i 0 = O.getD i 0) → (∀ i, i < k → L.getD (9 * (3 * (40 + na) + c) + i) 0 = (jA T 108).getD (9 * c + i) 0) → ∃ L', j_X7_layArc_87 r37 n l1 l2 (40 + (na : Int)) c k (kA T 95 L) = r37 l1 l2 (40 + (na : Int)) ((c : Int) + 1) (kA T 95 L') ∧ L'.length = O.length ∧ (∀ i, i < 9 * (3 * (40 + na) + c) ∨ 9 * (3 * (40 + na) + c) + ms.length + 1 ≤ i → L'.getD i 0 = O.getD i 0) ∧ nmAt L' (9 * (3 * (40 + na) + c)) ms := by
  have l108 : (jA T 108).length = 27 := z 108
  have e108 : ∀ L, jA (kA T 95 L) 108 = jA T 108 := fun L => jA_ne (by decide)
  intro j
  induction j with
  | zero =>
    intro n k L hk hn hl h1 h2
    obtain ⟨n, rfl⟩ : ∃ m, n = m + 1 := ⟨n - 1, by omega⟩
    refine ⟨L, ?_, hl, fun i hi => h1 i (by omega), ⟨?_, fun i hi => ?_⟩⟩
    · rw [j_X7_layArc_87, e108, show (9 * (c : Int)).toNat = 9 * c by omega, hm.1]
      exact it ⟨by omega, by omega⟩ (it ⟨by omega, by omega⟩ (it (by omega) (it ⟨by omega, by omega⟩ rfl)))
    · have := h2 0 (by omega)
      rw [Nat.add_zero, Nat.add_zero] at this
      exact this.trans hm.1
    · rw [Nat.add_assoc, h2 (1 + i) (by omega), ← Nat.add_assoc]
      exact hm.2 i hi
  | succ j ih =>
    intro n k L hk hn hl h1 h2
    obtain ⟨n, rfl⟩ : ∃ m, n = m + 1 := ⟨n - 1, by omega⟩
    obtain ⟨L', e, q⟩ := ih n (k + 1) (L.set (9 * (3 * (40 + na) + c) + k) ((jA T 108).getD (9 * c + k) 0)) (by omega) (by omega) (by rw [List.length_set]; exact hl) (fun i hi => by
        rw [getD_set, if_neg (by omega)]; exact h1 i (by omega)) (fun i hi => by
        rw [getD_set]
        by_cases e : i = k
        · rw [if_pos ⟨by omega, by omega⟩, e]
        · rw [if_neg (by omega)]; exact h2 i (by omega))
    refine ⟨L', ?_, q⟩
    rw [j_X7_layArc_87, e108, show (9 * (c : Int)).toNat = 9 * c by omega, hm.1, jA_eq, kA_kA, show (9 * (c : Int) + (k : Int)).toNat = 9 * c + k by omega, show (9 * (3 * (40 + (na : Int)) + (c : Int)) + (k : Int)).toNat = 9 * (3 * (40 + na) + c) + k by omega, show (k : Int) + 1 = ((k + 1 : Nat) : Int) by omega]
    exact it ⟨by omega, by omega⟩ (it ⟨by omega, by omega⟩ (ie (by omega) (it ⟨by omega, by omega⟩ (it ⟨by omega, by omega⟩ (it ⟨by omega, by omega⟩ (it ⟨by omega, by omega⟩ (it ⟨by omega, by omega⟩ (it ⟨by omega, by omega⟩ (it ⟨by omega, by omega⟩ (it ⟨by omega, by omega⟩ e))))))))))
abbrev RV (a : Nat) : Prop := a = 93 ∨ a = 94 ∨ a = 95
theorem l7_37 {vs : List vT} {na : Nat} (hna : na < 40) {l1 l2 : Int} (h3 : vs.length ≤ 3) : ∀ (j n c : Nat) (T : iS), zS T → c + j = vs.length → (jA T 90).getD 1 0 = vs.length → owd T vs → (∀ c', c' < c → vlAt T (3 * (40 + na) + c') (vs.getD c' (0, 0, []))) → j + 1 < n → ∃ n' T', j_X7_layArc_37 n l1 l2 (40 + (na : Int)) c T = j_X7_layArc_37 (n' + 1) l1 l2 (40 + (na : Int)) vs.length T' ∧ jI T' = jI T ∧ T'.2.2 = T.2.2 ∧ zS T' ∧ (∀ a, ¬ RV a → jA T' a = jA T a) ∧ (∀ i, i < 3 * (40 + na) → (jA T' 93).getD i 0 = (jA T 93).getD i 0 ∧ (jA T' 94).getD i 0 = (jA T 94).getD i 0) ∧ (∀ i, i < 9 * (3 * (40 + na)) → (jA T' 95).getD i 0 = (jA T 95).getD i 0) ∧ ∀ c', c' < vs.length → vlAt T' (3 * (40 + na) + c') (vs.getD c' (0, 0, [])) := by
  intro j
  induction j with
  | zero =>
    intro n c T z hc h90 ho hv hn
    obtain ⟨n, rfl⟩ : ∃ m, n = m + 1 := ⟨n - 1, by omega⟩
    refine ⟨n, T, ?_, rfl, rfl, z, fun _ _ => rfl, fun _ _ => ⟨rfl, rfl⟩, fun _ _ => rfl, fun c' h => hv c' (by omega)⟩
    rw [show c = vs.length by omega]
  | succ j ih =>
    intro n c T z hc h90 ho hv hn
    obtain ⟨n, rfl⟩ : ∃ m, n = m + 1 := ⟨n - 1, by omega⟩
    have l90 : (jA T 90).length = 2 := z 90
    have l93 : (jA T 93).length = 240 := z 93
    have l94 : (jA T 94).length = 240 := z 94
    have l95 : (jA T 95).length = 2160 := z 95
    have l106 : (jA T 106).length = 3 := z 106
    have l107 : (jA T 107).length = 3 := z 107
    obtain ⟨o1, o2, o3, o4⟩ := ho c (by omega)
    have z1 : zS (kA (kA T 93 ((jA T 93).set (3 * (40 + na) + c) ((jA T 106).getD c 0))) 94 ((jA T 94).set (3 * (40 + na) + c) ((jA T 107).getD c 0))) := zS_kA (zS_set z) (by rw [List.length_set]; exact z 94)
    have hX : ∀ a, a ≠ 93 → a ≠ 94 → jA (kA (kA T 93 ((jA T 93).set (3 * (40 + na) + c) ((jA T 106).getD c 0))) 94 ((jA T 94).set (3 * (40 + na) + c) ((jA T 107).getD c 0))) a = jA T a := fun a b1 b2 => by rw [jA_ne b2, jA_ne b1]
    have x93 : jA (kA (kA T 93 ((jA T 93).set (3 * (40 + na) + c) ((jA T 106).getD c 0))) 94 ((jA T 94).set (3 * (40 + na) + c) ((jA T 107).getD c 0))) 93 = (jA T 93).set (3 * (40 + na) + c) ((jA T 106).getD c 0) := by rw [jA_ne (by decide), jA_eq]
    have x94 : jA (kA (kA T 93 ((jA T 93).set (3 * (40 + na) + c) ((jA T 106).getD c 0))) 94 ((jA T 94).set (3 * (40 + na) + c) ((jA T 107).getD c 0))) 94 = (jA T 94).set (3 * (40 + na) + c) ((jA T 107).getD c 0) := by rw [jA_eq]
    have stp : ∀ X, j_X7_layArc_87 (fun l1' l2' l3' l4' S' => j_X7_layArc_37 n l1' l2' l3' l4' S') fuel l1 l2 (40 + (na : Int)) c (0 : Int) (kA (kA T 93 ((jA T 93).set (3 * (40 + na) + c) ((jA T 106).getD c 0))) 94 ((jA T 94).set (3 * (40 + na) + c) ((jA T 107).getD c 0))) = X → j_X7_layArc_37 (n + 1) l1 l2 (40 + (na : Int)) c T = X := by
      intro X hX
      rw [j_X7_layArc_37, h90, show (3 * (40 + (na : Int)) + (c : Int)).toNat = 3 * (40 + na) + c by omega, show ((c : Int)).toNat = c by omega]
      exact it (by omega) (ie (by omega) (it ⟨by omega, by omega⟩ (it ⟨by omega, by omega⟩ (it ⟨by omega, by omega⟩ (it ⟨by omega, by omega⟩ (it ⟨by omega, by omega⟩ (it ⟨by omega, by omega⟩ hX)))))))
    generalize hV : kA (kA T 93 ((jA T 93).set (3 * (40 + na) + c) ((jA T 106).getD c 0))) 94 ((jA T 94).set (3 * (40 + na) + c) ((jA T 107).getD c 0)) = V at *
    have iV : jI V = jI T := by subst hV; rfl
    have pV : V.2.2 = T.2.2 := by subst hV; rfl
    obtain ⟨L, eL, lL, oL, nL⟩ := l7_87 z1 (r37 := fun l1' l2' l3' l4' S' => j_X7_layArc_37 n l1' l2' l3' l4' S') (l1 := l1) (l2 := l2) hna (by omega : c < 3) (ms := (vs.getD c (0, 0, [])).2.2) (by rw [hX 108 (by decide) (by decide)]; exact o3) o4 (jA V 95) (by rw [hX 95 (by decide) (by decide)]; exact l95) ((vs.getD c (0, 0, [])).2.2.length + 1) fuel 0 (jA V 95) (by omega) (by unfold fuel; omega) rfl (fun _ _ => rfl) (fun i hi => absurd hi (Nat.not_lt_zero _))
    rw [kA_self] at eL
    have z2 : zS (kA V 95 L) := zS_kA z1 (by rw [lL]; exact z1 95)
    have hY : ∀ a, a ≠ 93 → a ≠ 94 → a ≠ 95 → jA (kA V 95 L) a = jA T a := fun a b1 b2 b3 => by rw [jA_ne b3, hX a b1 b2]
    have y93 : jA (kA V 95 L) 93 = (jA T 93).set (3 * (40 + na) + c) ((jA T 106).getD c 0) := by rw [jA_ne (by decide), x93]
    have y94 : jA (kA V 95 L) 94 = (jA T 94).set (3 * (40 + na) + c) ((jA T 107).getD c 0) := by rw [jA_ne (by decide), x94]
    rw [hX 95 (by decide) (by decide)] at oL
    obtain ⟨n', T', e', i', p', z', a', s', t', v'⟩ := ih n (c + 1) (kA V 95 L) z2 (by omega) (by rw [hY 90 (by decide) (by decide) (by decide)]; exact h90) (fun c' hc' => by
        rw [hY 106 (by decide) (by decide) (by decide), hY 107 (by decide) (by decide) (by decide), hY 108 (by decide) (by decide) (by decide)]
        exact ho c' hc') (fun c' hc' => by
        unfold vlAt
        rw [y93, y94, jA_eq]
        by_cases e : c' = c
        · rw [e, getD_set, getD_set, if_pos ⟨rfl, by omega⟩, if_pos ⟨rfl, by omega⟩]
          exact ⟨o1, o2, nL, o4⟩
        · obtain ⟨w1, w2, w3, w4⟩ := hv c' (by omega)
          rw [getD_set, getD_set, if_neg (by omega), if_neg (by omega)]
          exact ⟨w1, w2, nmAt_eq w3 (fun i i1 i2 => oL i (.inl (by omega))), w4⟩) (by omega)
    refine ⟨n', T', stp _ ?_, i'.trans iV, p'.trans pV, z', fun a ha => (a' a ha).trans (hY a (by omega) (by omega) (by omega)), fun i hi => ?_, fun i hi => ?_, v'⟩
    · have eL' : j_X7_layArc_87 (fun l1' l2' l3' l4' S' => j_X7_layArc_37 n l1' l2' l3' l4' S') fuel l1 l2 (40 + (na : Int)) c 0 V = _ := eL
      rw [eL', show (c : Int) + 1 = ((c + 1 : Nat) : Int) by omega]
      exact e'
    · rw [(s' i hi).1, (s' i hi).2, y93, y94, getD_set, getD_set, if_neg (by omega), if_neg (by omega)]
      exact ⟨rfl, rfl⟩
    · rw [t' i hi, jA_eq]
      exact oL i (.inl (by omega))
/-- an ARC is laid -/
theorem e7_layArc {G : gT} (u : uM S) (hg : mG S G) (hli : (gLi G).length ≤ 600) {vs : List vT} (ho : owd S vs) (hvs : vs.length = (gHe G).length) (h40 : (gAr G).length < 40) {f t : Int} {N : List (List Int)} (hN : gNo G = N) (hw : gWa G = true) : ∃ S', j_X7_layArc f t S = some S' ∧ lo S S' ∧ uM S' ∧ mRs S' = mRs S ∧ mG S' (N, gHe G, gCo G, gAr G ++ [(f, t, jI S 82 28, vs)], gLi G ++ [3], gLo G, gCt G, true) := by
  obtain ⟨h1, h2, h3, h4, h5, h6, h7, h8⟩ := hg
  have l86 : (jA S 86).length = 2 := u.1.1 86
  have l87 : (jA S 87).length = 80 := u.1.1 87
  have l88 : (jA S 88).length = 80 := u.1.1 88
  have l89 : (jA S 89).length = 80 := u.1.1 89
  have c86 := h4.1
  have hh3 := h2.2.1
  generalize hna : (gAr G).length = na at *
  have z1 : zS (kA (kA (kA S 87 ((jA S 87).set (40 + na) f)) 88 ((jA S 88).set (40 + na) t)) 89 ((jA S 89).set (40 + na) (jI S 82 28))) := zS_kA (zS_kA (zS_set u.1.1) (by rw [List.length_set]; exact u.1.1 88)) (by rw [List.length_set]; exact u.1.1 89)
  have hX : ∀ a, a ≠ 87 → a ≠ 88 → a ≠ 89 → jA (kA (kA (kA S 87 ((jA S 87).set (40 + na) f)) 88 ((jA S 88).set (40 + na) t)) 89 ((jA S 89).set (40 + na) (jI S 82 28))) a = jA S a := fun a b1 b2 b3 => by rw [jA_ne b3, jA_ne b2, jA_ne b1]
  have lo1 : lo S (kA (kA (kA S 87 ((jA S 87).set (40 + na) f)) 88 ((jA S 88).set (40 + na) t)) 89 ((jA S 89).set (40 + na) (jI S 82 28))) := by
    refine lo_trans (lo_kA (by omega) (fun i hi => ?_)) (lo_trans (lo_kA (by omega) (fun i hi => ?_)) (lo_kA (by omega) (fun i hi => ?_)))
    · rw [show lw 87 = 40 from rfl] at hi; rw [getD_set, if_neg (by omega)]
    · rw [show lw 88 = 40 from rfl] at hi; rw [getD_set, if_neg (by omega), jA_ne (by decide)]
    · rw [show lw 89 = 40 from rfl] at hi; rw [getD_set, if_neg (by omega), jA_ne (by decide), jA_ne (by decide)]
  have stp : ∀ X, j_X7_layArc_37 fuel f t (40 + (na : Int)) ((0 : Nat) : Int) (kA (kA (kA S 87 ((jA S 87).set (40 + na) f)) 88 ((jA S 88).set (40 + na) t)) 89 ((jA S 89).set (40 + na) (jI S 82 28))) = X → j_X7_layArc f t S = X := by
    intro X hX
    unfold j_X7_layArc j_X7_layArc_0
    rw [c86, show (40 + (na : Int)).toNat = 40 + na by omega]
    exact it (by omega) (it ⟨by omega, by omega⟩ (it ⟨by omega, by omega⟩ (it ⟨by omega, by omega⟩ (it ⟨by omega, by omega⟩ hX))))
  generalize hV : kA (kA (kA S 87 ((jA S 87).set (40 + na) f)) 88 ((jA S 88).set (40 + na) t)) 89 ((jA S 89).set (40 + na) (jI S 82 28)) = V at *
  have v87 : jA V 87 = (jA S 87).set (40 + na) f := by subst hV; rw [jA_ne (by decide), jA_ne (by decide), jA_eq]
  have v88 : jA V 88 = (jA S 88).set (40 + na) t := by subst hV; rw [jA_ne (by decide), jA_eq]
  have v89 : jA V 89 = (jA S 89).set (40 + na) (jI S 82 28) := by subst hV; rw [jA_eq]
  have iV : jI V = jI S := by subst hV; rfl
  obtain ⟨n', T, e2, iT, pT, zT, aT, sT, tT, vT⟩ := l7_37 h40 (l1 := f) (l2 := t) (by omega : vs.length ≤ 3) vs.length fuel 0 V z1 (by omega) (by rw [hX 90 (by decide) (by decide) (by decide), h2.1, hvs]) (fun c hc => by
      rw [hX 106 (by decide) (by decide) (by decide), hX 107 (by decide) (by decide) (by decide), hX 108 (by decide) (by decide) (by decide)]
      exact ho c hc) (fun c' hc' => absurd hc' (Nat.not_lt_zero _)) (by unfold fuel; omega)
  have lo2 : lo V T := by
    refine ⟨fun a g _ => by rw [iT], pT, fun a i hi => ?_, fun a ha => aT a (by omega)⟩
    by_cases r : RV a
    · rcases r with r | r | r <;> subst r
      · rw [show lw 93 = 120 from rfl] at hi; exact (sT i (by omega)).1
      · rw [show lw 94 = 120 from rfl] at hi; exact (sT i (by omega)).2
      · rw [show lw 95 = 1080 from rfl] at hi; exact tT i (by omega)
    · rw [aT a r]
  have tA : ∀ a, a ≠ 87 → a ≠ 88 → a ≠ 89 → a ≠ 93 → a ≠ 94 → a ≠ 95 → jA T a = jA S a := fun a b1 b2 b3 b4 b5 b6 => (aT a (by omega)).trans (hX a b1 b2 b3)
  have z3 : zS (kA T 86 ((jA S 86).set 1 ((na : Int) + 1))) := zS_kA zT (by rw [List.length_set]; exact u.1.1 86)
  have lo3 : lo T (kA T 86 ((jA S 86).set 1 ((na : Int) + 1))) := by
    refine lo_kA (by omega) (fun i hi => ?_)
    rw [show lw 86 = 1 from rfl] at hi
    rw [getD_set, if_neg (by omega), tA 86 (by decide) (by decide) (by decide) (by decide) (by decide) (by decide)]
  have l5 : mLi (kA T 86 ((jA S 86).set 1 ((na : Int) + 1))) (gLi G) := mLi_eq h5 (by rw [jA_ne (by decide)]; exact tA _ (by decide) (by decide) (by decide) (by decide) (by decide) (by decide)) (by rw [jA_ne (by decide)]; exact tA _ (by decide) (by decide) (by decide) (by decide) (by decide) (by decide))
  obtain ⟨L1, L2, e4, g4, lo4, z4⟩ := e7_laySort z3 l5 hli (k := 4)
  have zz : zS (kA (kA T 86 ((jA S 86).set 1 ((na : Int) + 1))) 100 L1) := zS_kA z3 (by
    have := z4 100
    rw [jA_ne (by decide), jA_eq] at this
    exact this)
  have l90 : (jA T 90).length = 2 := zT 90
  have uT : uM T := by
    refine ⟨⟨zT, ?_⟩, ?_⟩
    · rw [iT, iV]; exact u.1.2
    · rw [iT, iV]; exact u.2
  have mT : mRs T = mRs S := by
    unfold mRs gv
    rw [iT, iV, tA 83 (by decide) (by decide) (by decide) (by decide) (by decide) (by decide)]
  refine ⟨kA (kA (kA T 86 ((jA S 86).set 1 ((na : Int) + 1))) 100 L1) 99 L2, stp _ (e2.trans ?_), lo_trans lo1 (lo_trans lo2 (lo_trans lo3 lo4)), uM_kA (uM_kA (uM_kA uT z3) zz) z4, by rw [mRs_kA (by decide), mRs_kA (by decide), mRs_kA (by decide)]; exact mT, ?_⟩
  · rw [j_X7_layArc_37, tA 90 (by decide) (by decide) (by decide) (by decide) (by decide) (by decide), tA 86 (by decide) (by decide) (by decide) (by decide) (by decide) (by decide), h2.1, c86]
    rw [tA 90 (by decide) (by decide) (by decide) (by decide) (by decide) (by decide)] at l90
    refine it (by omega) (it (by omega) (it (by omega) (it ⟨by omega, by omega⟩ ?_)))
    rw [e4]
    rfl
  · have fA : ∀ a, a ≠ 87 → a ≠ 88 → a ≠ 89 → a ≠ 93 → a ≠ 94 → a ≠ 95 → a ≠ 86 → a ≠ 100 → a ≠ 99 → jA (kA (kA (kA T 86 ((jA S 86).set 1 ((na : Int) + 1))) 100 L1) 99 L2) a = jA S a := fun a b1 b2 b3 b4 b5 b6 b7 b8 b9 => by rw [jA_ne b9, jA_ne b8, jA_ne b7]; exact tA a b1 b2 b3 b4 b5 b6
    have gA : ∀ a, a ≠ 86 → a ≠ 100 → a ≠ 99 → jA (kA (kA (kA T 86 ((jA S 86).set 1 ((na : Int) + 1))) 100 L1) 99 L2) a = jA T a := fun a b7 b8 b9 => by rw [jA_ne b9, jA_ne b8, jA_ne b7]
    have fI : ∀ g, jI (kA (kA (kA T 86 ((jA S 86).set 1 ((na : Int) + 1))) 100 L1) 99 L2) 82 g = jI S 82 g := fun g => by
      show jI T 82 g = _
      rw [iT, iV]
    refine ⟨?_, ?_, ?_, ⟨?_, ?_, fun i hi => ?_⟩, g4, ?_, ?_, ?_⟩
    · rw [← hN]
      exact mNo_eq h1 (fA _ (by decide) (by decide) (by decide) (by decide) (by decide) (by decide) (by decide) (by decide) (by decide)) (fA _ (by decide) (by decide) (by decide) (by decide) (by decide) (by decide) (by decide) (by decide) (by decide))
    · exact mHe_eq h2 (fA _ (by decide) (by decide) (by decide) (by decide) (by decide) (by decide) (by decide) (by decide) (by decide)) (fA _ (by decide) (by decide) (by decide) (by decide) (by decide) (by decide) (by decide) (by decide) (by decide)) (fA _ (by decide) (by decide) (by decide) (by decide) (by decide) (by decide) (by decide) (by decide) (by decide))
    · exact mCo_eq h3 (fA _ (by decide) (by decide) (by decide) (by decide) (by decide) (by decide) (by decide) (by decide) (by decide)) (fA _ (by decide) (by decide) (by decide) (by decide) (by decide) (by decide) (by decide) (by decide) (by decide))
    · rw [jA_ne (by decide), jA_ne (by decide), jA_eq, getD_set, if_pos ⟨rfl, by omega⟩]
      show _ = (((gAr G ++ [(f, t, jI S 82 28, vs)]).length : Nat) : Int)
      rw [List.length_append, hna]; rfl
    · show (gAr G ++ [(f, t, jI S 82 28, vs)]).length ≤ 40
      rw [List.length_append, List.length_singleton, hna]; omega
    · have hi' : i < na + 1 := by
        have : i < (gAr G ++ [(f, t, jI S 82 28, vs)]).length := hi
        rw [List.length_append, List.length_singleton, hna] at this
        exact this
      show arAt _ _ ((gAr G ++ [(f, t, jI S 82 28, vs)]).getD i (0, 0, 0, [])) ∧ ((gAr G ++ [(f, t, jI S 82 28, vs)]).getD i (0, 0, 0, [])).2.2.2.length = (gHe G).length
      have hgd : (gAr G ++ [(f, t, jI S 82 28, vs)]).getD i (0, 0, 0, []) = if i < na then (gAr G).getD i (0, 0, 0, []) else if i = na then (f, t, jI S 82 28, vs) else (0, 0, 0, []) := by rw [getD_appG, hna]
      unfold arAt vlAt
      rw [gA 87 (by decide) (by decide) (by decide), gA 88 (by decide) (by decide) (by decide), gA 89 (by decide) (by decide) (by decide), gA 93 (by decide) (by decide) (by decide), gA 94 (by decide) (by decide) (by decide), gA 95 (by decide) (by decide) (by decide), aT 87 (by decide), aT 88 (by decide), aT 89 (by decide), v87, v88, v89, getD_set, getD_set, getD_set]
      by_cases ei : i = na
      · rw [hgd, ei, if_neg (show ¬ na < na by omega), if_pos (show na = na from rfl), if_pos (show (40 + na = 40 + na ∧ 40 + na < (jA S 87).length) from ⟨rfl, by omega⟩), if_pos (show (40 + na = 40 + na ∧ 40 + na < (jA S 88).length) from ⟨rfl, by omega⟩), if_pos (show (40 + na = 40 + na ∧ 40 + na < (jA S 89).length) from ⟨rfl, by omega⟩)]
        exact ⟨⟨rfl, rfl, rfl, fun c hc => vT c hc⟩, hvs⟩
      · rw [hgd, if_pos (show i < na by omega), if_neg (show ¬ (40 + i = 40 + na ∧ 40 + na < (jA S 87).length) by omega), if_neg (show ¬ (40 + i = 40 + na ∧ 40 + na < (jA S 88).length) by omega), if_neg (show ¬ (40 + i = 40 + na ∧ 40 + na < (jA S 89).length) by omega)]
        obtain ⟨⟨w1, w2, w3, w4⟩, w5⟩ := h4.2.2 i (by omega)
        refine ⟨⟨w1, w2, w3, fun c hc => ?_⟩, w5⟩
        obtain ⟨y1, y2, y3, y4⟩ := w4 c hc
        rw [(sT _ (by omega)).1, (sT _ (by omega)).2, hX 93 (by decide) (by decide) (by decide), hX 94 (by decide) (by decide) (by decide)]
        refine ⟨y1, y2, nmAt_eq y3 (fun j j1 j2 => ?_), y4⟩
        rw [tT j (by omega), hX 95 (by decide) (by decide) (by decide)]
    · rw [fA 96 (by decide) (by decide) (by decide) (by decide) (by decide) (by decide) (by decide) (by decide) (by decide)]; exact h6
    · exact mCt_eq h7 (fI 35) (fA _ (by decide) (by decide) (by decide) (by decide) (by decide) (by decide) (by decide) (by decide) (by decide)) (fA _ (by decide) (by decide) (by decide) (by decide) (by decide) (by decide) (by decide) (by decide) (by decide))
    · rw [fI 38, h8, hw]; rfl
end MLY
