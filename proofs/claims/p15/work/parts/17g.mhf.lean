section MHF
variable {S S' S'' : iS} {L : List Int}
theorem s7_109 (u : uM S) (hE : isE (mRs S)) {l1 l2 : Int} : ∃ T, j_X7_readHead_109 l1 l2 S = j_X7_readHead_163 l1 (hd (skb (mRs S))) (kdS (hd (skb (mRs S)))) T ∧ uM T ∧ mRs T = skb (mRs S) ∧ (∃ p, T = kI S 82 27 p) := by
  obtain ⟨p, e1, m1, p1, p2, p3⟩ := e7_blanks u.1
  have u1 := uM_at u p1 (p2 u.2.2)
  refine ⟨kI S 82 27 p, ?_, u1, m1, p, rfl⟩
  unfold j_X7_readHead_109
  rw [e7_endedT u.1 hE, Option.bind_some, e1, Option.bind_some, e7_here u1.1, Option.bind_some, m1]
  dsimp only
  unfold kdS
  by_cases c0 : hd (skb (mRs S)) = 119
  · rw [if_pos c0]; exact ie (nn c0) rfl
  rw [if_neg c0]
  by_cases c1 : hd (skb (mRs S)) = 100
  · rw [if_pos c1]; exact it c0 (ie (nn c1) rfl)
  rw [if_neg c1]
  by_cases c2 : hd (skb (mRs S)) = 116
  · rw [if_pos c2]; exact it c0 (it c1 (ie (nn c2) rfl))
  rw [if_neg c2]
  by_cases c3 : hd (skb (mRs S)) = 103
  · rw [if_pos c3]; exact it c0 (it c1 (it c2 (ie (nn c3) rfl)))
  rw [if_neg c3]
  exact it c0 (it c1 (it c2 (it c3 rfl)))
theorem kdS_b {c : Int} (h : kdS c ≠ -1) : 0 ≤ kdS c ∧ kdS c ≤ 3 ∧ c ≠ -1 := by
  unfold kdS at h ⊢
  by_cases c0 : c = 119
  · rw [if_pos c0]; omega
  rw [if_neg c0] at h ⊢
  by_cases c1 : c = 100
  · rw [if_pos c1]; omega
  rw [if_neg c1] at h ⊢
  by_cases c2 : c = 116
  · rw [if_pos c2]; omega
  rw [if_neg c2] at h ⊢
  by_cases c3 : c = 103
  · rw [if_pos c3]; omega
  rw [if_neg c3] at h
  exact absurd rfl h
/-- a HEAD is laid -/
theorem s7_178 {G : gT} (u : uM S) (hg : mG S G) (hli : (gLi G).length ≤ 600) (hh : (gHe G).length < 3) (hwa : gAr G = []) {a : List Int} (hn : nmd S a) {l1 l2 k : Int} (hk0 : 0 ≤ k) (hk3 : k ≤ 3) (hc : hd (mRs S) ≠ -1) : ∃ S', j_X7_readHead_178 l1 l2 k S = some S' ∧ lo S S' ∧ rL (if isE (mRs S).tail then some ((G.1, gHe G ++ [(a, k)], G.2.2.1, G.2.2.2.1, gLi G ++ [2], G.2.2.2.2.2), (mRs S).tail) else none) S' (fun q : gT × List Int => mG S' q.1 ∧ mRs S' = q.2) := by
  have a1 := u.1.2.2.1
  have a2 := u.1.2.2.2.1
  have a3 := u.2.2
  have hlt := uM_lt u hc
  have u1 := uM_step u hc
  have m1 := mRs_step u.1
  have h8 := nmd_le hn
  unfold j_X7_readHead_178 j_X7_readHead_248
  rw [show ∀ X : Option iS, (if rg (jI S 82 27 + 1) then X else none) = X from fun X => it ⟨by omega, by omega⟩ rfl]
  by_cases hE : isE (mRs S).tail
  · rw [if_pos hE, e7_endedT u1.1 (by rw [m1]; exact hE), Option.bind_some]
    have hn1 : nmd (kI S 82 27 (jI S 82 27 + 1)) a := hn
    obtain ⟨h1, h2, h3, h4, h5, h6, h7, h8'⟩ := (show mG (kI S 82 27 (jI S 82 27 + 1)) G from ⟨hg.1, hg.2.1, hg.2.2.1, hg.2.2.2.1, hg.2.2.2.2.1, hg.2.2.2.2.2.1, mCt_eq hg.2.2.2.2.2.2.1 (jI_ne (.inr (by decide))) rfl rfl, (jI_ne (.inr (by decide))).trans hg.2.2.2.2.2.2.2⟩)
    have lo0 : lo S (kI S 82 27 (jI S 82 27 + 1)) := lo_kI (by omega)
    generalize kI S 82 27 (jI S 82 27 + 1) = T at *
    have l90 : (jA T 90).length = 2 := u1.1.1 90
    have l91 : (jA T 91).length = 6 := u1.1.1 91
    have l92 : (jA T 92).length = 54 := u1.1.1 92
    have c90 := h2.1
    obtain ⟨L, eL, lL, oL, nL⟩ := e7_lay u1.1.1 hn1 (a := 92) (p := 27 + 9 * (gHe G).length) (by decide) (by omega)
    have z1 : zS (kA T 92 L) := zS_kA u1.1.1 (by rw [lL]; exact u1.1.1 92)
    have z2 : zS (kA (kA T 92 L) 91 ((jA T 91).set (3 + (gHe G).length) k)) := zS_kA z1 (by rw [List.length_set]; exact u1.1.1 91)
    have z3 : zS (kA (kA (kA T 92 L) 91 ((jA T 91).set (3 + (gHe G).length) k)) 90 ((jA T 90).set 1 ((gHe G).length + 1))) := zS_kA z2 (by rw [List.length_set]; exact u1.1.1 90)
    have lo1 : lo T (kA (kA (kA T 92 L) 91 ((jA T 91).set (3 + (gHe G).length) k)) 90 ((jA T 90).set 1 ((gHe G).length + 1))) := by
      refine lo_trans (lo_kA (by omega) (fun i hi => oL i (.inl ?_))) (lo_trans (lo_kA (by omega) (fun i hi => ?_)) (lo_kA (by omega) (fun i hi => ?_)))
      · rw [show lw 92 = 27 from rfl] at hi; omega
      · rw [show lw 91 = 3 from rfl] at hi; rw [getD_set, if_neg (by omega), jA_ne (by decide)]
      · rw [show lw 90 = 1 from rfl] at hi; rw [getD_set, if_neg (by omega), jA_ne (by decide), jA_ne (by decide)]
    generalize hV : kA (kA (kA T 92 L) 91 ((jA T 91).set (3 + (gHe G).length) k)) 90 ((jA T 90).set 1 ((gHe G).length + 1)) = V at z3 lo1
    have vA : ∀ b, b ≠ 92 → b ≠ 91 → b ≠ 90 → jA V b = jA T b := fun b b1 b2 b3 => by subst hV; rw [jA_ne b3, jA_ne b2, jA_ne b1]
    have v90 : jA V 90 = (jA T 90).set 1 ((gHe G).length + 1) := by subst hV; rw [jA_eq]
    have v91 : jA V 91 = (jA T 91).set (3 + (gHe G).length) k := by subst hV; rw [jA_ne (by decide), jA_eq]
    have v92 : jA V 92 = L := by subst hV; rw [jA_ne (by decide), jA_ne (by decide), jA_eq]
    have uV : uM V := by subst hV; exact uM_kA (uM_kA (uM_kA u1 z1) z2) z3
    have mV : mRs V = (mRs S).tail := by subst hV; rw [mRs_kA (by decide), mRs_kA (by decide), mRs_kA (by decide)]; exact m1
    have iV : ∀ f, jI V 82 f = jI T 82 f := fun f => by subst hV; rfl
    have l5 : mLi V (gLi G) := mLi_eq h5 (vA _ (by decide) (by decide) (by decide)) (vA _ (by decide) (by decide) (by decide))
    obtain ⟨L1, L2, e3, g3, lo3, z4⟩ := e7_laySort z3 l5 hli (k := 3)
    have zz : zS (kA V 100 L1) := zS_kA z3 (by
      have := z4 100
      rw [jA_ne (by decide), jA_eq] at this
      exact this)
    have fA : ∀ b, b ≠ 92 → b ≠ 91 → b ≠ 90 → b ≠ 100 → b ≠ 99 → jA (kA (kA V 100 L1) 99 L2) b = jA T b := fun b b1 b2 b3 b4 b5 => by rw [jA_ne b5, jA_ne b4]; exact vA b b1 b2 b3
    have gA : ∀ b, b ≠ 100 → b ≠ 99 → jA (kA (kA V 100 L1) 99 L2) b = jA V b := fun b b4 b5 => by rw [jA_ne b5, jA_ne b4]
    refine ⟨kA (kA V 100 L1) 99 L2, ie (nn u1.2.1) ?_, lo_trans lo0 (lo_trans lo1 lo3), uM_kA (uM_kA uV zz) z4, ⟨?_, ?_, ?_, ?_, g3, ?_, ?_, ?_⟩, by rw [mRs_kA (by decide), mRs_kA (by decide)]; exact mV⟩
    · rw [c90, show (27 : Int) + 9 * ((gHe G).length : Int) = ((27 + 9 * (gHe G).length : Nat) : Int) by omega]
      refine it (by omega) (it ⟨by omega, by omega⟩ (it ⟨by omega, by omega⟩ ?_))
      rw [eL, Option.bind_some, jA_ne (by decide), jA_ne (by decide), c90, show ((3 : Int) + ((gHe G).length : Int)).toNat = 3 + (gHe G).length by omega]
      refine it (by omega) (it ⟨by omega, by omega⟩ (it ⟨by omega, by omega⟩ (it ⟨by omega, by omega⟩ ?_)))
      rw [hV, e3]
      rfl
    · exact mNo_eq h1 (fA _ (by decide) (by decide) (by decide) (by decide) (by decide)) (fA _ (by decide) (by decide) (by decide) (by decide) (by decide))
    · refine ⟨?_, ?_, fun i hi => ?_⟩
      · rw [gA 90 (by decide) (by decide), v90, getD_set, if_pos ⟨rfl, by omega⟩]
        show _ = (((gHe G ++ [(a, k)]).length : Nat) : Int)
        rw [List.length_append]; rfl
      · show (gHe G ++ [(a, k)]).length ≤ 3
        rw [List.length_append, List.length_singleton]; omega
      · have hi' : i < (gHe G).length + 1 := by
          have : i < (gHe G ++ [(a, k)]).length := hi
          rw [List.length_append, List.length_singleton] at this
          exact this
        show nmAt _ _ ((gHe G ++ [(a, k)]).getD i ([], 0)).1 ∧ ((gHe G ++ [(a, k)]).getD i ([], 0)).1.length ≤ 8 ∧ _ = ((gHe G ++ [(a, k)]).getD i ([], 0)).2 ∧ 0 ≤ ((gHe G ++ [(a, k)]).getD i ([], 0)).2 ∧ ((gHe G ++ [(a, k)]).getD i ([], 0)).2 ≤ 3
        rw [gA 92 (by decide) (by decide), gA 91 (by decide) (by decide), v92, v91, getD_appG, getD_set]
        by_cases ei : i = (gHe G).length
        · rw [if_neg (by omega), if_pos ei, ei, if_pos ⟨rfl, by omega⟩]
          exact ⟨nL, h8, rfl, hk0, hk3⟩
        · rw [if_pos (by omega), if_neg (by omega)]
          obtain ⟨o1, o2, o3, o4, o5⟩ := h2.2.2 i (by omega)
          exact ⟨nmAt_eq o1 (fun j j1 j2 => oL j (.inl (by omega))), o2, o3, o4, o5⟩
    · exact mCo_eq h3 (fA _ (by decide) (by decide) (by decide) (by decide) (by decide)) (fA _ (by decide) (by decide) (by decide) (by decide) (by decide))
    · have := mAr_eq h4 (fA _ (by decide) (by decide) (by decide) (by decide) (by decide)) (fA _ (by decide) (by decide) (by decide) (by decide) (by decide)) (fA _ (by decide) (by decide) (by decide) (by decide) (by decide)) (fA _ (by decide) (by decide) (by decide) (by decide) (by decide)) (fA _ (by decide) (by decide) (by decide) (by decide) (by decide)) (fA _ (by decide) (by decide) (by decide) (by decide) (by decide)) (fA _ (by decide) (by decide) (by decide) (by decide) (by decide))
      show mAr _ (gHe G ++ [(a, k)]).length (gAr G)
      rw [hwa] at this ⊢
      exact ⟨this.1, this.2.1, fun i hi => absurd hi (Nat.not_lt_zero _)⟩
    · rw [fA 96 (by decide) (by decide) (by decide) (by decide) (by decide)]; exact h6
    · exact mCt_eq h7 (iV 35) (fA _ (by decide) (by decide) (by decide) (by decide) (by decide)) (fA _ (by decide) (by decide) (by decide) (by decide) (by decide))
    · exact (iV 38).trans h8'
  · rw [if_neg hE, e7_endedW u1.1 u1.2.1 (by rw [m1]; exact hE), Option.bind_some]
    refine ⟨_, it (show ¬ (1 : Int) = 0 by decide) rfl, lo_trans (lo_kI (by omega)) (lo_trans (lo_kI (by omega)) (lo_kI (by omega))), ?_⟩
    exact vM_L (vM_w' u1.1 (by decide) (by rw [jI_eq]; omega) (by rw [jI_eq]; omega) (by rw [jI_eq]; omega))
theorem e7_head {G : gT} (u : uM S) (hh : hd (mRs S) ≠ -1) (hg : mG S G) (hli : (gLi G).length ≤ 600) (hwa : gWa G = false → gAr G = []) : ∃ S', j_X7_readHead S = some S' ∧ lo S S' ∧ rL (heP G (mRs S)) S' (fun q => mG S' q.1 ∧ mRs S' = q.2) := by
  have a1 := u.1.2.2.1
  have a2 := u.1.2.2.2.1
  have a3 := u.2.2
  have hlt := uM_lt u hh
  have l90 : (jA S 90).length = 2 := u.1.1 90
  have c90 := hg.2.1.1
  have c3 := hg.2.1.2.1
  have c38 := hg.2.2.2.2.2.2.2
  unfold j_X7_readHead j_X7_readHead_0 heP
  by_cases hord : gWa G = true ∨ 3 ≤ (gHe G).length
  · rw [if_pos hord]
    have v1 : vM (kI (kI (kI S 82 30 4) 82 31 (jI S 82 27)) 82 27 (jI S 82 27 + 1)) := vM_w u.1 (by decide) (by omega) (by omega) (by omega) (by omega)
    obtain ⟨p, e1, v2⟩ := v7_blanks v1
    obtain ⟨S', e2, lo2, v3⟩ := v7_62 v2 (n := 19999) (l1 := p) (l2 := 0)
    refine ⟨S', ?_, lo_trans (lo_trans (lo_trans (lo_trans (lo_kI (by omega)) (lo_kI (by omega))) (lo_kI (by omega))) (lo_kI (by omega))) lo2, v3⟩
    have e17 : j_X7_readHead_17 S = some S' := by
      unfold j_X7_readHead_17 j_X7_readHead_26 j_X7_readHead_60
      rw [e7_wrong0 u.2.1, Option.bind_some]
      refine it (show rg (jI S 82 27 + 1) from ⟨by omega, by omega⟩) ?_
      show (j_X7_ended (kI (kI (kI S 82 30 4) 82 31 (jI S 82 27)) 82 27 (jI S 82 27 + 1))).bind _ = _
      rw [e7_endedF v1.2.1, Option.bind_some, e1, Option.bind_some]
      exact it v2.2.1 e2
    by_cases hw : gWa G = true
    · rw [if_pos hw] at c38
      exact it (by omega) e17
    · rw [if_neg hw] at c38
      refine ie (nn (by omega)) (it (by omega) (ie (nn ?_) e17))
      rw [c90]
      rcases hord with h | h
      · exact absurd h hw
      · omega
  · rw [if_neg hord]
    have hw : gWa G = false := by
      cases h : gWa G with
      | false => rfl
      | true => exact absurd (.inl h) hord
    have hh3 : (gHe G).length < 3 := by
      have : ¬ 3 ≤ (gHe G).length := fun q => hord (.inr q)
      omega
    rw [hw, if_neg (by decide)] at c38
    have u1 := uM_step u hh
    have m1 := mRs_step u.1
    have f1 : fr FN RN S (kI S 82 27 (jI S 82 27 + 1)) := fr_kI (by omega)
    have hstart : ∀ X, ((j_X7_ended (kI S 82 27 ((jI S 82 27) + (1 : Int)))).bind fun qx1 => ((j_X7_blanks qx1).bind fun qx2 => (if ¬ (jI qx2 82 30) = (0 : Int) then (j_X7_readHead_60 (jI qx2 82 27) qx2) else ((j_X7_readName qx2).bind fun qx3 => (j_X7_readHead_60 (jI qx2 82 27) qx3))))) = X → (if ¬ (jI S 82 38) = (0 : Int) then (j_X7_readHead_17 S) else (if 1 < (jA S 90).length then (if ¬ ((jA S 90).getD 1 0) = (3 : Int) then (j_X7_readHead_26 S) else (j_X7_readHead_17 S)) else none)) = X := by
      intro X hX
      refine ie (nn c38) (it (by omega) (it (by rw [c90]; omega) ?_))
      unfold j_X7_readHead_26
      exact it ⟨by omega, by omega⟩ hX
    have i27 : jI (kI S 82 27 (jI S 82 27 + 1)) 82 27 = jI S 82 27 + 1 := jI_eq
    have i2 : jI (kI S 82 27 (jI S 82 27 + 1)) 82 2 = jI S 82 2 := jI_ne (.inr (by decide))
    generalize kI S 82 27 (jI S 82 27 + 1) = T at *
    by_cases hE : isE (mRs T)
    · obtain ⟨p, e1, m2, p1, p2, p3⟩ := e7_blanks u1.1
      have u2 := uM_at u1 p1 (p2 u1.2.2)
      have hp6 : p ≤ 600 := by have := p2 u1.2.2; omega
      obtain ⟨S3, e3, f3, n3, r3⟩ := e7_name u2
      rw [m2, m1] at r3
      have fS3 : fr FN RN S S3 := fr_trans f1 (fr_trans (fr_kI (by omega)) f3)
      have hg3 := mG_fr hg fS3 (by decide) (by decide) (fun a q => by omega) (by decide)
      have lo3 := lo_FN fS3
      have h60 : ∀ X, j_X7_readHead_62 (19999 + 1) p 0 S3 = X → ((j_X7_ended T).bind fun qx1 => ((j_X7_blanks qx1).bind fun qx2 => (if ¬ (jI qx2 82 30) = (0 : Int) then (j_X7_readHead_60 (jI qx2 82 27) qx2) else ((j_X7_readName qx2).bind fun qx3 => (j_X7_readHead_60 (jI qx2 82 27) qx3))))) = X := by
        intro X hX
        rw [e7_endedT u1.1 hE, Option.bind_some, e1, Option.bind_some]
        refine ie (nn u2.2.1) ?_
        rw [e3, Option.bind_some, jI_eq]
        exact hX
      cases hq : enE (nmS (skb (mRs S).tail)) with
      | none =>
        rw [hq] at r3
        obtain ⟨S', e4, lo4, v4⟩ := v7_62 r3 (n := 19999) (l1 := p) (l2 := 0)
        refine ⟨S', hstart _ (h60 _ e4), lo_trans lo3 lo4, ?_⟩
        have hnone : ((gpS (mRs S).tail).bind fun r1 => (nmS r1).bind fun a => if a.1 ∈ (gHe G).map (fun h => h.1) then none else (gpS a.2).bind fun r2 => if kdS (hd r2) = -1 then none else if isE r2.tail then some (((G.1, gHe G ++ [(a.1, kdS (hd r2))], G.2.2.1, G.2.2.2.1, gLi G ++ [2], G.2.2.2.2.2) : gT), r2.tail) else none) = none := by
          cases h1 : gpS (mRs S).tail with
          | none => rfl
          | some r1 =>
            have er : r1 = skb (mRs S).tail := by
              unfold gpS at h1
              by_cases h32 : hd (mRs S).tail = 32
              · rw [if_pos h32] at h1; exact (Option.some.inj h1).symm
              · rw [if_neg h32] at h1; cases h1
            rw [Option.bind_some, er]
            cases h2 : nmS (skb (mRs S).tail) with
            | none => rfl
            | some a =>
              rw [h2, enE_some] at hq
              have hEa : ¬ isE a.2 := fun q => by rw [if_pos q] at hq; cases hq
              rw [Option.bind_some]
              by_cases hm : a.1 ∈ (gHe G).map (fun h => h.1)
              · rw [if_pos hm]
              · rw [if_neg hm, gpS, if_neg (fun q => hEa (.inl q))]; rfl
        rw [hnone]
        exact v4
      | some a =>
        rw [hq] at r3
        obtain ⟨u3, na, ma⟩ := r3
        have hna : nmS (skb (mRs S).tail) = some a ∧ isE a.2 := by
          cases h2 : nmS (skb (mRs S).tail) with
          | none => rw [h2] at hq; cases hq
          | some b =>
            rw [h2, enE_some] at hq
            by_cases hEb : isE b.2
            · rw [if_pos hEb] at hq
              cases hq
              exact ⟨rfl, hEb⟩
            · rw [if_neg hEb] at hq; cases hq
        have h32 : hd (mRs S).tail = 32 := by
          rw [m1] at hE
          rcases hE with h | h
          · exact h
          · exfalso
            have := hna.1
            rw [skb_e (by omega), nmS, if_neg (by omega), if_neg (by omega)] at this
            cases this
        rw [gpS, if_pos h32, Option.bind_some, hna.1, Option.bind_some]
        obtain ⟨i1, i2'⟩ := l7_he u3 na hg3.2.1 (l1 := p) (gHe G).length (19999 + 1) 0 (by omega) (by omega)
        rw [List.drop_zero] at i1 i2'
        by_cases hm : a.1 ∈ (gHe G).map (fun h => h.1)
        · rw [if_pos hm]
          obtain ⟨n', c, e4⟩ := i2' hm
          have v3 : vM (kI (kI S3 82 30 4) 82 31 p) := vM_w' u3.1 (by decide) (by omega) (by omega) (by have := u3.2.2; have := u3.1.2.2.1; omega)
          obtain ⟨S', e5, lo5, v5⟩ := v7_62 v3 (n := n') (l1 := p) (l2 := c)
          exact ⟨S', hstart _ (h60 _ (e4.trans e5)), lo_trans lo3 (lo_trans (lo_trans (lo_kI (by omega)) (lo_kI (by omega))) lo5), v5⟩
        · rw [if_neg hm]
          obtain ⟨T4, e4, u4, m4, p4, hT4⟩ := s7_109 u3 (by rw [ma]; exact hna.2) (l1 := p) (l2 := (gHe G).length)
          rw [ma] at e4 m4
          have e5 := h60 _ ((i1 hm).trans e4)
          have f4 : fr FN RN S T4 := by subst hT4; exact fr_trans fS3 (fr_kI (by omega))
          have hg4 := mG_fr hg f4 (by decide) (by decide) (fun a q => by omega) (by decide)
          have n4 : nmd T4 a.1 := by subst hT4; exact na
          have hfail : vM (kI (kI T4 82 30 1) 82 31 (jI T4 82 27)) := vM_w' u4.1 (by decide) u4.1.2.2.2.1 (by have := u4.2.2; have := u4.1.2.2.1; omega) (by have := u4.2.2; have := u4.1.2.2.1; omega)
          by_cases hk : kdS (hd (skb a.2)) = -1
          · obtain ⟨S', e6, lo6, v6⟩ := v7_178 hfail (l1 := p) (l2 := hd (skb a.2)) (l3 := -1)
            have e178 : j_X7_readHead_178 p (hd (skb a.2)) (-1) (kI (kI T4 82 30 1) 82 31 (jI T4 82 27)) = some S' := by
              unfold j_X7_readHead_163 at e6
              rw [if_neg (nn rfl), e7_wrong1 hfail.2.1, Option.bind_some] at e6
              exact e6
            refine ⟨S', hstart _ (e5.trans ?_), lo_trans (lo_FN f4) (lo_trans (lo_trans (lo_kI (by omega)) (lo_kI (by omega))) lo6), ?_⟩
            · unfold j_X7_readHead_163
              rw [hk]
              refine ie (nn rfl) ?_
              rw [e7_wrong0 u4.2.1, Option.bind_some]
              exact e178
            · have hnone : ((gpS a.2).bind fun r2 => if kdS (hd r2) = -1 then none else if isE r2.tail then some (((G.1, gHe G ++ [(a.1, kdS (hd r2))], G.2.2.1, G.2.2.2.1, gLi G ++ [2], G.2.2.2.2.2) : gT), r2.tail) else none) = none := by
                unfold gpS
                by_cases h : hd a.2 = 32
                · rw [if_pos h, Option.bind_some, if_pos hk]
                · rw [if_neg h]; rfl
              rw [hnone]
              exact v6
          · obtain ⟨k0, k3, kc⟩ := kdS_b hk
            have ha32 : hd a.2 = 32 := by
              rcases hna.2 with h | h
              · exact h
              · exfalso
                rw [skb_e (by omega)] at kc
                exact kc h
            rw [gpS, if_pos ha32, Option.bind_some, if_neg hk]
            obtain ⟨S', e6, lo6, r6⟩ := s7_178 u4 hg4 hli hh3 (hwa hw) n4 (l1 := p) (l2 := hd (skb a.2)) k0 k3 (by rw [m4]; exact kc)
            rw [m4] at r6
            refine ⟨S', hstart _ (e5.trans ?_), lo_trans (lo_FN f4) lo6, r6⟩
            unfold j_X7_readHead_163
            exact it hk e6
    · have v1 : vM (kI (kI T 82 30 1) 82 31 (jI T 82 27)) := vM_w' u1.1 (by decide) (by omega) (by omega) (by omega)
      obtain ⟨p, e1, v2⟩ := v7_blanks v1
      obtain ⟨S', e2, lo2, v3⟩ := v7_62 v2 (n := 19999) (l1 := p) (l2 := 0)
      refine ⟨S', hstart _ ?_, lo_trans (lo_FN f1) (lo_trans (lo_trans (lo_trans (lo_kI (by omega)) (lo_kI (by omega))) (lo_kI (by omega))) lo2), ?_⟩
      · rw [e7_endedW u1.1 u1.2.1 hE, Option.bind_some, e1, Option.bind_some]
        refine it v2.2.1 ?_
        unfold j_X7_readHead_60
        rw [jI_eq]
        exact e2
      · rw [m1] at hE
        rw [gpS, if_neg (fun q => hE (.inl q))]
        exact v3
end MHF
