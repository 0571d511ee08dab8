section MCT
variable {S S' S'' : iS} {L : List Int}
theorem skb_e {r : List Int} (h : hd r ≠ 32) : skb r = r := by
  cases r with
  | nil => rfl
  | cons c r =>
    rw [skb, if_neg]
    intro e
    apply h
    rw [hd_def, e]
    rfl
theorem leS_E {r r3 : List Int} (h : leS r = some r3) : isE r := by
  unfold leS at h
  by_cases e : hd r = 32
  · exact .inl e
  · rw [skb_e e] at h
    by_cases e' : hd r = -1
    · exact .inr e'
    · rw [if_neg e'] at h; cases h
theorem l7_ct {r33 : Int → iS → Option iS} {l1 : Int} : ∀ (k n : Nat) (S : iS) (l2 v : Int), uM S → l2 + k = 2 → 0 ≤ l2 → k + 1 < n → 0 ≤ v → v ≤ 99 → (k = 2 → v = 0) → (k = 1 → v ≤ 9) → ∃ S1 c' v', j_X7_readCount_96 r33 n l1 l2 v S = j_X7_readCount_156 r33 l1 c' v' S1 ∧ fr FN (fun _ => False) S S1 ∧ 0 ≤ v' ∧ v' ≤ 1000 ∧ rs (fgK k (mRs S)) S1 (fun q => mRs S1 = q.2 ∧ v' = dvF v q.1) := by
  intro k
  induction k with
  | zero =>
    intro n S l2 v u hk hl2 hn v0 v1 _ _
    obtain ⟨m, rfl⟩ : ∃ m, n = m + 2 := ⟨n - 2, by omega⟩
    have a1 := u.1.2.2.1
    have a2 := u.1.2.2.2.1
    have a3 := u.2.2
    rw [j_X7_readCount_96]
    by_cases h : isFig (hd (mRs S))
    · have hlt := uM_lt u (by omega)
      have w1 : wM (kI (kI S 82 30 2) 82 31 (jI S 82 27)) := (vM_w' u.1 (by decide) (by omega) (by omega) (by omega) : vM _).1
      have m1 : mRs (kI (kI S 82 30 2) 82 31 (jI S 82 27)) = mRs S := rfl
      refine ⟨kI (kI (kI S 82 30 2) 82 31 (jI S 82 27)) 82 27 (jI S 82 27 + 1), l2 + 1, 10 * v + hd (mRs S) - 48, ie (nn u.2.1) ?_, fr_trans (fr_w (by omega) (by omega)) (fr_kI (by omega)), by omega, by omega, ?_⟩
      · rw [e7_here u.1, Option.bind_some, e7_fig, Option.bind_some]
        refine ie (bi_n h) (ie (nn (by omega)) ?_)
        dsimp only
        rw [e7_wrong0 u.2.1, Option.bind_some]
        unfold j_X7_readCount_127
        rw [e7_here w1, Option.bind_some, m1]
        dsimp only
        refine it ⟨by omega, by omega⟩ (it ⟨by omega, by omega⟩ (it ⟨by omega, by omega⟩ (it ⟨by omega, by omega⟩ (it (show rg (jI S 82 27 + 1) from ⟨by omega, by omega⟩) ?_))))
        rw [j_X7_readCount_96]
        exact it (show ¬ (2 : Int) = 0 by decide) rfl
      · rw [fgK, if_pos h]
        exact vM_w u.1 (by decide) (by omega) (by omega) (by omega) (by omega)
    · refine ⟨S, l2, v, ie (nn u.2.1) ?_, fr_refl, v0, by omega, ?_⟩
      · rw [e7_here u.1, Option.bind_some, e7_fig, Option.bind_some]
        exact it (bi_0.mpr h) rfl
      · rw [fgK_n h]
        exact ⟨u, rfl, rfl⟩
  | succ k ih =>
    intro n S l2 v u hk hl2 hn v0 v1 k2 k1
    obtain ⟨m, rfl⟩ : ∃ m, n = m + 2 := ⟨n - 2, by omega⟩
    have a1 := u.1.2.2.1
    have a2 := u.1.2.2.2.1
    have a3 := u.2.2
    rw [j_X7_readCount_96]
    by_cases h : isFig (hd (mRs S))
    · have u1 := uM_step u (by omega)
      have m1 := mRs_step u.1
      have hv : v ≤ 9 := by
        by_cases e : k = 0
        · exact k1 (by omega)
        · have := k2 (by omega); omega
      obtain ⟨S1, c', v', e, f, v2, v3, r⟩ := ih (m + 1) _ (l2 + 1) (10 * v + (hd (mRs S) - 48)) u1 (by omega) (by omega) (by omega) (by omega) (by omega) (fun q => by omega) (fun q => by have := k2 (by omega); omega)
      rw [m1] at r
      refine ⟨S1, c', v', ie (nn u.2.1) ?_, fr_trans (fr_kI (by omega)) f, v2, v3, ?_⟩
      · rw [e7_here u.1, Option.bind_some, e7_fig, Option.bind_some]
        refine ie (bi_n h) (it (by omega) ?_)
        unfold j_X7_readCount_127
        dsimp only
        rw [e7_here u.1, Option.bind_some]
        dsimp only
        refine it ⟨by omega, by omega⟩ (it ⟨by omega, by omega⟩ (it ⟨by omega, by omega⟩ (it ⟨by omega, by omega⟩ (it ⟨by omega, by omega⟩ ?_))))
        rw [show 10 * v + hd (mRs S) - 48 = 10 * v + (hd (mRs S) - 48) by omega]
        exact e
      · rw [fgK, if_pos h]
        exact rs_map (rs_mono r fun q _ hq => hq)
    · refine ⟨S, l2, v, ie (nn u.2.1) ?_, fr_refl, v0, by omega, ?_⟩
      · rw [e7_here u.1, Option.bind_some, e7_fig, Option.bind_some]
        exact it (bi_0.mpr h) rfl
      · rw [fgK_n h]
        exact ⟨u, rfl, rfl⟩
abbrev RC (a : Nat) : Prop := a = 101 ∨ a = 104 ∨ a = 105
/-- one NUMBER of the COUNT, with what stands ahead of it -/
theorem c7_it {n k : Nat} (hk : k < 2) (u : uM S) : ∃ S1, j_X7_readCount_33 (n + 1) k S = j_X7_readCount_33 n ((k : Int) + 1) S1 ∧ fr FN RC S S1 ∧ zS S1 ∧ (∀ i, i ≠ 2 + k → (jA S1 101).getD i 0 = (jA S 101).getD i 0) ∧ (∀ i, i ≠ k → (jA S1 104).getD i 0 = (jA S 104).getD i 0) ∧ 0 ≤ (jA S1 104).getD k 0 ∧ (jA S1 104).getD k 0 ≤ 600 ∧ rs ((gpS (mRs S)).bind nuS) S1 (fun q => mRs S1 = q.2 ∧ (jA S1 101).getD (2 + k) 0 = q.1) := by
  have a1 := u.1.2.2.1
  have a2 := u.1.2.2.2.1
  have a3 := u.2.2
  -- behind the blanks, both roads
  have tail : ∀ (V : iS) (p : Int), wM V → fr FN (fun _ => False) S V → jI V 82 27 = p → 0 ≤ p → p ≤ 600 → ∃ T, zS T ∧ fr FN RC S T ∧ (∀ i, (jA T 101).getD i 0 = (jA S 101).getD i 0) ∧ (∀ i, i ≠ k → (jA T 104).getD i 0 = (jA S 104).getD i 0) ∧ (jA T 104).getD k 0 = p ∧ jI T = jI V ∧ mRs T = mRs V ∧ (∀ X, ((j_X7_here T).bind fun qx3 => ((j_X7_isFigure qx3.1 qx3.2).bind fun qx4 => (if ¬ qx4.1 = (0 : Int) then (j_X7_readCount_96 (fun l1' S' => j_X7_readCount_33 n l1' S') fuel k (0 : Int) (0 : Int) qx4.2) else ((j_X7_wrong (1 : Int) (jI qx4.2 82 27) qx4.2).bind fun qx5 => (j_X7_readCount_96 (fun l1' S' => j_X7_readCount_33 n l1' S') fuel k (0 : Int) (0 : Int) qx5))))) = X → (if (0 ≤ (k : Int) ∧ (k : Int) < (jA V 104).length) then (if (0 ≤ (k : Int) ∧ (k : Int) < (jA V 105).length) then ((j_X7_here (kA (kA V 104 ((jA V 104).set ((k : Int)).toNat (jI V 82 27))) 105 ((jA V 105).set ((k : Int)).toNat (jI V 82 28)))).bind fun qx3 => ((j_X7_isFigure qx3.1 qx3.2).bind fun qx4 => (if ¬ qx4.1 = (0 : Int) then (j_X7_readCount_96 (fun l1' S' => j_X7_readCount_33 n l1' S') fuel k (0 : Int) (0 : Int) qx4.2) else ((j_X7_wrong (1 : Int) (jI qx4.2 82 27) qx4.2).bind fun qx5 => (j_X7_readCount_96 (fun l1' S' => j_X7_readCount_33 n l1' S') fuel k (0 : Int) (0 : Int) qx5))))) else none) else none) = X) := by
    intro V p wV fV iV p0 p1
    have l104 : (jA V 104).length = 2 := wV.1 104
    have l105 : (jA V 105).length = 2 := wV.1 105
    have eA : ∀ a, jA V a = jA S a := fun a => fV.2.1 a (fun q => q)
    refine ⟨kA (kA V 104 ((jA V 104).set k (jI V 82 27))) 105 ((jA V 105).set k (jI V 82 28)), zS_kA (zS_set wV.1) (by rw [List.length_set]; exact wV.1 105), fr_trans (fr_mono fV (fun _ q => q) (fun _ q => absurd q (fun q => q))) (fr_trans (fr_kA (by omega)) (fr_kA (by omega))), fun i => ?_, fun i hi => ?_, ?_, rfl, ?_, fun X hX => ?_⟩
    · rw [jA_ne (by decide), jA_ne (by decide), eA]
    · rw [jA_ne (by decide), jA_eq, getD_set, if_neg (by omega), eA]
    · rw [jA_ne (by decide), jA_eq, getD_set, if_pos ⟨rfl, by omega⟩, iV]
    · rw [mRs_kA (by decide), mRs_kA (by decide)]
    · rw [show ((k : Int)).toNat = k by omega]
      exact it ⟨by omega, by omega⟩ (it ⟨by omega, by omega⟩ hX)
  have last : ∀ (T : iS) (c v : Int), zS T → j_X7_readCount_156 (fun l1' S' => j_X7_readCount_33 n l1' S') k c v T = j_X7_readCount_33 n ((k : Int) + 1) (kA T 101 ((jA T 101).set (2 + k) v)) := by
    intro T c v z
    have l101 : (jA T 101).length = 4 := z 101
    unfold j_X7_readCount_156
    refine it ⟨by omega, by omega⟩ (it ⟨by omega, by omega⟩ (it ⟨by omega, by omega⟩ ?_))
    rw [show ((2 : Int) + (k : Int)).toNat = 2 + k by omega]
  have fin : ∀ (T T1 : iS) (v : Int), zS T1 → fr FN RC S T → fr FN (fun _ => False) T T1 → (∀ i, (jA T 101).getD i 0 = (jA S 101).getD i 0) → (∀ i, i ≠ k → (jA T 104).getD i 0 = (jA S 104).getD i 0) → 0 ≤ (jA T 104).getD k 0 → (jA T 104).getD k 0 ≤ 600 → zS (kA T1 101 ((jA T1 101).set (2 + k) v)) ∧ fr FN RC S (kA T1 101 ((jA T1 101).set (2 + k) v)) ∧ (∀ i, i ≠ 2 + k → (jA (kA T1 101 ((jA T1 101).set (2 + k) v)) 101).getD i 0 = (jA S 101).getD i 0) ∧ (∀ i, i ≠ k → (jA (kA T1 101 ((jA T1 101).set (2 + k) v)) 104).getD i 0 = (jA S 104).getD i 0) ∧ 0 ≤ (jA (kA T1 101 ((jA T1 101).set (2 + k) v)) 104).getD k 0 ∧ (jA (kA T1 101 ((jA T1 101).set (2 + k) v)) 104).getD k 0 ≤ 600 ∧ (jA (kA T1 101 ((jA T1 101).set (2 + k) v)) 101).getD (2 + k) 0 = v := by
    intro T T1 v z1 fT f1 h101 h104 b0 b1
    have eA : ∀ a, jA T1 a = jA T a := fun a => f1.2.1 a (fun q => q)
    have l101 : (jA T1 101).length = 4 := z1 101
    refine ⟨zS_set z1, fr_trans fT (fr_trans (fr_mono f1 (fun _ q => q) (fun _ q => absurd q (fun q => q))) (fr_kA (by omega))), fun i hi => ?_, fun i hi => ?_, ?_, ?_, ?_⟩
    · rw [jA_eq, getD_set, if_neg (by omega), eA]; exact h101 i
    · rw [jA_ne (by decide), eA]; exact h104 i hi
    · rw [jA_ne (by decide), eA]; exact b0
    · rw [jA_ne (by decide), eA]; exact b1
    · rw [jA_eq, getD_set, if_pos ⟨rfl, by omega⟩]
  rw [j_X7_readCount_33]
  by_cases hE : isE (mRs S)
  · obtain ⟨p, e1, m1, p1, p2, p3⟩ := e7_blanks u.1
    have u1 := uM_at u p1 (p2 a3)
    have hp6 : p ≤ 600 := by have := p2 a3; omega
    obtain ⟨T, zT, fT, h101, h104, hp, iT, mT, key⟩ := tail (kI S 82 27 p) p u1.1 (fr_kI (by omega)) jI_eq (by omega) hp6
    have uT : uM T := by
      refine ⟨⟨zT, ?_⟩, ?_⟩
      · rw [iT]; exact u1.1.2
      · rw [iT]; exact u1.2
    rw [m1] at mT
    have hstart : ∀ X, ((j_X7_here T).bind fun qx3 => ((j_X7_isFigure qx3.1 qx3.2).bind fun qx4 => (if ¬ qx4.1 = (0 : Int) then (j_X7_readCount_96 (fun l1' S' => j_X7_readCount_33 n l1' S') fuel k (0 : Int) (0 : Int) qx4.2) else ((j_X7_wrong (1 : Int) (jI qx4.2 82 27) qx4.2).bind fun qx5 => (j_X7_readCount_96 (fun l1' S' => j_X7_readCount_33 n l1' S') fuel k (0 : Int) (0 : Int) qx5))))) = X → (if (2 : Int) ≤ (k : Int) then (j_X7_readCount_171 k S) else (if ¬ (jI S 82 30) = (0 : Int) then (j_X7_readCount_171 k S) else ((j_X7_ended S).bind fun qx1 => ((j_X7_blanks qx1).bind fun qx2 => (if (0 ≤ (k : Int) ∧ (k : Int) < (jA qx2 104).length) then (if (0 ≤ (k : Int) ∧ (k : Int) < (jA qx2 105).length) then ((j_X7_here (kA (kA qx2 104 ((jA qx2 104).set ((k : Int)).toNat (jI qx2 82 27))) 105 ((jA qx2 105).set ((k : Int)).toNat (jI qx2 82 28)))).bind fun qx3 => ((j_X7_isFigure qx3.1 qx3.2).bind fun qx4 => (if ¬ qx4.1 = (0 : Int) then (j_X7_readCount_96 (fun l1' S' => j_X7_readCount_33 n l1' S') fuel k (0 : Int) (0 : Int) qx4.2) else ((j_X7_wrong (1 : Int) (jI qx4.2 82 27) qx4.2).bind fun qx5 => (j_X7_readCount_96 (fun l1' S' => j_X7_readCount_33 n l1' S') fuel k (0 : Int) (0 : Int) qx5))))) else none) else none))))) = X := by
      intro X hX
      refine ie (by omega) (ie (nn u.2.1) ?_)
      rw [e7_endedT u.1 hE, Option.bind_some, e1, Option.bind_some]
      exact key X hX
    by_cases hf : isFig (hd (skb (mRs S)))
    · have h32 : hd (mRs S) = 32 := by
        rcases hE with h | h
        · exact h
        · rw [skb_e (by omega)] at hf; omega
      obtain ⟨S1, c', v', e2, f2, v2, v3, r2⟩ := l7_ct (r33 := fun l1' S' => j_X7_readCount_33 n l1' S') (l1 := k) 2 fuel T 0 0 uT (by decide) (by decide) (by unfold fuel; decide) (by decide) (by decide) (fun _ => rfl) (fun _ => by decide)
      rw [mT] at r2
      have hz1 : zS S1 := by
        intro a
        rw [f2.2.1 a (fun q => q)]
        exact zT a
      obtain ⟨q1, q2, q3, q4, q5, q6, q7⟩ := fin T S1 v' hz1 fT f2 h101 h104 (by omega) (by omega)
      refine ⟨_, hstart _ ?_, q2, q1, q3, q4, q5, q6, ?_⟩
      · rw [e7_here uT.1, Option.bind_some, e7_fig, Option.bind_some, mT]
        refine it (bi_n hf) ?_
        dsimp only
        rw [e2]
        exact last S1 c' v' hz1
      · rw [gpS, if_pos h32, Option.bind_some, nuS, if_pos hf]
        refine rs_map ?_
        cases hq : fgK 2 (skb (mRs S)) with
        | none =>
          rw [hq] at r2
          exact vM_kA r2 q1
        | some q =>
          rw [hq] at r2
          exact ⟨uM_kA r2.1 q1, by rw [mRs_kA (by decide)]; exact r2.2.1, by rw [q7]; exact r2.2.2⟩
    · have hvT : vM (kI (kI T 82 30 1) 82 31 (jI T 82 27)) := vM_w' uT.1 (by decide) (by have := uT.1.2.2.2.1; omega) (by have := uT.2.2; have := uT.1.2.2.1; omega) (by have := uT.2.2; have := uT.1.2.2.1; omega)
      obtain ⟨q1, q2, q3, q4, q5, q6, q7⟩ := fin T (kI (kI T 82 30 1) 82 31 (jI T 82 27)) 0 zT fT (fr_w (by omega) (by omega)) h101 h104 (by omega) (by omega)
      refine ⟨_, hstart _ ?_, q2, q1, q3, q4, q5, q6, ?_⟩
      · rw [e7_here uT.1, Option.bind_some, e7_fig, Option.bind_some, mT]
        refine ie (nn (bi_0.mpr hf)) ?_
        dsimp only
        rw [e7_wrong0 uT.2.1, Option.bind_some, show fuel = 19999 + 1 from rfl, j_X7_readCount_96]
        refine it (show ¬ (1 : Int) = 0 by decide) ?_
        exact last _ 0 0 zT
      · have hn : (gpS (mRs S)).bind nuS = none := by
          unfold gpS
          by_cases h32 : hd (mRs S) = 32
          · rw [if_pos h32, Option.bind_some, nuS, if_neg hf]
          · rw [if_neg h32]; rfl
        rw [hn]
        exact vM_kA hvT q1
  · have hv0 : vM (kI (kI S 82 30 1) 82 31 (jI S 82 27)) := vM_w' u.1 (by decide) (by omega) (by omega) (by omega)
    obtain ⟨p, e1, m1, p1, p2, p3⟩ := e7_blanks hv0.1
    have hp27 : jI (kI (kI S 82 30 1) 82 31 (jI S 82 27)) 82 27 = jI S 82 27 := rfl
    have hp2 : jI (kI (kI S 82 30 1) 82 31 (jI S 82 27)) 82 2 = jI S 82 2 := rfl
    have hp6 : p ≤ 600 := by have := p2 (by omega); omega
    have wV : wM (kI (kI (kI S 82 30 1) 82 31 (jI S 82 27)) 82 27 p) := (vM_w u.1 (by decide) (by omega) (by omega) (by omega) (by omega) : vM _).1
    obtain ⟨T, zT, fT, h101, h104, hp, iT, mT, key⟩ := tail (kI (kI (kI S 82 30 1) 82 31 (jI S 82 27)) 82 27 p) p wV (fr_trans (fr_w (by omega) (by omega)) (fr_kI (by omega))) jI_eq (by omega) hp6
    have vT : vM T := by
      have hv := (vM_w u.1 (k := 1) (p := jI S 82 27) (q := p) (by decide) (by omega) (by omega) (by omega) (by omega))
      refine ⟨⟨zT, ?_⟩, ?_⟩
      · rw [iT]; exact hv.1.2
      · rw [iT]; exact hv.2
    obtain ⟨q1, q2, q3, q4, q5, q6, q7⟩ := fin T T 0 zT fT fr_refl h101 h104 (by omega) (by omega)
    refine ⟨_, ?_, q2, q1, q3, q4, q5, q6, ?_⟩
    · refine ie (by omega) (ie (nn u.2.1) ?_)
      rw [e7_endedW u.1 u.2.1 hE, Option.bind_some, e1, Option.bind_some]
      refine key _ ?_
      have h96 : j_X7_readCount_96 (fun l1' S' => j_X7_readCount_33 n l1' S') fuel k 0 0 T = j_X7_readCount_33 n ((k : Int) + 1) (kA T 101 ((jA T 101).set (2 + k) 0)) := by
        rw [show fuel = 19999 + 1 from rfl, j_X7_readCount_96]
        exact it vT.2.1 (last T 0 0 zT)
      rw [e7_here vT.1, Option.bind_some, e7_fig, Option.bind_some]
      dsimp only
      rw [e7_wrong1 vT.2.1, Option.bind_some, h96]
      by_cases hf : isFig (hd (mRs T))
      · exact it (bi_n hf) rfl
      · exact ie (nn (bi_0.mpr hf)) rfl
    · have hn : (gpS (mRs S)).bind nuS = none := by
        unfold gpS
        rw [if_neg (fun q => hE (.inl q))]
        rfl
      rw [hn]
      exact vM_kA vT q1
end MCT
