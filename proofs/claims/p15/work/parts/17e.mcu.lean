section MCU
variable {S S' S'' : iS} {L : List Int}
theorem lo_RC (h : fr FN RC S S') (h101 : ∀ i, i < 2 → (jA S' 101).getD i 0 = (jA S 101).getD i 0) : lo S S' := by
  refine ⟨fun a f q => h.1 a f (fun k => q ⟨k.1, by have := k.2; omega⟩), h.2.2, fun a i q => ?_, fun a q => h.2.1 a (fun k => q (by omega))⟩
  by_cases e : RC a
  · by_cases e' : a = 101
    · subst e'
      rw [show lw 101 = 2 from rfl] at q
      exact h101 i q
    · rw [show lw a = 0 by unfold lw; rw [if_neg (by omega), if_neg (by omega), if_neg (by omega)]] at q
      omega
  · rw [h.2.1 a e]
theorem v7_lay (v : vM S) {l : List Int} (h : mLi S l) (hl : l.length ≤ 600) {k : Int} : ∃ S', j_X7_laySort k S = some S' ∧ lo S S' ∧ vM S' := by
  obtain ⟨L1, L2, e, _, lo3, z4⟩ := e7_laySort v.1.1 h hl (k := k)
  have zz : zS (kA S 100 L1) := zS_kA v.1.1 (by
    have := z4 100
    rw [jA_ne (by decide), jA_eq] at this
    exact this)
  exact ⟨_, e, lo3, vM_kA (vM_kA v zz) z4⟩
theorem v7_33 (v : vM S) {l : List Int} (h : mLi S l) (hl : l.length ≤ 600) {n : Nat} {k : Int} : ∃ S', j_X7_readCount_33 (n + 1) k S = some S' ∧ lo S S' ∧ vM S' := by
  obtain ⟨S', e, q⟩ := v7_lay v h hl (k := 2)
  refine ⟨S', ?_, q⟩
  have e171 : j_X7_readCount_171 k S = some S' := by
    unfold j_X7_readCount_171
    rw [e7_endedF v.2.1, Option.bind_some, e]
    rfl
  rw [j_X7_readCount_33]
  by_cases h2 : 2 ≤ k
  · exact it h2 e171
  · exact ie h2 (it v.2.1 e171)
/-- a COUNT, as far as its WORDS go -/
def ctP (G : gT) (r : List Int) : Option (gT × List Int) := if (gCt G).isSome then none else ((gpS r.tail).bind nuS).bind fun a => ((gpS a.2).bind nuS).bind fun b => if isE b.2 then some ((G.1, G.2.1, G.2.2.1, G.2.2.2.1, gLi G ++ [1], gLo G, some (a.1, b.1), gWa G), b.2) else none
theorem ctP_L (G : gT) (r : List Int) : ctL G r = (ctP G r).bind fun q => (leS q.2).map fun r3 => (q.1, r3) := by
  unfold ctL ctP
  by_cases h : (gCt G).isSome
  · rw [if_pos h, if_pos h]; rfl
  · rw [if_neg h, if_neg h]
    cases h1 : gpS r.tail with
    | none => rfl
    | some r1 =>
      rw [Option.bind_some, Option.bind_some]
      cases h2 : nuS r1 with
      | none => rfl
      | some a =>
        rw [Option.bind_some, Option.bind_some]
        cases h3 : gpS a.2 with
        | none => rfl
        | some r2 =>
          rw [Option.bind_some, Option.bind_some]
          cases h4 : nuS r2 with
          | none => rfl
          | some b =>
            rw [Option.bind_some, Option.bind_some]
            by_cases hE : isE b.2
            · rw [if_pos hE]; rfl
            · rw [if_neg hE]
              cases h5 : leS b.2 with
              | none => rfl
              | some r3 => exact absurd (leS_E h5) hE
theorem e7_count {G : gT} (u : uM S) (hh : hd (mRs S) ≠ -1) (hg : mG S G) (hli : (gLi G).length ≤ 600) : ∃ S', j_X7_readCount S = some S' ∧ lo S S' ∧ rs (ctP G (mRs S)) S' (fun q => mG S' q.1 ∧ mRs S' = q.2) := by
  have a1 := u.1.2.2.1
  have a2 := u.1.2.2.2.1
  have a3 := u.2.2
  have hlt := uM_lt u hh
  obtain ⟨h1, h2, h3, h4, h5, h6, h7, h8⟩ := hg
  unfold j_X7_readCount j_X7_readCount_0 ctP
  cases hc : gCt G with
  | some c =>
    rw [hc] at h7
    have h35 : jI S 82 35 = 1 := h7.1
    have v1 : vM (kI (kI (kI S 82 30 4) 82 31 (jI S 82 27)) 82 27 (jI S 82 27 + 1)) := vM_w u.1 (by decide) (by omega) (by omega) (by omega) (by omega)
    have v2 : vM (kI (kI (kI (kI S 82 30 4) 82 31 (jI S 82 27)) 82 27 (jI S 82 27 + 1)) 82 35 1) := ⟨v1.1, v1.2⟩
    obtain ⟨S', e, lo1, v3⟩ := v7_33 (n := 19999) (k := 0) v2 (show mLi _ (gLi G) from h5) hli
    refine ⟨S', ie (by omega) ?_, lo_trans (lo_trans (lo_trans (lo_trans (lo_kI (by omega)) (lo_kI (by omega))) (lo_kI (by omega))) (lo_kI (by omega))) lo1, ?_⟩
    · rw [e7_wrong0 u.2.1, Option.bind_some]
      unfold j_X7_readCount_16
      exact it (show rg (jI S 82 27 + 1) from ⟨by omega, by omega⟩) e
    · exact v3
  | none =>
    rw [hc] at h7
    have h35 : jI S 82 35 = 0 := h7
    have u1 := uM_step u hh
    have m1 := mRs_step u.1
    obtain ⟨u2, m2⟩ := uM_kI u1 (f := 35) (v := 1) (by decide) (by decide) (by decide)
    have m3 : mRs (kI (kI S 82 27 (jI S 82 27 + 1)) 82 35 1) = (mRs S).tail := m2.trans m1
    have lo0 : lo S (kI (kI S 82 27 (jI S 82 27 + 1)) 82 35 1) := lo_trans (lo_kI (by omega)) (lo_kI (by omega))
    have a0 : ∀ a, jA (kI (kI S 82 27 (jI S 82 27 + 1)) 82 35 1) a = jA S a := fun _ => rfl
    have i0 : ∀ f, f ≠ 27 → f ≠ 35 → jI (kI (kI S 82 27 (jI S 82 27 + 1)) 82 35 1) 82 f = jI S 82 f := fun f b1 b2 => by rw [jI_ne (.inr b2), jI_ne (.inr b1)]
    have i35 : jI (kI (kI S 82 27 (jI S 82 27 + 1)) 82 35 1) 82 35 = 1 := jI_eq
    have hstart : ∀ X, j_X7_readCount_33 (19999 + 1) 0 (kI (kI S 82 27 (jI S 82 27 + 1)) 82 35 1) = X → (if (jI S 82 35) = (0 : Int) then (j_X7_readCount_16 S) else ((j_X7_wrong (4 : Int) (jI S 82 27) S).bind fun qx1 => (j_X7_readCount_16 qx1))) = X := by
      intro X hX
      refine it h35 ?_
      unfold j_X7_readCount_16
      exact it ⟨by omega, by omega⟩ hX
    generalize kI (kI S 82 27 (jI S 82 27 + 1)) 82 35 1 = T at *
    obtain ⟨S1, e1, f1, z1, p1, p2, p3, p4, r1⟩ := c7_it (n := 19998 + 1) (k := 0) (by decide) u2
    have e1' : j_X7_readCount_33 (19999 + 1) 0 T = j_X7_readCount_33 (19998 + 1) 1 S1 := e1
    have lo1 : lo S S1 := lo_trans lo0 (lo_RC f1 (fun i hi => p1 i (by omega)))
    have g1 : ∀ a, a ≠ 101 → a ≠ 104 → a ≠ 105 → jA S1 a = jA S a := fun a b1 b2 b3 => (f1.2.1 a (by omega)).trans (a0 a)
    rw [m3] at r1
    rw [if_neg (show ¬ (none : Option (Int × Int)).isSome = true by decide)]
    cases q1 : (gpS (mRs S).tail).bind nuS with
    | none =>
      rw [q1] at r1
      obtain ⟨S', e, lo2, v3⟩ := v7_33 (n := 19998) (k := 1) r1 (mLi_eq h5 (g1 _ (by decide) (by decide) (by decide)) (g1 _ (by decide) (by decide) (by decide))) hli
      exact ⟨S', hstart _ (e1'.trans e), lo_trans lo1 lo2, v3⟩
    | some a =>
      rw [q1] at r1
      obtain ⟨u3, ma, ca⟩ := r1
      obtain ⟨S2, e2, f2, z2, t1, t2, t3, t4, r2⟩ := c7_it (n := 19997 + 1) (k := 1) (by decide) u3
      have e2' : j_X7_readCount_33 (19998 + 1) 1 S1 = j_X7_readCount_33 (19997 + 1) 2 S2 := e2
      have lo2 : lo S S2 := lo_trans lo1 (lo_RC f2 (fun i hi => t1 i (by omega)))
      have g2 : ∀ a, a ≠ 101 → a ≠ 104 → a ≠ 105 → jA S2 a = jA S a := fun a b1 b2 b3 => (f2.2.1 a (by omega)).trans (g1 a b1 b2 b3)
      have l5 : mLi S2 (gLi G) := mLi_eq h5 (g2 _ (by decide) (by decide) (by decide)) (g2 _ (by decide) (by decide) (by decide))
      rw [ma] at r2
      rw [Option.bind_some]
      cases q2 : (gpS a.2).bind nuS with
      | none =>
        rw [q2] at r2
        obtain ⟨S', e, lo3, v3⟩ := v7_33 (n := 19997) (k := 2) r2 l5 hli
        exact ⟨S', hstart _ (e1'.trans (e2'.trans e)), lo_trans lo2 lo3, v3⟩
      | some b =>
        rw [q2] at r2
        obtain ⟨u4, mb, cb⟩ := r2
        rw [Option.bind_some]
        by_cases hE : isE b.2
        · rw [if_pos hE]
          obtain ⟨L1, L2, e3, g3, lo3, z4⟩ := e7_laySort z2 l5 hli (k := 2)
          have zz : zS (kA S2 100 L1) := zS_kA z2 (by
            have := z4 100
            rw [jA_ne (by decide), jA_eq] at this
            exact this)
          have fA : ∀ a, a ≠ 101 → a ≠ 104 → a ≠ 105 → a ≠ 100 → a ≠ 99 → jA (kA (kA S2 100 L1) 99 L2) a = jA S a := fun a b1 b2 b3 b4 b5 => by rw [jA_ne b5, jA_ne b4]; exact g2 a b1 b2 b3
          have fI : ∀ f, f ≠ 27 → f ≠ 30 → f ≠ 31 → jI (kA (kA S2 100 L1) 99 L2) 82 f = jI T 82 f := fun f b1 b2 b3 => by
            show jI S2 82 f = _
            rw [f2.1 82 f (fun k => by have := k.2; omega), f1.1 82 f (fun k => by have := k.2; omega)]
          have f101 : jA (kA (kA S2 100 L1) 99 L2) 101 = jA S2 101 := by rw [jA_ne (by decide), jA_ne (by decide)]
          have f104 : jA (kA (kA S2 100 L1) 99 L2) 104 = jA S2 104 := by rw [jA_ne (by decide), jA_ne (by decide)]
          refine ⟨kA (kA S2 100 L1) 99 L2, hstart _ (e1'.trans (e2'.trans ?_)), lo_trans lo2 lo3, uM_kA (uM_kA u4 zz) z4, ⟨?_, ?_, ?_, ?_, g3, ?_, ?_, ?_⟩, by rw [mRs_kA (by decide), mRs_kA (by decide)]; exact mb⟩
          · rw [j_X7_readCount_33]
            refine it (by decide) ?_
            unfold j_X7_readCount_171
            rw [e7_endedT u4.1 (by rw [mb]; exact hE), Option.bind_some, e3]
            rfl
          · exact mNo_eq h1 (fA _ (by decide) (by decide) (by decide) (by decide) (by decide)) (fA _ (by decide) (by decide) (by decide) (by decide) (by decide))
          · exact mHe_eq h2 (fA _ (by decide) (by decide) (by decide) (by decide) (by decide)) (fA _ (by decide) (by decide) (by decide) (by decide) (by decide)) (fA _ (by decide) (by decide) (by decide) (by decide) (by decide))
          · exact mCo_eq h3 (fA _ (by decide) (by decide) (by decide) (by decide) (by decide)) (fA _ (by decide) (by decide) (by decide) (by decide) (by decide))
          · exact mAr_eq h4 (fA _ (by decide) (by decide) (by decide) (by decide) (by decide)) (fA _ (by decide) (by decide) (by decide) (by decide) (by decide)) (fA _ (by decide) (by decide) (by decide) (by decide) (by decide)) (fA _ (by decide) (by decide) (by decide) (by decide) (by decide)) (fA _ (by decide) (by decide) (by decide) (by decide) (by decide)) (fA _ (by decide) (by decide) (by decide) (by decide) (by decide)) (fA _ (by decide) (by decide) (by decide) (by decide) (by decide))
          · rw [fA 96 (by decide) (by decide) (by decide) (by decide) (by decide)]; exact h6
          · refine ⟨(fI 35 (by decide) (by decide) (by decide)).trans i35, ?_, ?_, ?_, ?_, ?_, ?_⟩
            · rw [f101, t1 2 (by decide)]; exact ca
            · rw [f101]; exact cb
            · rw [f104, t2 0 (by decide)]; exact p3
            · rw [f104, t2 0 (by decide)]; exact p4
            · rw [f104]; exact t3
            · rw [f104]; exact t4
          · rw [fI 38 (by decide) (by decide) (by decide), i0 38 (by decide) (by decide)]; exact h8
        · rw [if_neg hE]
          have v1 : vM (kI (kI S2 82 30 1) 82 31 (jI S2 82 27)) := vM_w' u4.1 (by decide) u4.1.2.2.2.1 (by have := u4.2.2; have := u4.1.2.2.1; omega) (by have := u4.2.2; have := u4.1.2.2.1; omega)
          obtain ⟨S', e, lo3, v3⟩ := v7_lay v1 (show mLi _ (gLi G) from l5) hli (k := 2)
          refine ⟨S', hstart _ (e1'.trans (e2'.trans ?_)), lo_trans lo2 (lo_trans (lo_trans (lo_kI (by omega)) (lo_kI (by omega))) lo3), v3⟩
          rw [j_X7_readCount_33]
          refine it (by decide) ?_
          unfold j_X7_readCount_171
          rw [e7_endedW u4.1 u4.2.1 (by rw [mb]; exact hE), Option.bind_some, e]
          rfl
end MCU
