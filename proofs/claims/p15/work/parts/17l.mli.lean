section MLI
variable {S S' S'' : iS} {L : List Int}
def mGr (S : iS) (G : gT) : Prop := mHe S (gHe G) ∧ mCo S (gCo G) ∧ mAr S (gHe G).length (gAr G) ∧ mLi S (gLi G) ∧ (jA S 96).getD 1 0 = gLo G ∧ mCt S (gCt G)
theorem mGr_fr {G : gT} {F R : Nat → Prop} (h : mGr S G) (hf : fr F R S S') (h35 : ¬ F 35) (hR : ∀ a, R a → a = 84 ∨ a = 85 ∨ a = 103) : mGr S' G := by
  obtain ⟨h2, h3, h4, h5, h6, h7⟩ := h
  have e : ∀ a, a ≠ 84 → a ≠ 85 → a ≠ 103 → jA S' a = jA S a := fun a b1 b2 b3 => hf.2.1 a (fun q => by have := hR a q; omega)
  exact ⟨mHe_eq h2 (e _ (by decide) (by decide) (by decide)) (e _ (by decide) (by decide) (by decide)) (e _ (by decide) (by decide) (by decide)), mCo_eq h3 (e _ (by decide) (by decide) (by decide)) (e _ (by decide) (by decide) (by decide)), mAr_eq h4 (e _ (by decide) (by decide) (by decide)) (e _ (by decide) (by decide) (by decide)) (e _ (by decide) (by decide) (by decide)) (e _ (by decide) (by decide) (by decide)) (e _ (by decide) (by decide) (by decide)) (e _ (by decide) (by decide) (by decide)) (e _ (by decide) (by decide) (by decide)), mLi_eq h5 (e _ (by decide) (by decide) (by decide)) (e _ (by decide) (by decide) (by decide)), by rw [e 96 (by decide) (by decide) (by decide)]; exact h6, mCt_eq h7 (hf.1 82 35 (fun q => h35 q.2)) (e _ (by decide) (by decide) (by decide)) (e _ (by decide) (by decide) (by decide))⟩
theorem ndS_mem {l N : List (List Int)} {x : List Int} (h : ndS l x = some N) : x ∈ N := by
  unfold ndS at h
  by_cases h1 : x ∈ l
  · rw [if_pos h1] at h; cases h; exact h1
  · rw [if_neg h1] at h
    by_cases h2 : 30 ≤ l.length
    · rw [if_pos h2] at h; cases h
    · rw [if_neg h2] at h; cases h; exact List.mem_append_right _ List.mem_cons_self
theorem ndS_ix {l N : List (List Int)} {x y : List Int} (h : ndS l x = some N) (hy : y ∈ l) : ixO N y = ixO l y := by
  unfold ndS at h
  by_cases h1 : x ∈ l
  · rw [if_pos h1] at h; cases h; rfl
  · rw [if_neg h1] at h
    by_cases h2 : 30 ≤ l.length
    · rw [if_pos h2] at h; cases h
    · rw [if_neg h2] at h; cases h; exact ixO_app _ _ _ hy
/-- an ARC -/
theorem e7_arc {G : gT} (u : uM S) (hb : byt S) (hg : mG S G) (hli : (gLi G).length ≤ 600) (hlo : 0 ≤ gLo G ∧ gLo G ≤ 600) : ∃ S', j_X7_readArc S = some S' ∧ lo S S' ∧ rs (arL (jI S 82 3) (jI S 82 28) G (mRs S)) S' (fun q => mG S' q.1 ∧ mRs S' = q.2) := by
  have a1 := u.1.2.2.1
  have a2 := u.1.2.2.2.1
  have a3 := u.2.2
  have hr : mGr S G := ⟨hg.2.1, hg.2.2.1, hg.2.2.2.1, hg.2.2.2.2.1, hg.2.2.2.2.2.1, hg.2.2.2.2.2.2.1⟩
  obtain ⟨S1, e1, f1, n1, r1⟩ := e7_name u
  have lo1 := lo_FN f1
  unfold j_X7_readArc j_X7_readArc_0 arL
  rw [e1, Option.bind_some]
  cases hq : enE (nmS (mRs S)) with
  | none =>
    rw [hq] at r1
    obtain ⟨S', e2, lo2, v2⟩ := v7_25 r1 (l1 := jI S 82 27) (t := -1)
    refine ⟨S', it r1.2.1 e2, lo_trans lo1 lo2, ?_⟩
    cases h1 : nmS (mRs S) with
    | none => exact v2
    | some a =>
      have hE := enE_no hq h1
      rw [Option.bind_some]
      cases h2 : ndS (gNo G) a.1 with
      | none => exact v2
      | some N1 =>
        rw [Option.bind_some, gpS, if_neg (fun q => hE (.inl q))]
        exact v2
  | some a =>
    rw [hq] at r1
    obtain ⟨u1, na, ma⟩ := r1
    obtain ⟨ha, haE⟩ := enE_of hq
    have hno1 : mNo S1 (gNo G) := mNo_eq hg.1 (f1.2.1 84 (by decide)) (f1.2.1 85 (by decide))
    obtain ⟨v1, S2, e2, f2, z2, o85, o84, r2⟩ := e7_nd u1 na hno1 (q := jI S 82 27) (by omega) (by omega)
    have lo2 := lo_trans lo1 (lo_nd f2 o85 o84)
    have hr1 := mGr_fr hr f1 (by decide) (fun a q => by omega)
    have hr2 := mGr_fr hr1 f2 (by decide) (fun a q => by omega)
    have m2 : mRs S2 = a.2 := (mRs_fr f2 (by decide) (by decide) (by decide)).trans ma
    have hstart : ∀ X, j_X7_readArc_25 (jI S 82 27) v1 S2 = X → (if ¬ (jI S1 82 30) = (0 : Int) then (j_X7_readArc_25 (jI S 82 27) (-1 : Int) S1) else ((j_X7_nodeOf (jI S 82 27) S1).bind fun qx2 => (j_X7_readArc_25 (jI S 82 27) qx2.1 qx2.2))) = X := by
      intro X hX
      refine ie (nn u1.2.1) ?_
      rw [e2, Option.bind_some]
      exact hX
    rw [ha, Option.bind_some]
    cases hN1 : ndS (gNo G) a.1 with
    | none =>
      rw [hN1] at r2
      obtain ⟨S', e3, lo3, v3⟩ := v7_25 r2 (l1 := jI S 82 27) (t := v1)
      exact ⟨S', hstart _ e3, lo_trans lo2 lo3, v3⟩
    | some N1 =>
      rw [hN1] at r2
      obtain ⟨u2, hno2, hv1⟩ := r2
      rw [Option.bind_some]
      obtain ⟨p, e3, m3, p1, p2, p3⟩ := e7_blanks u2.1
      have u3 := uM_at u2 p1 (p2 u2.2.2)
      rw [m2] at m3
      have b2 := u2.1.2.2.1
      have b3 := u2.1.2.2.2.1
      have hp6 : p ≤ 600 := by have := p2 u2.2.2; omega
      obtain ⟨S4, e4, f4, n4, r4⟩ := e7_name u3
      rw [m3] at r4
      have f24 : fr FN RN S2 S4 := fr_trans (fr_kI (by omega)) f4
      have lo4 := lo_trans lo2 (lo_FN f24)
      have h50 : ∀ X, j_X7_readArc_50 (jI S 82 27) v1 p S4 = X → j_X7_readArc_25 (jI S 82 27) v1 S2 = X := by
        intro X hX
        unfold j_X7_readArc_25
        rw [e7_endedT u2.1 (by rw [m2]; exact haE), Option.bind_some, e3, Option.bind_some]
        refine ie (nn u3.2.1) ?_
        rw [e4, Option.bind_some, jI_eq]
        exact hX
      cases hqb : enE (nmS (skb a.2)) with
      | none =>
        rw [hqb] at r4
        obtain ⟨S', e5, lo5, v5⟩ := v7_50 r4 (l1 := jI S 82 27) (l2 := v1) (l3 := p)
        refine ⟨S', hstart _ (h50 _ e5), lo_trans lo4 lo5, ?_⟩
        cases h1 : gpS a.2 with
        | none => exact v5
        | some r1 =>
          have er : r1 = skb a.2 := by
            unfold gpS at h1
            by_cases h32 : hd a.2 = 32
            · rw [if_pos h32] at h1; exact (Option.some.inj h1).symm
            · rw [if_neg h32] at h1; cases h1
          rw [Option.bind_some, er]
          cases h2 : nmS (skb a.2) with
          | none => exact v5
          | some b =>
            have hE := enE_no hqb h2
            rw [Option.bind_some]
            cases h3 : ndS N1 b.1 with
            | none => exact v5
            | some N2 =>
              rw [Option.bind_some]
              have hnone : ∀ f t, arE (jI S 82 3) (jI S 82 28) G N2 f t b.2 = none := by
                intro f t
                unfold arE
                by_cases hm : dbS (gAr G) f t = true ∧ jI S 82 3 = 2
                · rw [if_pos hm]
                · rw [if_neg hm]
                  cases hk : (gHe G).map (fun h => h.2) with
                  | nil =>
                    rw [vsS, Option.bind_some]
                    cases h5 : leS b.2 with
                    | none => rfl
                    | some r3 => exact absurd (leS_E h5) hE
                  | cons k ks => rw [vsS, gpS, if_neg (fun q => hE (.inl q))]; rfl
              rw [hnone]
              exact v5
      | some b =>
        rw [hqb] at r4
        obtain ⟨u4, nb, mb⟩ := r4
        obtain ⟨hb1, hbE⟩ := enE_of hqb
        have h32 : hd a.2 = 32 := by
          rcases haE with h | h
          · exact h
          · exfalso
            rw [skb_e (by omega), nmS, if_neg (by omega), if_neg (by omega)] at hb1
            cases hb1
        rw [gpS, if_pos h32, Option.bind_some, hb1, Option.bind_some]
        have hno4 : mNo S4 N1 := mNo_eq hno2 (f24.2.1 84 (by decide)) (f24.2.1 85 (by decide))
        obtain ⟨v2, S5, e5, f5, z5, q85, q84, r5⟩ := e7_nd u4 nb hno4 (q := p) (by omega) (by omega)
        have lo5 := lo_trans lo4 (lo_nd f5 q85 q84)
        have hr4 := mGr_fr hr2 f24 (by decide) (fun a q => by omega)
        have hr5 := mGr_fr hr4 f5 (by decide) (fun a q => by omega)
        have m5 : mRs S5 = b.2 := (mRs_fr f5 (by decide) (by decide) (by decide)).trans mb
        have h66 : ∀ X, j_X7_readArc_66 (jI S 82 27) v1 p v2 S5 = X → j_X7_readArc_50 (jI S 82 27) v1 p S4 = X := by
          intro X hX
          unfold j_X7_readArc_50
          refine ie (nn u4.2.1) ?_
          rw [e5, Option.bind_some]
          exact hX
        cases hN2 : ndS N1 b.1 with
        | none =>
          rw [hN2] at r5
          obtain ⟨S', e6, lo6, v6⟩ := v7_66 r5 (l1 := jI S 82 27) (l2 := v1) (l3 := p) (t := v2)
          exact ⟨S', hstart _ (h50 _ (h66 _ e6)), lo_trans lo5 lo6, v6⟩
        | some N2 =>
          rw [hN2] at r5
          obtain ⟨u5, hno5, hv2⟩ := r5
          rw [Option.bind_some]
          obtain ⟨S', e6, lo6, r6⟩ := e7_66 (G := G) u5 (byt_lo hb lo5) hno5 hr5 hli hlo (by rw [m5]; exact hbE) (l1 := jI S 82 27) (f := v1) (l3 := p) (t := v2) (by omega) (by omega) (by omega) (by omega)
          refine ⟨S', hstart _ (h50 _ (h66 _ e6)), lo_trans lo5 lo6, ?_⟩
          rw [m5, lo5.1 82 3 (by decide), lo5.1 82 28 (by decide)] at r6
          rw [ndS_ix hN2 (ndS_mem hN1), ← hv1, ← hv2]
          exact r6
theorem skb_len (r : List Int) : (skb r).length ≤ r.length := by
  induction r with
  | nil => exact Nat.le_refl _
  | cons c r ih =>
    rw [skb]
    by_cases h : c = 32
    · rw [if_pos h, List.length_cons]; omega
    · rw [if_neg h]; exact Nat.le_refl _
/-- the end of a LINE behind what was read of it -/
theorem s7_57 {l1 : Int} {o : Option (gT × List Int)} (h : rL o S (fun q => mG S q.1 ∧ mRs S = q.2)) : ∃ S', j_X7_readLine_57 l1 S = some S' ∧ lo S S' ∧ rL (o.bind fun q => (leS q.2).map fun r3 => (q.1, r3)) S' (fun q => mG S' q.1 ∧ mRs S' = q.2 ∧ hd q.2 = -1) := by
  unfold j_X7_readLine_57 j_X7_readLine_78
  cases o with
  | none =>
    have v : vL S := h
    obtain ⟨p, e1, m1, p1, p2, p3⟩ := e7_blanks v.1
    obtain ⟨⟨z, b1, b2, b3, b4⟩, c1, c2, c3, c4, c5⟩ := v
    have e2 : jI (kI S 82 27 p) 82 2 = jI S 82 2 := jI_ne (.inr (by decide))
    have e27 : jI (kI S 82 27 p) 82 27 = p := jI_eq
    have e30 : jI (kI S 82 27 p) 82 30 = jI S 82 30 := jI_ne (.inr (by decide))
    have e31 : jI (kI S 82 27 p) 82 31 = jI S 82 31 := jI_ne (.inr (by decide))
    have v1 : vL (kI S 82 27 p) := ⟨⟨z, by omega, by omega, by omega, by omega⟩, by omega, by omega, by omega, by omega, by omega⟩
    refine ⟨kI S 82 27 p, ?_, lo_kI (by omega), v1⟩
    rw [e1, Option.bind_some, e7_here v1.1, Option.bind_some]
    dsimp only
    by_cases hd1 : hd (mRs (kI S 82 27 p)) = -1
    · exact it hd1 rfl
    · refine ie hd1 ?_
      rw [e7_wrong1 v1.2.1]
      rfl
  | some q =>
    obtain ⟨u, hg, hm⟩ := h
    have a1 := u.1.2.2.1
    have a2 := u.1.2.2.2.1
    have a3 := u.2.2
    obtain ⟨p, e1, m1, p1, p2, p3⟩ := e7_blanks u.1
    have u1 := uM_at u p1 (p2 a3)
    have hp6 : p ≤ 600 := by have := p2 a3; omega
    rw [hm] at m1
    have f1 : fr FN RN S (kI S 82 27 p) := fr_kI (by omega)
    have hg1 := mG_fr hg f1 (by decide) (by decide) (fun a q => by omega) (by decide)
    have i27 : jI (kI S 82 27 p) 82 27 = p := jI_eq
    rw [e1, Option.bind_some, e7_here u1.1, Option.bind_some, m1, Option.bind_some]
    dsimp only
    by_cases hd1 : hd (skb q.2) = -1
    · refine ⟨kI S 82 27 p, it hd1 rfl, lo_FN f1, ?_⟩
      rw [show leS q.2 = some (skb q.2) by unfold leS; rw [if_pos hd1]]
      exact ⟨u1, hg1, m1, hd1⟩
    · refine ⟨kI (kI (kI S 82 27 p) 82 30 1) 82 31 (jI (kI S 82 27 p) 82 27), ie hd1 ?_, lo_trans (lo_FN f1) (lo_trans (lo_kI (by omega)) (lo_kI (by omega))), ?_⟩
      · rw [e7_wrong0 u1.2.1]
        rfl
      · rw [show leS q.2 = none by unfold leS; rw [if_neg hd1]]
        exact vM_L (vM_w' u1.1 (by decide) (by omega) (by omega) (by omega))
theorem leS_idem {o : Option (gT × List Int)} (h : ∀ q, o = some q → hd q.2 = -1) : (o.bind fun q => (leS q.2).map fun r3 => (q.1, r3)) = o := by
  cases o with
  | none => rfl
  | some q =>
    have e := h q rfl
    rw [Option.bind_some, leS, skb_e (by omega), if_pos e]
    rfl
theorem arL_end {man ln : Int} {G : gT} {r : List Int} {q : gT × List Int} (h : arL man ln G r = some q) : hd q.2 = -1 := by
  unfold arL at h
  cases h1 : nmS r with
  | none => rw [h1] at h; cases h
  | some a =>
    rw [h1, Option.bind_some] at h
    cases h2 : ndS (gNo G) a.1 with
    | none => rw [h2] at h; cases h
    | some N1 =>
      rw [h2, Option.bind_some] at h
      cases h3 : gpS a.2 with
      | none => rw [h3] at h; cases h
      | some r1 =>
        rw [h3, Option.bind_some] at h
        cases h4 : nmS r1 with
        | none => rw [h4] at h; cases h
        | some b =>
          rw [h4, Option.bind_some] at h
          cases h5 : ndS N1 b.1 with
          | none => rw [h5] at h; cases h
          | some N2 =>
            rw [h5, Option.bind_some] at h
            unfold arE at h
            split at h
            · cases h
            · cases h6 : vsS ((gHe G).map (fun h => h.2)) b.2 with
              | none => rw [h6] at h; cases h
              | some v =>
                rw [h6, Option.bind_some] at h
                cases h7 : leS v.2 with
                | none => rw [h7] at h; cases h
                | some r3 =>
                  rw [h7, Option.bind_some] at h
                  have hr3 : hd r3 = -1 := by
                    unfold leS at h7
                    by_cases e : hd (skb v.2) = -1
                    · rw [if_pos e] at h7; rw [← Option.some.inj h7]; exact e
                    · rw [if_neg e] at h7; cases h7
                  split at h
                  · cases h; exact hr3
                  · split at h
                    · cases h
                    · cases h; exact hr3
/-- what is left has room -/
def bdG (G : gT) (r : List Int) : Prop := 2 * (gCo G).length + r.length ≤ 600 ∧ 2 * (gLi G).length + r.length ≤ 600 ∧ 0 ≤ gLo G ∧ gLo G + r.length ≤ 600 ∧ (gWa G = false → gAr G = [])
/-- one LINE of the model -/
theorem e7_line {G : gT} (u : uM S) (hb : byt S) (hg : mG S G) (hbd : bdG G (mRs S)) : ∃ S', j_X7_readLine S = some S' ∧ lo S S' ∧ rL (liS (jI S 82 3) (jI S 82 28) G (mRs S)) S' (fun q => mG S' q.1 ∧ mRs S' = q.2 ∧ hd q.2 = -1) := by
  obtain ⟨d1, d2, d3, d4, d5⟩ := hbd
  obtain ⟨p, e1, m1, p1, p2, p3⟩ := e7_blanks u.1
  have u1 := uM_at u p1 (p2 u.2.2)
  have f1 : fr FN RN S (kI S 82 27 p) := fr_kI (by omega)
  have hg1 := mG_fr hg f1 (by decide) (by decide) (fun a q => by omega) (by decide)
  have lo1 := lo_FN f1
  have hb1 : byt (kI S 82 27 p) := hb
  have hsl := skb_len (mRs S)
  have i3 : jI (kI S 82 27 p) 82 3 = jI S 82 3 := jI_ne (.inr (by decide))
  have i28 : jI (kI S 82 27 p) 82 28 = jI S 82 28 := jI_ne (.inr (by decide))
  unfold j_X7_readLine j_X7_readLine_0 liS
  rw [e1, Option.bind_some, e7_here u1.1, Option.bind_some, m1]
  generalize kI S 82 27 p = T at *
  dsimp only
  have fin : ∀ {o : Option (gT × List Int)} {T' : iS}, lo T T' → rL o T' (fun q => mG T' q.1 ∧ mRs T' = q.2) → ∃ S', j_X7_readLine_57 (hd (skb (mRs S))) T' = some S' ∧ lo S S' ∧ rL (o.bind fun q => (leS q.2).map fun r3 => (q.1, r3)) S' (fun q => mG S' q.1 ∧ mRs S' = q.2 ∧ hd q.2 = -1) := by
    intro o T' l1 h
    obtain ⟨S', e, lo2, r⟩ := s7_57 (l1 := hd (skb (mRs S))) h
    exact ⟨S', e, lo_trans lo1 (lo_trans l1 lo2), r⟩
  by_cases c1 : hd (skb (mRs S)) = -1
  · rw [show (if hd (skb (mRs S)) = -1 then some (G, skb (mRs S)) else if hd (skb (mRs S)) = 35 then cmL G (skb (mRs S)) else if hd (skb (mRs S)) = 33 then ctL G (skb (mRs S)) else if hd (skb (mRs S)) = 37 then heL G (skb (mRs S)) else arL (jI S 82 3) (jI S 82 28) G (skb (mRs S))) = some (G, skb (mRs S)) from it c1 rfl]
    obtain ⟨S', e, q1, q2⟩ := fin (o := some (G, skb (mRs S))) lo_refl ⟨u1, hg1, m1⟩
    rw [leS_idem (fun q hq => by cases hq; exact c1)] at q2
    exact ⟨S', it (by omega) (it (by omega) (it (by omega) (it c1 e))), q1, q2⟩
  · have hne : 1 ≤ (skb (mRs S)).length := by
      obtain ⟨c, r', er, _⟩ := hd_cons c1
      rw [er, List.length_cons]; omega
    by_cases c2 : hd (skb (mRs S)) = 35
    · rw [show (if hd (skb (mRs S)) = -1 then some (G, skb (mRs S)) else if hd (skb (mRs S)) = 35 then cmL G (skb (mRs S)) else if hd (skb (mRs S)) = 33 then ctL G (skb (mRs S)) else if hd (skb (mRs S)) = 37 then heL G (skb (mRs S)) else arL (jI S 82 3) (jI S 82 28) G (skb (mRs S))) = cmL G (skb (mRs S)) from ie c1 (it c2 rfl)]
      obtain ⟨T', e2, lo2, r2⟩ := e7_comment u1 (by rw [m1]; exact c1) hg1 (by omega) (by omega)
      rw [m1] at r2
      obtain ⟨S', e, q1, q2⟩ := fin lo2 (rs_rL (rs_mono r2 fun q _ hq => ⟨hq.1, hq.2.1⟩))
      rw [leS_idem (fun q hq => by rw [hq] at r2; exact r2.2.2.2)] at q2
      refine ⟨S', ie (nn c2) ?_, q1, q2⟩
      rw [e2, Option.bind_some]
      exact e
    · by_cases c3 : hd (skb (mRs S)) = 33
      · rw [show (if hd (skb (mRs S)) = -1 then some (G, skb (mRs S)) else if hd (skb (mRs S)) = 35 then cmL G (skb (mRs S)) else if hd (skb (mRs S)) = 33 then ctL G (skb (mRs S)) else if hd (skb (mRs S)) = 37 then heL G (skb (mRs S)) else arL (jI S 82 3) (jI S 82 28) G (skb (mRs S))) = ctL G (skb (mRs S)) from ie c1 (ie c2 (it c3 rfl))]
        obtain ⟨T', e2, lo2, r2⟩ := e7_count u1 (by rw [m1]; exact c1) hg1 (by omega)
        rw [m1] at r2
        obtain ⟨S', e, q1, q2⟩ := fin lo2 (rs_rL r2)
        rw [← ctP_L] at q2
        refine ⟨S', it c2 (ie (nn c3) ?_), q1, q2⟩
        rw [e2, Option.bind_some]
        exact e
      · by_cases c4 : hd (skb (mRs S)) = 37
        · rw [show (if hd (skb (mRs S)) = -1 then some (G, skb (mRs S)) else if hd (skb (mRs S)) = 35 then cmL G (skb (mRs S)) else if hd (skb (mRs S)) = 33 then ctL G (skb (mRs S)) else if hd (skb (mRs S)) = 37 then heL G (skb (mRs S)) else arL (jI S 82 3) (jI S 82 28) G (skb (mRs S))) = heL G (skb (mRs S)) from ie c1 (ie c2 (ie c3 (it c4 rfl)))]
          obtain ⟨T', e2, lo2, r2⟩ := e7_head u1 (by rw [m1]; exact c1) hg1 (by omega) d5
          rw [m1] at r2
          obtain ⟨S', e, q1, q2⟩ := fin lo2 r2
          rw [← heP_L] at q2
          refine ⟨S', it c2 (it c3 (ie (nn c4) ?_)), q1, q2⟩
          rw [e2, Option.bind_some]
          exact e
        · rw [show (if hd (skb (mRs S)) = -1 then some (G, skb (mRs S)) else if hd (skb (mRs S)) = 35 then cmL G (skb (mRs S)) else if hd (skb (mRs S)) = 33 then ctL G (skb (mRs S)) else if hd (skb (mRs S)) = 37 then heL G (skb (mRs S)) else arL (jI S 82 3) (jI S 82 28) G (skb (mRs S))) = arL (jI S 82 3) (jI S 82 28) G (skb (mRs S)) from ie c1 (ie c2 (ie c3 (ie c4 rfl)))]
          obtain ⟨T', e2, lo2, r2⟩ := e7_arc u1 hb1 hg1 (by omega) ⟨d3, by omega⟩
          rw [m1, i3, i28] at r2
          obtain ⟨S', e, q1, q2⟩ := fin lo2 (rs_rL r2)
          rw [leS_idem (fun q hq => arL_end hq)] at q2
          refine ⟨S', it c2 (it c3 (it c4 (ie c1 ?_))), q1, q2⟩
          rw [e2, Option.bind_some]
          exact e
end MLI
